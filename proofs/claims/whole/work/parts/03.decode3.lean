theorem dX7_move_59 : decode cX7_move 59 = .ok (.iconst 2, 1) := by decide +kernel
theorem dX7_move_60 : decode cX7_move 60 = .ok (.if_icmp .ne 49, 3) := by decide +kernel
theorem dX7_move_63 : decode cX7_move 63 = .ok (.aload_n 0, 1) := by decide +kernel
theorem dX7_move_64 : decode cX7_move 64 = .ok (.iload_n 2, 1) := by decide +kernel
theorem dX7_move_65 : decode cX7_move 65 = .ok (.invokevirtual 95, 3) := by decide +kernel
theorem dX7_move_68 : decode cX7_move 68 = .ok (.ifCond .eq 35, 3) := by decide +kernel
theorem dX7_move_71 : decode cX7_move 71 = .ok (.aload_n 0, 1) := by decide +kernel
theorem dX7_move_72 : decode cX7_move 72 = .ok (.iload_n 3, 1) := by decide +kernel
theorem dX7_move_73 : decode cX7_move 73 = .ok (.invokevirtual 95, 3) := by decide +kernel
theorem dX7_move_76 : decode cX7_move 76 = .ok (.ifCond .eq 27, 3) := by decide +kernel
theorem dX7_move_79 : decode cX7_move 79 = .ok (.iload_n 2, 1) := by decide +kernel
theorem dX7_move_80 : decode cX7_move 80 = .ok (.iload_n 3, 1) := by decide +kernel
theorem dX7_move_81 : decode cX7_move 81 = .ok (.if_icmp .eq 22, 3) := by decide +kernel
theorem dX7_move_84 : decode cX7_move 84 = .ok (.aload_n 0, 1) := by decide +kernel
theorem dX7_move_85 : decode cX7_move 85 = .ok (.getfield 7, 3) := by decide +kernel
theorem dX7_move_88 : decode cX7_move 88 = .ok (.iload_n 2, 1) := by decide +kernel
theorem dX7_move_89 : decode cX7_move 89 = .ok (.iaload, 1) := by decide +kernel
theorem dX7_move_90 : decode cX7_move 90 = .ok (.aload_n 0, 1) := by decide +kernel
theorem dX7_move_91 : decode cX7_move 91 = .ok (.getfield 7, 3) := by decide +kernel
theorem dX7_move_94 : decode cX7_move 94 = .ok (.iload_n 3, 1) := by decide +kernel
theorem dX7_move_95 : decode cX7_move 95 = .ok (.iaload, 1) := by decide +kernel
theorem dX7_move_96 : decode cX7_move 96 = .ok (.if_icmp .ne 7, 3) := by decide +kernel
theorem dX7_move_99 : decode cX7_move 99 = .ok (.iconst 1, 1) := by decide +kernel
theorem dX7_move_100 : decode cX7_move 100 = .ok (.goto 4, 3) := by decide +kernel
theorem dX7_move_103 : decode cX7_move 103 = .ok (.iconst 0, 1) := by decide +kernel
theorem dX7_move_104 : decode cX7_move 104 = .ok (.istore 4, 2) := by decide +kernel
theorem dX7_move_106 : decode cX7_move 106 = .ok (.goto 31, 3) := by decide +kernel
theorem dX7_move_109 : decode cX7_move 109 = .ok (.iload_n 1, 1) := by decide +kernel
theorem dX7_move_110 : decode cX7_move 110 = .ok (.iconst 5, 1) := by decide +kernel
theorem dX7_move_111 : decode cX7_move 111 = .ok (.if_icmp .lt 26, 3) := by decide +kernel
theorem dX7_move_114 : decode cX7_move 114 = .ok (.aload_n 0, 1) := by decide +kernel
theorem dX7_move_115 : decode cX7_move 115 = .ok (.iload_n 2, 1) := by decide +kernel
theorem dX7_move_116 : decode cX7_move 116 = .ok (.invokevirtual 98, 3) := by decide +kernel
theorem dX7_move_119 : decode cX7_move 119 = .ok (.ifCond .eq 15, 3) := by decide +kernel
theorem dX7_move_122 : decode cX7_move 122 = .ok (.aload_n 0, 1) := by decide +kernel
theorem dX7_move_123 : decode cX7_move 123 = .ok (.iload_n 3, 1) := by decide +kernel
theorem dX7_move_124 : decode cX7_move 124 = .ok (.invokevirtual 98, 3) := by decide +kernel
theorem dX7_move_127 : decode cX7_move 127 = .ok (.ifCond .eq 7, 3) := by decide +kernel
theorem dX7_move_130 : decode cX7_move 130 = .ok (.iconst 1, 1) := by decide +kernel
theorem dX7_move_131 : decode cX7_move 131 = .ok (.goto 4, 3) := by decide +kernel
theorem dX7_move_134 : decode cX7_move 134 = .ok (.iconst 0, 1) := by decide +kernel
theorem dX7_move_135 : decode cX7_move 135 = .ok (.istore 4, 2) := by decide +kernel
theorem dX7_move_137 : decode cX7_move 137 = .ok (.iload 4, 2) := by decide +kernel
theorem dX7_move_139 : decode cX7_move 139 = .ok (.ifCond .ne 5, 3) := by decide +kernel
theorem dX7_move_142 : decode cX7_move 142 = .ok (.iconst (-1), 1) := by decide +kernel
theorem dX7_move_143 : decode cX7_move 143 = .ok (.ireturn, 1) := by decide +kernel
theorem dX7_move_144 : decode cX7_move 144 = .ok (.iload_n 1, 1) := by decide +kernel
theorem dX7_move_145 : decode cX7_move 145 = .ok (.iconst 5, 1) := by decide +kernel
theorem dX7_move_146 : decode cX7_move 146 = .ok (.if_icmp .ge 7, 3) := by decide +kernel
theorem dX7_move_149 : decode cX7_move 149 = .ok (.iconst 0, 1) := by decide +kernel
theorem dX7_move_150 : decode cX7_move 150 = .ok (.goto 35, 3) := by decide +kernel
theorem dX7_move_153 : decode cX7_move 153 = .ok (.iconst 1, 1) := by decide +kernel
theorem dX7_move_154 : decode cX7_move 154 = .ok (.aload_n 0, 1) := by decide +kernel
theorem dX7_move_155 : decode cX7_move 155 = .ok (.getfield 25, 3) := by decide +kernel
theorem dX7_move_158 : decode cX7_move 158 = .ok (.iload_n 2, 1) := by decide +kernel
theorem dX7_move_159 : decode cX7_move 159 = .ok (.iaload, 1) := by decide +kernel
theorem dX7_move_160 : decode cX7_move 160 = .ok (.aload_n 0, 1) := by decide +kernel
theorem dX7_move_161 : decode cX7_move 161 = .ok (.getfield 25, 3) := by decide +kernel
theorem dX7_move_164 : decode cX7_move 164 = .ok (.iload_n 3, 1) := by decide +kernel
theorem dX7_move_165 : decode cX7_move 165 = .ok (.iaload, 1) := by decide +kernel
theorem dX7_move_166 : decode cX7_move 166 = .ok (.if_icmp .le 12, 3) := by decide +kernel
theorem dX7_move_169 : decode cX7_move 169 = .ok (.aload_n 0, 1) := by decide +kernel
theorem dX7_move_170 : decode cX7_move 170 = .ok (.getfield 25, 3) := by decide +kernel
theorem dX7_move_173 : decode cX7_move 173 = .ok (.iload_n 2, 1) := by decide +kernel
theorem dX7_move_174 : decode cX7_move 174 = .ok (.iaload, 1) := by decide +kernel
theorem dX7_move_175 : decode cX7_move 175 = .ok (.goto 9, 3) := by decide +kernel
theorem dX7_move_178 : decode cX7_move 178 = .ok (.aload_n 0, 1) := by decide +kernel
theorem dX7_move_179 : decode cX7_move 179 = .ok (.getfield 25, 3) := by decide +kernel
theorem dX7_move_182 : decode cX7_move 182 = .ok (.iload_n 3, 1) := by decide +kernel
theorem dX7_move_183 : decode cX7_move 183 = .ok (.iaload, 1) := by decide +kernel
theorem dX7_move_184 : decode cX7_move 184 = .ok (.iadd, 1) := by decide +kernel
theorem dX7_move_185 : decode cX7_move 185 = .ok (.istore 5, 2) := by decide +kernel
theorem dX7_move_187 : decode cX7_move 187 = .ok (.iload 5, 2) := by decide +kernel
theorem dX7_move_189 : decode cX7_move 189 = .ok (.iconst 2, 1) := by decide +kernel
theorem dX7_move_190 : decode cX7_move 190 = .ok (.if_icmp .le 6, 3) := by decide +kernel
theorem dX7_move_193 : decode cX7_move 193 = .ok (.bipush (-5), 2) := by decide +kernel
theorem dX7_move_195 : decode cX7_move 195 = .ok (.ireturn, 1) := by decide +kernel
theorem dX7_move_196 : decode cX7_move 196 = .ok (.aload_n 0, 1) := by decide +kernel
theorem dX7_move_197 : decode cX7_move 197 = .ok (.getfield 74, 3) := by decide +kernel
theorem dX7_move_200 : decode cX7_move 200 = .ok (.bipush 10, 2) := by decide +kernel
theorem dX7_move_202 : decode cX7_move 202 = .ok (.if_icmp .ne 6, 3) := by decide +kernel
theorem dX7_move_205 : decode cX7_move 205 = .ok (.bipush (-3), 2) := by decide +kernel
theorem dX7_move_207 : decode cX7_move 207 = .ok (.ireturn, 1) := by decide +kernel
theorem dX7_move_208 : decode cX7_move 208 = .ok (.aload_n 0, 1) := by decide +kernel
theorem dX7_move_209 : decode cX7_move 209 = .ok (.getfield 74, 3) := by decide +kernel
theorem dX7_move_212 : decode cX7_move 212 = .ok (.istore 6, 2) := by decide +kernel
theorem dX7_move_214 : decode cX7_move 214 = .ok (.aload_n 0, 1) := by decide +kernel
theorem dX7_move_215 : decode cX7_move 215 = .ok (.dup, 1) := by decide +kernel
theorem dX7_move_216 : decode cX7_move 216 = .ok (.getfield 74, 3) := by decide +kernel
theorem dX7_move_219 : decode cX7_move 219 = .ok (.iconst 1, 1) := by decide +kernel
theorem dX7_move_220 : decode cX7_move 220 = .ok (.iadd, 1) := by decide +kernel
theorem dX7_move_221 : decode cX7_move 221 = .ok (.putfield 74, 3) := by decide +kernel
theorem dX7_move_224 : decode cX7_move 224 = .ok (.aload_n 0, 1) := by decide +kernel
theorem dX7_move_225 : decode cX7_move 225 = .ok (.getfield 16, 3) := by decide +kernel
theorem dX7_move_228 : decode cX7_move 228 = .ok (.iload 6, 2) := by decide +kernel
theorem dX7_move_230 : decode cX7_move 230 = .ok (.iload_n 1, 1) := by decide +kernel
theorem dX7_move_231 : decode cX7_move 231 = .ok (.iastore, 1) := by decide +kernel
theorem dX7_move_232 : decode cX7_move 232 = .ok (.aload_n 0, 1) := by decide +kernel
theorem dX7_move_233 : decode cX7_move 233 = .ok (.getfield 19, 3) := by decide +kernel
theorem dX7_move_236 : decode cX7_move 236 = .ok (.iload 6, 2) := by decide +kernel
theorem dX7_move_238 : decode cX7_move 238 = .ok (.iload_n 2, 1) := by decide +kernel
theorem dX7_move_239 : decode cX7_move 239 = .ok (.iastore, 1) := by decide +kernel
theorem dX7_move_240 : decode cX7_move 240 = .ok (.aload_n 0, 1) := by decide +kernel
theorem dX7_move_241 : decode cX7_move 241 = .ok (.getfield 22, 3) := by decide +kernel
theorem dX7_move_244 : decode cX7_move 244 = .ok (.iload 6, 2) := by decide +kernel
theorem dX7_move_246 : decode cX7_move 246 = .ok (.iload_n 3, 1) := by decide +kernel
theorem dX7_move_247 : decode cX7_move 247 = .ok (.iastore, 1) := by decide +kernel
theorem dX7_move_248 : decode cX7_move 248 = .ok (.aload_n 0, 1) := by decide +kernel
theorem dX7_move_249 : decode cX7_move 249 = .ok (.getfield 25, 3) := by decide +kernel
theorem dX7_move_252 : decode cX7_move 252 = .ok (.iload 6, 2) := by decide +kernel
theorem dX7_move_254 : decode cX7_move 254 = .ok (.iload 5, 2) := by decide +kernel
theorem dX7_move_256 : decode cX7_move 256 = .ok (.iastore, 1) := by decide +kernel
theorem dX7_move_257 : decode cX7_move 257 = .ok (.aload_n 0, 1) := by decide +kernel
theorem dX7_move_258 : decode cX7_move 258 = .ok (.getfield 28, 3) := by decide +kernel
theorem dX7_move_261 : decode cX7_move 261 = .ok (.iload 6, 2) := by decide +kernel
theorem dX7_move_263 : decode cX7_move 263 = .ok (.iconst 1, 1) := by decide +kernel
theorem dX7_move_264 : decode cX7_move 264 = .ok (.iastore, 1) := by decide +kernel
theorem dX7_move_265 : decode cX7_move 265 = .ok (.aload_n 0, 1) := by decide +kernel
theorem dX7_move_266 : decode cX7_move 266 = .ok (.getfield 31, 3) := by decide +kernel
theorem dX7_move_269 : decode cX7_move 269 = .ok (.iload 6, 2) := by decide +kernel
theorem dX7_move_271 : decode cX7_move 271 = .ok (.iconst 1, 1) := by decide +kernel
theorem dX7_move_272 : decode cX7_move 272 = .ok (.iastore, 1) := by decide +kernel
theorem dX7_move_273 : decode cX7_move 273 = .ok (.iconst 0, 1) := by decide +kernel
theorem dX7_move_274 : decode cX7_move 274 = .ok (.istore 7, 2) := by decide +kernel
theorem dX7_move_276 : decode cX7_move 276 = .ok (.iload 7, 2) := by decide +kernel
theorem dX7_move_278 : decode cX7_move 278 = .ok (.sipush 256, 3) := by decide +kernel
theorem dX7_move_281 : decode cX7_move 281 = .ok (.if_icmp .ge 24, 3) := by decide +kernel
theorem dX7_move_284 : decode cX7_move 284 = .ok (.aload_n 0, 1) := by decide +kernel
theorem dX7_move_285 : decode cX7_move 285 = .ok (.getfield 34, 3) := by decide +kernel
theorem dX7_move_288 : decode cX7_move 288 = .ok (.sipush 256, 3) := by decide +kernel
theorem dX7_move_291 : decode cX7_move 291 = .ok (.iload 6, 2) := by decide +kernel
theorem dX7_move_293 : decode cX7_move 293 = .ok (.imul, 1) := by decide +kernel
theorem dX7_move_294 : decode cX7_move 294 = .ok (.iload 7, 2) := by decide +kernel
theorem dX7_move_296 : decode cX7_move 296 = .ok (.iadd, 1) := by decide +kernel
theorem dX7_move_297 : decode cX7_move 297 = .ok (.iconst 0, 1) := by decide +kernel
theorem dX7_move_298 : decode cX7_move 298 = .ok (.iastore, 1) := by decide +kernel
theorem dX7_move_299 : decode cX7_move 299 = .ok (.iinc 7 1, 3) := by decide +kernel
theorem dX7_move_302 : decode cX7_move 302 = .ok (.goto (-26), 3) := by decide +kernel
theorem dX7_move_305 : decode cX7_move 305 = .ok (.aload_n 0, 1) := by decide +kernel
theorem dX7_move_306 : decode cX7_move 306 = .ok (.getfield 44, 3) := by decide +kernel
theorem dX7_move_309 : decode cX7_move 309 = .ok (.iload 6, 2) := by decide +kernel
theorem dX7_move_311 : decode cX7_move 311 = .ok (.iconst 0, 1) := by decide +kernel
theorem dX7_move_312 : decode cX7_move 312 = .ok (.bastore, 1) := by decide +kernel
theorem dX7_move_313 : decode cX7_move 313 = .ok (.iload 6, 2) := by decide +kernel
theorem dX7_move_315 : decode cX7_move 315 = .ok (.ireturn, 1) := by decide +kernel
theorem dX7_odds_0 : decode cX7_odds 0 = .ok (.aload_n 0, 1) := by decide +kernel
theorem dX7_odds_1 : decode cX7_odds 1 = .ok (.getfield 64, 3) := by decide +kernel
theorem dX7_odds_4 : decode cX7_odds 4 = .ok (.ifCond .ne 6, 3) := by decide +kernel
theorem dX7_odds_7 : decode cX7_odds 7 = .ok (.bipush (-2), 2) := by decide +kernel
theorem dX7_odds_9 : decode cX7_odds 9 = .ok (.ireturn, 1) := by decide +kernel
theorem dX7_odds_10 : decode cX7_odds 10 = .ok (.aload_n 0, 1) := by decide +kernel
theorem dX7_odds_11 : decode cX7_odds 11 = .ok (.iload_n 1, 1) := by decide +kernel
theorem dX7_odds_12 : decode cX7_odds 12 = .ok (.invokevirtual 98, 3) := by decide +kernel
theorem dX7_odds_15 : decode cX7_odds 15 = .ok (.ifCond .eq 33, 3) := by decide +kernel
theorem dX7_odds_18 : decode cX7_odds 18 = .ok (.aload_n 0, 1) := by decide +kernel
theorem dX7_odds_19 : decode cX7_odds 19 = .ok (.getfield 16, 3) := by decide +kernel
theorem dX7_odds_22 : decode cX7_odds 22 = .ok (.iload_n 1, 1) := by decide +kernel
theorem dX7_odds_23 : decode cX7_odds 23 = .ok (.iaload, 1) := by decide +kernel
theorem dX7_odds_24 : decode cX7_odds 24 = .ok (.iconst 5, 1) := by decide +kernel
theorem dX7_odds_25 : decode cX7_odds 25 = .ok (.if_icmp .ne 23, 3) := by decide +kernel
theorem dX7_odds_28 : decode cX7_odds 28 = .ok (.iload_n 2, 1) := by decide +kernel
theorem dX7_odds_29 : decode cX7_odds 29 = .ok (.iconst 1, 1) := by decide +kernel
theorem dX7_odds_30 : decode cX7_odds 30 = .ok (.bipush 100, 2) := by decide +kernel
theorem dX7_odds_32 : decode cX7_odds 32 = .ok (.invokestatic 67, 3) := by decide +kernel
theorem dX7_odds_35 : decode cX7_odds 35 = .ok (.ifCond .eq 13, 3) := by decide +kernel
theorem dX7_odds_38 : decode cX7_odds 38 = .ok (.iload_n 3, 1) := by decide +kernel
theorem dX7_odds_39 : decode cX7_odds 39 = .ok (.iconst 1, 1) := by decide +kernel
theorem dX7_odds_40 : decode cX7_odds 40 = .ok (.bipush 100, 2) := by decide +kernel
theorem dX7_odds_42 : decode cX7_odds 42 = .ok (.invokestatic 67, 3) := by decide +kernel
theorem dX7_odds_45 : decode cX7_odds 45 = .ok (.ifCond .ne 5, 3) := by decide +kernel
theorem dX7_odds_48 : decode cX7_odds 48 = .ok (.iconst (-1), 1) := by decide +kernel
theorem dX7_odds_49 : decode cX7_odds 49 = .ok (.ireturn, 1) := by decide +kernel
theorem dX7_odds_50 : decode cX7_odds 50 = .ok (.aload_n 0, 1) := by decide +kernel
theorem dX7_odds_51 : decode cX7_odds 51 = .ok (.getfield 28, 3) := by decide +kernel
theorem dX7_odds_54 : decode cX7_odds 54 = .ok (.iload_n 1, 1) := by decide +kernel
theorem dX7_odds_55 : decode cX7_odds 55 = .ok (.iload_n 2, 1) := by decide +kernel
theorem dX7_odds_56 : decode cX7_odds 56 = .ok (.iastore, 1) := by decide +kernel
theorem dX7_odds_57 : decode cX7_odds 57 = .ok (.aload_n 0, 1) := by decide +kernel
theorem dX7_odds_58 : decode cX7_odds 58 = .ok (.getfield 31, 3) := by decide +kernel
theorem dX7_odds_61 : decode cX7_odds 61 = .ok (.iload_n 1, 1) := by decide +kernel
theorem dX7_odds_62 : decode cX7_odds 62 = .ok (.iload_n 3, 1) := by decide +kernel
theorem dX7_odds_63 : decode cX7_odds 63 = .ok (.iastore, 1) := by decide +kernel
theorem dX7_odds_64 : decode cX7_odds 64 = .ok (.aload_n 0, 1) := by decide +kernel
theorem dX7_odds_65 : decode cX7_odds 65 = .ok (.invokevirtual 80, 3) := by decide +kernel
theorem dX7_odds_68 : decode cX7_odds 68 = .ok (.iconst 1, 1) := by decide +kernel
theorem dX7_odds_69 : decode cX7_odds 69 = .ok (.ireturn, 1) := by decide +kernel
theorem dX7_chance_0 : decode cX7_chance 0 = .ok (.aload_n 0, 1) := by decide +kernel
theorem dX7_chance_1 : decode cX7_chance 1 = .ok (.getfield 64, 3) := by decide +kernel
theorem dX7_chance_4 : decode cX7_chance 4 = .ok (.ifCond .ne 6, 3) := by decide +kernel
theorem dX7_chance_7 : decode cX7_chance 7 = .ok (.bipush (-2), 2) := by decide +kernel
theorem dX7_chance_9 : decode cX7_chance 9 = .ok (.ireturn, 1) := by decide +kernel
theorem dX7_chance_10 : decode cX7_chance 10 = .ok (.aload_n 0, 1) := by decide +kernel
theorem dX7_chance_11 : decode cX7_chance 11 = .ok (.iload_n 1, 1) := by decide +kernel
theorem dX7_chance_12 : decode cX7_chance 12 = .ok (.invokevirtual 98, 3) := by decide +kernel
theorem dX7_chance_15 : decode cX7_chance 15 = .ok (.ifCond .eq 40, 3) := by decide +kernel
theorem dX7_chance_18 : decode cX7_chance 18 = .ok (.aload_n 0, 1) := by decide +kernel
theorem dX7_chance_19 : decode cX7_chance 19 = .ok (.getfield 16, 3) := by decide +kernel
theorem dX7_chance_22 : decode cX7_chance 22 = .ok (.iload_n 1, 1) := by decide +kernel
theorem dX7_chance_23 : decode cX7_chance 23 = .ok (.iaload, 1) := by decide +kernel
theorem dX7_chance_24 : decode cX7_chance 24 = .ok (.iconst 3, 1) := by decide +kernel
theorem dX7_chance_25 : decode cX7_chance 25 = .ok (.if_icmp .ne 30, 3) := by decide +kernel
theorem dX7_chance_28 : decode cX7_chance 28 = .ok (.aload_n 0, 1) := by decide +kernel
theorem dX7_chance_29 : decode cX7_chance 29 = .ok (.iload_n 2, 1) := by decide +kernel
theorem dX7_chance_30 : decode cX7_chance 30 = .ok (.invokevirtual 83, 3) := by decide +kernel
theorem dX7_chance_33 : decode cX7_chance 33 = .ok (.ifCond .eq 22, 3) := by decide +kernel
theorem dX7_chance_36 : decode cX7_chance 36 = .ok (.aload_n 0, 1) := by decide +kernel
theorem dX7_chance_37 : decode cX7_chance 37 = .ok (.iload_n 3, 1) := by decide +kernel
theorem dX7_chance_38 : decode cX7_chance 38 = .ok (.invokevirtual 83, 3) := by decide +kernel
theorem dX7_chance_41 : decode cX7_chance 41 = .ok (.ifCond .eq 14, 3) := by decide +kernel
theorem dX7_chance_44 : decode cX7_chance 44 = .ok (.iload 4, 2) := by decide +kernel
theorem dX7_chance_46 : decode cX7_chance 46 = .ok (.iconst 0, 1) := by decide +kernel
theorem dX7_chance_47 : decode cX7_chance 47 = .ok (.bipush 100, 2) := by decide +kernel
theorem dX7_chance_49 : decode cX7_chance 49 = .ok (.invokestatic 67, 3) := by decide +kernel
theorem dX7_chance_52 : decode cX7_chance 52 = .ok (.ifCond .ne 5, 3) := by decide +kernel
theorem dX7_chance_55 : decode cX7_chance 55 = .ok (.iconst (-1), 1) := by decide +kernel
theorem dX7_chance_56 : decode cX7_chance 56 = .ok (.ireturn, 1) := by decide +kernel
theorem dX7_chance_57 : decode cX7_chance 57 = .ok (.sipush 256, 3) := by decide +kernel
theorem dX7_chance_60 : decode cX7_chance 60 = .ok (.iload_n 1, 1) := by decide +kernel
theorem dX7_chance_61 : decode cX7_chance 61 = .ok (.imul, 1) := by decide +kernel
theorem dX7_chance_62 : decode cX7_chance 62 = .ok (.bipush 16, 2) := by decide +kernel
theorem dX7_chance_64 : decode cX7_chance 64 = .ok (.iload_n 2, 1) := by decide +kernel
theorem dX7_chance_65 : decode cX7_chance 65 = .ok (.imul, 1) := by decide +kernel
theorem dX7_chance_66 : decode cX7_chance 66 = .ok (.iadd, 1) := by decide +kernel
theorem dX7_chance_67 : decode cX7_chance 67 = .ok (.iload_n 3, 1) := by decide +kernel
theorem dX7_chance_68 : decode cX7_chance 68 = .ok (.iadd, 1) := by decide +kernel
theorem dX7_chance_69 : decode cX7_chance 69 = .ok (.istore 5, 2) := by decide +kernel
theorem dX7_chance_71 : decode cX7_chance 71 = .ok (.aload_n 0, 1) := by decide +kernel
theorem dX7_chance_72 : decode cX7_chance 72 = .ok (.getfield 34, 3) := by decide +kernel
theorem dX7_chance_75 : decode cX7_chance 75 = .ok (.iload 5, 2) := by decide +kernel
theorem dX7_chance_77 : decode cX7_chance 77 = .ok (.iaload, 1) := by decide +kernel
theorem dX7_chance_78 : decode cX7_chance 78 = .ok (.istore 6, 2) := by decide +kernel
theorem dX7_chance_80 : decode cX7_chance 80 = .ok (.aload_n 0, 1) := by decide +kernel
theorem dX7_chance_81 : decode cX7_chance 81 = .ok (.getfield 34, 3) := by decide +kernel
theorem dX7_chance_84 : decode cX7_chance 84 = .ok (.iload 5, 2) := by decide +kernel
theorem dX7_chance_86 : decode cX7_chance 86 = .ok (.iload 4, 2) := by decide +kernel
theorem dX7_chance_88 : decode cX7_chance 88 = .ok (.iastore, 1) := by decide +kernel
theorem dX7_chance_89 : decode cX7_chance 89 = .ok (.aload_n 0, 1) := by decide +kernel
theorem dX7_chance_90 : decode cX7_chance 90 = .ok (.invokevirtual 80, 3) := by decide +kernel
theorem dX7_chance_93 : decode cX7_chance 93 = .ok (.iload 6, 2) := by decide +kernel
theorem dX7_chance_95 : decode cX7_chance 95 = .ok (.ireturn, 1) := by decide +kernel
theorem dX7_divisorOf_0 : decode cX7_divisorOf 0 = .ok (.lload_n 0, 1) := by decide +kernel
theorem dX7_divisorOf_1 : decode cX7_divisorOf 1 = .ok (.lstore 4, 2) := by decide +kernel
theorem dX7_divisorOf_3 : decode cX7_divisorOf 3 = .ok (.lload_n 2, 1) := by decide +kernel
theorem dX7_divisorOf_4 : decode cX7_divisorOf 4 = .ok (.lstore 6, 2) := by decide +kernel
theorem dX7_divisorOf_6 : decode cX7_divisorOf 6 = .ok (.lload 6, 2) := by decide +kernel
theorem dX7_divisorOf_8 : decode cX7_divisorOf 8 = .ok (.lconst 0, 1) := by decide +kernel
theorem dX7_divisorOf_9 : decode cX7_divisorOf 9 = .ok (.lcmp, 1) := by decide +kernel
theorem dX7_divisorOf_10 : decode cX7_divisorOf 10 = .ok (.ifCond .eq 21, 3) := by decide +kernel
theorem dX7_divisorOf_13 : decode cX7_divisorOf 13 = .ok (.lload 4, 2) := by decide +kernel
theorem dX7_divisorOf_15 : decode cX7_divisorOf 15 = .ok (.lload 6, 2) := by decide +kernel
theorem dX7_divisorOf_17 : decode cX7_divisorOf 17 = .ok (.lrem, 1) := by decide +kernel
theorem dX7_divisorOf_18 : decode cX7_divisorOf 18 = .ok (.lstore 8, 2) := by decide +kernel
theorem dX7_divisorOf_20 : decode cX7_divisorOf 20 = .ok (.lload 6, 2) := by decide +kernel
theorem dX7_divisorOf_22 : decode cX7_divisorOf 22 = .ok (.lstore 4, 2) := by decide +kernel
theorem dX7_divisorOf_24 : decode cX7_divisorOf 24 = .ok (.lload 8, 2) := by decide +kernel
theorem dX7_divisorOf_26 : decode cX7_divisorOf 26 = .ok (.lstore 6, 2) := by decide +kernel
theorem dX7_divisorOf_28 : decode cX7_divisorOf 28 = .ok (.goto (-22), 3) := by decide +kernel
theorem dX7_divisorOf_31 : decode cX7_divisorOf 31 = .ok (.lload 4, 2) := by decide +kernel
theorem dX7_divisorOf_33 : decode cX7_divisorOf 33 = .ok (.lreturn, 1) := by decide +kernel
theorem dX7_isProduct_0 : decode cX7_isProduct 0 = .ok (.lload_n 2, 1) := by decide +kernel
theorem dX7_isProduct_1 : decode cX7_isProduct 1 = .ok (.lconst 0, 1) := by decide +kernel
theorem dX7_isProduct_2 : decode cX7_isProduct 2 = .ok (.lcmp, 1) := by decide +kernel
theorem dX7_isProduct_3 : decode cX7_isProduct 3 = .ok (.ifCond .eq 13, 3) := by decide +kernel
theorem dX7_isProduct_6 : decode cX7_isProduct 6 = .ok (.lload_n 0, 1) := by decide +kernel
theorem dX7_isProduct_7 : decode cX7_isProduct 7 = .ok (.ldc2_w 101, 3) := by decide +kernel
theorem dX7_isProduct_10 : decode cX7_isProduct 10 = .ok (.lload_n 2, 1) := by decide +kernel
theorem dX7_isProduct_11 : decode cX7_isProduct 11 = .ok (.ldiv, 1) := by decide +kernel
theorem dX7_isProduct_12 : decode cX7_isProduct 12 = .ok (.lcmp, 1) := by decide +kernel
theorem dX7_isProduct_13 : decode cX7_isProduct 13 = .ok (.ifCond .gt 7, 3) := by decide +kernel
theorem dX7_isProduct_16 : decode cX7_isProduct 16 = .ok (.iconst 1, 1) := by decide +kernel
theorem dX7_isProduct_17 : decode cX7_isProduct 17 = .ok (.goto 4, 3) := by decide +kernel
theorem dX7_isProduct_20 : decode cX7_isProduct 20 = .ok (.iconst 0, 1) := by decide +kernel
theorem dX7_isProduct_21 : decode cX7_isProduct 21 = .ok (.ireturn, 1) := by decide +kernel
theorem dX7_lay_0 : decode cX7_lay 0 = .ok (.lload_n 1, 1) := by decide +kernel
theorem dX7_lay_1 : decode cX7_lay 1 = .ok (.lload_n 3, 1) := by decide +kernel
theorem dX7_lay_2 : decode cX7_lay 2 = .ok (.invokestatic 103, 3) := by decide +kernel
theorem dX7_lay_5 : decode cX7_lay 5 = .ok (.lstore 5, 2) := by decide +kernel
theorem dX7_lay_7 : decode cX7_lay 7 = .ok (.aload_n 0, 1) := by decide +kernel
theorem dX7_lay_8 : decode cX7_lay 8 = .ok (.lload_n 1, 1) := by decide +kernel
theorem dX7_lay_9 : decode cX7_lay 9 = .ok (.lload 5, 2) := by decide +kernel
theorem dX7_lay_11 : decode cX7_lay 11 = .ok (.ldiv, 1) := by decide +kernel
theorem dX7_lay_12 : decode cX7_lay 12 = .ok (.putfield 107, 3) := by decide +kernel
theorem dX7_lay_15 : decode cX7_lay 15 = .ok (.aload_n 0, 1) := by decide +kernel
theorem dX7_lay_16 : decode cX7_lay 16 = .ok (.lload_n 3, 1) := by decide +kernel
theorem dX7_lay_17 : decode cX7_lay 17 = .ok (.lload 5, 2) := by decide +kernel
theorem dX7_lay_19 : decode cX7_lay 19 = .ok (.ldiv, 1) := by decide +kernel
theorem dX7_lay_20 : decode cX7_lay 20 = .ok (.putfield 111, 3) := by decide +kernel
theorem dX7_lay_23 : decode cX7_lay 23 = .ok (.return_, 1) := by decide +kernel
theorem dX7_times_0 : decode cX7_times 0 = .ok (.aload_n 0, 1) := by decide +kernel
theorem dX7_times_1 : decode cX7_times 1 = .ok (.getfield 111, 3) := by decide +kernel
theorem dX7_times_4 : decode cX7_times 4 = .ok (.lconst 0, 1) := by decide +kernel
theorem dX7_times_5 : decode cX7_times 5 = .ok (.lcmp, 1) := by decide +kernel
theorem dX7_times_6 : decode cX7_times 6 = .ok (.ifCond .eq 31, 3) := by decide +kernel
theorem dX7_times_9 : decode cX7_times 9 = .ok (.lload_n 3, 1) := by decide +kernel
theorem dX7_times_10 : decode cX7_times 10 = .ok (.lconst 0, 1) := by decide +kernel
theorem dX7_times_11 : decode cX7_times 11 = .ok (.lcmp, 1) := by decide +kernel
theorem dX7_times_12 : decode cX7_times 12 = .ok (.ifCond .eq 25, 3) := by decide +kernel
theorem dX7_times_15 : decode cX7_times 15 = .ok (.aload_n 0, 1) := by decide +kernel
theorem dX7_times_16 : decode cX7_times 16 = .ok (.getfield 107, 3) := by decide +kernel
theorem dX7_times_19 : decode cX7_times 19 = .ok (.lload_n 1, 1) := by decide +kernel
theorem dX7_times_20 : decode cX7_times 20 = .ok (.invokestatic 114, 3) := by decide +kernel
theorem dX7_times_23 : decode cX7_times 23 = .ok (.ifCond .eq 14, 3) := by decide +kernel
theorem dX7_times_26 : decode cX7_times 26 = .ok (.aload_n 0, 1) := by decide +kernel
theorem dX7_times_27 : decode cX7_times 27 = .ok (.getfield 111, 3) := by decide +kernel
theorem dX7_times_30 : decode cX7_times 30 = .ok (.lload_n 3, 1) := by decide +kernel
theorem dX7_times_31 : decode cX7_times 31 = .ok (.invokestatic 114, 3) := by decide +kernel
theorem dX7_times_34 : decode cX7_times 34 = .ok (.ifCond .ne 9, 3) := by decide +kernel
theorem dX7_times_37 : decode cX7_times 37 = .ok (.aload_n 0, 1) := by decide +kernel
theorem dX7_times_38 : decode cX7_times 38 = .ok (.lconst 0, 1) := by decide +kernel
theorem dX7_times_39 : decode cX7_times 39 = .ok (.putfield 111, 3) := by decide +kernel
theorem dX7_times_42 : decode cX7_times 42 = .ok (.return_, 1) := by decide +kernel
theorem dX7_times_43 : decode cX7_times 43 = .ok (.aload_n 0, 1) := by decide +kernel
theorem dX7_times_44 : decode cX7_times 44 = .ok (.aload_n 0, 1) := by decide +kernel
theorem dX7_times_45 : decode cX7_times 45 = .ok (.getfield 107, 3) := by decide +kernel
theorem dX7_times_48 : decode cX7_times 48 = .ok (.lload_n 1, 1) := by decide +kernel
theorem dX7_times_49 : decode cX7_times 49 = .ok (.lmul, 1) := by decide +kernel
theorem dX7_times_50 : decode cX7_times 50 = .ok (.aload_n 0, 1) := by decide +kernel
theorem dX7_times_51 : decode cX7_times 51 = .ok (.getfield 111, 3) := by decide +kernel
theorem dX7_times_54 : decode cX7_times 54 = .ok (.lload_n 3, 1) := by decide +kernel
theorem dX7_times_55 : decode cX7_times 55 = .ok (.lmul, 1) := by decide +kernel
theorem dX7_times_56 : decode cX7_times 56 = .ok (.invokevirtual 118, 3) := by decide +kernel
theorem dX7_times_59 : decode cX7_times 59 = .ok (.return_, 1) := by decide +kernel
theorem dX7_and_0 : decode cX7_and 0 = .ok (.aload_n 0, 1) := by decide +kernel
theorem dX7_and_1 : decode cX7_and 1 = .ok (.getfield 111, 3) := by decide +kernel
theorem dX7_and_4 : decode cX7_and 4 = .ok (.lconst 0, 1) := by decide +kernel
theorem dX7_and_5 : decode cX7_and 5 = .ok (.lcmp, 1) := by decide +kernel
theorem dX7_and_6 : decode cX7_and 6 = .ok (.ifCond .eq 9, 3) := by decide +kernel
theorem dX7_and_9 : decode cX7_and 9 = .ok (.lload_n 3, 1) := by decide +kernel
theorem dX7_and_10 : decode cX7_and 10 = .ok (.lconst 0, 1) := by decide +kernel
theorem dX7_and_11 : decode cX7_and 11 = .ok (.lcmp, 1) := by decide +kernel
theorem dX7_and_12 : decode cX7_and 12 = .ok (.ifCond .ne 9, 3) := by decide +kernel
theorem dX7_and_15 : decode cX7_and 15 = .ok (.aload_n 0, 1) := by decide +kernel
theorem dX7_and_16 : decode cX7_and 16 = .ok (.lconst 0, 1) := by decide +kernel
theorem dX7_and_17 : decode cX7_and 17 = .ok (.putfield 111, 3) := by decide +kernel
theorem dX7_and_20 : decode cX7_and 20 = .ok (.return_, 1) := by decide +kernel
theorem dX7_and_21 : decode cX7_and 21 = .ok (.aload_n 0, 1) := by decide +kernel
theorem dX7_and_22 : decode cX7_and 22 = .ok (.getfield 111, 3) := by decide +kernel
theorem dX7_and_25 : decode cX7_and 25 = .ok (.lload_n 3, 1) := by decide +kernel
theorem dX7_and_26 : decode cX7_and 26 = .ok (.invokestatic 103, 3) := by decide +kernel
theorem dX7_and_29 : decode cX7_and 29 = .ok (.lstore 6, 2) := by decide +kernel
theorem dX7_and_31 : decode cX7_and 31 = .ok (.lload_n 3, 1) := by decide +kernel
theorem dX7_and_32 : decode cX7_and 32 = .ok (.lload 6, 2) := by decide +kernel
theorem dX7_and_34 : decode cX7_and 34 = .ok (.ldiv, 1) := by decide +kernel
theorem dX7_and_35 : decode cX7_and 35 = .ok (.lstore 8, 2) := by decide +kernel
theorem dX7_and_37 : decode cX7_and 37 = .ok (.aload_n 0, 1) := by decide +kernel
theorem dX7_and_38 : decode cX7_and 38 = .ok (.getfield 111, 3) := by decide +kernel
theorem dX7_and_41 : decode cX7_and 41 = .ok (.lload 6, 2) := by decide +kernel
theorem dX7_and_43 : decode cX7_and 43 = .ok (.ldiv, 1) := by decide +kernel
theorem dX7_and_44 : decode cX7_and 44 = .ok (.lstore 10, 2) := by decide +kernel
theorem dX7_and_46 : decode cX7_and 46 = .ok (.aload_n 0, 1) := by decide +kernel
theorem dX7_and_47 : decode cX7_and 47 = .ok (.getfield 107, 3) := by decide +kernel
theorem dX7_and_50 : decode cX7_and 50 = .ok (.lload 8, 2) := by decide +kernel
theorem dX7_and_52 : decode cX7_and 52 = .ok (.invokestatic 114, 3) := by decide +kernel
theorem dX7_and_55 : decode cX7_and 55 = .ok (.ifCond .eq 48, 3) := by decide +kernel
theorem dX7_and_58 : decode cX7_and 58 = .ok (.lload_n 1, 1) := by decide +kernel
theorem dX7_and_59 : decode cX7_and 59 = .ok (.lload 10, 2) := by decide +kernel
theorem dX7_and_61 : decode cX7_and 61 = .ok (.invokestatic 114, 3) := by decide +kernel
theorem dX7_and_64 : decode cX7_and 64 = .ok (.ifCond .eq 39, 3) := by decide +kernel
theorem dX7_and_67 : decode cX7_and 67 = .ok (.aload_n 0, 1) := by decide +kernel
theorem dX7_and_68 : decode cX7_and 68 = .ok (.getfield 111, 3) := by decide +kernel
theorem dX7_and_71 : decode cX7_and 71 = .ok (.lload 8, 2) := by decide +kernel
theorem dX7_and_73 : decode cX7_and 73 = .ok (.invokestatic 114, 3) := by decide +kernel
theorem dX7_and_76 : decode cX7_and 76 = .ok (.ifCond .eq 27, 3) := by decide +kernel
theorem dX7_and_79 : decode cX7_and 79 = .ok (.iload 5, 2) := by decide +kernel
theorem dX7_and_81 : decode cX7_and 81 = .ok (.ifCond .ne 28, 3) := by decide +kernel
theorem dX7_and_84 : decode cX7_and 84 = .ok (.aload_n 0, 1) := by decide +kernel
theorem dX7_and_85 : decode cX7_and 85 = .ok (.getfield 107, 3) := by decide +kernel
theorem dX7_and_88 : decode cX7_and 88 = .ok (.lload 8, 2) := by decide +kernel
theorem dX7_and_90 : decode cX7_and 90 = .ok (.lmul, 1) := by decide +kernel
theorem dX7_and_91 : decode cX7_and 91 = .ok (.ldc2_w 101, 3) := by decide +kernel
theorem dX7_and_94 : decode cX7_and 94 = .ok (.lload_n 1, 1) := by decide +kernel
theorem dX7_and_95 : decode cX7_and 95 = .ok (.lload 10, 2) := by decide +kernel
theorem dX7_and_97 : decode cX7_and 97 = .ok (.lmul, 1) := by decide +kernel
theorem dX7_and_98 : decode cX7_and 98 = .ok (.lsub, 1) := by decide +kernel
theorem dX7_and_99 : decode cX7_and 99 = .ok (.lcmp, 1) := by decide +kernel
theorem dX7_and_100 : decode cX7_and 100 = .ok (.ifCond .le 9, 3) := by decide +kernel
theorem dX7_and_103 : decode cX7_and 103 = .ok (.aload_n 0, 1) := by decide +kernel
theorem dX7_and_104 : decode cX7_and 104 = .ok (.lconst 0, 1) := by decide +kernel
theorem dX7_and_105 : decode cX7_and 105 = .ok (.putfield 111, 3) := by decide +kernel
theorem dX7_and_108 : decode cX7_and 108 = .ok (.return_, 1) := by decide +kernel
theorem dX7_and_109 : decode cX7_and 109 = .ok (.aload_n 0, 1) := by decide +kernel
theorem dX7_and_110 : decode cX7_and 110 = .ok (.iload 5, 2) := by decide +kernel
theorem dX7_and_112 : decode cX7_and 112 = .ok (.ifCond .eq 18, 3) := by decide +kernel
theorem dX7_and_115 : decode cX7_and 115 = .ok (.aload_n 0, 1) := by decide +kernel
theorem dX7_and_116 : decode cX7_and 116 = .ok (.getfield 107, 3) := by decide +kernel
theorem dX7_and_119 : decode cX7_and 119 = .ok (.lload 8, 2) := by decide +kernel
theorem dX7_and_121 : decode cX7_and 121 = .ok (.lmul, 1) := by decide +kernel
theorem dX7_and_122 : decode cX7_and 122 = .ok (.lload_n 1, 1) := by decide +kernel
theorem dX7_and_123 : decode cX7_and 123 = .ok (.lload 10, 2) := by decide +kernel
theorem dX7_and_125 : decode cX7_and 125 = .ok (.lmul, 1) := by decide +kernel
theorem dX7_and_126 : decode cX7_and 126 = .ok (.lsub, 1) := by decide +kernel
theorem dX7_and_127 : decode cX7_and 127 = .ok (.goto 15, 3) := by decide +kernel
theorem dX7_and_130 : decode cX7_and 130 = .ok (.aload_n 0, 1) := by decide +kernel
theorem dX7_and_131 : decode cX7_and 131 = .ok (.getfield 107, 3) := by decide +kernel
theorem dX7_and_134 : decode cX7_and 134 = .ok (.lload 8, 2) := by decide +kernel
theorem dX7_and_136 : decode cX7_and 136 = .ok (.lmul, 1) := by decide +kernel
theorem dX7_and_137 : decode cX7_and 137 = .ok (.lload_n 1, 1) := by decide +kernel
theorem dX7_and_138 : decode cX7_and 138 = .ok (.lload 10, 2) := by decide +kernel
theorem dX7_and_140 : decode cX7_and 140 = .ok (.lmul, 1) := by decide +kernel
theorem dX7_and_141 : decode cX7_and 141 = .ok (.ladd, 1) := by decide +kernel
theorem dX7_and_142 : decode cX7_and 142 = .ok (.aload_n 0, 1) := by decide +kernel
theorem dX7_and_143 : decode cX7_and 143 = .ok (.getfield 111, 3) := by decide +kernel
theorem dX7_and_146 : decode cX7_and 146 = .ok (.lload 8, 2) := by decide +kernel
theorem dX7_and_148 : decode cX7_and 148 = .ok (.lmul, 1) := by decide +kernel
theorem dX7_and_149 : decode cX7_and 149 = .ok (.invokevirtual 118, 3) := by decide +kernel
theorem dX7_and_152 : decode cX7_and 152 = .ok (.return_, 1) := by decide +kernel
theorem dX7_manyFrom_0 : decode cX7_manyFrom 0 = .ok (.iconst 0, 1) := by decide +kernel
theorem dX7_manyFrom_1 : decode cX7_manyFrom 1 = .ok (.istore 4, 2) := by decide +kernel
theorem dX7_manyFrom_3 : decode cX7_manyFrom 3 = .ok (.iconst 0, 1) := by decide +kernel
theorem dX7_manyFrom_4 : decode cX7_manyFrom 4 = .ok (.istore 5, 2) := by decide +kernel
theorem dX7_manyFrom_6 : decode cX7_manyFrom 6 = .ok (.iload 5, 2) := by decide +kernel
theorem dX7_manyFrom_8 : decode cX7_manyFrom 8 = .ok (.aload_n 0, 1) := by decide +kernel
theorem dX7_manyFrom_9 : decode cX7_manyFrom 9 = .ok (.getfield 7, 3) := by decide +kernel
theorem dX7_manyFrom_12 : decode cX7_manyFrom 12 = .ok (.iload_n 2, 1) := by decide +kernel
theorem dX7_manyFrom_13 : decode cX7_manyFrom 13 = .ok (.iaload, 1) := by decide +kernel
theorem dX7_manyFrom_14 : decode cX7_manyFrom 14 = .ok (.if_icmp .ge 36, 3) := by decide +kernel
theorem dX7_manyFrom_17 : decode cX7_manyFrom 17 = .ok (.iload 4, 2) := by decide +kernel
theorem dX7_manyFrom_19 : decode cX7_manyFrom 19 = .ok (.aload_n 0, 1) := by decide +kernel
theorem dX7_manyFrom_20 : decode cX7_manyFrom 20 = .ok (.getfield 13, 3) := by decide +kernel
theorem dX7_manyFrom_23 : decode cX7_manyFrom 23 = .ok (.aload_n 0, 1) := by decide +kernel
theorem dX7_manyFrom_24 : decode cX7_manyFrom 24 = .ok (.iload_n 1, 1) := by decide +kernel
theorem dX7_manyFrom_25 : decode cX7_manyFrom 25 = .ok (.iload_n 2, 1) := by decide +kernel
theorem dX7_manyFrom_26 : decode cX7_manyFrom 26 = .ok (.iload 5, 2) := by decide +kernel
theorem dX7_manyFrom_28 : decode cX7_manyFrom 28 = .ok (.invokevirtual 122, 3) := by decide +kernel
theorem dX7_manyFrom_31 : decode cX7_manyFrom 31 = .ok (.iaload, 1) := by decide +kernel
theorem dX7_manyFrom_32 : decode cX7_manyFrom 32 = .ok (.iload_n 3, 1) := by decide +kernel
theorem dX7_manyFrom_33 : decode cX7_manyFrom 33 = .ok (.if_icmp .lt 7, 3) := by decide +kernel
theorem dX7_manyFrom_36 : decode cX7_manyFrom 36 = .ok (.iconst 1, 1) := by decide +kernel
theorem dX7_manyFrom_37 : decode cX7_manyFrom 37 = .ok (.goto 4, 3) := by decide +kernel
theorem dX7_manyFrom_40 : decode cX7_manyFrom 40 = .ok (.iconst 0, 1) := by decide +kernel
theorem dX7_manyFrom_41 : decode cX7_manyFrom 41 = .ok (.iadd, 1) := by decide +kernel
theorem dX7_manyFrom_42 : decode cX7_manyFrom 42 = .ok (.istore 4, 2) := by decide +kernel
theorem dX7_manyFrom_44 : decode cX7_manyFrom 44 = .ok (.iinc 5 1, 3) := by decide +kernel
theorem dX7_manyFrom_47 : decode cX7_manyFrom 47 = .ok (.goto (-41), 3) := by decide +kernel
theorem dX7_manyFrom_50 : decode cX7_manyFrom 50 = .ok (.iload 4, 2) := by decide +kernel
theorem dX7_manyFrom_52 : decode cX7_manyFrom 52 = .ok (.ireturn, 1) := by decide +kernel
theorem dX7_isInLine_0 : decode cX7_isInLine 0 = .ok (.aload_n 0, 1) := by decide +kernel
theorem dX7_isInLine_1 : decode cX7_isInLine 1 = .ok (.iload_n 1, 1) := by decide +kernel
theorem dX7_isInLine_2 : decode cX7_isInLine 2 = .ok (.iload_n 3, 1) := by decide +kernel
theorem dX7_isInLine_3 : decode cX7_isInLine 3 = .ok (.aload_n 0, 1) := by decide +kernel
theorem dX7_isInLine_4 : decode cX7_isInLine 4 = .ok (.iload_n 2, 1) := by decide +kernel
theorem dX7_isInLine_5 : decode cX7_isInLine 5 = .ok (.iload_n 3, 1) := by decide +kernel
theorem dX7_isInLine_6 : decode cX7_isInLine 6 = .ok (.invokevirtual 91, 3) := by decide +kernel
theorem dX7_isInLine_9 : decode cX7_isInLine 9 = .ok (.invokevirtual 122, 3) := by decide +kernel
theorem dX7_isInLine_12 : decode cX7_isInLine 12 = .ok (.iload_n 2, 1) := by decide +kernel
theorem dX7_isInLine_13 : decode cX7_isInLine 13 = .ok (.if_icmp .ne 7, 3) := by decide +kernel
theorem dX7_isInLine_16 : decode cX7_isInLine 16 = .ok (.iconst 1, 1) := by decide +kernel
theorem dX7_isInLine_17 : decode cX7_isInLine 17 = .ok (.goto 4, 3) := by decide +kernel
theorem dX7_isInLine_20 : decode cX7_isInLine 20 = .ok (.iconst 0, 1) := by decide +kernel
theorem dX7_isInLine_21 : decode cX7_isInLine 21 = .ok (.ireturn, 1) := by decide +kernel
theorem dX7_sumOfLine_0 : decode cX7_sumOfLine 0 = .ok (.iconst 0, 1) := by decide +kernel
theorem dX7_sumOfLine_1 : decode cX7_sumOfLine 1 = .ok (.istore_n 3, 1) := by decide +kernel
theorem dX7_sumOfLine_2 : decode cX7_sumOfLine 2 = .ok (.iconst 0, 1) := by decide +kernel
theorem dX7_sumOfLine_3 : decode cX7_sumOfLine 3 = .ok (.istore 4, 2) := by decide +kernel
theorem dX7_sumOfLine_5 : decode cX7_sumOfLine 5 = .ok (.iload 4, 2) := by decide +kernel
theorem dX7_sumOfLine_7 : decode cX7_sumOfLine 7 = .ok (.aload_n 0, 1) := by decide +kernel
theorem dX7_sumOfLine_8 : decode cX7_sumOfLine 8 = .ok (.getfield 7, 3) := by decide +kernel
theorem dX7_sumOfLine_11 : decode cX7_sumOfLine 11 = .ok (.iload_n 2, 1) := by decide +kernel
theorem dX7_sumOfLine_12 : decode cX7_sumOfLine 12 = .ok (.iaload, 1) := by decide +kernel
theorem dX7_sumOfLine_13 : decode cX7_sumOfLine 13 = .ok (.if_icmp .ge 25, 3) := by decide +kernel
theorem dX7_sumOfLine_16 : decode cX7_sumOfLine 16 = .ok (.iload_n 3, 1) := by decide +kernel
theorem dX7_sumOfLine_17 : decode cX7_sumOfLine 17 = .ok (.aload_n 0, 1) := by decide +kernel
theorem dX7_sumOfLine_18 : decode cX7_sumOfLine 18 = .ok (.getfield 13, 3) := by decide +kernel
theorem dX7_sumOfLine_21 : decode cX7_sumOfLine 21 = .ok (.aload_n 0, 1) := by decide +kernel
theorem dX7_sumOfLine_22 : decode cX7_sumOfLine 22 = .ok (.iload_n 1, 1) := by decide +kernel
theorem dX7_sumOfLine_23 : decode cX7_sumOfLine 23 = .ok (.iload_n 2, 1) := by decide +kernel
theorem dX7_sumOfLine_24 : decode cX7_sumOfLine 24 = .ok (.iload 4, 2) := by decide +kernel
theorem dX7_sumOfLine_26 : decode cX7_sumOfLine 26 = .ok (.invokevirtual 122, 3) := by decide +kernel
theorem dX7_sumOfLine_29 : decode cX7_sumOfLine 29 = .ok (.iaload, 1) := by decide +kernel
theorem dX7_sumOfLine_30 : decode cX7_sumOfLine 30 = .ok (.iadd, 1) := by decide +kernel
theorem dX7_sumOfLine_31 : decode cX7_sumOfLine 31 = .ok (.istore_n 3, 1) := by decide +kernel
theorem dX7_sumOfLine_32 : decode cX7_sumOfLine 32 = .ok (.iinc 4 1, 3) := by decide +kernel
theorem dX7_sumOfLine_35 : decode cX7_sumOfLine 35 = .ok (.goto (-30), 3) := by decide +kernel
theorem dX7_sumOfLine_38 : decode cX7_sumOfLine 38 = .ok (.iload_n 3, 1) := by decide +kernel
theorem dX7_sumOfLine_39 : decode cX7_sumOfLine 39 = .ok (.ireturn, 1) := by decide +kernel
theorem dX7_neighbour_0 : decode cX7_neighbour 0 = .ok (.aload_n 0, 1) := by decide +kernel
theorem dX7_neighbour_1 : decode cX7_neighbour 1 = .ok (.iload_n 1, 1) := by decide +kernel
theorem dX7_neighbour_2 : decode cX7_neighbour 2 = .ok (.iload_n 2, 1) := by decide +kernel
theorem dX7_neighbour_3 : decode cX7_neighbour 3 = .ok (.invokevirtual 91, 3) := by decide +kernel
theorem dX7_neighbour_6 : decode cX7_neighbour 6 = .ok (.istore 4, 2) := by decide +kernel
theorem dX7_neighbour_8 : decode cX7_neighbour 8 = .ok (.aload_n 0, 1) := by decide +kernel
theorem dX7_neighbour_9 : decode cX7_neighbour 9 = .ok (.getfield 7, 3) := by decide +kernel
theorem dX7_neighbour_12 : decode cX7_neighbour 12 = .ok (.iload_n 2, 1) := by decide +kernel
theorem dX7_neighbour_13 : decode cX7_neighbour 13 = .ok (.iaload, 1) := by decide +kernel
theorem dX7_neighbour_14 : decode cX7_neighbour 14 = .ok (.istore 5, 2) := by decide +kernel
theorem dX7_neighbour_16 : decode cX7_neighbour 16 = .ok (.aload_n 0, 1) := by decide +kernel
theorem dX7_neighbour_17 : decode cX7_neighbour 17 = .ok (.iload_n 1, 1) := by decide +kernel
theorem dX7_neighbour_18 : decode cX7_neighbour 18 = .ok (.iload_n 2, 1) := by decide +kernel
theorem dX7_neighbour_19 : decode cX7_neighbour 19 = .ok (.iload_n 3, 1) := by decide +kernel
theorem dX7_neighbour_20 : decode cX7_neighbour 20 = .ok (.ifCond .eq 13, 3) := by decide +kernel
theorem dX7_neighbour_23 : decode cX7_neighbour 23 = .ok (.iload 4, 2) := by decide +kernel
theorem dX7_neighbour_25 : decode cX7_neighbour 25 = .ok (.iconst 1, 1) := by decide +kernel
theorem dX7_neighbour_26 : decode cX7_neighbour 26 = .ok (.iadd, 1) := by decide +kernel
theorem dX7_neighbour_27 : decode cX7_neighbour 27 = .ok (.iload 5, 2) := by decide +kernel
theorem dX7_neighbour_29 : decode cX7_neighbour 29 = .ok (.irem, 1) := by decide +kernel
theorem dX7_neighbour_30 : decode cX7_neighbour 30 = .ok (.goto 13, 3) := by decide +kernel
theorem dX7_neighbour_33 : decode cX7_neighbour 33 = .ok (.iload 4, 2) := by decide +kernel
theorem dX7_neighbour_35 : decode cX7_neighbour 35 = .ok (.iload 5, 2) := by decide +kernel
theorem dX7_neighbour_37 : decode cX7_neighbour 37 = .ok (.iadd, 1) := by decide +kernel
theorem dX7_neighbour_38 : decode cX7_neighbour 38 = .ok (.iconst 1, 1) := by decide +kernel
theorem dX7_neighbour_39 : decode cX7_neighbour 39 = .ok (.isub, 1) := by decide +kernel
theorem dX7_neighbour_40 : decode cX7_neighbour 40 = .ok (.iload 5, 2) := by decide +kernel
theorem dX7_neighbour_42 : decode cX7_neighbour 42 = .ok (.irem, 1) := by decide +kernel
theorem dX7_neighbour_43 : decode cX7_neighbour 43 = .ok (.invokevirtual 122, 3) := by decide +kernel
theorem dX7_neighbour_46 : decode cX7_neighbour 46 = .ok (.ireturn, 1) := by decide +kernel
theorem dX7_swapped_0 : decode cX7_swapped 0 = .ok (.aload_n 0, 1) := by decide +kernel
theorem dX7_swapped_1 : decode cX7_swapped 1 = .ok (.aload_n 0, 1) := by decide +kernel
theorem dX7_swapped_2 : decode cX7_swapped 2 = .ok (.iload_n 1, 1) := by decide +kernel
theorem dX7_swapped_3 : decode cX7_swapped 3 = .ok (.iload_n 2, 1) := by decide +kernel
theorem dX7_swapped_4 : decode cX7_swapped 4 = .ok (.aload_n 0, 1) := by decide +kernel
theorem dX7_swapped_5 : decode cX7_swapped 5 = .ok (.iload_n 1, 1) := by decide +kernel
theorem dX7_swapped_6 : decode cX7_swapped 6 = .ok (.iload_n 3, 1) := by decide +kernel
theorem dX7_swapped_7 : decode cX7_swapped 7 = .ok (.invokevirtual 91, 3) := by decide +kernel
theorem dX7_swapped_10 : decode cX7_swapped 10 = .ok (.invokevirtual 122, 3) := by decide +kernel
theorem dX7_swapped_13 : decode cX7_swapped 13 = .ok (.iload_n 3, 1) := by decide +kernel
theorem dX7_swapped_14 : decode cX7_swapped 14 = .ok (.aload_n 0, 1) := by decide +kernel
theorem dX7_swapped_15 : decode cX7_swapped 15 = .ok (.iload_n 1, 1) := by decide +kernel
theorem dX7_swapped_16 : decode cX7_swapped 16 = .ok (.iload_n 2, 1) := by decide +kernel
theorem dX7_swapped_17 : decode cX7_swapped 17 = .ok (.invokevirtual 91, 3) := by decide +kernel
theorem dX7_swapped_20 : decode cX7_swapped 20 = .ok (.invokevirtual 122, 3) := by decide +kernel
theorem dX7_swapped_23 : decode cX7_swapped 23 = .ok (.ireturn, 1) := by decide +kernel
theorem dX7_takenOf_0 : decode cX7_takenOf 0 = .ok (.aload_n 0, 1) := by decide +kernel
theorem dX7_takenOf_1 : decode cX7_takenOf 1 = .ok (.getfield 13, 3) := by decide +kernel
theorem dX7_takenOf_4 : decode cX7_takenOf 4 = .ok (.iload_n 1, 1) := by decide +kernel
theorem dX7_takenOf_5 : decode cX7_takenOf 5 = .ok (.iaload, 1) := by decide +kernel
theorem dX7_takenOf_6 : decode cX7_takenOf 6 = .ok (.ifCond .ne 7, 3) := by decide +kernel
theorem dX7_takenOf_9 : decode cX7_takenOf 9 = .ok (.iconst 1, 1) := by decide +kernel
theorem dX7_takenOf_10 : decode cX7_takenOf 10 = .ok (.goto 33, 3) := by decide +kernel
theorem dX7_takenOf_13 : decode cX7_takenOf 13 = .ok (.aload_n 0, 1) := by decide +kernel
theorem dX7_takenOf_14 : decode cX7_takenOf 14 = .ok (.getfield 13, 3) := by decide +kernel
theorem dX7_takenOf_17 : decode cX7_takenOf 17 = .ok (.iload_n 2, 1) := by decide +kernel
theorem dX7_takenOf_18 : decode cX7_takenOf 18 = .ok (.iaload, 1) := by decide +kernel
theorem dX7_takenOf_19 : decode cX7_takenOf 19 = .ok (.aload_n 0, 1) := by decide +kernel
theorem dX7_takenOf_20 : decode cX7_takenOf 20 = .ok (.getfield 13, 3) := by decide +kernel
theorem dX7_takenOf_23 : decode cX7_takenOf 23 = .ok (.iload_n 1, 1) := by decide +kernel
theorem dX7_takenOf_24 : decode cX7_takenOf 24 = .ok (.iaload, 1) := by decide +kernel
theorem dX7_takenOf_25 : decode cX7_takenOf 25 = .ok (.if_icmp .ge 12, 3) := by decide +kernel
theorem dX7_takenOf_28 : decode cX7_takenOf 28 = .ok (.aload_n 0, 1) := by decide +kernel
theorem dX7_takenOf_29 : decode cX7_takenOf 29 = .ok (.getfield 13, 3) := by decide +kernel
theorem dX7_takenOf_32 : decode cX7_takenOf 32 = .ok (.iload_n 2, 1) := by decide +kernel
theorem dX7_takenOf_33 : decode cX7_takenOf 33 = .ok (.iaload, 1) := by decide +kernel
theorem dX7_takenOf_34 : decode cX7_takenOf 34 = .ok (.goto 9, 3) := by decide +kernel
theorem dX7_takenOf_37 : decode cX7_takenOf 37 = .ok (.aload_n 0, 1) := by decide +kernel
theorem dX7_takenOf_38 : decode cX7_takenOf 38 = .ok (.getfield 13, 3) := by decide +kernel
theorem dX7_takenOf_41 : decode cX7_takenOf 41 = .ok (.iload_n 1, 1) := by decide +kernel
theorem dX7_takenOf_42 : decode cX7_takenOf 42 = .ok (.iaload, 1) := by decide +kernel
theorem dX7_takenOf_43 : decode cX7_takenOf 43 = .ok (.ireturn, 1) := by decide +kernel
theorem dX7_ofTaken_0 : decode cX7_ofTaken 0 = .ok (.aload_n 0, 1) := by decide +kernel
theorem dX7_ofTaken_1 : decode cX7_ofTaken 1 = .ok (.getfield 13, 3) := by decide +kernel
theorem dX7_ofTaken_4 : decode cX7_ofTaken 4 = .ok (.iload_n 1, 1) := by decide +kernel
theorem dX7_ofTaken_5 : decode cX7_ofTaken 5 = .ok (.iaload, 1) := by decide +kernel
theorem dX7_ofTaken_6 : decode cX7_ofTaken 6 = .ok (.ifCond .ne 7, 3) := by decide +kernel
theorem dX7_ofTaken_9 : decode cX7_ofTaken 9 = .ok (.iconst 1, 1) := by decide +kernel
theorem dX7_ofTaken_10 : decode cX7_ofTaken 10 = .ok (.goto 9, 3) := by decide +kernel
theorem dX7_ofTaken_13 : decode cX7_ofTaken 13 = .ok (.aload_n 0, 1) := by decide +kernel
theorem dX7_ofTaken_14 : decode cX7_ofTaken 14 = .ok (.getfield 13, 3) := by decide +kernel
theorem dX7_ofTaken_17 : decode cX7_ofTaken 17 = .ok (.iload_n 1, 1) := by decide +kernel
theorem dX7_ofTaken_18 : decode cX7_ofTaken 18 = .ok (.iaload, 1) := by decide +kernel
theorem dX7_ofTaken_19 : decode cX7_ofTaken 19 = .ok (.ireturn, 1) := by decide +kernel
theorem dX7_sumOfTold_0 : decode cX7_sumOfTold 0 = .ok (.iconst 0, 1) := by decide +kernel
theorem dX7_sumOfTold_1 : decode cX7_sumOfTold 1 = .ok (.istore_n 3, 1) := by decide +kernel
theorem dX7_sumOfTold_2 : decode cX7_sumOfTold 2 = .ok (.iconst 0, 1) := by decide +kernel
theorem dX7_sumOfTold_3 : decode cX7_sumOfTold 3 = .ok (.istore 4, 2) := by decide +kernel
theorem dX7_sumOfTold_5 : decode cX7_sumOfTold 5 = .ok (.iload 4, 2) := by decide +kernel
theorem dX7_sumOfTold_7 : decode cX7_sumOfTold 7 = .ok (.aload_n 0, 1) := by decide +kernel
theorem dX7_sumOfTold_8 : decode cX7_sumOfTold 8 = .ok (.getfield 64, 3) := by decide +kernel
theorem dX7_sumOfTold_11 : decode cX7_sumOfTold 11 = .ok (.if_icmp .ge 30, 3) := by decide +kernel
theorem dX7_sumOfTold_14 : decode cX7_sumOfTold 14 = .ok (.iload_n 3, 1) := by decide +kernel
theorem dX7_sumOfTold_15 : decode cX7_sumOfTold 15 = .ok (.aload_n 0, 1) := by decide +kernel
theorem dX7_sumOfTold_16 : decode cX7_sumOfTold 16 = .ok (.getfield 34, 3) := by decide +kernel
theorem dX7_sumOfTold_19 : decode cX7_sumOfTold 19 = .ok (.sipush 256, 3) := by decide +kernel
theorem dX7_sumOfTold_22 : decode cX7_sumOfTold 22 = .ok (.iload_n 1, 1) := by decide +kernel
theorem dX7_sumOfTold_23 : decode cX7_sumOfTold 23 = .ok (.imul, 1) := by decide +kernel
theorem dX7_sumOfTold_24 : decode cX7_sumOfTold 24 = .ok (.bipush 16, 2) := by decide +kernel
theorem dX7_sumOfTold_26 : decode cX7_sumOfTold 26 = .ok (.iload_n 2, 1) := by decide +kernel
theorem dX7_sumOfTold_27 : decode cX7_sumOfTold 27 = .ok (.imul, 1) := by decide +kernel
theorem dX7_sumOfTold_28 : decode cX7_sumOfTold 28 = .ok (.iadd, 1) := by decide +kernel
theorem dX7_sumOfTold_29 : decode cX7_sumOfTold 29 = .ok (.iload 4, 2) := by decide +kernel
theorem dX7_sumOfTold_31 : decode cX7_sumOfTold 31 = .ok (.iadd, 1) := by decide +kernel
theorem dX7_sumOfTold_32 : decode cX7_sumOfTold 32 = .ok (.iaload, 1) := by decide +kernel
theorem dX7_sumOfTold_33 : decode cX7_sumOfTold 33 = .ok (.iadd, 1) := by decide +kernel
theorem dX7_sumOfTold_34 : decode cX7_sumOfTold 34 = .ok (.istore_n 3, 1) := by decide +kernel
theorem dX7_sumOfTold_35 : decode cX7_sumOfTold 35 = .ok (.iinc 4 1, 3) := by decide +kernel
theorem dX7_sumOfTold_38 : decode cX7_sumOfTold 38 = .ok (.goto (-33), 3) := by decide +kernel
theorem dX7_sumOfTold_41 : decode cX7_sumOfTold 41 = .ok (.iload_n 3, 1) := by decide +kernel
theorem dX7_sumOfTold_42 : decode cX7_sumOfTold 42 = .ok (.ireturn, 1) := by decide +kernel
theorem dX7_above_0 : decode cX7_above 0 = .ok (.aload_n 0, 1) := by decide +kernel
theorem dX7_above_1 : decode cX7_above 1 = .ok (.getfield 13, 3) := by decide +kernel
theorem dX7_above_4 : decode cX7_above 4 = .ok (.iload_n 3, 1) := by decide +kernel
theorem dX7_above_5 : decode cX7_above 5 = .ok (.iaload, 1) := by decide +kernel
theorem dX7_above_6 : decode cX7_above 6 = .ok (.i2l, 1) := by decide +kernel
theorem dX7_above_7 : decode cX7_above 7 = .ok (.aload_n 0, 1) := by decide +kernel
theorem dX7_above_8 : decode cX7_above 8 = .ok (.getfield 34, 3) := by decide +kernel
theorem dX7_above_11 : decode cX7_above 11 = .ok (.sipush 256, 3) := by decide +kernel
theorem dX7_above_14 : decode cX7_above 14 = .ok (.iload_n 1, 1) := by decide +kernel
theorem dX7_above_15 : decode cX7_above 15 = .ok (.imul, 1) := by decide +kernel
theorem dX7_above_16 : decode cX7_above 16 = .ok (.bipush 16, 2) := by decide +kernel
theorem dX7_above_18 : decode cX7_above 18 = .ok (.iload_n 3, 1) := by decide +kernel
theorem dX7_above_19 : decode cX7_above 19 = .ok (.imul, 1) := by decide +kernel
theorem dX7_above_20 : decode cX7_above 20 = .ok (.iadd, 1) := by decide +kernel
theorem dX7_above_21 : decode cX7_above 21 = .ok (.iload_n 2, 1) := by decide +kernel
theorem dX7_above_22 : decode cX7_above 22 = .ok (.iadd, 1) := by decide +kernel
theorem dX7_above_23 : decode cX7_above 23 = .ok (.iaload, 1) := by decide +kernel
theorem dX7_above_24 : decode cX7_above 24 = .ok (.i2l, 1) := by decide +kernel
theorem dX7_above_25 : decode cX7_above 25 = .ok (.lmul, 1) := by decide +kernel
theorem dX7_above_26 : decode cX7_above 26 = .ok (.aload_n 0, 1) := by decide +kernel
theorem dX7_above_27 : decode cX7_above 27 = .ok (.iload_n 1, 1) := by decide +kernel
theorem dX7_above_28 : decode cX7_above 28 = .ok (.iload_n 2, 1) := by decide +kernel
theorem dX7_above_29 : decode cX7_above 29 = .ok (.invokevirtual 126, 3) := by decide +kernel
theorem dX7_above_32 : decode cX7_above 32 = .ok (.i2l, 1) := by decide +kernel
theorem dX7_above_33 : decode cX7_above 33 = .ok (.lmul, 1) := by decide +kernel
theorem dX7_above_34 : decode cX7_above 34 = .ok (.lreturn, 1) := by decide +kernel
theorem dX7_below_0 : decode cX7_below 0 = .ok (.aload_n 0, 1) := by decide +kernel
theorem dX7_below_1 : decode cX7_below 1 = .ok (.getfield 13, 3) := by decide +kernel
theorem dX7_below_4 : decode cX7_below 4 = .ok (.iload_n 2, 1) := by decide +kernel
theorem dX7_below_5 : decode cX7_below 5 = .ok (.iaload, 1) := by decide +kernel
theorem dX7_below_6 : decode cX7_below 6 = .ok (.i2l, 1) := by decide +kernel
theorem dX7_below_7 : decode cX7_below 7 = .ok (.aload_n 0, 1) := by decide +kernel
theorem dX7_below_8 : decode cX7_below 8 = .ok (.getfield 34, 3) := by decide +kernel
theorem dX7_below_11 : decode cX7_below 11 = .ok (.sipush 256, 3) := by decide +kernel
theorem dX7_below_14 : decode cX7_below 14 = .ok (.iload_n 1, 1) := by decide +kernel
theorem dX7_below_15 : decode cX7_below 15 = .ok (.imul, 1) := by decide +kernel
theorem dX7_below_16 : decode cX7_below 16 = .ok (.bipush 16, 2) := by decide +kernel
theorem dX7_below_18 : decode cX7_below 18 = .ok (.iload_n 2, 1) := by decide +kernel
theorem dX7_below_19 : decode cX7_below 19 = .ok (.imul, 1) := by decide +kernel
theorem dX7_below_20 : decode cX7_below 20 = .ok (.iadd, 1) := by decide +kernel
theorem dX7_below_21 : decode cX7_below 21 = .ok (.iload_n 3, 1) := by decide +kernel
theorem dX7_below_22 : decode cX7_below 22 = .ok (.iadd, 1) := by decide +kernel
theorem dX7_below_23 : decode cX7_below 23 = .ok (.iaload, 1) := by decide +kernel
theorem dX7_below_24 : decode cX7_below 24 = .ok (.i2l, 1) := by decide +kernel
theorem dX7_below_25 : decode cX7_below 25 = .ok (.lmul, 1) := by decide +kernel
theorem dX7_below_26 : decode cX7_below 26 = .ok (.aload_n 0, 1) := by decide +kernel
theorem dX7_below_27 : decode cX7_below 27 = .ok (.iload_n 1, 1) := by decide +kernel
theorem dX7_below_28 : decode cX7_below 28 = .ok (.iload_n 3, 1) := by decide +kernel
theorem dX7_below_29 : decode cX7_below 29 = .ok (.invokevirtual 126, 3) := by decide +kernel
theorem dX7_below_32 : decode cX7_below 32 = .ok (.i2l, 1) := by decide +kernel
theorem dX7_below_33 : decode cX7_below 33 = .ok (.lmul, 1) := by decide +kernel
theorem dX7_below_34 : decode cX7_below 34 = .ok (.lreturn, 1) := by decide +kernel
theorem dX7_toldChance_0 : decode cX7_toldChance 0 = .ok (.aload_n 0, 1) := by decide +kernel
theorem dX7_toldChance_1 : decode cX7_toldChance 1 = .ok (.getfield 34, 3) := by decide +kernel
theorem dX7_toldChance_4 : decode cX7_toldChance 4 = .ok (.sipush 256, 3) := by decide +kernel
theorem dX7_toldChance_7 : decode cX7_toldChance 7 = .ok (.iload_n 1, 1) := by decide +kernel
theorem dX7_toldChance_8 : decode cX7_toldChance 8 = .ok (.imul, 1) := by decide +kernel
theorem dX7_toldChance_9 : decode cX7_toldChance 9 = .ok (.bipush 16, 2) := by decide +kernel
theorem dX7_toldChance_11 : decode cX7_toldChance 11 = .ok (.iload_n 2, 1) := by decide +kernel
theorem dX7_toldChance_12 : decode cX7_toldChance 12 = .ok (.imul, 1) := by decide +kernel
theorem dX7_toldChance_13 : decode cX7_toldChance 13 = .ok (.iadd, 1) := by decide +kernel
theorem dX7_toldChance_14 : decode cX7_toldChance 14 = .ok (.iload_n 3, 1) := by decide +kernel
theorem dX7_toldChance_15 : decode cX7_toldChance 15 = .ok (.iadd, 1) := by decide +kernel
theorem dX7_toldChance_16 : decode cX7_toldChance 16 = .ok (.iaload, 1) := by decide +kernel
theorem dX7_toldChance_17 : decode cX7_toldChance 17 = .ok (.istore 4, 2) := by decide +kernel
theorem dX7_toldChance_19 : decode cX7_toldChance 19 = .ok (.aload_n 0, 1) := by decide +kernel
theorem dX7_toldChance_20 : decode cX7_toldChance 20 = .ok (.lconst 0, 1) := by decide +kernel
theorem dX7_toldChance_21 : decode cX7_toldChance 21 = .ok (.lconst 1, 1) := by decide +kernel
theorem dX7_toldChance_22 : decode cX7_toldChance 22 = .ok (.invokevirtual 118, 3) := by decide +kernel
theorem dX7_toldChance_25 : decode cX7_toldChance 25 = .ok (.iload 4, 2) := by decide +kernel
theorem dX7_toldChance_27 : decode cX7_toldChance 27 = .ok (.ifCond .ne 4, 3) := by decide +kernel
theorem dX7_toldChance_30 : decode cX7_toldChance 30 = .ok (.return_, 1) := by decide +kernel
theorem dX7_toldChance_31 : decode cX7_toldChance 31 = .ok (.aload_n 0, 1) := by decide +kernel
theorem dX7_toldChance_32 : decode cX7_toldChance 32 = .ok (.iload_n 1, 1) := by decide +kernel
theorem dX7_toldChance_33 : decode cX7_toldChance 33 = .ok (.iload_n 2, 1) := by decide +kernel
theorem dX7_toldChance_34 : decode cX7_toldChance 34 = .ok (.iload_n 3, 1) := by decide +kernel
theorem dX7_toldChance_35 : decode cX7_toldChance 35 = .ok (.invokevirtual 129, 3) := by decide +kernel
theorem dX7_toldChance_38 : decode cX7_toldChance 38 = .ok (.lstore 5, 2) := by decide +kernel
theorem dX7_toldChance_40 : decode cX7_toldChance 40 = .ok (.aload_n 0, 1) := by decide +kernel
theorem dX7_toldChance_41 : decode cX7_toldChance 41 = .ok (.iload_n 1, 1) := by decide +kernel
theorem dX7_toldChance_42 : decode cX7_toldChance 42 = .ok (.iload_n 2, 1) := by decide +kernel
theorem dX7_toldChance_43 : decode cX7_toldChance 43 = .ok (.iload_n 3, 1) := by decide +kernel
theorem dX7_toldChance_44 : decode cX7_toldChance 44 = .ok (.invokevirtual 132, 3) := by decide +kernel
theorem dX7_toldChance_47 : decode cX7_toldChance 47 = .ok (.lstore 7, 2) := by decide +kernel
theorem dX7_toldChance_49 : decode cX7_toldChance 49 = .ok (.aload_n 0, 1) := by decide +kernel
theorem dX7_toldChance_50 : decode cX7_toldChance 50 = .ok (.iload 4, 2) := by decide +kernel
theorem dX7_toldChance_52 : decode cX7_toldChance 52 = .ok (.i2l, 1) := by decide +kernel
theorem dX7_toldChance_53 : decode cX7_toldChance 53 = .ok (.aload_n 0, 1) := by decide +kernel
theorem dX7_toldChance_54 : decode cX7_toldChance 54 = .ok (.iload_n 1, 1) := by decide +kernel
theorem dX7_toldChance_55 : decode cX7_toldChance 55 = .ok (.iload_n 2, 1) := by decide +kernel
theorem dX7_toldChance_56 : decode cX7_toldChance 56 = .ok (.invokevirtual 126, 3) := by decide +kernel
theorem dX7_toldChance_59 : decode cX7_toldChance 59 = .ok (.i2l, 1) := by decide +kernel
theorem dX7_toldChance_60 : decode cX7_toldChance 60 = .ok (.invokevirtual 118, 3) := by decide +kernel
theorem dX7_toldChance_63 : decode cX7_toldChance 63 = .ok (.aload_n 0, 1) := by decide +kernel
theorem dX7_toldChance_64 : decode cX7_toldChance 64 = .ok (.getfield 13, 3) := by decide +kernel
theorem dX7_toldChance_67 : decode cX7_toldChance 67 = .ok (.iload_n 2, 1) := by decide +kernel
theorem dX7_toldChance_68 : decode cX7_toldChance 68 = .ok (.iaload, 1) := by decide +kernel
theorem dX7_toldChance_69 : decode cX7_toldChance 69 = .ok (.ifCond .le 11, 3) := by decide +kernel
theorem dX7_toldChance_72 : decode cX7_toldChance 72 = .ok (.lload 5, 2) := by decide +kernel
theorem dX7_toldChance_74 : decode cX7_toldChance 74 = .ok (.lload 7, 2) := by decide +kernel
theorem dX7_toldChance_76 : decode cX7_toldChance 76 = .ok (.lcmp, 1) := by decide +kernel
theorem dX7_toldChance_77 : decode cX7_toldChance 77 = .ok (.ifCond .lt 19, 3) := by decide +kernel
theorem dX7_toldChance_80 : decode cX7_toldChance 80 = .ok (.aload_n 0, 1) := by decide +kernel
theorem dX7_toldChance_81 : decode cX7_toldChance 81 = .ok (.getfield 13, 3) := by decide +kernel
theorem dX7_toldChance_84 : decode cX7_toldChance 84 = .ok (.iload_n 2, 1) := by decide +kernel
theorem dX7_toldChance_85 : decode cX7_toldChance 85 = .ok (.iaload, 1) := by decide +kernel
theorem dX7_toldChance_86 : decode cX7_toldChance 86 = .ok (.ifCond .le 49, 3) := by decide +kernel
theorem dX7_toldChance_89 : decode cX7_toldChance 89 = .ok (.lload 5, 2) := by decide +kernel
theorem dX7_toldChance_91 : decode cX7_toldChance 91 = .ok (.lconst 0, 1) := by decide +kernel
theorem dX7_toldChance_92 : decode cX7_toldChance 92 = .ok (.lcmp, 1) := by decide +kernel
theorem dX7_toldChance_93 : decode cX7_toldChance 93 = .ok (.ifCond .ne 42, 3) := by decide +kernel
theorem dX7_toldChance_96 : decode cX7_toldChance 96 = .ok (.lload 5, 2) := by decide +kernel
theorem dX7_toldChance_98 : decode cX7_toldChance 98 = .ok (.lconst 0, 1) := by decide +kernel
theorem dX7_toldChance_99 : decode cX7_toldChance 99 = .ok (.lcmp, 1) := by decide +kernel
theorem dX7_toldChance_100 : decode cX7_toldChance 100 = .ok (.ifCond .ne 12, 3) := by decide +kernel
theorem dX7_toldChance_103 : decode cX7_toldChance 103 = .ok (.aload_n 0, 1) := by decide +kernel
theorem dX7_toldChance_104 : decode cX7_toldChance 104 = .ok (.lconst 0, 1) := by decide +kernel
theorem dX7_toldChance_105 : decode cX7_toldChance 105 = .ok (.lconst 1, 1) := by decide +kernel
theorem dX7_toldChance_106 : decode cX7_toldChance 106 = .ok (.invokevirtual 118, 3) := by decide +kernel
theorem dX7_toldChance_109 : decode cX7_toldChance 109 = .ok (.goto 26, 3) := by decide +kernel
theorem dX7_toldChance_112 : decode cX7_toldChance 112 = .ok (.lload 5, 2) := by decide +kernel
theorem dX7_toldChance_114 : decode cX7_toldChance 114 = .ok (.lload 7, 2) := by decide +kernel
theorem dX7_toldChance_116 : decode cX7_toldChance 116 = .ok (.invokestatic 103, 3) := by decide +kernel
theorem dX7_toldChance_119 : decode cX7_toldChance 119 = .ok (.lstore 9, 2) := by decide +kernel
theorem dX7_toldChance_121 : decode cX7_toldChance 121 = .ok (.aload_n 0, 1) := by decide +kernel
theorem dX7_toldChance_122 : decode cX7_toldChance 122 = .ok (.lload 5, 2) := by decide +kernel
theorem dX7_toldChance_124 : decode cX7_toldChance 124 = .ok (.lload 9, 2) := by decide +kernel
theorem dX7_toldChance_126 : decode cX7_toldChance 126 = .ok (.ldiv, 1) := by decide +kernel
theorem dX7_toldChance_127 : decode cX7_toldChance 127 = .ok (.lload 7, 2) := by decide +kernel
theorem dX7_toldChance_129 : decode cX7_toldChance 129 = .ok (.lload 9, 2) := by decide +kernel
theorem dX7_toldChance_131 : decode cX7_toldChance 131 = .ok (.ldiv, 1) := by decide +kernel
theorem dX7_toldChance_132 : decode cX7_toldChance 132 = .ok (.invokevirtual 134, 3) := by decide +kernel
theorem dX7_toldChance_135 : decode cX7_toldChance 135 = .ok (.return_, 1) := by decide +kernel
theorem dX7_toldFrom_0 : decode cX7_toldFrom 0 = .ok (.iload_n 2, 1) := by decide +kernel
theorem dX7_toldFrom_1 : decode cX7_toldFrom 1 = .ok (.iload_n 3, 1) := by decide +kernel
theorem dX7_toldFrom_2 : decode cX7_toldFrom 2 = .ok (.if_icmp .eq 11, 3) := by decide +kernel
theorem dX7_toldFrom_5 : decode cX7_toldFrom 5 = .ok (.aload_n 0, 1) := by decide +kernel
theorem dX7_toldFrom_6 : decode cX7_toldFrom 6 = .ok (.iload_n 1, 1) := by decide +kernel
theorem dX7_toldFrom_7 : decode cX7_toldFrom 7 = .ok (.iload_n 2, 1) := by decide +kernel
theorem dX7_toldFrom_8 : decode cX7_toldFrom 8 = .ok (.iload_n 3, 1) := by decide +kernel
theorem dX7_toldFrom_9 : decode cX7_toldFrom 9 = .ok (.invokevirtual 137, 3) := by decide +kernel
theorem dX7_toldFrom_12 : decode cX7_toldFrom 12 = .ok (.return_, 1) := by decide +kernel
theorem dX7_toldFrom_13 : decode cX7_toldFrom 13 = .ok (.lconst 1, 1) := by decide +kernel
theorem dX7_toldFrom_14 : decode cX7_toldFrom 14 = .ok (.lstore 4, 2) := by decide +kernel
theorem dX7_toldFrom_16 : decode cX7_toldFrom 16 = .ok (.lconst 1, 1) := by decide +kernel
theorem dX7_toldFrom_17 : decode cX7_toldFrom 17 = .ok (.lstore 6, 2) := by decide +kernel
theorem dX7_toldFrom_19 : decode cX7_toldFrom 19 = .ok (.iconst 0, 1) := by decide +kernel
theorem dX7_toldFrom_20 : decode cX7_toldFrom 20 = .ok (.istore 8, 2) := by decide +kernel
theorem dX7_toldFrom_22 : decode cX7_toldFrom 22 = .ok (.iload 8, 2) := by decide +kernel
theorem dX7_toldFrom_24 : decode cX7_toldFrom 24 = .ok (.aload_n 0, 1) := by decide +kernel
theorem dX7_toldFrom_25 : decode cX7_toldFrom 25 = .ok (.getfield 64, 3) := by decide +kernel
theorem dX7_toldFrom_28 : decode cX7_toldFrom 28 = .ok (.if_icmp .ge 68, 3) := by decide +kernel
theorem dX7_toldFrom_31 : decode cX7_toldFrom 31 = .ok (.iload 8, 2) := by decide +kernel
theorem dX7_toldFrom_33 : decode cX7_toldFrom 33 = .ok (.iload_n 2, 1) := by decide +kernel
theorem dX7_toldFrom_34 : decode cX7_toldFrom 34 = .ok (.if_icmp .eq 56, 3) := by decide +kernel
theorem dX7_toldFrom_37 : decode cX7_toldFrom 37 = .ok (.aload_n 0, 1) := by decide +kernel
theorem dX7_toldFrom_38 : decode cX7_toldFrom 38 = .ok (.iload_n 1, 1) := by decide +kernel
theorem dX7_toldFrom_39 : decode cX7_toldFrom 39 = .ok (.iload_n 2, 1) := by decide +kernel
theorem dX7_toldFrom_40 : decode cX7_toldFrom 40 = .ok (.iload 8, 2) := by decide +kernel
theorem dX7_toldFrom_42 : decode cX7_toldFrom 42 = .ok (.invokevirtual 137, 3) := by decide +kernel
theorem dX7_toldFrom_45 : decode cX7_toldFrom 45 = .ok (.aload_n 0, 1) := by decide +kernel
theorem dX7_toldFrom_46 : decode cX7_toldFrom 46 = .ok (.getfield 107, 3) := by decide +kernel
theorem dX7_toldFrom_49 : decode cX7_toldFrom 49 = .ok (.lstore 9, 2) := by decide +kernel
theorem dX7_toldFrom_51 : decode cX7_toldFrom 51 = .ok (.aload_n 0, 1) := by decide +kernel
theorem dX7_toldFrom_52 : decode cX7_toldFrom 52 = .ok (.getfield 111, 3) := by decide +kernel
theorem dX7_toldFrom_55 : decode cX7_toldFrom 55 = .ok (.lstore 11, 2) := by decide +kernel
theorem dX7_toldFrom_57 : decode cX7_toldFrom 57 = .ok (.aload_n 0, 1) := by decide +kernel
theorem dX7_toldFrom_58 : decode cX7_toldFrom 58 = .ok (.lload 4, 2) := by decide +kernel
theorem dX7_toldFrom_60 : decode cX7_toldFrom 60 = .ok (.putfield 107, 3) := by decide +kernel
theorem dX7_toldFrom_63 : decode cX7_toldFrom 63 = .ok (.aload_n 0, 1) := by decide +kernel
theorem dX7_toldFrom_64 : decode cX7_toldFrom 64 = .ok (.lload 6, 2) := by decide +kernel
theorem dX7_toldFrom_66 : decode cX7_toldFrom 66 = .ok (.putfield 111, 3) := by decide +kernel
theorem dX7_toldFrom_69 : decode cX7_toldFrom 69 = .ok (.aload_n 0, 1) := by decide +kernel
theorem dX7_toldFrom_70 : decode cX7_toldFrom 70 = .ok (.lload 9, 2) := by decide +kernel
theorem dX7_toldFrom_72 : decode cX7_toldFrom 72 = .ok (.lload 11, 2) := by decide +kernel
theorem dX7_toldFrom_74 : decode cX7_toldFrom 74 = .ok (.iconst 1, 1) := by decide +kernel
theorem dX7_toldFrom_75 : decode cX7_toldFrom 75 = .ok (.invokevirtual 141, 3) := by decide +kernel
theorem dX7_toldFrom_78 : decode cX7_toldFrom 78 = .ok (.aload_n 0, 1) := by decide +kernel
theorem dX7_toldFrom_79 : decode cX7_toldFrom 79 = .ok (.getfield 107, 3) := by decide +kernel
theorem dX7_toldFrom_82 : decode cX7_toldFrom 82 = .ok (.lstore 4, 2) := by decide +kernel
theorem dX7_toldFrom_84 : decode cX7_toldFrom 84 = .ok (.aload_n 0, 1) := by decide +kernel
theorem dX7_toldFrom_85 : decode cX7_toldFrom 85 = .ok (.getfield 111, 3) := by decide +kernel
theorem dX7_toldFrom_88 : decode cX7_toldFrom 88 = .ok (.lstore 6, 2) := by decide +kernel
theorem dX7_toldFrom_90 : decode cX7_toldFrom 90 = .ok (.iinc 8 1, 3) := by decide +kernel
theorem dX7_toldFrom_93 : decode cX7_toldFrom 93 = .ok (.goto (-71), 3) := by decide +kernel
theorem dX7_toldFrom_96 : decode cX7_toldFrom 96 = .ok (.aload_n 0, 1) := by decide +kernel
theorem dX7_toldFrom_97 : decode cX7_toldFrom 97 = .ok (.lload 4, 2) := by decide +kernel
theorem dX7_toldFrom_99 : decode cX7_toldFrom 99 = .ok (.putfield 107, 3) := by decide +kernel
theorem dX7_toldFrom_102 : decode cX7_toldFrom 102 = .ok (.aload_n 0, 1) := by decide +kernel
theorem dX7_toldFrom_103 : decode cX7_toldFrom 103 = .ok (.lload 6, 2) := by decide +kernel
theorem dX7_toldFrom_105 : decode cX7_toldFrom 105 = .ok (.putfield 111, 3) := by decide +kernel
theorem dX7_toldFrom_108 : decode cX7_toldFrom 108 = .ok (.return_, 1) := by decide +kernel
theorem dX7_sliceChance_0 : decode cX7_sliceChance 0 = .ok (.lconst 0, 1) := by decide +kernel
theorem dX7_sliceChance_1 : decode cX7_sliceChance 1 = .ok (.lstore 4, 2) := by decide +kernel
theorem dX7_sliceChance_3 : decode cX7_sliceChance 3 = .ok (.aload_n 0, 1) := by decide +kernel
theorem dX7_sliceChance_4 : decode cX7_sliceChance 4 = .ok (.getfield 13, 3) := by decide +kernel
theorem dX7_sliceChance_7 : decode cX7_sliceChance 7 = .ok (.iload_n 1, 1) := by decide +kernel
theorem dX7_sliceChance_8 : decode cX7_sliceChance 8 = .ok (.iaload, 1) := by decide +kernel
theorem dX7_sliceChance_9 : decode cX7_sliceChance 9 = .ok (.istore 6, 2) := by decide +kernel
theorem dX7_sliceChance_11 : decode cX7_sliceChance 11 = .ok (.iconst 1, 1) := by decide +kernel
theorem dX7_sliceChance_12 : decode cX7_sliceChance 12 = .ok (.istore 7, 2) := by decide +kernel
theorem dX7_sliceChance_14 : decode cX7_sliceChance 14 = .ok (.iload 7, 2) := by decide +kernel
theorem dX7_sliceChance_16 : decode cX7_sliceChance 16 = .ok (.iload 6, 2) := by decide +kernel
theorem dX7_sliceChance_18 : decode cX7_sliceChance 18 = .ok (.if_icmp .gt 115, 3) := by decide +kernel
theorem dX7_sliceChance_21 : decode cX7_sliceChance 21 = .ok (.iload 6, 2) := by decide +kernel
theorem dX7_sliceChance_23 : decode cX7_sliceChance 23 = .ok (.istore 8, 2) := by decide +kernel
theorem dX7_sliceChance_25 : decode cX7_sliceChance 25 = .ok (.iconst 0, 1) := by decide +kernel
theorem dX7_sliceChance_26 : decode cX7_sliceChance 26 = .ok (.istore 9, 2) := by decide +kernel
theorem dX7_sliceChance_28 : decode cX7_sliceChance 28 = .ok (.iload 9, 2) := by decide +kernel
theorem dX7_sliceChance_30 : decode cX7_sliceChance 30 = .ok (.aload_n 0, 1) := by decide +kernel
theorem dX7_sliceChance_31 : decode cX7_sliceChance 31 = .ok (.getfield 7, 3) := by decide +kernel
theorem dX7_sliceChance_34 : decode cX7_sliceChance 34 = .ok (.iload_n 3, 1) := by decide +kernel
theorem dX7_sliceChance_35 : decode cX7_sliceChance 35 = .ok (.iaload, 1) := by decide +kernel
theorem dX7_sliceChance_36 : decode cX7_sliceChance 36 = .ok (.if_icmp .ge 47, 3) := by decide +kernel
theorem dX7_sliceChance_39 : decode cX7_sliceChance 39 = .ok (.aload_n 0, 1) := by decide +kernel
theorem dX7_sliceChance_40 : decode cX7_sliceChance 40 = .ok (.getfield 13, 3) := by decide +kernel
theorem dX7_sliceChance_43 : decode cX7_sliceChance 43 = .ok (.aload_n 0, 1) := by decide +kernel
theorem dX7_sliceChance_44 : decode cX7_sliceChance 44 = .ok (.iload_n 1, 1) := by decide +kernel
theorem dX7_sliceChance_45 : decode cX7_sliceChance 45 = .ok (.iload_n 3, 1) := by decide +kernel
theorem dX7_sliceChance_46 : decode cX7_sliceChance 46 = .ok (.iload 9, 2) := by decide +kernel
theorem dX7_sliceChance_48 : decode cX7_sliceChance 48 = .ok (.invokevirtual 122, 3) := by decide +kernel
theorem dX7_sliceChance_51 : decode cX7_sliceChance 51 = .ok (.iaload, 1) := by decide +kernel
theorem dX7_sliceChance_52 : decode cX7_sliceChance 52 = .ok (.istore 10, 2) := by decide +kernel
theorem dX7_sliceChance_54 : decode cX7_sliceChance 54 = .ok (.iload 10, 2) := by decide +kernel
theorem dX7_sliceChance_56 : decode cX7_sliceChance 56 = .ok (.iload 7, 2) := by decide +kernel
theorem dX7_sliceChance_58 : decode cX7_sliceChance 58 = .ok (.if_icmp .lt 15, 3) := by decide +kernel
theorem dX7_sliceChance_61 : decode cX7_sliceChance 61 = .ok (.iload 10, 2) := by decide +kernel
theorem dX7_sliceChance_63 : decode cX7_sliceChance 63 = .ok (.iload 8, 2) := by decide +kernel
theorem dX7_sliceChance_65 : decode cX7_sliceChance 65 = .ok (.if_icmp .ge 8, 3) := by decide +kernel
theorem dX7_sliceChance_68 : decode cX7_sliceChance 68 = .ok (.iload 10, 2) := by decide +kernel
theorem dX7_sliceChance_70 : decode cX7_sliceChance 70 = .ok (.goto 5, 3) := by decide +kernel
theorem dX7_sliceChance_73 : decode cX7_sliceChance 73 = .ok (.iload 8, 2) := by decide +kernel
theorem dX7_sliceChance_75 : decode cX7_sliceChance 75 = .ok (.istore 8, 2) := by decide +kernel
theorem dX7_sliceChance_77 : decode cX7_sliceChance 77 = .ok (.iinc 9 1, 3) := by decide +kernel
theorem dX7_sliceChance_80 : decode cX7_sliceChance 80 = .ok (.goto (-52), 3) := by decide +kernel
theorem dX7_sliceChance_83 : decode cX7_sliceChance 83 = .ok (.lload 4, 2) := by decide +kernel
theorem dX7_sliceChance_85 : decode cX7_sliceChance 85 = .ok (.aload_n 0, 1) := by decide +kernel
theorem dX7_sliceChance_86 : decode cX7_sliceChance 86 = .ok (.getfield 13, 3) := by decide +kernel
theorem dX7_sliceChance_89 : decode cX7_sliceChance 89 = .ok (.iload_n 2, 1) := by decide +kernel
theorem dX7_sliceChance_90 : decode cX7_sliceChance 90 = .ok (.iaload, 1) := by decide +kernel
theorem dX7_sliceChance_91 : decode cX7_sliceChance 91 = .ok (.iload 7, 2) := by decide +kernel
theorem dX7_sliceChance_93 : decode cX7_sliceChance 93 = .ok (.if_icmp .lt 27, 3) := by decide +kernel
theorem dX7_sliceChance_96 : decode cX7_sliceChance 96 = .ok (.iload 8, 2) := by decide +kernel
theorem dX7_sliceChance_98 : decode cX7_sliceChance 98 = .ok (.iload 7, 2) := by decide +kernel
theorem dX7_sliceChance_100 : decode cX7_sliceChance 100 = .ok (.isub, 1) := by decide +kernel
theorem dX7_sliceChance_101 : decode cX7_sliceChance 101 = .ok (.iconst 1, 1) := by decide +kernel
theorem dX7_sliceChance_102 : decode cX7_sliceChance 102 = .ok (.iadd, 1) := by decide +kernel
theorem dX7_sliceChance_103 : decode cX7_sliceChance 103 = .ok (.i2l, 1) := by decide +kernel
theorem dX7_sliceChance_104 : decode cX7_sliceChance 104 = .ok (.bipush 60, 2) := by decide +kernel
theorem dX7_sliceChance_106 : decode cX7_sliceChance 106 = .ok (.aload_n 0, 1) := by decide +kernel
theorem dX7_sliceChance_107 : decode cX7_sliceChance 107 = .ok (.iload_n 1, 1) := by decide +kernel
theorem dX7_sliceChance_108 : decode cX7_sliceChance 108 = .ok (.iload_n 3, 1) := by decide +kernel
theorem dX7_sliceChance_109 : decode cX7_sliceChance 109 = .ok (.iload 7, 2) := by decide +kernel
theorem dX7_sliceChance_111 : decode cX7_sliceChance 111 = .ok (.invokevirtual 145, 3) := by decide +kernel
theorem dX7_sliceChance_114 : decode cX7_sliceChance 114 = .ok (.idiv, 1) := by decide +kernel
theorem dX7_sliceChance_115 : decode cX7_sliceChance 115 = .ok (.i2l, 1) := by decide +kernel
theorem dX7_sliceChance_116 : decode cX7_sliceChance 116 = .ok (.lmul, 1) := by decide +kernel
theorem dX7_sliceChance_117 : decode cX7_sliceChance 117 = .ok (.goto 4, 3) := by decide +kernel
theorem dX7_sliceChance_120 : decode cX7_sliceChance 120 = .ok (.lconst 0, 1) := by decide +kernel
theorem dX7_sliceChance_121 : decode cX7_sliceChance 121 = .ok (.ladd, 1) := by decide +kernel
theorem dX7_sliceChance_122 : decode cX7_sliceChance 122 = .ok (.lstore 4, 2) := by decide +kernel
theorem dX7_sliceChance_124 : decode cX7_sliceChance 124 = .ok (.iload 8, 2) := by decide +kernel
theorem dX7_sliceChance_126 : decode cX7_sliceChance 126 = .ok (.iconst 1, 1) := by decide +kernel
theorem dX7_sliceChance_127 : decode cX7_sliceChance 127 = .ok (.iadd, 1) := by decide +kernel
theorem dX7_sliceChance_128 : decode cX7_sliceChance 128 = .ok (.istore 7, 2) := by decide +kernel
theorem dX7_sliceChance_130 : decode cX7_sliceChance 130 = .ok (.goto (-116), 3) := by decide +kernel
theorem dX7_sliceChance_133 : decode cX7_sliceChance 133 = .ok (.aload_n 0, 1) := by decide +kernel
theorem dX7_sliceChance_134 : decode cX7_sliceChance 134 = .ok (.lload 4, 2) := by decide +kernel
theorem dX7_sliceChance_136 : decode cX7_sliceChance 136 = .ok (.ldc2_w 148, 3) := by decide +kernel
theorem dX7_sliceChance_139 : decode cX7_sliceChance 139 = .ok (.iload 6, 2) := by decide +kernel
theorem dX7_sliceChance_141 : decode cX7_sliceChance 141 = .ok (.i2l, 1) := by decide +kernel
theorem dX7_sliceChance_142 : decode cX7_sliceChance 142 = .ok (.lmul, 1) := by decide +kernel
theorem dX7_sliceChance_143 : decode cX7_sliceChance 143 = .ok (.invokevirtual 118, 3) := by decide +kernel
theorem dX7_sliceChance_146 : decode cX7_sliceChance 146 = .ok (.return_, 1) := by decide +kernel
theorem dX7_plainChance_0 : decode cX7_plainChance 0 = .ok (.aload_n 0, 1) := by decide +kernel
theorem dX7_plainChance_1 : decode cX7_plainChance 1 = .ok (.getfield 19, 3) := by decide +kernel
theorem dX7_plainChance_4 : decode cX7_plainChance 4 = .ok (.iload_n 1, 1) := by decide +kernel
theorem dX7_plainChance_5 : decode cX7_plainChance 5 = .ok (.iaload, 1) := by decide +kernel
theorem dX7_plainChance_6 : decode cX7_plainChance 6 = .ok (.istore 4, 2) := by decide +kernel
theorem dX7_plainChance_8 : decode cX7_plainChance 8 = .ok (.aload_n 0, 1) := by decide +kernel
theorem dX7_plainChance_9 : decode cX7_plainChance 9 = .ok (.iload_n 2, 1) := by decide +kernel
theorem dX7_plainChance_10 : decode cX7_plainChance 10 = .ok (.iload_n 3, 1) := by decide +kernel
theorem dX7_plainChance_11 : decode cX7_plainChance 11 = .ok (.if_icmp .ne 7, 3) := by decide +kernel
theorem dX7_plainChance_14 : decode cX7_plainChance 14 = .ok (.lconst 1, 1) := by decide +kernel
theorem dX7_plainChance_15 : decode cX7_plainChance 15 = .ok (.goto 4, 3) := by decide +kernel
theorem dX7_plainChance_18 : decode cX7_plainChance 18 = .ok (.lconst 0, 1) := by decide +kernel
theorem dX7_plainChance_19 : decode cX7_plainChance 19 = .ok (.lconst 1, 1) := by decide +kernel
theorem dX7_plainChance_20 : decode cX7_plainChance 20 = .ok (.invokevirtual 118, 3) := by decide +kernel
theorem dX7_plainChance_23 : decode cX7_plainChance 23 = .ok (.aload_n 0, 1) := by decide +kernel
theorem dX7_plainChance_24 : decode cX7_plainChance 24 = .ok (.getfield 16, 3) := by decide +kernel
theorem dX7_plainChance_27 : decode cX7_plainChance 27 = .ok (.iload_n 1, 1) := by decide +kernel
theorem dX7_plainChance_28 : decode cX7_plainChance 28 = .ok (.iaload, 1) := by decide +kernel
theorem dX7_plainChance_29 : decode cX7_plainChance 29 = .ok (.tableswitch 262 0 3 #[31, 75, 182, 254], 31) := by decide +kernel
theorem dX7_plainChance_60 : decode cX7_plainChance 60 = .ok (.aload_n 0, 1) := by decide +kernel
theorem dX7_plainChance_61 : decode cX7_plainChance 61 = .ok (.iload_n 2, 1) := by decide +kernel
theorem dX7_plainChance_62 : decode cX7_plainChance 62 = .ok (.iload 4, 2) := by decide +kernel
theorem dX7_plainChance_64 : decode cX7_plainChance 64 = .ok (.invokevirtual 150, 3) := by decide +kernel
theorem dX7_plainChance_67 : decode cX7_plainChance 67 = .ok (.istore 5, 2) := by decide +kernel
theorem dX7_plainChance_69 : decode cX7_plainChance 69 = .ok (.iload 5, 2) := by decide +kernel
theorem dX7_plainChance_71 : decode cX7_plainChance 71 = .ok (.ifCond .le 32, 3) := by decide +kernel
theorem dX7_plainChance_74 : decode cX7_plainChance 74 = .ok (.aload_n 0, 1) := by decide +kernel
theorem dX7_plainChance_75 : decode cX7_plainChance 75 = .ok (.aload_n 0, 1) := by decide +kernel
theorem dX7_plainChance_76 : decode cX7_plainChance 76 = .ok (.iload_n 2, 1) := by decide +kernel
theorem dX7_plainChance_77 : decode cX7_plainChance 77 = .ok (.iload_n 3, 1) := by decide +kernel
theorem dX7_plainChance_78 : decode cX7_plainChance 78 = .ok (.iload 4, 2) := by decide +kernel
theorem dX7_plainChance_80 : decode cX7_plainChance 80 = .ok (.invokevirtual 153, 3) := by decide +kernel
theorem dX7_plainChance_83 : decode cX7_plainChance 83 = .ok (.ifCond .eq 13, 3) := by decide +kernel
theorem dX7_plainChance_86 : decode cX7_plainChance 86 = .ok (.aload_n 0, 1) := by decide +kernel
theorem dX7_plainChance_87 : decode cX7_plainChance 87 = .ok (.getfield 13, 3) := by decide +kernel
theorem dX7_plainChance_90 : decode cX7_plainChance 90 = .ok (.iload_n 3, 1) := by decide +kernel
theorem dX7_plainChance_91 : decode cX7_plainChance 91 = .ok (.iaload, 1) := by decide +kernel
theorem dX7_plainChance_92 : decode cX7_plainChance 92 = .ok (.i2l, 1) := by decide +kernel
theorem dX7_plainChance_93 : decode cX7_plainChance 93 = .ok (.goto 4, 3) := by decide +kernel
theorem dX7_plainChance_96 : decode cX7_plainChance 96 = .ok (.lconst 0, 1) := by decide +kernel
theorem dX7_plainChance_97 : decode cX7_plainChance 97 = .ok (.iload 5, 2) := by decide +kernel
theorem dX7_plainChance_99 : decode cX7_plainChance 99 = .ok (.i2l, 1) := by decide +kernel
theorem dX7_plainChance_100 : decode cX7_plainChance 100 = .ok (.invokevirtual 118, 3) := by decide +kernel
theorem dX7_plainChance_103 : decode cX7_plainChance 103 = .ok (.return_, 1) := by decide +kernel
theorem dX7_plainChance_104 : decode cX7_plainChance 104 = .ok (.aload_n 0, 1) := by decide +kernel
theorem dX7_plainChance_105 : decode cX7_plainChance 105 = .ok (.iload_n 2, 1) := by decide +kernel
theorem dX7_plainChance_106 : decode cX7_plainChance 106 = .ok (.iload 4, 2) := by decide +kernel
theorem dX7_plainChance_108 : decode cX7_plainChance 108 = .ok (.iconst 1, 1) := by decide +kernel
theorem dX7_plainChance_109 : decode cX7_plainChance 109 = .ok (.invokevirtual 156, 3) := by decide +kernel
theorem dX7_plainChance_112 : decode cX7_plainChance 112 = .ok (.istore 6, 2) := by decide +kernel
theorem dX7_plainChance_114 : decode cX7_plainChance 114 = .ok (.aload_n 0, 1) := by decide +kernel
theorem dX7_plainChance_115 : decode cX7_plainChance 115 = .ok (.iload_n 2, 1) := by decide +kernel
theorem dX7_plainChance_116 : decode cX7_plainChance 116 = .ok (.iload 4, 2) := by decide +kernel
theorem dX7_plainChance_118 : decode cX7_plainChance 118 = .ok (.iconst 0, 1) := by decide +kernel
theorem dX7_plainChance_119 : decode cX7_plainChance 119 = .ok (.invokevirtual 156, 3) := by decide +kernel
theorem dX7_plainChance_122 : decode cX7_plainChance 122 = .ok (.istore 7, 2) := by decide +kernel
theorem dX7_plainChance_124 : decode cX7_plainChance 124 = .ok (.ldc2_w 160, 3) := by decide +kernel
theorem dX7_plainChance_127 : decode cX7_plainChance 127 = .ok (.aload_n 0, 1) := by decide +kernel
theorem dX7_plainChance_128 : decode cX7_plainChance 128 = .ok (.iload_n 2, 1) := by decide +kernel
theorem dX7_plainChance_129 : decode cX7_plainChance 129 = .ok (.invokevirtual 162, 3) := by decide +kernel
theorem dX7_plainChance_132 : decode cX7_plainChance 132 = .ok (.i2l, 1) := by decide +kernel
theorem dX7_plainChance_133 : decode cX7_plainChance 133 = .ok (.lmul, 1) := by decide +kernel
theorem dX7_plainChance_134 : decode cX7_plainChance 134 = .ok (.lstore 8, 2) := by decide +kernel
theorem dX7_plainChance_136 : decode cX7_plainChance 136 = .ok (.iload_n 2, 1) := by decide +kernel
theorem dX7_plainChance_137 : decode cX7_plainChance 137 = .ok (.iload_n 3, 1) := by decide +kernel
theorem dX7_plainChance_138 : decode cX7_plainChance 138 = .ok (.if_icmp .ne 26, 3) := by decide +kernel
theorem dX7_plainChance_141 : decode cX7_plainChance 141 = .ok (.lload 8, 2) := by decide +kernel
theorem dX7_plainChance_143 : decode cX7_plainChance 143 = .ok (.aload_n 0, 1) := by decide +kernel
theorem dX7_plainChance_144 : decode cX7_plainChance 144 = .ok (.iload_n 2, 1) := by decide +kernel
theorem dX7_plainChance_145 : decode cX7_plainChance 145 = .ok (.iload 6, 2) := by decide +kernel
theorem dX7_plainChance_147 : decode cX7_plainChance 147 = .ok (.invokevirtual 165, 3) := by decide +kernel
theorem dX7_plainChance_150 : decode cX7_plainChance 150 = .ok (.i2l, 1) := by decide +kernel
theorem dX7_plainChance_151 : decode cX7_plainChance 151 = .ok (.lsub, 1) := by decide +kernel
theorem dX7_plainChance_152 : decode cX7_plainChance 152 = .ok (.aload_n 0, 1) := by decide +kernel
theorem dX7_plainChance_153 : decode cX7_plainChance 153 = .ok (.iload_n 2, 1) := by decide +kernel
theorem dX7_plainChance_154 : decode cX7_plainChance 154 = .ok (.iload 7, 2) := by decide +kernel
theorem dX7_plainChance_156 : decode cX7_plainChance 156 = .ok (.invokevirtual 165, 3) := by decide +kernel
theorem dX7_plainChance_159 : decode cX7_plainChance 159 = .ok (.i2l, 1) := by decide +kernel
theorem dX7_plainChance_160 : decode cX7_plainChance 160 = .ok (.lsub, 1) := by decide +kernel
theorem dX7_plainChance_161 : decode cX7_plainChance 161 = .ok (.goto 39, 3) := by decide +kernel
theorem dX7_plainChance_164 : decode cX7_plainChance 164 = .ok (.iload_n 3, 1) := by decide +kernel
theorem dX7_plainChance_165 : decode cX7_plainChance 165 = .ok (.iload 6, 2) := by decide +kernel
theorem dX7_plainChance_167 : decode cX7_plainChance 167 = .ok (.if_icmp .ne 13, 3) := by decide +kernel
theorem dX7_plainChance_170 : decode cX7_plainChance 170 = .ok (.aload_n 0, 1) := by decide +kernel
theorem dX7_plainChance_171 : decode cX7_plainChance 171 = .ok (.iload_n 2, 1) := by decide +kernel
theorem dX7_plainChance_172 : decode cX7_plainChance 172 = .ok (.iload 6, 2) := by decide +kernel
theorem dX7_plainChance_174 : decode cX7_plainChance 174 = .ok (.invokevirtual 165, 3) := by decide +kernel
theorem dX7_plainChance_177 : decode cX7_plainChance 177 = .ok (.goto 4, 3) := by decide +kernel
theorem dX7_plainChance_180 : decode cX7_plainChance 180 = .ok (.iconst 0, 1) := by decide +kernel
theorem dX7_plainChance_181 : decode cX7_plainChance 181 = .ok (.iload_n 3, 1) := by decide +kernel
theorem dX7_plainChance_182 : decode cX7_plainChance 182 = .ok (.iload 7, 2) := by decide +kernel
theorem dX7_plainChance_184 : decode cX7_plainChance 184 = .ok (.if_icmp .ne 13, 3) := by decide +kernel
theorem dX7_plainChance_187 : decode cX7_plainChance 187 = .ok (.aload_n 0, 1) := by decide +kernel
theorem dX7_plainChance_188 : decode cX7_plainChance 188 = .ok (.iload_n 2, 1) := by decide +kernel
theorem dX7_plainChance_189 : decode cX7_plainChance 189 = .ok (.iload 7, 2) := by decide +kernel
theorem dX7_plainChance_191 : decode cX7_plainChance 191 = .ok (.invokevirtual 165, 3) := by decide +kernel
theorem dX7_plainChance_194 : decode cX7_plainChance 194 = .ok (.goto 4, 3) := by decide +kernel
theorem dX7_plainChance_197 : decode cX7_plainChance 197 = .ok (.iconst 0, 1) := by decide +kernel
theorem dX7_plainChance_198 : decode cX7_plainChance 198 = .ok (.iadd, 1) := by decide +kernel
theorem dX7_plainChance_199 : decode cX7_plainChance 199 = .ok (.i2l, 1) := by decide +kernel
theorem dX7_plainChance_200 : decode cX7_plainChance 200 = .ok (.lstore 10, 2) := by decide +kernel
theorem dX7_plainChance_202 : decode cX7_plainChance 202 = .ok (.aload_n 0, 1) := by decide +kernel
theorem dX7_plainChance_203 : decode cX7_plainChance 203 = .ok (.lload 10, 2) := by decide +kernel
theorem dX7_plainChance_205 : decode cX7_plainChance 205 = .ok (.lload 8, 2) := by decide +kernel
theorem dX7_plainChance_207 : decode cX7_plainChance 207 = .ok (.invokevirtual 118, 3) := by decide +kernel
theorem dX7_plainChance_210 : decode cX7_plainChance 210 = .ok (.return_, 1) := by decide +kernel
theorem dX7_plainChance_211 : decode cX7_plainChance 211 = .ok (.aload_n 0, 1) := by decide +kernel
theorem dX7_plainChance_212 : decode cX7_plainChance 212 = .ok (.iload_n 2, 1) := by decide +kernel
theorem dX7_plainChance_213 : decode cX7_plainChance 213 = .ok (.iload 4, 2) := by decide +kernel
theorem dX7_plainChance_215 : decode cX7_plainChance 215 = .ok (.aload_n 0, 1) := by decide +kernel
theorem dX7_plainChance_216 : decode cX7_plainChance 216 = .ok (.getfield 22, 3) := by decide +kernel
theorem dX7_plainChance_219 : decode cX7_plainChance 219 = .ok (.iload_n 1, 1) := by decide +kernel
theorem dX7_plainChance_220 : decode cX7_plainChance 220 = .ok (.iaload, 1) := by decide +kernel
theorem dX7_plainChance_221 : decode cX7_plainChance 221 = .ok (.invokevirtual 168, 3) := by decide +kernel
theorem dX7_plainChance_224 : decode cX7_plainChance 224 = .ok (.istore 12, 2) := by decide +kernel
theorem dX7_plainChance_226 : decode cX7_plainChance 226 = .ok (.iload 12, 2) := by decide +kernel
theorem dX7_plainChance_228 : decode cX7_plainChance 228 = .ok (.iload_n 2, 1) := by decide +kernel
theorem dX7_plainChance_229 : decode cX7_plainChance 229 = .ok (.if_icmp .eq 53, 3) := by decide +kernel
theorem dX7_plainChance_232 : decode cX7_plainChance 232 = .ok (.aload_n 0, 1) := by decide +kernel
theorem dX7_plainChance_233 : decode cX7_plainChance 233 = .ok (.iload_n 3, 1) := by decide +kernel
theorem dX7_plainChance_234 : decode cX7_plainChance 234 = .ok (.iload 12, 2) := by decide +kernel
theorem dX7_plainChance_236 : decode cX7_plainChance 236 = .ok (.if_icmp .ne 14, 3) := by decide +kernel
theorem dX7_plainChance_239 : decode cX7_plainChance 239 = .ok (.aload_n 0, 1) := by decide +kernel
theorem dX7_plainChance_240 : decode cX7_plainChance 240 = .ok (.iload_n 2, 1) := by decide +kernel
theorem dX7_plainChance_241 : decode cX7_plainChance 241 = .ok (.iload 12, 2) := by decide +kernel
theorem dX7_plainChance_243 : decode cX7_plainChance 243 = .ok (.invokevirtual 165, 3) := by decide +kernel
theorem dX7_plainChance_246 : decode cX7_plainChance 246 = .ok (.i2l, 1) := by decide +kernel
theorem dX7_plainChance_247 : decode cX7_plainChance 247 = .ok (.goto 26, 3) := by decide +kernel
theorem dX7_plainChance_250 : decode cX7_plainChance 250 = .ok (.iload_n 3, 1) := by decide +kernel
theorem dX7_plainChance_251 : decode cX7_plainChance 251 = .ok (.iload_n 2, 1) := by decide +kernel
theorem dX7_plainChance_252 : decode cX7_plainChance 252 = .ok (.if_icmp .ne 20, 3) := by decide +kernel
theorem dX7_plainChance_255 : decode cX7_plainChance 255 = .ok (.aload_n 0, 1) := by decide +kernel
theorem dX7_plainChance_256 : decode cX7_plainChance 256 = .ok (.iload_n 2, 1) := by decide +kernel
theorem dX7_plainChance_257 : decode cX7_plainChance 257 = .ok (.invokevirtual 162, 3) := by decide +kernel
theorem dX7_plainChance_260 : decode cX7_plainChance 260 = .ok (.aload_n 0, 1) := by decide +kernel
theorem dX7_plainChance_261 : decode cX7_plainChance 261 = .ok (.iload_n 2, 1) := by decide +kernel
theorem dX7_plainChance_262 : decode cX7_plainChance 262 = .ok (.iload 12, 2) := by decide +kernel
theorem dX7_plainChance_264 : decode cX7_plainChance 264 = .ok (.invokevirtual 165, 3) := by decide +kernel
theorem dX7_plainChance_267 : decode cX7_plainChance 267 = .ok (.isub, 1) := by decide +kernel
theorem dX7_plainChance_268 : decode cX7_plainChance 268 = .ok (.i2l, 1) := by decide +kernel
theorem dX7_plainChance_269 : decode cX7_plainChance 269 = .ok (.goto 4, 3) := by decide +kernel
theorem dX7_plainChance_272 : decode cX7_plainChance 272 = .ok (.lconst 0, 1) := by decide +kernel
theorem dX7_plainChance_273 : decode cX7_plainChance 273 = .ok (.aload_n 0, 1) := by decide +kernel
theorem dX7_plainChance_274 : decode cX7_plainChance 274 = .ok (.iload_n 2, 1) := by decide +kernel
theorem dX7_plainChance_275 : decode cX7_plainChance 275 = .ok (.invokevirtual 162, 3) := by decide +kernel
theorem dX7_plainChance_278 : decode cX7_plainChance 278 = .ok (.i2l, 1) := by decide +kernel
theorem dX7_plainChance_279 : decode cX7_plainChance 279 = .ok (.invokevirtual 118, 3) := by decide +kernel
theorem dX7_plainChance_282 : decode cX7_plainChance 282 = .ok (.return_, 1) := by decide +kernel
theorem dX7_plainChance_283 : decode cX7_plainChance 283 = .ok (.aload_n 0, 1) := by decide +kernel
theorem dX7_plainChance_284 : decode cX7_plainChance 284 = .ok (.iload_n 1, 1) := by decide +kernel
theorem dX7_plainChance_285 : decode cX7_plainChance 285 = .ok (.iload_n 2, 1) := by decide +kernel
theorem dX7_plainChance_286 : decode cX7_plainChance 286 = .ok (.iload_n 3, 1) := by decide +kernel
theorem dX7_plainChance_287 : decode cX7_plainChance 287 = .ok (.invokevirtual 171, 3) := by decide +kernel
theorem dX7_plainChance_290 : decode cX7_plainChance 290 = .ok (.return_, 1) := by decide +kernel
theorem dX7_plainChance_291 : decode cX7_plainChance 291 = .ok (.aload_n 0, 1) := by decide +kernel
theorem dX7_plainChance_292 : decode cX7_plainChance 292 = .ok (.getfield 13, 3) := by decide +kernel
theorem dX7_plainChance_295 : decode cX7_plainChance 295 = .ok (.iload_n 2, 1) := by decide +kernel
theorem dX7_plainChance_296 : decode cX7_plainChance 296 = .ok (.iaload, 1) := by decide +kernel
theorem dX7_plainChance_297 : decode cX7_plainChance 297 = .ok (.ifCond .le 28, 3) := by decide +kernel
theorem dX7_plainChance_300 : decode cX7_plainChance 300 = .ok (.aload_n 0, 1) := by decide +kernel
theorem dX7_plainChance_301 : decode cX7_plainChance 301 = .ok (.lconst 0, 1) := by decide +kernel
theorem dX7_plainChance_302 : decode cX7_plainChance 302 = .ok (.lconst 1, 1) := by decide +kernel
theorem dX7_plainChance_303 : decode cX7_plainChance 303 = .ok (.invokevirtual 118, 3) := by decide +kernel
theorem dX7_plainChance_306 : decode cX7_plainChance 306 = .ok (.aload_n 0, 1) := by decide +kernel
theorem dX7_plainChance_307 : decode cX7_plainChance 307 = .ok (.iload_n 2, 1) := by decide +kernel
theorem dX7_plainChance_308 : decode cX7_plainChance 308 = .ok (.iload_n 3, 1) := by decide +kernel
theorem dX7_plainChance_309 : decode cX7_plainChance 309 = .ok (.iload 4, 2) := by decide +kernel
theorem dX7_plainChance_311 : decode cX7_plainChance 311 = .ok (.invokevirtual 153, 3) := by decide +kernel
theorem dX7_plainChance_314 : decode cX7_plainChance 314 = .ok (.ifCond .eq 11, 3) := by decide +kernel
theorem dX7_plainChance_317 : decode cX7_plainChance 317 = .ok (.aload_n 0, 1) := by decide +kernel
theorem dX7_plainChance_318 : decode cX7_plainChance 318 = .ok (.iload_n 2, 1) := by decide +kernel
theorem dX7_plainChance_319 : decode cX7_plainChance 319 = .ok (.iload_n 3, 1) := by decide +kernel
theorem dX7_plainChance_320 : decode cX7_plainChance 320 = .ok (.iload 4, 2) := by decide +kernel
theorem dX7_plainChance_322 : decode cX7_plainChance 322 = .ok (.invokevirtual 174, 3) := by decide +kernel
theorem dX7_plainChance_325 : decode cX7_plainChance 325 = .ok (.return_, 1) := by decide +kernel
theorem dX7_at_0 : decode cX7_at 0 = .ok (.sipush 256, 3) := by decide +kernel
theorem dX7_at_3 : decode cX7_at 3 = .ok (.iload_n 1, 1) := by decide +kernel
theorem dX7_at_4 : decode cX7_at 4 = .ok (.imul, 1) := by decide +kernel
theorem dX7_at_5 : decode cX7_at 5 = .ok (.bipush 16, 2) := by decide +kernel
theorem dX7_at_7 : decode cX7_at 7 = .ok (.iload_n 2, 1) := by decide +kernel
theorem dX7_at_8 : decode cX7_at 8 = .ok (.imul, 1) := by decide +kernel
theorem dX7_at_9 : decode cX7_at 9 = .ok (.iadd, 1) := by decide +kernel
theorem dX7_at_10 : decode cX7_at 10 = .ok (.iload_n 3, 1) := by decide +kernel
theorem dX7_at_11 : decode cX7_at 11 = .ok (.iadd, 1) := by decide +kernel
theorem dX7_at_12 : decode cX7_at 12 = .ok (.ireturn, 1) := by decide +kernel
theorem dX7_takes_0 : decode cX7_takes 0 = .ok (.aload_n 0, 1) := by decide +kernel
theorem dX7_takes_1 : decode cX7_takes 1 = .ok (.aload_n 0, 1) := by decide +kernel
theorem dX7_takes_2 : decode cX7_takes 2 = .ok (.getfield 37, 3) := by decide +kernel
theorem dX7_takes_5 : decode cX7_takes 5 = .ok (.iload_n 1, 1) := by decide +kernel
theorem dX7_takes_6 : decode cX7_takes 6 = .ok (.laload, 1) := by decide +kernel
theorem dX7_takes_7 : decode cX7_takes 7 = .ok (.putfield 107, 3) := by decide +kernel
theorem dX7_takes_10 : decode cX7_takes 10 = .ok (.aload_n 0, 1) := by decide +kernel
theorem dX7_takes_11 : decode cX7_takes 11 = .ok (.aload_n 0, 1) := by decide +kernel
theorem dX7_takes_12 : decode cX7_takes 12 = .ok (.getfield 41, 3) := by decide +kernel
theorem dX7_takes_15 : decode cX7_takes 15 = .ok (.iload_n 1, 1) := by decide +kernel
theorem dX7_takes_16 : decode cX7_takes 16 = .ok (.laload, 1) := by decide +kernel
theorem dX7_takes_17 : decode cX7_takes 17 = .ok (.putfield 111, 3) := by decide +kernel
theorem dX7_takes_20 : decode cX7_takes 20 = .ok (.return_, 1) := by decide +kernel
theorem dX7_mixedChance_0 : decode cX7_mixedChance 0 = .ok (.aload_n 0, 1) := by decide +kernel
theorem dX7_mixedChance_1 : decode cX7_mixedChance 1 = .ok (.getfield 28, 3) := by decide +kernel
theorem dX7_mixedChance_4 : decode cX7_mixedChance 4 = .ok (.iload_n 1, 1) := by decide +kernel
theorem dX7_mixedChance_5 : decode cX7_mixedChance 5 = .ok (.iaload, 1) := by decide +kernel
theorem dX7_mixedChance_6 : decode cX7_mixedChance 6 = .ok (.istore 4, 2) := by decide +kernel
theorem dX7_mixedChance_8 : decode cX7_mixedChance 8 = .ok (.aload_n 0, 1) := by decide +kernel
theorem dX7_mixedChance_9 : decode cX7_mixedChance 9 = .ok (.getfield 31, 3) := by decide +kernel
theorem dX7_mixedChance_12 : decode cX7_mixedChance 12 = .ok (.iload_n 1, 1) := by decide +kernel
theorem dX7_mixedChance_13 : decode cX7_mixedChance 13 = .ok (.iaload, 1) := by decide +kernel
theorem dX7_mixedChance_14 : decode cX7_mixedChance 14 = .ok (.istore 5, 2) := by decide +kernel
theorem dX7_mixedChance_16 : decode cX7_mixedChance 16 = .ok (.aload_n 0, 1) := by decide +kernel
theorem dX7_mixedChance_17 : decode cX7_mixedChance 17 = .ok (.iload 4, 2) := by decide +kernel
theorem dX7_mixedChance_19 : decode cX7_mixedChance 19 = .ok (.i2l, 1) := by decide +kernel
theorem dX7_mixedChance_20 : decode cX7_mixedChance 20 = .ok (.iload 4, 2) := by decide +kernel
theorem dX7_mixedChance_22 : decode cX7_mixedChance 22 = .ok (.iload 5, 2) := by decide +kernel
theorem dX7_mixedChance_24 : decode cX7_mixedChance 24 = .ok (.iadd, 1) := by decide +kernel
theorem dX7_mixedChance_25 : decode cX7_mixedChance 25 = .ok (.i2l, 1) := by decide +kernel
theorem dX7_mixedChance_26 : decode cX7_mixedChance 26 = .ok (.invokevirtual 118, 3) := by decide +kernel
theorem dX7_mixedChance_29 : decode cX7_mixedChance 29 = .ok (.aload_n 0, 1) := by decide +kernel
theorem dX7_mixedChance_30 : decode cX7_mixedChance 30 = .ok (.aload_n 0, 1) := by decide +kernel
theorem dX7_mixedChance_31 : decode cX7_mixedChance 31 = .ok (.getfield 37, 3) := by decide +kernel
theorem dX7_mixedChance_34 : decode cX7_mixedChance 34 = .ok (.aload_n 0, 1) := by decide +kernel
theorem dX7_mixedChance_35 : decode cX7_mixedChance 35 = .ok (.aload_n 0, 1) := by decide +kernel
theorem dX7_mixedChance_36 : decode cX7_mixedChance 36 = .ok (.getfield 19, 3) := by decide +kernel
theorem dX7_mixedChance_39 : decode cX7_mixedChance 39 = .ok (.iload_n 1, 1) := by decide +kernel
theorem dX7_mixedChance_40 : decode cX7_mixedChance 40 = .ok (.iaload, 1) := by decide +kernel
theorem dX7_mixedChance_41 : decode cX7_mixedChance 41 = .ok (.iload_n 2, 1) := by decide +kernel
theorem dX7_mixedChance_42 : decode cX7_mixedChance 42 = .ok (.iload_n 3, 1) := by decide +kernel
theorem dX7_mixedChance_43 : decode cX7_mixedChance 43 = .ok (.invokevirtual 177, 3) := by decide +kernel
theorem dX7_mixedChance_46 : decode cX7_mixedChance 46 = .ok (.laload, 1) := by decide +kernel
theorem dX7_mixedChance_47 : decode cX7_mixedChance 47 = .ok (.aload_n 0, 1) := by decide +kernel
theorem dX7_mixedChance_48 : decode cX7_mixedChance 48 = .ok (.getfield 41, 3) := by decide +kernel
theorem dX7_mixedChance_51 : decode cX7_mixedChance 51 = .ok (.aload_n 0, 1) := by decide +kernel
theorem dX7_mixedChance_52 : decode cX7_mixedChance 52 = .ok (.aload_n 0, 1) := by decide +kernel
theorem dX7_mixedChance_53 : decode cX7_mixedChance 53 = .ok (.getfield 19, 3) := by decide +kernel
theorem dX7_mixedChance_56 : decode cX7_mixedChance 56 = .ok (.iload_n 1, 1) := by decide +kernel
theorem dX7_mixedChance_57 : decode cX7_mixedChance 57 = .ok (.iaload, 1) := by decide +kernel
theorem dX7_mixedChance_58 : decode cX7_mixedChance 58 = .ok (.iload_n 2, 1) := by decide +kernel
theorem dX7_mixedChance_59 : decode cX7_mixedChance 59 = .ok (.iload_n 3, 1) := by decide +kernel
theorem dX7_mixedChance_60 : decode cX7_mixedChance 60 = .ok (.invokevirtual 177, 3) := by decide +kernel
theorem dX7_mixedChance_63 : decode cX7_mixedChance 63 = .ok (.laload, 1) := by decide +kernel
theorem dX7_mixedChance_64 : decode cX7_mixedChance 64 = .ok (.invokevirtual 134, 3) := by decide +kernel
theorem dX7_mixedChance_67 : decode cX7_mixedChance 67 = .ok (.aload_n 0, 1) := by decide +kernel
theorem dX7_mixedChance_68 : decode cX7_mixedChance 68 = .ok (.getfield 107, 3) := by decide +kernel
theorem dX7_mixedChance_71 : decode cX7_mixedChance 71 = .ok (.lstore 6, 2) := by decide +kernel
theorem dX7_mixedChance_73 : decode cX7_mixedChance 73 = .ok (.aload_n 0, 1) := by decide +kernel
theorem dX7_mixedChance_74 : decode cX7_mixedChance 74 = .ok (.getfield 111, 3) := by decide +kernel
theorem dX7_mixedChance_77 : decode cX7_mixedChance 77 = .ok (.lstore 8, 2) := by decide +kernel
theorem dX7_mixedChance_79 : decode cX7_mixedChance 79 = .ok (.aload_n 0, 1) := by decide +kernel
theorem dX7_mixedChance_80 : decode cX7_mixedChance 80 = .ok (.iload 5, 2) := by decide +kernel
theorem dX7_mixedChance_82 : decode cX7_mixedChance 82 = .ok (.i2l, 1) := by decide +kernel
theorem dX7_mixedChance_83 : decode cX7_mixedChance 83 = .ok (.iload 4, 2) := by decide +kernel
theorem dX7_mixedChance_85 : decode cX7_mixedChance 85 = .ok (.iload 5, 2) := by decide +kernel
theorem dX7_mixedChance_87 : decode cX7_mixedChance 87 = .ok (.iadd, 1) := by decide +kernel
theorem dX7_mixedChance_88 : decode cX7_mixedChance 88 = .ok (.i2l, 1) := by decide +kernel
theorem dX7_mixedChance_89 : decode cX7_mixedChance 89 = .ok (.invokevirtual 118, 3) := by decide +kernel
theorem dX7_mixedChance_92 : decode cX7_mixedChance 92 = .ok (.aload_n 0, 1) := by decide +kernel
theorem dX7_mixedChance_93 : decode cX7_mixedChance 93 = .ok (.aload_n 0, 1) := by decide +kernel
theorem dX7_mixedChance_94 : decode cX7_mixedChance 94 = .ok (.getfield 37, 3) := by decide +kernel
theorem dX7_mixedChance_97 : decode cX7_mixedChance 97 = .ok (.aload_n 0, 1) := by decide +kernel
theorem dX7_mixedChance_98 : decode cX7_mixedChance 98 = .ok (.aload_n 0, 1) := by decide +kernel
theorem dX7_mixedChance_99 : decode cX7_mixedChance 99 = .ok (.getfield 22, 3) := by decide +kernel
theorem dX7_mixedChance_102 : decode cX7_mixedChance 102 = .ok (.iload_n 1, 1) := by decide +kernel
theorem dX7_mixedChance_103 : decode cX7_mixedChance 103 = .ok (.iaload, 1) := by decide +kernel
theorem dX7_mixedChance_104 : decode cX7_mixedChance 104 = .ok (.iload_n 2, 1) := by decide +kernel
theorem dX7_mixedChance_105 : decode cX7_mixedChance 105 = .ok (.iload_n 3, 1) := by decide +kernel
theorem dX7_mixedChance_106 : decode cX7_mixedChance 106 = .ok (.invokevirtual 177, 3) := by decide +kernel
theorem dX7_mixedChance_109 : decode cX7_mixedChance 109 = .ok (.laload, 1) := by decide +kernel
theorem dX7_mixedChance_110 : decode cX7_mixedChance 110 = .ok (.aload_n 0, 1) := by decide +kernel
theorem dX7_mixedChance_111 : decode cX7_mixedChance 111 = .ok (.getfield 41, 3) := by decide +kernel
theorem dX7_mixedChance_114 : decode cX7_mixedChance 114 = .ok (.aload_n 0, 1) := by decide +kernel
theorem dX7_mixedChance_115 : decode cX7_mixedChance 115 = .ok (.aload_n 0, 1) := by decide +kernel
theorem dX7_mixedChance_116 : decode cX7_mixedChance 116 = .ok (.getfield 22, 3) := by decide +kernel
theorem dX7_mixedChance_119 : decode cX7_mixedChance 119 = .ok (.iload_n 1, 1) := by decide +kernel
theorem dX7_mixedChance_120 : decode cX7_mixedChance 120 = .ok (.iaload, 1) := by decide +kernel
theorem dX7_mixedChance_121 : decode cX7_mixedChance 121 = .ok (.iload_n 2, 1) := by decide +kernel
theorem dX7_mixedChance_122 : decode cX7_mixedChance 122 = .ok (.iload_n 3, 1) := by decide +kernel
theorem dX7_mixedChance_123 : decode cX7_mixedChance 123 = .ok (.invokevirtual 177, 3) := by decide +kernel
theorem dX7_mixedChance_126 : decode cX7_mixedChance 126 = .ok (.laload, 1) := by decide +kernel
theorem dX7_mixedChance_127 : decode cX7_mixedChance 127 = .ok (.invokevirtual 134, 3) := by decide +kernel
theorem dX7_mixedChance_130 : decode cX7_mixedChance 130 = .ok (.aload_n 0, 1) := by decide +kernel
theorem dX7_mixedChance_131 : decode cX7_mixedChance 131 = .ok (.getfield 107, 3) := by decide +kernel
theorem dX7_mixedChance_134 : decode cX7_mixedChance 134 = .ok (.lstore 10, 2) := by decide +kernel
theorem dX7_mixedChance_136 : decode cX7_mixedChance 136 = .ok (.aload_n 0, 1) := by decide +kernel
theorem dX7_mixedChance_137 : decode cX7_mixedChance 137 = .ok (.getfield 111, 3) := by decide +kernel
theorem dX7_mixedChance_140 : decode cX7_mixedChance 140 = .ok (.lstore 12, 2) := by decide +kernel
theorem dX7_mixedChance_142 : decode cX7_mixedChance 142 = .ok (.aload_n 0, 1) := by decide +kernel
theorem dX7_mixedChance_143 : decode cX7_mixedChance 143 = .ok (.lload 6, 2) := by decide +kernel
theorem dX7_mixedChance_145 : decode cX7_mixedChance 145 = .ok (.putfield 107, 3) := by decide +kernel
theorem dX7_mixedChance_148 : decode cX7_mixedChance 148 = .ok (.aload_n 0, 1) := by decide +kernel
theorem dX7_mixedChance_149 : decode cX7_mixedChance 149 = .ok (.lload 8, 2) := by decide +kernel
theorem dX7_mixedChance_151 : decode cX7_mixedChance 151 = .ok (.putfield 111, 3) := by decide +kernel
theorem dX7_mixedChance_154 : decode cX7_mixedChance 154 = .ok (.aload_n 0, 1) := by decide +kernel
theorem dX7_mixedChance_155 : decode cX7_mixedChance 155 = .ok (.lload 10, 2) := by decide +kernel
theorem dX7_mixedChance_157 : decode cX7_mixedChance 157 = .ok (.lload 12, 2) := by decide +kernel
theorem dX7_mixedChance_159 : decode cX7_mixedChance 159 = .ok (.iconst 0, 1) := by decide +kernel
theorem dX7_mixedChance_160 : decode cX7_mixedChance 160 = .ok (.invokevirtual 141, 3) := by decide +kernel
theorem dX7_mixedChance_163 : decode cX7_mixedChance 163 = .ok (.return_, 1) := by decide +kernel
theorem dX7_cycleChance_0 : decode cX7_cycleChance 0 = .ok (.lconst 0, 1) := by decide +kernel
theorem dX7_cycleChance_1 : decode cX7_cycleChance 1 = .ok (.lstore 4, 2) := by decide +kernel
theorem dX7_cycleChance_3 : decode cX7_cycleChance 3 = .ok (.lconst 1, 1) := by decide +kernel
theorem dX7_cycleChance_4 : decode cX7_cycleChance 4 = .ok (.lstore 6, 2) := by decide +kernel
theorem dX7_cycleChance_6 : decode cX7_cycleChance 6 = .ok (.iconst 0, 1) := by decide +kernel
theorem dX7_cycleChance_7 : decode cX7_cycleChance 7 = .ok (.istore 8, 2) := by decide +kernel
theorem dX7_cycleChance_9 : decode cX7_cycleChance 9 = .ok (.iload 8, 2) := by decide +kernel
theorem dX7_cycleChance_11 : decode cX7_cycleChance 11 = .ok (.aload_n 0, 1) := by decide +kernel
theorem dX7_cycleChance_12 : decode cX7_cycleChance 12 = .ok (.getfield 64, 3) := by decide +kernel
theorem dX7_cycleChance_15 : decode cX7_cycleChance 15 = .ok (.if_icmp .ge 118, 3) := by decide +kernel
theorem dX7_cycleChance_18 : decode cX7_cycleChance 18 = .ok (.lload 6, 2) := by decide +kernel
theorem dX7_cycleChance_20 : decode cX7_cycleChance 20 = .ok (.lconst 0, 1) := by decide +kernel
theorem dX7_cycleChance_21 : decode cX7_cycleChance 21 = .ok (.lcmp, 1) := by decide +kernel
theorem dX7_cycleChance_22 : decode cX7_cycleChance 22 = .ok (.ifCond .le 111, 3) := by decide +kernel
theorem dX7_cycleChance_25 : decode cX7_cycleChance 25 = .ok (.aload_n 0, 1) := by decide +kernel
theorem dX7_cycleChance_26 : decode cX7_cycleChance 26 = .ok (.aload_n 0, 1) := by decide +kernel
theorem dX7_cycleChance_27 : decode cX7_cycleChance 27 = .ok (.aload_n 0, 1) := by decide +kernel
theorem dX7_cycleChance_28 : decode cX7_cycleChance 28 = .ok (.getfield 19, 3) := by decide +kernel
theorem dX7_cycleChance_31 : decode cX7_cycleChance 31 = .ok (.iload_n 1, 1) := by decide +kernel
theorem dX7_cycleChance_32 : decode cX7_cycleChance 32 = .ok (.iaload, 1) := by decide +kernel
theorem dX7_cycleChance_33 : decode cX7_cycleChance 33 = .ok (.iload_n 2, 1) := by decide +kernel
theorem dX7_cycleChance_34 : decode cX7_cycleChance 34 = .ok (.iload 8, 2) := by decide +kernel
theorem dX7_cycleChance_36 : decode cX7_cycleChance 36 = .ok (.invokevirtual 177, 3) := by decide +kernel
theorem dX7_cycleChance_39 : decode cX7_cycleChance 39 = .ok (.invokevirtual 180, 3) := by decide +kernel
theorem dX7_cycleChance_42 : decode cX7_cycleChance 42 = .ok (.aload_n 0, 1) := by decide +kernel
theorem dX7_cycleChance_43 : decode cX7_cycleChance 43 = .ok (.aload_n 0, 1) := by decide +kernel
theorem dX7_cycleChance_44 : decode cX7_cycleChance 44 = .ok (.getfield 37, 3) := by decide +kernel
theorem dX7_cycleChance_47 : decode cX7_cycleChance 47 = .ok (.aload_n 0, 1) := by decide +kernel
theorem dX7_cycleChance_48 : decode cX7_cycleChance 48 = .ok (.aload_n 0, 1) := by decide +kernel
theorem dX7_cycleChance_49 : decode cX7_cycleChance 49 = .ok (.getfield 22, 3) := by decide +kernel
theorem dX7_cycleChance_52 : decode cX7_cycleChance 52 = .ok (.iload_n 1, 1) := by decide +kernel
theorem dX7_cycleChance_53 : decode cX7_cycleChance 53 = .ok (.iaload, 1) := by decide +kernel
theorem dX7_cycleChance_54 : decode cX7_cycleChance 54 = .ok (.iload 8, 2) := by decide +kernel
theorem dX7_cycleChance_56 : decode cX7_cycleChance 56 = .ok (.iload_n 3, 1) := by decide +kernel
theorem dX7_cycleChance_57 : decode cX7_cycleChance 57 = .ok (.invokevirtual 177, 3) := by decide +kernel
theorem dX7_cycleChance_60 : decode cX7_cycleChance 60 = .ok (.laload, 1) := by decide +kernel
theorem dX7_cycleChance_61 : decode cX7_cycleChance 61 = .ok (.aload_n 0, 1) := by decide +kernel
theorem dX7_cycleChance_62 : decode cX7_cycleChance 62 = .ok (.getfield 41, 3) := by decide +kernel
theorem dX7_cycleChance_65 : decode cX7_cycleChance 65 = .ok (.aload_n 0, 1) := by decide +kernel
theorem dX7_cycleChance_66 : decode cX7_cycleChance 66 = .ok (.aload_n 0, 1) := by decide +kernel
theorem dX7_cycleChance_67 : decode cX7_cycleChance 67 = .ok (.getfield 22, 3) := by decide +kernel
theorem dX7_cycleChance_70 : decode cX7_cycleChance 70 = .ok (.iload_n 1, 1) := by decide +kernel
theorem dX7_cycleChance_71 : decode cX7_cycleChance 71 = .ok (.iaload, 1) := by decide +kernel
theorem dX7_cycleChance_72 : decode cX7_cycleChance 72 = .ok (.iload 8, 2) := by decide +kernel
