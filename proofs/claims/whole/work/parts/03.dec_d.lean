theorem dX7_in_0 : decode cX7_in 0 = .ok (.lload_n 0, 1) := by decide +kernel
theorem dX7_in_1 : decode cX7_in 1 = .ok (.lload_n 2, 1) := by decide +kernel
theorem dX7_in_2 : decode cX7_in 2 = .ok (.lcmp, 1) := by decide +kernel
theorem dX7_in_3 : decode cX7_in 3 = .ok (.ifCond .lt 14, 3) := by decide +kernel
theorem dX7_in_6 : decode cX7_in 6 = .ok (.lload_n 0, 1) := by decide +kernel
theorem dX7_in_7 : decode cX7_in 7 = .ok (.lload 4, 2) := by decide +kernel
theorem dX7_in_9 : decode cX7_in 9 = .ok (.lcmp, 1) := by decide +kernel
theorem dX7_in_10 : decode cX7_in 10 = .ok (.ifCond .gt 7, 3) := by decide +kernel
theorem dX7_in_13 : decode cX7_in 13 = .ok (.iconst 1, 1) := by decide +kernel
theorem dX7_in_14 : decode cX7_in 14 = .ok (.goto 4, 3) := by decide +kernel
theorem dX7_in_17 : decode cX7_in 17 = .ok (.iconst 0, 1) := by decide +kernel
theorem dX7_in_18 : decode cX7_in 18 = .ok (.ireturn, 1) := by decide +kernel
theorem dX7_within_0 : decode cX7_within 0 = .ok (.iload_n 0, 1) := by decide +kernel
theorem dX7_within_1 : decode cX7_within 1 = .ok (.iload_n 1, 1) := by decide +kernel
theorem dX7_within_2 : decode cX7_within 2 = .ok (.if_icmp .ge 7, 3) := by decide +kernel
theorem dX7_within_5 : decode cX7_within 5 = .ok (.iload_n 1, 1) := by decide +kernel
theorem dX7_within_6 : decode cX7_within 6 = .ok (.goto 13, 3) := by decide +kernel
theorem dX7_within_9 : decode cX7_within 9 = .ok (.iload_n 0, 1) := by decide +kernel
theorem dX7_within_10 : decode cX7_within 10 = .ok (.iload_n 2, 1) := by decide +kernel
theorem dX7_within_11 : decode cX7_within 11 = .ok (.if_icmp .le 7, 3) := by decide +kernel
theorem dX7_within_14 : decode cX7_within 14 = .ok (.iload_n 2, 1) := by decide +kernel
theorem dX7_within_15 : decode cX7_within 15 = .ok (.goto 4, 3) := by decide +kernel
theorem dX7_within_18 : decode cX7_within 18 = .ok (.iload_n 0, 1) := by decide +kernel
theorem dX7_within_19 : decode cX7_within 19 = .ok (.ireturn, 1) := by decide +kernel
theorem dX7_init_0 : decode cX7_init 0 = .ok (.aload_n 0, 1) := by decide +kernel
theorem dX7_init_1 : decode cX7_init 1 = .ok (.invokespecial 7, 3) := by decide +kernel
theorem dX7_init_4 : decode cX7_init 4 = .ok (.aload_n 0, 1) := by decide +kernel
theorem dX7_init_5 : decode cX7_init 5 = .ok (.sipush 960, 3) := by decide +kernel
theorem dX7_init_8 : decode cX7_init 8 = .ok (.newarray .int, 2) := by decide +kernel
theorem dX7_init_10 : decode cX7_init 10 = .ok (.putfield 13, 3) := by decide +kernel
theorem dX7_init_13 : decode cX7_init 13 = .ok (.aload_n 0, 1) := by decide +kernel
theorem dX7_init_14 : decode cX7_init 14 = .ok (.bipush 6, 2) := by decide +kernel
theorem dX7_init_16 : decode cX7_init 16 = .ok (.newarray .int, 2) := by decide +kernel
theorem dX7_init_18 : decode cX7_init 18 = .ok (.putfield 17, 3) := by decide +kernel
theorem dX7_init_21 : decode cX7_init 21 = .ok (.aload_n 0, 1) := by decide +kernel
theorem dX7_init_22 : decode cX7_init 22 = .ok (.sipush 160, 3) := by decide +kernel
theorem dX7_init_25 : decode cX7_init 25 = .ok (.newarray .int, 2) := by decide +kernel
theorem dX7_init_27 : decode cX7_init 27 = .ok (.putfield 20, 3) := by decide +kernel
theorem dX7_init_30 : decode cX7_init 30 = .ok (.aload_n 0, 1) := by decide +kernel
theorem dX7_init_31 : decode cX7_init 31 = .ok (.iconst 4, 1) := by decide +kernel
theorem dX7_init_32 : decode cX7_init 32 = .ok (.newarray .int, 2) := by decide +kernel
theorem dX7_init_34 : decode cX7_init 34 = .ok (.putfield 23, 3) := by decide +kernel
theorem dX7_init_37 : decode cX7_init 37 = .ok (.aload_n 0, 1) := by decide +kernel
theorem dX7_init_38 : decode cX7_init 38 = .ok (.iconst 4, 1) := by decide +kernel
theorem dX7_init_39 : decode cX7_init 39 = .ok (.newarray .int, 2) := by decide +kernel
theorem dX7_init_41 : decode cX7_init 41 = .ok (.putfield 26, 3) := by decide +kernel
theorem dX7_init_44 : decode cX7_init 44 = .ok (.aload_n 0, 1) := by decide +kernel
theorem dX7_init_45 : decode cX7_init 45 = .ok (.iconst 4, 1) := by decide +kernel
theorem dX7_init_46 : decode cX7_init 46 = .ok (.newarray .int, 2) := by decide +kernel
theorem dX7_init_48 : decode cX7_init 48 = .ok (.putfield 29, 3) := by decide +kernel
theorem dX7_init_51 : decode cX7_init 51 = .ok (.aload_n 0, 1) := by decide +kernel
theorem dX7_init_52 : decode cX7_init 52 = .ok (.iconst 4, 1) := by decide +kernel
theorem dX7_init_53 : decode cX7_init 53 = .ok (.newarray .int, 2) := by decide +kernel
theorem dX7_init_55 : decode cX7_init 55 = .ok (.putfield 32, 3) := by decide +kernel
theorem dX7_init_58 : decode cX7_init 58 = .ok (.aload_n 0, 1) := by decide +kernel
theorem dX7_init_59 : decode cX7_init 59 = .ok (.iconst 4, 1) := by decide +kernel
theorem dX7_init_60 : decode cX7_init 60 = .ok (.newarray .int, 2) := by decide +kernel
theorem dX7_init_62 : decode cX7_init 62 = .ok (.putfield 35, 3) := by decide +kernel
theorem dX7_init_65 : decode cX7_init 65 = .ok (.aload_n 0, 1) := by decide +kernel
theorem dX7_init_66 : decode cX7_init 66 = .ok (.bipush 24, 2) := by decide +kernel
theorem dX7_init_68 : decode cX7_init 68 = .ok (.newarray .int, 2) := by decide +kernel
theorem dX7_init_70 : decode cX7_init 70 = .ok (.putfield 38, 3) := by decide +kernel
theorem dX7_init_73 : decode cX7_init 73 = .ok (.aload_n 0, 1) := by decide +kernel
theorem dX7_init_74 : decode cX7_init 74 = .ok (.bipush 24, 2) := by decide +kernel
theorem dX7_init_76 : decode cX7_init 76 = .ok (.newarray .int, 2) := by decide +kernel
theorem dX7_init_78 : decode cX7_init 78 = .ok (.putfield 41, 3) := by decide +kernel
theorem dX7_init_81 : decode cX7_init 81 = .ok (.aload_n 0, 1) := by decide +kernel
theorem dX7_init_82 : decode cX7_init 82 = .ok (.bipush 6, 2) := by decide +kernel
theorem dX7_init_84 : decode cX7_init 84 = .ok (.newarray .int, 2) := by decide +kernel
theorem dX7_init_86 : decode cX7_init 86 = .ok (.putfield 44, 3) := by decide +kernel
theorem dX7_init_89 : decode cX7_init 89 = .ok (.aload_n 0, 1) := by decide +kernel
theorem dX7_init_90 : decode cX7_init 90 = .ok (.bipush 6, 2) := by decide +kernel
theorem dX7_init_92 : decode cX7_init 92 = .ok (.newarray .int, 2) := by decide +kernel
theorem dX7_init_94 : decode cX7_init 94 = .ok (.putfield 47, 3) := by decide +kernel
theorem dX7_init_97 : decode cX7_init 97 = .ok (.aload_n 0, 1) := by decide +kernel
theorem dX7_init_98 : decode cX7_init 98 = .ok (.bipush 6, 2) := by decide +kernel
theorem dX7_init_100 : decode cX7_init 100 = .ok (.newarray .int, 2) := by decide +kernel
theorem dX7_init_102 : decode cX7_init 102 = .ok (.putfield 50, 3) := by decide +kernel
theorem dX7_init_105 : decode cX7_init 105 = .ok (.aload_n 0, 1) := by decide +kernel
theorem dX7_init_106 : decode cX7_init 106 = .ok (.sipush 401, 3) := by decide +kernel
theorem dX7_init_109 : decode cX7_init 109 = .ok (.newarray .int, 2) := by decide +kernel
theorem dX7_init_111 : decode cX7_init 111 = .ok (.putfield 53, 3) := by decide +kernel
theorem dX7_init_114 : decode cX7_init 114 = .ok (.aload_n 0, 1) := by decide +kernel
theorem dX7_init_115 : decode cX7_init 115 = .ok (.sipush 401, 3) := by decide +kernel
theorem dX7_init_118 : decode cX7_init 118 = .ok (.newarray .int, 2) := by decide +kernel
theorem dX7_init_120 : decode cX7_init 120 = .ok (.putfield 56, 3) := by decide +kernel
theorem dX7_init_123 : decode cX7_init 123 = .ok (.aload_n 0, 1) := by decide +kernel
theorem dX7_init_124 : decode cX7_init 124 = .ok (.sipush 401, 3) := by decide +kernel
theorem dX7_init_127 : decode cX7_init 127 = .ok (.newarray .int, 2) := by decide +kernel
theorem dX7_init_129 : decode cX7_init 129 = .ok (.putfield 59, 3) := by decide +kernel
theorem dX7_init_132 : decode cX7_init 132 = .ok (.aload_n 0, 1) := by decide +kernel
theorem dX7_init_133 : decode cX7_init 133 = .ok (.sipush 401, 3) := by decide +kernel
theorem dX7_init_136 : decode cX7_init 136 = .ok (.newarray .int, 2) := by decide +kernel
theorem dX7_init_138 : decode cX7_init 138 = .ok (.putfield 62, 3) := by decide +kernel
theorem dX7_init_141 : decode cX7_init 141 = .ok (.aload_n 0, 1) := by decide +kernel
theorem dX7_init_142 : decode cX7_init 142 = .ok (.ldc 65, 2) := by decide +kernel
theorem dX7_init_144 : decode cX7_init 144 = .ok (.newarray .int, 2) := by decide +kernel
theorem dX7_init_146 : decode cX7_init 146 = .ok (.putfield 66, 3) := by decide +kernel
theorem dX7_init_149 : decode cX7_init 149 = .ok (.aload_n 0, 1) := by decide +kernel
theorem dX7_init_150 : decode cX7_init 150 = .ok (.bipush 13, 2) := by decide +kernel
theorem dX7_init_152 : decode cX7_init 152 = .ok (.newarray .int, 2) := by decide +kernel
theorem dX7_init_154 : decode cX7_init 154 = .ok (.putfield 69, 3) := by decide +kernel
theorem dX7_init_157 : decode cX7_init 157 = .ok (.aload_n 0, 1) := by decide +kernel
theorem dX7_init_158 : decode cX7_init 158 = .ok (.bipush 13, 2) := by decide +kernel
theorem dX7_init_160 : decode cX7_init 160 = .ok (.newarray .int, 2) := by decide +kernel
theorem dX7_init_162 : decode cX7_init 162 = .ok (.putfield 72, 3) := by decide +kernel
theorem dX7_init_165 : decode cX7_init 165 = .ok (.aload_n 0, 1) := by decide +kernel
theorem dX7_init_166 : decode cX7_init 166 = .ok (.iconst 4, 1) := by decide +kernel
theorem dX7_init_167 : decode cX7_init 167 = .ok (.newarray .int, 2) := by decide +kernel
theorem dX7_init_169 : decode cX7_init 169 = .ok (.putfield 75, 3) := by decide +kernel
theorem dX7_init_172 : decode cX7_init 172 = .ok (.aload_n 0, 1) := by decide +kernel
theorem dX7_init_173 : decode cX7_init 173 = .ok (.iconst 4, 1) := by decide +kernel
theorem dX7_init_174 : decode cX7_init 174 = .ok (.newarray .int, 2) := by decide +kernel
theorem dX7_init_176 : decode cX7_init 176 = .ok (.putfield 78, 3) := by decide +kernel
theorem dX7_init_179 : decode cX7_init 179 = .ok (.aload_n 0, 1) := by decide +kernel
theorem dX7_init_180 : decode cX7_init 180 = .ok (.iconst 4, 1) := by decide +kernel
theorem dX7_init_181 : decode cX7_init 181 = .ok (.newarray .int, 2) := by decide +kernel
theorem dX7_init_183 : decode cX7_init 183 = .ok (.putfield 81, 3) := by decide +kernel
theorem dX7_init_186 : decode cX7_init 186 = .ok (.aload_n 0, 1) := by decide +kernel
theorem dX7_init_187 : decode cX7_init 187 = .ok (.bipush 16, 2) := by decide +kernel
theorem dX7_init_189 : decode cX7_init 189 = .ok (.newarray .int, 2) := by decide +kernel
theorem dX7_init_191 : decode cX7_init 191 = .ok (.putfield 84, 3) := by decide +kernel
theorem dX7_init_194 : decode cX7_init 194 = .ok (.aload_n 0, 1) := by decide +kernel
theorem dX7_init_195 : decode cX7_init 195 = .ok (.iconst (-1), 1) := by decide +kernel
theorem dX7_init_196 : decode cX7_init 196 = .ok (.putfield 87, 3) := by decide +kernel
theorem dX7_init_199 : decode cX7_init 199 = .ok (.aload_n 0, 1) := by decide +kernel
theorem dX7_init_200 : decode cX7_init 200 = .ok (.iconst 4, 1) := by decide +kernel
theorem dX7_init_201 : decode cX7_init 201 = .ok (.newarray .boolean, 2) := by decide +kernel
theorem dX7_init_203 : decode cX7_init 203 = .ok (.putfield 90, 3) := by decide +kernel
theorem dX7_init_206 : decode cX7_init 206 = .ok (.aload_n 0, 1) := by decide +kernel
theorem dX7_init_207 : decode cX7_init 207 = .ok (.iconst 4, 1) := by decide +kernel
theorem dX7_init_208 : decode cX7_init 208 = .ok (.newarray .int, 2) := by decide +kernel
theorem dX7_init_210 : decode cX7_init 210 = .ok (.putfield 94, 3) := by decide +kernel
theorem dX7_init_213 : decode cX7_init 213 = .ok (.aload_n 0, 1) := by decide +kernel
theorem dX7_init_214 : decode cX7_init 214 = .ok (.iconst 4, 1) := by decide +kernel
theorem dX7_init_215 : decode cX7_init 215 = .ok (.newarray .int, 2) := by decide +kernel
theorem dX7_init_217 : decode cX7_init 217 = .ok (.putfield 97, 3) := by decide +kernel
theorem dX7_init_220 : decode cX7_init 220 = .ok (.aload_n 0, 1) := by decide +kernel
theorem dX7_init_221 : decode cX7_init 221 = .ok (.sipush 160, 3) := by decide +kernel
theorem dX7_init_224 : decode cX7_init 224 = .ok (.newarray .int, 2) := by decide +kernel
theorem dX7_init_226 : decode cX7_init 226 = .ok (.putfield 100, 3) := by decide +kernel
theorem dX7_init_229 : decode cX7_init 229 = .ok (.aload_n 0, 1) := by decide +kernel
theorem dX7_init_230 : decode cX7_init 230 = .ok (.iconst 0, 1) := by decide +kernel
theorem dX7_init_231 : decode cX7_init 231 = .ok (.bipush 99, 2) := by decide +kernel
theorem dX7_init_233 : decode cX7_init 233 = .ok (.bipush 111, 2) := by decide +kernel
theorem dX7_init_235 : decode cX7_init 235 = .ok (.bipush 115, 2) := by decide +kernel
theorem dX7_init_237 : decode cX7_init 237 = .ok (.bipush 116, 2) := by decide +kernel
theorem dX7_init_239 : decode cX7_init 239 = .ok (.bipush 115, 2) := by decide +kernel
theorem dX7_init_241 : decode cX7_init 241 = .ok (.bipush 32, 2) := by decide +kernel
theorem dX7_init_243 : decode cX7_init 243 = .ok (.bipush 49, 2) := by decide +kernel
theorem dX7_init_245 : decode cX7_init 245 = .ok (.bipush 32, 2) := by decide +kernel
theorem dX7_init_247 : decode cX7_init 247 = .ok (.invokevirtual 103, 3) := by decide +kernel
theorem dX7_init_250 : decode cX7_init 250 = .ok (.aload_n 0, 1) := by decide +kernel
theorem dX7_init_251 : decode cX7_init 251 = .ok (.bipush 8, 2) := by decide +kernel
theorem dX7_init_253 : decode cX7_init 253 = .ok (.bipush 59, 2) := by decide +kernel
theorem dX7_init_255 : decode cX7_init 255 = .ok (.bipush 32, 2) := by decide +kernel
theorem dX7_init_257 : decode cX7_init 257 = .ok (.bipush 119, 2) := by decide +kernel
theorem dX7_init_259 : decode cX7_init 259 = .ok (.bipush 111, 2) := by decide +kernel
theorem dX7_init_261 : decode cX7_init 261 = .ok (.bipush 114, 2) := by decide +kernel
theorem dX7_init_263 : decode cX7_init 263 = .ok (.bipush 116, 2) := by decide +kernel
theorem dX7_init_265 : decode cX7_init 265 = .ok (.bipush 104, 2) := by decide +kernel
theorem dX7_init_267 : decode cX7_init 267 = .ok (.bipush 32, 2) := by decide +kernel
theorem dX7_init_269 : decode cX7_init 269 = .ok (.invokevirtual 103, 3) := by decide +kernel
theorem dX7_init_272 : decode cX7_init 272 = .ok (.aload_n 0, 1) := by decide +kernel
theorem dX7_init_273 : decode cX7_init 273 = .ok (.bipush 16, 2) := by decide +kernel
theorem dX7_init_275 : decode cX7_init 275 = .ok (.bipush 115, 2) := by decide +kernel
theorem dX7_init_277 : decode cX7_init 277 = .ok (.bipush 112, 2) := by decide +kernel
theorem dX7_init_279 : decode cX7_init 279 = .ok (.bipush 97, 2) := by decide +kernel
theorem dX7_init_281 : decode cX7_init 281 = .ok (.bipush 110, 2) := by decide +kernel
theorem dX7_init_283 : decode cX7_init 283 = .ok (.bipush 32, 2) := by decide +kernel
theorem dX7_init_285 : decode cX7_init 285 = .ok (.bipush 59, 2) := by decide +kernel
theorem dX7_init_287 : decode cX7_init 287 = .ok (.bipush 32, 2) := by decide +kernel
theorem dX7_init_289 : decode cX7_init 289 = .ok (.bipush 100, 2) := by decide +kernel
theorem dX7_init_291 : decode cX7_init 291 = .ok (.invokevirtual 103, 3) := by decide +kernel
theorem dX7_init_294 : decode cX7_init 294 = .ok (.aload_n 0, 1) := by decide +kernel
theorem dX7_init_295 : decode cX7_init 295 = .ok (.bipush 24, 2) := by decide +kernel
theorem dX7_init_297 : decode cX7_init 297 = .ok (.bipush 114, 2) := by decide +kernel
theorem dX7_init_299 : decode cX7_init 299 = .ok (.bipush 105, 2) := by decide +kernel
theorem dX7_init_301 : decode cX7_init 301 = .ok (.bipush 102, 2) := by decide +kernel
theorem dX7_init_303 : decode cX7_init 303 = .ok (.bipush 116, 2) := by decide +kernel
theorem dX7_init_305 : decode cX7_init 305 = .ok (.bipush 32, 2) := by decide +kernel
theorem dX7_init_307 : decode cX7_init 307 = .ok (.bipush 49, 2) := by decide +kernel
theorem dX7_init_309 : decode cX7_init 309 = .ok (.bipush 32, 2) := by decide +kernel
theorem dX7_init_311 : decode cX7_init 311 = .ok (.bipush 59, 2) := by decide +kernel
theorem dX7_init_313 : decode cX7_init 313 = .ok (.invokevirtual 103, 3) := by decide +kernel
theorem dX7_init_316 : decode cX7_init 316 = .ok (.aload_n 0, 1) := by decide +kernel
theorem dX7_init_317 : decode cX7_init 317 = .ok (.getfield 17, 3) := by decide +kernel
theorem dX7_init_320 : decode cX7_init 320 = .ok (.iconst 0, 1) := by decide +kernel
theorem dX7_init_321 : decode cX7_init 321 = .ok (.bipush 32, 2) := by decide +kernel
theorem dX7_init_323 : decode cX7_init 323 = .ok (.iastore, 1) := by decide +kernel
theorem dX7_init_324 : decode cX7_init 324 = .ok (.aload_n 0, 1) := by decide +kernel
theorem dX7_init_325 : decode cX7_init 325 = .ok (.iconst 1, 1) := by decide +kernel
theorem dX7_init_326 : decode cX7_init 326 = .ok (.putfield 107, 3) := by decide +kernel
theorem dX7_init_329 : decode cX7_init 329 = .ok (.return_, 1) := by decide +kernel
theorem dX7_spell_0 : decode cX7_spell 0 = .ok (.aload_n 0, 1) := by decide +kernel
theorem dX7_spell_1 : decode cX7_spell 1 = .ok (.getfield 13, 3) := by decide +kernel
theorem dX7_spell_4 : decode cX7_spell 4 = .ok (.iload_n 1, 1) := by decide +kernel
theorem dX7_spell_5 : decode cX7_spell 5 = .ok (.iload_n 2, 1) := by decide +kernel
theorem dX7_spell_6 : decode cX7_spell 6 = .ok (.iastore, 1) := by decide +kernel
theorem dX7_spell_7 : decode cX7_spell 7 = .ok (.aload_n 0, 1) := by decide +kernel
theorem dX7_spell_8 : decode cX7_spell 8 = .ok (.getfield 13, 3) := by decide +kernel
theorem dX7_spell_11 : decode cX7_spell 11 = .ok (.iload_n 1, 1) := by decide +kernel
theorem dX7_spell_12 : decode cX7_spell 12 = .ok (.iconst 1, 1) := by decide +kernel
theorem dX7_spell_13 : decode cX7_spell 13 = .ok (.iadd, 1) := by decide +kernel
theorem dX7_spell_14 : decode cX7_spell 14 = .ok (.iload_n 3, 1) := by decide +kernel
theorem dX7_spell_15 : decode cX7_spell 15 = .ok (.iastore, 1) := by decide +kernel
theorem dX7_spell_16 : decode cX7_spell 16 = .ok (.aload_n 0, 1) := by decide +kernel
theorem dX7_spell_17 : decode cX7_spell 17 = .ok (.getfield 13, 3) := by decide +kernel
theorem dX7_spell_20 : decode cX7_spell 20 = .ok (.iload_n 1, 1) := by decide +kernel
theorem dX7_spell_21 : decode cX7_spell 21 = .ok (.iconst 2, 1) := by decide +kernel
theorem dX7_spell_22 : decode cX7_spell 22 = .ok (.iadd, 1) := by decide +kernel
theorem dX7_spell_23 : decode cX7_spell 23 = .ok (.iload 4, 2) := by decide +kernel
theorem dX7_spell_25 : decode cX7_spell 25 = .ok (.iastore, 1) := by decide +kernel
theorem dX7_spell_26 : decode cX7_spell 26 = .ok (.aload_n 0, 1) := by decide +kernel
theorem dX7_spell_27 : decode cX7_spell 27 = .ok (.getfield 13, 3) := by decide +kernel
theorem dX7_spell_30 : decode cX7_spell 30 = .ok (.iload_n 1, 1) := by decide +kernel
theorem dX7_spell_31 : decode cX7_spell 31 = .ok (.iconst 3, 1) := by decide +kernel
theorem dX7_spell_32 : decode cX7_spell 32 = .ok (.iadd, 1) := by decide +kernel
theorem dX7_spell_33 : decode cX7_spell 33 = .ok (.iload 5, 2) := by decide +kernel
theorem dX7_spell_35 : decode cX7_spell 35 = .ok (.iastore, 1) := by decide +kernel
theorem dX7_spell_36 : decode cX7_spell 36 = .ok (.aload_n 0, 1) := by decide +kernel
theorem dX7_spell_37 : decode cX7_spell 37 = .ok (.getfield 13, 3) := by decide +kernel
theorem dX7_spell_40 : decode cX7_spell 40 = .ok (.iload_n 1, 1) := by decide +kernel
theorem dX7_spell_41 : decode cX7_spell 41 = .ok (.iconst 4, 1) := by decide +kernel
theorem dX7_spell_42 : decode cX7_spell 42 = .ok (.iadd, 1) := by decide +kernel
theorem dX7_spell_43 : decode cX7_spell 43 = .ok (.iload 6, 2) := by decide +kernel
theorem dX7_spell_45 : decode cX7_spell 45 = .ok (.iastore, 1) := by decide +kernel
theorem dX7_spell_46 : decode cX7_spell 46 = .ok (.aload_n 0, 1) := by decide +kernel
theorem dX7_spell_47 : decode cX7_spell 47 = .ok (.getfield 13, 3) := by decide +kernel
theorem dX7_spell_50 : decode cX7_spell 50 = .ok (.iload_n 1, 1) := by decide +kernel
theorem dX7_spell_51 : decode cX7_spell 51 = .ok (.iconst 5, 1) := by decide +kernel
theorem dX7_spell_52 : decode cX7_spell 52 = .ok (.iadd, 1) := by decide +kernel
theorem dX7_spell_53 : decode cX7_spell 53 = .ok (.iload 7, 2) := by decide +kernel
theorem dX7_spell_55 : decode cX7_spell 55 = .ok (.iastore, 1) := by decide +kernel
theorem dX7_spell_56 : decode cX7_spell 56 = .ok (.aload_n 0, 1) := by decide +kernel
theorem dX7_spell_57 : decode cX7_spell 57 = .ok (.getfield 13, 3) := by decide +kernel
theorem dX7_spell_60 : decode cX7_spell 60 = .ok (.iload_n 1, 1) := by decide +kernel
theorem dX7_spell_61 : decode cX7_spell 61 = .ok (.bipush 6, 2) := by decide +kernel
theorem dX7_spell_63 : decode cX7_spell 63 = .ok (.iadd, 1) := by decide +kernel
theorem dX7_spell_64 : decode cX7_spell 64 = .ok (.iload 8, 2) := by decide +kernel
theorem dX7_spell_66 : decode cX7_spell 66 = .ok (.iastore, 1) := by decide +kernel
theorem dX7_spell_67 : decode cX7_spell 67 = .ok (.aload_n 0, 1) := by decide +kernel
theorem dX7_spell_68 : decode cX7_spell 68 = .ok (.getfield 13, 3) := by decide +kernel
theorem dX7_spell_71 : decode cX7_spell 71 = .ok (.iload_n 1, 1) := by decide +kernel
theorem dX7_spell_72 : decode cX7_spell 72 = .ok (.bipush 7, 2) := by decide +kernel
theorem dX7_spell_74 : decode cX7_spell 74 = .ok (.iadd, 1) := by decide +kernel
theorem dX7_spell_75 : decode cX7_spell 75 = .ok (.iload 9, 2) := by decide +kernel
theorem dX7_spell_77 : decode cX7_spell 77 = .ok (.iastore, 1) := by decide +kernel
theorem dX7_spell_78 : decode cX7_spell 78 = .ok (.return_, 1) := by decide +kernel
theorem dX7_isWick_0 : decode cX7_isWick 0 = .ok (.iload_n 1, 1) := by decide +kernel
theorem dX7_isWick_1 : decode cX7_isWick 1 = .ok (.i2l, 1) := by decide +kernel
theorem dX7_isWick_2 : decode cX7_isWick 2 = .ok (.lconst 0, 1) := by decide +kernel
theorem dX7_isWick_3 : decode cX7_isWick 3 = .ok (.aload_n 0, 1) := by decide +kernel
theorem dX7_isWick_4 : decode cX7_isWick 4 = .ok (.getfield 110, 3) := by decide +kernel
theorem dX7_isWick_7 : decode cX7_isWick 7 = .ok (.iconst 1, 1) := by decide +kernel
theorem dX7_isWick_8 : decode cX7_isWick 8 = .ok (.isub, 1) := by decide +kernel
theorem dX7_isWick_9 : decode cX7_isWick 9 = .ok (.i2l, 1) := by decide +kernel
theorem dX7_isWick_10 : decode cX7_isWick 10 = .ok (.invokestatic 113, 3) := by decide +kernel
theorem dX7_isWick_13 : decode cX7_isWick 13 = .ok (.ireturn, 1) := by decide +kernel
theorem dX7_wick_0 : decode cX7_wick 0 = .ok (.iload_n 1, 1) := by decide +kernel
theorem dX7_wick_1 : decode cX7_wick 1 = .ok (.i2l, 1) := by decide +kernel
theorem dX7_wick_2 : decode cX7_wick 2 = .ok (.lconst 0, 1) := by decide +kernel
theorem dX7_wick_3 : decode cX7_wick 3 = .ok (.ldc2_w 117, 3) := by decide +kernel
theorem dX7_wick_6 : decode cX7_wick 6 = .ok (.invokestatic 113, 3) := by decide +kernel
theorem dX7_wick_9 : decode cX7_wick 9 = .ok (.ifCond .eq 27, 3) := by decide +kernel
theorem dX7_wick_12 : decode cX7_wick 12 = .ok (.iload_n 2, 1) := by decide +kernel
theorem dX7_wick_13 : decode cX7_wick 13 = .ok (.i2l, 1) := by decide +kernel
theorem dX7_wick_14 : decode cX7_wick 14 = .ok (.lconst 0, 1) := by decide +kernel
theorem dX7_wick_15 : decode cX7_wick 15 = .ok (.ldc2_w 119, 3) := by decide +kernel
theorem dX7_wick_18 : decode cX7_wick 18 = .ok (.invokestatic 113, 3) := by decide +kernel
theorem dX7_wick_21 : decode cX7_wick 21 = .ok (.ifCond .eq 15, 3) := by decide +kernel
theorem dX7_wick_24 : decode cX7_wick 24 = .ok (.iload_n 3, 1) := by decide +kernel
theorem dX7_wick_25 : decode cX7_wick 25 = .ok (.i2l, 1) := by decide +kernel
theorem dX7_wick_26 : decode cX7_wick 26 = .ok (.lconst 1, 1) := by decide +kernel
theorem dX7_wick_27 : decode cX7_wick 27 = .ok (.ldc2_w 121, 3) := by decide +kernel
theorem dX7_wick_30 : decode cX7_wick 30 = .ok (.invokestatic 113, 3) := by decide +kernel
theorem dX7_wick_33 : decode cX7_wick 33 = .ok (.ifCond .ne 6, 3) := by decide +kernel
theorem dX7_wick_36 : decode cX7_wick 36 = .ok (.bipush (-2), 2) := by decide +kernel
theorem dX7_wick_38 : decode cX7_wick 38 = .ok (.ireturn, 1) := by decide +kernel
theorem dX7_wick_39 : decode cX7_wick 39 = .ok (.aload_n 0, 1) := by decide +kernel
theorem dX7_wick_40 : decode cX7_wick 40 = .ok (.getfield 110, 3) := by decide +kernel
theorem dX7_wick_43 : decode cX7_wick 43 = .ok (.iconst 4, 1) := by decide +kernel
theorem dX7_wick_44 : decode cX7_wick 44 = .ok (.if_icmp .ne 6, 3) := by decide +kernel
theorem dX7_wick_47 : decode cX7_wick 47 = .ok (.bipush (-4), 2) := by decide +kernel
theorem dX7_wick_49 : decode cX7_wick 49 = .ok (.ireturn, 1) := by decide +kernel
theorem dX7_wick_50 : decode cX7_wick 50 = .ok (.aload_n 0, 1) := by decide +kernel
theorem dX7_wick_51 : decode cX7_wick 51 = .ok (.getfield 23, 3) := by decide +kernel
theorem dX7_wick_54 : decode cX7_wick 54 = .ok (.aload_n 0, 1) := by decide +kernel
theorem dX7_wick_55 : decode cX7_wick 55 = .ok (.getfield 110, 3) := by decide +kernel
theorem dX7_wick_58 : decode cX7_wick 58 = .ok (.iload_n 1, 1) := by decide +kernel
theorem dX7_wick_59 : decode cX7_wick 59 = .ok (.iastore, 1) := by decide +kernel
theorem dX7_wick_60 : decode cX7_wick 60 = .ok (.aload_n 0, 1) := by decide +kernel
theorem dX7_wick_61 : decode cX7_wick 61 = .ok (.getfield 26, 3) := by decide +kernel
theorem dX7_wick_64 : decode cX7_wick 64 = .ok (.aload_n 0, 1) := by decide +kernel
theorem dX7_wick_65 : decode cX7_wick 65 = .ok (.getfield 110, 3) := by decide +kernel
theorem dX7_wick_68 : decode cX7_wick 68 = .ok (.iload_n 2, 1) := by decide +kernel
theorem dX7_wick_69 : decode cX7_wick 69 = .ok (.iastore, 1) := by decide +kernel
theorem dX7_wick_70 : decode cX7_wick 70 = .ok (.aload_n 0, 1) := by decide +kernel
theorem dX7_wick_71 : decode cX7_wick 71 = .ok (.getfield 29, 3) := by decide +kernel
theorem dX7_wick_74 : decode cX7_wick 74 = .ok (.aload_n 0, 1) := by decide +kernel
theorem dX7_wick_75 : decode cX7_wick 75 = .ok (.getfield 110, 3) := by decide +kernel
theorem dX7_wick_78 : decode cX7_wick 78 = .ok (.iload_n 3, 1) := by decide +kernel
theorem dX7_wick_79 : decode cX7_wick 79 = .ok (.iastore, 1) := by decide +kernel
theorem dX7_wick_80 : decode cX7_wick 80 = .ok (.aload_n 0, 1) := by decide +kernel
theorem dX7_wick_81 : decode cX7_wick 81 = .ok (.getfield 32, 3) := by decide +kernel
theorem dX7_wick_84 : decode cX7_wick 84 = .ok (.aload_n 0, 1) := by decide +kernel
theorem dX7_wick_85 : decode cX7_wick 85 = .ok (.getfield 110, 3) := by decide +kernel
theorem dX7_wick_88 : decode cX7_wick 88 = .ok (.iconst 0, 1) := by decide +kernel
theorem dX7_wick_89 : decode cX7_wick 89 = .ok (.iastore, 1) := by decide +kernel
theorem dX7_wick_90 : decode cX7_wick 90 = .ok (.aload_n 0, 1) := by decide +kernel
theorem dX7_wick_91 : decode cX7_wick 91 = .ok (.getfield 35, 3) := by decide +kernel
theorem dX7_wick_94 : decode cX7_wick 94 = .ok (.aload_n 0, 1) := by decide +kernel
theorem dX7_wick_95 : decode cX7_wick 95 = .ok (.getfield 110, 3) := by decide +kernel
theorem dX7_wick_98 : decode cX7_wick 98 = .ok (.iconst 0, 1) := by decide +kernel
theorem dX7_wick_99 : decode cX7_wick 99 = .ok (.iastore, 1) := by decide +kernel
theorem dX7_wick_100 : decode cX7_wick 100 = .ok (.aload_n 0, 1) := by decide +kernel
theorem dX7_wick_101 : decode cX7_wick 101 = .ok (.dup, 1) := by decide +kernel
theorem dX7_wick_102 : decode cX7_wick 102 = .ok (.getfield 110, 3) := by decide +kernel
theorem dX7_wick_105 : decode cX7_wick 105 = .ok (.iconst 1, 1) := by decide +kernel
theorem dX7_wick_106 : decode cX7_wick 106 = .ok (.iadd, 1) := by decide +kernel
theorem dX7_wick_107 : decode cX7_wick 107 = .ok (.putfield 110, 3) := by decide +kernel
theorem dX7_wick_110 : decode cX7_wick 110 = .ok (.aload_n 0, 1) := by decide +kernel
theorem dX7_wick_111 : decode cX7_wick 111 = .ok (.getfield 110, 3) := by decide +kernel
theorem dX7_wick_114 : decode cX7_wick 114 = .ok (.iconst 1, 1) := by decide +kernel
theorem dX7_wick_115 : decode cX7_wick 115 = .ok (.isub, 1) := by decide +kernel
theorem dX7_wick_116 : decode cX7_wick 116 = .ok (.ireturn, 1) := by decide +kernel
theorem dX7_set_0 : decode cX7_set 0 = .ok (.iload_n 1, 1) := by decide +kernel
theorem dX7_set_1 : decode cX7_set 1 = .ok (.i2l, 1) := by decide +kernel
theorem dX7_set_2 : decode cX7_set 2 = .ok (.lconst 0, 1) := by decide +kernel
theorem dX7_set_3 : decode cX7_set 3 = .ok (.ldc2_w 117, 3) := by decide +kernel
theorem dX7_set_6 : decode cX7_set 6 = .ok (.invokestatic 113, 3) := by decide +kernel
theorem dX7_set_9 : decode cX7_set 9 = .ok (.ifCond .eq 71, 3) := by decide +kernel
theorem dX7_set_12 : decode cX7_set 12 = .ok (.iload_n 1, 1) := by decide +kernel
theorem dX7_set_13 : decode cX7_set 13 = .ok (.iconst 4, 1) := by decide +kernel
theorem dX7_set_14 : decode cX7_set 14 = .ok (.if_icmp .ge 11, 3) := by decide +kernel
theorem dX7_set_17 : decode cX7_set 17 = .ok (.aload_n 0, 1) := by decide +kernel
theorem dX7_set_18 : decode cX7_set 18 = .ok (.iload_n 2, 1) := by decide +kernel
theorem dX7_set_19 : decode cX7_set 19 = .ok (.invokevirtual 123, 3) := by decide +kernel
theorem dX7_set_22 : decode cX7_set 22 = .ok (.ifCond .eq 58, 3) := by decide +kernel
theorem dX7_set_25 : decode cX7_set 25 = .ok (.iload_n 3, 1) := by decide +kernel
theorem dX7_set_26 : decode cX7_set 26 = .ok (.i2l, 1) := by decide +kernel
theorem dX7_set_27 : decode cX7_set 27 = .ok (.lconst 0, 1) := by decide +kernel
theorem dX7_set_28 : decode cX7_set 28 = .ok (.iload_n 1, 1) := by decide +kernel
theorem dX7_set_29 : decode cX7_set 29 = .ok (.ifCond .ne 9, 3) := by decide +kernel
theorem dX7_set_32 : decode cX7_set 32 = .ok (.ldc2_w 121, 3) := by decide +kernel
theorem dX7_set_35 : decode cX7_set 35 = .ok (.goto 39, 3) := by decide +kernel
theorem dX7_set_38 : decode cX7_set 38 = .ok (.iload_n 1, 1) := by decide +kernel
theorem dX7_set_39 : decode cX7_set 39 = .ok (.iconst 1, 1) := by decide +kernel
theorem dX7_set_40 : decode cX7_set 40 = .ok (.if_icmp .ne 9, 3) := by decide +kernel
theorem dX7_set_43 : decode cX7_set 43 = .ok (.ldc2_w 127, 3) := by decide +kernel
theorem dX7_set_46 : decode cX7_set 46 = .ok (.goto 28, 3) := by decide +kernel
theorem dX7_set_49 : decode cX7_set 49 = .ok (.iload_n 1, 1) := by decide +kernel
theorem dX7_set_50 : decode cX7_set 50 = .ok (.iconst 2, 1) := by decide +kernel
theorem dX7_set_51 : decode cX7_set 51 = .ok (.if_icmp .ne 9, 3) := by decide +kernel
theorem dX7_set_54 : decode cX7_set 54 = .ok (.ldc2_w 129, 3) := by decide +kernel
theorem dX7_set_57 : decode cX7_set 57 = .ok (.goto 17, 3) := by decide +kernel
theorem dX7_set_60 : decode cX7_set 60 = .ok (.iload_n 1, 1) := by decide +kernel
theorem dX7_set_61 : decode cX7_set 61 = .ok (.iconst 5, 1) := by decide +kernel
theorem dX7_set_62 : decode cX7_set 62 = .ok (.if_icmp .ne 9, 3) := by decide +kernel
theorem dX7_set_65 : decode cX7_set 65 = .ok (.ldc2_w 131, 3) := by decide +kernel
theorem dX7_set_68 : decode cX7_set 68 = .ok (.goto 6, 3) := by decide +kernel
theorem dX7_set_71 : decode cX7_set 71 = .ok (.ldc2_w 119, 3) := by decide +kernel
theorem dX7_set_74 : decode cX7_set 74 = .ok (.invokestatic 113, 3) := by decide +kernel
theorem dX7_set_77 : decode cX7_set 77 = .ok (.ifCond .ne 6, 3) := by decide +kernel
theorem dX7_set_80 : decode cX7_set 80 = .ok (.bipush (-2), 2) := by decide +kernel
theorem dX7_set_82 : decode cX7_set 82 = .ok (.ireturn, 1) := by decide +kernel
theorem dX7_set_83 : decode cX7_set 83 = .ok (.iload_n 1, 1) := by decide +kernel
theorem dX7_set_84 : decode cX7_set 84 = .ok (.iconst 1, 1) := by decide +kernel
theorem dX7_set_85 : decode cX7_set 85 = .ok (.if_icmp .ne 19, 3) := by decide +kernel
theorem dX7_set_88 : decode cX7_set 88 = .ok (.iload_n 3, 1) := by decide +kernel
theorem dX7_set_89 : decode cX7_set 89 = .ok (.ifCond .le 15, 3) := by decide +kernel
theorem dX7_set_92 : decode cX7_set 92 = .ok (.aload_n 0, 1) := by decide +kernel
theorem dX7_set_93 : decode cX7_set 93 = .ok (.getfield 29, 3) := by decide +kernel
theorem dX7_set_96 : decode cX7_set 96 = .ok (.iload_n 2, 1) := by decide +kernel
theorem dX7_set_97 : decode cX7_set 97 = .ok (.iaload, 1) := by decide +kernel
theorem dX7_set_98 : decode cX7_set 98 = .ok (.ifCond .ne 6, 3) := by decide +kernel
theorem dX7_set_101 : decode cX7_set 101 = .ok (.bipush (-3), 2) := by decide +kernel
theorem dX7_set_103 : decode cX7_set 103 = .ok (.ireturn, 1) := by decide +kernel
theorem dX7_set_104 : decode cX7_set 104 = .ok (.iload_n 1, 1) := by decide +kernel
theorem dX7_set_105 : decode cX7_set 105 = .ok (.ifCond .ne 12, 3) := by decide +kernel
theorem dX7_set_108 : decode cX7_set 108 = .ok (.aload_n 0, 1) := by decide +kernel
theorem dX7_set_109 : decode cX7_set 109 = .ok (.getfield 29, 3) := by decide +kernel
theorem dX7_set_112 : decode cX7_set 112 = .ok (.iload_n 2, 1) := by decide +kernel
theorem dX7_set_113 : decode cX7_set 113 = .ok (.iaload, 1) := by decide +kernel
theorem dX7_set_114 : decode cX7_set 114 = .ok (.goto 61, 3) := by decide +kernel
theorem dX7_set_117 : decode cX7_set 117 = .ok (.iload_n 1, 1) := by decide +kernel
theorem dX7_set_118 : decode cX7_set 118 = .ok (.iconst 1, 1) := by decide +kernel
theorem dX7_set_119 : decode cX7_set 119 = .ok (.if_icmp .ne 12, 3) := by decide +kernel
theorem dX7_set_122 : decode cX7_set 122 = .ok (.aload_n 0, 1) := by decide +kernel
theorem dX7_set_123 : decode cX7_set 123 = .ok (.getfield 32, 3) := by decide +kernel
theorem dX7_set_126 : decode cX7_set 126 = .ok (.iload_n 2, 1) := by decide +kernel
theorem dX7_set_127 : decode cX7_set 127 = .ok (.iaload, 1) := by decide +kernel
theorem dX7_set_128 : decode cX7_set 128 = .ok (.goto 47, 3) := by decide +kernel
theorem dX7_set_131 : decode cX7_set 131 = .ok (.iload_n 1, 1) := by decide +kernel
theorem dX7_set_132 : decode cX7_set 132 = .ok (.iconst 2, 1) := by decide +kernel
theorem dX7_set_133 : decode cX7_set 133 = .ok (.if_icmp .ne 12, 3) := by decide +kernel
theorem dX7_set_136 : decode cX7_set 136 = .ok (.aload_n 0, 1) := by decide +kernel
theorem dX7_set_137 : decode cX7_set 137 = .ok (.getfield 35, 3) := by decide +kernel
theorem dX7_set_140 : decode cX7_set 140 = .ok (.iload_n 2, 1) := by decide +kernel
theorem dX7_set_141 : decode cX7_set 141 = .ok (.iaload, 1) := by decide +kernel
theorem dX7_set_142 : decode cX7_set 142 = .ok (.goto 33, 3) := by decide +kernel
theorem dX7_set_145 : decode cX7_set 145 = .ok (.iload_n 1, 1) := by decide +kernel
theorem dX7_set_146 : decode cX7_set 146 = .ok (.iconst 3, 1) := by decide +kernel
theorem dX7_set_147 : decode cX7_set 147 = .ok (.if_icmp .ne 12, 3) := by decide +kernel
theorem dX7_set_150 : decode cX7_set 150 = .ok (.aload_n 0, 1) := by decide +kernel
theorem dX7_set_151 : decode cX7_set 151 = .ok (.getfield 26, 3) := by decide +kernel
theorem dX7_set_154 : decode cX7_set 154 = .ok (.iload_n 2, 1) := by decide +kernel
theorem dX7_set_155 : decode cX7_set 155 = .ok (.iaload, 1) := by decide +kernel
theorem dX7_set_156 : decode cX7_set 156 = .ok (.goto 19, 3) := by decide +kernel
theorem dX7_set_159 : decode cX7_set 159 = .ok (.iload_n 1, 1) := by decide +kernel
theorem dX7_set_160 : decode cX7_set 160 = .ok (.iconst 4, 1) := by decide +kernel
theorem dX7_set_161 : decode cX7_set 161 = .ok (.if_icmp .ne 10, 3) := by decide +kernel
theorem dX7_set_164 : decode cX7_set 164 = .ok (.aload_n 0, 1) := by decide +kernel
theorem dX7_set_165 : decode cX7_set 165 = .ok (.getfield 133, 3) := by decide +kernel
theorem dX7_set_168 : decode cX7_set 168 = .ok (.goto 7, 3) := by decide +kernel
theorem dX7_set_171 : decode cX7_set 171 = .ok (.aload_n 0, 1) := by decide +kernel
theorem dX7_set_172 : decode cX7_set 172 = .ok (.getfield 136, 3) := by decide +kernel
theorem dX7_set_175 : decode cX7_set 175 = .ok (.istore 4, 2) := by decide +kernel
theorem dX7_set_177 : decode cX7_set 177 = .ok (.iload_n 1, 1) := by decide +kernel
theorem dX7_set_178 : decode cX7_set 178 = .ok (.ifCond .ne 33, 3) := by decide +kernel
theorem dX7_set_181 : decode cX7_set 181 = .ok (.aload_n 0, 1) := by decide +kernel
theorem dX7_set_182 : decode cX7_set 182 = .ok (.getfield 29, 3) := by decide +kernel
theorem dX7_set_185 : decode cX7_set 185 = .ok (.iload_n 2, 1) := by decide +kernel
theorem dX7_set_186 : decode cX7_set 186 = .ok (.iload_n 3, 1) := by decide +kernel
theorem dX7_set_187 : decode cX7_set 187 = .ok (.iastore, 1) := by decide +kernel
theorem dX7_set_188 : decode cX7_set 188 = .ok (.aload_n 0, 1) := by decide +kernel
theorem dX7_set_189 : decode cX7_set 189 = .ok (.getfield 32, 3) := by decide +kernel
theorem dX7_set_192 : decode cX7_set 192 = .ok (.iload_n 2, 1) := by decide +kernel
theorem dX7_set_193 : decode cX7_set 193 = .ok (.iload_n 3, 1) := by decide +kernel
theorem dX7_set_194 : decode cX7_set 194 = .ok (.ifCond .ne 7, 3) := by decide +kernel
theorem dX7_set_197 : decode cX7_set 197 = .ok (.iconst 0, 1) := by decide +kernel
theorem dX7_set_198 : decode cX7_set 198 = .ok (.goto 9, 3) := by decide +kernel
theorem dX7_set_201 : decode cX7_set 201 = .ok (.aload_n 0, 1) := by decide +kernel
theorem dX7_set_202 : decode cX7_set 202 = .ok (.getfield 32, 3) := by decide +kernel
theorem dX7_set_205 : decode cX7_set 205 = .ok (.iload_n 2, 1) := by decide +kernel
theorem dX7_set_206 : decode cX7_set 206 = .ok (.iaload, 1) := by decide +kernel
theorem dX7_set_207 : decode cX7_set 207 = .ok (.iastore, 1) := by decide +kernel
theorem dX7_set_208 : decode cX7_set 208 = .ok (.goto 66, 3) := by decide +kernel
theorem dX7_set_211 : decode cX7_set 211 = .ok (.iload_n 1, 1) := by decide +kernel
theorem dX7_set_212 : decode cX7_set 212 = .ok (.iconst 1, 1) := by decide +kernel
theorem dX7_set_213 : decode cX7_set 213 = .ok (.if_icmp .ne 13, 3) := by decide +kernel
theorem dX7_set_216 : decode cX7_set 216 = .ok (.aload_n 0, 1) := by decide +kernel
theorem dX7_set_217 : decode cX7_set 217 = .ok (.getfield 32, 3) := by decide +kernel
theorem dX7_set_220 : decode cX7_set 220 = .ok (.iload_n 2, 1) := by decide +kernel
theorem dX7_set_221 : decode cX7_set 221 = .ok (.iload_n 3, 1) := by decide +kernel
theorem dX7_set_222 : decode cX7_set 222 = .ok (.iastore, 1) := by decide +kernel
theorem dX7_set_223 : decode cX7_set 223 = .ok (.goto 51, 3) := by decide +kernel
theorem dX7_set_226 : decode cX7_set 226 = .ok (.iload_n 1, 1) := by decide +kernel
theorem dX7_set_227 : decode cX7_set 227 = .ok (.iconst 2, 1) := by decide +kernel
theorem dX7_set_228 : decode cX7_set 228 = .ok (.if_icmp .ne 13, 3) := by decide +kernel
theorem dX7_set_231 : decode cX7_set 231 = .ok (.aload_n 0, 1) := by decide +kernel
theorem dX7_set_232 : decode cX7_set 232 = .ok (.getfield 35, 3) := by decide +kernel
theorem dX7_set_235 : decode cX7_set 235 = .ok (.iload_n 2, 1) := by decide +kernel
theorem dX7_set_236 : decode cX7_set 236 = .ok (.iload_n 3, 1) := by decide +kernel
theorem dX7_set_237 : decode cX7_set 237 = .ok (.iastore, 1) := by decide +kernel
theorem dX7_set_238 : decode cX7_set 238 = .ok (.goto 36, 3) := by decide +kernel
theorem dX7_set_241 : decode cX7_set 241 = .ok (.iload_n 1, 1) := by decide +kernel
theorem dX7_set_242 : decode cX7_set 242 = .ok (.iconst 3, 1) := by decide +kernel
theorem dX7_set_243 : decode cX7_set 243 = .ok (.if_icmp .ne 13, 3) := by decide +kernel
theorem dX7_set_246 : decode cX7_set 246 = .ok (.aload_n 0, 1) := by decide +kernel
theorem dX7_set_247 : decode cX7_set 247 = .ok (.getfield 26, 3) := by decide +kernel
theorem dX7_set_250 : decode cX7_set 250 = .ok (.iload_n 2, 1) := by decide +kernel
theorem dX7_set_251 : decode cX7_set 251 = .ok (.iload_n 3, 1) := by decide +kernel
theorem dX7_set_252 : decode cX7_set 252 = .ok (.iastore, 1) := by decide +kernel
theorem dX7_set_253 : decode cX7_set 253 = .ok (.goto 21, 3) := by decide +kernel
theorem dX7_set_256 : decode cX7_set 256 = .ok (.iload_n 1, 1) := by decide +kernel
theorem dX7_set_257 : decode cX7_set 257 = .ok (.iconst 4, 1) := by decide +kernel
theorem dX7_set_258 : decode cX7_set 258 = .ok (.if_icmp .ne 11, 3) := by decide +kernel
theorem dX7_set_261 : decode cX7_set 261 = .ok (.aload_n 0, 1) := by decide +kernel
theorem dX7_set_262 : decode cX7_set 262 = .ok (.iload_n 3, 1) := by decide +kernel
theorem dX7_set_263 : decode cX7_set 263 = .ok (.putfield 133, 3) := by decide +kernel
theorem dX7_set_266 : decode cX7_set 266 = .ok (.goto 8, 3) := by decide +kernel
theorem dX7_set_269 : decode cX7_set 269 = .ok (.aload_n 0, 1) := by decide +kernel
theorem dX7_set_270 : decode cX7_set 270 = .ok (.iload_n 3, 1) := by decide +kernel
theorem dX7_set_271 : decode cX7_set 271 = .ok (.putfield 136, 3) := by decide +kernel
theorem dX7_set_274 : decode cX7_set 274 = .ok (.iload 4, 2) := by decide +kernel
theorem dX7_set_276 : decode cX7_set 276 = .ok (.ireturn, 1) := by decide +kernel
theorem dX7_fast_0 : decode cX7_fast 0 = .ok (.iload_n 2, 1) := by decide +kernel
theorem dX7_fast_1 : decode cX7_fast 1 = .ok (.ifCond .ne 5, 3) := by decide +kernel
theorem dX7_fast_4 : decode cX7_fast 4 = .ok (.iconst 0, 1) := by decide +kernel
theorem dX7_fast_5 : decode cX7_fast 5 = .ok (.ireturn, 1) := by decide +kernel
theorem dX7_fast_6 : decode cX7_fast 6 = .ok (.aload_n 0, 1) := by decide +kernel
theorem dX7_fast_7 : decode cX7_fast 7 = .ok (.getfield 23, 3) := by decide +kernel
theorem dX7_fast_10 : decode cX7_fast 10 = .ok (.iload_n 1, 1) := by decide +kernel
theorem dX7_fast_11 : decode cX7_fast 11 = .ok (.iaload, 1) := by decide +kernel
theorem dX7_fast_12 : decode cX7_fast 12 = .ok (.istore 4, 2) := by decide +kernel
theorem dX7_fast_14 : decode cX7_fast 14 = .ok (.iload_n 2, 1) := by decide +kernel
theorem dX7_fast_15 : decode cX7_fast 15 = .ok (.istore 5, 2) := by decide +kernel
theorem dX7_fast_17 : decode cX7_fast 17 = .ok (.iload 4, 2) := by decide +kernel
theorem dX7_fast_19 : decode cX7_fast 19 = .ok (.iconst 1, 1) := by decide +kernel
theorem dX7_fast_20 : decode cX7_fast 20 = .ok (.if_icmp .eq 15, 3) := by decide +kernel
theorem dX7_fast_23 : decode cX7_fast 23 = .ok (.iload 4, 2) := by decide +kernel
theorem dX7_fast_25 : decode cX7_fast 25 = .ok (.iconst 3, 1) := by decide +kernel
theorem dX7_fast_26 : decode cX7_fast 26 = .ok (.if_icmp .eq 9, 3) := by decide +kernel
theorem dX7_fast_29 : decode cX7_fast 29 = .ok (.iload 4, 2) := by decide +kernel
theorem dX7_fast_31 : decode cX7_fast 31 = .ok (.iconst 5, 1) := by decide +kernel
theorem dX7_fast_32 : decode cX7_fast 32 = .ok (.if_icmp .ne 8, 3) := by decide +kernel
theorem dX7_fast_35 : decode cX7_fast 35 = .ok (.iconst 2, 1) := by decide +kernel
theorem dX7_fast_36 : decode cX7_fast 36 = .ok (.iload_n 2, 1) := by decide +kernel
theorem dX7_fast_37 : decode cX7_fast 37 = .ok (.imul, 1) := by decide +kernel
theorem dX7_fast_38 : decode cX7_fast 38 = .ok (.istore 5, 2) := by decide +kernel
theorem dX7_fast_40 : decode cX7_fast 40 = .ok (.iload 4, 2) := by decide +kernel
theorem dX7_fast_42 : decode cX7_fast 42 = .ok (.iconst 3, 1) := by decide +kernel
theorem dX7_fast_43 : decode cX7_fast 43 = .ok (.if_icmp .ne 21, 3) := by decide +kernel
theorem dX7_fast_46 : decode cX7_fast 46 = .ok (.iload_n 2, 1) := by decide +kernel
theorem dX7_fast_47 : decode cX7_fast 47 = .ok (.iconst 2, 1) := by decide +kernel
theorem dX7_fast_48 : decode cX7_fast 48 = .ok (.if_icmp .ne 16, 3) := by decide +kernel
theorem dX7_fast_51 : decode cX7_fast 51 = .ok (.iload 5, 2) := by decide +kernel
theorem dX7_fast_53 : decode cX7_fast 53 = .ok (.aload_n 0, 1) := by decide +kernel
theorem dX7_fast_54 : decode cX7_fast 54 = .ok (.getfield 26, 3) := by decide +kernel
theorem dX7_fast_57 : decode cX7_fast 57 = .ok (.iload_n 1, 1) := by decide +kernel
theorem dX7_fast_58 : decode cX7_fast 58 = .ok (.iaload, 1) := by decide +kernel
theorem dX7_fast_59 : decode cX7_fast 59 = .ok (.iconst 3, 1) := by decide +kernel
theorem dX7_fast_60 : decode cX7_fast 60 = .ok (.irem, 1) := by decide +kernel
theorem dX7_fast_61 : decode cX7_fast 61 = .ok (.iadd, 1) := by decide +kernel
theorem dX7_fast_62 : decode cX7_fast 62 = .ok (.istore 5, 2) := by decide +kernel
theorem dX7_fast_64 : decode cX7_fast 64 = .ok (.iload 4, 2) := by decide +kernel
theorem dX7_fast_66 : decode cX7_fast 66 = .ok (.iconst 5, 1) := by decide +kernel
theorem dX7_fast_67 : decode cX7_fast 67 = .ok (.if_icmp .ne 11, 3) := by decide +kernel
theorem dX7_fast_70 : decode cX7_fast 70 = .ok (.iload 5, 2) := by decide +kernel
theorem dX7_fast_72 : decode cX7_fast 72 = .ok (.iload_n 3, 1) := by decide +kernel
theorem dX7_fast_73 : decode cX7_fast 73 = .ok (.iconst 2, 1) := by decide +kernel
theorem dX7_fast_74 : decode cX7_fast 74 = .ok (.idiv, 1) := by decide +kernel
theorem dX7_fast_75 : decode cX7_fast 75 = .ok (.isub, 1) := by decide +kernel
theorem dX7_fast_76 : decode cX7_fast 76 = .ok (.istore 5, 2) := by decide +kernel
theorem dX7_fast_78 : decode cX7_fast 78 = .ok (.iload 4, 2) := by decide +kernel
theorem dX7_fast_80 : decode cX7_fast 80 = .ok (.iconst 2, 1) := by decide +kernel
theorem dX7_fast_81 : decode cX7_fast 81 = .ok (.if_icmp .eq 9, 3) := by decide +kernel
theorem dX7_fast_84 : decode cX7_fast 84 = .ok (.iload 4, 2) := by decide +kernel
theorem dX7_fast_86 : decode cX7_fast 86 = .ok (.iconst 4, 1) := by decide +kernel
theorem dX7_fast_87 : decode cX7_fast 87 = .ok (.if_icmp .ne 16, 3) := by decide +kernel
theorem dX7_fast_90 : decode cX7_fast 90 = .ok (.iload_n 3, 1) := by decide +kernel
theorem dX7_fast_91 : decode cX7_fast 91 = .ok (.aload_n 0, 1) := by decide +kernel
theorem dX7_fast_92 : decode cX7_fast 92 = .ok (.getfield 26, 3) := by decide +kernel
theorem dX7_fast_95 : decode cX7_fast 95 = .ok (.iload_n 1, 1) := by decide +kernel
theorem dX7_fast_96 : decode cX7_fast 96 = .ok (.iaload, 1) := by decide +kernel
theorem dX7_fast_97 : decode cX7_fast 97 = .ok (.if_icmp .le 6, 3) := by decide +kernel
theorem dX7_fast_100 : decode cX7_fast 100 = .ok (.iinc 5 (-1), 3) := by decide +kernel
theorem dX7_fast_103 : decode cX7_fast 103 = .ok (.iload 4, 2) := by decide +kernel
theorem dX7_fast_105 : decode cX7_fast 105 = .ok (.iconst 4, 1) := by decide +kernel
theorem dX7_fast_106 : decode cX7_fast 106 = .ok (.if_icmp .ne 11, 3) := by decide +kernel
theorem dX7_fast_109 : decode cX7_fast 109 = .ok (.iload_n 2, 1) := by decide +kernel
theorem dX7_fast_110 : decode cX7_fast 110 = .ok (.iconst 1, 1) := by decide +kernel
theorem dX7_fast_111 : decode cX7_fast 111 = .ok (.if_icmp .ne 6, 3) := by decide +kernel
theorem dX7_fast_114 : decode cX7_fast 114 = .ok (.iconst 1, 1) := by decide +kernel
theorem dX7_fast_115 : decode cX7_fast 115 = .ok (.istore 5, 2) := by decide +kernel
theorem dX7_fast_117 : decode cX7_fast 117 = .ok (.iload 5, 2) := by decide +kernel
theorem dX7_fast_119 : decode cX7_fast 119 = .ok (.iconst 1, 1) := by decide +kernel
theorem dX7_fast_120 : decode cX7_fast 120 = .ok (.if_icmp .ge 7, 3) := by decide +kernel
theorem dX7_fast_123 : decode cX7_fast 123 = .ok (.iconst 1, 1) := by decide +kernel
theorem dX7_fast_124 : decode cX7_fast 124 = .ok (.goto 5, 3) := by decide +kernel
theorem dX7_fast_127 : decode cX7_fast 127 = .ok (.iload 5, 2) := by decide +kernel
theorem dX7_fast_129 : decode cX7_fast 129 = .ok (.ireturn, 1) := by decide +kernel
theorem dX7_ash_0 : decode cX7_ash 0 = .ok (.aload_n 0, 1) := by decide +kernel
theorem dX7_ash_1 : decode cX7_ash 1 = .ok (.getfield 23, 3) := by decide +kernel
theorem dX7_ash_4 : decode cX7_ash 4 = .ok (.iload_n 1, 1) := by decide +kernel
theorem dX7_ash_5 : decode cX7_ash 5 = .ok (.iaload, 1) := by decide +kernel
theorem dX7_ash_6 : decode cX7_ash 6 = .ok (.istore_n 3, 1) := by decide +kernel
theorem dX7_ash_7 : decode cX7_ash 7 = .ok (.iload_n 2, 1) := by decide +kernel
theorem dX7_ash_8 : decode cX7_ash 8 = .ok (.istore 4, 2) := by decide +kernel
theorem dX7_ash_10 : decode cX7_ash 10 = .ok (.iload_n 3, 1) := by decide +kernel
theorem dX7_ash_11 : decode cX7_ash 11 = .ok (.iconst 1, 1) := by decide +kernel
theorem dX7_ash_12 : decode cX7_ash 12 = .ok (.if_icmp .eq 13, 3) := by decide +kernel
theorem dX7_ash_15 : decode cX7_ash 15 = .ok (.iload_n 3, 1) := by decide +kernel
theorem dX7_ash_16 : decode cX7_ash 16 = .ok (.iconst 3, 1) := by decide +kernel
theorem dX7_ash_17 : decode cX7_ash 17 = .ok (.if_icmp .eq 8, 3) := by decide +kernel
theorem dX7_ash_20 : decode cX7_ash 20 = .ok (.iload_n 3, 1) := by decide +kernel
theorem dX7_ash_21 : decode cX7_ash 21 = .ok (.iconst 5, 1) := by decide +kernel
theorem dX7_ash_22 : decode cX7_ash 22 = .ok (.if_icmp .ne 8, 3) := by decide +kernel
theorem dX7_ash_25 : decode cX7_ash 25 = .ok (.iload_n 2, 1) := by decide +kernel
theorem dX7_ash_26 : decode cX7_ash 26 = .ok (.iconst 2, 1) := by decide +kernel
theorem dX7_ash_27 : decode cX7_ash 27 = .ok (.idiv, 1) := by decide +kernel
theorem dX7_ash_28 : decode cX7_ash 28 = .ok (.istore 4, 2) := by decide +kernel
theorem dX7_ash_30 : decode cX7_ash 30 = .ok (.iload_n 3, 1) := by decide +kernel
theorem dX7_ash_31 : decode cX7_ash 31 = .ok (.iconst 3, 1) := by decide +kernel
theorem dX7_ash_32 : decode cX7_ash 32 = .ok (.if_icmp .ne 14, 3) := by decide +kernel
theorem dX7_ash_35 : decode cX7_ash 35 = .ok (.iload 4, 2) := by decide +kernel
theorem dX7_ash_37 : decode cX7_ash 37 = .ok (.aload_n 0, 1) := by decide +kernel
theorem dX7_ash_38 : decode cX7_ash 38 = .ok (.getfield 26, 3) := by decide +kernel
theorem dX7_ash_41 : decode cX7_ash 41 = .ok (.iload_n 1, 1) := by decide +kernel
theorem dX7_ash_42 : decode cX7_ash 42 = .ok (.iaload, 1) := by decide +kernel
theorem dX7_ash_43 : decode cX7_ash 43 = .ok (.isub, 1) := by decide +kernel
theorem dX7_ash_44 : decode cX7_ash 44 = .ok (.istore 4, 2) := by decide +kernel
theorem dX7_ash_46 : decode cX7_ash 46 = .ok (.iload_n 3, 1) := by decide +kernel
theorem dX7_ash_47 : decode cX7_ash 47 = .ok (.iconst 5, 1) := by decide +kernel
theorem dX7_ash_48 : decode cX7_ash 48 = .ok (.if_icmp .ne 11, 3) := by decide +kernel
theorem dX7_ash_51 : decode cX7_ash 51 = .ok (.iload 4, 2) := by decide +kernel
theorem dX7_ash_53 : decode cX7_ash 53 = .ok (.iload_n 2, 1) := by decide +kernel
theorem dX7_ash_54 : decode cX7_ash 54 = .ok (.iconst 3, 1) := by decide +kernel
theorem dX7_ash_55 : decode cX7_ash 55 = .ok (.idiv, 1) := by decide +kernel
theorem dX7_ash_56 : decode cX7_ash 56 = .ok (.iadd, 1) := by decide +kernel
theorem dX7_ash_57 : decode cX7_ash 57 = .ok (.istore 4, 2) := by decide +kernel
theorem dX7_ash_59 : decode cX7_ash 59 = .ok (.iload_n 3, 1) := by decide +kernel
theorem dX7_ash_60 : decode cX7_ash 60 = .ok (.iconst 2, 1) := by decide +kernel
theorem dX7_ash_61 : decode cX7_ash 61 = .ok (.if_icmp .ne 14, 3) := by decide +kernel
theorem dX7_ash_64 : decode cX7_ash 64 = .ok (.iload 4, 2) := by decide +kernel
theorem dX7_ash_66 : decode cX7_ash 66 = .ok (.aload_n 0, 1) := by decide +kernel
theorem dX7_ash_67 : decode cX7_ash 67 = .ok (.getfield 26, 3) := by decide +kernel
theorem dX7_ash_70 : decode cX7_ash 70 = .ok (.iload_n 1, 1) := by decide +kernel
theorem dX7_ash_71 : decode cX7_ash 71 = .ok (.iaload, 1) := by decide +kernel
theorem dX7_ash_72 : decode cX7_ash 72 = .ok (.iadd, 1) := by decide +kernel
theorem dX7_ash_73 : decode cX7_ash 73 = .ok (.istore 4, 2) := by decide +kernel
theorem dX7_ash_75 : decode cX7_ash 75 = .ok (.iload_n 3, 1) := by decide +kernel
theorem dX7_ash_76 : decode cX7_ash 76 = .ok (.iconst 4, 1) := by decide +kernel
theorem dX7_ash_77 : decode cX7_ash 77 = .ok (.if_icmp .ne 15, 3) := by decide +kernel
theorem dX7_ash_80 : decode cX7_ash 80 = .ok (.iconst 2, 1) := by decide +kernel
theorem dX7_ash_81 : decode cX7_ash 81 = .ok (.iload_n 2, 1) := by decide +kernel
theorem dX7_ash_82 : decode cX7_ash 82 = .ok (.aload_n 0, 1) := by decide +kernel
theorem dX7_ash_83 : decode cX7_ash 83 = .ok (.getfield 26, 3) := by decide +kernel
theorem dX7_ash_86 : decode cX7_ash 86 = .ok (.iload_n 1, 1) := by decide +kernel
theorem dX7_ash_87 : decode cX7_ash 87 = .ok (.iaload, 1) := by decide +kernel
theorem dX7_ash_88 : decode cX7_ash 88 = .ok (.iadd, 1) := by decide +kernel
theorem dX7_ash_89 : decode cX7_ash 89 = .ok (.imul, 1) := by decide +kernel
theorem dX7_ash_90 : decode cX7_ash 90 = .ok (.istore 4, 2) := by decide +kernel
theorem dX7_ash_92 : decode cX7_ash 92 = .ok (.iload 4, 2) := by decide +kernel
theorem dX7_ash_94 : decode cX7_ash 94 = .ok (.ifCond .ge 7, 3) := by decide +kernel
theorem dX7_ash_97 : decode cX7_ash 97 = .ok (.iconst 0, 1) := by decide +kernel
theorem dX7_ash_98 : decode cX7_ash 98 = .ok (.goto 5, 3) := by decide +kernel
theorem dX7_ash_101 : decode cX7_ash 101 = .ok (.iload 4, 2) := by decide +kernel
theorem dX7_ash_103 : decode cX7_ash 103 = .ok (.ireturn, 1) := by decide +kernel
theorem dX7_told_0 : decode cX7_told 0 = .ok (.aload_n 0, 1) := by decide +kernel
theorem dX7_told_1 : decode cX7_told 1 = .ok (.iload_n 1, 1) := by decide +kernel
theorem dX7_told_2 : decode cX7_told 2 = .ok (.invokevirtual 123, 3) := by decide +kernel
theorem dX7_told_5 : decode cX7_told 5 = .ok (.ifCond .eq 15, 3) := by decide +kernel
theorem dX7_told_8 : decode cX7_told 8 = .ok (.iload_n 2, 1) := by decide +kernel
theorem dX7_told_9 : decode cX7_told 9 = .ok (.i2l, 1) := by decide +kernel
theorem dX7_told_10 : decode cX7_told 10 = .ok (.lconst 0, 1) := by decide +kernel
theorem dX7_told_11 : decode cX7_told 11 = .ok (.ldc2_w 139, 3) := by decide +kernel
theorem dX7_told_14 : decode cX7_told 14 = .ok (.invokestatic 113, 3) := by decide +kernel
theorem dX7_told_17 : decode cX7_told 17 = .ok (.ifCond .ne 6, 3) := by decide +kernel
theorem dX7_told_20 : decode cX7_told 20 = .ok (.bipush (-2), 2) := by decide +kernel
theorem dX7_told_22 : decode cX7_told 22 = .ok (.ireturn, 1) := by decide +kernel
theorem dX7_told_23 : decode cX7_told 23 = .ok (.iload_n 2, 1) := by decide +kernel
theorem dX7_told_24 : decode cX7_told 24 = .ok (.iconst 4, 1) := by decide +kernel
theorem dX7_told_25 : decode cX7_told 25 = .ok (.if_icmp .ge 51, 3) := by decide +kernel
theorem dX7_told_28 : decode cX7_told 28 = .ok (.iload_n 2, 1) := by decide +kernel
theorem dX7_told_29 : decode cX7_told 29 = .ok (.ifCond .ne 12, 3) := by decide +kernel
theorem dX7_told_32 : decode cX7_told 32 = .ok (.aload_n 0, 1) := by decide +kernel
theorem dX7_told_33 : decode cX7_told 33 = .ok (.getfield 29, 3) := by decide +kernel
theorem dX7_told_36 : decode cX7_told 36 = .ok (.iload_n 1, 1) := by decide +kernel
theorem dX7_told_37 : decode cX7_told 37 = .ok (.iaload, 1) := by decide +kernel
theorem dX7_told_38 : decode cX7_told 38 = .ok (.goto 37, 3) := by decide +kernel
theorem dX7_told_41 : decode cX7_told 41 = .ok (.iload_n 2, 1) := by decide +kernel
theorem dX7_told_42 : decode cX7_told 42 = .ok (.iconst 1, 1) := by decide +kernel
theorem dX7_told_43 : decode cX7_told 43 = .ok (.if_icmp .ne 12, 3) := by decide +kernel
theorem dX7_told_46 : decode cX7_told 46 = .ok (.aload_n 0, 1) := by decide +kernel
theorem dX7_told_47 : decode cX7_told 47 = .ok (.getfield 32, 3) := by decide +kernel
theorem dX7_told_50 : decode cX7_told 50 = .ok (.iload_n 1, 1) := by decide +kernel
theorem dX7_told_51 : decode cX7_told 51 = .ok (.iaload, 1) := by decide +kernel
theorem dX7_told_52 : decode cX7_told 52 = .ok (.goto 23, 3) := by decide +kernel
theorem dX7_told_55 : decode cX7_told 55 = .ok (.iload_n 2, 1) := by decide +kernel
theorem dX7_told_56 : decode cX7_told 56 = .ok (.iconst 2, 1) := by decide +kernel
theorem dX7_told_57 : decode cX7_told 57 = .ok (.if_icmp .ne 12, 3) := by decide +kernel
theorem dX7_told_60 : decode cX7_told 60 = .ok (.aload_n 0, 1) := by decide +kernel
theorem dX7_told_61 : decode cX7_told 61 = .ok (.getfield 35, 3) := by decide +kernel
theorem dX7_told_64 : decode cX7_told 64 = .ok (.iload_n 1, 1) := by decide +kernel
theorem dX7_told_65 : decode cX7_told 65 = .ok (.iaload, 1) := by decide +kernel
theorem dX7_told_66 : decode cX7_told 66 = .ok (.goto 9, 3) := by decide +kernel
theorem dX7_told_69 : decode cX7_told 69 = .ok (.aload_n 0, 1) := by decide +kernel
theorem dX7_told_70 : decode cX7_told 70 = .ok (.getfield 26, 3) := by decide +kernel
theorem dX7_told_73 : decode cX7_told 73 = .ok (.iload_n 1, 1) := by decide +kernel
theorem dX7_told_74 : decode cX7_told 74 = .ok (.iaload, 1) := by decide +kernel
theorem dX7_told_75 : decode cX7_told 75 = .ok (.ireturn, 1) := by decide +kernel
theorem dX7_told_76 : decode cX7_told 76 = .ok (.iload_n 2, 1) := by decide +kernel
theorem dX7_told_77 : decode cX7_told 77 = .ok (.iconst 4, 1) := by decide +kernel
theorem dX7_told_78 : decode cX7_told 78 = .ok (.if_icmp .ne 10, 3) := by decide +kernel
theorem dX7_told_81 : decode cX7_told 81 = .ok (.aload_n 0, 1) := by decide +kernel
theorem dX7_told_82 : decode cX7_told 82 = .ok (.getfield 23, 3) := by decide +kernel
theorem dX7_told_85 : decode cX7_told 85 = .ok (.iload_n 1, 1) := by decide +kernel
theorem dX7_told_86 : decode cX7_told 86 = .ok (.iaload, 1) := by decide +kernel
theorem dX7_told_87 : decode cX7_told 87 = .ok (.ireturn, 1) := by decide +kernel
theorem dX7_told_88 : decode cX7_told 88 = .ok (.iload_n 2, 1) := by decide +kernel
theorem dX7_told_89 : decode cX7_told 89 = .ok (.bipush 6, 2) := by decide +kernel
theorem dX7_told_91 : decode cX7_told 91 = .ok (.if_icmp .ne 17, 3) := by decide +kernel
theorem dX7_told_94 : decode cX7_told 94 = .ok (.aload_n 0, 1) := by decide +kernel
theorem dX7_told_95 : decode cX7_told 95 = .ok (.iload_n 1, 1) := by decide +kernel
theorem dX7_told_96 : decode cX7_told 96 = .ok (.aload_n 0, 1) := by decide +kernel
theorem dX7_told_97 : decode cX7_told 97 = .ok (.getfield 35, 3) := by decide +kernel
theorem dX7_told_100 : decode cX7_told 100 = .ok (.iload_n 1, 1) := by decide +kernel
theorem dX7_told_101 : decode cX7_told 101 = .ok (.iaload, 1) := by decide +kernel
theorem dX7_told_102 : decode cX7_told 102 = .ok (.invokevirtual 141, 3) := by decide +kernel
theorem dX7_told_105 : decode cX7_told 105 = .ok (.goto 30, 3) := by decide +kernel
theorem dX7_told_108 : decode cX7_told 108 = .ok (.aload_n 0, 1) := by decide +kernel
theorem dX7_told_109 : decode cX7_told 109 = .ok (.iload_n 1, 1) := by decide +kernel
theorem dX7_told_110 : decode cX7_told 110 = .ok (.iload_n 2, 1) := by decide +kernel
theorem dX7_told_111 : decode cX7_told 111 = .ok (.iconst 5, 1) := by decide +kernel
theorem dX7_told_112 : decode cX7_told 112 = .ok (.if_icmp .ne 12, 3) := by decide +kernel
theorem dX7_told_115 : decode cX7_told 115 = .ok (.aload_n 0, 1) := by decide +kernel
theorem dX7_told_116 : decode cX7_told 116 = .ok (.getfield 32, 3) := by decide +kernel
theorem dX7_told_119 : decode cX7_told 119 = .ok (.iload_n 1, 1) := by decide +kernel
theorem dX7_told_120 : decode cX7_told 120 = .ok (.iaload, 1) := by decide +kernel
theorem dX7_told_121 : decode cX7_told 121 = .ok (.goto 7, 3) := by decide +kernel
theorem dX7_told_124 : decode cX7_told 124 = .ok (.iload_n 2, 1) := by decide +kernel
theorem dX7_told_125 : decode cX7_told 125 = .ok (.bipush 6, 2) := by decide +kernel
theorem dX7_told_127 : decode cX7_told 127 = .ok (.isub, 1) := by decide +kernel
theorem dX7_told_128 : decode cX7_told 128 = .ok (.aload_n 0, 1) := by decide +kernel
theorem dX7_told_129 : decode cX7_told 129 = .ok (.getfield 133, 3) := by decide +kernel
theorem dX7_told_132 : decode cX7_told 132 = .ok (.invokevirtual 145, 3) := by decide +kernel
theorem dX7_told_135 : decode cX7_told 135 = .ok (.ireturn, 1) := by decide +kernel
theorem dX7_feed_0 : decode cX7_feed 0 = .ok (.iload_n 1, 1) := by decide +kernel
theorem dX7_feed_1 : decode cX7_feed 1 = .ok (.i2l, 1) := by decide +kernel
theorem dX7_feed_2 : decode cX7_feed 2 = .ok (.lconst 0, 1) := by decide +kernel
theorem dX7_feed_3 : decode cX7_feed 3 = .ok (.ldc2_w 149, 3) := by decide +kernel
theorem dX7_feed_6 : decode cX7_feed 6 = .ok (.invokestatic 113, 3) := by decide +kernel
theorem dX7_feed_9 : decode cX7_feed 9 = .ok (.ifCond .ne 6, 3) := by decide +kernel
theorem dX7_feed_12 : decode cX7_feed 12 = .ok (.bipush (-2), 2) := by decide +kernel
theorem dX7_feed_14 : decode cX7_feed 14 = .ok (.ireturn, 1) := by decide +kernel
theorem dX7_feed_15 : decode cX7_feed 15 = .ok (.aload_n 0, 1) := by decide +kernel
theorem dX7_feed_16 : decode cX7_feed 16 = .ok (.getfield 151, 3) := by decide +kernel
theorem dX7_feed_19 : decode cX7_feed 19 = .ok (.sipush 160, 3) := by decide +kernel
theorem dX7_feed_22 : decode cX7_feed 22 = .ok (.if_icmp .ne 6, 3) := by decide +kernel
theorem dX7_feed_25 : decode cX7_feed 25 = .ok (.bipush (-4), 2) := by decide +kernel
theorem dX7_feed_27 : decode cX7_feed 27 = .ok (.ireturn, 1) := by decide +kernel
theorem dX7_feed_28 : decode cX7_feed 28 = .ok (.aload_n 0, 1) := by decide +kernel
theorem dX7_feed_29 : decode cX7_feed 29 = .ok (.getfield 20, 3) := by decide +kernel
theorem dX7_feed_32 : decode cX7_feed 32 = .ok (.aload_n 0, 1) := by decide +kernel
theorem dX7_feed_33 : decode cX7_feed 33 = .ok (.getfield 151, 3) := by decide +kernel
theorem dX7_feed_36 : decode cX7_feed 36 = .ok (.iload_n 1, 1) := by decide +kernel
theorem dX7_feed_37 : decode cX7_feed 37 = .ok (.iastore, 1) := by decide +kernel
theorem dX7_feed_38 : decode cX7_feed 38 = .ok (.aload_n 0, 1) := by decide +kernel
theorem dX7_feed_39 : decode cX7_feed 39 = .ok (.dup, 1) := by decide +kernel
theorem dX7_feed_40 : decode cX7_feed 40 = .ok (.getfield 151, 3) := by decide +kernel
theorem dX7_feed_43 : decode cX7_feed 43 = .ok (.iconst 1, 1) := by decide +kernel
theorem dX7_feed_44 : decode cX7_feed 44 = .ok (.iadd, 1) := by decide +kernel
theorem dX7_feed_45 : decode cX7_feed 45 = .ok (.putfield 151, 3) := by decide +kernel
theorem dX7_feed_48 : decode cX7_feed 48 = .ok (.aload_n 0, 1) := by decide +kernel
theorem dX7_feed_49 : decode cX7_feed 49 = .ok (.getfield 151, 3) := by decide +kernel
theorem dX7_feed_52 : decode cX7_feed 52 = .ok (.ireturn, 1) := by decide +kernel
theorem dX7_byteAt_0 : decode cX7_byteAt 0 = .ok (.iload_n 1, 1) := by decide +kernel
theorem dX7_byteAt_1 : decode cX7_byteAt 1 = .ok (.aload_n 0, 1) := by decide +kernel
theorem dX7_byteAt_2 : decode cX7_byteAt 2 = .ok (.getfield 154, 3) := by decide +kernel
theorem dX7_byteAt_5 : decode cX7_byteAt 5 = .ok (.if_icmp .ge 17, 3) := by decide +kernel
theorem dX7_byteAt_8 : decode cX7_byteAt 8 = .ok (.aload_n 0, 1) := by decide +kernel
theorem dX7_byteAt_9 : decode cX7_byteAt 9 = .ok (.getfield 13, 3) := by decide +kernel
theorem dX7_byteAt_12 : decode cX7_byteAt 12 = .ok (.aload_n 0, 1) := by decide +kernel
theorem dX7_byteAt_13 : decode cX7_byteAt 13 = .ok (.getfield 157, 3) := by decide +kernel
theorem dX7_byteAt_16 : decode cX7_byteAt 16 = .ok (.iload_n 1, 1) := by decide +kernel
theorem dX7_byteAt_17 : decode cX7_byteAt 17 = .ok (.iadd, 1) := by decide +kernel
theorem dX7_byteAt_18 : decode cX7_byteAt 18 = .ok (.iaload, 1) := by decide +kernel
theorem dX7_byteAt_19 : decode cX7_byteAt 19 = .ok (.goto 4, 3) := by decide +kernel
theorem dX7_byteAt_22 : decode cX7_byteAt 22 = .ok (.iconst (-1), 1) := by decide +kernel
theorem dX7_byteAt_23 : decode cX7_byteAt 23 = .ok (.ireturn, 1) := by decide +kernel
theorem dX7_next_0 : decode cX7_next 0 = .ok (.aload_n 0, 1) := by decide +kernel
theorem dX7_next_1 : decode cX7_next 1 = .ok (.aload_n 0, 1) := by decide +kernel
theorem dX7_next_2 : decode cX7_next 2 = .ok (.getfield 160, 3) := by decide +kernel
theorem dX7_next_5 : decode cX7_next 5 = .ok (.invokevirtual 163, 3) := by decide +kernel
theorem dX7_next_8 : decode cX7_next 8 = .ok (.bipush 32, 2) := by decide +kernel
theorem dX7_next_10 : decode cX7_next 10 = .ok (.if_icmp .eq 16, 3) := by decide +kernel
theorem dX7_next_13 : decode cX7_next 13 = .ok (.aload_n 0, 1) := by decide +kernel
theorem dX7_next_14 : decode cX7_next 14 = .ok (.aload_n 0, 1) := by decide +kernel
theorem dX7_next_15 : decode cX7_next 15 = .ok (.getfield 160, 3) := by decide +kernel
theorem dX7_next_18 : decode cX7_next 18 = .ok (.invokevirtual 163, 3) := by decide +kernel
theorem dX7_next_21 : decode cX7_next 21 = .ok (.bipush 10, 2) := by decide +kernel
theorem dX7_next_23 : decode cX7_next 23 = .ok (.if_icmp .ne 16, 3) := by decide +kernel
theorem dX7_next_26 : decode cX7_next 26 = .ok (.aload_n 0, 1) := by decide +kernel
theorem dX7_next_27 : decode cX7_next 27 = .ok (.dup, 1) := by decide +kernel
theorem dX7_next_28 : decode cX7_next 28 = .ok (.getfield 160, 3) := by decide +kernel
theorem dX7_next_31 : decode cX7_next 31 = .ok (.iconst 1, 1) := by decide +kernel
theorem dX7_next_32 : decode cX7_next 32 = .ok (.iadd, 1) := by decide +kernel
theorem dX7_next_33 : decode cX7_next 33 = .ok (.putfield 160, 3) := by decide +kernel
theorem dX7_next_36 : decode cX7_next 36 = .ok (.goto (-36), 3) := by decide +kernel
theorem dX7_next_39 : decode cX7_next 39 = .ok (.aload_n 0, 1) := by decide +kernel
theorem dX7_next_40 : decode cX7_next 40 = .ok (.aload_n 0, 1) := by decide +kernel
theorem dX7_next_41 : decode cX7_next 41 = .ok (.getfield 160, 3) := by decide +kernel
theorem dX7_next_44 : decode cX7_next 44 = .ok (.putfield 167, 3) := by decide +kernel
theorem dX7_next_47 : decode cX7_next 47 = .ok (.aload_n 0, 1) := by decide +kernel
theorem dX7_next_48 : decode cX7_next 48 = .ok (.aload_n 0, 1) := by decide +kernel
theorem dX7_next_49 : decode cX7_next 49 = .ok (.getfield 160, 3) := by decide +kernel
theorem dX7_next_52 : decode cX7_next 52 = .ok (.invokevirtual 163, 3) := by decide +kernel
theorem dX7_next_55 : decode cX7_next 55 = .ok (.istore_n 1, 1) := by decide +kernel
theorem dX7_next_56 : decode cX7_next 56 = .ok (.aload_n 0, 1) := by decide +kernel
theorem dX7_next_57 : decode cX7_next 57 = .ok (.iconst 4, 1) := by decide +kernel
theorem dX7_next_58 : decode cX7_next 58 = .ok (.putfield 170, 3) := by decide +kernel
theorem dX7_next_61 : decode cX7_next 61 = .ok (.iload_n 1, 1) := by decide +kernel
theorem dX7_next_62 : decode cX7_next 62 = .ok (.ifCond .ge 19, 3) := by decide +kernel
theorem dX7_next_65 : decode cX7_next 65 = .ok (.aload_n 0, 1) := by decide +kernel
theorem dX7_next_66 : decode cX7_next 66 = .ok (.iconst 0, 1) := by decide +kernel
theorem dX7_next_67 : decode cX7_next 67 = .ok (.putfield 170, 3) := by decide +kernel
theorem dX7_next_70 : decode cX7_next 70 = .ok (.aload_n 0, 1) := by decide +kernel
theorem dX7_next_71 : decode cX7_next 71 = .ok (.aload_n 0, 1) := by decide +kernel
theorem dX7_next_72 : decode cX7_next 72 = .ok (.getfield 154, 3) := by decide +kernel
theorem dX7_next_75 : decode cX7_next 75 = .ok (.putfield 167, 3) := by decide +kernel
theorem dX7_next_78 : decode cX7_next 78 = .ok (.goto 243, 3) := by decide +kernel
theorem dX7_next_81 : decode cX7_next 81 = .ok (.iload_n 1, 1) := by decide +kernel
theorem dX7_next_82 : decode cX7_next 82 = .ok (.i2l, 1) := by decide +kernel
theorem dX7_next_83 : decode cX7_next 83 = .ok (.ldc2_w 173, 3) := by decide +kernel
theorem dX7_next_86 : decode cX7_next 86 = .ok (.ldc2_w 175, 3) := by decide +kernel
theorem dX7_next_89 : decode cX7_next 89 = .ok (.invokestatic 113, 3) := by decide +kernel
theorem dX7_next_92 : decode cX7_next 92 = .ok (.ifCond .eq 42, 3) := by decide +kernel
theorem dX7_next_95 : decode cX7_next 95 = .ok (.aload_n 0, 1) := by decide +kernel
theorem dX7_next_96 : decode cX7_next 96 = .ok (.iconst 1, 1) := by decide +kernel
theorem dX7_next_97 : decode cX7_next 97 = .ok (.putfield 170, 3) := by decide +kernel
theorem dX7_next_100 : decode cX7_next 100 = .ok (.aload_n 0, 1) := by decide +kernel
theorem dX7_next_101 : decode cX7_next 101 = .ok (.aload_n 0, 1) := by decide +kernel
theorem dX7_next_102 : decode cX7_next 102 = .ok (.getfield 160, 3) := by decide +kernel
theorem dX7_next_105 : decode cX7_next 105 = .ok (.invokevirtual 163, 3) := by decide +kernel
theorem dX7_next_108 : decode cX7_next 108 = .ok (.i2l, 1) := by decide +kernel
theorem dX7_next_109 : decode cX7_next 109 = .ok (.ldc2_w 173, 3) := by decide +kernel
theorem dX7_next_112 : decode cX7_next 112 = .ok (.ldc2_w 175, 3) := by decide +kernel
theorem dX7_next_115 : decode cX7_next 115 = .ok (.invokestatic 113, 3) := by decide +kernel
theorem dX7_next_118 : decode cX7_next 118 = .ok (.ifCond .eq 203, 3) := by decide +kernel
theorem dX7_next_121 : decode cX7_next 121 = .ok (.aload_n 0, 1) := by decide +kernel
theorem dX7_next_122 : decode cX7_next 122 = .ok (.dup, 1) := by decide +kernel
theorem dX7_next_123 : decode cX7_next 123 = .ok (.getfield 160, 3) := by decide +kernel
theorem dX7_next_126 : decode cX7_next 126 = .ok (.iconst 1, 1) := by decide +kernel
theorem dX7_next_127 : decode cX7_next 127 = .ok (.iadd, 1) := by decide +kernel
theorem dX7_next_128 : decode cX7_next 128 = .ok (.putfield 160, 3) := by decide +kernel
theorem dX7_next_131 : decode cX7_next 131 = .ok (.goto (-31), 3) := by decide +kernel
theorem dX7_next_134 : decode cX7_next 134 = .ok (.iload_n 1, 1) := by decide +kernel
theorem dX7_next_135 : decode cX7_next 135 = .ok (.i2l, 1) := by decide +kernel
theorem dX7_next_136 : decode cX7_next 136 = .ok (.ldc2_w 177, 3) := by decide +kernel
theorem dX7_next_139 : decode cX7_next 139 = .ok (.ldc2_w 179, 3) := by decide +kernel
theorem dX7_next_142 : decode cX7_next 142 = .ok (.invokestatic 113, 3) := by decide +kernel
theorem dX7_next_145 : decode cX7_next 145 = .ok (.ifCond .eq 107, 3) := by decide +kernel
theorem dX7_next_148 : decode cX7_next 148 = .ok (.aload_n 0, 1) := by decide +kernel
theorem dX7_next_149 : decode cX7_next 149 = .ok (.iconst 2, 1) := by decide +kernel
theorem dX7_next_150 : decode cX7_next 150 = .ok (.putfield 170, 3) := by decide +kernel
theorem dX7_next_153 : decode cX7_next 153 = .ok (.aload_n 0, 1) := by decide +kernel
theorem dX7_next_154 : decode cX7_next 154 = .ok (.lconst 0, 1) := by decide +kernel
theorem dX7_next_155 : decode cX7_next 155 = .ok (.putfield 181, 3) := by decide +kernel
theorem dX7_next_158 : decode cX7_next 158 = .ok (.iconst 0, 1) := by decide +kernel
theorem dX7_next_159 : decode cX7_next 159 = .ok (.istore_n 2, 1) := by decide +kernel
theorem dX7_next_160 : decode cX7_next 160 = .ok (.aload_n 0, 1) := by decide +kernel
theorem dX7_next_161 : decode cX7_next 161 = .ok (.aload_n 0, 1) := by decide +kernel
theorem dX7_next_162 : decode cX7_next 162 = .ok (.getfield 160, 3) := by decide +kernel
theorem dX7_next_165 : decode cX7_next 165 = .ok (.invokevirtual 163, 3) := by decide +kernel
theorem dX7_next_168 : decode cX7_next 168 = .ok (.i2l, 1) := by decide +kernel
theorem dX7_next_169 : decode cX7_next 169 = .ok (.ldc2_w 177, 3) := by decide +kernel
theorem dX7_next_172 : decode cX7_next 172 = .ok (.ldc2_w 179, 3) := by decide +kernel
theorem dX7_next_175 : decode cX7_next 175 = .ok (.invokestatic 113, 3) := by decide +kernel
theorem dX7_next_178 : decode cX7_next 178 = .ok (.ifCond .eq 57, 3) := by decide +kernel
theorem dX7_next_181 : decode cX7_next 181 = .ok (.aload_n 0, 1) := by decide +kernel
theorem dX7_next_182 : decode cX7_next 182 = .ok (.iload_n 2, 1) := by decide +kernel
theorem dX7_next_183 : decode cX7_next 183 = .ok (.iconst 4, 1) := by decide +kernel
theorem dX7_next_184 : decode cX7_next 184 = .ok (.if_icmp .ge 28, 3) := by decide +kernel
theorem dX7_next_187 : decode cX7_next 187 = .ok (.ldc2_w 185, 3) := by decide +kernel
theorem dX7_next_190 : decode cX7_next 190 = .ok (.aload_n 0, 1) := by decide +kernel
theorem dX7_next_191 : decode cX7_next 191 = .ok (.getfield 181, 3) := by decide +kernel
theorem dX7_next_194 : decode cX7_next 194 = .ok (.lmul, 1) := by decide +kernel
theorem dX7_next_195 : decode cX7_next 195 = .ok (.aload_n 0, 1) := by decide +kernel
theorem dX7_next_196 : decode cX7_next 196 = .ok (.aload_n 0, 1) := by decide +kernel
theorem dX7_next_197 : decode cX7_next 197 = .ok (.getfield 160, 3) := by decide +kernel
theorem dX7_next_200 : decode cX7_next 200 = .ok (.invokevirtual 163, 3) := by decide +kernel
theorem dX7_next_203 : decode cX7_next 203 = .ok (.i2l, 1) := by decide +kernel
theorem dX7_next_204 : decode cX7_next 204 = .ok (.ladd, 1) := by decide +kernel
theorem dX7_next_205 : decode cX7_next 205 = .ok (.ldc2_w 177, 3) := by decide +kernel
theorem dX7_next_208 : decode cX7_next 208 = .ok (.lsub, 1) := by decide +kernel
theorem dX7_next_209 : decode cX7_next 209 = .ok (.goto 7, 3) := by decide +kernel
theorem dX7_next_212 : decode cX7_next 212 = .ok (.aload_n 0, 1) := by decide +kernel
theorem dX7_next_213 : decode cX7_next 213 = .ok (.getfield 181, 3) := by decide +kernel
theorem dX7_next_216 : decode cX7_next 216 = .ok (.putfield 181, 3) := by decide +kernel
theorem dX7_next_219 : decode cX7_next 219 = .ok (.iinc 2 1, 3) := by decide +kernel
theorem dX7_next_222 : decode cX7_next 222 = .ok (.aload_n 0, 1) := by decide +kernel
theorem dX7_next_223 : decode cX7_next 223 = .ok (.dup, 1) := by decide +kernel
theorem dX7_next_224 : decode cX7_next 224 = .ok (.getfield 160, 3) := by decide +kernel
theorem dX7_next_227 : decode cX7_next 227 = .ok (.iconst 1, 1) := by decide +kernel
theorem dX7_next_228 : decode cX7_next 228 = .ok (.iadd, 1) := by decide +kernel
theorem dX7_next_229 : decode cX7_next 229 = .ok (.putfield 160, 3) := by decide +kernel
theorem dX7_next_232 : decode cX7_next 232 = .ok (.goto (-72), 3) := by decide +kernel
theorem dX7_next_235 : decode cX7_next 235 = .ok (.aload_n 0, 1) := by decide +kernel
theorem dX7_next_236 : decode cX7_next 236 = .ok (.iload_n 2, 1) := by decide +kernel
theorem dX7_next_237 : decode cX7_next 237 = .ok (.iconst 4, 1) := by decide +kernel
theorem dX7_next_238 : decode cX7_next 238 = .ok (.if_icmp .le 7, 3) := by decide +kernel
theorem dX7_next_241 : decode cX7_next 241 = .ok (.iconst 4, 1) := by decide +kernel
theorem dX7_next_242 : decode cX7_next 242 = .ok (.goto 4, 3) := by decide +kernel
theorem dX7_next_245 : decode cX7_next 245 = .ok (.iconst 2, 1) := by decide +kernel
theorem dX7_next_246 : decode cX7_next 246 = .ok (.putfield 170, 3) := by decide +kernel
theorem dX7_next_249 : decode cX7_next 249 = .ok (.goto 72, 3) := by decide +kernel
theorem dX7_next_252 : decode cX7_next 252 = .ok (.iload_n 1, 1) := by decide +kernel
theorem dX7_next_253 : decode cX7_next 253 = .ok (.bipush 40, 2) := by decide +kernel
theorem dX7_next_255 : decode cX7_next 255 = .ok (.if_icmp .eq 45, 3) := by decide +kernel
theorem dX7_next_258 : decode cX7_next 258 = .ok (.iload_n 1, 1) := by decide +kernel
theorem dX7_next_259 : decode cX7_next 259 = .ok (.bipush 41, 2) := by decide +kernel
theorem dX7_next_261 : decode cX7_next 261 = .ok (.if_icmp .eq 39, 3) := by decide +kernel
theorem dX7_next_264 : decode cX7_next 264 = .ok (.iload_n 1, 1) := by decide +kernel
theorem dX7_next_265 : decode cX7_next 265 = .ok (.bipush 59, 2) := by decide +kernel
theorem dX7_next_267 : decode cX7_next 267 = .ok (.if_icmp .eq 33, 3) := by decide +kernel
theorem dX7_next_270 : decode cX7_next 270 = .ok (.iload_n 1, 1) := by decide +kernel
theorem dX7_next_271 : decode cX7_next 271 = .ok (.bipush 43, 2) := by decide +kernel
theorem dX7_next_273 : decode cX7_next 273 = .ok (.if_icmp .eq 27, 3) := by decide +kernel
theorem dX7_next_276 : decode cX7_next 276 = .ok (.iload_n 1, 1) := by decide +kernel
theorem dX7_next_277 : decode cX7_next 277 = .ok (.bipush 45, 2) := by decide +kernel
theorem dX7_next_279 : decode cX7_next 279 = .ok (.if_icmp .eq 21, 3) := by decide +kernel
theorem dX7_next_282 : decode cX7_next 282 = .ok (.iload_n 1, 1) := by decide +kernel
theorem dX7_next_283 : decode cX7_next 283 = .ok (.bipush 42, 2) := by decide +kernel
theorem dX7_next_285 : decode cX7_next 285 = .ok (.if_icmp .eq 15, 3) := by decide +kernel
theorem dX7_next_288 : decode cX7_next 288 = .ok (.iload_n 1, 1) := by decide +kernel
theorem dX7_next_289 : decode cX7_next 289 = .ok (.bipush 60, 2) := by decide +kernel
theorem dX7_next_291 : decode cX7_next 291 = .ok (.if_icmp .eq 9, 3) := by decide +kernel
theorem dX7_next_294 : decode cX7_next 294 = .ok (.iload_n 1, 1) := by decide +kernel
theorem dX7_next_295 : decode cX7_next 295 = .ok (.bipush 61, 2) := by decide +kernel
theorem dX7_next_297 : decode cX7_next 297 = .ok (.if_icmp .ne 24, 3) := by decide +kernel
theorem dX7_next_300 : decode cX7_next 300 = .ok (.aload_n 0, 1) := by decide +kernel
theorem dX7_next_301 : decode cX7_next 301 = .ok (.iconst 3, 1) := by decide +kernel
theorem dX7_next_302 : decode cX7_next 302 = .ok (.putfield 170, 3) := by decide +kernel
theorem dX7_next_305 : decode cX7_next 305 = .ok (.aload_n 0, 1) := by decide +kernel
theorem dX7_next_306 : decode cX7_next 306 = .ok (.iload_n 1, 1) := by decide +kernel
theorem dX7_next_307 : decode cX7_next 307 = .ok (.i2l, 1) := by decide +kernel
theorem dX7_next_308 : decode cX7_next 308 = .ok (.putfield 181, 3) := by decide +kernel
theorem dX7_next_311 : decode cX7_next 311 = .ok (.aload_n 0, 1) := by decide +kernel
theorem dX7_next_312 : decode cX7_next 312 = .ok (.dup, 1) := by decide +kernel
theorem dX7_next_313 : decode cX7_next 313 = .ok (.getfield 160, 3) := by decide +kernel
theorem dX7_next_316 : decode cX7_next 316 = .ok (.iconst 1, 1) := by decide +kernel
theorem dX7_next_317 : decode cX7_next 317 = .ok (.iadd, 1) := by decide +kernel
theorem dX7_next_318 : decode cX7_next 318 = .ok (.putfield 160, 3) := by decide +kernel
theorem dX7_next_321 : decode cX7_next 321 = .ok (.return_, 1) := by decide +kernel
theorem dX7_fail_0 : decode cX7_fail 0 = .ok (.aload_n 0, 1) := by decide +kernel
theorem dX7_fail_1 : decode cX7_fail 1 = .ok (.getfield 187, 3) := by decide +kernel
theorem dX7_fail_4 : decode cX7_fail 4 = .ok (.ifCond .ne 16, 3) := by decide +kernel
theorem dX7_fail_7 : decode cX7_fail 7 = .ok (.aload_n 0, 1) := by decide +kernel
theorem dX7_fail_8 : decode cX7_fail 8 = .ok (.iconst 1, 1) := by decide +kernel
theorem dX7_fail_9 : decode cX7_fail 9 = .ok (.putfield 187, 3) := by decide +kernel
theorem dX7_fail_12 : decode cX7_fail 12 = .ok (.aload_n 0, 1) := by decide +kernel
theorem dX7_fail_13 : decode cX7_fail 13 = .ok (.aload_n 0, 1) := by decide +kernel
theorem dX7_fail_14 : decode cX7_fail 14 = .ok (.getfield 167, 3) := by decide +kernel
theorem dX7_fail_17 : decode cX7_fail 17 = .ok (.putfield 191, 3) := by decide +kernel
theorem dX7_fail_20 : decode cX7_fail 20 = .ok (.return_, 1) := by decide +kernel
theorem dX7_isLetter_0 : decode cX7_isLetter 0 = .ok (.aload_n 0, 1) := by decide +kernel
theorem dX7_isLetter_1 : decode cX7_isLetter 1 = .ok (.getfield 167, 3) := by decide +kernel
theorem dX7_isLetter_4 : decode cX7_isLetter 4 = .ok (.iload_n 1, 1) := by decide +kernel
theorem dX7_isLetter_5 : decode cX7_isLetter 5 = .ok (.iadd, 1) := by decide +kernel
theorem dX7_isLetter_6 : decode cX7_isLetter 6 = .ok (.aload_n 0, 1) := by decide +kernel
theorem dX7_isLetter_7 : decode cX7_isLetter 7 = .ok (.getfield 160, 3) := by decide +kernel
theorem dX7_isLetter_10 : decode cX7_isLetter 10 = .ok (.if_icmp .ge 25, 3) := by decide +kernel
theorem dX7_isLetter_13 : decode cX7_isLetter 13 = .ok (.aload_n 0, 1) := by decide +kernel
theorem dX7_isLetter_14 : decode cX7_isLetter 14 = .ok (.aload_n 0, 1) := by decide +kernel
theorem dX7_isLetter_15 : decode cX7_isLetter 15 = .ok (.getfield 167, 3) := by decide +kernel
theorem dX7_isLetter_18 : decode cX7_isLetter 18 = .ok (.iload_n 1, 1) := by decide +kernel
theorem dX7_isLetter_19 : decode cX7_isLetter 19 = .ok (.iadd, 1) := by decide +kernel
theorem dX7_isLetter_20 : decode cX7_isLetter 20 = .ok (.invokevirtual 163, 3) := by decide +kernel
theorem dX7_isLetter_23 : decode cX7_isLetter 23 = .ok (.iload_n 2, 1) := by decide +kernel
theorem dX7_isLetter_24 : decode cX7_isLetter 24 = .ok (.if_icmp .ne 7, 3) := by decide +kernel
theorem dX7_isLetter_27 : decode cX7_isLetter 27 = .ok (.iconst 1, 1) := by decide +kernel
theorem dX7_isLetter_28 : decode cX7_isLetter 28 = .ok (.goto 16, 3) := by decide +kernel
theorem dX7_isLetter_31 : decode cX7_isLetter 31 = .ok (.iconst 0, 1) := by decide +kernel
theorem dX7_isLetter_32 : decode cX7_isLetter 32 = .ok (.goto 12, 3) := by decide +kernel
theorem dX7_isLetter_35 : decode cX7_isLetter 35 = .ok (.iload_n 2, 1) := by decide +kernel
theorem dX7_isLetter_36 : decode cX7_isLetter 36 = .ok (.ifCond .ne 7, 3) := by decide +kernel
theorem dX7_isLetter_39 : decode cX7_isLetter 39 = .ok (.iconst 1, 1) := by decide +kernel
theorem dX7_isLetter_40 : decode cX7_isLetter 40 = .ok (.goto 4, 3) := by decide +kernel
theorem dX7_isLetter_43 : decode cX7_isLetter 43 = .ok (.iconst 0, 1) := by decide +kernel
theorem dX7_isLetter_44 : decode cX7_isLetter 44 = .ok (.ireturn, 1) := by decide +kernel
theorem dX7_isWord_0 : decode cX7_isWord 0 = .ok (.aload_n 0, 1) := by decide +kernel
theorem dX7_isWord_1 : decode cX7_isWord 1 = .ok (.getfield 187, 3) := by decide +kernel
theorem dX7_isWord_4 : decode cX7_isWord 4 = .ok (.ifCond .ne 108, 3) := by decide +kernel
theorem dX7_isWord_7 : decode cX7_isWord 7 = .ok (.aload_n 0, 1) := by decide +kernel
theorem dX7_isWord_8 : decode cX7_isWord 8 = .ok (.getfield 170, 3) := by decide +kernel
theorem dX7_isWord_11 : decode cX7_isWord 11 = .ok (.iconst 1, 1) := by decide +kernel
theorem dX7_isWord_12 : decode cX7_isWord 12 = .ok (.if_icmp .ne 100, 3) := by decide +kernel
theorem dX7_isWord_15 : decode cX7_isWord 15 = .ok (.aload_n 0, 1) := by decide +kernel
theorem dX7_isWord_16 : decode cX7_isWord 16 = .ok (.getfield 160, 3) := by decide +kernel
theorem dX7_isWord_19 : decode cX7_isWord 19 = .ok (.aload_n 0, 1) := by decide +kernel
theorem dX7_isWord_20 : decode cX7_isWord 20 = .ok (.getfield 167, 3) := by decide +kernel
theorem dX7_isWord_23 : decode cX7_isWord 23 = .ok (.bipush 8, 2) := by decide +kernel
theorem dX7_isWord_25 : decode cX7_isWord 25 = .ok (.iadd, 1) := by decide +kernel
theorem dX7_isWord_26 : decode cX7_isWord 26 = .ok (.if_icmp .gt 86, 3) := by decide +kernel
theorem dX7_isWord_29 : decode cX7_isWord 29 = .ok (.aload_n 0, 1) := by decide +kernel
theorem dX7_isWord_30 : decode cX7_isWord 30 = .ok (.iconst 0, 1) := by decide +kernel
theorem dX7_isWord_31 : decode cX7_isWord 31 = .ok (.iload_n 1, 1) := by decide +kernel
theorem dX7_isWord_32 : decode cX7_isWord 32 = .ok (.invokevirtual 194, 3) := by decide +kernel
theorem dX7_isWord_35 : decode cX7_isWord 35 = .ok (.ifCond .eq 77, 3) := by decide +kernel
theorem dX7_isWord_38 : decode cX7_isWord 38 = .ok (.aload_n 0, 1) := by decide +kernel
theorem dX7_isWord_39 : decode cX7_isWord 39 = .ok (.iconst 1, 1) := by decide +kernel
theorem dX7_isWord_40 : decode cX7_isWord 40 = .ok (.iload_n 2, 1) := by decide +kernel
theorem dX7_isWord_41 : decode cX7_isWord 41 = .ok (.invokevirtual 194, 3) := by decide +kernel
theorem dX7_isWord_44 : decode cX7_isWord 44 = .ok (.ifCond .eq 68, 3) := by decide +kernel
theorem dX7_isWord_47 : decode cX7_isWord 47 = .ok (.aload_n 0, 1) := by decide +kernel
theorem dX7_isWord_48 : decode cX7_isWord 48 = .ok (.iconst 2, 1) := by decide +kernel
theorem dX7_isWord_49 : decode cX7_isWord 49 = .ok (.iload_n 3, 1) := by decide +kernel
theorem dX7_isWord_50 : decode cX7_isWord 50 = .ok (.invokevirtual 194, 3) := by decide +kernel
theorem dX7_isWord_53 : decode cX7_isWord 53 = .ok (.ifCond .eq 59, 3) := by decide +kernel
theorem dX7_isWord_56 : decode cX7_isWord 56 = .ok (.aload_n 0, 1) := by decide +kernel
theorem dX7_isWord_57 : decode cX7_isWord 57 = .ok (.iconst 3, 1) := by decide +kernel
theorem dX7_isWord_58 : decode cX7_isWord 58 = .ok (.iload 4, 2) := by decide +kernel
theorem dX7_isWord_60 : decode cX7_isWord 60 = .ok (.invokevirtual 194, 3) := by decide +kernel
theorem dX7_isWord_63 : decode cX7_isWord 63 = .ok (.ifCond .eq 49, 3) := by decide +kernel
theorem dX7_isWord_66 : decode cX7_isWord 66 = .ok (.aload_n 0, 1) := by decide +kernel
theorem dX7_isWord_67 : decode cX7_isWord 67 = .ok (.iconst 4, 1) := by decide +kernel
theorem dX7_isWord_68 : decode cX7_isWord 68 = .ok (.iload 5, 2) := by decide +kernel
theorem dX7_isWord_70 : decode cX7_isWord 70 = .ok (.invokevirtual 194, 3) := by decide +kernel
theorem dX7_isWord_73 : decode cX7_isWord 73 = .ok (.ifCond .eq 39, 3) := by decide +kernel
theorem dX7_isWord_76 : decode cX7_isWord 76 = .ok (.aload_n 0, 1) := by decide +kernel
theorem dX7_isWord_77 : decode cX7_isWord 77 = .ok (.iconst 5, 1) := by decide +kernel
theorem dX7_isWord_78 : decode cX7_isWord 78 = .ok (.iload 6, 2) := by decide +kernel
theorem dX7_isWord_80 : decode cX7_isWord 80 = .ok (.invokevirtual 194, 3) := by decide +kernel
theorem dX7_isWord_83 : decode cX7_isWord 83 = .ok (.ifCond .eq 29, 3) := by decide +kernel
theorem dX7_isWord_86 : decode cX7_isWord 86 = .ok (.aload_n 0, 1) := by decide +kernel
theorem dX7_isWord_87 : decode cX7_isWord 87 = .ok (.bipush 6, 2) := by decide +kernel
theorem dX7_isWord_89 : decode cX7_isWord 89 = .ok (.iload 7, 2) := by decide +kernel
theorem dX7_isWord_91 : decode cX7_isWord 91 = .ok (.invokevirtual 194, 3) := by decide +kernel
theorem dX7_isWord_94 : decode cX7_isWord 94 = .ok (.ifCond .eq 18, 3) := by decide +kernel
theorem dX7_isWord_97 : decode cX7_isWord 97 = .ok (.aload_n 0, 1) := by decide +kernel
theorem dX7_isWord_98 : decode cX7_isWord 98 = .ok (.bipush 7, 2) := by decide +kernel
theorem dX7_isWord_100 : decode cX7_isWord 100 = .ok (.iload 8, 2) := by decide +kernel
theorem dX7_isWord_102 : decode cX7_isWord 102 = .ok (.invokevirtual 194, 3) := by decide +kernel
theorem dX7_isWord_105 : decode cX7_isWord 105 = .ok (.ifCond .eq 7, 3) := by decide +kernel
theorem dX7_isWord_108 : decode cX7_isWord 108 = .ok (.iconst 1, 1) := by decide +kernel
theorem dX7_isWord_109 : decode cX7_isWord 109 = .ok (.goto 4, 3) := by decide +kernel
theorem dX7_isWord_112 : decode cX7_isWord 112 = .ok (.iconst 0, 1) := by decide +kernel
theorem dX7_isWord_113 : decode cX7_isWord 113 = .ok (.ireturn, 1) := by decide +kernel
theorem dX7_isSign_0 : decode cX7_isSign 0 = .ok (.aload_n 0, 1) := by decide +kernel
theorem dX7_isSign_1 : decode cX7_isSign 1 = .ok (.getfield 187, 3) := by decide +kernel
theorem dX7_isSign_4 : decode cX7_isSign 4 = .ok (.ifCond .ne 25, 3) := by decide +kernel
theorem dX7_isSign_7 : decode cX7_isSign 7 = .ok (.aload_n 0, 1) := by decide +kernel
theorem dX7_isSign_8 : decode cX7_isSign 8 = .ok (.getfield 170, 3) := by decide +kernel
theorem dX7_isSign_11 : decode cX7_isSign 11 = .ok (.iconst 3, 1) := by decide +kernel
theorem dX7_isSign_12 : decode cX7_isSign 12 = .ok (.if_icmp .ne 17, 3) := by decide +kernel
theorem dX7_isSign_15 : decode cX7_isSign 15 = .ok (.aload_n 0, 1) := by decide +kernel
theorem dX7_isSign_16 : decode cX7_isSign 16 = .ok (.getfield 181, 3) := by decide +kernel
theorem dX7_isSign_19 : decode cX7_isSign 19 = .ok (.iload_n 1, 1) := by decide +kernel
theorem dX7_isSign_20 : decode cX7_isSign 20 = .ok (.i2l, 1) := by decide +kernel
theorem dX7_isSign_21 : decode cX7_isSign 21 = .ok (.lcmp, 1) := by decide +kernel
theorem dX7_isSign_22 : decode cX7_isSign 22 = .ok (.ifCond .ne 7, 3) := by decide +kernel
theorem dX7_isSign_25 : decode cX7_isSign 25 = .ok (.iconst 1, 1) := by decide +kernel
theorem dX7_isSign_26 : decode cX7_isSign 26 = .ok (.goto 4, 3) := by decide +kernel
theorem dX7_isSign_29 : decode cX7_isSign 29 = .ok (.iconst 0, 1) := by decide +kernel
theorem dX7_isSign_30 : decode cX7_isSign 30 = .ok (.ireturn, 1) := by decide +kernel
theorem dX7_opens_0 : decode cX7_opens 0 = .ok (.aload_n 0, 1) := by decide +kernel
theorem dX7_opens_1 : decode cX7_opens 1 = .ok (.getfield 198, 3) := by decide +kernel
theorem dX7_opens_4 : decode cX7_opens 4 = .ok (.iconst 5, 1) := by decide +kernel
theorem dX7_opens_5 : decode cX7_opens 5 = .ok (.if_icmp .ne 9, 3) := by decide +kernel
theorem dX7_opens_8 : decode cX7_opens 8 = .ok (.aload_n 0, 1) := by decide +kernel
theorem dX7_opens_9 : decode cX7_opens 9 = .ok (.invokevirtual 201, 3) := by decide +kernel
theorem dX7_opens_12 : decode cX7_opens 12 = .ok (.iconst 0, 1) := by decide +kernel
theorem dX7_opens_13 : decode cX7_opens 13 = .ok (.ireturn, 1) := by decide +kernel
theorem dX7_opens_14 : decode cX7_opens 14 = .ok (.aload_n 0, 1) := by decide +kernel
theorem dX7_opens_15 : decode cX7_opens 15 = .ok (.dup, 1) := by decide +kernel
theorem dX7_opens_16 : decode cX7_opens 16 = .ok (.getfield 198, 3) := by decide +kernel
theorem dX7_opens_19 : decode cX7_opens 19 = .ok (.iconst 1, 1) := by decide +kernel
theorem dX7_opens_20 : decode cX7_opens 20 = .ok (.iadd, 1) := by decide +kernel
theorem dX7_opens_21 : decode cX7_opens 21 = .ok (.putfield 198, 3) := by decide +kernel
theorem dX7_opens_24 : decode cX7_opens 24 = .ok (.aload_n 0, 1) := by decide +kernel
theorem dX7_opens_25 : decode cX7_opens 25 = .ok (.invokevirtual 204, 3) := by decide +kernel
theorem dX7_opens_28 : decode cX7_opens 28 = .ok (.iconst 1, 1) := by decide +kernel
theorem dX7_opens_29 : decode cX7_opens 29 = .ok (.ireturn, 1) := by decide +kernel
theorem dX7_name_0 : decode cX7_name 0 = .ok (.aload_n 0, 1) := by decide +kernel
theorem dX7_name_1 : decode cX7_name 1 = .ok (.bipush 112, 2) := by decide +kernel
theorem dX7_name_3 : decode cX7_name 3 = .ok (.bipush 97, 2) := by decide +kernel
theorem dX7_name_5 : decode cX7_name 5 = .ok (.bipush 114, 2) := by decide +kernel
theorem dX7_name_7 : decode cX7_name 7 = .ok (.bipush 116, 2) := by decide +kernel
theorem dX7_name_9 : decode cX7_name 9 = .ok (.bipush 115, 2) := by decide +kernel
theorem dX7_name_11 : decode cX7_name 11 = .ok (.iconst 0, 1) := by decide +kernel
theorem dX7_name_12 : decode cX7_name 12 = .ok (.iconst 0, 1) := by decide +kernel
theorem dX7_name_13 : decode cX7_name 13 = .ok (.iconst 0, 1) := by decide +kernel
theorem dX7_name_14 : decode cX7_name 14 = .ok (.invokevirtual 207, 3) := by decide +kernel
theorem dX7_name_17 : decode cX7_name 17 = .ok (.ifCond .eq 8, 3) := by decide +kernel
theorem dX7_name_20 : decode cX7_name 20 = .ok (.aload_n 0, 1) := by decide +kernel
theorem dX7_name_21 : decode cX7_name 21 = .ok (.getfield 211, 3) := by decide +kernel
theorem dX7_name_24 : decode cX7_name 24 = .ok (.ireturn, 1) := by decide +kernel
theorem dX7_name_25 : decode cX7_name 25 = .ok (.aload_n 0, 1) := by decide +kernel
theorem dX7_name_26 : decode cX7_name 26 = .ok (.bipush 100, 2) := by decide +kernel
theorem dX7_name_28 : decode cX7_name 28 = .ok (.bipush 97, 2) := by decide +kernel
theorem dX7_name_30 : decode cX7_name 30 = .ok (.bipush 109, 2) := by decide +kernel
theorem dX7_name_32 : decode cX7_name 32 = .ok (.bipush 112, 2) := by decide +kernel
theorem dX7_name_34 : decode cX7_name 34 = .ok (.iconst 0, 1) := by decide +kernel
theorem dX7_name_35 : decode cX7_name 35 = .ok (.iconst 0, 1) := by decide +kernel
theorem dX7_name_36 : decode cX7_name 36 = .ok (.iconst 0, 1) := by decide +kernel
theorem dX7_name_37 : decode cX7_name 37 = .ok (.iconst 0, 1) := by decide +kernel
theorem dX7_name_38 : decode cX7_name 38 = .ok (.invokevirtual 207, 3) := by decide +kernel
theorem dX7_name_41 : decode cX7_name 41 = .ok (.ifCond .eq 8, 3) := by decide +kernel
theorem dX7_name_44 : decode cX7_name 44 = .ok (.aload_n 0, 1) := by decide +kernel
theorem dX7_name_45 : decode cX7_name 45 = .ok (.getfield 214, 3) := by decide +kernel
theorem dX7_name_48 : decode cX7_name 48 = .ok (.ireturn, 1) := by decide +kernel
theorem dX7_name_49 : decode cX7_name 49 = .ok (.aload_n 0, 1) := by decide +kernel
theorem dX7_name_50 : decode cX7_name 50 = .ok (.bipush 108, 2) := by decide +kernel
theorem dX7_name_52 : decode cX7_name 52 = .ok (.bipush 105, 2) := by decide +kernel
theorem dX7_name_54 : decode cX7_name 54 = .ok (.bipush 116, 2) := by decide +kernel
theorem dX7_name_56 : decode cX7_name 56 = .ok (.iconst 0, 1) := by decide +kernel
theorem dX7_name_57 : decode cX7_name 57 = .ok (.iconst 0, 1) := by decide +kernel
theorem dX7_name_58 : decode cX7_name 58 = .ok (.iconst 0, 1) := by decide +kernel
theorem dX7_name_59 : decode cX7_name 59 = .ok (.iconst 0, 1) := by decide +kernel
theorem dX7_name_60 : decode cX7_name 60 = .ok (.iconst 0, 1) := by decide +kernel
theorem dX7_name_61 : decode cX7_name 61 = .ok (.invokevirtual 207, 3) := by decide +kernel
theorem dX7_name_64 : decode cX7_name 64 = .ok (.ifCond .eq 8, 3) := by decide +kernel
theorem dX7_name_67 : decode cX7_name 67 = .ok (.aload_n 0, 1) := by decide +kernel
theorem dX7_name_68 : decode cX7_name 68 = .ok (.getfield 217, 3) := by decide +kernel
theorem dX7_name_71 : decode cX7_name 71 = .ok (.ireturn, 1) := by decide +kernel
theorem dX7_name_72 : decode cX7_name 72 = .ok (.aload_n 0, 1) := by decide +kernel
theorem dX7_name_73 : decode cX7_name 73 = .ok (.bipush 98, 2) := by decide +kernel
theorem dX7_name_75 : decode cX7_name 75 = .ok (.bipush 117, 2) := by decide +kernel
theorem dX7_name_77 : decode cX7_name 77 = .ok (.bipush 114, 2) := by decide +kernel
theorem dX7_name_79 : decode cX7_name 79 = .ok (.bipush 110, 2) := by decide +kernel
theorem dX7_name_81 : decode cX7_name 81 = .ok (.bipush 116, 2) := by decide +kernel
theorem dX7_name_83 : decode cX7_name 83 = .ok (.iconst 0, 1) := by decide +kernel
theorem dX7_name_84 : decode cX7_name 84 = .ok (.iconst 0, 1) := by decide +kernel
theorem dX7_name_85 : decode cX7_name 85 = .ok (.iconst 0, 1) := by decide +kernel
theorem dX7_name_86 : decode cX7_name 86 = .ok (.invokevirtual 207, 3) := by decide +kernel
theorem dX7_name_89 : decode cX7_name 89 = .ok (.ifCond .eq 8, 3) := by decide +kernel
theorem dX7_name_92 : decode cX7_name 92 = .ok (.aload_n 0, 1) := by decide +kernel
theorem dX7_name_93 : decode cX7_name 93 = .ok (.getfield 220, 3) := by decide +kernel
theorem dX7_name_96 : decode cX7_name 96 = .ok (.ireturn, 1) := by decide +kernel
theorem dX7_name_97 : decode cX7_name 97 = .ok (.aload_n 0, 1) := by decide +kernel
theorem dX7_name_98 : decode cX7_name 98 = .ok (.bipush 119, 2) := by decide +kernel
theorem dX7_name_100 : decode cX7_name 100 = .ok (.bipush 105, 2) := by decide +kernel
theorem dX7_name_102 : decode cX7_name 102 = .ok (.bipush 99, 2) := by decide +kernel
theorem dX7_name_104 : decode cX7_name 104 = .ok (.bipush 107, 2) := by decide +kernel
theorem dX7_name_106 : decode cX7_name 106 = .ok (.iconst 0, 1) := by decide +kernel
theorem dX7_name_107 : decode cX7_name 107 = .ok (.iconst 0, 1) := by decide +kernel
theorem dX7_name_108 : decode cX7_name 108 = .ok (.iconst 0, 1) := by decide +kernel
theorem dX7_name_109 : decode cX7_name 109 = .ok (.iconst 0, 1) := by decide +kernel
theorem dX7_name_110 : decode cX7_name 110 = .ok (.invokevirtual 207, 3) := by decide +kernel
theorem dX7_name_113 : decode cX7_name 113 = .ok (.ifCond .eq 8, 3) := by decide +kernel
theorem dX7_name_116 : decode cX7_name 116 = .ok (.aload_n 0, 1) := by decide +kernel
theorem dX7_name_117 : decode cX7_name 117 = .ok (.getfield 223, 3) := by decide +kernel
theorem dX7_name_120 : decode cX7_name 120 = .ok (.ireturn, 1) := by decide +kernel
theorem dX7_name_121 : decode cX7_name 121 = .ok (.aload_n 0, 1) := by decide +kernel
theorem dX7_name_122 : decode cX7_name 122 = .ok (.bipush 115, 2) := by decide +kernel
theorem dX7_name_124 : decode cX7_name 124 = .ok (.bipush 112, 2) := by decide +kernel
theorem dX7_name_126 : decode cX7_name 126 = .ok (.bipush 97, 2) := by decide +kernel
theorem dX7_name_128 : decode cX7_name 128 = .ok (.bipush 110, 2) := by decide +kernel
theorem dX7_name_130 : decode cX7_name 130 = .ok (.iconst 0, 1) := by decide +kernel
theorem dX7_name_131 : decode cX7_name 131 = .ok (.iconst 0, 1) := by decide +kernel
theorem dX7_name_132 : decode cX7_name 132 = .ok (.iconst 0, 1) := by decide +kernel
theorem dX7_name_133 : decode cX7_name 133 = .ok (.iconst 0, 1) := by decide +kernel
theorem dX7_name_134 : decode cX7_name 134 = .ok (.invokevirtual 207, 3) := by decide +kernel
theorem dX7_name_137 : decode cX7_name 137 = .ok (.ifCond .eq 8, 3) := by decide +kernel
theorem dX7_name_140 : decode cX7_name 140 = .ok (.aload_n 0, 1) := by decide +kernel
theorem dX7_name_141 : decode cX7_name 141 = .ok (.getfield 226, 3) := by decide +kernel
theorem dX7_name_144 : decode cX7_name 144 = .ok (.ireturn, 1) := by decide +kernel
theorem dX7_name_145 : decode cX7_name 145 = .ok (.aload_n 0, 1) := by decide +kernel
theorem dX7_name_146 : decode cX7_name 146 = .ok (.invokevirtual 201, 3) := by decide +kernel
theorem dX7_name_149 : decode cX7_name 149 = .ok (.iconst 0, 1) := by decide +kernel
theorem dX7_name_150 : decode cX7_name 150 = .ok (.ireturn, 1) := by decide +kernel
theorem dX7_atom_0 : decode cX7_atom 0 = .ok (.iconst 0, 1) := by decide +kernel
theorem dX7_atom_1 : decode cX7_atom 1 = .ok (.istore_n 1, 1) := by decide +kernel
theorem dX7_atom_2 : decode cX7_atom 2 = .ok (.aload_n 0, 1) := by decide +kernel
theorem dX7_atom_3 : decode cX7_atom 3 = .ok (.bipush 45, 2) := by decide +kernel
theorem dX7_atom_5 : decode cX7_atom 5 = .ok (.invokevirtual 229, 3) := by decide +kernel
theorem dX7_atom_8 : decode cX7_atom 8 = .ok (.ifCond .eq 29, 3) := by decide +kernel
theorem dX7_atom_11 : decode cX7_atom 11 = .ok (.aload_n 0, 1) := by decide +kernel
theorem dX7_atom_12 : decode cX7_atom 12 = .ok (.invokevirtual 232, 3) := by decide +kernel
theorem dX7_atom_15 : decode cX7_atom 15 = .ok (.ifCond .eq 146, 3) := by decide +kernel
theorem dX7_atom_18 : decode cX7_atom 18 = .ok (.aload_n 0, 1) := by decide +kernel
theorem dX7_atom_19 : decode cX7_atom 19 = .ok (.invokevirtual 236, 3) := by decide +kernel
theorem dX7_atom_22 : decode cX7_atom 22 = .ok (.ineg, 1) := by decide +kernel
theorem dX7_atom_23 : decode cX7_atom 23 = .ok (.istore_n 1, 1) := by decide +kernel
theorem dX7_atom_24 : decode cX7_atom 24 = .ok (.aload_n 0, 1) := by decide +kernel
theorem dX7_atom_25 : decode cX7_atom 25 = .ok (.dup, 1) := by decide +kernel
theorem dX7_atom_26 : decode cX7_atom 26 = .ok (.getfield 198, 3) := by decide +kernel
theorem dX7_atom_29 : decode cX7_atom 29 = .ok (.iconst 1, 1) := by decide +kernel
theorem dX7_atom_30 : decode cX7_atom 30 = .ok (.isub, 1) := by decide +kernel
theorem dX7_atom_31 : decode cX7_atom 31 = .ok (.putfield 198, 3) := by decide +kernel
theorem dX7_atom_34 : decode cX7_atom 34 = .ok (.goto 127, 3) := by decide +kernel
theorem dX7_atom_37 : decode cX7_atom 37 = .ok (.aload_n 0, 1) := by decide +kernel
theorem dX7_atom_38 : decode cX7_atom 38 = .ok (.bipush 40, 2) := by decide +kernel
theorem dX7_atom_40 : decode cX7_atom 40 = .ok (.invokevirtual 229, 3) := by decide +kernel
theorem dX7_atom_43 : decode cX7_atom 43 = .ok (.ifCond .eq 52, 3) := by decide +kernel
theorem dX7_atom_46 : decode cX7_atom 46 = .ok (.aload_n 0, 1) := by decide +kernel
theorem dX7_atom_47 : decode cX7_atom 47 = .ok (.invokevirtual 232, 3) := by decide +kernel
theorem dX7_atom_50 : decode cX7_atom 50 = .ok (.ifCond .eq 111, 3) := by decide +kernel
theorem dX7_atom_53 : decode cX7_atom 53 = .ok (.aload_n 0, 1) := by decide +kernel
theorem dX7_atom_54 : decode cX7_atom 54 = .ok (.invokevirtual 240, 3) := by decide +kernel
theorem dX7_atom_57 : decode cX7_atom 57 = .ok (.istore_n 1, 1) := by decide +kernel
theorem dX7_atom_58 : decode cX7_atom 58 = .ok (.aload_n 0, 1) := by decide +kernel
theorem dX7_atom_59 : decode cX7_atom 59 = .ok (.bipush 41, 2) := by decide +kernel
theorem dX7_atom_61 : decode cX7_atom 61 = .ok (.invokevirtual 229, 3) := by decide +kernel
theorem dX7_atom_64 : decode cX7_atom 64 = .ok (.ifCond .ne 7, 3) := by decide +kernel
theorem dX7_atom_67 : decode cX7_atom 67 = .ok (.aload_n 0, 1) := by decide +kernel
theorem dX7_atom_68 : decode cX7_atom 68 = .ok (.invokevirtual 201, 3) := by decide +kernel
theorem dX7_atom_71 : decode cX7_atom 71 = .ok (.aload_n 0, 1) := by decide +kernel
theorem dX7_atom_72 : decode cX7_atom 72 = .ok (.dup, 1) := by decide +kernel
theorem dX7_atom_73 : decode cX7_atom 73 = .ok (.getfield 198, 3) := by decide +kernel
theorem dX7_atom_76 : decode cX7_atom 76 = .ok (.iconst 1, 1) := by decide +kernel
theorem dX7_atom_77 : decode cX7_atom 77 = .ok (.isub, 1) := by decide +kernel
theorem dX7_atom_78 : decode cX7_atom 78 = .ok (.putfield 198, 3) := by decide +kernel
theorem dX7_atom_81 : decode cX7_atom 81 = .ok (.aload_n 0, 1) := by decide +kernel
theorem dX7_atom_82 : decode cX7_atom 82 = .ok (.getfield 187, 3) := by decide +kernel
theorem dX7_atom_85 : decode cX7_atom 85 = .ok (.ifCond .ne 76, 3) := by decide +kernel
theorem dX7_atom_88 : decode cX7_atom 88 = .ok (.aload_n 0, 1) := by decide +kernel
theorem dX7_atom_89 : decode cX7_atom 89 = .ok (.invokevirtual 204, 3) := by decide +kernel
theorem dX7_atom_92 : decode cX7_atom 92 = .ok (.goto 69, 3) := by decide +kernel
theorem dX7_atom_95 : decode cX7_atom 95 = .ok (.aload_n 0, 1) := by decide +kernel
theorem dX7_atom_96 : decode cX7_atom 96 = .ok (.getfield 187, 3) := by decide +kernel
theorem dX7_atom_99 : decode cX7_atom 99 = .ok (.ifCond .ne 24, 3) := by decide +kernel
theorem dX7_atom_102 : decode cX7_atom 102 = .ok (.aload_n 0, 1) := by decide +kernel
theorem dX7_atom_103 : decode cX7_atom 103 = .ok (.getfield 170, 3) := by decide +kernel
theorem dX7_atom_106 : decode cX7_atom 106 = .ok (.iconst 2, 1) := by decide +kernel
theorem dX7_atom_107 : decode cX7_atom 107 = .ok (.if_icmp .ne 16, 3) := by decide +kernel
theorem dX7_atom_110 : decode cX7_atom 110 = .ok (.aload_n 0, 1) := by decide +kernel
theorem dX7_atom_111 : decode cX7_atom 111 = .ok (.getfield 181, 3) := by decide +kernel
theorem dX7_atom_114 : decode cX7_atom 114 = .ok (.l2i, 1) := by decide +kernel
theorem dX7_atom_115 : decode cX7_atom 115 = .ok (.istore_n 1, 1) := by decide +kernel
theorem dX7_atom_116 : decode cX7_atom 116 = .ok (.aload_n 0, 1) := by decide +kernel
theorem dX7_atom_117 : decode cX7_atom 117 = .ok (.invokevirtual 204, 3) := by decide +kernel
theorem dX7_atom_120 : decode cX7_atom 120 = .ok (.goto 41, 3) := by decide +kernel
theorem dX7_atom_123 : decode cX7_atom 123 = .ok (.aload_n 0, 1) := by decide +kernel
theorem dX7_atom_124 : decode cX7_atom 124 = .ok (.getfield 187, 3) := by decide +kernel
theorem dX7_atom_127 : decode cX7_atom 127 = .ok (.ifCond .ne 30, 3) := by decide +kernel
theorem dX7_atom_130 : decode cX7_atom 130 = .ok (.aload_n 0, 1) := by decide +kernel
theorem dX7_atom_131 : decode cX7_atom 131 = .ok (.getfield 170, 3) := by decide +kernel
theorem dX7_atom_134 : decode cX7_atom 134 = .ok (.iconst 1, 1) := by decide +kernel
theorem dX7_atom_135 : decode cX7_atom 135 = .ok (.if_icmp .ne 22, 3) := by decide +kernel
theorem dX7_atom_138 : decode cX7_atom 138 = .ok (.aload_n 0, 1) := by decide +kernel
theorem dX7_atom_139 : decode cX7_atom 139 = .ok (.invokevirtual 243, 3) := by decide +kernel
theorem dX7_atom_142 : decode cX7_atom 142 = .ok (.istore_n 1, 1) := by decide +kernel
theorem dX7_atom_143 : decode cX7_atom 143 = .ok (.aload_n 0, 1) := by decide +kernel
theorem dX7_atom_144 : decode cX7_atom 144 = .ok (.getfield 187, 3) := by decide +kernel
theorem dX7_atom_147 : decode cX7_atom 147 = .ok (.ifCond .ne 14, 3) := by decide +kernel
theorem dX7_atom_150 : decode cX7_atom 150 = .ok (.aload_n 0, 1) := by decide +kernel
theorem dX7_atom_151 : decode cX7_atom 151 = .ok (.invokevirtual 204, 3) := by decide +kernel
theorem dX7_atom_154 : decode cX7_atom 154 = .ok (.goto 7, 3) := by decide +kernel
theorem dX7_atom_157 : decode cX7_atom 157 = .ok (.aload_n 0, 1) := by decide +kernel
theorem dX7_atom_158 : decode cX7_atom 158 = .ok (.invokevirtual 201, 3) := by decide +kernel
theorem dX7_atom_161 : decode cX7_atom 161 = .ok (.iload_n 1, 1) := by decide +kernel
theorem dX7_atom_162 : decode cX7_atom 162 = .ok (.ireturn, 1) := by decide +kernel
theorem dX7_term_0 : decode cX7_term 0 = .ok (.aload_n 0, 1) := by decide +kernel
theorem dX7_term_1 : decode cX7_term 1 = .ok (.invokevirtual 236, 3) := by decide +kernel
theorem dX7_term_4 : decode cX7_term 4 = .ok (.istore_n 1, 1) := by decide +kernel
theorem dX7_term_5 : decode cX7_term 5 = .ok (.aload_n 0, 1) := by decide +kernel
theorem dX7_term_6 : decode cX7_term 6 = .ok (.bipush 42, 2) := by decide +kernel
theorem dX7_term_8 : decode cX7_term 8 = .ok (.invokevirtual 229, 3) := by decide +kernel
theorem dX7_term_11 : decode cX7_term 11 = .ok (.ifCond .eq 17, 3) := by decide +kernel
theorem dX7_term_14 : decode cX7_term 14 = .ok (.aload_n 0, 1) := by decide +kernel
theorem dX7_term_15 : decode cX7_term 15 = .ok (.invokevirtual 204, 3) := by decide +kernel
theorem dX7_term_18 : decode cX7_term 18 = .ok (.iload_n 1, 1) := by decide +kernel
theorem dX7_term_19 : decode cX7_term 19 = .ok (.aload_n 0, 1) := by decide +kernel
theorem dX7_term_20 : decode cX7_term 20 = .ok (.invokevirtual 236, 3) := by decide +kernel
theorem dX7_term_23 : decode cX7_term 23 = .ok (.imul, 1) := by decide +kernel
theorem dX7_term_24 : decode cX7_term 24 = .ok (.istore_n 1, 1) := by decide +kernel
theorem dX7_term_25 : decode cX7_term 25 = .ok (.goto (-20), 3) := by decide +kernel
theorem dX7_term_28 : decode cX7_term 28 = .ok (.iload_n 1, 1) := by decide +kernel
theorem dX7_term_29 : decode cX7_term 29 = .ok (.ireturn, 1) := by decide +kernel
theorem dX7_added_0 : decode cX7_added 0 = .ok (.aload_n 0, 1) := by decide +kernel
theorem dX7_added_1 : decode cX7_added 1 = .ok (.invokevirtual 246, 3) := by decide +kernel
theorem dX7_added_4 : decode cX7_added 4 = .ok (.istore_n 1, 1) := by decide +kernel
theorem dX7_added_5 : decode cX7_added 5 = .ok (.aload_n 0, 1) := by decide +kernel
theorem dX7_added_6 : decode cX7_added 6 = .ok (.bipush 43, 2) := by decide +kernel
theorem dX7_added_8 : decode cX7_added 8 = .ok (.invokevirtual 229, 3) := by decide +kernel
theorem dX7_added_11 : decode cX7_added 11 = .ok (.ifCond .ne 12, 3) := by decide +kernel
theorem dX7_added_14 : decode cX7_added 14 = .ok (.aload_n 0, 1) := by decide +kernel
theorem dX7_added_15 : decode cX7_added 15 = .ok (.bipush 45, 2) := by decide +kernel
theorem dX7_added_17 : decode cX7_added 17 = .ok (.invokevirtual 229, 3) := by decide +kernel
theorem dX7_added_20 : decode cX7_added 20 = .ok (.ifCond .eq 46, 3) := by decide +kernel
theorem dX7_added_23 : decode cX7_added 23 = .ok (.aload_n 0, 1) := by decide +kernel
theorem dX7_added_24 : decode cX7_added 24 = .ok (.getfield 181, 3) := by decide +kernel
theorem dX7_added_27 : decode cX7_added 27 = .ok (.ldc2_w 249, 3) := by decide +kernel
theorem dX7_added_30 : decode cX7_added 30 = .ok (.lcmp, 1) := by decide +kernel
theorem dX7_added_31 : decode cX7_added 31 = .ok (.ifCond .ne 7, 3) := by decide +kernel
theorem dX7_added_34 : decode cX7_added 34 = .ok (.iconst 1, 1) := by decide +kernel
theorem dX7_added_35 : decode cX7_added 35 = .ok (.goto 4, 3) := by decide +kernel
theorem dX7_added_38 : decode cX7_added 38 = .ok (.iconst 0, 1) := by decide +kernel
theorem dX7_added_39 : decode cX7_added 39 = .ok (.istore_n 2, 1) := by decide +kernel
theorem dX7_added_40 : decode cX7_added 40 = .ok (.aload_n 0, 1) := by decide +kernel
theorem dX7_added_41 : decode cX7_added 41 = .ok (.invokevirtual 204, 3) := by decide +kernel
theorem dX7_added_44 : decode cX7_added 44 = .ok (.aload_n 0, 1) := by decide +kernel
theorem dX7_added_45 : decode cX7_added 45 = .ok (.invokevirtual 246, 3) := by decide +kernel
theorem dX7_added_48 : decode cX7_added 48 = .ok (.istore_n 3, 1) := by decide +kernel
theorem dX7_added_49 : decode cX7_added 49 = .ok (.iload_n 2, 1) := by decide +kernel
theorem dX7_added_50 : decode cX7_added 50 = .ok (.ifCond .eq 9, 3) := by decide +kernel
theorem dX7_added_53 : decode cX7_added 53 = .ok (.iload_n 1, 1) := by decide +kernel
theorem dX7_added_54 : decode cX7_added 54 = .ok (.iload_n 3, 1) := by decide +kernel
theorem dX7_added_55 : decode cX7_added 55 = .ok (.iadd, 1) := by decide +kernel
theorem dX7_added_56 : decode cX7_added 56 = .ok (.goto 6, 3) := by decide +kernel
theorem dX7_added_59 : decode cX7_added 59 = .ok (.iload_n 1, 1) := by decide +kernel
theorem dX7_added_60 : decode cX7_added 60 = .ok (.iload_n 3, 1) := by decide +kernel
theorem dX7_added_61 : decode cX7_added 61 = .ok (.isub, 1) := by decide +kernel
theorem dX7_added_62 : decode cX7_added 62 = .ok (.istore_n 1, 1) := by decide +kernel
theorem dX7_added_63 : decode cX7_added 63 = .ok (.goto (-58), 3) := by decide +kernel
theorem dX7_added_66 : decode cX7_added 66 = .ok (.iload_n 1, 1) := by decide +kernel
theorem dX7_added_67 : decode cX7_added 67 = .ok (.ireturn, 1) := by decide +kernel
theorem dX7_not_0 : decode cX7_not 0 = .ok (.aload_n 0, 1) := by decide +kernel
theorem dX7_not_1 : decode cX7_not 1 = .ok (.bipush 110, 2) := by decide +kernel
theorem dX7_not_3 : decode cX7_not 3 = .ok (.bipush 111, 2) := by decide +kernel
theorem dX7_not_5 : decode cX7_not 5 = .ok (.bipush 116, 2) := by decide +kernel
theorem dX7_not_7 : decode cX7_not 7 = .ok (.iconst 0, 1) := by decide +kernel
theorem dX7_not_8 : decode cX7_not 8 = .ok (.iconst 0, 1) := by decide +kernel
theorem dX7_not_9 : decode cX7_not 9 = .ok (.iconst 0, 1) := by decide +kernel
theorem dX7_not_10 : decode cX7_not 10 = .ok (.iconst 0, 1) := by decide +kernel
theorem dX7_not_11 : decode cX7_not 11 = .ok (.iconst 0, 1) := by decide +kernel
theorem dX7_not_12 : decode cX7_not 12 = .ok (.invokevirtual 207, 3) := by decide +kernel
theorem dX7_not_15 : decode cX7_not 15 = .ok (.ifCond .eq 37, 3) := by decide +kernel
theorem dX7_not_18 : decode cX7_not 18 = .ok (.aload_n 0, 1) := by decide +kernel
theorem dX7_not_19 : decode cX7_not 19 = .ok (.invokevirtual 232, 3) := by decide +kernel
theorem dX7_not_22 : decode cX7_not 22 = .ok (.ifCond .ne 5, 3) := by decide +kernel
theorem dX7_not_25 : decode cX7_not 25 = .ok (.iconst 0, 1) := by decide +kernel
theorem dX7_not_26 : decode cX7_not 26 = .ok (.ireturn, 1) := by decide +kernel
theorem dX7_not_27 : decode cX7_not 27 = .ok (.aload_n 0, 1) := by decide +kernel
theorem dX7_not_28 : decode cX7_not 28 = .ok (.invokevirtual 251, 3) := by decide +kernel
theorem dX7_not_31 : decode cX7_not 31 = .ok (.istore_n 1, 1) := by decide +kernel
theorem dX7_not_32 : decode cX7_not 32 = .ok (.aload_n 0, 1) := by decide +kernel
theorem dX7_not_33 : decode cX7_not 33 = .ok (.dup, 1) := by decide +kernel
theorem dX7_not_34 : decode cX7_not 34 = .ok (.getfield 198, 3) := by decide +kernel
theorem dX7_not_37 : decode cX7_not 37 = .ok (.iconst 1, 1) := by decide +kernel
theorem dX7_not_38 : decode cX7_not 38 = .ok (.isub, 1) := by decide +kernel
theorem dX7_not_39 : decode cX7_not 39 = .ok (.putfield 198, 3) := by decide +kernel
theorem dX7_not_42 : decode cX7_not 42 = .ok (.iload_n 1, 1) := by decide +kernel
theorem dX7_not_43 : decode cX7_not 43 = .ok (.ifCond .ne 7, 3) := by decide +kernel
theorem dX7_not_46 : decode cX7_not 46 = .ok (.iconst 1, 1) := by decide +kernel
theorem dX7_not_47 : decode cX7_not 47 = .ok (.goto 4, 3) := by decide +kernel
theorem dX7_not_50 : decode cX7_not 50 = .ok (.iconst 0, 1) := by decide +kernel
theorem dX7_not_51 : decode cX7_not 51 = .ok (.ireturn, 1) := by decide +kernel
theorem dX7_not_52 : decode cX7_not 52 = .ok (.aload_n 0, 1) := by decide +kernel
theorem dX7_not_53 : decode cX7_not 53 = .ok (.invokevirtual 254, 3) := by decide +kernel
theorem dX7_not_56 : decode cX7_not 56 = .ok (.istore_n 1, 1) := by decide +kernel
theorem dX7_not_57 : decode cX7_not 57 = .ok (.aload_n 0, 1) := by decide +kernel
theorem dX7_not_58 : decode cX7_not 58 = .ok (.bipush 60, 2) := by decide +kernel
theorem dX7_not_60 : decode cX7_not 60 = .ok (.invokevirtual 229, 3) := by decide +kernel
theorem dX7_not_63 : decode cX7_not 63 = .ok (.ifCond .ne 14, 3) := by decide +kernel
theorem dX7_not_66 : decode cX7_not 66 = .ok (.aload_n 0, 1) := by decide +kernel
theorem dX7_not_67 : decode cX7_not 67 = .ok (.bipush 61, 2) := by decide +kernel
theorem dX7_not_69 : decode cX7_not 69 = .ok (.invokevirtual 229, 3) := by decide +kernel
theorem dX7_not_72 : decode cX7_not 72 = .ok (.ifCond .ne 5, 3) := by decide +kernel
theorem dX7_not_75 : decode cX7_not 75 = .ok (.iload_n 1, 1) := by decide +kernel
theorem dX7_not_76 : decode cX7_not 76 = .ok (.ireturn, 1) := by decide +kernel
theorem dX7_not_77 : decode cX7_not 77 = .ok (.aload_n 0, 1) := by decide +kernel
theorem dX7_not_78 : decode cX7_not 78 = .ok (.getfield 181, 3) := by decide +kernel
theorem dX7_not_81 : decode cX7_not 81 = .ok (.ldc2_w 257, 3) := by decide +kernel
theorem dX7_not_84 : decode cX7_not 84 = .ok (.lcmp, 1) := by decide +kernel
theorem dX7_not_85 : decode cX7_not 85 = .ok (.ifCond .ne 7, 3) := by decide +kernel
theorem dX7_not_88 : decode cX7_not 88 = .ok (.iconst 1, 1) := by decide +kernel
theorem dX7_not_89 : decode cX7_not 89 = .ok (.goto 4, 3) := by decide +kernel
theorem dX7_not_92 : decode cX7_not 92 = .ok (.iconst 0, 1) := by decide +kernel
theorem dX7_not_93 : decode cX7_not 93 = .ok (.istore_n 2, 1) := by decide +kernel
theorem dX7_not_94 : decode cX7_not 94 = .ok (.aload_n 0, 1) := by decide +kernel
theorem dX7_not_95 : decode cX7_not 95 = .ok (.invokevirtual 204, 3) := by decide +kernel
theorem dX7_not_98 : decode cX7_not 98 = .ok (.aload_n 0, 1) := by decide +kernel
theorem dX7_not_99 : decode cX7_not 99 = .ok (.invokevirtual 254, 3) := by decide +kernel
theorem dX7_not_102 : decode cX7_not 102 = .ok (.istore_n 3, 1) := by decide +kernel
theorem dX7_not_103 : decode cX7_not 103 = .ok (.iload_n 2, 1) := by decide +kernel
theorem dX7_not_104 : decode cX7_not 104 = .ok (.ifCond .eq 11, 3) := by decide +kernel
theorem dX7_not_107 : decode cX7_not 107 = .ok (.iload_n 1, 1) := by decide +kernel
theorem dX7_not_108 : decode cX7_not 108 = .ok (.iload_n 3, 1) := by decide +kernel
theorem dX7_not_109 : decode cX7_not 109 = .ok (.if_icmp .ge 15, 3) := by decide +kernel
theorem dX7_not_112 : decode cX7_not 112 = .ok (.goto 8, 3) := by decide +kernel
theorem dX7_not_115 : decode cX7_not 115 = .ok (.iload_n 1, 1) := by decide +kernel
theorem dX7_not_116 : decode cX7_not 116 = .ok (.iload_n 3, 1) := by decide +kernel
theorem dX7_not_117 : decode cX7_not 117 = .ok (.if_icmp .ne 7, 3) := by decide +kernel
theorem dX7_not_120 : decode cX7_not 120 = .ok (.iconst 1, 1) := by decide +kernel
theorem dX7_not_121 : decode cX7_not 121 = .ok (.goto 4, 3) := by decide +kernel
theorem dX7_not_124 : decode cX7_not 124 = .ok (.iconst 0, 1) := by decide +kernel
theorem dX7_not_125 : decode cX7_not 125 = .ok (.ireturn, 1) := by decide +kernel
theorem dX7_both_0 : decode cX7_both 0 = .ok (.aload_n 0, 1) := by decide +kernel
theorem dX7_both_1 : decode cX7_both 1 = .ok (.invokevirtual 251, 3) := by decide +kernel
theorem dX7_both_4 : decode cX7_both 4 = .ok (.istore_n 1, 1) := by decide +kernel
theorem dX7_both_5 : decode cX7_both 5 = .ok (.aload_n 0, 1) := by decide +kernel
theorem dX7_both_6 : decode cX7_both 6 = .ok (.bipush 97, 2) := by decide +kernel
theorem dX7_both_8 : decode cX7_both 8 = .ok (.bipush 110, 2) := by decide +kernel
theorem dX7_both_10 : decode cX7_both 10 = .ok (.bipush 100, 2) := by decide +kernel
theorem dX7_both_12 : decode cX7_both 12 = .ok (.iconst 0, 1) := by decide +kernel
theorem dX7_both_13 : decode cX7_both 13 = .ok (.iconst 0, 1) := by decide +kernel
theorem dX7_both_14 : decode cX7_both 14 = .ok (.iconst 0, 1) := by decide +kernel
theorem dX7_both_15 : decode cX7_both 15 = .ok (.iconst 0, 1) := by decide +kernel
theorem dX7_both_16 : decode cX7_both 16 = .ok (.iconst 0, 1) := by decide +kernel
theorem dX7_both_17 : decode cX7_both 17 = .ok (.invokevirtual 207, 3) := by decide +kernel
theorem dX7_both_20 : decode cX7_both 20 = .ok (.ifCond .eq 29, 3) := by decide +kernel
theorem dX7_both_23 : decode cX7_both 23 = .ok (.aload_n 0, 1) := by decide +kernel
theorem dX7_both_24 : decode cX7_both 24 = .ok (.invokevirtual 204, 3) := by decide +kernel
theorem dX7_both_27 : decode cX7_both 27 = .ok (.aload_n 0, 1) := by decide +kernel
theorem dX7_both_28 : decode cX7_both 28 = .ok (.invokevirtual 251, 3) := by decide +kernel
theorem dX7_both_31 : decode cX7_both 31 = .ok (.istore_n 2, 1) := by decide +kernel
theorem dX7_both_32 : decode cX7_both 32 = .ok (.iload_n 1, 1) := by decide +kernel
theorem dX7_both_33 : decode cX7_both 33 = .ok (.ifCond .eq 11, 3) := by decide +kernel
theorem dX7_both_36 : decode cX7_both 36 = .ok (.iload_n 2, 1) := by decide +kernel
theorem dX7_both_37 : decode cX7_both 37 = .ok (.ifCond .eq 7, 3) := by decide +kernel
theorem dX7_both_40 : decode cX7_both 40 = .ok (.iconst 1, 1) := by decide +kernel
theorem dX7_both_41 : decode cX7_both 41 = .ok (.goto 4, 3) := by decide +kernel
theorem dX7_both_44 : decode cX7_both 44 = .ok (.iconst 0, 1) := by decide +kernel
theorem dX7_both_45 : decode cX7_both 45 = .ok (.istore_n 1, 1) := by decide +kernel
theorem dX7_both_46 : decode cX7_both 46 = .ok (.goto (-41), 3) := by decide +kernel
theorem dX7_both_49 : decode cX7_both 49 = .ok (.iload_n 1, 1) := by decide +kernel
theorem dX7_both_50 : decode cX7_both 50 = .ok (.ireturn, 1) := by decide +kernel
theorem dX7_either_0 : decode cX7_either 0 = .ok (.aload_n 0, 1) := by decide +kernel
theorem dX7_either_1 : decode cX7_either 1 = .ok (.invokevirtual 259, 3) := by decide +kernel
theorem dX7_either_4 : decode cX7_either 4 = .ok (.istore_n 1, 1) := by decide +kernel
theorem dX7_either_5 : decode cX7_either 5 = .ok (.aload_n 0, 1) := by decide +kernel
theorem dX7_either_6 : decode cX7_either 6 = .ok (.bipush 111, 2) := by decide +kernel
theorem dX7_either_8 : decode cX7_either 8 = .ok (.bipush 114, 2) := by decide +kernel
theorem dX7_either_10 : decode cX7_either 10 = .ok (.iconst 0, 1) := by decide +kernel
theorem dX7_either_11 : decode cX7_either 11 = .ok (.iconst 0, 1) := by decide +kernel
theorem dX7_either_12 : decode cX7_either 12 = .ok (.iconst 0, 1) := by decide +kernel
theorem dX7_either_13 : decode cX7_either 13 = .ok (.iconst 0, 1) := by decide +kernel
theorem dX7_either_14 : decode cX7_either 14 = .ok (.iconst 0, 1) := by decide +kernel
theorem dX7_either_15 : decode cX7_either 15 = .ok (.iconst 0, 1) := by decide +kernel
theorem dX7_either_16 : decode cX7_either 16 = .ok (.invokevirtual 207, 3) := by decide +kernel
theorem dX7_either_19 : decode cX7_either 19 = .ok (.ifCond .eq 29, 3) := by decide +kernel
theorem dX7_either_22 : decode cX7_either 22 = .ok (.aload_n 0, 1) := by decide +kernel
theorem dX7_either_23 : decode cX7_either 23 = .ok (.invokevirtual 204, 3) := by decide +kernel
theorem dX7_either_26 : decode cX7_either 26 = .ok (.aload_n 0, 1) := by decide +kernel
theorem dX7_either_27 : decode cX7_either 27 = .ok (.invokevirtual 259, 3) := by decide +kernel
theorem dX7_either_30 : decode cX7_either 30 = .ok (.istore_n 2, 1) := by decide +kernel
theorem dX7_either_31 : decode cX7_either 31 = .ok (.iload_n 1, 1) := by decide +kernel
theorem dX7_either_32 : decode cX7_either 32 = .ok (.ifCond .ne 7, 3) := by decide +kernel
theorem dX7_either_35 : decode cX7_either 35 = .ok (.iload_n 2, 1) := by decide +kernel
theorem dX7_either_36 : decode cX7_either 36 = .ok (.ifCond .eq 7, 3) := by decide +kernel
theorem dX7_either_39 : decode cX7_either 39 = .ok (.iconst 1, 1) := by decide +kernel
theorem dX7_either_40 : decode cX7_either 40 = .ok (.goto 4, 3) := by decide +kernel
theorem dX7_either_43 : decode cX7_either 43 = .ok (.iconst 0, 1) := by decide +kernel
theorem dX7_either_44 : decode cX7_either 44 = .ok (.istore_n 1, 1) := by decide +kernel
theorem dX7_either_45 : decode cX7_either 45 = .ok (.goto (-40), 3) := by decide +kernel
theorem dX7_either_48 : decode cX7_either 48 = .ok (.iload_n 1, 1) := by decide +kernel
theorem dX7_either_49 : decode cX7_either 49 = .ok (.ireturn, 1) := by decide +kernel
theorem dX7_part_0 : decode cX7_part 0 = .ok (.iload_n 1, 1) := by decide +kernel
theorem dX7_part_1 : decode cX7_part 1 = .ok (.ifCond .ne 7, 3) := by decide +kernel
theorem dX7_part_4 : decode cX7_part 4 = .ok (.aload_n 0, 1) := by decide +kernel
theorem dX7_part_5 : decode cX7_part 5 = .ok (.invokevirtual 201, 3) := by decide +kernel
theorem dX7_part_8 : decode cX7_part 8 = .ok (.aload_n 0, 1) := by decide +kernel
theorem dX7_part_9 : decode cX7_part 9 = .ok (.getfield 187, 3) := by decide +kernel
theorem dX7_part_12 : decode cX7_part 12 = .ok (.ifCond .ne 7, 3) := by decide +kernel
theorem dX7_part_15 : decode cX7_part 15 = .ok (.aload_n 0, 1) := by decide +kernel
theorem dX7_part_16 : decode cX7_part 16 = .ok (.invokevirtual 204, 3) := by decide +kernel
theorem dX7_part_19 : decode cX7_part 19 = .ok (.aload_n 0, 1) := by decide +kernel
theorem dX7_part_20 : decode cX7_part 20 = .ok (.getfield 187, 3) := by decide +kernel
theorem dX7_part_23 : decode cX7_part 23 = .ok (.ifCond .eq 7, 3) := by decide +kernel
theorem dX7_part_26 : decode cX7_part 26 = .ok (.iconst 0, 1) := by decide +kernel
theorem dX7_part_27 : decode cX7_part 27 = .ok (.goto 7, 3) := by decide +kernel
theorem dX7_part_30 : decode cX7_part 30 = .ok (.aload_n 0, 1) := by decide +kernel
theorem dX7_part_31 : decode cX7_part 31 = .ok (.invokevirtual 240, 3) := by decide +kernel
theorem dX7_part_34 : decode cX7_part 34 = .ok (.istore_n 2, 1) := by decide +kernel
theorem dX7_part_35 : decode cX7_part 35 = .ok (.aload_n 0, 1) := by decide +kernel
theorem dX7_part_36 : decode cX7_part 36 = .ok (.bipush 59, 2) := by decide +kernel
theorem dX7_part_38 : decode cX7_part 38 = .ok (.invokevirtual 229, 3) := by decide +kernel
theorem dX7_part_41 : decode cX7_part 41 = .ok (.ifCond .ne 7, 3) := by decide +kernel
theorem dX7_part_44 : decode cX7_part 44 = .ok (.aload_n 0, 1) := by decide +kernel
theorem dX7_part_45 : decode cX7_part 45 = .ok (.invokevirtual 201, 3) := by decide +kernel
theorem dX7_part_48 : decode cX7_part 48 = .ok (.aload_n 0, 1) := by decide +kernel
theorem dX7_part_49 : decode cX7_part 49 = .ok (.getfield 187, 3) := by decide +kernel
theorem dX7_part_52 : decode cX7_part 52 = .ok (.ifCond .ne 7, 3) := by decide +kernel
theorem dX7_part_55 : decode cX7_part 55 = .ok (.aload_n 0, 1) := by decide +kernel
theorem dX7_part_56 : decode cX7_part 56 = .ok (.invokevirtual 204, 3) := by decide +kernel
theorem dX7_part_59 : decode cX7_part 59 = .ok (.iload_n 2, 1) := by decide +kernel
theorem dX7_part_60 : decode cX7_part 60 = .ok (.ireturn, 1) := by decide +kernel
theorem dX7_read_0 : decode cX7_read 0 = .ok (.aload_n 0, 1) := by decide +kernel
theorem dX7_read_1 : decode cX7_read 1 = .ok (.sipush 160, 3) := by decide +kernel
theorem dX7_read_4 : decode cX7_read 4 = .ok (.iload_n 1, 1) := by decide +kernel
theorem dX7_read_5 : decode cX7_read 5 = .ok (.imul, 1) := by decide +kernel
theorem dX7_read_6 : decode cX7_read 6 = .ok (.putfield 157, 3) := by decide +kernel
theorem dX7_read_9 : decode cX7_read 9 = .ok (.aload_n 0, 1) := by decide +kernel
theorem dX7_read_10 : decode cX7_read 10 = .ok (.aload_n 0, 1) := by decide +kernel
theorem dX7_read_11 : decode cX7_read 11 = .ok (.getfield 17, 3) := by decide +kernel
theorem dX7_read_14 : decode cX7_read 14 = .ok (.iload_n 1, 1) := by decide +kernel
theorem dX7_read_15 : decode cX7_read 15 = .ok (.iaload, 1) := by decide +kernel
theorem dX7_read_16 : decode cX7_read 16 = .ok (.putfield 154, 3) := by decide +kernel
theorem dX7_read_19 : decode cX7_read 19 = .ok (.aload_n 0, 1) := by decide +kernel
theorem dX7_read_20 : decode cX7_read 20 = .ok (.iconst 0, 1) := by decide +kernel
theorem dX7_read_21 : decode cX7_read 21 = .ok (.putfield 160, 3) := by decide +kernel
theorem dX7_read_24 : decode cX7_read 24 = .ok (.aload_n 0, 1) := by decide +kernel
theorem dX7_read_25 : decode cX7_read 25 = .ok (.iconst 0, 1) := by decide +kernel
theorem dX7_read_26 : decode cX7_read 26 = .ok (.putfield 198, 3) := by decide +kernel
theorem dX7_read_29 : decode cX7_read 29 = .ok (.aload_n 0, 1) := by decide +kernel
theorem dX7_read_30 : decode cX7_read 30 = .ok (.iconst 0, 1) := by decide +kernel
theorem dX7_read_31 : decode cX7_read 31 = .ok (.putfield 187, 3) := by decide +kernel
theorem dX7_read_34 : decode cX7_read 34 = .ok (.aload_n 0, 1) := by decide +kernel
theorem dX7_read_35 : decode cX7_read 35 = .ok (.invokevirtual 204, 3) := by decide +kernel
theorem dX7_read_38 : decode cX7_read 38 = .ok (.aload_n 0, 1) := by decide +kernel
theorem dX7_read_39 : decode cX7_read 39 = .ok (.aload_n 0, 1) := by decide +kernel
theorem dX7_read_40 : decode cX7_read 40 = .ok (.bipush 99, 2) := by decide +kernel
theorem dX7_read_42 : decode cX7_read 42 = .ok (.bipush 111, 2) := by decide +kernel
theorem dX7_read_44 : decode cX7_read 44 = .ok (.bipush 115, 2) := by decide +kernel
theorem dX7_read_46 : decode cX7_read 46 = .ok (.bipush 116, 2) := by decide +kernel
theorem dX7_read_48 : decode cX7_read 48 = .ok (.bipush 115, 2) := by decide +kernel
theorem dX7_read_50 : decode cX7_read 50 = .ok (.iconst 0, 1) := by decide +kernel
theorem dX7_read_51 : decode cX7_read 51 = .ok (.iconst 0, 1) := by decide +kernel
theorem dX7_read_52 : decode cX7_read 52 = .ok (.iconst 0, 1) := by decide +kernel
theorem dX7_read_53 : decode cX7_read 53 = .ok (.invokevirtual 207, 3) := by decide +kernel
theorem dX7_read_56 : decode cX7_read 56 = .ok (.invokevirtual 262, 3) := by decide +kernel
theorem dX7_read_59 : decode cX7_read 59 = .ok (.istore_n 3, 1) := by decide +kernel
theorem dX7_read_60 : decode cX7_read 60 = .ok (.aload_n 0, 1) := by decide +kernel
theorem dX7_read_61 : decode cX7_read 61 = .ok (.getfield 187, 3) := by decide +kernel
theorem dX7_read_64 : decode cX7_read 64 = .ok (.ifCond .eq 7, 3) := by decide +kernel
theorem dX7_read_67 : decode cX7_read 67 = .ok (.iconst 0, 1) := by decide +kernel
theorem dX7_read_68 : decode cX7_read 68 = .ok (.goto 24, 3) := by decide +kernel
theorem dX7_read_71 : decode cX7_read 71 = .ok (.aload_n 0, 1) := by decide +kernel
theorem dX7_read_72 : decode cX7_read 72 = .ok (.aload_n 0, 1) := by decide +kernel
theorem dX7_read_73 : decode cX7_read 73 = .ok (.bipush 119, 2) := by decide +kernel
theorem dX7_read_75 : decode cX7_read 75 = .ok (.bipush 111, 2) := by decide +kernel
theorem dX7_read_77 : decode cX7_read 77 = .ok (.bipush 114, 2) := by decide +kernel
theorem dX7_read_79 : decode cX7_read 79 = .ok (.bipush 116, 2) := by decide +kernel
theorem dX7_read_81 : decode cX7_read 81 = .ok (.bipush 104, 2) := by decide +kernel
theorem dX7_read_83 : decode cX7_read 83 = .ok (.iconst 0, 1) := by decide +kernel
theorem dX7_read_84 : decode cX7_read 84 = .ok (.iconst 0, 1) := by decide +kernel
theorem dX7_read_85 : decode cX7_read 85 = .ok (.iconst 0, 1) := by decide +kernel
theorem dX7_read_86 : decode cX7_read 86 = .ok (.invokevirtual 207, 3) := by decide +kernel
theorem dX7_read_89 : decode cX7_read 89 = .ok (.invokevirtual 262, 3) := by decide +kernel
theorem dX7_read_92 : decode cX7_read 92 = .ok (.istore 4, 2) := by decide +kernel
theorem dX7_read_94 : decode cX7_read 94 = .ok (.aload_n 0, 1) := by decide +kernel
theorem dX7_read_95 : decode cX7_read 95 = .ok (.getfield 187, 3) := by decide +kernel
theorem dX7_read_98 : decode cX7_read 98 = .ok (.ifCond .eq 7, 3) := by decide +kernel
theorem dX7_read_101 : decode cX7_read 101 = .ok (.iconst 0, 1) := by decide +kernel
theorem dX7_read_102 : decode cX7_read 102 = .ok (.goto 24, 3) := by decide +kernel
theorem dX7_read_105 : decode cX7_read 105 = .ok (.aload_n 0, 1) := by decide +kernel
theorem dX7_read_106 : decode cX7_read 106 = .ok (.aload_n 0, 1) := by decide +kernel
theorem dX7_read_107 : decode cX7_read 107 = .ok (.bipush 100, 2) := by decide +kernel
theorem dX7_read_109 : decode cX7_read 109 = .ok (.bipush 114, 2) := by decide +kernel
theorem dX7_read_111 : decode cX7_read 111 = .ok (.bipush 105, 2) := by decide +kernel
theorem dX7_read_113 : decode cX7_read 113 = .ok (.bipush 102, 2) := by decide +kernel
theorem dX7_read_115 : decode cX7_read 115 = .ok (.bipush 116, 2) := by decide +kernel
theorem dX7_read_117 : decode cX7_read 117 = .ok (.iconst 0, 1) := by decide +kernel
theorem dX7_read_118 : decode cX7_read 118 = .ok (.iconst 0, 1) := by decide +kernel
theorem dX7_read_119 : decode cX7_read 119 = .ok (.iconst 0, 1) := by decide +kernel
theorem dX7_read_120 : decode cX7_read 120 = .ok (.invokevirtual 207, 3) := by decide +kernel
theorem dX7_read_123 : decode cX7_read 123 = .ok (.invokevirtual 262, 3) := by decide +kernel
theorem dX7_read_126 : decode cX7_read 126 = .ok (.istore 5, 2) := by decide +kernel
theorem dX7_read_128 : decode cX7_read 128 = .ok (.aload_n 0, 1) := by decide +kernel
theorem dX7_read_129 : decode cX7_read 129 = .ok (.getfield 187, 3) := by decide +kernel
theorem dX7_read_132 : decode cX7_read 132 = .ok (.ifCond .ne 14, 3) := by decide +kernel
theorem dX7_read_135 : decode cX7_read 135 = .ok (.aload_n 0, 1) := by decide +kernel
theorem dX7_read_136 : decode cX7_read 136 = .ok (.getfield 170, 3) := by decide +kernel
theorem dX7_read_139 : decode cX7_read 139 = .ok (.ifCond .eq 7, 3) := by decide +kernel
theorem dX7_read_142 : decode cX7_read 142 = .ok (.aload_n 0, 1) := by decide +kernel
theorem dX7_read_143 : decode cX7_read 143 = .ok (.invokevirtual 201, 3) := by decide +kernel
theorem dX7_read_146 : decode cX7_read 146 = .ok (.iload_n 2, 1) := by decide +kernel
theorem dX7_read_147 : decode cX7_read 147 = .ok (.ifCond .ne 7, 3) := by decide +kernel
theorem dX7_read_150 : decode cX7_read 150 = .ok (.iload_n 3, 1) := by decide +kernel
theorem dX7_read_151 : decode cX7_read 151 = .ok (.goto 15, 3) := by decide +kernel
theorem dX7_read_154 : decode cX7_read 154 = .ok (.iload_n 2, 1) := by decide +kernel
theorem dX7_read_155 : decode cX7_read 155 = .ok (.iconst 1, 1) := by decide +kernel
theorem dX7_read_156 : decode cX7_read 156 = .ok (.if_icmp .ne 8, 3) := by decide +kernel
theorem dX7_read_159 : decode cX7_read 159 = .ok (.iload 4, 2) := by decide +kernel
theorem dX7_read_161 : decode cX7_read 161 = .ok (.goto 5, 3) := by decide +kernel
theorem dX7_read_164 : decode cX7_read 164 = .ok (.iload 5, 2) := by decide +kernel
theorem dX7_read_166 : decode cX7_read 166 = .ok (.ireturn, 1) := by decide +kernel
theorem dX7_text_0 : decode cX7_text 0 = .ok (.aload_n 0, 1) := by decide +kernel
theorem dX7_text_1 : decode cX7_text 1 = .ok (.getfield 107, 3) := by decide +kernel
theorem dX7_text_4 : decode cX7_text 4 = .ok (.bipush 6, 2) := by decide +kernel
theorem dX7_text_6 : decode cX7_text 6 = .ok (.if_icmp .ne 6, 3) := by decide +kernel
theorem dX7_text_9 : decode cX7_text 9 = .ok (.bipush (-4), 2) := by decide +kernel
theorem dX7_text_11 : decode cX7_text 11 = .ok (.ireturn, 1) := by decide +kernel
theorem dX7_text_12 : decode cX7_text 12 = .ok (.iconst 0, 1) := by decide +kernel
theorem dX7_text_13 : decode cX7_text 13 = .ok (.istore_n 1, 1) := by decide +kernel
theorem dX7_text_14 : decode cX7_text 14 = .ok (.iload_n 1, 1) := by decide +kernel
theorem dX7_text_15 : decode cX7_text 15 = .ok (.aload_n 0, 1) := by decide +kernel
theorem dX7_text_16 : decode cX7_text 16 = .ok (.getfield 151, 3) := by decide +kernel
theorem dX7_text_19 : decode cX7_text 19 = .ok (.if_icmp .ge 30, 3) := by decide +kernel
theorem dX7_text_22 : decode cX7_text 22 = .ok (.aload_n 0, 1) := by decide +kernel
theorem dX7_text_23 : decode cX7_text 23 = .ok (.getfield 13, 3) := by decide +kernel
theorem dX7_text_26 : decode cX7_text 26 = .ok (.sipush 160, 3) := by decide +kernel
theorem dX7_text_29 : decode cX7_text 29 = .ok (.aload_n 0, 1) := by decide +kernel
theorem dX7_text_30 : decode cX7_text 30 = .ok (.getfield 107, 3) := by decide +kernel
theorem dX7_text_33 : decode cX7_text 33 = .ok (.imul, 1) := by decide +kernel
theorem dX7_text_34 : decode cX7_text 34 = .ok (.iload_n 1, 1) := by decide +kernel
theorem dX7_text_35 : decode cX7_text 35 = .ok (.iadd, 1) := by decide +kernel
theorem dX7_text_36 : decode cX7_text 36 = .ok (.aload_n 0, 1) := by decide +kernel
theorem dX7_text_37 : decode cX7_text 37 = .ok (.getfield 20, 3) := by decide +kernel
theorem dX7_text_40 : decode cX7_text 40 = .ok (.iload_n 1, 1) := by decide +kernel
theorem dX7_text_41 : decode cX7_text 41 = .ok (.iaload, 1) := by decide +kernel
theorem dX7_text_42 : decode cX7_text 42 = .ok (.iastore, 1) := by decide +kernel
theorem dX7_text_43 : decode cX7_text 43 = .ok (.iinc 1 1, 3) := by decide +kernel
theorem dX7_text_46 : decode cX7_text 46 = .ok (.goto (-32), 3) := by decide +kernel
theorem dX7_text_49 : decode cX7_text 49 = .ok (.aload_n 0, 1) := by decide +kernel
theorem dX7_text_50 : decode cX7_text 50 = .ok (.getfield 17, 3) := by decide +kernel
theorem dX7_text_53 : decode cX7_text 53 = .ok (.aload_n 0, 1) := by decide +kernel
theorem dX7_text_54 : decode cX7_text 54 = .ok (.getfield 107, 3) := by decide +kernel
theorem dX7_text_57 : decode cX7_text 57 = .ok (.aload_n 0, 1) := by decide +kernel
theorem dX7_text_58 : decode cX7_text 58 = .ok (.getfield 151, 3) := by decide +kernel
theorem dX7_text_61 : decode cX7_text 61 = .ok (.iastore, 1) := by decide +kernel
theorem dX7_text_62 : decode cX7_text 62 = .ok (.aload_n 0, 1) := by decide +kernel
theorem dX7_text_63 : decode cX7_text 63 = .ok (.iconst 0, 1) := by decide +kernel
theorem dX7_text_64 : decode cX7_text 64 = .ok (.putfield 151, 3) := by decide +kernel
theorem dX7_text_67 : decode cX7_text 67 = .ok (.aload_n 0, 1) := by decide +kernel
theorem dX7_text_68 : decode cX7_text 68 = .ok (.aload_n 0, 1) := by decide +kernel
theorem dX7_text_69 : decode cX7_text 69 = .ok (.getfield 107, 3) := by decide +kernel
theorem dX7_text_72 : decode cX7_text 72 = .ok (.iconst 0, 1) := by decide +kernel
theorem dX7_text_73 : decode cX7_text 73 = .ok (.invokevirtual 266, 3) := by decide +kernel
theorem dX7_text_76 : decode cX7_text 76 = .ok (.istore_n 1, 1) := by decide +kernel
theorem dX7_text_77 : decode cX7_text 77 = .ok (.aload_n 0, 1) := by decide +kernel
theorem dX7_text_78 : decode cX7_text 78 = .ok (.getfield 187, 3) := by decide +kernel
theorem dX7_text_81 : decode cX7_text 81 = .ok (.ifCond .eq 11, 3) := by decide +kernel
theorem dX7_text_84 : decode cX7_text 84 = .ok (.bipush (-100), 2) := by decide +kernel
theorem dX7_text_86 : decode cX7_text 86 = .ok (.aload_n 0, 1) := by decide +kernel
theorem dX7_text_87 : decode cX7_text 87 = .ok (.getfield 191, 3) := by decide +kernel
theorem dX7_text_90 : decode cX7_text 90 = .ok (.isub, 1) := by decide +kernel
theorem dX7_text_91 : decode cX7_text 91 = .ok (.ireturn, 1) := by decide +kernel
theorem dX7_text_92 : decode cX7_text 92 = .ok (.aload_n 0, 1) := by decide +kernel
theorem dX7_text_93 : decode cX7_text 93 = .ok (.dup, 1) := by decide +kernel
theorem dX7_text_94 : decode cX7_text 94 = .ok (.getfield 107, 3) := by decide +kernel
theorem dX7_text_97 : decode cX7_text 97 = .ok (.iconst 1, 1) := by decide +kernel
theorem dX7_text_98 : decode cX7_text 98 = .ok (.iadd, 1) := by decide +kernel
theorem dX7_text_99 : decode cX7_text 99 = .ok (.putfield 107, 3) := by decide +kernel
theorem dX7_text_102 : decode cX7_text 102 = .ok (.aload_n 0, 1) := by decide +kernel
theorem dX7_text_103 : decode cX7_text 103 = .ok (.getfield 107, 3) := by decide +kernel
theorem dX7_text_106 : decode cX7_text 106 = .ok (.iconst 1, 1) := by decide +kernel
theorem dX7_text_107 : decode cX7_text 107 = .ok (.isub, 1) := by decide +kernel
theorem dX7_text_108 : decode cX7_text 108 = .ok (.ireturn, 1) := by decide +kernel
theorem dX7_force_0 : decode cX7_force 0 = .ok (.iload_n 1, 1) := by decide +kernel
theorem dX7_force_1 : decode cX7_force 1 = .ok (.i2l, 1) := by decide +kernel
theorem dX7_force_2 : decode cX7_force 2 = .ok (.lconst 0, 1) := by decide +kernel
theorem dX7_force_3 : decode cX7_force 3 = .ok (.aload_n 0, 1) := by decide +kernel
theorem dX7_force_4 : decode cX7_force 4 = .ok (.getfield 107, 3) := by decide +kernel
theorem dX7_force_7 : decode cX7_force 7 = .ok (.iconst 1, 1) := by decide +kernel
theorem dX7_force_8 : decode cX7_force 8 = .ok (.isub, 1) := by decide +kernel
theorem dX7_force_9 : decode cX7_force 9 = .ok (.i2l, 1) := by decide +kernel
theorem dX7_force_10 : decode cX7_force 10 = .ok (.invokestatic 113, 3) := by decide +kernel
theorem dX7_force_13 : decode cX7_force 13 = .ok (.ifCond .ne 6, 3) := by decide +kernel
theorem dX7_force_16 : decode cX7_force 16 = .ok (.bipush (-2), 2) := by decide +kernel
theorem dX7_force_18 : decode cX7_force 18 = .ok (.ireturn, 1) := by decide +kernel
theorem dX7_force_19 : decode cX7_force 19 = .ok (.aload_n 0, 1) := by decide +kernel
theorem dX7_force_20 : decode cX7_force 20 = .ok (.getfield 269, 3) := by decide +kernel
theorem dX7_force_23 : decode cX7_force 23 = .ok (.istore_n 2, 1) := by decide +kernel
theorem dX7_force_24 : decode cX7_force 24 = .ok (.aload_n 0, 1) := by decide +kernel
theorem dX7_force_25 : decode cX7_force 25 = .ok (.iload_n 1, 1) := by decide +kernel
theorem dX7_force_26 : decode cX7_force 26 = .ok (.putfield 269, 3) := by decide +kernel
theorem dX7_force_29 : decode cX7_force 29 = .ok (.iload_n 2, 1) := by decide +kernel
theorem dX7_force_30 : decode cX7_force 30 = .ok (.ireturn, 1) := by decide +kernel
theorem dX7_says_0 : decode cX7_says 0 = .ok (.aload_n 0, 1) := by decide +kernel
theorem dX7_says_1 : decode cX7_says 1 = .ok (.iload_n 2, 1) := by decide +kernel
theorem dX7_says_2 : decode cX7_says 2 = .ok (.putfield 211, 3) := by decide +kernel
theorem dX7_says_5 : decode cX7_says 5 = .ok (.aload_n 0, 1) := by decide +kernel
theorem dX7_says_6 : decode cX7_says 6 = .ok (.aload_n 0, 1) := by decide +kernel
theorem dX7_says_7 : decode cX7_says 7 = .ok (.getfield 133, 3) := by decide +kernel
theorem dX7_says_10 : decode cX7_says 10 = .ok (.putfield 214, 3) := by decide +kernel
theorem dX7_says_13 : decode cX7_says 13 = .ok (.aload_n 0, 1) := by decide +kernel
theorem dX7_says_14 : decode cX7_says 14 = .ok (.iload_n 3, 1) := by decide +kernel
theorem dX7_says_15 : decode cX7_says 15 = .ok (.putfield 217, 3) := by decide +kernel
theorem dX7_says_18 : decode cX7_says 18 = .ok (.aload_n 0, 1) := by decide +kernel
theorem dX7_says_19 : decode cX7_says 19 = .ok (.iload 4, 2) := by decide +kernel
theorem dX7_says_21 : decode cX7_says 21 = .ok (.putfield 220, 3) := by decide +kernel
theorem dX7_says_24 : decode cX7_says 24 = .ok (.aload_n 0, 1) := by decide +kernel
theorem dX7_says_25 : decode cX7_says 25 = .ok (.iload 5, 2) := by decide +kernel
theorem dX7_says_27 : decode cX7_says 27 = .ok (.putfield 223, 3) := by decide +kernel
theorem dX7_says_30 : decode cX7_says 30 = .ok (.aload_n 0, 1) := by decide +kernel
theorem dX7_says_31 : decode cX7_says 31 = .ok (.iload 6, 2) := by decide +kernel
theorem dX7_says_33 : decode cX7_says 33 = .ok (.putfield 226, 3) := by decide +kernel
theorem dX7_says_36 : decode cX7_says 36 = .ok (.aload_n 0, 1) := by decide +kernel
theorem dX7_says_37 : decode cX7_says 37 = .ok (.aload_n 0, 1) := by decide +kernel
theorem dX7_says_38 : decode cX7_says 38 = .ok (.getfield 269, 3) := by decide +kernel
theorem dX7_says_41 : decode cX7_says 41 = .ok (.iload_n 1, 1) := by decide +kernel
theorem dX7_says_42 : decode cX7_says 42 = .ok (.invokevirtual 266, 3) := by decide +kernel
theorem dX7_says_45 : decode cX7_says 45 = .ok (.iconst 0, 1) := by decide +kernel
theorem dX7_says_46 : decode cX7_says 46 = .ok (.iload_n 1, 1) := by decide +kernel
theorem dX7_says_47 : decode cX7_says 47 = .ok (.iconst 1, 1) := by decide +kernel
theorem dX7_says_48 : decode cX7_says 48 = .ok (.if_icmp .ne 9, 3) := by decide +kernel
theorem dX7_says_51 : decode cX7_says 51 = .ok (.sipush 999, 3) := by decide +kernel
theorem dX7_says_54 : decode cX7_says 54 = .ok (.goto 5, 3) := by decide +kernel
theorem dX7_says_57 : decode cX7_says 57 = .ok (.bipush 99, 2) := by decide +kernel
theorem dX7_says_59 : decode cX7_says 59 = .ok (.invokestatic 272, 3) := by decide +kernel
theorem dX7_says_62 : decode cX7_says 62 = .ok (.ireturn, 1) := by decide +kernel
theorem dX7_until_0 : decode cX7_until 0 = .ok (.iload_n 0, 1) := by decide +kernel
theorem dX7_until_1 : decode cX7_until 1 = .ok (.iload_n 1, 1) := by decide +kernel
theorem dX7_until_2 : decode cX7_until 2 = .ok (.iadd, 1) := by decide +kernel
theorem dX7_until_3 : decode cX7_until 3 = .ok (.iconst 1, 1) := by decide +kernel
theorem dX7_until_4 : decode cX7_until 4 = .ok (.isub, 1) := by decide +kernel
theorem dX7_until_5 : decode cX7_until 5 = .ok (.iload_n 1, 1) := by decide +kernel
theorem dX7_until_6 : decode cX7_until 6 = .ok (.idiv, 1) := by decide +kernel
theorem dX7_until_7 : decode cX7_until 7 = .ok (.ireturn, 1) := by decide +kernel
theorem dX7_burns_0 : decode cX7_burns 0 = .ok (.iconst 0, 1) := by decide +kernel
theorem dX7_burns_1 : decode cX7_burns 1 = .ok (.istore_n 2, 1) := by decide +kernel
theorem dX7_burns_2 : decode cX7_burns 2 = .ok (.iconst 0, 1) := by decide +kernel
theorem dX7_burns_3 : decode cX7_burns 3 = .ok (.istore_n 3, 1) := by decide +kernel
theorem dX7_burns_4 : decode cX7_burns 4 = .ok (.iload_n 3, 1) := by decide +kernel
theorem dX7_burns_5 : decode cX7_burns 5 = .ok (.aload_n 0, 1) := by decide +kernel
theorem dX7_burns_6 : decode cX7_burns 6 = .ok (.getfield 110, 3) := by decide +kernel
theorem dX7_burns_9 : decode cX7_burns 9 = .ok (.if_icmp .ge 113, 3) := by decide +kernel
theorem dX7_burns_12 : decode cX7_burns 12 = .ok (.aload_n 0, 1) := by decide +kernel
theorem dX7_burns_13 : decode cX7_burns 13 = .ok (.getfield 32, 3) := by decide +kernel
theorem dX7_burns_16 : decode cX7_burns 16 = .ok (.iload_n 3, 1) := by decide +kernel
theorem dX7_burns_17 : decode cX7_burns 17 = .ok (.iaload, 1) := by decide +kernel
theorem dX7_burns_18 : decode cX7_burns 18 = .ok (.ifCond .le 98, 3) := by decide +kernel
theorem dX7_burns_21 : decode cX7_burns 21 = .ok (.aload_n 0, 1) := by decide +kernel
theorem dX7_burns_22 : decode cX7_burns 22 = .ok (.iload_n 3, 1) := by decide +kernel
theorem dX7_burns_23 : decode cX7_burns 23 = .ok (.aload_n 0, 1) := by decide +kernel
theorem dX7_burns_24 : decode cX7_burns 24 = .ok (.getfield 32, 3) := by decide +kernel
theorem dX7_burns_27 : decode cX7_burns 27 = .ok (.iload_n 3, 1) := by decide +kernel
theorem dX7_burns_28 : decode cX7_burns 28 = .ok (.iaload, 1) := by decide +kernel
theorem dX7_burns_29 : decode cX7_burns 29 = .ok (.aload_n 0, 1) := by decide +kernel
theorem dX7_burns_30 : decode cX7_burns 30 = .ok (.getfield 133, 3) := by decide +kernel
theorem dX7_burns_33 : decode cX7_burns 33 = .ok (.invokevirtual 145, 3) := by decide +kernel
theorem dX7_burns_36 : decode cX7_burns 36 = .ok (.iload_n 1, 1) := by decide +kernel
theorem dX7_burns_37 : decode cX7_burns 37 = .ok (.imul, 1) := by decide +kernel
theorem dX7_burns_38 : decode cX7_burns 38 = .ok (.istore 4, 2) := by decide +kernel
theorem dX7_burns_40 : decode cX7_burns 40 = .ok (.iload 4, 2) := by decide +kernel
theorem dX7_burns_42 : decode cX7_burns 42 = .ok (.aload_n 0, 1) := by decide +kernel
theorem dX7_burns_43 : decode cX7_burns 43 = .ok (.getfield 29, 3) := by decide +kernel
theorem dX7_burns_46 : decode cX7_burns 46 = .ok (.iload_n 3, 1) := by decide +kernel
theorem dX7_burns_47 : decode cX7_burns 47 = .ok (.iaload, 1) := by decide +kernel
theorem dX7_burns_48 : decode cX7_burns 48 = .ok (.if_icmp .ge 8, 3) := by decide +kernel
theorem dX7_burns_51 : decode cX7_burns 51 = .ok (.iload 4, 2) := by decide +kernel
theorem dX7_burns_53 : decode cX7_burns 53 = .ok (.goto 9, 3) := by decide +kernel
theorem dX7_burns_56 : decode cX7_burns 56 = .ok (.aload_n 0, 1) := by decide +kernel
theorem dX7_burns_57 : decode cX7_burns 57 = .ok (.getfield 29, 3) := by decide +kernel
theorem dX7_burns_60 : decode cX7_burns 60 = .ok (.iload_n 3, 1) := by decide +kernel
theorem dX7_burns_61 : decode cX7_burns 61 = .ok (.iaload, 1) := by decide +kernel
theorem dX7_burns_62 : decode cX7_burns 62 = .ok (.istore 5, 2) := by decide +kernel
theorem dX7_burns_64 : decode cX7_burns 64 = .ok (.aload_n 0, 1) := by decide +kernel
theorem dX7_burns_65 : decode cX7_burns 65 = .ok (.getfield 29, 3) := by decide +kernel
theorem dX7_burns_68 : decode cX7_burns 68 = .ok (.iload_n 3, 1) := by decide +kernel
theorem dX7_burns_69 : decode cX7_burns 69 = .ok (.dup2, 1) := by decide +kernel
theorem dX7_burns_70 : decode cX7_burns 70 = .ok (.iaload, 1) := by decide +kernel
theorem dX7_burns_71 : decode cX7_burns 71 = .ok (.iload 5, 2) := by decide +kernel
theorem dX7_burns_73 : decode cX7_burns 73 = .ok (.isub, 1) := by decide +kernel
theorem dX7_burns_74 : decode cX7_burns 74 = .ok (.iastore, 1) := by decide +kernel
theorem dX7_burns_75 : decode cX7_burns 75 = .ok (.aload_n 0, 1) := by decide +kernel
theorem dX7_burns_76 : decode cX7_burns 76 = .ok (.getfield 35, 3) := by decide +kernel
theorem dX7_burns_79 : decode cX7_burns 79 = .ok (.iload_n 3, 1) := by decide +kernel
theorem dX7_burns_80 : decode cX7_burns 80 = .ok (.aload_n 0, 1) := by decide +kernel
theorem dX7_burns_81 : decode cX7_burns 81 = .ok (.getfield 35, 3) := by decide +kernel
theorem dX7_burns_84 : decode cX7_burns 84 = .ok (.iload_n 3, 1) := by decide +kernel
theorem dX7_burns_85 : decode cX7_burns 85 = .ok (.iaload, 1) := by decide +kernel
theorem dX7_burns_86 : decode cX7_burns 86 = .ok (.iload 5, 2) := by decide +kernel
theorem dX7_burns_88 : decode cX7_burns 88 = .ok (.iadd, 1) := by decide +kernel
theorem dX7_burns_89 : decode cX7_burns 89 = .ok (.iconst 0, 1) := by decide +kernel
theorem dX7_burns_90 : decode cX7_burns 90 = .ok (.sipush 999, 3) := by decide +kernel
theorem dX7_burns_93 : decode cX7_burns 93 = .ok (.invokestatic 272, 3) := by decide +kernel
theorem dX7_burns_96 : decode cX7_burns 96 = .ok (.iastore, 1) := by decide +kernel
theorem dX7_burns_97 : decode cX7_burns 97 = .ok (.aload_n 0, 1) := by decide +kernel
theorem dX7_burns_98 : decode cX7_burns 98 = .ok (.getfield 29, 3) := by decide +kernel
theorem dX7_burns_101 : decode cX7_burns 101 = .ok (.iload_n 3, 1) := by decide +kernel
theorem dX7_burns_102 : decode cX7_burns 102 = .ok (.iaload, 1) := by decide +kernel
theorem dX7_burns_103 : decode cX7_burns 103 = .ok (.ifCond .ne 13, 3) := by decide +kernel
theorem dX7_burns_106 : decode cX7_burns 106 = .ok (.aload_n 0, 1) := by decide +kernel
theorem dX7_burns_107 : decode cX7_burns 107 = .ok (.getfield 32, 3) := by decide +kernel
theorem dX7_burns_110 : decode cX7_burns 110 = .ok (.iload_n 3, 1) := by decide +kernel
theorem dX7_burns_111 : decode cX7_burns 111 = .ok (.iconst 0, 1) := by decide +kernel
theorem dX7_burns_112 : decode cX7_burns 112 = .ok (.iastore, 1) := by decide +kernel
theorem dX7_burns_113 : decode cX7_burns 113 = .ok (.iinc 2 1, 3) := by decide +kernel
theorem dX7_burns_116 : decode cX7_burns 116 = .ok (.iinc 3 1, 3) := by decide +kernel
theorem dX7_burns_119 : decode cX7_burns 119 = .ok (.goto (-115), 3) := by decide +kernel
theorem dX7_burns_122 : decode cX7_burns 122 = .ok (.aload_n 0, 1) := by decide +kernel
theorem dX7_burns_123 : decode cX7_burns 123 = .ok (.aload_n 0, 1) := by decide +kernel
theorem dX7_burns_124 : decode cX7_burns 124 = .ok (.getfield 136, 3) := by decide +kernel
theorem dX7_burns_127 : decode cX7_burns 127 = .ok (.iload_n 1, 1) := by decide +kernel
theorem dX7_burns_128 : decode cX7_burns 128 = .ok (.iadd, 1) := by decide +kernel
theorem dX7_burns_129 : decode cX7_burns 129 = .ok (.iconst 0, 1) := by decide +kernel
theorem dX7_burns_130 : decode cX7_burns 130 = .ok (.sipush 9999, 3) := by decide +kernel
theorem dX7_burns_133 : decode cX7_burns 133 = .ok (.invokestatic 272, 3) := by decide +kernel
theorem dX7_burns_136 : decode cX7_burns 136 = .ok (.putfield 136, 3) := by decide +kernel
theorem dX7_burns_139 : decode cX7_burns 139 = .ok (.iload_n 2, 1) := by decide +kernel
theorem dX7_burns_140 : decode cX7_burns 140 = .ok (.ireturn, 1) := by decide +kernel
theorem dX7_canLight_0 : decode cX7_canLight 0 = .ok (.aload_n 0, 1) := by decide +kernel
theorem dX7_canLight_1 : decode cX7_canLight 1 = .ok (.getfield 29, 3) := by decide +kernel
theorem dX7_canLight_4 : decode cX7_canLight 4 = .ok (.iload_n 1, 1) := by decide +kernel
theorem dX7_canLight_5 : decode cX7_canLight 5 = .ok (.iaload, 1) := by decide +kernel
theorem dX7_canLight_6 : decode cX7_canLight 6 = .ok (.ifCond .le 19, 3) := by decide +kernel
theorem dX7_canLight_9 : decode cX7_canLight 9 = .ok (.aload_n 0, 1) := by decide +kernel
theorem dX7_canLight_10 : decode cX7_canLight 10 = .ok (.getfield 32, 3) := by decide +kernel
theorem dX7_canLight_13 : decode cX7_canLight 13 = .ok (.iload_n 1, 1) := by decide +kernel
theorem dX7_canLight_14 : decode cX7_canLight 14 = .ok (.iaload, 1) := by decide +kernel
theorem dX7_canLight_15 : decode cX7_canLight 15 = .ok (.iload_n 2, 1) := by decide +kernel
theorem dX7_canLight_16 : decode cX7_canLight 16 = .ok (.iadd, 1) := by decide +kernel
theorem dX7_canLight_17 : decode cX7_canLight 17 = .ok (.iconst 2, 1) := by decide +kernel
theorem dX7_canLight_18 : decode cX7_canLight 18 = .ok (.if_icmp .gt 7, 3) := by decide +kernel
theorem dX7_canLight_21 : decode cX7_canLight 21 = .ok (.iconst 1, 1) := by decide +kernel
theorem dX7_canLight_22 : decode cX7_canLight 22 = .ok (.goto 4, 3) := by decide +kernel
theorem dX7_canLight_25 : decode cX7_canLight 25 = .ok (.iconst 0, 1) := by decide +kernel
theorem dX7_canLight_26 : decode cX7_canLight 26 = .ok (.ireturn, 1) := by decide +kernel
theorem dX7_light_0 : decode cX7_light 0 = .ok (.aload_n 0, 1) := by decide +kernel
theorem dX7_light_1 : decode cX7_light 1 = .ok (.iload_n 1, 1) := by decide +kernel
theorem dX7_light_2 : decode cX7_light 2 = .ok (.invokevirtual 123, 3) := by decide +kernel
theorem dX7_light_5 : decode cX7_light 5 = .ok (.ifCond .eq 15, 3) := by decide +kernel
theorem dX7_light_8 : decode cX7_light 8 = .ok (.iload_n 2, 1) := by decide +kernel
theorem dX7_light_9 : decode cX7_light 9 = .ok (.i2l, 1) := by decide +kernel
theorem dX7_light_10 : decode cX7_light 10 = .ok (.lconst 1, 1) := by decide +kernel
theorem dX7_light_11 : decode cX7_light 11 = .ok (.ldc2_w 127, 3) := by decide +kernel
theorem dX7_light_14 : decode cX7_light 14 = .ok (.invokestatic 113, 3) := by decide +kernel
theorem dX7_light_17 : decode cX7_light 17 = .ok (.ifCond .ne 6, 3) := by decide +kernel
theorem dX7_light_20 : decode cX7_light 20 = .ok (.bipush (-2), 2) := by decide +kernel
theorem dX7_light_22 : decode cX7_light 22 = .ok (.ireturn, 1) := by decide +kernel
theorem dX7_light_23 : decode cX7_light 23 = .ok (.aload_n 0, 1) := by decide +kernel
theorem dX7_light_24 : decode cX7_light 24 = .ok (.iload_n 1, 1) := by decide +kernel
theorem dX7_light_25 : decode cX7_light 25 = .ok (.iload_n 2, 1) := by decide +kernel
theorem dX7_light_26 : decode cX7_light 26 = .ok (.invokevirtual 275, 3) := by decide +kernel
theorem dX7_light_29 : decode cX7_light 29 = .ok (.ifCond .ne 6, 3) := by decide +kernel
theorem dX7_light_32 : decode cX7_light 32 = .ok (.bipush (-3), 2) := by decide +kernel
theorem dX7_light_34 : decode cX7_light 34 = .ok (.ireturn, 1) := by decide +kernel
theorem dX7_light_35 : decode cX7_light 35 = .ok (.aload_n 0, 1) := by decide +kernel
theorem dX7_light_36 : decode cX7_light 36 = .ok (.getfield 32, 3) := by decide +kernel
theorem dX7_light_39 : decode cX7_light 39 = .ok (.iload_n 1, 1) := by decide +kernel
theorem dX7_light_40 : decode cX7_light 40 = .ok (.dup2, 1) := by decide +kernel
theorem dX7_light_41 : decode cX7_light 41 = .ok (.iaload, 1) := by decide +kernel
theorem dX7_light_42 : decode cX7_light 42 = .ok (.iload_n 2, 1) := by decide +kernel
theorem dX7_light_43 : decode cX7_light 43 = .ok (.iadd, 1) := by decide +kernel
theorem dX7_light_44 : decode cX7_light 44 = .ok (.iastore, 1) := by decide +kernel
theorem dX7_light_45 : decode cX7_light 45 = .ok (.aload_n 0, 1) := by decide +kernel
theorem dX7_light_46 : decode cX7_light 46 = .ok (.getfield 32, 3) := by decide +kernel
theorem dX7_light_49 : decode cX7_light 49 = .ok (.iload_n 1, 1) := by decide +kernel
theorem dX7_light_50 : decode cX7_light 50 = .ok (.iaload, 1) := by decide +kernel
theorem dX7_light_51 : decode cX7_light 51 = .ok (.ireturn, 1) := by decide +kernel
theorem dX7_burn_0 : decode cX7_burn 0 = .ok (.iload_n 1, 1) := by decide +kernel
theorem dX7_burn_1 : decode cX7_burn 1 = .ok (.i2l, 1) := by decide +kernel
theorem dX7_burn_2 : decode cX7_burn 2 = .ok (.lconst 0, 1) := by decide +kernel
theorem dX7_burn_3 : decode cX7_burn 3 = .ok (.ldc2_w 278, 3) := by decide +kernel
theorem dX7_burn_6 : decode cX7_burn 6 = .ok (.invokestatic 113, 3) := by decide +kernel
theorem dX7_burn_9 : decode cX7_burn 9 = .ok (.ifCond .eq 11, 3) := by decide +kernel
theorem dX7_burn_12 : decode cX7_burn 12 = .ok (.aload_n 0, 1) := by decide +kernel
theorem dX7_burn_13 : decode cX7_burn 13 = .ok (.iload_n 1, 1) := by decide +kernel
theorem dX7_burn_14 : decode cX7_burn 14 = .ok (.invokevirtual 280, 3) := by decide +kernel
theorem dX7_burn_17 : decode cX7_burn 17 = .ok (.goto 5, 3) := by decide +kernel
theorem dX7_burn_20 : decode cX7_burn 20 = .ok (.bipush (-2), 2) := by decide +kernel
theorem dX7_burn_22 : decode cX7_burn 22 = .ok (.ireturn, 1) := by decide +kernel
theorem dX7_out_0 : decode cX7_out 0 = .ok (.aload_n 0, 1) := by decide +kernel
theorem dX7_out_1 : decode cX7_out 1 = .ok (.iload_n 1, 1) := by decide +kernel
theorem dX7_out_2 : decode cX7_out 2 = .ok (.invokevirtual 123, 3) := by decide +kernel
theorem dX7_out_5 : decode cX7_out 5 = .ok (.ifCond .ne 6, 3) := by decide +kernel
theorem dX7_out_8 : decode cX7_out 8 = .ok (.bipush (-2), 2) := by decide +kernel
theorem dX7_out_10 : decode cX7_out 10 = .ok (.ireturn, 1) := by decide +kernel
theorem dX7_out_11 : decode cX7_out 11 = .ok (.aload_n 0, 1) := by decide +kernel
theorem dX7_out_12 : decode cX7_out 12 = .ok (.getfield 32, 3) := by decide +kernel
theorem dX7_out_15 : decode cX7_out 15 = .ok (.iload_n 1, 1) := by decide +kernel
theorem dX7_out_16 : decode cX7_out 16 = .ok (.iaload, 1) := by decide +kernel
theorem dX7_out_17 : decode cX7_out 17 = .ok (.ifCond .ne 7, 3) := by decide +kernel
theorem dX7_out_20 : decode cX7_out 20 = .ok (.iconst (-1), 1) := by decide +kernel
theorem dX7_out_21 : decode cX7_out 21 = .ok (.goto 27, 3) := by decide +kernel
theorem dX7_out_24 : decode cX7_out 24 = .ok (.aload_n 0, 1) := by decide +kernel
theorem dX7_out_25 : decode cX7_out 25 = .ok (.getfield 29, 3) := by decide +kernel
theorem dX7_out_28 : decode cX7_out 28 = .ok (.iload_n 1, 1) := by decide +kernel
theorem dX7_out_29 : decode cX7_out 29 = .ok (.iaload, 1) := by decide +kernel
theorem dX7_out_30 : decode cX7_out 30 = .ok (.aload_n 0, 1) := by decide +kernel
theorem dX7_out_31 : decode cX7_out 31 = .ok (.iload_n 1, 1) := by decide +kernel
theorem dX7_out_32 : decode cX7_out 32 = .ok (.aload_n 0, 1) := by decide +kernel
theorem dX7_out_33 : decode cX7_out 33 = .ok (.getfield 32, 3) := by decide +kernel
theorem dX7_out_36 : decode cX7_out 36 = .ok (.iload_n 1, 1) := by decide +kernel
theorem dX7_out_37 : decode cX7_out 37 = .ok (.iaload, 1) := by decide +kernel
theorem dX7_out_38 : decode cX7_out 38 = .ok (.aload_n 0, 1) := by decide +kernel
theorem dX7_out_39 : decode cX7_out 39 = .ok (.getfield 133, 3) := by decide +kernel
theorem dX7_out_42 : decode cX7_out 42 = .ok (.invokevirtual 145, 3) := by decide +kernel
theorem dX7_out_45 : decode cX7_out 45 = .ok (.invokestatic 283, 3) := by decide +kernel
theorem dX7_out_48 : decode cX7_out 48 = .ok (.ireturn, 1) := by decide +kernel
theorem dX7_isSome_0 : decode cX7_isSome 0 = .ok (.iload_n 1, 1) := by decide +kernel
theorem dX7_isSome_1 : decode cX7_isSome 1 = .ok (.i2l, 1) := by decide +kernel
theorem dX7_isSome_2 : decode cX7_isSome 2 = .ok (.lconst 0, 1) := by decide +kernel
theorem dX7_isSome_3 : decode cX7_isSome 3 = .ok (.iconst 1, 1) := by decide +kernel
theorem dX7_isSome_4 : decode cX7_isSome 4 = .ok (.aload_n 0, 1) := by decide +kernel
theorem dX7_isSome_5 : decode cX7_isSome 5 = .ok (.getfield 110, 3) := by decide +kernel
theorem dX7_isSome_8 : decode cX7_isSome 8 = .ok (.ishl, 1) := by decide +kernel
theorem dX7_isSome_9 : decode cX7_isSome 9 = .ok (.iconst 1, 1) := by decide +kernel
theorem dX7_isSome_10 : decode cX7_isSome 10 = .ok (.isub, 1) := by decide +kernel
theorem dX7_isSome_11 : decode cX7_isSome 11 = .ok (.i2l, 1) := by decide +kernel
theorem dX7_isSome_12 : decode cX7_isSome 12 = .ok (.invokestatic 113, 3) := by decide +kernel
theorem dX7_isSome_15 : decode cX7_isSome 15 = .ok (.ifCond .ne 5, 3) := by decide +kernel
theorem dX7_isSome_18 : decode cX7_isSome 18 = .ok (.iconst 0, 1) := by decide +kernel
theorem dX7_isSome_19 : decode cX7_isSome 19 = .ok (.ireturn, 1) := by decide +kernel
theorem dX7_isSome_20 : decode cX7_isSome 20 = .ok (.iconst 0, 1) := by decide +kernel
theorem dX7_isSome_21 : decode cX7_isSome 21 = .ok (.istore_n 2, 1) := by decide +kernel
theorem dX7_isSome_22 : decode cX7_isSome 22 = .ok (.iload_n 2, 1) := by decide +kernel
theorem dX7_isSome_23 : decode cX7_isSome 23 = .ok (.aload_n 0, 1) := by decide +kernel
theorem dX7_isSome_24 : decode cX7_isSome 24 = .ok (.getfield 110, 3) := by decide +kernel
theorem dX7_isSome_27 : decode cX7_isSome 27 = .ok (.if_icmp .ge 38, 3) := by decide +kernel
theorem dX7_isSome_30 : decode cX7_isSome 30 = .ok (.iload_n 1, 1) := by decide +kernel
theorem dX7_isSome_31 : decode cX7_isSome 31 = .ok (.iload_n 2, 1) := by decide +kernel
theorem dX7_isSome_32 : decode cX7_isSome 32 = .ok (.ishr, 1) := by decide +kernel
theorem dX7_isSome_33 : decode cX7_isSome 33 = .ok (.iconst 1, 1) := by decide +kernel
theorem dX7_isSome_34 : decode cX7_isSome 34 = .ok (.iand, 1) := by decide +kernel
theorem dX7_isSome_35 : decode cX7_isSome 35 = .ok (.iconst 1, 1) := by decide +kernel
theorem dX7_isSome_36 : decode cX7_isSome 36 = .ok (.if_icmp .ne 23, 3) := by decide +kernel
theorem dX7_isSome_39 : decode cX7_isSome 39 = .ok (.aload_n 0, 1) := by decide +kernel
theorem dX7_isSome_40 : decode cX7_isSome 40 = .ok (.getfield 29, 3) := by decide +kernel
theorem dX7_isSome_43 : decode cX7_isSome 43 = .ok (.iload_n 2, 1) := by decide +kernel
theorem dX7_isSome_44 : decode cX7_isSome 44 = .ok (.iaload, 1) := by decide +kernel
theorem dX7_isSome_45 : decode cX7_isSome 45 = .ok (.ifCond .eq 12, 3) := by decide +kernel
theorem dX7_isSome_48 : decode cX7_isSome 48 = .ok (.aload_n 0, 1) := by decide +kernel
theorem dX7_isSome_49 : decode cX7_isSome 49 = .ok (.getfield 32, 3) := by decide +kernel
theorem dX7_isSome_52 : decode cX7_isSome 52 = .ok (.iload_n 2, 1) := by decide +kernel
theorem dX7_isSome_53 : decode cX7_isSome 53 = .ok (.iaload, 1) := by decide +kernel
theorem dX7_isSome_54 : decode cX7_isSome 54 = .ok (.ifCond .le 5, 3) := by decide +kernel
theorem dX7_isSome_57 : decode cX7_isSome 57 = .ok (.iconst 0, 1) := by decide +kernel
theorem dX7_isSome_58 : decode cX7_isSome 58 = .ok (.ireturn, 1) := by decide +kernel
theorem dX7_isSome_59 : decode cX7_isSome 59 = .ok (.iinc 2 1, 3) := by decide +kernel
theorem dX7_isSome_62 : decode cX7_isSome 62 = .ok (.goto (-40), 3) := by decide +kernel
theorem dX7_isSome_65 : decode cX7_isSome 65 = .ok (.iconst 1, 1) := by decide +kernel
theorem dX7_isSome_66 : decode cX7_isSome 66 = .ok (.ireturn, 1) := by decide +kernel
theorem dX7_tells_0 : decode cX7_tells 0 = .ok (.aload_n 0, 1) := by decide +kernel
theorem dX7_tells_1 : decode cX7_tells 1 = .ok (.iload_n 1, 1) := by decide +kernel
theorem dX7_tells_2 : decode cX7_tells 2 = .ok (.putfield 286, 3) := by decide +kernel
theorem dX7_tells_5 : decode cX7_tells 5 = .ok (.aload_n 0, 1) := by decide +kernel
theorem dX7_tells_6 : decode cX7_tells 6 = .ok (.iload_n 2, 1) := by decide +kernel
theorem dX7_tells_7 : decode cX7_tells 7 = .ok (.putfield 289, 3) := by decide +kernel
theorem dX7_tells_10 : decode cX7_tells 10 = .ok (.aload_n 0, 1) := by decide +kernel
theorem dX7_tells_11 : decode cX7_tells 11 = .ok (.iload_n 3, 1) := by decide +kernel
theorem dX7_tells_12 : decode cX7_tells 12 = .ok (.putfield 292, 3) := by decide +kernel
theorem dX7_tells_15 : decode cX7_tells 15 = .ok (.aload_n 0, 1) := by decide +kernel
theorem dX7_tells_16 : decode cX7_tells 16 = .ok (.iload 4, 2) := by decide +kernel
theorem dX7_tells_18 : decode cX7_tells 18 = .ok (.putfield 295, 3) := by decide +kernel
theorem dX7_tells_21 : decode cX7_tells 21 = .ok (.aload_n 0, 1) := by decide +kernel
theorem dX7_tells_22 : decode cX7_tells 22 = .ok (.iconst 0, 1) := by decide +kernel
theorem dX7_tells_23 : decode cX7_tells 23 = .ok (.putfield 298, 3) := by decide +kernel
theorem dX7_tells_26 : decode cX7_tells 26 = .ok (.iconst 0, 1) := by decide +kernel
theorem dX7_tells_27 : decode cX7_tells 27 = .ok (.istore 5, 2) := by decide +kernel
theorem dX7_tells_29 : decode cX7_tells 29 = .ok (.iload 5, 2) := by decide +kernel
theorem dX7_tells_31 : decode cX7_tells 31 = .ok (.sipush 400, 3) := by decide +kernel
theorem dX7_tells_34 : decode cX7_tells 34 = .ok (.if_icmp .gt 17, 3) := by decide +kernel
theorem dX7_tells_37 : decode cX7_tells 37 = .ok (.aload_n 0, 1) := by decide +kernel
theorem dX7_tells_38 : decode cX7_tells 38 = .ok (.getfield 53, 3) := by decide +kernel
theorem dX7_tells_41 : decode cX7_tells 41 = .ok (.iload 5, 2) := by decide +kernel
theorem dX7_tells_43 : decode cX7_tells 43 = .ok (.iconst 0, 1) := by decide +kernel
theorem dX7_tells_44 : decode cX7_tells 44 = .ok (.iastore, 1) := by decide +kernel
theorem dX7_tells_45 : decode cX7_tells 45 = .ok (.iinc 5 1, 3) := by decide +kernel
theorem dX7_tells_48 : decode cX7_tells 48 = .ok (.goto (-19), 3) := by decide +kernel
theorem dX7_tells_51 : decode cX7_tells 51 = .ok (.iconst 0, 1) := by decide +kernel
theorem dX7_tells_52 : decode cX7_tells 52 = .ok (.istore 5, 2) := by decide +kernel
theorem dX7_tells_54 : decode cX7_tells 54 = .ok (.iload 5, 2) := by decide +kernel
theorem dX7_tells_56 : decode cX7_tells 56 = .ok (.ldc 65, 2) := by decide +kernel
theorem dX7_tells_58 : decode cX7_tells 58 = .ok (.if_icmp .ge 21, 3) := by decide +kernel
theorem dX7_tells_61 : decode cX7_tells 61 = .ok (.iload_n 3, 1) := by decide +kernel
theorem dX7_tells_62 : decode cX7_tells 62 = .ok (.ifCond .eq 17, 3) := by decide +kernel
theorem dX7_tells_65 : decode cX7_tells 65 = .ok (.aload_n 0, 1) := by decide +kernel
theorem dX7_tells_66 : decode cX7_tells 66 = .ok (.getfield 66, 3) := by decide +kernel
theorem dX7_tells_69 : decode cX7_tells 69 = .ok (.iload 5, 2) := by decide +kernel
theorem dX7_tells_71 : decode cX7_tells 71 = .ok (.iconst (-1), 1) := by decide +kernel
theorem dX7_tells_72 : decode cX7_tells 72 = .ok (.iastore, 1) := by decide +kernel
theorem dX7_tells_73 : decode cX7_tells 73 = .ok (.iinc 5 1, 3) := by decide +kernel
theorem dX7_tells_76 : decode cX7_tells 76 = .ok (.goto (-22), 3) := by decide +kernel
theorem dX7_tells_79 : decode cX7_tells 79 = .ok (.iconst 0, 1) := by decide +kernel
theorem dX7_tells_80 : decode cX7_tells 80 = .ok (.istore 5, 2) := by decide +kernel
theorem dX7_tells_82 : decode cX7_tells 82 = .ok (.iload 5, 2) := by decide +kernel
theorem dX7_tells_84 : decode cX7_tells 84 = .ok (.iconst 4, 1) := by decide +kernel
theorem dX7_tells_85 : decode cX7_tells 85 = .ok (.if_icmp .ge 54, 3) := by decide +kernel
theorem dX7_tells_88 : decode cX7_tells 88 = .ok (.aload_n 0, 1) := by decide +kernel
theorem dX7_tells_89 : decode cX7_tells 89 = .ok (.getfield 38, 3) := by decide +kernel
theorem dX7_tells_92 : decode cX7_tells 92 = .ok (.iload 5, 2) := by decide +kernel
theorem dX7_tells_94 : decode cX7_tells 94 = .ok (.iload 5, 2) := by decide +kernel
theorem dX7_tells_96 : decode cX7_tells 96 = .ok (.aload_n 0, 1) := by decide +kernel
theorem dX7_tells_97 : decode cX7_tells 97 = .ok (.getfield 110, 3) := by decide +kernel
theorem dX7_tells_100 : decode cX7_tells 100 = .ok (.if_icmp .ge 23, 3) := by decide +kernel
theorem dX7_tells_103 : decode cX7_tells 103 = .ok (.iload_n 1, 1) := by decide +kernel
theorem dX7_tells_104 : decode cX7_tells 104 = .ok (.iload 5, 2) := by decide +kernel
theorem dX7_tells_106 : decode cX7_tells 106 = .ok (.ishr, 1) := by decide +kernel
theorem dX7_tells_107 : decode cX7_tells 107 = .ok (.iconst 1, 1) := by decide +kernel
theorem dX7_tells_108 : decode cX7_tells 108 = .ok (.iand, 1) := by decide +kernel
theorem dX7_tells_109 : decode cX7_tells 109 = .ok (.iconst 1, 1) := by decide +kernel
theorem dX7_tells_110 : decode cX7_tells 110 = .ok (.if_icmp .ne 13, 3) := by decide +kernel
theorem dX7_tells_113 : decode cX7_tells 113 = .ok (.aload_n 0, 1) := by decide +kernel
theorem dX7_tells_114 : decode cX7_tells 114 = .ok (.getfield 29, 3) := by decide +kernel
theorem dX7_tells_117 : decode cX7_tells 117 = .ok (.iload 5, 2) := by decide +kernel
theorem dX7_tells_119 : decode cX7_tells 119 = .ok (.iaload, 1) := by decide +kernel
theorem dX7_tells_120 : decode cX7_tells 120 = .ok (.goto 4, 3) := by decide +kernel
theorem dX7_tells_123 : decode cX7_tells 123 = .ok (.iconst 0, 1) := by decide +kernel
theorem dX7_tells_124 : decode cX7_tells 124 = .ok (.iastore, 1) := by decide +kernel
theorem dX7_tells_125 : decode cX7_tells 125 = .ok (.aload_n 0, 1) := by decide +kernel
theorem dX7_tells_126 : decode cX7_tells 126 = .ok (.getfield 41, 3) := by decide +kernel
theorem dX7_tells_129 : decode cX7_tells 129 = .ok (.iload 5, 2) := by decide +kernel
theorem dX7_tells_131 : decode cX7_tells 131 = .ok (.iconst 0, 1) := by decide +kernel
theorem dX7_tells_132 : decode cX7_tells 132 = .ok (.iastore, 1) := by decide +kernel
theorem dX7_tells_133 : decode cX7_tells 133 = .ok (.iinc 5 1, 3) := by decide +kernel
theorem dX7_tells_136 : decode cX7_tells 136 = .ok (.goto (-54), 3) := by decide +kernel
theorem dX7_tells_139 : decode cX7_tells 139 = .ok (.aload_n 0, 1) := by decide +kernel
theorem dX7_tells_140 : decode cX7_tells 140 = .ok (.getfield 44, 3) := by decide +kernel
theorem dX7_tells_143 : decode cX7_tells 143 = .ok (.iconst 0, 1) := by decide +kernel
theorem dX7_tells_144 : decode cX7_tells 144 = .ok (.iconst 0, 1) := by decide +kernel
theorem dX7_tells_145 : decode cX7_tells 145 = .ok (.iastore, 1) := by decide +kernel
theorem dX7_tells_146 : decode cX7_tells 146 = .ok (.aload_n 0, 1) := by decide +kernel
theorem dX7_tells_147 : decode cX7_tells 147 = .ok (.getfield 47, 3) := by decide +kernel
theorem dX7_tells_150 : decode cX7_tells 150 = .ok (.iconst 0, 1) := by decide +kernel
theorem dX7_tells_151 : decode cX7_tells 151 = .ok (.iconst 0, 1) := by decide +kernel
theorem dX7_tells_152 : decode cX7_tells 152 = .ok (.iastore, 1) := by decide +kernel
theorem dX7_tells_153 : decode cX7_tells 153 = .ok (.aload_n 0, 1) := by decide +kernel
theorem dX7_tells_154 : decode cX7_tells 154 = .ok (.getfield 50, 3) := by decide +kernel
theorem dX7_tells_157 : decode cX7_tells 157 = .ok (.iconst 0, 1) := by decide +kernel
theorem dX7_tells_158 : decode cX7_tells 158 = .ok (.iconst 0, 1) := by decide +kernel
theorem dX7_tells_159 : decode cX7_tells 159 = .ok (.iastore, 1) := by decide +kernel
theorem dX7_tells_160 : decode cX7_tells 160 = .ok (.aload_n 0, 1) := by decide +kernel
theorem dX7_tells_161 : decode cX7_tells 161 = .ok (.iconst 0, 1) := by decide +kernel
theorem dX7_tells_162 : decode cX7_tells 162 = .ok (.putfield 301, 3) := by decide +kernel
theorem dX7_tells_165 : decode cX7_tells 165 = .ok (.aload_n 0, 1) := by decide +kernel
theorem dX7_tells_166 : decode cX7_tells 166 = .ok (.iconst 0, 1) := by decide +kernel
theorem dX7_tells_167 : decode cX7_tells 167 = .ok (.iconst 0, 1) := by decide +kernel
theorem dX7_tells_168 : decode cX7_tells 168 = .ok (.invokevirtual 304, 3) := by decide +kernel
theorem dX7_tells_171 : decode cX7_tells 171 = .ok (.return_, 1) := by decide +kernel
theorem dX7_costOf_0 : decode cX7_costOf 0 = .ok (.iload_n 1, 1) := by decide +kernel
theorem dX7_costOf_1 : decode cX7_costOf 1 = .ok (.iconst 2, 1) := by decide +kernel
theorem dX7_costOf_2 : decode cX7_costOf 2 = .ok (.imul, 1) := by decide +kernel
theorem dX7_costOf_3 : decode cX7_costOf 3 = .ok (.iload_n 2, 1) := by decide +kernel
theorem dX7_costOf_4 : decode cX7_costOf 4 = .ok (.iadd, 1) := by decide +kernel
theorem dX7_costOf_5 : decode cX7_costOf 5 = .ok (.bipush 100, 2) := by decide +kernel
theorem dX7_costOf_7 : decode cX7_costOf 7 = .ok (.imul, 1) := by decide +kernel
theorem dX7_costOf_8 : decode cX7_costOf 8 = .ok (.iload_n 3, 1) := by decide +kernel
theorem dX7_costOf_9 : decode cX7_costOf 9 = .ok (.iadd, 1) := by decide +kernel
theorem dX7_costOf_10 : decode cX7_costOf 10 = .ok (.sipush 402, 3) := by decide +kernel
theorem dX7_costOf_13 : decode cX7_costOf 13 = .ok (.imul, 1) := by decide +kernel
theorem dX7_costOf_14 : decode cX7_costOf 14 = .ok (.iload 4, 2) := by decide +kernel
theorem dX7_costOf_16 : decode cX7_costOf 16 = .ok (.iadd, 1) := by decide +kernel
theorem dX7_costOf_17 : decode cX7_costOf 17 = .ok (.istore 5, 2) := by decide +kernel
theorem dX7_costOf_19 : decode cX7_costOf 19 = .ok (.aload_n 0, 1) := by decide +kernel
theorem dX7_costOf_20 : decode cX7_costOf 20 = .ok (.getfield 66, 3) := by decide +kernel
theorem dX7_costOf_23 : decode cX7_costOf 23 = .ok (.iload 5, 2) := by decide +kernel
theorem dX7_costOf_25 : decode cX7_costOf 25 = .ok (.iaload, 1) := by decide +kernel
theorem dX7_costOf_26 : decode cX7_costOf 26 = .ok (.iconst (-1), 1) := by decide +kernel
theorem dX7_costOf_27 : decode cX7_costOf 27 = .ok (.if_icmp .ne 42, 3) := by decide +kernel
theorem dX7_costOf_30 : decode cX7_costOf 30 = .ok (.aload_n 0, 1) := by decide +kernel
theorem dX7_costOf_31 : decode cX7_costOf 31 = .ok (.getfield 66, 3) := by decide +kernel
theorem dX7_costOf_34 : decode cX7_costOf 34 = .ok (.iload 5, 2) := by decide +kernel
theorem dX7_costOf_36 : decode cX7_costOf 36 = .ok (.aload_n 0, 1) := by decide +kernel
theorem dX7_costOf_37 : decode cX7_costOf 37 = .ok (.iconst 0, 1) := by decide +kernel
theorem dX7_costOf_38 : decode cX7_costOf 38 = .ok (.iload_n 3, 1) := by decide +kernel
theorem dX7_costOf_39 : decode cX7_costOf 39 = .ok (.iload_n 2, 1) := by decide +kernel
theorem dX7_costOf_40 : decode cX7_costOf 40 = .ok (.aload_n 0, 1) := by decide +kernel
theorem dX7_costOf_41 : decode cX7_costOf 41 = .ok (.getfield 35, 3) := by decide +kernel
theorem dX7_costOf_44 : decode cX7_costOf 44 = .ok (.iload_n 1, 1) := by decide +kernel
theorem dX7_costOf_45 : decode cX7_costOf 45 = .ok (.iaload, 1) := by decide +kernel
theorem dX7_costOf_46 : decode cX7_costOf 46 = .ok (.aload_n 0, 1) := by decide +kernel
theorem dX7_costOf_47 : decode cX7_costOf 47 = .ok (.getfield 29, 3) := by decide +kernel
theorem dX7_costOf_50 : decode cX7_costOf 50 = .ok (.iload_n 1, 1) := by decide +kernel
theorem dX7_costOf_51 : decode cX7_costOf 51 = .ok (.iaload, 1) := by decide +kernel
theorem dX7_costOf_52 : decode cX7_costOf 52 = .ok (.iadd, 1) := by decide +kernel
theorem dX7_costOf_53 : decode cX7_costOf 53 = .ok (.iload_n 3, 1) := by decide +kernel
theorem dX7_costOf_54 : decode cX7_costOf 54 = .ok (.isub, 1) := by decide +kernel
theorem dX7_costOf_55 : decode cX7_costOf 55 = .ok (.iconst 0, 1) := by decide +kernel
theorem dX7_costOf_56 : decode cX7_costOf 56 = .ok (.sipush 999, 3) := by decide +kernel
theorem dX7_costOf_59 : decode cX7_costOf 59 = .ok (.invokestatic 272, 3) := by decide +kernel
theorem dX7_costOf_62 : decode cX7_costOf 62 = .ok (.iload_n 1, 1) := by decide +kernel
theorem dX7_costOf_63 : decode cX7_costOf 63 = .ok (.iload 4, 2) := by decide +kernel
theorem dX7_costOf_65 : decode cX7_costOf 65 = .ok (.invokevirtual 308, 3) := by decide +kernel
theorem dX7_costOf_68 : decode cX7_costOf 68 = .ok (.iastore, 1) := by decide +kernel
theorem dX7_costOf_69 : decode cX7_costOf 69 = .ok (.aload_n 0, 1) := by decide +kernel
theorem dX7_costOf_70 : decode cX7_costOf 70 = .ok (.getfield 66, 3) := by decide +kernel
theorem dX7_costOf_73 : decode cX7_costOf 73 = .ok (.iload 5, 2) := by decide +kernel
theorem dX7_costOf_75 : decode cX7_costOf 75 = .ok (.iaload, 1) := by decide +kernel
theorem dX7_costOf_76 : decode cX7_costOf 76 = .ok (.ireturn, 1) := by decide +kernel
theorem dX7_lights_0 : decode cX7_lights 0 = .ok (.iload_n 2, 1) := by decide +kernel
theorem dX7_lights_1 : decode cX7_lights 1 = .ok (.aload_n 0, 1) := by decide +kernel
theorem dX7_lights_2 : decode cX7_lights 2 = .ok (.getfield 110, 3) := by decide +kernel
theorem dX7_lights_5 : decode cX7_lights 5 = .ok (.if_icmp .ne 9, 3) := by decide +kernel
theorem dX7_lights_8 : decode cX7_lights 8 = .ok (.aload_n 0, 1) := by decide +kernel
theorem dX7_lights_9 : decode cX7_lights 9 = .ok (.iload_n 1, 1) := by decide +kernel
theorem dX7_lights_10 : decode cX7_lights 10 = .ok (.invokevirtual 312, 3) := by decide +kernel
theorem dX7_lights_13 : decode cX7_lights 13 = .ok (.return_, 1) := by decide +kernel
theorem dX7_lights_14 : decode cX7_lights 14 = .ok (.iconst 4, 1) := by decide +kernel
theorem dX7_lights_15 : decode cX7_lights 15 = .ok (.iload_n 1, 1) := by decide +kernel
theorem dX7_lights_16 : decode cX7_lights 16 = .ok (.imul, 1) := by decide +kernel
theorem dX7_lights_17 : decode cX7_lights 17 = .ok (.iload_n 2, 1) := by decide +kernel
theorem dX7_lights_18 : decode cX7_lights 18 = .ok (.iadd, 1) := by decide +kernel
theorem dX7_lights_19 : decode cX7_lights 19 = .ok (.istore_n 3, 1) := by decide +kernel
theorem dX7_lights_20 : decode cX7_lights 20 = .ok (.aload_n 0, 1) := by decide +kernel
theorem dX7_lights_21 : decode cX7_lights 21 = .ok (.getfield 41, 3) := by decide +kernel
theorem dX7_lights_24 : decode cX7_lights 24 = .ok (.iload_n 3, 1) := by decide +kernel
theorem dX7_lights_25 : decode cX7_lights 25 = .ok (.iaload, 1) := by decide +kernel
theorem dX7_lights_26 : decode cX7_lights 26 = .ok (.istore 4, 2) := by decide +kernel
theorem dX7_lights_28 : decode cX7_lights 28 = .ok (.aload_n 0, 1) := by decide +kernel
theorem dX7_lights_29 : decode cX7_lights 29 = .ok (.getfield 50, 3) := by decide +kernel
theorem dX7_lights_32 : decode cX7_lights 32 = .ok (.iload_n 1, 1) := by decide +kernel
theorem dX7_lights_33 : decode cX7_lights 33 = .ok (.iaload, 1) := by decide +kernel
theorem dX7_lights_34 : decode cX7_lights 34 = .ok (.istore 5, 2) := by decide +kernel
theorem dX7_lights_36 : decode cX7_lights 36 = .ok (.aload_n 0, 1) := by decide +kernel
theorem dX7_lights_37 : decode cX7_lights 37 = .ok (.getfield 47, 3) := by decide +kernel
theorem dX7_lights_40 : decode cX7_lights 40 = .ok (.iload_n 1, 1) := by decide +kernel
theorem dX7_lights_41 : decode cX7_lights 41 = .ok (.iaload, 1) := by decide +kernel
theorem dX7_lights_42 : decode cX7_lights 42 = .ok (.istore 6, 2) := by decide +kernel
theorem dX7_lights_44 : decode cX7_lights 44 = .ok (.aload_n 0, 1) := by decide +kernel
theorem dX7_lights_45 : decode cX7_lights 45 = .ok (.getfield 301, 3) := by decide +kernel
theorem dX7_lights_48 : decode cX7_lights 48 = .ok (.istore 7, 2) := by decide +kernel
theorem dX7_lights_50 : decode cX7_lights 50 = .ok (.aload_n 0, 1) := by decide +kernel
theorem dX7_lights_51 : decode cX7_lights 51 = .ok (.getfield 38, 3) := by decide +kernel
theorem dX7_lights_54 : decode cX7_lights 54 = .ok (.iload_n 3, 1) := by decide +kernel
theorem dX7_lights_55 : decode cX7_lights 55 = .ok (.iaload, 1) := by decide +kernel
theorem dX7_lights_56 : decode cX7_lights 56 = .ok (.ifCond .le 10, 3) := by decide +kernel
theorem dX7_lights_59 : decode cX7_lights 59 = .ok (.iconst 2, 1) := by decide +kernel
theorem dX7_lights_60 : decode cX7_lights 60 = .ok (.iload 4, 2) := by decide +kernel
theorem dX7_lights_62 : decode cX7_lights 62 = .ok (.isub, 1) := by decide +kernel
theorem dX7_lights_63 : decode cX7_lights 63 = .ok (.goto 4, 3) := by decide +kernel
theorem dX7_lights_66 : decode cX7_lights 66 = .ok (.iconst 0, 1) := by decide +kernel
theorem dX7_lights_67 : decode cX7_lights 67 = .ok (.istore 8, 2) := by decide +kernel
theorem dX7_lights_69 : decode cX7_lights 69 = .ok (.iconst 0, 1) := by decide +kernel
theorem dX7_lights_70 : decode cX7_lights 70 = .ok (.istore 9, 2) := by decide +kernel
theorem dX7_lights_72 : decode cX7_lights 72 = .ok (.iload 9, 2) := by decide +kernel
theorem dX7_lights_74 : decode cX7_lights 74 = .ok (.iload 8, 2) := by decide +kernel
theorem dX7_lights_76 : decode cX7_lights 76 = .ok (.if_icmp .gt 105, 3) := by decide +kernel
theorem dX7_lights_79 : decode cX7_lights 79 = .ok (.iload 9, 2) := by decide +kernel
theorem dX7_lights_81 : decode cX7_lights 81 = .ok (.ifCond .le 43, 3) := by decide +kernel
theorem dX7_lights_84 : decode cX7_lights 84 = .ok (.aload_n 0, 1) := by decide +kernel
theorem dX7_lights_85 : decode cX7_lights 85 = .ok (.getfield 292, 3) := by decide +kernel
theorem dX7_lights_88 : decode cX7_lights 88 = .ok (.ifCond .eq 36, 3) := by decide +kernel
theorem dX7_lights_91 : decode cX7_lights 91 = .ok (.aload_n 0, 1) := by decide +kernel
theorem dX7_lights_92 : decode cX7_lights 92 = .ok (.getfield 50, 3) := by decide +kernel
theorem dX7_lights_95 : decode cX7_lights 95 = .ok (.iload_n 1, 1) := by decide +kernel
theorem dX7_lights_96 : decode cX7_lights 96 = .ok (.dup2, 1) := by decide +kernel
theorem dX7_lights_97 : decode cX7_lights 97 = .ok (.iaload, 1) := by decide +kernel
theorem dX7_lights_98 : decode cX7_lights 98 = .ok (.aload_n 0, 1) := by decide +kernel
theorem dX7_lights_99 : decode cX7_lights 99 = .ok (.iload_n 2, 1) := by decide +kernel
theorem dX7_lights_100 : decode cX7_lights 100 = .ok (.iload 4, 2) := by decide +kernel
theorem dX7_lights_102 : decode cX7_lights 102 = .ok (.iload 9, 2) := by decide +kernel
theorem dX7_lights_104 : decode cX7_lights 104 = .ok (.iadd, 1) := by decide +kernel
theorem dX7_lights_105 : decode cX7_lights 105 = .ok (.iconst 1, 1) := by decide +kernel
theorem dX7_lights_106 : decode cX7_lights 106 = .ok (.isub, 1) := by decide +kernel
theorem dX7_lights_107 : decode cX7_lights 107 = .ok (.aload_n 0, 1) := by decide +kernel
theorem dX7_lights_108 : decode cX7_lights 108 = .ok (.getfield 38, 3) := by decide +kernel
theorem dX7_lights_111 : decode cX7_lights 111 = .ok (.iload_n 3, 1) := by decide +kernel
theorem dX7_lights_112 : decode cX7_lights 112 = .ok (.iaload, 1) := by decide +kernel
theorem dX7_lights_113 : decode cX7_lights 113 = .ok (.aload_n 0, 1) := by decide +kernel
theorem dX7_lights_114 : decode cX7_lights 114 = .ok (.getfield 44, 3) := by decide +kernel
theorem dX7_lights_117 : decode cX7_lights 117 = .ok (.iload_n 1, 1) := by decide +kernel
theorem dX7_lights_118 : decode cX7_lights 118 = .ok (.iaload, 1) := by decide +kernel
theorem dX7_lights_119 : decode cX7_lights 119 = .ok (.invokevirtual 316, 3) := by decide +kernel
theorem dX7_lights_122 : decode cX7_lights 122 = .ok (.iadd, 1) := by decide +kernel
theorem dX7_lights_123 : decode cX7_lights 123 = .ok (.iastore, 1) := by decide +kernel
theorem dX7_lights_124 : decode cX7_lights 124 = .ok (.aload_n 0, 1) := by decide +kernel
theorem dX7_lights_125 : decode cX7_lights 125 = .ok (.getfield 41, 3) := by decide +kernel
theorem dX7_lights_128 : decode cX7_lights 128 = .ok (.iload_n 3, 1) := by decide +kernel
theorem dX7_lights_129 : decode cX7_lights 129 = .ok (.iload 4, 2) := by decide +kernel
theorem dX7_lights_131 : decode cX7_lights 131 = .ok (.iload 9, 2) := by decide +kernel
theorem dX7_lights_133 : decode cX7_lights 133 = .ok (.iadd, 1) := by decide +kernel
theorem dX7_lights_134 : decode cX7_lights 134 = .ok (.iastore, 1) := by decide +kernel
theorem dX7_lights_135 : decode cX7_lights 135 = .ok (.aload_n 0, 1) := by decide +kernel
theorem dX7_lights_136 : decode cX7_lights 136 = .ok (.getfield 47, 3) := by decide +kernel
theorem dX7_lights_139 : decode cX7_lights 139 = .ok (.iload_n 1, 1) := by decide +kernel
theorem dX7_lights_140 : decode cX7_lights 140 = .ok (.iload 6, 2) := by decide +kernel
theorem dX7_lights_142 : decode cX7_lights 142 = .ok (.iload 9, 2) := by decide +kernel
theorem dX7_lights_144 : decode cX7_lights 144 = .ok (.iadd, 1) := by decide +kernel
theorem dX7_lights_145 : decode cX7_lights 145 = .ok (.iastore, 1) := by decide +kernel
theorem dX7_lights_146 : decode cX7_lights 146 = .ok (.aload_n 0, 1) := by decide +kernel
theorem dX7_lights_147 : decode cX7_lights 147 = .ok (.iload_n 1, 1) := by decide +kernel
theorem dX7_lights_148 : decode cX7_lights 148 = .ok (.ifCond .ne 14, 3) := by decide +kernel
theorem dX7_lights_151 : decode cX7_lights 151 = .ok (.bipush 10, 2) := by decide +kernel
theorem dX7_lights_153 : decode cX7_lights 153 = .ok (.iload 7, 2) := by decide +kernel
theorem dX7_lights_155 : decode cX7_lights 155 = .ok (.imul, 1) := by decide +kernel
theorem dX7_lights_156 : decode cX7_lights 156 = .ok (.iload 9, 2) := by decide +kernel
theorem dX7_lights_158 : decode cX7_lights 158 = .ok (.iadd, 1) := by decide +kernel
theorem dX7_lights_159 : decode cX7_lights 159 = .ok (.goto 5, 3) := by decide +kernel
theorem dX7_lights_162 : decode cX7_lights 162 = .ok (.iload 7, 2) := by decide +kernel
theorem dX7_lights_164 : decode cX7_lights 164 = .ok (.putfield 301, 3) := by decide +kernel
theorem dX7_lights_167 : decode cX7_lights 167 = .ok (.aload_n 0, 1) := by decide +kernel
theorem dX7_lights_168 : decode cX7_lights 168 = .ok (.iload_n 1, 1) := by decide +kernel
theorem dX7_lights_169 : decode cX7_lights 169 = .ok (.iload_n 2, 1) := by decide +kernel
theorem dX7_lights_170 : decode cX7_lights 170 = .ok (.iconst 1, 1) := by decide +kernel
theorem dX7_lights_171 : decode cX7_lights 171 = .ok (.iadd, 1) := by decide +kernel
theorem dX7_lights_172 : decode cX7_lights 172 = .ok (.invokevirtual 304, 3) := by decide +kernel
theorem dX7_lights_175 : decode cX7_lights 175 = .ok (.iinc 9 1, 3) := by decide +kernel
theorem dX7_lights_178 : decode cX7_lights 178 = .ok (.goto (-106), 3) := by decide +kernel
theorem dX7_lights_181 : decode cX7_lights 181 = .ok (.aload_n 0, 1) := by decide +kernel
theorem dX7_lights_182 : decode cX7_lights 182 = .ok (.getfield 41, 3) := by decide +kernel
theorem dX7_lights_185 : decode cX7_lights 185 = .ok (.iload_n 3, 1) := by decide +kernel
theorem dX7_lights_186 : decode cX7_lights 186 = .ok (.iload 4, 2) := by decide +kernel
theorem dX7_lights_188 : decode cX7_lights 188 = .ok (.iastore, 1) := by decide +kernel
theorem dX7_lights_189 : decode cX7_lights 189 = .ok (.aload_n 0, 1) := by decide +kernel
theorem dX7_lights_190 : decode cX7_lights 190 = .ok (.getfield 50, 3) := by decide +kernel
theorem dX7_lights_193 : decode cX7_lights 193 = .ok (.iload_n 1, 1) := by decide +kernel
theorem dX7_lights_194 : decode cX7_lights 194 = .ok (.iload 5, 2) := by decide +kernel
theorem dX7_lights_196 : decode cX7_lights 196 = .ok (.iastore, 1) := by decide +kernel
theorem dX7_lights_197 : decode cX7_lights 197 = .ok (.aload_n 0, 1) := by decide +kernel
theorem dX7_lights_198 : decode cX7_lights 198 = .ok (.getfield 47, 3) := by decide +kernel
theorem dX7_lights_201 : decode cX7_lights 201 = .ok (.iload_n 1, 1) := by decide +kernel
theorem dX7_lights_202 : decode cX7_lights 202 = .ok (.iload 6, 2) := by decide +kernel
theorem dX7_lights_204 : decode cX7_lights 204 = .ok (.iastore, 1) := by decide +kernel
theorem dX7_lights_205 : decode cX7_lights 205 = .ok (.aload_n 0, 1) := by decide +kernel
theorem dX7_lights_206 : decode cX7_lights 206 = .ok (.iload 7, 2) := by decide +kernel
theorem dX7_lights_208 : decode cX7_lights 208 = .ok (.putfield 301, 3) := by decide +kernel
theorem dX7_lights_211 : decode cX7_lights 211 = .ok (.return_, 1) := by decide +kernel
theorem dX7_burnsOn_0 : decode cX7_burnsOn 0 = .ok (.iconst (-1), 1) := by decide +kernel
theorem dX7_burnsOn_1 : decode cX7_burnsOn 1 = .ok (.istore_n 2, 1) := by decide +kernel
theorem dX7_burnsOn_2 : decode cX7_burnsOn 2 = .ok (.iconst 0, 1) := by decide +kernel
theorem dX7_burnsOn_3 : decode cX7_burnsOn 3 = .ok (.istore_n 3, 1) := by decide +kernel
theorem dX7_burnsOn_4 : decode cX7_burnsOn 4 = .ok (.iload_n 3, 1) := by decide +kernel
theorem dX7_burnsOn_5 : decode cX7_burnsOn 5 = .ok (.aload_n 0, 1) := by decide +kernel
theorem dX7_burnsOn_6 : decode cX7_burnsOn 6 = .ok (.getfield 110, 3) := by decide +kernel
theorem dX7_burnsOn_9 : decode cX7_burnsOn 9 = .ok (.if_icmp .ge 72, 3) := by decide +kernel
theorem dX7_burnsOn_12 : decode cX7_burnsOn 12 = .ok (.iconst 4, 1) := by decide +kernel
theorem dX7_burnsOn_13 : decode cX7_burnsOn 13 = .ok (.iload_n 1, 1) := by decide +kernel
theorem dX7_burnsOn_14 : decode cX7_burnsOn 14 = .ok (.imul, 1) := by decide +kernel
theorem dX7_burnsOn_15 : decode cX7_burnsOn 15 = .ok (.iload_n 3, 1) := by decide +kernel
theorem dX7_burnsOn_16 : decode cX7_burnsOn 16 = .ok (.iadd, 1) := by decide +kernel
theorem dX7_burnsOn_17 : decode cX7_burnsOn 17 = .ok (.istore 4, 2) := by decide +kernel
theorem dX7_burnsOn_19 : decode cX7_burnsOn 19 = .ok (.aload_n 0, 1) := by decide +kernel
theorem dX7_burnsOn_20 : decode cX7_burnsOn 20 = .ok (.getfield 41, 3) := by decide +kernel
theorem dX7_burnsOn_23 : decode cX7_burnsOn 23 = .ok (.iload 4, 2) := by decide +kernel
theorem dX7_burnsOn_25 : decode cX7_burnsOn 25 = .ok (.iaload, 1) := by decide +kernel
theorem dX7_burnsOn_26 : decode cX7_burnsOn 26 = .ok (.ifCond .le 49, 3) := by decide +kernel
theorem dX7_burnsOn_29 : decode cX7_burnsOn 29 = .ok (.aload_n 0, 1) := by decide +kernel
theorem dX7_burnsOn_30 : decode cX7_burnsOn 30 = .ok (.getfield 38, 3) := by decide +kernel
theorem dX7_burnsOn_33 : decode cX7_burnsOn 33 = .ok (.iload 4, 2) := by decide +kernel
theorem dX7_burnsOn_35 : decode cX7_burnsOn 35 = .ok (.iaload, 1) := by decide +kernel
theorem dX7_burnsOn_36 : decode cX7_burnsOn 36 = .ok (.aload_n 0, 1) := by decide +kernel
theorem dX7_burnsOn_37 : decode cX7_burnsOn 37 = .ok (.iload_n 3, 1) := by decide +kernel
theorem dX7_burnsOn_38 : decode cX7_burnsOn 38 = .ok (.aload_n 0, 1) := by decide +kernel
theorem dX7_burnsOn_39 : decode cX7_burnsOn 39 = .ok (.getfield 41, 3) := by decide +kernel
theorem dX7_burnsOn_42 : decode cX7_burnsOn 42 = .ok (.iload 4, 2) := by decide +kernel
theorem dX7_burnsOn_44 : decode cX7_burnsOn 44 = .ok (.iaload, 1) := by decide +kernel
theorem dX7_burnsOn_45 : decode cX7_burnsOn 45 = .ok (.aload_n 0, 1) := by decide +kernel
theorem dX7_burnsOn_46 : decode cX7_burnsOn 46 = .ok (.getfield 289, 3) := by decide +kernel
theorem dX7_burnsOn_49 : decode cX7_burnsOn 49 = .ok (.invokevirtual 145, 3) := by decide +kernel
theorem dX7_burnsOn_52 : decode cX7_burnsOn 52 = .ok (.invokestatic 283, 3) := by decide +kernel
theorem dX7_burnsOn_55 : decode cX7_burnsOn 55 = .ok (.istore 5, 2) := by decide +kernel
theorem dX7_burnsOn_57 : decode cX7_burnsOn 57 = .ok (.iload_n 2, 1) := by decide +kernel
theorem dX7_burnsOn_58 : decode cX7_burnsOn 58 = .ok (.iconst (-1), 1) := by decide +kernel
theorem dX7_burnsOn_59 : decode cX7_burnsOn 59 = .ok (.if_icmp .eq 9, 3) := by decide +kernel
theorem dX7_burnsOn_62 : decode cX7_burnsOn 62 = .ok (.iload 5, 2) := by decide +kernel
theorem dX7_burnsOn_64 : decode cX7_burnsOn 64 = .ok (.iload_n 2, 1) := by decide +kernel
theorem dX7_burnsOn_65 : decode cX7_burnsOn 65 = .ok (.if_icmp .ge 8, 3) := by decide +kernel
theorem dX7_burnsOn_68 : decode cX7_burnsOn 68 = .ok (.iload 5, 2) := by decide +kernel
theorem dX7_burnsOn_70 : decode cX7_burnsOn 70 = .ok (.goto 4, 3) := by decide +kernel
theorem dX7_burnsOn_73 : decode cX7_burnsOn 73 = .ok (.iload_n 2, 1) := by decide +kernel
theorem dX7_burnsOn_74 : decode cX7_burnsOn 74 = .ok (.istore_n 2, 1) := by decide +kernel
theorem dX7_burnsOn_75 : decode cX7_burnsOn 75 = .ok (.iinc 3 1, 3) := by decide +kernel
theorem dX7_burnsOn_78 : decode cX7_burnsOn 78 = .ok (.goto (-74), 3) := by decide +kernel
theorem dX7_burnsOn_81 : decode cX7_burnsOn 81 = .ok (.iload_n 2, 1) := by decide +kernel
theorem dX7_burnsOn_82 : decode cX7_burnsOn 82 = .ok (.iconst (-1), 1) := by decide +kernel
theorem dX7_burnsOn_83 : decode cX7_burnsOn 83 = .ok (.if_icmp .ne 4, 3) := by decide +kernel
theorem dX7_burnsOn_86 : decode cX7_burnsOn 86 = .ok (.return_, 1) := by decide +kernel
theorem dX7_burnsOn_87 : decode cX7_burnsOn 87 = .ok (.iconst 0, 1) := by decide +kernel
theorem dX7_burnsOn_88 : decode cX7_burnsOn 88 = .ok (.istore_n 3, 1) := by decide +kernel
theorem dX7_burnsOn_89 : decode cX7_burnsOn 89 = .ok (.iload_n 3, 1) := by decide +kernel
theorem dX7_burnsOn_90 : decode cX7_burnsOn 90 = .ok (.aload_n 0, 1) := by decide +kernel
theorem dX7_burnsOn_91 : decode cX7_burnsOn 91 = .ok (.getfield 110, 3) := by decide +kernel
theorem dX7_burnsOn_94 : decode cX7_burnsOn 94 = .ok (.if_icmp .ge 89, 3) := by decide +kernel
theorem dX7_burnsOn_97 : decode cX7_burnsOn 97 = .ok (.iconst 4, 1) := by decide +kernel
theorem dX7_burnsOn_98 : decode cX7_burnsOn 98 = .ok (.iload_n 1, 1) := by decide +kernel
theorem dX7_burnsOn_99 : decode cX7_burnsOn 99 = .ok (.imul, 1) := by decide +kernel
theorem dX7_burnsOn_100 : decode cX7_burnsOn 100 = .ok (.iload_n 3, 1) := by decide +kernel
theorem dX7_burnsOn_101 : decode cX7_burnsOn 101 = .ok (.iadd, 1) := by decide +kernel
theorem dX7_burnsOn_102 : decode cX7_burnsOn 102 = .ok (.istore 4, 2) := by decide +kernel
theorem dX7_burnsOn_104 : decode cX7_burnsOn 104 = .ok (.aload_n 0, 1) := by decide +kernel
theorem dX7_burnsOn_105 : decode cX7_burnsOn 105 = .ok (.getfield 38, 3) := by decide +kernel
theorem dX7_burnsOn_108 : decode cX7_burnsOn 108 = .ok (.iload 4, 2) := by decide +kernel
theorem dX7_burnsOn_110 : decode cX7_burnsOn 110 = .ok (.iaload, 1) := by decide +kernel
theorem dX7_burnsOn_111 : decode cX7_burnsOn 111 = .ok (.aload_n 0, 1) := by decide +kernel
theorem dX7_burnsOn_112 : decode cX7_burnsOn 112 = .ok (.iload_n 3, 1) := by decide +kernel
theorem dX7_burnsOn_113 : decode cX7_burnsOn 113 = .ok (.aload_n 0, 1) := by decide +kernel
theorem dX7_burnsOn_114 : decode cX7_burnsOn 114 = .ok (.getfield 41, 3) := by decide +kernel
theorem dX7_burnsOn_117 : decode cX7_burnsOn 117 = .ok (.iload 4, 2) := by decide +kernel
theorem dX7_burnsOn_119 : decode cX7_burnsOn 119 = .ok (.iaload, 1) := by decide +kernel
theorem dX7_burnsOn_120 : decode cX7_burnsOn 120 = .ok (.aload_n 0, 1) := by decide +kernel
theorem dX7_burnsOn_121 : decode cX7_burnsOn 121 = .ok (.getfield 289, 3) := by decide +kernel
theorem dX7_burnsOn_124 : decode cX7_burnsOn 124 = .ok (.invokevirtual 145, 3) := by decide +kernel
theorem dX7_burnsOn_127 : decode cX7_burnsOn 127 = .ok (.iload_n 2, 1) := by decide +kernel
theorem dX7_burnsOn_128 : decode cX7_burnsOn 128 = .ok (.imul, 1) := by decide +kernel
theorem dX7_burnsOn_129 : decode cX7_burnsOn 129 = .ok (.isub, 1) := by decide +kernel
theorem dX7_burnsOn_130 : decode cX7_burnsOn 130 = .ok (.istore 5, 2) := by decide +kernel
theorem dX7_burnsOn_132 : decode cX7_burnsOn 132 = .ok (.aload_n 0, 1) := by decide +kernel
theorem dX7_burnsOn_133 : decode cX7_burnsOn 133 = .ok (.getfield 38, 3) := by decide +kernel
theorem dX7_burnsOn_136 : decode cX7_burnsOn 136 = .ok (.iload 4, 2) := by decide +kernel
theorem dX7_burnsOn_138 : decode cX7_burnsOn 138 = .ok (.iconst 4, 1) := by decide +kernel
theorem dX7_burnsOn_139 : decode cX7_burnsOn 139 = .ok (.iadd, 1) := by decide +kernel
theorem dX7_burnsOn_140 : decode cX7_burnsOn 140 = .ok (.iload 5, 2) := by decide +kernel
theorem dX7_burnsOn_142 : decode cX7_burnsOn 142 = .ok (.ifCond .ge 7, 3) := by decide +kernel
theorem dX7_burnsOn_145 : decode cX7_burnsOn 145 = .ok (.iconst 0, 1) := by decide +kernel
theorem dX7_burnsOn_146 : decode cX7_burnsOn 146 = .ok (.goto 5, 3) := by decide +kernel
theorem dX7_burnsOn_149 : decode cX7_burnsOn 149 = .ok (.iload 5, 2) := by decide +kernel
theorem dX7_burnsOn_151 : decode cX7_burnsOn 151 = .ok (.iastore, 1) := by decide +kernel
theorem dX7_burnsOn_152 : decode cX7_burnsOn 152 = .ok (.aload_n 0, 1) := by decide +kernel
theorem dX7_burnsOn_153 : decode cX7_burnsOn 153 = .ok (.getfield 41, 3) := by decide +kernel
theorem dX7_burnsOn_156 : decode cX7_burnsOn 156 = .ok (.iload 4, 2) := by decide +kernel
theorem dX7_burnsOn_158 : decode cX7_burnsOn 158 = .ok (.iconst 4, 1) := by decide +kernel
theorem dX7_burnsOn_159 : decode cX7_burnsOn 159 = .ok (.iadd, 1) := by decide +kernel
theorem dX7_burnsOn_160 : decode cX7_burnsOn 160 = .ok (.iload 5, 2) := by decide +kernel
theorem dX7_burnsOn_162 : decode cX7_burnsOn 162 = .ok (.ifCond .gt 7, 3) := by decide +kernel
theorem dX7_burnsOn_165 : decode cX7_burnsOn 165 = .ok (.iconst 0, 1) := by decide +kernel
theorem dX7_burnsOn_166 : decode cX7_burnsOn 166 = .ok (.goto 10, 3) := by decide +kernel
theorem dX7_burnsOn_169 : decode cX7_burnsOn 169 = .ok (.aload_n 0, 1) := by decide +kernel
theorem dX7_burnsOn_170 : decode cX7_burnsOn 170 = .ok (.getfield 41, 3) := by decide +kernel
theorem dX7_burnsOn_173 : decode cX7_burnsOn 173 = .ok (.iload 4, 2) := by decide +kernel
theorem dX7_burnsOn_175 : decode cX7_burnsOn 175 = .ok (.iaload, 1) := by decide +kernel
theorem dX7_burnsOn_176 : decode cX7_burnsOn 176 = .ok (.iastore, 1) := by decide +kernel
theorem dX7_burnsOn_177 : decode cX7_burnsOn 177 = .ok (.iinc 3 1, 3) := by decide +kernel
theorem dX7_burnsOn_180 : decode cX7_burnsOn 180 = .ok (.goto (-91), 3) := by decide +kernel
theorem dX7_burnsOn_183 : decode cX7_burnsOn 183 = .ok (.aload_n 0, 1) := by decide +kernel
theorem dX7_burnsOn_184 : decode cX7_burnsOn 184 = .ok (.getfield 44, 3) := by decide +kernel
theorem dX7_burnsOn_187 : decode cX7_burnsOn 187 = .ok (.iload_n 1, 1) := by decide +kernel
theorem dX7_burnsOn_188 : decode cX7_burnsOn 188 = .ok (.iconst 1, 1) := by decide +kernel
theorem dX7_burnsOn_189 : decode cX7_burnsOn 189 = .ok (.iadd, 1) := by decide +kernel
theorem dX7_burnsOn_190 : decode cX7_burnsOn 190 = .ok (.aload_n 0, 1) := by decide +kernel
theorem dX7_burnsOn_191 : decode cX7_burnsOn 191 = .ok (.getfield 44, 3) := by decide +kernel
theorem dX7_burnsOn_194 : decode cX7_burnsOn 194 = .ok (.iload_n 1, 1) := by decide +kernel
theorem dX7_burnsOn_195 : decode cX7_burnsOn 195 = .ok (.iaload, 1) := by decide +kernel
theorem dX7_burnsOn_196 : decode cX7_burnsOn 196 = .ok (.iload_n 2, 1) := by decide +kernel
theorem dX7_burnsOn_197 : decode cX7_burnsOn 197 = .ok (.iadd, 1) := by decide +kernel
theorem dX7_burnsOn_198 : decode cX7_burnsOn 198 = .ok (.iastore, 1) := by decide +kernel
theorem dX7_burnsOn_199 : decode cX7_burnsOn 199 = .ok (.aload_n 0, 1) := by decide +kernel
theorem dX7_burnsOn_200 : decode cX7_burnsOn 200 = .ok (.getfield 47, 3) := by decide +kernel
theorem dX7_burnsOn_203 : decode cX7_burnsOn 203 = .ok (.iload_n 1, 1) := by decide +kernel
theorem dX7_burnsOn_204 : decode cX7_burnsOn 204 = .ok (.iconst 1, 1) := by decide +kernel
theorem dX7_burnsOn_205 : decode cX7_burnsOn 205 = .ok (.iadd, 1) := by decide +kernel
theorem dX7_burnsOn_206 : decode cX7_burnsOn 206 = .ok (.aload_n 0, 1) := by decide +kernel
theorem dX7_burnsOn_207 : decode cX7_burnsOn 207 = .ok (.getfield 47, 3) := by decide +kernel
theorem dX7_burnsOn_210 : decode cX7_burnsOn 210 = .ok (.iload_n 1, 1) := by decide +kernel
theorem dX7_burnsOn_211 : decode cX7_burnsOn 211 = .ok (.iaload, 1) := by decide +kernel
theorem dX7_burnsOn_212 : decode cX7_burnsOn 212 = .ok (.iastore, 1) := by decide +kernel
theorem dX7_burnsOn_213 : decode cX7_burnsOn 213 = .ok (.aload_n 0, 1) := by decide +kernel
theorem dX7_burnsOn_214 : decode cX7_burnsOn 214 = .ok (.getfield 50, 3) := by decide +kernel
theorem dX7_burnsOn_217 : decode cX7_burnsOn 217 = .ok (.iload_n 1, 1) := by decide +kernel
theorem dX7_burnsOn_218 : decode cX7_burnsOn 218 = .ok (.iconst 1, 1) := by decide +kernel
theorem dX7_burnsOn_219 : decode cX7_burnsOn 219 = .ok (.iadd, 1) := by decide +kernel
theorem dX7_burnsOn_220 : decode cX7_burnsOn 220 = .ok (.aload_n 0, 1) := by decide +kernel
theorem dX7_burnsOn_221 : decode cX7_burnsOn 221 = .ok (.getfield 50, 3) := by decide +kernel
theorem dX7_burnsOn_224 : decode cX7_burnsOn 224 = .ok (.iload_n 1, 1) := by decide +kernel
theorem dX7_burnsOn_225 : decode cX7_burnsOn 225 = .ok (.iaload, 1) := by decide +kernel
theorem dX7_burnsOn_226 : decode cX7_burnsOn 226 = .ok (.iastore, 1) := by decide +kernel
theorem dX7_burnsOn_227 : decode cX7_burnsOn 227 = .ok (.aload_n 0, 1) := by decide +kernel
theorem dX7_burnsOn_228 : decode cX7_burnsOn 228 = .ok (.iload_n 1, 1) := by decide +kernel
theorem dX7_burnsOn_229 : decode cX7_burnsOn 229 = .ok (.invokevirtual 320, 3) := by decide +kernel
theorem dX7_burnsOn_232 : decode cX7_burnsOn 232 = .ok (.aload_n 0, 1) := by decide +kernel
theorem dX7_burnsOn_233 : decode cX7_burnsOn 233 = .ok (.iload_n 1, 1) := by decide +kernel
theorem dX7_burnsOn_234 : decode cX7_burnsOn 234 = .ok (.iconst 1, 1) := by decide +kernel
theorem dX7_burnsOn_235 : decode cX7_burnsOn 235 = .ok (.iadd, 1) := by decide +kernel
theorem dX7_burnsOn_236 : decode cX7_burnsOn 236 = .ok (.iconst 0, 1) := by decide +kernel
theorem dX7_burnsOn_237 : decode cX7_burnsOn 237 = .ok (.invokevirtual 304, 3) := by decide +kernel
theorem dX7_burnsOn_240 : decode cX7_burnsOn 240 = .ok (.return_, 1) := by decide +kernel
theorem dX7_notes_0 : decode cX7_notes 0 = .ok (.aload_n 0, 1) := by decide +kernel
theorem dX7_notes_1 : decode cX7_notes 1 = .ok (.getfield 44, 3) := by decide +kernel
theorem dX7_notes_4 : decode cX7_notes 4 = .ok (.iload_n 1, 1) := by decide +kernel
theorem dX7_notes_5 : decode cX7_notes 5 = .ok (.iconst 1, 1) := by decide +kernel
theorem dX7_notes_6 : decode cX7_notes 6 = .ok (.iadd, 1) := by decide +kernel
theorem dX7_notes_7 : decode cX7_notes 7 = .ok (.iaload, 1) := by decide +kernel
theorem dX7_notes_8 : decode cX7_notes 8 = .ok (.istore_n 2, 1) := by decide +kernel
theorem dX7_notes_9 : decode cX7_notes 9 = .ok (.aload_n 0, 1) := by decide +kernel
theorem dX7_notes_10 : decode cX7_notes 10 = .ok (.getfield 47, 3) := by decide +kernel
theorem dX7_notes_13 : decode cX7_notes 13 = .ok (.iload_n 1, 1) := by decide +kernel
theorem dX7_notes_14 : decode cX7_notes 14 = .ok (.iaload, 1) := by decide +kernel
theorem dX7_notes_15 : decode cX7_notes 15 = .ok (.istore_n 3, 1) := by decide +kernel
theorem dX7_notes_16 : decode cX7_notes 16 = .ok (.aload_n 0, 1) := by decide +kernel
theorem dX7_notes_17 : decode cX7_notes 17 = .ok (.getfield 50, 3) := by decide +kernel
theorem dX7_notes_20 : decode cX7_notes 20 = .ok (.iload_n 1, 1) := by decide +kernel
theorem dX7_notes_21 : decode cX7_notes 21 = .ok (.iaload, 1) := by decide +kernel
theorem dX7_notes_22 : decode cX7_notes 22 = .ok (.istore 4, 2) := by decide +kernel
theorem dX7_notes_24 : decode cX7_notes 24 = .ok (.aload_n 0, 1) := by decide +kernel
theorem dX7_notes_25 : decode cX7_notes 25 = .ok (.getfield 53, 3) := by decide +kernel
theorem dX7_notes_28 : decode cX7_notes 28 = .ok (.iload_n 2, 1) := by decide +kernel
theorem dX7_notes_29 : decode cX7_notes 29 = .ok (.iaload, 1) := by decide +kernel
theorem dX7_notes_30 : decode cX7_notes 30 = .ok (.ifCond .eq 36, 3) := by decide +kernel
theorem dX7_notes_33 : decode cX7_notes 33 = .ok (.iload_n 3, 1) := by decide +kernel
theorem dX7_notes_34 : decode cX7_notes 34 = .ok (.aload_n 0, 1) := by decide +kernel
theorem dX7_notes_35 : decode cX7_notes 35 = .ok (.getfield 56, 3) := by decide +kernel
theorem dX7_notes_38 : decode cX7_notes 38 = .ok (.iload_n 2, 1) := by decide +kernel
theorem dX7_notes_39 : decode cX7_notes 39 = .ok (.iaload, 1) := by decide +kernel
theorem dX7_notes_40 : decode cX7_notes 40 = .ok (.if_icmp .lt 26, 3) := by decide +kernel
theorem dX7_notes_43 : decode cX7_notes 43 = .ok (.iload_n 3, 1) := by decide +kernel
theorem dX7_notes_44 : decode cX7_notes 44 = .ok (.aload_n 0, 1) := by decide +kernel
theorem dX7_notes_45 : decode cX7_notes 45 = .ok (.getfield 56, 3) := by decide +kernel
theorem dX7_notes_48 : decode cX7_notes 48 = .ok (.iload_n 2, 1) := by decide +kernel
theorem dX7_notes_49 : decode cX7_notes 49 = .ok (.iaload, 1) := by decide +kernel
theorem dX7_notes_50 : decode cX7_notes 50 = .ok (.if_icmp .ne 33, 3) := by decide +kernel
theorem dX7_notes_53 : decode cX7_notes 53 = .ok (.aload_n 0, 1) := by decide +kernel
theorem dX7_notes_54 : decode cX7_notes 54 = .ok (.getfield 301, 3) := by decide +kernel
theorem dX7_notes_57 : decode cX7_notes 57 = .ok (.aload_n 0, 1) := by decide +kernel
theorem dX7_notes_58 : decode cX7_notes 58 = .ok (.getfield 62, 3) := by decide +kernel
theorem dX7_notes_61 : decode cX7_notes 61 = .ok (.iload_n 2, 1) := by decide +kernel
theorem dX7_notes_62 : decode cX7_notes 62 = .ok (.iaload, 1) := by decide +kernel
theorem dX7_notes_63 : decode cX7_notes 63 = .ok (.if_icmp .ge 20, 3) := by decide +kernel
theorem dX7_notes_66 : decode cX7_notes 66 = .ok (.aload_n 0, 1) := by decide +kernel
theorem dX7_notes_67 : decode cX7_notes 67 = .ok (.getfield 56, 3) := by decide +kernel
theorem dX7_notes_70 : decode cX7_notes 70 = .ok (.iload_n 2, 1) := by decide +kernel
theorem dX7_notes_71 : decode cX7_notes 71 = .ok (.iload_n 3, 1) := by decide +kernel
theorem dX7_notes_72 : decode cX7_notes 72 = .ok (.iastore, 1) := by decide +kernel
theorem dX7_notes_73 : decode cX7_notes 73 = .ok (.aload_n 0, 1) := by decide +kernel
theorem dX7_notes_74 : decode cX7_notes 74 = .ok (.getfield 62, 3) := by decide +kernel
theorem dX7_notes_77 : decode cX7_notes 77 = .ok (.iload_n 2, 1) := by decide +kernel
theorem dX7_notes_78 : decode cX7_notes 78 = .ok (.aload_n 0, 1) := by decide +kernel
theorem dX7_notes_79 : decode cX7_notes 79 = .ok (.getfield 301, 3) := by decide +kernel
theorem dX7_notes_82 : decode cX7_notes 82 = .ok (.iastore, 1) := by decide +kernel
theorem dX7_notes_83 : decode cX7_notes 83 = .ok (.aload_n 0, 1) := by decide +kernel
theorem dX7_notes_84 : decode cX7_notes 84 = .ok (.getfield 53, 3) := by decide +kernel
theorem dX7_notes_87 : decode cX7_notes 87 = .ok (.iload_n 2, 1) := by decide +kernel
theorem dX7_notes_88 : decode cX7_notes 88 = .ok (.iaload, 1) := by decide +kernel
theorem dX7_notes_89 : decode cX7_notes 89 = .ok (.ifCond .eq 14, 3) := by decide +kernel
theorem dX7_notes_92 : decode cX7_notes 92 = .ok (.iload 4, 2) := by decide +kernel
theorem dX7_notes_94 : decode cX7_notes 94 = .ok (.aload_n 0, 1) := by decide +kernel
theorem dX7_notes_95 : decode cX7_notes 95 = .ok (.getfield 59, 3) := by decide +kernel
theorem dX7_notes_98 : decode cX7_notes 98 = .ok (.iload_n 2, 1) := by decide +kernel
theorem dX7_notes_99 : decode cX7_notes 99 = .ok (.iaload, 1) := by decide +kernel
theorem dX7_notes_100 : decode cX7_notes 100 = .ok (.if_icmp .ge 11, 3) := by decide +kernel
theorem dX7_notes_103 : decode cX7_notes 103 = .ok (.aload_n 0, 1) := by decide +kernel
theorem dX7_notes_104 : decode cX7_notes 104 = .ok (.getfield 59, 3) := by decide +kernel
theorem dX7_notes_107 : decode cX7_notes 107 = .ok (.iload_n 2, 1) := by decide +kernel
theorem dX7_notes_108 : decode cX7_notes 108 = .ok (.iload 4, 2) := by decide +kernel
theorem dX7_notes_110 : decode cX7_notes 110 = .ok (.iastore, 1) := by decide +kernel
theorem dX7_notes_111 : decode cX7_notes 111 = .ok (.aload_n 0, 1) := by decide +kernel
theorem dX7_notes_112 : decode cX7_notes 112 = .ok (.getfield 53, 3) := by decide +kernel
theorem dX7_notes_115 : decode cX7_notes 115 = .ok (.iload_n 2, 1) := by decide +kernel
theorem dX7_notes_116 : decode cX7_notes 116 = .ok (.iconst 1, 1) := by decide +kernel
theorem dX7_notes_117 : decode cX7_notes 117 = .ok (.iastore, 1) := by decide +kernel
theorem dX7_notes_118 : decode cX7_notes 118 = .ok (.iconst 0, 1) := by decide +kernel
theorem dX7_notes_119 : decode cX7_notes 119 = .ok (.istore 5, 2) := by decide +kernel
theorem dX7_notes_121 : decode cX7_notes 121 = .ok (.iload 5, 2) := by decide +kernel
theorem dX7_notes_123 : decode cX7_notes 123 = .ok (.iload_n 1, 1) := by decide +kernel
theorem dX7_notes_124 : decode cX7_notes 124 = .ok (.if_icmp .gt 41, 3) := by decide +kernel
theorem dX7_notes_127 : decode cX7_notes 127 = .ok (.aload_n 0, 1) := by decide +kernel
theorem dX7_notes_128 : decode cX7_notes 128 = .ok (.aload_n 0, 1) := by decide +kernel
theorem dX7_notes_129 : decode cX7_notes 129 = .ok (.getfield 298, 3) := by decide +kernel
theorem dX7_notes_132 : decode cX7_notes 132 = .ok (.ifCond .ne 19, 3) := by decide +kernel
theorem dX7_notes_135 : decode cX7_notes 135 = .ok (.iload_n 2, 1) := by decide +kernel
theorem dX7_notes_136 : decode cX7_notes 136 = .ok (.aload_n 0, 1) := by decide +kernel
theorem dX7_notes_137 : decode cX7_notes 137 = .ok (.getfield 44, 3) := by decide +kernel
theorem dX7_notes_140 : decode cX7_notes 140 = .ok (.iload 5, 2) := by decide +kernel
theorem dX7_notes_142 : decode cX7_notes 142 = .ok (.iaload, 1) := by decide +kernel
theorem dX7_notes_143 : decode cX7_notes 143 = .ok (.isub, 1) := by decide +kernel
theorem dX7_notes_144 : decode cX7_notes 144 = .ok (.aload_n 0, 1) := by decide +kernel
theorem dX7_notes_145 : decode cX7_notes 145 = .ok (.getfield 295, 3) := by decide +kernel
theorem dX7_notes_148 : decode cX7_notes 148 = .ok (.if_icmp .ne 7, 3) := by decide +kernel
theorem dX7_notes_151 : decode cX7_notes 151 = .ok (.iconst 1, 1) := by decide +kernel
theorem dX7_notes_152 : decode cX7_notes 152 = .ok (.goto 4, 3) := by decide +kernel
theorem dX7_notes_155 : decode cX7_notes 155 = .ok (.iconst 0, 1) := by decide +kernel
theorem dX7_notes_156 : decode cX7_notes 156 = .ok (.putfield 298, 3) := by decide +kernel
theorem dX7_notes_159 : decode cX7_notes 159 = .ok (.iinc 5 1, 3) := by decide +kernel
theorem dX7_notes_162 : decode cX7_notes 162 = .ok (.goto (-41), 3) := by decide +kernel
theorem dX7_notes_165 : decode cX7_notes 165 = .ok (.return_, 1) := by decide +kernel
theorem dX7_spans_0 : decode cX7_spans 0 = .ok (.iload_n 2, 1) := by decide +kernel
theorem dX7_spans_1 : decode cX7_spans 1 = .ok (.i2l, 1) := by decide +kernel
theorem dX7_spans_2 : decode cX7_spans 2 = .ok (.lconst 0, 1) := by decide +kernel
theorem dX7_spans_3 : decode cX7_spans 3 = .ok (.ldc2_w 323, 3) := by decide +kernel
theorem dX7_spans_6 : decode cX7_spans 6 = .ok (.invokestatic 113, 3) := by decide +kernel
theorem dX7_spans_9 : decode cX7_spans 9 = .ok (.ifCond .eq 11, 3) := by decide +kernel
theorem dX7_spans_12 : decode cX7_spans 12 = .ok (.aload_n 0, 1) := by decide +kernel
theorem dX7_spans_13 : decode cX7_spans 13 = .ok (.iload_n 1, 1) := by decide +kernel
theorem dX7_spans_14 : decode cX7_spans 14 = .ok (.invokevirtual 325, 3) := by decide +kernel
theorem dX7_spans_17 : decode cX7_spans 17 = .ok (.ifCond .ne 6, 3) := by decide +kernel
theorem dX7_spans_20 : decode cX7_spans 20 = .ok (.bipush (-2), 2) := by decide +kernel
theorem dX7_spans_22 : decode cX7_spans 22 = .ok (.ireturn, 1) := by decide +kernel
theorem dX7_spans_23 : decode cX7_spans 23 = .ok (.aload_n 0, 1) := by decide +kernel
theorem dX7_spans_24 : decode cX7_spans 24 = .ok (.iload_n 1, 1) := by decide +kernel
theorem dX7_spans_25 : decode cX7_spans 25 = .ok (.aload_n 0, 1) := by decide +kernel
theorem dX7_spans_26 : decode cX7_spans 26 = .ok (.getfield 133, 3) := by decide +kernel
theorem dX7_spans_29 : decode cX7_spans 29 = .ok (.iconst 0, 1) := by decide +kernel
theorem dX7_spans_30 : decode cX7_spans 30 = .ok (.iconst 0, 1) := by decide +kernel
theorem dX7_spans_31 : decode cX7_spans 31 = .ok (.invokevirtual 328, 3) := by decide +kernel
theorem dX7_spans_34 : decode cX7_spans 34 = .ok (.iconst 0, 1) := by decide +kernel
theorem dX7_spans_35 : decode cX7_spans 35 = .ok (.istore_n 3, 1) := by decide +kernel
theorem dX7_spans_36 : decode cX7_spans 36 = .ok (.iconst 0, 1) := by decide +kernel
theorem dX7_spans_37 : decode cX7_spans 37 = .ok (.istore 4, 2) := by decide +kernel
theorem dX7_spans_39 : decode cX7_spans 39 = .ok (.iload 4, 2) := by decide +kernel
theorem dX7_spans_41 : decode cX7_spans 41 = .ok (.bipush 31, 2) := by decide +kernel
theorem dX7_spans_43 : decode cX7_spans 43 = .ok (.if_icmp .ge 43, 3) := by decide +kernel
theorem dX7_spans_46 : decode cX7_spans 46 = .ok (.bipush 31, 2) := by decide +kernel
theorem dX7_spans_48 : decode cX7_spans 48 = .ok (.iload_n 2, 1) := by decide +kernel
theorem dX7_spans_49 : decode cX7_spans 49 = .ok (.imul, 1) := by decide +kernel
theorem dX7_spans_50 : decode cX7_spans 50 = .ok (.iload 4, 2) := by decide +kernel
theorem dX7_spans_52 : decode cX7_spans 52 = .ok (.iadd, 1) := by decide +kernel
theorem dX7_spans_53 : decode cX7_spans 53 = .ok (.istore 5, 2) := by decide +kernel
theorem dX7_spans_55 : decode cX7_spans 55 = .ok (.iload_n 3, 1) := by decide +kernel
theorem dX7_spans_56 : decode cX7_spans 56 = .ok (.iload 5, 2) := by decide +kernel
theorem dX7_spans_58 : decode cX7_spans 58 = .ok (.sipush 400, 3) := by decide +kernel
theorem dX7_spans_61 : decode cX7_spans 61 = .ok (.if_icmp .gt 13, 3) := by decide +kernel
theorem dX7_spans_64 : decode cX7_spans 64 = .ok (.aload_n 0, 1) := by decide +kernel
theorem dX7_spans_65 : decode cX7_spans 65 = .ok (.getfield 53, 3) := by decide +kernel
theorem dX7_spans_68 : decode cX7_spans 68 = .ok (.iload 5, 2) := by decide +kernel
theorem dX7_spans_70 : decode cX7_spans 70 = .ok (.iaload, 1) := by decide +kernel
theorem dX7_spans_71 : decode cX7_spans 71 = .ok (.goto 4, 3) := by decide +kernel
theorem dX7_spans_74 : decode cX7_spans 74 = .ok (.iconst 0, 1) := by decide +kernel
theorem dX7_spans_75 : decode cX7_spans 75 = .ok (.iload 4, 2) := by decide +kernel
theorem dX7_spans_77 : decode cX7_spans 77 = .ok (.ishl, 1) := by decide +kernel
theorem dX7_spans_78 : decode cX7_spans 78 = .ok (.ior, 1) := by decide +kernel
theorem dX7_spans_79 : decode cX7_spans 79 = .ok (.istore_n 3, 1) := by decide +kernel
theorem dX7_spans_80 : decode cX7_spans 80 = .ok (.iinc 4 1, 3) := by decide +kernel
theorem dX7_spans_83 : decode cX7_spans 83 = .ok (.goto (-44), 3) := by decide +kernel
theorem dX7_spans_86 : decode cX7_spans 86 = .ok (.iload_n 3, 1) := by decide +kernel
theorem dX7_spans_87 : decode cX7_spans 87 = .ok (.ireturn, 1) := by decide +kernel
theorem dX7_tell_0 : decode cX7_tell 0 = .ok (.aload_n 0, 1) := by decide +kernel
theorem dX7_tell_1 : decode cX7_tell 1 = .ok (.iload_n 1, 1) := by decide +kernel
theorem dX7_tell_2 : decode cX7_tell 2 = .ok (.invokevirtual 325, 3) := by decide +kernel
theorem dX7_tell_5 : decode cX7_tell 5 = .ok (.ifCond .eq 27, 3) := by decide +kernel
theorem dX7_tell_8 : decode cX7_tell 8 = .ok (.iload_n 2, 1) := by decide +kernel
theorem dX7_tell_9 : decode cX7_tell 9 = .ok (.i2l, 1) := by decide +kernel
theorem dX7_tell_10 : decode cX7_tell 10 = .ok (.lconst 1, 1) := by decide +kernel
theorem dX7_tell_11 : decode cX7_tell 11 = .ok (.ldc2_w 332, 3) := by decide +kernel
theorem dX7_tell_14 : decode cX7_tell 14 = .ok (.invokestatic 113, 3) := by decide +kernel
theorem dX7_tell_17 : decode cX7_tell 17 = .ok (.ifCond .eq 15, 3) := by decide +kernel
theorem dX7_tell_20 : decode cX7_tell 20 = .ok (.iload_n 3, 1) := by decide +kernel
theorem dX7_tell_21 : decode cX7_tell 21 = .ok (.i2l, 1) := by decide +kernel
theorem dX7_tell_22 : decode cX7_tell 22 = .ok (.lconst 0, 1) := by decide +kernel
theorem dX7_tell_23 : decode cX7_tell 23 = .ok (.ldc2_w 127, 3) := by decide +kernel
theorem dX7_tell_26 : decode cX7_tell 26 = .ok (.invokestatic 113, 3) := by decide +kernel
theorem dX7_tell_29 : decode cX7_tell 29 = .ok (.ifCond .ne 6, 3) := by decide +kernel
theorem dX7_tell_32 : decode cX7_tell 32 = .ok (.bipush (-2), 2) := by decide +kernel
theorem dX7_tell_34 : decode cX7_tell 34 = .ok (.ireturn, 1) := by decide +kernel
theorem dX7_tell_35 : decode cX7_tell 35 = .ok (.aload_n 0, 1) := by decide +kernel
theorem dX7_tell_36 : decode cX7_tell 36 = .ok (.iload_n 1, 1) := by decide +kernel
theorem dX7_tell_37 : decode cX7_tell 37 = .ok (.aload_n 0, 1) := by decide +kernel
theorem dX7_tell_38 : decode cX7_tell 38 = .ok (.getfield 133, 3) := by decide +kernel
theorem dX7_tell_41 : decode cX7_tell 41 = .ok (.iload_n 3, 1) := by decide +kernel
theorem dX7_tell_42 : decode cX7_tell 42 = .ok (.iconst 1, 1) := by decide +kernel
theorem dX7_tell_43 : decode cX7_tell 43 = .ok (.if_icmp .ne 7, 3) := by decide +kernel
theorem dX7_tell_46 : decode cX7_tell 46 = .ok (.iconst 1, 1) := by decide +kernel
theorem dX7_tell_47 : decode cX7_tell 47 = .ok (.goto 4, 3) := by decide +kernel
theorem dX7_tell_50 : decode cX7_tell 50 = .ok (.iconst 0, 1) := by decide +kernel
theorem dX7_tell_51 : decode cX7_tell 51 = .ok (.iconst 0, 1) := by decide +kernel
theorem dX7_tell_52 : decode cX7_tell 52 = .ok (.invokevirtual 328, 3) := by decide +kernel
theorem dX7_tell_55 : decode cX7_tell 55 = .ok (.aload_n 0, 1) := by decide +kernel
theorem dX7_tell_56 : decode cX7_tell 56 = .ok (.getfield 53, 3) := by decide +kernel
theorem dX7_tell_59 : decode cX7_tell 59 = .ok (.iload_n 2, 1) := by decide +kernel
theorem dX7_tell_60 : decode cX7_tell 60 = .ok (.iaload, 1) := by decide +kernel
theorem dX7_tell_61 : decode cX7_tell 61 = .ok (.ifCond .ne 5, 3) := by decide +kernel
theorem dX7_tell_64 : decode cX7_tell 64 = .ok (.iconst (-1), 1) := by decide +kernel
theorem dX7_tell_65 : decode cX7_tell 65 = .ok (.ireturn, 1) := by decide +kernel
theorem dX7_tell_66 : decode cX7_tell 66 = .ok (.iload_n 3, 1) := by decide +kernel
theorem dX7_tell_67 : decode cX7_tell 67 = .ok (.ifCond .ne 12, 3) := by decide +kernel
theorem dX7_tell_70 : decode cX7_tell 70 = .ok (.aload_n 0, 1) := by decide +kernel
theorem dX7_tell_71 : decode cX7_tell 71 = .ok (.getfield 56, 3) := by decide +kernel
theorem dX7_tell_74 : decode cX7_tell 74 = .ok (.iload_n 2, 1) := by decide +kernel
theorem dX7_tell_75 : decode cX7_tell 75 = .ok (.iaload, 1) := by decide +kernel
theorem dX7_tell_76 : decode cX7_tell 76 = .ok (.goto 23, 3) := by decide +kernel
theorem dX7_tell_79 : decode cX7_tell 79 = .ok (.iload_n 3, 1) := by decide +kernel
theorem dX7_tell_80 : decode cX7_tell 80 = .ok (.iconst 1, 1) := by decide +kernel
theorem dX7_tell_81 : decode cX7_tell 81 = .ok (.if_icmp .ne 12, 3) := by decide +kernel
theorem dX7_tell_84 : decode cX7_tell 84 = .ok (.aload_n 0, 1) := by decide +kernel
theorem dX7_tell_85 : decode cX7_tell 85 = .ok (.getfield 59, 3) := by decide +kernel
theorem dX7_tell_88 : decode cX7_tell 88 = .ok (.iload_n 2, 1) := by decide +kernel
theorem dX7_tell_89 : decode cX7_tell 89 = .ok (.iaload, 1) := by decide +kernel
theorem dX7_tell_90 : decode cX7_tell 90 = .ok (.goto 9, 3) := by decide +kernel
theorem dX7_tell_93 : decode cX7_tell 93 = .ok (.aload_n 0, 1) := by decide +kernel
theorem dX7_tell_94 : decode cX7_tell 94 = .ok (.getfield 62, 3) := by decide +kernel
theorem dX7_tell_97 : decode cX7_tell 97 = .ok (.iload_n 2, 1) := by decide +kernel
theorem dX7_tell_98 : decode cX7_tell 98 = .ok (.iaload, 1) := by decide +kernel
theorem dX7_tell_99 : decode cX7_tell 99 = .ok (.ireturn, 1) := by decide +kernel
theorem dX7_between_0 : decode cX7_between 0 = .ok (.aload_n 0, 1) := by decide +kernel
theorem dX7_between_1 : decode cX7_between 1 = .ok (.iload_n 1, 1) := by decide +kernel
theorem dX7_between_2 : decode cX7_between 2 = .ok (.invokevirtual 325, 3) := by decide +kernel
theorem dX7_between_5 : decode cX7_between 5 = .ok (.ifCond .eq 15, 3) := by decide +kernel
theorem dX7_between_8 : decode cX7_between 8 = .ok (.iload_n 2, 1) := by decide +kernel
theorem dX7_between_9 : decode cX7_between 9 = .ok (.i2l, 1) := by decide +kernel
theorem dX7_between_10 : decode cX7_between 10 = .ok (.lconst 1, 1) := by decide +kernel
theorem dX7_between_11 : decode cX7_between 11 = .ok (.ldc2_w 332, 3) := by decide +kernel
theorem dX7_between_14 : decode cX7_between 14 = .ok (.invokestatic 113, 3) := by decide +kernel
theorem dX7_between_17 : decode cX7_between 17 = .ok (.ifCond .ne 6, 3) := by decide +kernel
theorem dX7_between_20 : decode cX7_between 20 = .ok (.bipush (-2), 2) := by decide +kernel
theorem dX7_between_22 : decode cX7_between 22 = .ok (.ireturn, 1) := by decide +kernel
theorem dX7_between_23 : decode cX7_between 23 = .ok (.aload_n 0, 1) := by decide +kernel
theorem dX7_between_24 : decode cX7_between 24 = .ok (.iload_n 1, 1) := by decide +kernel
theorem dX7_between_25 : decode cX7_between 25 = .ok (.aload_n 0, 1) := by decide +kernel
theorem dX7_between_26 : decode cX7_between 26 = .ok (.getfield 133, 3) := by decide +kernel
theorem dX7_between_29 : decode cX7_between 29 = .ok (.iconst 0, 1) := by decide +kernel
theorem dX7_between_30 : decode cX7_between 30 = .ok (.iload_n 2, 1) := by decide +kernel
theorem dX7_between_31 : decode cX7_between 31 = .ok (.invokevirtual 328, 3) := by decide +kernel
theorem dX7_between_34 : decode cX7_between 34 = .ok (.aload_n 0, 1) := by decide +kernel
theorem dX7_between_35 : decode cX7_between 35 = .ok (.getfield 298, 3) := by decide +kernel
theorem dX7_between_38 : decode cX7_between 38 = .ok (.ifCond .eq 7, 3) := by decide +kernel
theorem dX7_between_41 : decode cX7_between 41 = .ok (.iconst 1, 1) := by decide +kernel
theorem dX7_between_42 : decode cX7_between 42 = .ok (.goto 4, 3) := by decide +kernel
theorem dX7_between_45 : decode cX7_between 45 = .ok (.iconst 0, 1) := by decide +kernel
theorem dX7_between_46 : decode cX7_between 46 = .ok (.ireturn, 1) := by decide +kernel
theorem dX7_worth_0 : decode cX7_worth 0 = .ok (.aload_n 0, 1) := by decide +kernel
theorem dX7_worth_1 : decode cX7_worth 1 = .ok (.iload_n 1, 1) := by decide +kernel
theorem dX7_worth_2 : decode cX7_worth 2 = .ok (.invokevirtual 325, 3) := by decide +kernel
theorem dX7_worth_5 : decode cX7_worth 5 = .ok (.ifCond .eq 13, 3) := by decide +kernel
theorem dX7_worth_8 : decode cX7_worth 8 = .ok (.iload_n 2, 1) := by decide +kernel
theorem dX7_worth_9 : decode cX7_worth 9 = .ok (.i2l, 1) := by decide +kernel
theorem dX7_worth_10 : decode cX7_worth 10 = .ok (.lconst 0, 1) := by decide +kernel
theorem dX7_worth_11 : decode cX7_worth 11 = .ok (.lconst 1, 1) := by decide +kernel
theorem dX7_worth_12 : decode cX7_worth 12 = .ok (.invokestatic 113, 3) := by decide +kernel
theorem dX7_worth_15 : decode cX7_worth 15 = .ok (.ifCond .ne 6, 3) := by decide +kernel
theorem dX7_worth_18 : decode cX7_worth 18 = .ok (.bipush (-2), 2) := by decide +kernel
theorem dX7_worth_20 : decode cX7_worth 20 = .ok (.ireturn, 1) := by decide +kernel
theorem dX7_worth_21 : decode cX7_worth 21 = .ok (.aload_n 0, 1) := by decide +kernel
theorem dX7_worth_22 : decode cX7_worth 22 = .ok (.iload_n 1, 1) := by decide +kernel
theorem dX7_worth_23 : decode cX7_worth 23 = .ok (.aload_n 0, 1) := by decide +kernel
theorem dX7_worth_24 : decode cX7_worth 24 = .ok (.getfield 133, 3) := by decide +kernel
theorem dX7_worth_27 : decode cX7_worth 27 = .ok (.iconst 0, 1) := by decide +kernel
theorem dX7_worth_28 : decode cX7_worth 28 = .ok (.iconst 0, 1) := by decide +kernel
theorem dX7_worth_29 : decode cX7_worth 29 = .ok (.invokevirtual 328, 3) := by decide +kernel
theorem dX7_worth_32 : decode cX7_worth 32 = .ok (.iconst (-1), 1) := by decide +kernel
theorem dX7_worth_33 : decode cX7_worth 33 = .ok (.istore_n 3, 1) := by decide +kernel
theorem dX7_worth_34 : decode cX7_worth 34 = .ok (.iconst (-1), 1) := by decide +kernel
theorem dX7_worth_35 : decode cX7_worth 35 = .ok (.istore 4, 2) := by decide +kernel
theorem dX7_worth_37 : decode cX7_worth 37 = .ok (.iconst 1, 1) := by decide +kernel
theorem dX7_worth_38 : decode cX7_worth 38 = .ok (.istore 5, 2) := by decide +kernel
theorem dX7_worth_40 : decode cX7_worth 40 = .ok (.iload 5, 2) := by decide +kernel
theorem dX7_worth_42 : decode cX7_worth 42 = .ok (.sipush 400, 3) := by decide +kernel
theorem dX7_worth_45 : decode cX7_worth 45 = .ok (.if_icmp .gt 47, 3) := by decide +kernel
theorem dX7_worth_48 : decode cX7_worth 48 = .ok (.aload_n 0, 1) := by decide +kernel
theorem dX7_worth_49 : decode cX7_worth 49 = .ok (.getfield 53, 3) := by decide +kernel
theorem dX7_worth_52 : decode cX7_worth 52 = .ok (.iload 5, 2) := by decide +kernel
theorem dX7_worth_54 : decode cX7_worth 54 = .ok (.iaload, 1) := by decide +kernel
theorem dX7_worth_55 : decode cX7_worth 55 = .ok (.iconst 1, 1) := by decide +kernel
theorem dX7_worth_56 : decode cX7_worth 56 = .ok (.if_icmp .ne 30, 3) := by decide +kernel
theorem dX7_worth_59 : decode cX7_worth 59 = .ok (.aload_n 0, 1) := by decide +kernel
theorem dX7_worth_60 : decode cX7_worth 60 = .ok (.iconst 1, 1) := by decide +kernel
theorem dX7_worth_61 : decode cX7_worth 61 = .ok (.iconst 0, 1) := by decide +kernel
theorem dX7_worth_62 : decode cX7_worth 62 = .ok (.iconst 0, 1) := by decide +kernel
theorem dX7_worth_63 : decode cX7_worth 63 = .ok (.iconst 0, 1) := by decide +kernel
theorem dX7_worth_64 : decode cX7_worth 64 = .ok (.iconst 0, 1) := by decide +kernel
theorem dX7_worth_65 : decode cX7_worth 65 = .ok (.iload 5, 2) := by decide +kernel
theorem dX7_worth_67 : decode cX7_worth 67 = .ok (.invokevirtual 308, 3) := by decide +kernel
theorem dX7_worth_70 : decode cX7_worth 70 = .ok (.istore 6, 2) := by decide +kernel
theorem dX7_worth_72 : decode cX7_worth 72 = .ok (.iload 6, 2) := by decide +kernel
theorem dX7_worth_74 : decode cX7_worth 74 = .ok (.iload 4, 2) := by decide +kernel
theorem dX7_worth_76 : decode cX7_worth 76 = .ok (.if_icmp .le 10, 3) := by decide +kernel
theorem dX7_worth_79 : decode cX7_worth 79 = .ok (.iload 5, 2) := by decide +kernel
theorem dX7_worth_81 : decode cX7_worth 81 = .ok (.istore_n 3, 1) := by decide +kernel
theorem dX7_worth_82 : decode cX7_worth 82 = .ok (.iload 6, 2) := by decide +kernel
theorem dX7_worth_84 : decode cX7_worth 84 = .ok (.istore 4, 2) := by decide +kernel
theorem dX7_worth_86 : decode cX7_worth 86 = .ok (.iinc 5 1, 3) := by decide +kernel
theorem dX7_worth_89 : decode cX7_worth 89 = .ok (.goto (-49), 3) := by decide +kernel
theorem dX7_worth_92 : decode cX7_worth 92 = .ok (.iload_n 2, 1) := by decide +kernel
theorem dX7_worth_93 : decode cX7_worth 93 = .ok (.ifCond .ne 7, 3) := by decide +kernel
theorem dX7_worth_96 : decode cX7_worth 96 = .ok (.iload_n 3, 1) := by decide +kernel
theorem dX7_worth_97 : decode cX7_worth 97 = .ok (.goto 5, 3) := by decide +kernel
theorem dX7_worth_100 : decode cX7_worth 100 = .ok (.iload 4, 2) := by decide +kernel
theorem dX7_worth_102 : decode cX7_worth 102 = .ok (.ireturn, 1) := by decide +kernel
theorem dX7_sure_0 : decode cX7_sure 0 = .ok (.aload_n 0, 1) := by decide +kernel
theorem dX7_sure_1 : decode cX7_sure 1 = .ok (.iload_n 1, 1) := by decide +kernel
theorem dX7_sure_2 : decode cX7_sure 2 = .ok (.invokevirtual 325, 3) := by decide +kernel
theorem dX7_sure_5 : decode cX7_sure 5 = .ok (.ifCond .ne 7, 3) := by decide +kernel
theorem dX7_sure_8 : decode cX7_sure 8 = .ok (.ldc2_w 334, 3) := by decide +kernel
theorem dX7_sure_11 : decode cX7_sure 11 = .ok (.lreturn, 1) := by decide +kernel
theorem dX7_sure_12 : decode cX7_sure 12 = .ok (.ldc2_w 336, 3) := by decide +kernel
theorem dX7_sure_15 : decode cX7_sure 15 = .ok (.lstore_n 2, 1) := by decide +kernel
theorem dX7_sure_16 : decode cX7_sure 16 = .ok (.iconst 0, 1) := by decide +kernel
theorem dX7_sure_17 : decode cX7_sure 17 = .ok (.istore 4, 2) := by decide +kernel
theorem dX7_sure_19 : decode cX7_sure 19 = .ok (.iload 4, 2) := by decide +kernel
theorem dX7_sure_21 : decode cX7_sure 21 = .ok (.bipush 10, 2) := by decide +kernel
theorem dX7_sure_23 : decode cX7_sure 23 = .ok (.if_icmp .ge 58, 3) := by decide +kernel
theorem dX7_sure_26 : decode cX7_sure 26 = .ok (.aload_n 0, 1) := by decide +kernel
theorem dX7_sure_27 : decode cX7_sure 27 = .ok (.iload_n 1, 1) := by decide +kernel
theorem dX7_sure_28 : decode cX7_sure 28 = .ok (.iload 4, 2) := by decide +kernel
theorem dX7_sure_30 : decode cX7_sure 30 = .ok (.iconst 0, 1) := by decide +kernel
theorem dX7_sure_31 : decode cX7_sure 31 = .ok (.iconst 0, 1) := by decide +kernel
theorem dX7_sure_32 : decode cX7_sure 32 = .ok (.invokevirtual 328, 3) := by decide +kernel
theorem dX7_sure_35 : decode cX7_sure 35 = .ok (.lconst 0, 1) := by decide +kernel
theorem dX7_sure_36 : decode cX7_sure 36 = .ok (.lstore 5, 2) := by decide +kernel
theorem dX7_sure_38 : decode cX7_sure 38 = .ok (.iconst 1, 1) := by decide +kernel
theorem dX7_sure_39 : decode cX7_sure 39 = .ok (.istore 7, 2) := by decide +kernel
theorem dX7_sure_41 : decode cX7_sure 41 = .ok (.iload 7, 2) := by decide +kernel
theorem dX7_sure_43 : decode cX7_sure 43 = .ok (.bipush 60, 2) := by decide +kernel
theorem dX7_sure_45 : decode cX7_sure 45 = .ok (.if_icmp .gt 25, 3) := by decide +kernel
theorem dX7_sure_48 : decode cX7_sure 48 = .ok (.lload 5, 2) := by decide +kernel
theorem dX7_sure_50 : decode cX7_sure 50 = .ok (.aload_n 0, 1) := by decide +kernel
theorem dX7_sure_51 : decode cX7_sure 51 = .ok (.getfield 53, 3) := by decide +kernel
theorem dX7_sure_54 : decode cX7_sure 54 = .ok (.iload 7, 2) := by decide +kernel
theorem dX7_sure_56 : decode cX7_sure 56 = .ok (.iaload, 1) := by decide +kernel
theorem dX7_sure_57 : decode cX7_sure 57 = .ok (.i2l, 1) := by decide +kernel
theorem dX7_sure_58 : decode cX7_sure 58 = .ok (.iload 7, 2) := by decide +kernel
theorem dX7_sure_60 : decode cX7_sure 60 = .ok (.lshl, 1) := by decide +kernel
theorem dX7_sure_61 : decode cX7_sure 61 = .ok (.lor, 1) := by decide +kernel
theorem dX7_sure_62 : decode cX7_sure 62 = .ok (.lstore 5, 2) := by decide +kernel
theorem dX7_sure_64 : decode cX7_sure 64 = .ok (.iinc 7 1, 3) := by decide +kernel
theorem dX7_sure_67 : decode cX7_sure 67 = .ok (.goto (-26), 3) := by decide +kernel
theorem dX7_sure_70 : decode cX7_sure 70 = .ok (.lload_n 2, 1) := by decide +kernel
theorem dX7_sure_71 : decode cX7_sure 71 = .ok (.lload 5, 2) := by decide +kernel
theorem dX7_sure_73 : decode cX7_sure 73 = .ok (.land, 1) := by decide +kernel
theorem dX7_sure_74 : decode cX7_sure 74 = .ok (.lstore_n 2, 1) := by decide +kernel
theorem dX7_sure_75 : decode cX7_sure 75 = .ok (.iinc 4 1, 3) := by decide +kernel
theorem dX7_sure_78 : decode cX7_sure 78 = .ok (.goto (-59), 3) := by decide +kernel
theorem dX7_sure_81 : decode cX7_sure 81 = .ok (.lload_n 2, 1) := by decide +kernel
theorem dX7_sure_82 : decode cX7_sure 82 = .ok (.lreturn, 1) := by decide +kernel
theorem dX7_cheat_0 : decode cX7_cheat 0 = .ok (.aload_n 0, 1) := by decide +kernel
theorem dX7_cheat_1 : decode cX7_cheat 1 = .ok (.iload_n 1, 1) := by decide +kernel
theorem dX7_cheat_2 : decode cX7_cheat 2 = .ok (.invokevirtual 123, 3) := by decide +kernel
theorem dX7_cheat_5 : decode cX7_cheat 5 = .ok (.ifCond .eq 12, 3) := by decide +kernel
theorem dX7_cheat_8 : decode cX7_cheat 8 = .ok (.aload_n 0, 1) := by decide +kernel
theorem dX7_cheat_9 : decode cX7_cheat 9 = .ok (.getfield 29, 3) := by decide +kernel
theorem dX7_cheat_12 : decode cX7_cheat 12 = .ok (.iload_n 1, 1) := by decide +kernel
theorem dX7_cheat_13 : decode cX7_cheat 13 = .ok (.iaload, 1) := by decide +kernel
theorem dX7_cheat_14 : decode cX7_cheat 14 = .ok (.ifCond .ne 6, 3) := by decide +kernel
theorem dX7_cheat_17 : decode cX7_cheat 17 = .ok (.bipush (-2), 2) := by decide +kernel
theorem dX7_cheat_19 : decode cX7_cheat 19 = .ok (.ireturn, 1) := by decide +kernel
theorem dX7_cheat_20 : decode cX7_cheat 20 = .ok (.aload_n 0, 1) := by decide +kernel
theorem dX7_cheat_21 : decode cX7_cheat 21 = .ok (.getfield 29, 3) := by decide +kernel
theorem dX7_cheat_24 : decode cX7_cheat 24 = .ok (.iload_n 1, 1) := by decide +kernel
theorem dX7_cheat_25 : decode cX7_cheat 25 = .ok (.iaload, 1) := by decide +kernel
theorem dX7_cheat_26 : decode cX7_cheat 26 = .ok (.aload_n 0, 1) := by decide +kernel
theorem dX7_cheat_27 : decode cX7_cheat 27 = .ok (.iload_n 1, 1) := by decide +kernel
theorem dX7_cheat_28 : decode cX7_cheat 28 = .ok (.iconst 1, 1) := by decide +kernel
theorem dX7_cheat_29 : decode cX7_cheat 29 = .ok (.iconst 0, 1) := by decide +kernel
theorem dX7_cheat_30 : decode cX7_cheat 30 = .ok (.invokevirtual 145, 3) := by decide +kernel
theorem dX7_cheat_33 : decode cX7_cheat 33 = .ok (.invokestatic 283, 3) := by decide +kernel
theorem dX7_cheat_36 : decode cX7_cheat 36 = .ok (.istore_n 2, 1) := by decide +kernel
theorem dX7_cheat_37 : decode cX7_cheat 37 = .ok (.iconst 1, 1) := by decide +kernel
theorem dX7_cheat_38 : decode cX7_cheat 38 = .ok (.istore_n 3, 1) := by decide +kernel
theorem dX7_cheat_39 : decode cX7_cheat 39 = .ok (.iload_n 3, 1) := by decide +kernel
theorem dX7_cheat_40 : decode cX7_cheat 40 = .ok (.bipush 10, 2) := by decide +kernel
theorem dX7_cheat_42 : decode cX7_cheat 42 = .ok (.if_icmp .ge 31, 3) := by decide +kernel
theorem dX7_cheat_45 : decode cX7_cheat 45 = .ok (.aload_n 0, 1) := by decide +kernel
theorem dX7_cheat_46 : decode cX7_cheat 46 = .ok (.getfield 29, 3) := by decide +kernel
theorem dX7_cheat_49 : decode cX7_cheat 49 = .ok (.iload_n 1, 1) := by decide +kernel
theorem dX7_cheat_50 : decode cX7_cheat 50 = .ok (.iaload, 1) := by decide +kernel
theorem dX7_cheat_51 : decode cX7_cheat 51 = .ok (.aload_n 0, 1) := by decide +kernel
theorem dX7_cheat_52 : decode cX7_cheat 52 = .ok (.iload_n 1, 1) := by decide +kernel
theorem dX7_cheat_53 : decode cX7_cheat 53 = .ok (.iconst 1, 1) := by decide +kernel
theorem dX7_cheat_54 : decode cX7_cheat 54 = .ok (.iload_n 3, 1) := by decide +kernel
theorem dX7_cheat_55 : decode cX7_cheat 55 = .ok (.invokevirtual 145, 3) := by decide +kernel
theorem dX7_cheat_58 : decode cX7_cheat 58 = .ok (.invokestatic 283, 3) := by decide +kernel
theorem dX7_cheat_61 : decode cX7_cheat 61 = .ok (.iload_n 2, 1) := by decide +kernel
theorem dX7_cheat_62 : decode cX7_cheat 62 = .ok (.if_icmp .le 5, 3) := by decide +kernel
theorem dX7_cheat_65 : decode cX7_cheat 65 = .ok (.iload_n 3, 1) := by decide +kernel
theorem dX7_cheat_66 : decode cX7_cheat 66 = .ok (.ireturn, 1) := by decide +kernel
theorem dX7_cheat_67 : decode cX7_cheat 67 = .ok (.iinc 3 1, 3) := by decide +kernel
theorem dX7_cheat_70 : decode cX7_cheat 70 = .ok (.goto (-31), 3) := by decide +kernel
theorem dX7_cheat_73 : decode cX7_cheat 73 = .ok (.iconst (-1), 1) := by decide +kernel
theorem dX7_cheat_74 : decode cX7_cheat 74 = .ok (.ireturn, 1) := by decide +kernel
theorem dX7_which_0 : decode cX7_which 0 = .ok (.iload_n 1, 1) := by decide +kernel
theorem dX7_which_1 : decode cX7_which 1 = .ok (.i2l, 1) := by decide +kernel
theorem dX7_which_2 : decode cX7_which 2 = .ok (.lconst 0, 1) := by decide +kernel
theorem dX7_which_3 : decode cX7_which 3 = .ok (.ldc2_w 131, 3) := by decide +kernel
theorem dX7_which_6 : decode cX7_which 6 = .ok (.invokestatic 113, 3) := by decide +kernel
theorem dX7_which_9 : decode cX7_which 9 = .ok (.ifCond .ne 6, 3) := by decide +kernel
theorem dX7_which_12 : decode cX7_which 12 = .ok (.bipush (-2), 2) := by decide +kernel
theorem dX7_which_14 : decode cX7_which 14 = .ok (.ireturn, 1) := by decide +kernel
theorem dX7_which_15 : decode cX7_which 15 = .ok (.iconst 0, 1) := by decide +kernel
theorem dX7_which_16 : decode cX7_which 16 = .ok (.istore_n 2, 1) := by decide +kernel
theorem dX7_which_17 : decode cX7_which 17 = .ok (.iconst 0, 1) := by decide +kernel
theorem dX7_which_18 : decode cX7_which 18 = .ok (.istore_n 3, 1) := by decide +kernel
theorem dX7_which_19 : decode cX7_which 19 = .ok (.iload_n 3, 1) := by decide +kernel
theorem dX7_which_20 : decode cX7_which 20 = .ok (.aload_n 0, 1) := by decide +kernel
theorem dX7_which_21 : decode cX7_which 21 = .ok (.getfield 110, 3) := by decide +kernel
theorem dX7_which_24 : decode cX7_which 24 = .ok (.if_icmp .ge 48, 3) := by decide +kernel
theorem dX7_which_27 : decode cX7_which 27 = .ok (.iload_n 2, 1) := by decide +kernel
theorem dX7_which_28 : decode cX7_which 28 = .ok (.aload_n 0, 1) := by decide +kernel
theorem dX7_which_29 : decode cX7_which 29 = .ok (.iload_n 3, 1) := by decide +kernel
theorem dX7_which_30 : decode cX7_which 30 = .ok (.aload_n 0, 1) := by decide +kernel
theorem dX7_which_31 : decode cX7_which 31 = .ok (.getfield 35, 3) := by decide +kernel
theorem dX7_which_34 : decode cX7_which 34 = .ok (.iload_n 3, 1) := by decide +kernel
theorem dX7_which_35 : decode cX7_which 35 = .ok (.iaload, 1) := by decide +kernel
theorem dX7_which_36 : decode cX7_which 36 = .ok (.aload_n 0, 1) := by decide +kernel
theorem dX7_which_37 : decode cX7_which 37 = .ok (.getfield 29, 3) := by decide +kernel
theorem dX7_which_40 : decode cX7_which 40 = .ok (.iload_n 3, 1) := by decide +kernel
theorem dX7_which_41 : decode cX7_which 41 = .ok (.iaload, 1) := by decide +kernel
theorem dX7_which_42 : decode cX7_which 42 = .ok (.iadd, 1) := by decide +kernel
theorem dX7_which_43 : decode cX7_which 43 = .ok (.iconst 0, 1) := by decide +kernel
theorem dX7_which_44 : decode cX7_which 44 = .ok (.sipush 999, 3) := by decide +kernel
theorem dX7_which_47 : decode cX7_which 47 = .ok (.invokestatic 272, 3) := by decide +kernel
theorem dX7_which_50 : decode cX7_which 50 = .ok (.invokevirtual 141, 3) := by decide +kernel
theorem dX7_which_53 : decode cX7_which 53 = .ok (.iload_n 1, 1) := by decide +kernel
theorem dX7_which_54 : decode cX7_which 54 = .ok (.if_icmp .ne 7, 3) := by decide +kernel
theorem dX7_which_57 : decode cX7_which 57 = .ok (.iconst 1, 1) := by decide +kernel
theorem dX7_which_58 : decode cX7_which 58 = .ok (.goto 4, 3) := by decide +kernel
theorem dX7_which_61 : decode cX7_which 61 = .ok (.iconst 0, 1) := by decide +kernel
theorem dX7_which_62 : decode cX7_which 62 = .ok (.iload_n 3, 1) := by decide +kernel
theorem dX7_which_63 : decode cX7_which 63 = .ok (.ishl, 1) := by decide +kernel
theorem dX7_which_64 : decode cX7_which 64 = .ok (.ior, 1) := by decide +kernel
theorem dX7_which_65 : decode cX7_which 65 = .ok (.istore_n 2, 1) := by decide +kernel
theorem dX7_which_66 : decode cX7_which 66 = .ok (.iinc 3 1, 3) := by decide +kernel
theorem dX7_which_69 : decode cX7_which 69 = .ok (.goto (-50), 3) := by decide +kernel
theorem dX7_which_72 : decode cX7_which 72 = .ok (.iload_n 2, 1) := by decide +kernel
theorem dX7_which_73 : decode cX7_which 73 = .ok (.ireturn, 1) := by decide +kernel
theorem dX7_drifts_0 : decode cX7_drifts 0 = .ok (.iconst 0, 1) := by decide +kernel
theorem dX7_drifts_1 : decode cX7_drifts 1 = .ok (.istore 4, 2) := by decide +kernel
theorem dX7_drifts_3 : decode cX7_drifts 3 = .ok (.iconst 1, 1) := by decide +kernel
theorem dX7_drifts_4 : decode cX7_drifts 4 = .ok (.istore 5, 2) := by decide +kernel
theorem dX7_drifts_6 : decode cX7_drifts 6 = .ok (.iload 5, 2) := by decide +kernel
theorem dX7_drifts_8 : decode cX7_drifts 8 = .ok (.iload_n 2, 1) := by decide +kernel
theorem dX7_drifts_9 : decode cX7_drifts 9 = .ok (.if_icmp .gt 96, 3) := by decide +kernel
theorem dX7_drifts_12 : decode cX7_drifts 12 = .ok (.iload 5, 2) := by decide +kernel
theorem dX7_drifts_14 : decode cX7_drifts 14 = .ok (.iconst 1, 1) := by decide +kernel
theorem dX7_drifts_15 : decode cX7_drifts 15 = .ok (.isub, 1) := by decide +kernel
theorem dX7_drifts_16 : decode cX7_drifts 16 = .ok (.iload_n 3, 1) := by decide +kernel
theorem dX7_drifts_17 : decode cX7_drifts 17 = .ok (.idiv, 1) := by decide +kernel
theorem dX7_drifts_18 : decode cX7_drifts 18 = .ok (.istore 6, 2) := by decide +kernel
theorem dX7_drifts_20 : decode cX7_drifts 20 = .ok (.aload_n 0, 1) := by decide +kernel
theorem dX7_drifts_21 : decode cX7_drifts 21 = .ok (.getfield 72, 3) := by decide +kernel
theorem dX7_drifts_24 : decode cX7_drifts 24 = .ok (.iload 5, 2) := by decide +kernel
theorem dX7_drifts_26 : decode cX7_drifts 26 = .ok (.aload_n 0, 1) := by decide +kernel
theorem dX7_drifts_27 : decode cX7_drifts 27 = .ok (.getfield 72, 3) := by decide +kernel
theorem dX7_drifts_30 : decode cX7_drifts 30 = .ok (.iload 6, 2) := by decide +kernel
theorem dX7_drifts_32 : decode cX7_drifts 32 = .ok (.iaload, 1) := by decide +kernel
theorem dX7_drifts_33 : decode cX7_drifts 33 = .ok (.iconst 1, 1) := by decide +kernel
theorem dX7_drifts_34 : decode cX7_drifts 34 = .ok (.iadd, 1) := by decide +kernel
theorem dX7_drifts_35 : decode cX7_drifts 35 = .ok (.iastore, 1) := by decide +kernel
theorem dX7_drifts_36 : decode cX7_drifts 36 = .ok (.aload_n 0, 1) := by decide +kernel
theorem dX7_drifts_37 : decode cX7_drifts 37 = .ok (.getfield 69, 3) := by decide +kernel
theorem dX7_drifts_40 : decode cX7_drifts 40 = .ok (.iload 5, 2) := by decide +kernel
theorem dX7_drifts_42 : decode cX7_drifts 42 = .ok (.aload_n 0, 1) := by decide +kernel
theorem dX7_drifts_43 : decode cX7_drifts 43 = .ok (.getfield 69, 3) := by decide +kernel
theorem dX7_drifts_46 : decode cX7_drifts 46 = .ok (.iload 6, 2) := by decide +kernel
theorem dX7_drifts_48 : decode cX7_drifts 48 = .ok (.iaload, 1) := by decide +kernel
theorem dX7_drifts_49 : decode cX7_drifts 49 = .ok (.aload_n 0, 1) := by decide +kernel
theorem dX7_drifts_50 : decode cX7_drifts 50 = .ok (.iconst 2, 1) := by decide +kernel
theorem dX7_drifts_51 : decode cX7_drifts 51 = .ok (.aload_n 0, 1) := by decide +kernel
theorem dX7_drifts_52 : decode cX7_drifts 52 = .ok (.getfield 29, 3) := by decide +kernel
theorem dX7_drifts_55 : decode cX7_drifts 55 = .ok (.iload_n 1, 1) := by decide +kernel
theorem dX7_drifts_56 : decode cX7_drifts 56 = .ok (.iaload, 1) := by decide +kernel
theorem dX7_drifts_57 : decode cX7_drifts 57 = .ok (.iconst 0, 1) := by decide +kernel
theorem dX7_drifts_58 : decode cX7_drifts 58 = .ok (.iconst 0, 1) := by decide +kernel
theorem dX7_drifts_59 : decode cX7_drifts 59 = .ok (.iload 5, 2) := by decide +kernel
theorem dX7_drifts_61 : decode cX7_drifts 61 = .ok (.aload_n 0, 1) := by decide +kernel
theorem dX7_drifts_62 : decode cX7_drifts 62 = .ok (.getfield 72, 3) := by decide +kernel
theorem dX7_drifts_65 : decode cX7_drifts 65 = .ok (.iload 5, 2) := by decide +kernel
theorem dX7_drifts_67 : decode cX7_drifts 67 = .ok (.iaload, 1) := by decide +kernel
theorem dX7_drifts_68 : decode cX7_drifts 68 = .ok (.invokevirtual 308, 3) := by decide +kernel
theorem dX7_drifts_71 : decode cX7_drifts 71 = .ok (.iadd, 1) := by decide +kernel
theorem dX7_drifts_72 : decode cX7_drifts 72 = .ok (.iastore, 1) := by decide +kernel
theorem dX7_drifts_73 : decode cX7_drifts 73 = .ok (.aload_n 0, 1) := by decide +kernel
theorem dX7_drifts_74 : decode cX7_drifts 74 = .ok (.getfield 69, 3) := by decide +kernel
theorem dX7_drifts_77 : decode cX7_drifts 77 = .ok (.iload 5, 2) := by decide +kernel
theorem dX7_drifts_79 : decode cX7_drifts 79 = .ok (.iaload, 1) := by decide +kernel
theorem dX7_drifts_80 : decode cX7_drifts 80 = .ok (.iload 4, 2) := by decide +kernel
theorem dX7_drifts_82 : decode cX7_drifts 82 = .ok (.if_icmp .le 13, 3) := by decide +kernel
theorem dX7_drifts_85 : decode cX7_drifts 85 = .ok (.aload_n 0, 1) := by decide +kernel
theorem dX7_drifts_86 : decode cX7_drifts 86 = .ok (.getfield 69, 3) := by decide +kernel
theorem dX7_drifts_89 : decode cX7_drifts 89 = .ok (.iload 5, 2) := by decide +kernel
theorem dX7_drifts_91 : decode cX7_drifts 91 = .ok (.iaload, 1) := by decide +kernel
theorem dX7_drifts_92 : decode cX7_drifts 92 = .ok (.goto 5, 3) := by decide +kernel
theorem dX7_drifts_95 : decode cX7_drifts 95 = .ok (.iload 4, 2) := by decide +kernel
theorem dX7_drifts_97 : decode cX7_drifts 97 = .ok (.istore 4, 2) := by decide +kernel
theorem dX7_drifts_99 : decode cX7_drifts 99 = .ok (.iinc 5 1, 3) := by decide +kernel
theorem dX7_drifts_102 : decode cX7_drifts 102 = .ok (.goto (-96), 3) := by decide +kernel
theorem dX7_drifts_105 : decode cX7_drifts 105 = .ok (.iload 4, 2) := by decide +kernel
theorem dX7_drifts_107 : decode cX7_drifts 107 = .ok (.ireturn, 1) := by decide +kernel
theorem dX7_copies_0 : decode cX7_copies 0 = .ok (.aload_n 0, 1) := by decide +kernel
theorem dX7_copies_1 : decode cX7_copies 1 = .ok (.iload_n 1, 1) := by decide +kernel
theorem dX7_copies_2 : decode cX7_copies 2 = .ok (.invokevirtual 123, 3) := by decide +kernel
theorem dX7_copies_5 : decode cX7_copies 5 = .ok (.ifCond .eq 37, 3) := by decide +kernel
theorem dX7_copies_8 : decode cX7_copies 8 = .ok (.iload_n 2, 1) := by decide +kernel
theorem dX7_copies_9 : decode cX7_copies 9 = .ok (.i2l, 1) := by decide +kernel
theorem dX7_copies_10 : decode cX7_copies 10 = .ok (.lconst 1, 1) := by decide +kernel
theorem dX7_copies_11 : decode cX7_copies 11 = .ok (.ldc2_w 323, 3) := by decide +kernel
theorem dX7_copies_14 : decode cX7_copies 14 = .ok (.invokestatic 113, 3) := by decide +kernel
theorem dX7_copies_17 : decode cX7_copies 17 = .ok (.ifCond .eq 25, 3) := by decide +kernel
theorem dX7_copies_20 : decode cX7_copies 20 = .ok (.iload_n 3, 1) := by decide +kernel
theorem dX7_copies_21 : decode cX7_copies 21 = .ok (.i2l, 1) := by decide +kernel
theorem dX7_copies_22 : decode cX7_copies 22 = .ok (.lconst 1, 1) := by decide +kernel
theorem dX7_copies_23 : decode cX7_copies 23 = .ok (.ldc2_w 338, 3) := by decide +kernel
theorem dX7_copies_26 : decode cX7_copies 26 = .ok (.invokestatic 113, 3) := by decide +kernel
theorem dX7_copies_29 : decode cX7_copies 29 = .ok (.ifCond .eq 13, 3) := by decide +kernel
theorem dX7_copies_32 : decode cX7_copies 32 = .ok (.aload_n 0, 1) := by decide +kernel
theorem dX7_copies_33 : decode cX7_copies 33 = .ok (.iload_n 1, 1) := by decide +kernel
theorem dX7_copies_34 : decode cX7_copies 34 = .ok (.iload_n 2, 1) := by decide +kernel
theorem dX7_copies_35 : decode cX7_copies 35 = .ok (.iload_n 3, 1) := by decide +kernel
theorem dX7_copies_36 : decode cX7_copies 36 = .ok (.invokevirtual 340, 3) := by decide +kernel
theorem dX7_copies_39 : decode cX7_copies 39 = .ok (.goto 5, 3) := by decide +kernel
theorem dX7_copies_42 : decode cX7_copies 42 = .ok (.bipush (-2), 2) := by decide +kernel
theorem dX7_copies_44 : decode cX7_copies 44 = .ok (.ireturn, 1) := by decide +kernel
theorem dX7_best_0 : decode cX7_best 0 = .ok (.aload_n 0, 1) := by decide +kernel
theorem dX7_best_1 : decode cX7_best 1 = .ok (.iload_n 1, 1) := by decide +kernel
theorem dX7_best_2 : decode cX7_best 2 = .ok (.invokevirtual 123, 3) := by decide +kernel
theorem dX7_best_5 : decode cX7_best 5 = .ok (.ifCond .eq 25, 3) := by decide +kernel
theorem dX7_best_8 : decode cX7_best 8 = .ok (.iload_n 2, 1) := by decide +kernel
theorem dX7_best_9 : decode cX7_best 9 = .ok (.i2l, 1) := by decide +kernel
theorem dX7_best_10 : decode cX7_best 10 = .ok (.lconst 1, 1) := by decide +kernel
theorem dX7_best_11 : decode cX7_best 11 = .ok (.ldc2_w 323, 3) := by decide +kernel
theorem dX7_best_14 : decode cX7_best 14 = .ok (.invokestatic 113, 3) := by decide +kernel
theorem dX7_best_17 : decode cX7_best 17 = .ok (.ifCond .eq 13, 3) := by decide +kernel
theorem dX7_best_20 : decode cX7_best 20 = .ok (.iload_n 3, 1) := by decide +kernel
theorem dX7_best_21 : decode cX7_best 21 = .ok (.i2l, 1) := by decide +kernel
theorem dX7_best_22 : decode cX7_best 22 = .ok (.lconst 0, 1) := by decide +kernel
theorem dX7_best_23 : decode cX7_best 23 = .ok (.lconst 1, 1) := by decide +kernel
theorem dX7_best_24 : decode cX7_best 24 = .ok (.invokestatic 113, 3) := by decide +kernel
theorem dX7_best_27 : decode cX7_best 27 = .ok (.ifCond .ne 6, 3) := by decide +kernel
theorem dX7_best_30 : decode cX7_best 30 = .ok (.bipush (-2), 2) := by decide +kernel
theorem dX7_best_32 : decode cX7_best 32 = .ok (.ireturn, 1) := by decide +kernel
theorem dX7_best_33 : decode cX7_best 33 = .ok (.iconst 0, 1) := by decide +kernel
theorem dX7_best_34 : decode cX7_best 34 = .ok (.istore 4, 2) := by decide +kernel
theorem dX7_best_36 : decode cX7_best 36 = .ok (.iconst 0, 1) := by decide +kernel
theorem dX7_best_37 : decode cX7_best 37 = .ok (.istore 5, 2) := by decide +kernel
theorem dX7_best_39 : decode cX7_best 39 = .ok (.iconst 1, 1) := by decide +kernel
theorem dX7_best_40 : decode cX7_best 40 = .ok (.istore 6, 2) := by decide +kernel
theorem dX7_best_42 : decode cX7_best 42 = .ok (.iload 6, 2) := by decide +kernel
theorem dX7_best_44 : decode cX7_best 44 = .ok (.iconst 5, 1) := by decide +kernel
theorem dX7_best_45 : decode cX7_best 45 = .ok (.if_icmp .ge 40, 3) := by decide +kernel
theorem dX7_best_48 : decode cX7_best 48 = .ok (.aload_n 0, 1) := by decide +kernel
theorem dX7_best_49 : decode cX7_best 49 = .ok (.iload_n 1, 1) := by decide +kernel
theorem dX7_best_50 : decode cX7_best 50 = .ok (.iload_n 2, 1) := by decide +kernel
theorem dX7_best_51 : decode cX7_best 51 = .ok (.iload 6, 2) := by decide +kernel
theorem dX7_best_53 : decode cX7_best 53 = .ok (.invokevirtual 340, 3) := by decide +kernel
theorem dX7_best_56 : decode cX7_best 56 = .ok (.istore 7, 2) := by decide +kernel
theorem dX7_best_58 : decode cX7_best 58 = .ok (.iload 6, 2) := by decide +kernel
theorem dX7_best_60 : decode cX7_best 60 = .ok (.iconst 1, 1) := by decide +kernel
theorem dX7_best_61 : decode cX7_best 61 = .ok (.if_icmp .eq 10, 3) := by decide +kernel
theorem dX7_best_64 : decode cX7_best 64 = .ok (.iload 7, 2) := by decide +kernel
theorem dX7_best_66 : decode cX7_best 66 = .ok (.iload 5, 2) := by decide +kernel
theorem dX7_best_68 : decode cX7_best 68 = .ok (.if_icmp .ge 11, 3) := by decide +kernel
theorem dX7_best_71 : decode cX7_best 71 = .ok (.iload 6, 2) := by decide +kernel
theorem dX7_best_73 : decode cX7_best 73 = .ok (.istore 4, 2) := by decide +kernel
theorem dX7_best_75 : decode cX7_best 75 = .ok (.iload 7, 2) := by decide +kernel
theorem dX7_best_77 : decode cX7_best 77 = .ok (.istore 5, 2) := by decide +kernel
theorem dX7_best_79 : decode cX7_best 79 = .ok (.iinc 6 1, 3) := by decide +kernel
theorem dX7_best_82 : decode cX7_best 82 = .ok (.goto (-40), 3) := by decide +kernel
theorem dX7_best_85 : decode cX7_best 85 = .ok (.iload_n 3, 1) := by decide +kernel
theorem dX7_best_86 : decode cX7_best 86 = .ok (.ifCond .ne 8, 3) := by decide +kernel
theorem dX7_best_89 : decode cX7_best 89 = .ok (.iload 4, 2) := by decide +kernel
theorem dX7_best_91 : decode cX7_best 91 = .ok (.goto 5, 3) := by decide +kernel
theorem dX7_best_94 : decode cX7_best 94 = .ok (.iload 5, 2) := by decide +kernel
theorem dX7_best_96 : decode cX7_best 96 = .ok (.ireturn, 1) := by decide +kernel
theorem dX7_laysAside_0 : decode cX7_laysAside 0 = .ok (.iconst 0, 1) := by decide +kernel
theorem dX7_laysAside_1 : decode cX7_laysAside 1 = .ok (.istore_n 1, 1) := by decide +kernel
theorem dX7_laysAside_2 : decode cX7_laysAside 2 = .ok (.iload_n 1, 1) := by decide +kernel
theorem dX7_laysAside_3 : decode cX7_laysAside 3 = .ok (.iconst 4, 1) := by decide +kernel
theorem dX7_laysAside_4 : decode cX7_laysAside 4 = .ok (.if_icmp .ge 45, 3) := by decide +kernel
theorem dX7_laysAside_7 : decode cX7_laysAside 7 = .ok (.aload_n 0, 1) := by decide +kernel
theorem dX7_laysAside_8 : decode cX7_laysAside 8 = .ok (.getfield 75, 3) := by decide +kernel
theorem dX7_laysAside_11 : decode cX7_laysAside 11 = .ok (.iload_n 1, 1) := by decide +kernel
theorem dX7_laysAside_12 : decode cX7_laysAside 12 = .ok (.aload_n 0, 1) := by decide +kernel
theorem dX7_laysAside_13 : decode cX7_laysAside 13 = .ok (.getfield 29, 3) := by decide +kernel
theorem dX7_laysAside_16 : decode cX7_laysAside 16 = .ok (.iload_n 1, 1) := by decide +kernel
theorem dX7_laysAside_17 : decode cX7_laysAside 17 = .ok (.iaload, 1) := by decide +kernel
theorem dX7_laysAside_18 : decode cX7_laysAside 18 = .ok (.iastore, 1) := by decide +kernel
theorem dX7_laysAside_19 : decode cX7_laysAside 19 = .ok (.aload_n 0, 1) := by decide +kernel
theorem dX7_laysAside_20 : decode cX7_laysAside 20 = .ok (.getfield 78, 3) := by decide +kernel
theorem dX7_laysAside_23 : decode cX7_laysAside 23 = .ok (.iload_n 1, 1) := by decide +kernel
theorem dX7_laysAside_24 : decode cX7_laysAside 24 = .ok (.aload_n 0, 1) := by decide +kernel
theorem dX7_laysAside_25 : decode cX7_laysAside 25 = .ok (.getfield 32, 3) := by decide +kernel
theorem dX7_laysAside_28 : decode cX7_laysAside 28 = .ok (.iload_n 1, 1) := by decide +kernel
theorem dX7_laysAside_29 : decode cX7_laysAside 29 = .ok (.iaload, 1) := by decide +kernel
theorem dX7_laysAside_30 : decode cX7_laysAside 30 = .ok (.iastore, 1) := by decide +kernel
theorem dX7_laysAside_31 : decode cX7_laysAside 31 = .ok (.aload_n 0, 1) := by decide +kernel
theorem dX7_laysAside_32 : decode cX7_laysAside 32 = .ok (.getfield 81, 3) := by decide +kernel
theorem dX7_laysAside_35 : decode cX7_laysAside 35 = .ok (.iload_n 1, 1) := by decide +kernel
theorem dX7_laysAside_36 : decode cX7_laysAside 36 = .ok (.aload_n 0, 1) := by decide +kernel
theorem dX7_laysAside_37 : decode cX7_laysAside 37 = .ok (.getfield 35, 3) := by decide +kernel
theorem dX7_laysAside_40 : decode cX7_laysAside 40 = .ok (.iload_n 1, 1) := by decide +kernel
theorem dX7_laysAside_41 : decode cX7_laysAside 41 = .ok (.iaload, 1) := by decide +kernel
theorem dX7_laysAside_42 : decode cX7_laysAside 42 = .ok (.iastore, 1) := by decide +kernel
theorem dX7_laysAside_43 : decode cX7_laysAside 43 = .ok (.iinc 1 1, 3) := by decide +kernel
theorem dX7_laysAside_46 : decode cX7_laysAside 46 = .ok (.goto (-44), 3) := by decide +kernel
theorem dX7_laysAside_49 : decode cX7_laysAside 49 = .ok (.aload_n 0, 1) := by decide +kernel
theorem dX7_laysAside_50 : decode cX7_laysAside 50 = .ok (.aload_n 0, 1) := by decide +kernel
theorem dX7_laysAside_51 : decode cX7_laysAside 51 = .ok (.getfield 136, 3) := by decide +kernel
theorem dX7_laysAside_54 : decode cX7_laysAside 54 = .ok (.putfield 343, 3) := by decide +kernel
theorem dX7_laysAside_57 : decode cX7_laysAside 57 = .ok (.return_, 1) := by decide +kernel
theorem dX7_laysBack_0 : decode cX7_laysBack 0 = .ok (.iconst 0, 1) := by decide +kernel
theorem dX7_laysBack_1 : decode cX7_laysBack 1 = .ok (.istore_n 1, 1) := by decide +kernel
theorem dX7_laysBack_2 : decode cX7_laysBack 2 = .ok (.iload_n 1, 1) := by decide +kernel
theorem dX7_laysBack_3 : decode cX7_laysBack 3 = .ok (.iconst 4, 1) := by decide +kernel
theorem dX7_laysBack_4 : decode cX7_laysBack 4 = .ok (.if_icmp .ge 45, 3) := by decide +kernel
theorem dX7_laysBack_7 : decode cX7_laysBack 7 = .ok (.aload_n 0, 1) := by decide +kernel
theorem dX7_laysBack_8 : decode cX7_laysBack 8 = .ok (.getfield 29, 3) := by decide +kernel
theorem dX7_laysBack_11 : decode cX7_laysBack 11 = .ok (.iload_n 1, 1) := by decide +kernel
theorem dX7_laysBack_12 : decode cX7_laysBack 12 = .ok (.aload_n 0, 1) := by decide +kernel
theorem dX7_laysBack_13 : decode cX7_laysBack 13 = .ok (.getfield 75, 3) := by decide +kernel
theorem dX7_laysBack_16 : decode cX7_laysBack 16 = .ok (.iload_n 1, 1) := by decide +kernel
theorem dX7_laysBack_17 : decode cX7_laysBack 17 = .ok (.iaload, 1) := by decide +kernel
theorem dX7_laysBack_18 : decode cX7_laysBack 18 = .ok (.iastore, 1) := by decide +kernel
theorem dX7_laysBack_19 : decode cX7_laysBack 19 = .ok (.aload_n 0, 1) := by decide +kernel
theorem dX7_laysBack_20 : decode cX7_laysBack 20 = .ok (.getfield 32, 3) := by decide +kernel
theorem dX7_laysBack_23 : decode cX7_laysBack 23 = .ok (.iload_n 1, 1) := by decide +kernel
theorem dX7_laysBack_24 : decode cX7_laysBack 24 = .ok (.aload_n 0, 1) := by decide +kernel
theorem dX7_laysBack_25 : decode cX7_laysBack 25 = .ok (.getfield 78, 3) := by decide +kernel
theorem dX7_laysBack_28 : decode cX7_laysBack 28 = .ok (.iload_n 1, 1) := by decide +kernel
theorem dX7_laysBack_29 : decode cX7_laysBack 29 = .ok (.iaload, 1) := by decide +kernel
theorem dX7_laysBack_30 : decode cX7_laysBack 30 = .ok (.iastore, 1) := by decide +kernel
theorem dX7_laysBack_31 : decode cX7_laysBack 31 = .ok (.aload_n 0, 1) := by decide +kernel
theorem dX7_laysBack_32 : decode cX7_laysBack 32 = .ok (.getfield 35, 3) := by decide +kernel
theorem dX7_laysBack_35 : decode cX7_laysBack 35 = .ok (.iload_n 1, 1) := by decide +kernel
theorem dX7_laysBack_36 : decode cX7_laysBack 36 = .ok (.aload_n 0, 1) := by decide +kernel
theorem dX7_laysBack_37 : decode cX7_laysBack 37 = .ok (.getfield 81, 3) := by decide +kernel
theorem dX7_laysBack_40 : decode cX7_laysBack 40 = .ok (.iload_n 1, 1) := by decide +kernel
theorem dX7_laysBack_41 : decode cX7_laysBack 41 = .ok (.iaload, 1) := by decide +kernel
theorem dX7_laysBack_42 : decode cX7_laysBack 42 = .ok (.iastore, 1) := by decide +kernel
theorem dX7_laysBack_43 : decode cX7_laysBack 43 = .ok (.iinc 1 1, 3) := by decide +kernel
theorem dX7_laysBack_46 : decode cX7_laysBack 46 = .ok (.goto (-44), 3) := by decide +kernel
theorem dX7_laysBack_49 : decode cX7_laysBack 49 = .ok (.aload_n 0, 1) := by decide +kernel
theorem dX7_laysBack_50 : decode cX7_laysBack 50 = .ok (.aload_n 0, 1) := by decide +kernel
theorem dX7_laysBack_51 : decode cX7_laysBack 51 = .ok (.getfield 343, 3) := by decide +kernel
theorem dX7_laysBack_54 : decode cX7_laysBack 54 = .ok (.putfield 136, 3) := by decide +kernel
theorem dX7_laysBack_57 : decode cX7_laysBack 57 = .ok (.return_, 1) := by decide +kernel
theorem dX7_judge_0 : decode cX7_judge 0 = .ok (.iload_n 1, 1) := by decide +kernel
theorem dX7_judge_1 : decode cX7_judge 1 = .ok (.invokestatic 346, 3) := by decide +kernel
theorem dX7_judge_4 : decode cX7_judge 4 = .ok (.ifCond .ne 6, 3) := by decide +kernel
theorem dX7_judge_7 : decode cX7_judge 7 = .ok (.bipush (-2), 2) := by decide +kernel
theorem dX7_judge_9 : decode cX7_judge 9 = .ok (.ireturn, 1) := by decide +kernel
theorem dX7_judge_10 : decode cX7_judge 10 = .ok (.aload_n 0, 1) := by decide +kernel
theorem dX7_judge_11 : decode cX7_judge 11 = .ok (.getfield 90, 3) := by decide +kernel
theorem dX7_judge_14 : decode cX7_judge 14 = .ok (.iload_n 1, 1) := by decide +kernel
theorem dX7_judge_15 : decode cX7_judge 15 = .ok (.baload, 1) := by decide +kernel
theorem dX7_judge_16 : decode cX7_judge 16 = .ok (.ifCond .ne 6, 3) := by decide +kernel
theorem dX7_judge_19 : decode cX7_judge 19 = .ok (.bipush (-11), 2) := by decide +kernel
theorem dX7_judge_21 : decode cX7_judge 21 = .ok (.ireturn, 1) := by decide +kernel
theorem dX7_judge_22 : decode cX7_judge 22 = .ok (.aload_n 0, 1) := by decide +kernel
theorem dX7_judge_23 : decode cX7_judge 23 = .ok (.getfield 97, 3) := by decide +kernel
theorem dX7_judge_26 : decode cX7_judge 26 = .ok (.iload_n 1, 1) := by decide +kernel
theorem dX7_judge_27 : decode cX7_judge 27 = .ok (.iaload, 1) := by decide +kernel
theorem dX7_judge_28 : decode cX7_judge 28 = .ok (.iconst 3, 1) := by decide +kernel
theorem dX7_judge_29 : decode cX7_judge 29 = .ok (.irem, 1) := by decide +kernel
theorem dX7_judge_30 : decode cX7_judge 30 = .ok (.ifCond .eq 6, 3) := by decide +kernel
theorem dX7_judge_33 : decode cX7_judge 33 = .ok (.bipush (-2), 2) := by decide +kernel
theorem dX7_judge_35 : decode cX7_judge 35 = .ok (.ireturn, 1) := by decide +kernel
theorem dX7_judge_36 : decode cX7_judge 36 = .ok (.aload_n 0, 1) := by decide +kernel
theorem dX7_judge_37 : decode cX7_judge 37 = .ok (.invokevirtual 349, 3) := by decide +kernel
theorem dX7_judge_40 : decode cX7_judge 40 = .ok (.iconst (-1), 1) := by decide +kernel
theorem dX7_judge_41 : decode cX7_judge 41 = .ok (.istore_n 2, 1) := by decide +kernel
theorem dX7_judge_42 : decode cX7_judge 42 = .ok (.iconst 0, 1) := by decide +kernel
theorem dX7_judge_43 : decode cX7_judge 43 = .ok (.istore_n 3, 1) := by decide +kernel
theorem dX7_judge_44 : decode cX7_judge 44 = .ok (.iconst 0, 1) := by decide +kernel
theorem dX7_judge_45 : decode cX7_judge 45 = .ok (.istore 4, 2) := by decide +kernel
theorem dX7_judge_47 : decode cX7_judge 47 = .ok (.iload 4, 2) := by decide +kernel
theorem dX7_judge_49 : decode cX7_judge 49 = .ok (.aload_n 0, 1) := by decide +kernel
theorem dX7_judge_50 : decode cX7_judge 50 = .ok (.getfield 97, 3) := by decide +kernel
theorem dX7_judge_53 : decode cX7_judge 53 = .ok (.iload_n 1, 1) := by decide +kernel
theorem dX7_judge_54 : decode cX7_judge 54 = .ok (.iaload, 1) := by decide +kernel
theorem dX7_judge_55 : decode cX7_judge 55 = .ok (.iconst 3, 1) := by decide +kernel
theorem dX7_judge_56 : decode cX7_judge 56 = .ok (.idiv, 1) := by decide +kernel
theorem dX7_judge_57 : decode cX7_judge 57 = .ok (.if_icmp .ge 139, 3) := by decide +kernel
theorem dX7_judge_60 : decode cX7_judge 60 = .ok (.iload_n 2, 1) := by decide +kernel
theorem dX7_judge_61 : decode cX7_judge 61 = .ok (.iconst (-1), 1) := by decide +kernel
theorem dX7_judge_62 : decode cX7_judge 62 = .ok (.if_icmp .ne 134, 3) := by decide +kernel
theorem dX7_judge_65 : decode cX7_judge 65 = .ok (.bipush 40, 2) := by decide +kernel
theorem dX7_judge_67 : decode cX7_judge 67 = .ok (.iload_n 1, 1) := by decide +kernel
theorem dX7_judge_68 : decode cX7_judge 68 = .ok (.imul, 1) := by decide +kernel
theorem dX7_judge_69 : decode cX7_judge 69 = .ok (.iconst 3, 1) := by decide +kernel
theorem dX7_judge_70 : decode cX7_judge 70 = .ok (.iload 4, 2) := by decide +kernel
theorem dX7_judge_72 : decode cX7_judge 72 = .ok (.imul, 1) := by decide +kernel
theorem dX7_judge_73 : decode cX7_judge 73 = .ok (.iadd, 1) := by decide +kernel
theorem dX7_judge_74 : decode cX7_judge 74 = .ok (.istore 5, 2) := by decide +kernel
theorem dX7_judge_76 : decode cX7_judge 76 = .ok (.aload_n 0, 1) := by decide +kernel
theorem dX7_judge_77 : decode cX7_judge 77 = .ok (.getfield 100, 3) := by decide +kernel
theorem dX7_judge_80 : decode cX7_judge 80 = .ok (.iload 5, 2) := by decide +kernel
theorem dX7_judge_82 : decode cX7_judge 82 = .ok (.iaload, 1) := by decide +kernel
theorem dX7_judge_83 : decode cX7_judge 83 = .ok (.istore 6, 2) := by decide +kernel
theorem dX7_judge_85 : decode cX7_judge 85 = .ok (.aload_n 0, 1) := by decide +kernel
theorem dX7_judge_86 : decode cX7_judge 86 = .ok (.getfield 100, 3) := by decide +kernel
theorem dX7_judge_89 : decode cX7_judge 89 = .ok (.iload 5, 2) := by decide +kernel
theorem dX7_judge_91 : decode cX7_judge 91 = .ok (.iconst 1, 1) := by decide +kernel
theorem dX7_judge_92 : decode cX7_judge 92 = .ok (.iadd, 1) := by decide +kernel
theorem dX7_judge_93 : decode cX7_judge 93 = .ok (.iaload, 1) := by decide +kernel
theorem dX7_judge_94 : decode cX7_judge 94 = .ok (.istore 7, 2) := by decide +kernel
theorem dX7_judge_96 : decode cX7_judge 96 = .ok (.aload_n 0, 1) := by decide +kernel
theorem dX7_judge_97 : decode cX7_judge 97 = .ok (.getfield 100, 3) := by decide +kernel
theorem dX7_judge_100 : decode cX7_judge 100 = .ok (.iload 5, 2) := by decide +kernel
theorem dX7_judge_102 : decode cX7_judge 102 = .ok (.iconst 2, 1) := by decide +kernel
theorem dX7_judge_103 : decode cX7_judge 103 = .ok (.iadd, 1) := by decide +kernel
theorem dX7_judge_104 : decode cX7_judge 104 = .ok (.iaload, 1) := by decide +kernel
theorem dX7_judge_105 : decode cX7_judge 105 = .ok (.istore 8, 2) := by decide +kernel
theorem dX7_judge_107 : decode cX7_judge 107 = .ok (.iload 6, 2) := by decide +kernel
theorem dX7_judge_109 : decode cX7_judge 109 = .ok (.i2l, 1) := by decide +kernel
theorem dX7_judge_110 : decode cX7_judge 110 = .ok (.iload_n 3, 1) := by decide +kernel
theorem dX7_judge_111 : decode cX7_judge 111 = .ok (.i2l, 1) := by decide +kernel
theorem dX7_judge_112 : decode cX7_judge 112 = .ok (.ldc2_w 278, 3) := by decide +kernel
theorem dX7_judge_115 : decode cX7_judge 115 = .ok (.invokestatic 113, 3) := by decide +kernel
theorem dX7_judge_118 : decode cX7_judge 118 = .ok (.ifCond .eq 25, 3) := by decide +kernel
theorem dX7_judge_121 : decode cX7_judge 121 = .ok (.aload_n 0, 1) := by decide +kernel
theorem dX7_judge_122 : decode cX7_judge 122 = .ok (.iload 7, 2) := by decide +kernel
theorem dX7_judge_124 : decode cX7_judge 124 = .ok (.invokevirtual 123, 3) := by decide +kernel
theorem dX7_judge_127 : decode cX7_judge 127 = .ok (.ifCond .eq 16, 3) := by decide +kernel
theorem dX7_judge_130 : decode cX7_judge 130 = .ok (.iload 8, 2) := by decide +kernel
theorem dX7_judge_132 : decode cX7_judge 132 = .ok (.i2l, 1) := by decide +kernel
theorem dX7_judge_133 : decode cX7_judge 133 = .ok (.lconst 1, 1) := by decide +kernel
theorem dX7_judge_134 : decode cX7_judge 134 = .ok (.ldc2_w 127, 3) := by decide +kernel
theorem dX7_judge_137 : decode cX7_judge 137 = .ok (.invokestatic 113, 3) := by decide +kernel
theorem dX7_judge_140 : decode cX7_judge 140 = .ok (.ifCond .ne 9, 3) := by decide +kernel
theorem dX7_judge_143 : decode cX7_judge 143 = .ok (.iload 4, 2) := by decide +kernel
theorem dX7_judge_145 : decode cX7_judge 145 = .ok (.istore_n 2, 1) := by decide +kernel
theorem dX7_judge_146 : decode cX7_judge 146 = .ok (.goto 44, 3) := by decide +kernel
theorem dX7_judge_149 : decode cX7_judge 149 = .ok (.aload_n 0, 1) := by decide +kernel
theorem dX7_judge_150 : decode cX7_judge 150 = .ok (.iload 6, 2) := by decide +kernel
theorem dX7_judge_152 : decode cX7_judge 152 = .ok (.iload_n 3, 1) := by decide +kernel
theorem dX7_judge_153 : decode cX7_judge 153 = .ok (.isub, 1) := by decide +kernel
theorem dX7_judge_154 : decode cX7_judge 154 = .ok (.invokevirtual 280, 3) := by decide +kernel
theorem dX7_judge_157 : decode cX7_judge 157 = .ok (.pop, 1) := by decide +kernel
theorem dX7_judge_158 : decode cX7_judge 158 = .ok (.iload 6, 2) := by decide +kernel
theorem dX7_judge_160 : decode cX7_judge 160 = .ok (.istore_n 3, 1) := by decide +kernel
theorem dX7_judge_161 : decode cX7_judge 161 = .ok (.aload_n 0, 1) := by decide +kernel
theorem dX7_judge_162 : decode cX7_judge 162 = .ok (.iload 7, 2) := by decide +kernel
theorem dX7_judge_164 : decode cX7_judge 164 = .ok (.iload 8, 2) := by decide +kernel
theorem dX7_judge_166 : decode cX7_judge 166 = .ok (.invokevirtual 275, 3) := by decide +kernel
theorem dX7_judge_169 : decode cX7_judge 169 = .ok (.ifCond .eq 18, 3) := by decide +kernel
theorem dX7_judge_172 : decode cX7_judge 172 = .ok (.aload_n 0, 1) := by decide +kernel
theorem dX7_judge_173 : decode cX7_judge 173 = .ok (.getfield 32, 3) := by decide +kernel
theorem dX7_judge_176 : decode cX7_judge 176 = .ok (.iload 7, 2) := by decide +kernel
theorem dX7_judge_178 : decode cX7_judge 178 = .ok (.dup2, 1) := by decide +kernel
theorem dX7_judge_179 : decode cX7_judge 179 = .ok (.iaload, 1) := by decide +kernel
theorem dX7_judge_180 : decode cX7_judge 180 = .ok (.iload 8, 2) := by decide +kernel
theorem dX7_judge_182 : decode cX7_judge 182 = .ok (.iadd, 1) := by decide +kernel
theorem dX7_judge_183 : decode cX7_judge 183 = .ok (.iastore, 1) := by decide +kernel
theorem dX7_judge_184 : decode cX7_judge 184 = .ok (.goto 6, 3) := by decide +kernel
theorem dX7_judge_187 : decode cX7_judge 187 = .ok (.iload 4, 2) := by decide +kernel
theorem dX7_judge_189 : decode cX7_judge 189 = .ok (.istore_n 2, 1) := by decide +kernel
theorem dX7_judge_190 : decode cX7_judge 190 = .ok (.iinc 4 1, 3) := by decide +kernel
theorem dX7_judge_193 : decode cX7_judge 193 = .ok (.goto (-146), 3) := by decide +kernel
theorem dX7_judge_196 : decode cX7_judge 196 = .ok (.aload_n 0, 1) := by decide +kernel
theorem dX7_judge_197 : decode cX7_judge 197 = .ok (.invokevirtual 352, 3) := by decide +kernel
theorem dX7_judge_200 : decode cX7_judge 200 = .ok (.iload_n 2, 1) := by decide +kernel
theorem dX7_judge_201 : decode cX7_judge 201 = .ok (.ireturn, 1) := by decide +kernel
theorem dX7_drawn_0 : decode cX7_drawn 0 = .ok (.iload_n 1, 1) := by decide +kernel
theorem dX7_drawn_1 : decode cX7_drawn 1 = .ok (.istore_n 2, 1) := by decide +kernel
theorem dX7_drawn_2 : decode cX7_drawn 2 = .ok (.iconst 0, 1) := by decide +kernel
theorem dX7_drawn_3 : decode cX7_drawn 3 = .ok (.istore_n 3, 1) := by decide +kernel
theorem dX7_drawn_4 : decode cX7_drawn 4 = .ok (.iconst 0, 1) := by decide +kernel
theorem dX7_drawn_5 : decode cX7_drawn 5 = .ok (.istore 4, 2) := by decide +kernel
theorem dX7_drawn_7 : decode cX7_drawn 7 = .ok (.iload 4, 2) := by decide +kernel
theorem dX7_drawn_9 : decode cX7_drawn 9 = .ok (.aload_n 0, 1) := by decide +kernel
theorem dX7_drawn_10 : decode cX7_drawn 10 = .ok (.getfield 110, 3) := by decide +kernel
theorem dX7_drawn_13 : decode cX7_drawn 13 = .ok (.if_icmp .ge 99, 3) := by decide +kernel
theorem dX7_drawn_16 : decode cX7_drawn 16 = .ok (.iload_n 2, 1) := by decide +kernel
theorem dX7_drawn_17 : decode cX7_drawn 17 = .ok (.ldc_w 355, 3) := by decide +kernel
theorem dX7_drawn_20 : decode cX7_drawn 20 = .ok (.imul, 1) := by decide +kernel
theorem dX7_drawn_21 : decode cX7_drawn 21 = .ok (.sipush 12345, 3) := by decide +kernel
theorem dX7_drawn_24 : decode cX7_drawn 24 = .ok (.iadd, 1) := by decide +kernel
theorem dX7_drawn_25 : decode cX7_drawn 25 = .ok (.istore_n 2, 1) := by decide +kernel
theorem dX7_drawn_26 : decode cX7_drawn 26 = .ok (.aload_n 0, 1) := by decide +kernel
theorem dX7_drawn_27 : decode cX7_drawn 27 = .ok (.getfield 32, 3) := by decide +kernel
theorem dX7_drawn_30 : decode cX7_drawn 30 = .ok (.iload 4, 2) := by decide +kernel
theorem dX7_drawn_32 : decode cX7_drawn 32 = .ok (.iaload, 1) := by decide +kernel
theorem dX7_drawn_33 : decode cX7_drawn 33 = .ok (.ifCond .ne 22, 3) := by decide +kernel
theorem dX7_drawn_36 : decode cX7_drawn 36 = .ok (.aload_n 0, 1) := by decide +kernel
theorem dX7_drawn_37 : decode cX7_drawn 37 = .ok (.getfield 29, 3) := by decide +kernel
theorem dX7_drawn_40 : decode cX7_drawn 40 = .ok (.iload 4, 2) := by decide +kernel
theorem dX7_drawn_42 : decode cX7_drawn 42 = .ok (.iaload, 1) := by decide +kernel
theorem dX7_drawn_43 : decode cX7_drawn 43 = .ok (.ifCond .le 12, 3) := by decide +kernel
theorem dX7_drawn_46 : decode cX7_drawn 46 = .ok (.iload_n 2, 1) := by decide +kernel
theorem dX7_drawn_47 : decode cX7_drawn 47 = .ok (.bipush 11, 2) := by decide +kernel
theorem dX7_drawn_49 : decode cX7_drawn 49 = .ok (.iushr, 1) := by decide +kernel
theorem dX7_drawn_50 : decode cX7_drawn 50 = .ok (.iconst 3, 1) := by decide +kernel
theorem dX7_drawn_51 : decode cX7_drawn 51 = .ok (.irem, 1) := by decide +kernel
theorem dX7_drawn_52 : decode cX7_drawn 52 = .ok (.goto 10, 3) := by decide +kernel
theorem dX7_drawn_55 : decode cX7_drawn 55 = .ok (.aload_n 0, 1) := by decide +kernel
theorem dX7_drawn_56 : decode cX7_drawn 56 = .ok (.getfield 32, 3) := by decide +kernel
theorem dX7_drawn_59 : decode cX7_drawn 59 = .ok (.iload 4, 2) := by decide +kernel
theorem dX7_drawn_61 : decode cX7_drawn 61 = .ok (.iaload, 1) := by decide +kernel
theorem dX7_drawn_62 : decode cX7_drawn 62 = .ok (.istore 5, 2) := by decide +kernel
theorem dX7_drawn_64 : decode cX7_drawn 64 = .ok (.iload 5, 2) := by decide +kernel
theorem dX7_drawn_66 : decode cX7_drawn 66 = .ok (.ifCond .le 40, 3) := by decide +kernel
theorem dX7_drawn_69 : decode cX7_drawn 69 = .ok (.aload_n 0, 1) := by decide +kernel
theorem dX7_drawn_70 : decode cX7_drawn 70 = .ok (.getfield 29, 3) := by decide +kernel
theorem dX7_drawn_73 : decode cX7_drawn 73 = .ok (.iload 4, 2) := by decide +kernel
theorem dX7_drawn_75 : decode cX7_drawn 75 = .ok (.iaload, 1) := by decide +kernel
theorem dX7_drawn_76 : decode cX7_drawn 76 = .ok (.aload_n 0, 1) := by decide +kernel
theorem dX7_drawn_77 : decode cX7_drawn 77 = .ok (.iload 4, 2) := by decide +kernel
theorem dX7_drawn_79 : decode cX7_drawn 79 = .ok (.iload 5, 2) := by decide +kernel
theorem dX7_drawn_81 : decode cX7_drawn 81 = .ok (.aload_n 0, 1) := by decide +kernel
theorem dX7_drawn_82 : decode cX7_drawn 82 = .ok (.getfield 133, 3) := by decide +kernel
theorem dX7_drawn_85 : decode cX7_drawn 85 = .ok (.invokevirtual 145, 3) := by decide +kernel
theorem dX7_drawn_88 : decode cX7_drawn 88 = .ok (.invokestatic 283, 3) := by decide +kernel
theorem dX7_drawn_91 : decode cX7_drawn 91 = .ok (.istore 6, 2) := by decide +kernel
theorem dX7_drawn_93 : decode cX7_drawn 93 = .ok (.iload 6, 2) := by decide +kernel
theorem dX7_drawn_95 : decode cX7_drawn 95 = .ok (.iload_n 3, 1) := by decide +kernel
theorem dX7_drawn_96 : decode cX7_drawn 96 = .ok (.if_icmp .le 8, 3) := by decide +kernel
theorem dX7_drawn_99 : decode cX7_drawn 99 = .ok (.iload 6, 2) := by decide +kernel
theorem dX7_drawn_101 : decode cX7_drawn 101 = .ok (.goto 4, 3) := by decide +kernel
theorem dX7_drawn_104 : decode cX7_drawn 104 = .ok (.iload_n 3, 1) := by decide +kernel
theorem dX7_drawn_105 : decode cX7_drawn 105 = .ok (.istore_n 3, 1) := by decide +kernel
theorem dX7_drawn_106 : decode cX7_drawn 106 = .ok (.iinc 4 1, 3) := by decide +kernel
theorem dX7_drawn_109 : decode cX7_drawn 109 = .ok (.goto (-102), 3) := by decide +kernel
theorem dX7_drawn_112 : decode cX7_drawn 112 = .ok (.iload_n 3, 1) := by decide +kernel
theorem dX7_drawn_113 : decode cX7_drawn 113 = .ok (.ireturn, 1) := by decide +kernel
theorem dX7_chance_0 : decode cX7_chance 0 = .ok (.iload_n 2, 1) := by decide +kernel
theorem dX7_chance_1 : decode cX7_chance 1 = .ok (.i2l, 1) := by decide +kernel
theorem dX7_chance_2 : decode cX7_chance 2 = .ok (.lconst 1, 1) := by decide +kernel
theorem dX7_chance_3 : decode cX7_chance 3 = .ok (.ldc2_w 356, 3) := by decide +kernel
theorem dX7_chance_6 : decode cX7_chance 6 = .ok (.invokestatic 113, 3) := by decide +kernel
theorem dX7_chance_9 : decode cX7_chance 9 = .ok (.ifCond .eq 26, 3) := by decide +kernel
theorem dX7_chance_12 : decode cX7_chance 12 = .ok (.iload_n 3, 1) := by decide +kernel
theorem dX7_chance_13 : decode cX7_chance 13 = .ok (.i2l, 1) := by decide +kernel
theorem dX7_chance_14 : decode cX7_chance 14 = .ok (.lconst 0, 1) := by decide +kernel
theorem dX7_chance_15 : decode cX7_chance 15 = .ok (.ldc2_w 278, 3) := by decide +kernel
theorem dX7_chance_18 : decode cX7_chance 18 = .ok (.invokestatic 113, 3) := by decide +kernel
theorem dX7_chance_21 : decode cX7_chance 21 = .ok (.ifCond .eq 14, 3) := by decide +kernel
theorem dX7_chance_24 : decode cX7_chance 24 = .ok (.iload 4, 2) := by decide +kernel
theorem dX7_chance_26 : decode cX7_chance 26 = .ok (.i2l, 1) := by decide +kernel
theorem dX7_chance_27 : decode cX7_chance 27 = .ok (.lconst 0, 1) := by decide +kernel
theorem dX7_chance_28 : decode cX7_chance 28 = .ok (.lconst 1, 1) := by decide +kernel
theorem dX7_chance_29 : decode cX7_chance 29 = .ok (.invokestatic 113, 3) := by decide +kernel
theorem dX7_chance_32 : decode cX7_chance 32 = .ok (.ifCond .ne 7, 3) := by decide +kernel
theorem dX7_chance_35 : decode cX7_chance 35 = .ok (.ldc2_w 334, 3) := by decide +kernel
theorem dX7_chance_38 : decode cX7_chance 38 = .ok (.lreturn, 1) := by decide +kernel
theorem dX7_chance_39 : decode cX7_chance 39 = .ok (.lconst 0, 1) := by decide +kernel
theorem dX7_chance_40 : decode cX7_chance 40 = .ok (.lstore 5, 2) := by decide +kernel
theorem dX7_chance_42 : decode cX7_chance 42 = .ok (.iconst 0, 1) := by decide +kernel
theorem dX7_chance_43 : decode cX7_chance 43 = .ok (.istore 7, 2) := by decide +kernel
theorem dX7_chance_45 : decode cX7_chance 45 = .ok (.iload 7, 2) := by decide +kernel
theorem dX7_chance_47 : decode cX7_chance 47 = .ok (.iload_n 2, 1) := by decide +kernel
theorem dX7_chance_48 : decode cX7_chance 48 = .ok (.if_icmp .ge 31, 3) := by decide +kernel
theorem dX7_chance_51 : decode cX7_chance 51 = .ok (.lload 5, 2) := by decide +kernel
theorem dX7_chance_53 : decode cX7_chance 53 = .ok (.aload_n 0, 1) := by decide +kernel
theorem dX7_chance_54 : decode cX7_chance 54 = .ok (.iload_n 1, 1) := by decide +kernel
theorem dX7_chance_55 : decode cX7_chance 55 = .ok (.iload 7, 2) := by decide +kernel
theorem dX7_chance_57 : decode cX7_chance 57 = .ok (.iadd, 1) := by decide +kernel
theorem dX7_chance_58 : decode cX7_chance 58 = .ok (.invokevirtual 358, 3) := by decide +kernel
theorem dX7_chance_61 : decode cX7_chance 61 = .ok (.iload_n 3, 1) := by decide +kernel
theorem dX7_chance_62 : decode cX7_chance 62 = .ok (.if_icmp .ne 7, 3) := by decide +kernel
theorem dX7_chance_65 : decode cX7_chance 65 = .ok (.lconst 1, 1) := by decide +kernel
theorem dX7_chance_66 : decode cX7_chance 66 = .ok (.goto 4, 3) := by decide +kernel
theorem dX7_chance_69 : decode cX7_chance 69 = .ok (.lconst 0, 1) := by decide +kernel
theorem dX7_chance_70 : decode cX7_chance 70 = .ok (.ladd, 1) := by decide +kernel
theorem dX7_chance_71 : decode cX7_chance 71 = .ok (.lstore 5, 2) := by decide +kernel
theorem dX7_chance_73 : decode cX7_chance 73 = .ok (.iinc 7 1, 3) := by decide +kernel
theorem dX7_chance_76 : decode cX7_chance 76 = .ok (.goto (-31), 3) := by decide +kernel
theorem dX7_chance_79 : decode cX7_chance 79 = .ok (.lload 5, 2) := by decide +kernel
theorem dX7_chance_81 : decode cX7_chance 81 = .ok (.lstore 7, 2) := by decide +kernel
theorem dX7_chance_83 : decode cX7_chance 83 = .ok (.iload_n 2, 1) := by decide +kernel
theorem dX7_chance_84 : decode cX7_chance 84 = .ok (.i2l, 1) := by decide +kernel
theorem dX7_chance_85 : decode cX7_chance 85 = .ok (.lstore 9, 2) := by decide +kernel
theorem dX7_chance_87 : decode cX7_chance 87 = .ok (.lload 9, 2) := by decide +kernel
theorem dX7_chance_89 : decode cX7_chance 89 = .ok (.lconst 0, 1) := by decide +kernel
theorem dX7_chance_90 : decode cX7_chance 90 = .ok (.lcmp, 1) := by decide +kernel
theorem dX7_chance_91 : decode cX7_chance 91 = .ok (.ifCond .eq 21, 3) := by decide +kernel
theorem dX7_chance_94 : decode cX7_chance 94 = .ok (.lload 7, 2) := by decide +kernel
theorem dX7_chance_96 : decode cX7_chance 96 = .ok (.lload 9, 2) := by decide +kernel
theorem dX7_chance_98 : decode cX7_chance 98 = .ok (.lrem, 1) := by decide +kernel
theorem dX7_chance_99 : decode cX7_chance 99 = .ok (.lstore 11, 2) := by decide +kernel
theorem dX7_chance_101 : decode cX7_chance 101 = .ok (.lload 9, 2) := by decide +kernel
theorem dX7_chance_103 : decode cX7_chance 103 = .ok (.lstore 7, 2) := by decide +kernel
theorem dX7_chance_105 : decode cX7_chance 105 = .ok (.lload 11, 2) := by decide +kernel
theorem dX7_chance_107 : decode cX7_chance 107 = .ok (.lstore 9, 2) := by decide +kernel
theorem dX7_chance_109 : decode cX7_chance 109 = .ok (.goto (-22), 3) := by decide +kernel
theorem dX7_chance_112 : decode cX7_chance 112 = .ok (.iload 4, 2) := by decide +kernel
theorem dX7_chance_114 : decode cX7_chance 114 = .ok (.ifCond .ne 11, 3) := by decide +kernel
theorem dX7_chance_117 : decode cX7_chance 117 = .ok (.lload 5, 2) := by decide +kernel
theorem dX7_chance_119 : decode cX7_chance 119 = .ok (.lload 7, 2) := by decide +kernel
theorem dX7_chance_121 : decode cX7_chance 121 = .ok (.ldiv, 1) := by decide +kernel
theorem dX7_chance_122 : decode cX7_chance 122 = .ok (.goto 8, 3) := by decide +kernel
theorem dX7_chance_125 : decode cX7_chance 125 = .ok (.iload_n 2, 1) := by decide +kernel
theorem dX7_chance_126 : decode cX7_chance 126 = .ok (.i2l, 1) := by decide +kernel
theorem dX7_chance_127 : decode cX7_chance 127 = .ok (.lload 7, 2) := by decide +kernel
theorem dX7_chance_129 : decode cX7_chance 129 = .ok (.ldiv, 1) := by decide +kernel
theorem dX7_chance_130 : decode cX7_chance 130 = .ok (.lreturn, 1) := by decide +kernel
theorem dX7_image_0 : decode cX7_image 0 = .ok (.iconst 0, 1) := by decide +kernel
theorem dX7_image_1 : decode cX7_image 1 = .ok (.istore_n 1, 1) := by decide +kernel
theorem dX7_image_2 : decode cX7_image 2 = .ok (.iload_n 1, 1) := by decide +kernel
theorem dX7_image_3 : decode cX7_image 3 = .ok (.iconst 4, 1) := by decide +kernel
theorem dX7_image_4 : decode cX7_image 4 = .ok (.if_icmp .ge 65, 3) := by decide +kernel
theorem dX7_image_7 : decode cX7_image 7 = .ok (.aload_n 0, 1) := by decide +kernel
theorem dX7_image_8 : decode cX7_image 8 = .ok (.getfield 84, 3) := by decide +kernel
theorem dX7_image_11 : decode cX7_image 11 = .ok (.iload_n 1, 1) := by decide +kernel
theorem dX7_image_12 : decode cX7_image 12 = .ok (.aload_n 0, 1) := by decide +kernel
theorem dX7_image_13 : decode cX7_image 13 = .ok (.getfield 29, 3) := by decide +kernel
theorem dX7_image_16 : decode cX7_image 16 = .ok (.iload_n 1, 1) := by decide +kernel
theorem dX7_image_17 : decode cX7_image 17 = .ok (.iaload, 1) := by decide +kernel
theorem dX7_image_18 : decode cX7_image 18 = .ok (.iastore, 1) := by decide +kernel
theorem dX7_image_19 : decode cX7_image 19 = .ok (.aload_n 0, 1) := by decide +kernel
theorem dX7_image_20 : decode cX7_image 20 = .ok (.getfield 84, 3) := by decide +kernel
theorem dX7_image_23 : decode cX7_image 23 = .ok (.iconst 4, 1) := by decide +kernel
theorem dX7_image_24 : decode cX7_image 24 = .ok (.iload_n 1, 1) := by decide +kernel
theorem dX7_image_25 : decode cX7_image 25 = .ok (.iadd, 1) := by decide +kernel
theorem dX7_image_26 : decode cX7_image 26 = .ok (.aload_n 0, 1) := by decide +kernel
theorem dX7_image_27 : decode cX7_image 27 = .ok (.getfield 32, 3) := by decide +kernel
theorem dX7_image_30 : decode cX7_image 30 = .ok (.iload_n 1, 1) := by decide +kernel
theorem dX7_image_31 : decode cX7_image 31 = .ok (.iaload, 1) := by decide +kernel
theorem dX7_image_32 : decode cX7_image 32 = .ok (.iastore, 1) := by decide +kernel
theorem dX7_image_33 : decode cX7_image 33 = .ok (.aload_n 0, 1) := by decide +kernel
theorem dX7_image_34 : decode cX7_image 34 = .ok (.getfield 84, 3) := by decide +kernel
theorem dX7_image_37 : decode cX7_image 37 = .ok (.bipush 8, 2) := by decide +kernel
theorem dX7_image_39 : decode cX7_image 39 = .ok (.iload_n 1, 1) := by decide +kernel
theorem dX7_image_40 : decode cX7_image 40 = .ok (.iadd, 1) := by decide +kernel
theorem dX7_image_41 : decode cX7_image 41 = .ok (.aload_n 0, 1) := by decide +kernel
theorem dX7_image_42 : decode cX7_image 42 = .ok (.getfield 35, 3) := by decide +kernel
theorem dX7_image_45 : decode cX7_image 45 = .ok (.iload_n 1, 1) := by decide +kernel
theorem dX7_image_46 : decode cX7_image 46 = .ok (.iaload, 1) := by decide +kernel
theorem dX7_image_47 : decode cX7_image 47 = .ok (.iastore, 1) := by decide +kernel
theorem dX7_image_48 : decode cX7_image 48 = .ok (.aload_n 0, 1) := by decide +kernel
theorem dX7_image_49 : decode cX7_image 49 = .ok (.getfield 84, 3) := by decide +kernel
theorem dX7_image_52 : decode cX7_image 52 = .ok (.bipush 12, 2) := by decide +kernel
theorem dX7_image_54 : decode cX7_image 54 = .ok (.iload_n 1, 1) := by decide +kernel
theorem dX7_image_55 : decode cX7_image 55 = .ok (.iadd, 1) := by decide +kernel
theorem dX7_image_56 : decode cX7_image 56 = .ok (.aload_n 0, 1) := by decide +kernel
theorem dX7_image_57 : decode cX7_image 57 = .ok (.getfield 26, 3) := by decide +kernel
theorem dX7_image_60 : decode cX7_image 60 = .ok (.iload_n 1, 1) := by decide +kernel
theorem dX7_image_61 : decode cX7_image 61 = .ok (.iaload, 1) := by decide +kernel
theorem dX7_image_62 : decode cX7_image 62 = .ok (.iastore, 1) := by decide +kernel
theorem dX7_image_63 : decode cX7_image 63 = .ok (.iinc 1 1, 3) := by decide +kernel
theorem dX7_image_66 : decode cX7_image 66 = .ok (.goto (-64), 3) := by decide +kernel
theorem dX7_image_69 : decode cX7_image 69 = .ok (.aload_n 0, 1) := by decide +kernel
theorem dX7_image_70 : decode cX7_image 70 = .ok (.aload_n 0, 1) := by decide +kernel
theorem dX7_image_71 : decode cX7_image 71 = .ok (.getfield 110, 3) := by decide +kernel
theorem dX7_image_74 : decode cX7_image 74 = .ok (.putfield 87, 3) := by decide +kernel
theorem dX7_image_77 : decode cX7_image 77 = .ok (.aload_n 0, 1) := by decide +kernel
theorem dX7_image_78 : decode cX7_image 78 = .ok (.aload_n 0, 1) := by decide +kernel
theorem dX7_image_79 : decode cX7_image 79 = .ok (.getfield 133, 3) := by decide +kernel
theorem dX7_image_82 : decode cX7_image 82 = .ok (.putfield 361, 3) := by decide +kernel
theorem dX7_image_85 : decode cX7_image 85 = .ok (.aload_n 0, 1) := by decide +kernel
theorem dX7_image_86 : decode cX7_image 86 = .ok (.aload_n 0, 1) := by decide +kernel
theorem dX7_image_87 : decode cX7_image 87 = .ok (.getfield 136, 3) := by decide +kernel
theorem dX7_image_90 : decode cX7_image 90 = .ok (.putfield 364, 3) := by decide +kernel
theorem dX7_image_93 : decode cX7_image 93 = .ok (.aload_n 0, 1) := by decide +kernel
theorem dX7_image_94 : decode cX7_image 94 = .ok (.aload_n 0, 1) := by decide +kernel
theorem dX7_image_95 : decode cX7_image 95 = .ok (.getfield 269, 3) := by decide +kernel
theorem dX7_image_98 : decode cX7_image 98 = .ok (.putfield 367, 3) := by decide +kernel
theorem dX7_image_101 : decode cX7_image 101 = .ok (.aload_n 0, 1) := by decide +kernel
theorem dX7_image_102 : decode cX7_image 102 = .ok (.getfield 110, 3) := by decide +kernel
theorem dX7_image_105 : decode cX7_image 105 = .ok (.ireturn, 1) := by decide +kernel
theorem dX7_back_0 : decode cX7_back 0 = .ok (.aload_n 0, 1) := by decide +kernel
theorem dX7_back_1 : decode cX7_back 1 = .ok (.getfield 87, 3) := by decide +kernel
theorem dX7_back_4 : decode cX7_back 4 = .ok (.iconst (-1), 1) := by decide +kernel
theorem dX7_back_5 : decode cX7_back 5 = .ok (.if_icmp .ne 6, 3) := by decide +kernel
theorem dX7_back_8 : decode cX7_back 8 = .ok (.bipush (-3), 2) := by decide +kernel
theorem dX7_back_10 : decode cX7_back 10 = .ok (.ireturn, 1) := by decide +kernel
theorem dX7_back_11 : decode cX7_back 11 = .ok (.iconst 0, 1) := by decide +kernel
theorem dX7_back_12 : decode cX7_back 12 = .ok (.istore_n 1, 1) := by decide +kernel
theorem dX7_back_13 : decode cX7_back 13 = .ok (.iload_n 1, 1) := by decide +kernel
theorem dX7_back_14 : decode cX7_back 14 = .ok (.iconst 4, 1) := by decide +kernel
theorem dX7_back_15 : decode cX7_back 15 = .ok (.if_icmp .ge 65, 3) := by decide +kernel
theorem dX7_back_18 : decode cX7_back 18 = .ok (.aload_n 0, 1) := by decide +kernel
theorem dX7_back_19 : decode cX7_back 19 = .ok (.getfield 29, 3) := by decide +kernel
theorem dX7_back_22 : decode cX7_back 22 = .ok (.iload_n 1, 1) := by decide +kernel
theorem dX7_back_23 : decode cX7_back 23 = .ok (.aload_n 0, 1) := by decide +kernel
theorem dX7_back_24 : decode cX7_back 24 = .ok (.getfield 84, 3) := by decide +kernel
theorem dX7_back_27 : decode cX7_back 27 = .ok (.iload_n 1, 1) := by decide +kernel
theorem dX7_back_28 : decode cX7_back 28 = .ok (.iaload, 1) := by decide +kernel
theorem dX7_back_29 : decode cX7_back 29 = .ok (.iastore, 1) := by decide +kernel
theorem dX7_back_30 : decode cX7_back 30 = .ok (.aload_n 0, 1) := by decide +kernel
theorem dX7_back_31 : decode cX7_back 31 = .ok (.getfield 32, 3) := by decide +kernel
theorem dX7_back_34 : decode cX7_back 34 = .ok (.iload_n 1, 1) := by decide +kernel
theorem dX7_back_35 : decode cX7_back 35 = .ok (.aload_n 0, 1) := by decide +kernel
theorem dX7_back_36 : decode cX7_back 36 = .ok (.getfield 84, 3) := by decide +kernel
theorem dX7_back_39 : decode cX7_back 39 = .ok (.iconst 4, 1) := by decide +kernel
theorem dX7_back_40 : decode cX7_back 40 = .ok (.iload_n 1, 1) := by decide +kernel
theorem dX7_back_41 : decode cX7_back 41 = .ok (.iadd, 1) := by decide +kernel
theorem dX7_back_42 : decode cX7_back 42 = .ok (.iaload, 1) := by decide +kernel
theorem dX7_back_43 : decode cX7_back 43 = .ok (.iastore, 1) := by decide +kernel
theorem dX7_back_44 : decode cX7_back 44 = .ok (.aload_n 0, 1) := by decide +kernel
theorem dX7_back_45 : decode cX7_back 45 = .ok (.getfield 35, 3) := by decide +kernel
theorem dX7_back_48 : decode cX7_back 48 = .ok (.iload_n 1, 1) := by decide +kernel
theorem dX7_back_49 : decode cX7_back 49 = .ok (.aload_n 0, 1) := by decide +kernel
theorem dX7_back_50 : decode cX7_back 50 = .ok (.getfield 84, 3) := by decide +kernel
theorem dX7_back_53 : decode cX7_back 53 = .ok (.bipush 8, 2) := by decide +kernel
theorem dX7_back_55 : decode cX7_back 55 = .ok (.iload_n 1, 1) := by decide +kernel
theorem dX7_back_56 : decode cX7_back 56 = .ok (.iadd, 1) := by decide +kernel
theorem dX7_back_57 : decode cX7_back 57 = .ok (.iaload, 1) := by decide +kernel
theorem dX7_back_58 : decode cX7_back 58 = .ok (.iastore, 1) := by decide +kernel
theorem dX7_back_59 : decode cX7_back 59 = .ok (.aload_n 0, 1) := by decide +kernel
theorem dX7_back_60 : decode cX7_back 60 = .ok (.getfield 26, 3) := by decide +kernel
theorem dX7_back_63 : decode cX7_back 63 = .ok (.iload_n 1, 1) := by decide +kernel
theorem dX7_back_64 : decode cX7_back 64 = .ok (.aload_n 0, 1) := by decide +kernel
theorem dX7_back_65 : decode cX7_back 65 = .ok (.getfield 84, 3) := by decide +kernel
theorem dX7_back_68 : decode cX7_back 68 = .ok (.bipush 12, 2) := by decide +kernel
theorem dX7_back_70 : decode cX7_back 70 = .ok (.iload_n 1, 1) := by decide +kernel
theorem dX7_back_71 : decode cX7_back 71 = .ok (.iadd, 1) := by decide +kernel
theorem dX7_back_72 : decode cX7_back 72 = .ok (.iaload, 1) := by decide +kernel
theorem dX7_back_73 : decode cX7_back 73 = .ok (.iastore, 1) := by decide +kernel
theorem dX7_back_74 : decode cX7_back 74 = .ok (.iinc 1 1, 3) := by decide +kernel
theorem dX7_back_77 : decode cX7_back 77 = .ok (.goto (-64), 3) := by decide +kernel
theorem dX7_back_80 : decode cX7_back 80 = .ok (.aload_n 0, 1) := by decide +kernel
theorem dX7_back_81 : decode cX7_back 81 = .ok (.aload_n 0, 1) := by decide +kernel
theorem dX7_back_82 : decode cX7_back 82 = .ok (.getfield 87, 3) := by decide +kernel
theorem dX7_back_85 : decode cX7_back 85 = .ok (.putfield 110, 3) := by decide +kernel
theorem dX7_back_88 : decode cX7_back 88 = .ok (.aload_n 0, 1) := by decide +kernel
theorem dX7_back_89 : decode cX7_back 89 = .ok (.aload_n 0, 1) := by decide +kernel
theorem dX7_back_90 : decode cX7_back 90 = .ok (.getfield 361, 3) := by decide +kernel
theorem dX7_back_93 : decode cX7_back 93 = .ok (.putfield 133, 3) := by decide +kernel
theorem dX7_back_96 : decode cX7_back 96 = .ok (.aload_n 0, 1) := by decide +kernel
theorem dX7_back_97 : decode cX7_back 97 = .ok (.aload_n 0, 1) := by decide +kernel
theorem dX7_back_98 : decode cX7_back 98 = .ok (.getfield 364, 3) := by decide +kernel
theorem dX7_back_101 : decode cX7_back 101 = .ok (.putfield 136, 3) := by decide +kernel
theorem dX7_back_104 : decode cX7_back 104 = .ok (.aload_n 0, 1) := by decide +kernel
theorem dX7_back_105 : decode cX7_back 105 = .ok (.aload_n 0, 1) := by decide +kernel
theorem dX7_back_106 : decode cX7_back 106 = .ok (.getfield 367, 3) := by decide +kernel
theorem dX7_back_109 : decode cX7_back 109 = .ok (.putfield 269, 3) := by decide +kernel
theorem dX7_back_112 : decode cX7_back 112 = .ok (.aload_n 0, 1) := by decide +kernel
theorem dX7_back_113 : decode cX7_back 113 = .ok (.getfield 110, 3) := by decide +kernel
theorem dX7_back_116 : decode cX7_back 116 = .ok (.ireturn, 1) := by decide +kernel
theorem dX7_count_0 : decode cX7_count 0 = .ok (.iload_n 1, 1) := by decide +kernel
theorem dX7_count_1 : decode cX7_count 1 = .ok (.i2l, 1) := by decide +kernel
theorem dX7_count_2 : decode cX7_count 2 = .ok (.lconst 0, 1) := by decide +kernel
theorem dX7_count_3 : decode cX7_count 3 = .ok (.ldc2_w 370, 3) := by decide +kernel
theorem dX7_count_6 : decode cX7_count 6 = .ok (.invokestatic 113, 3) := by decide +kernel
theorem dX7_count_9 : decode cX7_count 9 = .ok (.ifCond .ne 6, 3) := by decide +kernel
theorem dX7_count_12 : decode cX7_count 12 = .ok (.bipush (-2), 2) := by decide +kernel
theorem dX7_count_14 : decode cX7_count 14 = .ok (.ireturn, 1) := by decide +kernel
theorem dX7_count_15 : decode cX7_count 15 = .ok (.iconst 0, 1) := by decide +kernel
theorem dX7_count_16 : decode cX7_count 16 = .ok (.istore_n 2, 1) := by decide +kernel
theorem dX7_count_17 : decode cX7_count 17 = .ok (.iconst 0, 1) := by decide +kernel
theorem dX7_count_18 : decode cX7_count 18 = .ok (.istore_n 3, 1) := by decide +kernel
theorem dX7_count_19 : decode cX7_count 19 = .ok (.iconst 0, 1) := by decide +kernel
theorem dX7_count_20 : decode cX7_count 20 = .ok (.istore 4, 2) := by decide +kernel
theorem dX7_count_22 : decode cX7_count 22 = .ok (.iload 4, 2) := by decide +kernel
theorem dX7_count_24 : decode cX7_count 24 = .ok (.aload_n 0, 1) := by decide +kernel
theorem dX7_count_25 : decode cX7_count 25 = .ok (.getfield 110, 3) := by decide +kernel
theorem dX7_count_28 : decode cX7_count 28 = .ok (.if_icmp .ge 37, 3) := by decide +kernel
theorem dX7_count_31 : decode cX7_count 31 = .ok (.iload_n 2, 1) := by decide +kernel
theorem dX7_count_32 : decode cX7_count 32 = .ok (.aload_n 0, 1) := by decide +kernel
theorem dX7_count_33 : decode cX7_count 33 = .ok (.getfield 32, 3) := by decide +kernel
theorem dX7_count_36 : decode cX7_count 36 = .ok (.iload 4, 2) := by decide +kernel
theorem dX7_count_38 : decode cX7_count 38 = .ok (.iaload, 1) := by decide +kernel
theorem dX7_count_39 : decode cX7_count 39 = .ok (.ifCond .le 7, 3) := by decide +kernel
theorem dX7_count_42 : decode cX7_count 42 = .ok (.iconst 1, 1) := by decide +kernel
theorem dX7_count_43 : decode cX7_count 43 = .ok (.goto 4, 3) := by decide +kernel
theorem dX7_count_46 : decode cX7_count 46 = .ok (.iconst 0, 1) := by decide +kernel
theorem dX7_count_47 : decode cX7_count 47 = .ok (.iadd, 1) := by decide +kernel
theorem dX7_count_48 : decode cX7_count 48 = .ok (.istore_n 2, 1) := by decide +kernel
theorem dX7_count_49 : decode cX7_count 49 = .ok (.iload_n 3, 1) := by decide +kernel
theorem dX7_count_50 : decode cX7_count 50 = .ok (.aload_n 0, 1) := by decide +kernel
theorem dX7_count_51 : decode cX7_count 51 = .ok (.getfield 29, 3) := by decide +kernel
theorem dX7_count_54 : decode cX7_count 54 = .ok (.iload 4, 2) := by decide +kernel
theorem dX7_count_56 : decode cX7_count 56 = .ok (.iaload, 1) := by decide +kernel
theorem dX7_count_57 : decode cX7_count 57 = .ok (.iadd, 1) := by decide +kernel
theorem dX7_count_58 : decode cX7_count 58 = .ok (.istore_n 3, 1) := by decide +kernel
theorem dX7_count_59 : decode cX7_count 59 = .ok (.iinc 4 1, 3) := by decide +kernel
theorem dX7_count_62 : decode cX7_count 62 = .ok (.goto (-40), 3) := by decide +kernel
theorem dX7_count_65 : decode cX7_count 65 = .ok (.iload_n 1, 1) := by decide +kernel
theorem dX7_count_66 : decode cX7_count 66 = .ok (.iconst 4, 1) := by decide +kernel
theorem dX7_count_67 : decode cX7_count 67 = .ok (.if_icmp .ge 40, 3) := by decide +kernel
theorem dX7_count_70 : decode cX7_count 70 = .ok (.iload_n 1, 1) := by decide +kernel
theorem dX7_count_71 : decode cX7_count 71 = .ok (.ifCond .ne 10, 3) := by decide +kernel
theorem dX7_count_74 : decode cX7_count 74 = .ok (.aload_n 0, 1) := by decide +kernel
theorem dX7_count_75 : decode cX7_count 75 = .ok (.getfield 110, 3) := by decide +kernel
theorem dX7_count_78 : decode cX7_count 78 = .ok (.goto 28, 3) := by decide +kernel
theorem dX7_count_81 : decode cX7_count 81 = .ok (.iload_n 1, 1) := by decide +kernel
theorem dX7_count_82 : decode cX7_count 82 = .ok (.iconst 1, 1) := by decide +kernel
theorem dX7_count_83 : decode cX7_count 83 = .ok (.if_icmp .ne 7, 3) := by decide +kernel
theorem dX7_count_86 : decode cX7_count 86 = .ok (.iload_n 2, 1) := by decide +kernel
theorem dX7_count_87 : decode cX7_count 87 = .ok (.goto 19, 3) := by decide +kernel
theorem dX7_count_90 : decode cX7_count 90 = .ok (.iload_n 1, 1) := by decide +kernel
theorem dX7_count_91 : decode cX7_count 91 = .ok (.iconst 2, 1) := by decide +kernel
theorem dX7_count_92 : decode cX7_count 92 = .ok (.if_icmp .ne 10, 3) := by decide +kernel
theorem dX7_count_95 : decode cX7_count 95 = .ok (.aload_n 0, 1) := by decide +kernel
theorem dX7_count_96 : decode cX7_count 96 = .ok (.getfield 133, 3) := by decide +kernel
theorem dX7_count_99 : decode cX7_count 99 = .ok (.goto 7, 3) := by decide +kernel
theorem dX7_count_102 : decode cX7_count 102 = .ok (.aload_n 0, 1) := by decide +kernel
theorem dX7_count_103 : decode cX7_count 103 = .ok (.getfield 136, 3) := by decide +kernel
theorem dX7_count_106 : decode cX7_count 106 = .ok (.ireturn, 1) := by decide +kernel
theorem dX7_count_107 : decode cX7_count 107 = .ok (.iload_n 1, 1) := by decide +kernel
theorem dX7_count_108 : decode cX7_count 108 = .ok (.iconst 4, 1) := by decide +kernel
theorem dX7_count_109 : decode cX7_count 109 = .ok (.if_icmp .ne 10, 3) := by decide +kernel
theorem dX7_count_112 : decode cX7_count 112 = .ok (.aload_n 0, 1) := by decide +kernel
theorem dX7_count_113 : decode cX7_count 113 = .ok (.getfield 107, 3) := by decide +kernel
theorem dX7_count_116 : decode cX7_count 116 = .ok (.goto 29, 3) := by decide +kernel
theorem dX7_count_119 : decode cX7_count 119 = .ok (.iload_n 1, 1) := by decide +kernel
theorem dX7_count_120 : decode cX7_count 120 = .ok (.iconst 5, 1) := by decide +kernel
theorem dX7_count_121 : decode cX7_count 121 = .ok (.if_icmp .ne 10, 3) := by decide +kernel
theorem dX7_count_124 : decode cX7_count 124 = .ok (.aload_n 0, 1) := by decide +kernel
theorem dX7_count_125 : decode cX7_count 125 = .ok (.getfield 151, 3) := by decide +kernel
theorem dX7_count_128 : decode cX7_count 128 = .ok (.goto 17, 3) := by decide +kernel
theorem dX7_count_131 : decode cX7_count 131 = .ok (.iload_n 1, 1) := by decide +kernel
theorem dX7_count_132 : decode cX7_count 132 = .ok (.bipush 6, 2) := by decide +kernel
theorem dX7_count_134 : decode cX7_count 134 = .ok (.if_icmp .ne 10, 3) := by decide +kernel
theorem dX7_count_137 : decode cX7_count 137 = .ok (.aload_n 0, 1) := by decide +kernel
theorem dX7_count_138 : decode cX7_count 138 = .ok (.getfield 269, 3) := by decide +kernel
theorem dX7_count_141 : decode cX7_count 141 = .ok (.goto 4, 3) := by decide +kernel
theorem dX7_count_144 : decode cX7_count 144 = .ok (.iload_n 3, 1) := by decide +kernel
theorem dX7_count_145 : decode cX7_count 145 = .ok (.ireturn, 1) := by decide +kernel
theorem dX7_isSheet_0 : decode cX7_isSheet 0 = .ok (.iload_n 0, 1) := by decide +kernel
theorem dX7_isSheet_1 : decode cX7_isSheet 1 = .ok (.i2l, 1) := by decide +kernel
theorem dX7_isSheet_2 : decode cX7_isSheet 2 = .ok (.lconst 0, 1) := by decide +kernel
theorem dX7_isSheet_3 : decode cX7_isSheet 3 = .ok (.ldc2_w 372, 3) := by decide +kernel
theorem dX7_isSheet_6 : decode cX7_isSheet 6 = .ok (.invokestatic 113, 3) := by decide +kernel
theorem dX7_isSheet_9 : decode cX7_isSheet 9 = .ok (.ireturn, 1) := by decide +kernel
theorem dX7_sheet_0 : decode cX7_sheet 0 = .ok (.iload_n 1, 1) := by decide +kernel
theorem dX7_sheet_1 : decode cX7_sheet 1 = .ok (.invokestatic 346, 3) := by decide +kernel
theorem dX7_sheet_4 : decode cX7_sheet 4 = .ok (.ifCond .eq 27, 3) := by decide +kernel
theorem dX7_sheet_7 : decode cX7_sheet 7 = .ok (.iload_n 2, 1) := by decide +kernel
theorem dX7_sheet_8 : decode cX7_sheet 8 = .ok (.i2l, 1) := by decide +kernel
theorem dX7_sheet_9 : decode cX7_sheet 9 = .ok (.ldc2_w 374, 3) := by decide +kernel
theorem dX7_sheet_12 : decode cX7_sheet 12 = .ok (.ldc2_w 127, 3) := by decide +kernel
theorem dX7_sheet_15 : decode cX7_sheet 15 = .ok (.invokestatic 113, 3) := by decide +kernel
theorem dX7_sheet_18 : decode cX7_sheet 18 = .ok (.ifCond .eq 13, 3) := by decide +kernel
theorem dX7_sheet_21 : decode cX7_sheet 21 = .ok (.iload_n 2, 1) := by decide +kernel
theorem dX7_sheet_22 : decode cX7_sheet 22 = .ok (.ifCond .lt 12, 3) := by decide +kernel
theorem dX7_sheet_25 : decode cX7_sheet 25 = .ok (.iload_n 3, 1) := by decide +kernel
theorem dX7_sheet_26 : decode cX7_sheet 26 = .ok (.bipush 40, 2) := by decide +kernel
theorem dX7_sheet_28 : decode cX7_sheet 28 = .ok (.if_icmp .le 6, 3) := by decide +kernel
theorem dX7_sheet_31 : decode cX7_sheet 31 = .ok (.bipush (-2), 2) := by decide +kernel
theorem dX7_sheet_33 : decode cX7_sheet 33 = .ok (.ireturn, 1) := by decide +kernel
theorem dX7_sheet_34 : decode cX7_sheet 34 = .ok (.iload_n 2, 1) := by decide +kernel
theorem dX7_sheet_35 : decode cX7_sheet 35 = .ok (.ifCond .lt 10, 3) := by decide +kernel
theorem dX7_sheet_38 : decode cX7_sheet 38 = .ok (.iload_n 3, 1) := by decide +kernel
theorem dX7_sheet_39 : decode cX7_sheet 39 = .ok (.ifCond .ge 6, 3) := by decide +kernel
theorem dX7_sheet_42 : decode cX7_sheet 42 = .ok (.bipush (-14), 2) := by decide +kernel
theorem dX7_sheet_44 : decode cX7_sheet 44 = .ok (.ireturn, 1) := by decide +kernel
theorem dX7_sheet_45 : decode cX7_sheet 45 = .ok (.aload_n 0, 1) := by decide +kernel
theorem dX7_sheet_46 : decode cX7_sheet 46 = .ok (.getfield 90, 3) := by decide +kernel
theorem dX7_sheet_49 : decode cX7_sheet 49 = .ok (.iload_n 1, 1) := by decide +kernel
theorem dX7_sheet_50 : decode cX7_sheet 50 = .ok (.iload_n 2, 1) := by decide +kernel
theorem dX7_sheet_51 : decode cX7_sheet 51 = .ok (.ifCond .lt 7, 3) := by decide +kernel
theorem dX7_sheet_54 : decode cX7_sheet 54 = .ok (.iconst 1, 1) := by decide +kernel
theorem dX7_sheet_55 : decode cX7_sheet 55 = .ok (.goto 4, 3) := by decide +kernel
theorem dX7_sheet_58 : decode cX7_sheet 58 = .ok (.iconst 0, 1) := by decide +kernel
theorem dX7_sheet_59 : decode cX7_sheet 59 = .ok (.bastore, 1) := by decide +kernel
theorem dX7_sheet_60 : decode cX7_sheet 60 = .ok (.aload_n 0, 1) := by decide +kernel
theorem dX7_sheet_61 : decode cX7_sheet 61 = .ok (.getfield 94, 3) := by decide +kernel
theorem dX7_sheet_64 : decode cX7_sheet 64 = .ok (.iload_n 1, 1) := by decide +kernel
theorem dX7_sheet_65 : decode cX7_sheet 65 = .ok (.iload_n 2, 1) := by decide +kernel
theorem dX7_sheet_66 : decode cX7_sheet 66 = .ok (.iastore, 1) := by decide +kernel
theorem dX7_sheet_67 : decode cX7_sheet 67 = .ok (.aload_n 0, 1) := by decide +kernel
theorem dX7_sheet_68 : decode cX7_sheet 68 = .ok (.getfield 97, 3) := by decide +kernel
theorem dX7_sheet_71 : decode cX7_sheet 71 = .ok (.iload_n 1, 1) := by decide +kernel
theorem dX7_sheet_72 : decode cX7_sheet 72 = .ok (.iload_n 3, 1) := by decide +kernel
theorem dX7_sheet_73 : decode cX7_sheet 73 = .ok (.iastore, 1) := by decide +kernel
theorem dX7_sheet_74 : decode cX7_sheet 74 = .ok (.iconst 0, 1) := by decide +kernel
theorem dX7_sheet_75 : decode cX7_sheet 75 = .ok (.istore 4, 2) := by decide +kernel
theorem dX7_sheet_77 : decode cX7_sheet 77 = .ok (.iload 4, 2) := by decide +kernel
theorem dX7_sheet_79 : decode cX7_sheet 79 = .ok (.iload_n 3, 1) := by decide +kernel
theorem dX7_sheet_80 : decode cX7_sheet 80 = .ok (.if_icmp .ge 26, 3) := by decide +kernel
theorem dX7_sheet_83 : decode cX7_sheet 83 = .ok (.iload_n 2, 1) := by decide +kernel
theorem dX7_sheet_84 : decode cX7_sheet 84 = .ok (.ifCond .lt 22, 3) := by decide +kernel
theorem dX7_sheet_87 : decode cX7_sheet 87 = .ok (.aload_n 0, 1) := by decide +kernel
theorem dX7_sheet_88 : decode cX7_sheet 88 = .ok (.getfield 100, 3) := by decide +kernel
theorem dX7_sheet_91 : decode cX7_sheet 91 = .ok (.bipush 40, 2) := by decide +kernel
theorem dX7_sheet_93 : decode cX7_sheet 93 = .ok (.iload_n 1, 1) := by decide +kernel
theorem dX7_sheet_94 : decode cX7_sheet 94 = .ok (.imul, 1) := by decide +kernel
theorem dX7_sheet_95 : decode cX7_sheet 95 = .ok (.iload 4, 2) := by decide +kernel
theorem dX7_sheet_97 : decode cX7_sheet 97 = .ok (.iadd, 1) := by decide +kernel
theorem dX7_sheet_98 : decode cX7_sheet 98 = .ok (.iconst 0, 1) := by decide +kernel
theorem dX7_sheet_99 : decode cX7_sheet 99 = .ok (.iastore, 1) := by decide +kernel
theorem dX7_sheet_100 : decode cX7_sheet 100 = .ok (.iinc 4 1, 3) := by decide +kernel
theorem dX7_sheet_103 : decode cX7_sheet 103 = .ok (.goto (-26), 3) := by decide +kernel
theorem dX7_sheet_106 : decode cX7_sheet 106 = .ok (.iconst 1, 1) := by decide +kernel
theorem dX7_sheet_107 : decode cX7_sheet 107 = .ok (.ireturn, 1) := by decide +kernel
theorem dX7_cell_0 : decode cX7_cell 0 = .ok (.iload_n 1, 1) := by decide +kernel
theorem dX7_cell_1 : decode cX7_cell 1 = .ok (.invokestatic 346, 3) := by decide +kernel
theorem dX7_cell_4 : decode cX7_cell 4 = .ok (.ifCond .ne 6, 3) := by decide +kernel
theorem dX7_cell_7 : decode cX7_cell 7 = .ok (.bipush (-2), 2) := by decide +kernel
theorem dX7_cell_9 : decode cX7_cell 9 = .ok (.ireturn, 1) := by decide +kernel
theorem dX7_cell_10 : decode cX7_cell 10 = .ok (.aload_n 0, 1) := by decide +kernel
theorem dX7_cell_11 : decode cX7_cell 11 = .ok (.getfield 90, 3) := by decide +kernel
theorem dX7_cell_14 : decode cX7_cell 14 = .ok (.iload_n 1, 1) := by decide +kernel
theorem dX7_cell_15 : decode cX7_cell 15 = .ok (.baload, 1) := by decide +kernel
theorem dX7_cell_16 : decode cX7_cell 16 = .ok (.ifCond .ne 6, 3) := by decide +kernel
theorem dX7_cell_19 : decode cX7_cell 19 = .ok (.bipush (-11), 2) := by decide +kernel
theorem dX7_cell_21 : decode cX7_cell 21 = .ok (.ireturn, 1) := by decide +kernel
theorem dX7_cell_22 : decode cX7_cell 22 = .ok (.iload_n 2, 1) := by decide +kernel
theorem dX7_cell_23 : decode cX7_cell 23 = .ok (.i2l, 1) := by decide +kernel
theorem dX7_cell_24 : decode cX7_cell 24 = .ok (.lconst 0, 1) := by decide +kernel
theorem dX7_cell_25 : decode cX7_cell 25 = .ok (.aload_n 0, 1) := by decide +kernel
theorem dX7_cell_26 : decode cX7_cell 26 = .ok (.getfield 97, 3) := by decide +kernel
theorem dX7_cell_29 : decode cX7_cell 29 = .ok (.iload_n 1, 1) := by decide +kernel
theorem dX7_cell_30 : decode cX7_cell 30 = .ok (.iaload, 1) := by decide +kernel
theorem dX7_cell_31 : decode cX7_cell 31 = .ok (.iconst 1, 1) := by decide +kernel
theorem dX7_cell_32 : decode cX7_cell 32 = .ok (.isub, 1) := by decide +kernel
theorem dX7_cell_33 : decode cX7_cell 33 = .ok (.i2l, 1) := by decide +kernel
theorem dX7_cell_34 : decode cX7_cell 34 = .ok (.invokestatic 113, 3) := by decide +kernel
theorem dX7_cell_37 : decode cX7_cell 37 = .ok (.ifCond .ne 6, 3) := by decide +kernel
theorem dX7_cell_40 : decode cX7_cell 40 = .ok (.bipush (-12), 2) := by decide +kernel
theorem dX7_cell_42 : decode cX7_cell 42 = .ok (.ireturn, 1) := by decide +kernel
theorem dX7_cell_43 : decode cX7_cell 43 = .ok (.aload_n 0, 1) := by decide +kernel
theorem dX7_cell_44 : decode cX7_cell 44 = .ok (.getfield 100, 3) := by decide +kernel
theorem dX7_cell_47 : decode cX7_cell 47 = .ok (.bipush 40, 2) := by decide +kernel
theorem dX7_cell_49 : decode cX7_cell 49 = .ok (.iload_n 1, 1) := by decide +kernel
theorem dX7_cell_50 : decode cX7_cell 50 = .ok (.imul, 1) := by decide +kernel
theorem dX7_cell_51 : decode cX7_cell 51 = .ok (.iload_n 2, 1) := by decide +kernel
theorem dX7_cell_52 : decode cX7_cell 52 = .ok (.iadd, 1) := by decide +kernel
theorem dX7_cell_53 : decode cX7_cell 53 = .ok (.aload_n 0, 1) := by decide +kernel
theorem dX7_cell_54 : decode cX7_cell 54 = .ok (.getfield 94, 3) := by decide +kernel
theorem dX7_cell_57 : decode cX7_cell 57 = .ok (.iload_n 1, 1) := by decide +kernel
theorem dX7_cell_58 : decode cX7_cell 58 = .ok (.iaload, 1) := by decide +kernel
theorem dX7_cell_59 : decode cX7_cell 59 = .ok (.ifCond .ne 8, 3) := by decide +kernel
theorem dX7_cell_62 : decode cX7_cell 62 = .ok (.iload_n 3, 1) := by decide +kernel
theorem dX7_cell_63 : decode cX7_cell 63 = .ok (.i2b, 1) := by decide +kernel
theorem dX7_cell_64 : decode cX7_cell 64 = .ok (.goto 19, 3) := by decide +kernel
theorem dX7_cell_67 : decode cX7_cell 67 = .ok (.aload_n 0, 1) := by decide +kernel
theorem dX7_cell_68 : decode cX7_cell 68 = .ok (.getfield 94, 3) := by decide +kernel
theorem dX7_cell_71 : decode cX7_cell 71 = .ok (.iload_n 1, 1) := by decide +kernel
theorem dX7_cell_72 : decode cX7_cell 72 = .ok (.iaload, 1) := by decide +kernel
theorem dX7_cell_73 : decode cX7_cell 73 = .ok (.iconst 1, 1) := by decide +kernel
theorem dX7_cell_74 : decode cX7_cell 74 = .ok (.if_icmp .ne 8, 3) := by decide +kernel
theorem dX7_cell_77 : decode cX7_cell 77 = .ok (.iload_n 3, 1) := by decide +kernel
theorem dX7_cell_78 : decode cX7_cell 78 = .ok (.i2s, 1) := by decide +kernel
theorem dX7_cell_79 : decode cX7_cell 79 = .ok (.goto 4, 3) := by decide +kernel
theorem dX7_cell_82 : decode cX7_cell 82 = .ok (.iload_n 3, 1) := by decide +kernel
theorem dX7_cell_83 : decode cX7_cell 83 = .ok (.iastore, 1) := by decide +kernel
theorem dX7_cell_84 : decode cX7_cell 84 = .ok (.iconst 1, 1) := by decide +kernel
theorem dX7_cell_85 : decode cX7_cell 85 = .ok (.ireturn, 1) := by decide +kernel
theorem dX7_copy_0 : decode cX7_copy 0 = .ok (.iload_n 1, 1) := by decide +kernel
theorem dX7_copy_1 : decode cX7_copy 1 = .ok (.invokestatic 346, 3) := by decide +kernel
theorem dX7_copy_4 : decode cX7_copy 4 = .ok (.ifCond .eq 10, 3) := by decide +kernel
theorem dX7_copy_7 : decode cX7_copy 7 = .ok (.iload_n 3, 1) := by decide +kernel
theorem dX7_copy_8 : decode cX7_copy 8 = .ok (.invokestatic 346, 3) := by decide +kernel
theorem dX7_copy_11 : decode cX7_copy 11 = .ok (.ifCond .ne 6, 3) := by decide +kernel
theorem dX7_copy_14 : decode cX7_copy 14 = .ok (.bipush (-2), 2) := by decide +kernel
theorem dX7_copy_16 : decode cX7_copy 16 = .ok (.ireturn, 1) := by decide +kernel
theorem dX7_copy_17 : decode cX7_copy 17 = .ok (.aload_n 0, 1) := by decide +kernel
theorem dX7_copy_18 : decode cX7_copy 18 = .ok (.getfield 90, 3) := by decide +kernel
theorem dX7_copy_21 : decode cX7_copy 21 = .ok (.iload_n 1, 1) := by decide +kernel
theorem dX7_copy_22 : decode cX7_copy 22 = .ok (.baload, 1) := by decide +kernel
theorem dX7_copy_23 : decode cX7_copy 23 = .ok (.ifCond .eq 12, 3) := by decide +kernel
theorem dX7_copy_26 : decode cX7_copy 26 = .ok (.aload_n 0, 1) := by decide +kernel
theorem dX7_copy_27 : decode cX7_copy 27 = .ok (.getfield 90, 3) := by decide +kernel
theorem dX7_copy_30 : decode cX7_copy 30 = .ok (.iload_n 3, 1) := by decide +kernel
theorem dX7_copy_31 : decode cX7_copy 31 = .ok (.baload, 1) := by decide +kernel
theorem dX7_copy_32 : decode cX7_copy 32 = .ok (.ifCond .ne 6, 3) := by decide +kernel
theorem dX7_copy_35 : decode cX7_copy 35 = .ok (.bipush (-11), 2) := by decide +kernel
theorem dX7_copy_37 : decode cX7_copy 37 = .ok (.ireturn, 1) := by decide +kernel
theorem dX7_copy_38 : decode cX7_copy 38 = .ok (.aload_n 0, 1) := by decide +kernel
theorem dX7_copy_39 : decode cX7_copy 39 = .ok (.getfield 94, 3) := by decide +kernel
theorem dX7_copy_42 : decode cX7_copy 42 = .ok (.iload_n 1, 1) := by decide +kernel
theorem dX7_copy_43 : decode cX7_copy 43 = .ok (.iaload, 1) := by decide +kernel
theorem dX7_copy_44 : decode cX7_copy 44 = .ok (.aload_n 0, 1) := by decide +kernel
theorem dX7_copy_45 : decode cX7_copy 45 = .ok (.getfield 94, 3) := by decide +kernel
theorem dX7_copy_48 : decode cX7_copy 48 = .ok (.iload_n 3, 1) := by decide +kernel
theorem dX7_copy_49 : decode cX7_copy 49 = .ok (.iaload, 1) := by decide +kernel
theorem dX7_copy_50 : decode cX7_copy 50 = .ok (.if_icmp .eq 6, 3) := by decide +kernel
theorem dX7_copy_53 : decode cX7_copy 53 = .ok (.bipush (-13), 2) := by decide +kernel
theorem dX7_copy_55 : decode cX7_copy 55 = .ok (.ireturn, 1) := by decide +kernel
theorem dX7_copy_56 : decode cX7_copy 56 = .ok (.iload 5, 2) := by decide +kernel
theorem dX7_copy_58 : decode cX7_copy 58 = .ok (.ifCond .lt 39, 3) := by decide +kernel
theorem dX7_copy_61 : decode cX7_copy 61 = .ok (.iload_n 2, 1) := by decide +kernel
theorem dX7_copy_62 : decode cX7_copy 62 = .ok (.ifCond .lt 35, 3) := by decide +kernel
theorem dX7_copy_65 : decode cX7_copy 65 = .ok (.iload 4, 2) := by decide +kernel
theorem dX7_copy_67 : decode cX7_copy 67 = .ok (.ifCond .lt 30, 3) := by decide +kernel
theorem dX7_copy_70 : decode cX7_copy 70 = .ok (.iload_n 2, 1) := by decide +kernel
theorem dX7_copy_71 : decode cX7_copy 71 = .ok (.aload_n 0, 1) := by decide +kernel
theorem dX7_copy_72 : decode cX7_copy 72 = .ok (.getfield 97, 3) := by decide +kernel
theorem dX7_copy_75 : decode cX7_copy 75 = .ok (.iload_n 1, 1) := by decide +kernel
theorem dX7_copy_76 : decode cX7_copy 76 = .ok (.iaload, 1) := by decide +kernel
theorem dX7_copy_77 : decode cX7_copy 77 = .ok (.iload 5, 2) := by decide +kernel
theorem dX7_copy_79 : decode cX7_copy 79 = .ok (.isub, 1) := by decide +kernel
theorem dX7_copy_80 : decode cX7_copy 80 = .ok (.if_icmp .gt 17, 3) := by decide +kernel
theorem dX7_copy_83 : decode cX7_copy 83 = .ok (.iload 4, 2) := by decide +kernel
theorem dX7_copy_85 : decode cX7_copy 85 = .ok (.aload_n 0, 1) := by decide +kernel
theorem dX7_copy_86 : decode cX7_copy 86 = .ok (.getfield 97, 3) := by decide +kernel
theorem dX7_copy_89 : decode cX7_copy 89 = .ok (.iload_n 3, 1) := by decide +kernel
theorem dX7_copy_90 : decode cX7_copy 90 = .ok (.iaload, 1) := by decide +kernel
theorem dX7_copy_91 : decode cX7_copy 91 = .ok (.iload 5, 2) := by decide +kernel
theorem dX7_copy_93 : decode cX7_copy 93 = .ok (.isub, 1) := by decide +kernel
theorem dX7_copy_94 : decode cX7_copy 94 = .ok (.if_icmp .le 6, 3) := by decide +kernel
theorem dX7_copy_97 : decode cX7_copy 97 = .ok (.bipush (-12), 2) := by decide +kernel
theorem dX7_copy_99 : decode cX7_copy 99 = .ok (.ireturn, 1) := by decide +kernel
theorem dX7_copy_100 : decode cX7_copy 100 = .ok (.iload_n 1, 1) := by decide +kernel
theorem dX7_copy_101 : decode cX7_copy 101 = .ok (.iload_n 3, 1) := by decide +kernel
theorem dX7_copy_102 : decode cX7_copy 102 = .ok (.if_icmp .ne 13, 3) := by decide +kernel
theorem dX7_copy_105 : decode cX7_copy 105 = .ok (.iload_n 2, 1) := by decide +kernel
theorem dX7_copy_106 : decode cX7_copy 106 = .ok (.iload 4, 2) := by decide +kernel
theorem dX7_copy_108 : decode cX7_copy 108 = .ok (.if_icmp .ge 7, 3) := by decide +kernel
theorem dX7_copy_111 : decode cX7_copy 111 = .ok (.iconst 1, 1) := by decide +kernel
theorem dX7_copy_112 : decode cX7_copy 112 = .ok (.goto 4, 3) := by decide +kernel
theorem dX7_copy_115 : decode cX7_copy 115 = .ok (.iconst 0, 1) := by decide +kernel
theorem dX7_copy_116 : decode cX7_copy 116 = .ok (.istore 6, 2) := by decide +kernel
theorem dX7_copy_118 : decode cX7_copy 118 = .ok (.iconst 0, 1) := by decide +kernel
theorem dX7_copy_119 : decode cX7_copy 119 = .ok (.istore 7, 2) := by decide +kernel
theorem dX7_copy_121 : decode cX7_copy 121 = .ok (.iload 7, 2) := by decide +kernel
theorem dX7_copy_123 : decode cX7_copy 123 = .ok (.iload 5, 2) := by decide +kernel
theorem dX7_copy_125 : decode cX7_copy 125 = .ok (.if_icmp .ge 57, 3) := by decide +kernel
theorem dX7_copy_128 : decode cX7_copy 128 = .ok (.iload 6, 2) := by decide +kernel
theorem dX7_copy_130 : decode cX7_copy 130 = .ok (.ifCond .eq 13, 3) := by decide +kernel
theorem dX7_copy_133 : decode cX7_copy 133 = .ok (.iload 5, 2) := by decide +kernel
theorem dX7_copy_135 : decode cX7_copy 135 = .ok (.iconst 1, 1) := by decide +kernel
theorem dX7_copy_136 : decode cX7_copy 136 = .ok (.isub, 1) := by decide +kernel
theorem dX7_copy_137 : decode cX7_copy 137 = .ok (.iload 7, 2) := by decide +kernel
theorem dX7_copy_139 : decode cX7_copy 139 = .ok (.isub, 1) := by decide +kernel
theorem dX7_copy_140 : decode cX7_copy 140 = .ok (.goto 5, 3) := by decide +kernel
theorem dX7_copy_143 : decode cX7_copy 143 = .ok (.iload 7, 2) := by decide +kernel
theorem dX7_copy_145 : decode cX7_copy 145 = .ok (.istore 8, 2) := by decide +kernel
theorem dX7_copy_147 : decode cX7_copy 147 = .ok (.aload_n 0, 1) := by decide +kernel
theorem dX7_copy_148 : decode cX7_copy 148 = .ok (.getfield 100, 3) := by decide +kernel
theorem dX7_copy_151 : decode cX7_copy 151 = .ok (.bipush 40, 2) := by decide +kernel
theorem dX7_copy_153 : decode cX7_copy 153 = .ok (.iload_n 3, 1) := by decide +kernel
theorem dX7_copy_154 : decode cX7_copy 154 = .ok (.imul, 1) := by decide +kernel
theorem dX7_copy_155 : decode cX7_copy 155 = .ok (.iload 4, 2) := by decide +kernel
theorem dX7_copy_157 : decode cX7_copy 157 = .ok (.iadd, 1) := by decide +kernel
theorem dX7_copy_158 : decode cX7_copy 158 = .ok (.iload 8, 2) := by decide +kernel
theorem dX7_copy_160 : decode cX7_copy 160 = .ok (.iadd, 1) := by decide +kernel
theorem dX7_copy_161 : decode cX7_copy 161 = .ok (.aload_n 0, 1) := by decide +kernel
theorem dX7_copy_162 : decode cX7_copy 162 = .ok (.getfield 100, 3) := by decide +kernel
theorem dX7_copy_165 : decode cX7_copy 165 = .ok (.bipush 40, 2) := by decide +kernel
theorem dX7_copy_167 : decode cX7_copy 167 = .ok (.iload_n 1, 1) := by decide +kernel
theorem dX7_copy_168 : decode cX7_copy 168 = .ok (.imul, 1) := by decide +kernel
theorem dX7_copy_169 : decode cX7_copy 169 = .ok (.iload_n 2, 1) := by decide +kernel
theorem dX7_copy_170 : decode cX7_copy 170 = .ok (.iadd, 1) := by decide +kernel
theorem dX7_copy_171 : decode cX7_copy 171 = .ok (.iload 8, 2) := by decide +kernel
theorem dX7_copy_173 : decode cX7_copy 173 = .ok (.iadd, 1) := by decide +kernel
theorem dX7_copy_174 : decode cX7_copy 174 = .ok (.iaload, 1) := by decide +kernel
theorem dX7_copy_175 : decode cX7_copy 175 = .ok (.iastore, 1) := by decide +kernel
theorem dX7_copy_176 : decode cX7_copy 176 = .ok (.iinc 7 1, 3) := by decide +kernel
theorem dX7_copy_179 : decode cX7_copy 179 = .ok (.goto (-58), 3) := by decide +kernel
theorem dX7_copy_182 : decode cX7_copy 182 = .ok (.iload 5, 2) := by decide +kernel
theorem dX7_copy_184 : decode cX7_copy 184 = .ok (.ireturn, 1) := by decide +kernel
theorem dX7_wicks_0 : decode cX7_wicks 0 = .ok (.iload_n 1, 1) := by decide +kernel
theorem dX7_wicks_1 : decode cX7_wicks 1 = .ok (.invokestatic 346, 3) := by decide +kernel
theorem dX7_wicks_4 : decode cX7_wicks 4 = .ok (.ifCond .eq 28, 3) := by decide +kernel
theorem dX7_wicks_7 : decode cX7_wicks 7 = .ok (.iload_n 2, 1) := by decide +kernel
theorem dX7_wicks_8 : decode cX7_wicks 8 = .ok (.i2l, 1) := by decide +kernel
theorem dX7_wicks_9 : decode cX7_wicks 9 = .ok (.lconst 0, 1) := by decide +kernel
theorem dX7_wicks_10 : decode cX7_wicks 10 = .ok (.ldc2_w 127, 3) := by decide +kernel
theorem dX7_wicks_13 : decode cX7_wicks 13 = .ok (.invokestatic 113, 3) := by decide +kernel
theorem dX7_wicks_16 : decode cX7_wicks 16 = .ok (.ifCond .eq 16, 3) := by decide +kernel
theorem dX7_wicks_19 : decode cX7_wicks 19 = .ok (.iload 4, 2) := by decide +kernel
theorem dX7_wicks_21 : decode cX7_wicks 21 = .ok (.i2l, 1) := by decide +kernel
theorem dX7_wicks_22 : decode cX7_wicks 22 = .ok (.lconst 0, 1) := by decide +kernel
theorem dX7_wicks_23 : decode cX7_wicks 23 = .ok (.ldc2_w 117, 3) := by decide +kernel
theorem dX7_wicks_26 : decode cX7_wicks 26 = .ok (.invokestatic 113, 3) := by decide +kernel
theorem dX7_wicks_29 : decode cX7_wicks 29 = .ok (.ifCond .ne 6, 3) := by decide +kernel
theorem dX7_wicks_32 : decode cX7_wicks 32 = .ok (.bipush (-2), 2) := by decide +kernel
theorem dX7_wicks_34 : decode cX7_wicks 34 = .ok (.ireturn, 1) := by decide +kernel
theorem dX7_wicks_35 : decode cX7_wicks 35 = .ok (.aload_n 0, 1) := by decide +kernel
theorem dX7_wicks_36 : decode cX7_wicks 36 = .ok (.getfield 90, 3) := by decide +kernel
theorem dX7_wicks_39 : decode cX7_wicks 39 = .ok (.iload_n 1, 1) := by decide +kernel
theorem dX7_wicks_40 : decode cX7_wicks 40 = .ok (.baload, 1) := by decide +kernel
theorem dX7_wicks_41 : decode cX7_wicks 41 = .ok (.ifCond .eq 16, 3) := by decide +kernel
theorem dX7_wicks_44 : decode cX7_wicks 44 = .ok (.aload_n 0, 1) := by decide +kernel
theorem dX7_wicks_45 : decode cX7_wicks 45 = .ok (.getfield 94, 3) := by decide +kernel
theorem dX7_wicks_48 : decode cX7_wicks 48 = .ok (.iload_n 1, 1) := by decide +kernel
theorem dX7_wicks_49 : decode cX7_wicks 49 = .ok (.iaload, 1) := by decide +kernel
theorem dX7_wicks_50 : decode cX7_wicks 50 = .ok (.iload_n 2, 1) := by decide +kernel
theorem dX7_wicks_51 : decode cX7_wicks 51 = .ok (.if_icmp .eq 6, 3) := by decide +kernel
theorem dX7_wicks_54 : decode cX7_wicks 54 = .ok (.bipush (-13), 2) := by decide +kernel
theorem dX7_wicks_56 : decode cX7_wicks 56 = .ok (.ireturn, 1) := by decide +kernel
theorem dX7_wicks_57 : decode cX7_wicks 57 = .ok (.aload_n 0, 1) := by decide +kernel
theorem dX7_wicks_58 : decode cX7_wicks 58 = .ok (.getfield 90, 3) := by decide +kernel
theorem dX7_wicks_61 : decode cX7_wicks 61 = .ok (.iload_n 1, 1) := by decide +kernel
theorem dX7_wicks_62 : decode cX7_wicks 62 = .ok (.baload, 1) := by decide +kernel
theorem dX7_wicks_63 : decode cX7_wicks 63 = .ok (.ifCond .ne 6, 3) := by decide +kernel
theorem dX7_wicks_66 : decode cX7_wicks 66 = .ok (.bipush (-11), 2) := by decide +kernel
theorem dX7_wicks_68 : decode cX7_wicks 68 = .ok (.ireturn, 1) := by decide +kernel
theorem dX7_wicks_69 : decode cX7_wicks 69 = .ok (.iconst 0, 1) := by decide +kernel
theorem dX7_wicks_70 : decode cX7_wicks 70 = .ok (.istore 5, 2) := by decide +kernel
theorem dX7_wicks_72 : decode cX7_wicks 72 = .ok (.iconst 0, 1) := by decide +kernel
theorem dX7_wicks_73 : decode cX7_wicks 73 = .ok (.istore 6, 2) := by decide +kernel
theorem dX7_wicks_75 : decode cX7_wicks 75 = .ok (.iload 6, 2) := by decide +kernel
theorem dX7_wicks_77 : decode cX7_wicks 77 = .ok (.iload 4, 2) := by decide +kernel
theorem dX7_wicks_79 : decode cX7_wicks 79 = .ok (.if_icmp .ge 88, 3) := by decide +kernel
theorem dX7_wicks_82 : decode cX7_wicks 82 = .ok (.iload_n 3, 1) := by decide +kernel
theorem dX7_wicks_83 : decode cX7_wicks 83 = .ok (.ifCond .lt 20, 3) := by decide +kernel
theorem dX7_wicks_86 : decode cX7_wicks 86 = .ok (.iload_n 3, 1) := by decide +kernel
theorem dX7_wicks_87 : decode cX7_wicks 87 = .ok (.aload_n 0, 1) := by decide +kernel
theorem dX7_wicks_88 : decode cX7_wicks 88 = .ok (.getfield 97, 3) := by decide +kernel
theorem dX7_wicks_91 : decode cX7_wicks 91 = .ok (.iload_n 1, 1) := by decide +kernel
theorem dX7_wicks_92 : decode cX7_wicks 92 = .ok (.iaload, 1) := by decide +kernel
theorem dX7_wicks_93 : decode cX7_wicks 93 = .ok (.iconst 3, 1) := by decide +kernel
theorem dX7_wicks_94 : decode cX7_wicks 94 = .ok (.iload 6, 2) := by decide +kernel
theorem dX7_wicks_96 : decode cX7_wicks 96 = .ok (.imul, 1) := by decide +kernel
theorem dX7_wicks_97 : decode cX7_wicks 97 = .ok (.isub, 1) := by decide +kernel
theorem dX7_wicks_98 : decode cX7_wicks 98 = .ok (.iconst 3, 1) := by decide +kernel
theorem dX7_wicks_99 : decode cX7_wicks 99 = .ok (.isub, 1) := by decide +kernel
theorem dX7_wicks_100 : decode cX7_wicks 100 = .ok (.if_icmp .le 6, 3) := by decide +kernel
theorem dX7_wicks_103 : decode cX7_wicks 103 = .ok (.bipush (-12), 2) := by decide +kernel
theorem dX7_wicks_105 : decode cX7_wicks 105 = .ok (.ireturn, 1) := by decide +kernel
theorem dX7_wicks_106 : decode cX7_wicks 106 = .ok (.bipush 40, 2) := by decide +kernel
theorem dX7_wicks_108 : decode cX7_wicks 108 = .ok (.iload_n 1, 1) := by decide +kernel
theorem dX7_wicks_109 : decode cX7_wicks 109 = .ok (.imul, 1) := by decide +kernel
theorem dX7_wicks_110 : decode cX7_wicks 110 = .ok (.iload_n 3, 1) := by decide +kernel
theorem dX7_wicks_111 : decode cX7_wicks 111 = .ok (.iadd, 1) := by decide +kernel
theorem dX7_wicks_112 : decode cX7_wicks 112 = .ok (.iconst 3, 1) := by decide +kernel
theorem dX7_wicks_113 : decode cX7_wicks 113 = .ok (.iload 6, 2) := by decide +kernel
theorem dX7_wicks_115 : decode cX7_wicks 115 = .ok (.imul, 1) := by decide +kernel
theorem dX7_wicks_116 : decode cX7_wicks 116 = .ok (.iadd, 1) := by decide +kernel
theorem dX7_wicks_117 : decode cX7_wicks 117 = .ok (.istore 7, 2) := by decide +kernel
theorem dX7_wicks_119 : decode cX7_wicks 119 = .ok (.iload 5, 2) := by decide +kernel
theorem dX7_wicks_121 : decode cX7_wicks 121 = .ok (.aload_n 0, 1) := by decide +kernel
theorem dX7_wicks_122 : decode cX7_wicks 122 = .ok (.aload_n 0, 1) := by decide +kernel
theorem dX7_wicks_123 : decode cX7_wicks 123 = .ok (.getfield 100, 3) := by decide +kernel
theorem dX7_wicks_126 : decode cX7_wicks 126 = .ok (.iload 7, 2) := by decide +kernel
theorem dX7_wicks_128 : decode cX7_wicks 128 = .ok (.iaload, 1) := by decide +kernel
theorem dX7_wicks_129 : decode cX7_wicks 129 = .ok (.aload_n 0, 1) := by decide +kernel
theorem dX7_wicks_130 : decode cX7_wicks 130 = .ok (.getfield 100, 3) := by decide +kernel
theorem dX7_wicks_133 : decode cX7_wicks 133 = .ok (.iload 7, 2) := by decide +kernel
theorem dX7_wicks_135 : decode cX7_wicks 135 = .ok (.iconst 1, 1) := by decide +kernel
theorem dX7_wicks_136 : decode cX7_wicks 136 = .ok (.iadd, 1) := by decide +kernel
theorem dX7_wicks_137 : decode cX7_wicks 137 = .ok (.iaload, 1) := by decide +kernel
theorem dX7_wicks_138 : decode cX7_wicks 138 = .ok (.aload_n 0, 1) := by decide +kernel
theorem dX7_wicks_139 : decode cX7_wicks 139 = .ok (.getfield 100, 3) := by decide +kernel
theorem dX7_wicks_142 : decode cX7_wicks 142 = .ok (.iload 7, 2) := by decide +kernel
theorem dX7_wicks_144 : decode cX7_wicks 144 = .ok (.iconst 2, 1) := by decide +kernel
theorem dX7_wicks_145 : decode cX7_wicks 145 = .ok (.iadd, 1) := by decide +kernel
theorem dX7_wicks_146 : decode cX7_wicks 146 = .ok (.iaload, 1) := by decide +kernel
theorem dX7_wicks_147 : decode cX7_wicks 147 = .ok (.invokevirtual 376, 3) := by decide +kernel
theorem dX7_wicks_150 : decode cX7_wicks 150 = .ok (.ifCond .lt 7, 3) := by decide +kernel
theorem dX7_wicks_153 : decode cX7_wicks 153 = .ok (.iconst 1, 1) := by decide +kernel
theorem dX7_wicks_154 : decode cX7_wicks 154 = .ok (.goto 4, 3) := by decide +kernel
theorem dX7_wicks_157 : decode cX7_wicks 157 = .ok (.iconst 0, 1) := by decide +kernel
theorem dX7_wicks_158 : decode cX7_wicks 158 = .ok (.iadd, 1) := by decide +kernel
theorem dX7_wicks_159 : decode cX7_wicks 159 = .ok (.istore 5, 2) := by decide +kernel
theorem dX7_wicks_161 : decode cX7_wicks 161 = .ok (.iinc 6 1, 3) := by decide +kernel
theorem dX7_wicks_164 : decode cX7_wicks 164 = .ok (.goto (-89), 3) := by decide +kernel
theorem dX7_wicks_167 : decode cX7_wicks 167 = .ok (.iload 5, 2) := by decide +kernel
theorem dX7_wicks_169 : decode cX7_wicks 169 = .ok (.ireturn, 1) := by decide +kernel
theorem dX7_over_0 : decode cX7_over 0 = .ok (.iload_n 0, 1) := by decide +kernel
theorem dX7_over_1 : decode cX7_over 1 = .ok (.ifCond .ne 7, 3) := by decide +kernel
theorem dX7_over_4 : decode cX7_over 4 = .ok (.iconst (-1), 1) := by decide +kernel
theorem dX7_over_5 : decode cX7_over 5 = .ok (.goto 27, 3) := by decide +kernel
theorem dX7_over_8 : decode cX7_over 8 = .ok (.iload_n 0, 1) := by decide +kernel
theorem dX7_over_9 : decode cX7_over 9 = .ok (.iconst 4, 1) := by decide +kernel
theorem dX7_over_10 : decode cX7_over 10 = .ok (.if_icmp .ne 7, 3) := by decide +kernel
theorem dX7_over_13 : decode cX7_over 13 = .ok (.iconst 2, 1) := by decide +kernel
theorem dX7_over_14 : decode cX7_over 14 = .ok (.goto 18, 3) := by decide +kernel
theorem dX7_over_17 : decode cX7_over 17 = .ok (.iload_n 0, 1) := by decide +kernel
theorem dX7_over_18 : decode cX7_over 18 = .ok (.iconst 3, 1) := by decide +kernel
theorem dX7_over_19 : decode cX7_over 19 = .ok (.if_icmp .eq 8, 3) := by decide +kernel
theorem dX7_over_22 : decode cX7_over 22 = .ok (.iload_n 0, 1) := by decide +kernel
theorem dX7_over_23 : decode cX7_over 23 = .ok (.iconst 5, 1) := by decide +kernel
theorem dX7_over_24 : decode cX7_over 24 = .ok (.if_icmp .ne 7, 3) := by decide +kernel
theorem dX7_over_27 : decode cX7_over 27 = .ok (.iconst 1, 1) := by decide +kernel
theorem dX7_over_28 : decode cX7_over 28 = .ok (.goto 4, 3) := by decide +kernel
theorem dX7_over_31 : decode cX7_over 31 = .ok (.iconst 0, 1) := by decide +kernel
theorem dX7_over_32 : decode cX7_over 32 = .ok (.ireturn, 1) := by decide +kernel
theorem dX7_taken_0 : decode cX7_taken 0 = .ok (.iload_n 2, 1) := by decide +kernel
theorem dX7_taken_1 : decode cX7_taken 1 = .ok (.i2l, 1) := by decide +kernel
theorem dX7_taken_2 : decode cX7_taken 2 = .ok (.lconst 0, 1) := by decide +kernel
theorem dX7_taken_3 : decode cX7_taken 3 = .ok (.ldc2_w 117, 3) := by decide +kernel
theorem dX7_taken_6 : decode cX7_taken 6 = .ok (.invokestatic 113, 3) := by decide +kernel
theorem dX7_taken_9 : decode cX7_taken 9 = .ok (.ifCond .ne 6, 3) := by decide +kernel
theorem dX7_taken_12 : decode cX7_taken 12 = .ok (.bipush (-2), 2) := by decide +kernel
theorem dX7_taken_14 : decode cX7_taken 14 = .ok (.ireturn, 1) := by decide +kernel
theorem dX7_taken_15 : decode cX7_taken 15 = .ok (.aload_n 0, 1) := by decide +kernel
theorem dX7_taken_16 : decode cX7_taken 16 = .ok (.iload_n 1, 1) := by decide +kernel
theorem dX7_taken_17 : decode cX7_taken 17 = .ok (.invokevirtual 123, 3) := by decide +kernel
theorem dX7_taken_20 : decode cX7_taken 20 = .ok (.ifCond .ne 6, 3) := by decide +kernel
theorem dX7_taken_23 : decode cX7_taken 23 = .ok (.bipush (-11), 2) := by decide +kernel
theorem dX7_taken_25 : decode cX7_taken 25 = .ok (.ireturn, 1) := by decide +kernel
theorem dX7_taken_26 : decode cX7_taken 26 = .ok (.aload_n 0, 1) := by decide +kernel
theorem dX7_taken_27 : decode cX7_taken 27 = .ok (.getfield 23, 3) := by decide +kernel
theorem dX7_taken_30 : decode cX7_taken 30 = .ok (.iload_n 1, 1) := by decide +kernel
theorem dX7_taken_31 : decode cX7_taken 31 = .ok (.iaload, 1) := by decide +kernel
theorem dX7_taken_32 : decode cX7_taken 32 = .ok (.istore_n 3, 1) := by decide +kernel
theorem dX7_taken_33 : decode cX7_taken 33 = .ok (.iload_n 3, 1) := by decide +kernel
theorem dX7_taken_34 : decode cX7_taken 34 = .ok (.iconst (-1), 1) := by decide +kernel
theorem dX7_taken_35 : decode cX7_taken 35 = .ok (.if_icmp .eq 16, 3) := by decide +kernel
theorem dX7_taken_38 : decode cX7_taken 38 = .ok (.iload_n 3, 1) := by decide +kernel
theorem dX7_taken_39 : decode cX7_taken 39 = .ok (.iload_n 2, 1) := by decide +kernel
theorem dX7_taken_40 : decode cX7_taken 40 = .ok (.if_icmp .eq 11, 3) := by decide +kernel
theorem dX7_taken_43 : decode cX7_taken 43 = .ok (.iload_n 3, 1) := by decide +kernel
theorem dX7_taken_44 : decode cX7_taken 44 = .ok (.invokestatic 379, 3) := by decide +kernel
theorem dX7_taken_47 : decode cX7_taken 47 = .ok (.istore_n 3, 1) := by decide +kernel
theorem dX7_taken_48 : decode cX7_taken 48 = .ok (.goto (-15), 3) := by decide +kernel
theorem dX7_taken_51 : decode cX7_taken 51 = .ok (.iload_n 3, 1) := by decide +kernel
theorem dX7_taken_52 : decode cX7_taken 52 = .ok (.iload_n 2, 1) := by decide +kernel
theorem dX7_taken_53 : decode cX7_taken 53 = .ok (.if_icmp .ne 12, 3) := by decide +kernel
theorem dX7_taken_56 : decode cX7_taken 56 = .ok (.aload_n 0, 1) := by decide +kernel
theorem dX7_taken_57 : decode cX7_taken 57 = .ok (.getfield 26, 3) := by decide +kernel
theorem dX7_taken_60 : decode cX7_taken 60 = .ok (.iload_n 1, 1) := by decide +kernel
theorem dX7_taken_61 : decode cX7_taken 61 = .ok (.iaload, 1) := by decide +kernel
theorem dX7_taken_62 : decode cX7_taken 62 = .ok (.goto 5, 3) := by decide +kernel
theorem dX7_taken_65 : decode cX7_taken 65 = .ok (.bipush (-13), 2) := by decide +kernel
theorem dX7_taken_67 : decode cX7_taken 67 = .ok (.ireturn, 1) := by decide +kernel
