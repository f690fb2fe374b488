theorem dX8_init_0 : decode cX8_init 0 = .ok (.aload_n 0, 1) := by decide +kernel
theorem dX8_init_1 : decode cX8_init 1 = .ok (.invokespecial 1, 3) := by decide +kernel
theorem dX8_init_4 : decode cX8_init 4 = .ok (.aload_n 0, 1) := by decide +kernel
theorem dX8_init_5 : decode cX8_init 5 = .ok (.bipush 24, 2) := by decide +kernel
theorem dX8_init_7 : decode cX8_init 7 = .ok (.newarray .int, 2) := by decide +kernel
theorem dX8_init_9 : decode cX8_init 9 = .ok (.putfield 7, 3) := by decide +kernel
theorem dX8_init_12 : decode cX8_init 12 = .ok (.aload_n 0, 1) := by decide +kernel
theorem dX8_init_13 : decode cX8_init 13 = .ok (.bipush 96, 2) := by decide +kernel
theorem dX8_init_15 : decode cX8_init 15 = .ok (.newarray .int, 2) := by decide +kernel
theorem dX8_init_17 : decode cX8_init 17 = .ok (.putfield 13, 3) := by decide +kernel
theorem dX8_init_20 : decode cX8_init 20 = .ok (.aload_n 0, 1) := by decide +kernel
theorem dX8_init_21 : decode cX8_init 21 = .ok (.bipush 96, 2) := by decide +kernel
theorem dX8_init_23 : decode cX8_init 23 = .ok (.newarray .int, 2) := by decide +kernel
theorem dX8_init_25 : decode cX8_init 25 = .ok (.putfield 16, 3) := by decide +kernel
theorem dX8_init_28 : decode cX8_init 28 = .ok (.aload_n 0, 1) := by decide +kernel
theorem dX8_init_29 : decode cX8_init 29 = .ok (.bipush 96, 2) := by decide +kernel
theorem dX8_init_31 : decode cX8_init 31 = .ok (.newarray .int, 2) := by decide +kernel
theorem dX8_init_33 : decode cX8_init 33 = .ok (.putfield 19, 3) := by decide +kernel
theorem dX8_init_36 : decode cX8_init 36 = .ok (.aload_n 0, 1) := by decide +kernel
theorem dX8_init_37 : decode cX8_init 37 = .ok (.bipush 24, 2) := by decide +kernel
theorem dX8_init_39 : decode cX8_init 39 = .ok (.newarray .int, 2) := by decide +kernel
theorem dX8_init_41 : decode cX8_init 41 = .ok (.putfield 22, 3) := by decide +kernel
theorem dX8_init_44 : decode cX8_init 44 = .ok (.aload_n 0, 1) := by decide +kernel
theorem dX8_init_45 : decode cX8_init 45 = .ok (.bipush 24, 2) := by decide +kernel
theorem dX8_init_47 : decode cX8_init 47 = .ok (.newarray .int, 2) := by decide +kernel
theorem dX8_init_49 : decode cX8_init 49 = .ok (.putfield 25, 3) := by decide +kernel
theorem dX8_init_52 : decode cX8_init 52 = .ok (.aload_n 0, 1) := by decide +kernel
theorem dX8_init_53 : decode cX8_init 53 = .ok (.bipush 24, 2) := by decide +kernel
theorem dX8_init_55 : decode cX8_init 55 = .ok (.newarray .int, 2) := by decide +kernel
theorem dX8_init_57 : decode cX8_init 57 = .ok (.putfield 28, 3) := by decide +kernel
theorem dX8_init_60 : decode cX8_init 60 = .ok (.aload_n 0, 1) := by decide +kernel
theorem dX8_init_61 : decode cX8_init 61 = .ok (.bipush 24, 2) := by decide +kernel
theorem dX8_init_63 : decode cX8_init 63 = .ok (.newarray .int, 2) := by decide +kernel
theorem dX8_init_65 : decode cX8_init 65 = .ok (.putfield 31, 3) := by decide +kernel
theorem dX8_init_68 : decode cX8_init 68 = .ok (.aload_n 0, 1) := by decide +kernel
theorem dX8_init_69 : decode cX8_init 69 = .ok (.bipush 120, 2) := by decide +kernel
theorem dX8_init_71 : decode cX8_init 71 = .ok (.newarray .int, 2) := by decide +kernel
theorem dX8_init_73 : decode cX8_init 73 = .ok (.putfield 34, 3) := by decide +kernel
theorem dX8_init_76 : decode cX8_init 76 = .ok (.aload_n 0, 1) := by decide +kernel
theorem dX8_init_77 : decode cX8_init 77 = .ok (.iconst 5, 1) := by decide +kernel
theorem dX8_init_78 : decode cX8_init 78 = .ok (.newarray .int, 2) := by decide +kernel
theorem dX8_init_80 : decode cX8_init 80 = .ok (.putfield 37, 3) := by decide +kernel
theorem dX8_init_83 : decode cX8_init 83 = .ok (.aload_n 0, 1) := by decide +kernel
theorem dX8_init_84 : decode cX8_init 84 = .ok (.sipush 200, 3) := by decide +kernel
theorem dX8_init_87 : decode cX8_init 87 = .ok (.newarray .int, 2) := by decide +kernel
theorem dX8_init_89 : decode cX8_init 89 = .ok (.putfield 40, 3) := by decide +kernel
theorem dX8_init_92 : decode cX8_init 92 = .ok (.aload_n 0, 1) := by decide +kernel
theorem dX8_init_93 : decode cX8_init 93 = .ok (.sipush 1000, 3) := by decide +kernel
theorem dX8_init_96 : decode cX8_init 96 = .ok (.newarray .int, 2) := by decide +kernel
theorem dX8_init_98 : decode cX8_init 98 = .ok (.putfield 43, 3) := by decide +kernel
theorem dX8_init_101 : decode cX8_init 101 = .ok (.aload_n 0, 1) := by decide +kernel
theorem dX8_init_102 : decode cX8_init 102 = .ok (.bipush 50, 2) := by decide +kernel
theorem dX8_init_104 : decode cX8_init 104 = .ok (.newarray .int, 2) := by decide +kernel
theorem dX8_init_106 : decode cX8_init 106 = .ok (.putfield 46, 3) := by decide +kernel
theorem dX8_init_109 : decode cX8_init 109 = .ok (.aload_n 0, 1) := by decide +kernel
theorem dX8_init_110 : decode cX8_init 110 = .ok (.iconst 5, 1) := by decide +kernel
theorem dX8_init_111 : decode cX8_init 111 = .ok (.newarray .boolean, 2) := by decide +kernel
theorem dX8_init_113 : decode cX8_init 113 = .ok (.putfield 49, 3) := by decide +kernel
theorem dX8_init_116 : decode cX8_init 116 = .ok (.aload_n 0, 1) := by decide +kernel
theorem dX8_init_117 : decode cX8_init 117 = .ok (.iconst 4, 1) := by decide +kernel
theorem dX8_init_118 : decode cX8_init 118 = .ok (.putfield 53, 3) := by decide +kernel
theorem dX8_init_121 : decode cX8_init 121 = .ok (.aload_n 0, 1) := by decide +kernel
theorem dX8_init_122 : decode cX8_init 122 = .ok (.bipush 100, 2) := by decide +kernel
theorem dX8_init_124 : decode cX8_init 124 = .ok (.newarray .int, 2) := by decide +kernel
theorem dX8_init_126 : decode cX8_init 126 = .ok (.putfield 57, 3) := by decide +kernel
theorem dX8_init_129 : decode cX8_init 129 = .ok (.aload_n 0, 1) := by decide +kernel
theorem dX8_init_130 : decode cX8_init 130 = .ok (.bipush 100, 2) := by decide +kernel
theorem dX8_init_132 : decode cX8_init 132 = .ok (.newarray .int, 2) := by decide +kernel
theorem dX8_init_134 : decode cX8_init 134 = .ok (.putfield 60, 3) := by decide +kernel
theorem dX8_init_137 : decode cX8_init 137 = .ok (.aload_n 0, 1) := by decide +kernel
theorem dX8_init_138 : decode cX8_init 138 = .ok (.bipush 100, 2) := by decide +kernel
theorem dX8_init_140 : decode cX8_init 140 = .ok (.newarray .int, 2) := by decide +kernel
theorem dX8_init_142 : decode cX8_init 142 = .ok (.putfield 63, 3) := by decide +kernel
theorem dX8_init_145 : decode cX8_init 145 = .ok (.aload_n 0, 1) := by decide +kernel
theorem dX8_init_146 : decode cX8_init 146 = .ok (.bipush 100, 2) := by decide +kernel
theorem dX8_init_148 : decode cX8_init 148 = .ok (.newarray .int, 2) := by decide +kernel
theorem dX8_init_150 : decode cX8_init 150 = .ok (.putfield 66, 3) := by decide +kernel
theorem dX8_init_153 : decode cX8_init 153 = .ok (.aload_n 0, 1) := by decide +kernel
theorem dX8_init_154 : decode cX8_init 154 = .ok (.bipush 100, 2) := by decide +kernel
theorem dX8_init_156 : decode cX8_init 156 = .ok (.newarray .int, 2) := by decide +kernel
theorem dX8_init_158 : decode cX8_init 158 = .ok (.putfield 69, 3) := by decide +kernel
theorem dX8_init_161 : decode cX8_init 161 = .ok (.aload_n 0, 1) := by decide +kernel
theorem dX8_init_162 : decode cX8_init 162 = .ok (.bipush 24, 2) := by decide +kernel
theorem dX8_init_164 : decode cX8_init 164 = .ok (.newarray .int, 2) := by decide +kernel
theorem dX8_init_166 : decode cX8_init 166 = .ok (.putfield 72, 3) := by decide +kernel
theorem dX8_init_169 : decode cX8_init 169 = .ok (.aload_n 0, 1) := by decide +kernel
theorem dX8_init_170 : decode cX8_init 170 = .ok (.bipush 24, 2) := by decide +kernel
theorem dX8_init_172 : decode cX8_init 172 = .ok (.newarray .int, 2) := by decide +kernel
theorem dX8_init_174 : decode cX8_init 174 = .ok (.putfield 75, 3) := by decide +kernel
theorem dX8_init_177 : decode cX8_init 177 = .ok (.aload_n 0, 1) := by decide +kernel
theorem dX8_init_178 : decode cX8_init 178 = .ok (.bipush 24, 2) := by decide +kernel
theorem dX8_init_180 : decode cX8_init 180 = .ok (.newarray .int, 2) := by decide +kernel
theorem dX8_init_182 : decode cX8_init 182 = .ok (.putfield 78, 3) := by decide +kernel
theorem dX8_init_185 : decode cX8_init 185 = .ok (.aload_n 0, 1) := by decide +kernel
theorem dX8_init_186 : decode cX8_init 186 = .ok (.bipush 24, 2) := by decide +kernel
theorem dX8_init_188 : decode cX8_init 188 = .ok (.newarray .int, 2) := by decide +kernel
theorem dX8_init_190 : decode cX8_init 190 = .ok (.putfield 81, 3) := by decide +kernel
theorem dX8_init_193 : decode cX8_init 193 = .ok (.aload_n 0, 1) := by decide +kernel
theorem dX8_init_194 : decode cX8_init 194 = .ok (.bipush 24, 2) := by decide +kernel
theorem dX8_init_196 : decode cX8_init 196 = .ok (.newarray .boolean, 2) := by decide +kernel
theorem dX8_init_198 : decode cX8_init 198 = .ok (.putfield 84, 3) := by decide +kernel
theorem dX8_init_201 : decode cX8_init 201 = .ok (.aload_n 0, 1) := by decide +kernel
theorem dX8_init_202 : decode cX8_init 202 = .ok (.bipush 24, 2) := by decide +kernel
theorem dX8_init_204 : decode cX8_init 204 = .ok (.newarray .int, 2) := by decide +kernel
theorem dX8_init_206 : decode cX8_init 206 = .ok (.putfield 87, 3) := by decide +kernel
theorem dX8_init_209 : decode cX8_init 209 = .ok (.aload_n 0, 1) := by decide +kernel
theorem dX8_init_210 : decode cX8_init 210 = .ok (.bipush 24, 2) := by decide +kernel
theorem dX8_init_212 : decode cX8_init 212 = .ok (.newarray .boolean, 2) := by decide +kernel
theorem dX8_init_214 : decode cX8_init 214 = .ok (.putfield 90, 3) := by decide +kernel
theorem dX8_init_217 : decode cX8_init 217 = .ok (.aload_n 0, 1) := by decide +kernel
theorem dX8_init_218 : decode cX8_init 218 = .ok (.iconst 5, 1) := by decide +kernel
theorem dX8_init_219 : decode cX8_init 219 = .ok (.newarray .int, 2) := by decide +kernel
theorem dX8_init_221 : decode cX8_init 221 = .ok (.putfield 93, 3) := by decide +kernel
theorem dX8_init_224 : decode cX8_init 224 = .ok (.aload_n 0, 1) := by decide +kernel
theorem dX8_init_225 : decode cX8_init 225 = .ok (.iconst 5, 1) := by decide +kernel
theorem dX8_init_226 : decode cX8_init 226 = .ok (.newarray .int, 2) := by decide +kernel
theorem dX8_init_228 : decode cX8_init 228 = .ok (.putfield 96, 3) := by decide +kernel
theorem dX8_init_231 : decode cX8_init 231 = .ok (.aload_n 0, 1) := by decide +kernel
theorem dX8_init_232 : decode cX8_init 232 = .ok (.iconst 5, 1) := by decide +kernel
theorem dX8_init_233 : decode cX8_init 233 = .ok (.newarray .int, 2) := by decide +kernel
theorem dX8_init_235 : decode cX8_init 235 = .ok (.putfield 99, 3) := by decide +kernel
theorem dX8_init_238 : decode cX8_init 238 = .ok (.aload_n 0, 1) := by decide +kernel
theorem dX8_init_239 : decode cX8_init 239 = .ok (.sipush 200, 3) := by decide +kernel
theorem dX8_init_242 : decode cX8_init 242 = .ok (.newarray .int, 2) := by decide +kernel
theorem dX8_init_244 : decode cX8_init 244 = .ok (.putfield 102, 3) := by decide +kernel
theorem dX8_init_247 : decode cX8_init 247 = .ok (.aload_n 0, 1) := by decide +kernel
theorem dX8_init_248 : decode cX8_init 248 = .ok (.iconst (-1), 1) := by decide +kernel
theorem dX8_init_249 : decode cX8_init 249 = .ok (.putfield 105, 3) := by decide +kernel
theorem dX8_init_252 : decode cX8_init 252 = .ok (.aload_n 0, 1) := by decide +kernel
theorem dX8_init_253 : decode cX8_init 253 = .ok (.bipush 10, 2) := by decide +kernel
theorem dX8_init_255 : decode cX8_init 255 = .ok (.newarray .int, 2) := by decide +kernel
theorem dX8_init_257 : decode cX8_init 257 = .ok (.putfield 108, 3) := by decide +kernel
theorem dX8_init_260 : decode cX8_init 260 = .ok (.aload_n 0, 1) := by decide +kernel
theorem dX8_init_261 : decode cX8_init 261 = .ok (.bipush 100, 2) := by decide +kernel
theorem dX8_init_263 : decode cX8_init 263 = .ok (.newarray .int, 2) := by decide +kernel
theorem dX8_init_265 : decode cX8_init 265 = .ok (.putfield 111, 3) := by decide +kernel
theorem dX8_init_268 : decode cX8_init 268 = .ok (.aload_n 0, 1) := by decide +kernel
theorem dX8_init_269 : decode cX8_init 269 = .ok (.iconst 5, 1) := by decide +kernel
theorem dX8_init_270 : decode cX8_init 270 = .ok (.newarray .int, 2) := by decide +kernel
theorem dX8_init_272 : decode cX8_init 272 = .ok (.putfield 114, 3) := by decide +kernel
theorem dX8_init_275 : decode cX8_init 275 = .ok (.aload_n 0, 1) := by decide +kernel
theorem dX8_init_276 : decode cX8_init 276 = .ok (.bipush 10, 2) := by decide +kernel
theorem dX8_init_278 : decode cX8_init 278 = .ok (.newarray .int, 2) := by decide +kernel
theorem dX8_init_280 : decode cX8_init 280 = .ok (.putfield 117, 3) := by decide +kernel
theorem dX8_init_283 : decode cX8_init 283 = .ok (.iconst 0, 1) := by decide +kernel
theorem dX8_init_284 : decode cX8_init 284 = .ok (.istore_n 1, 1) := by decide +kernel
theorem dX8_init_285 : decode cX8_init 285 = .ok (.iload_n 1, 1) := by decide +kernel
theorem dX8_init_286 : decode cX8_init 286 = .ok (.bipush 10, 2) := by decide +kernel
theorem dX8_init_288 : decode cX8_init 288 = .ok (.if_icmp .ge 22, 3) := by decide +kernel
theorem dX8_init_291 : decode cX8_init 291 = .ok (.aload_n 0, 1) := by decide +kernel
theorem dX8_init_292 : decode cX8_init 292 = .ok (.getfield 46, 3) := by decide +kernel
theorem dX8_init_295 : decode cX8_init 295 = .ok (.bipush 40, 2) := by decide +kernel
theorem dX8_init_297 : decode cX8_init 297 = .ok (.iload_n 1, 1) := by decide +kernel
theorem dX8_init_298 : decode cX8_init 298 = .ok (.iadd, 1) := by decide +kernel
theorem dX8_init_299 : decode cX8_init 299 = .ok (.iload_n 1, 1) := by decide +kernel
theorem dX8_init_300 : decode cX8_init 300 = .ok (.invokestatic 120, 3) := by decide +kernel
theorem dX8_init_303 : decode cX8_init 303 = .ok (.iastore, 1) := by decide +kernel
theorem dX8_init_304 : decode cX8_init 304 = .ok (.iinc 1 1, 3) := by decide +kernel
theorem dX8_init_307 : decode cX8_init 307 = .ok (.goto (-22), 3) := by decide +kernel
theorem dX8_init_310 : decode cX8_init 310 = .ok (.iconst 0, 1) := by decide +kernel
theorem dX8_init_311 : decode cX8_init 311 = .ok (.istore_n 1, 1) := by decide +kernel
theorem dX8_init_312 : decode cX8_init 312 = .ok (.iload_n 1, 1) := by decide +kernel
theorem dX8_init_313 : decode cX8_init 313 = .ok (.bipush 120, 2) := by decide +kernel
theorem dX8_init_315 : decode cX8_init 315 = .ok (.if_icmp .ge 16, 3) := by decide +kernel
theorem dX8_init_318 : decode cX8_init 318 = .ok (.aload_n 0, 1) := by decide +kernel
theorem dX8_init_319 : decode cX8_init 319 = .ok (.getfield 34, 3) := by decide +kernel
theorem dX8_init_322 : decode cX8_init 322 = .ok (.iload_n 1, 1) := by decide +kernel
theorem dX8_init_323 : decode cX8_init 323 = .ok (.iconst (-1), 1) := by decide +kernel
theorem dX8_init_324 : decode cX8_init 324 = .ok (.iastore, 1) := by decide +kernel
theorem dX8_init_325 : decode cX8_init 325 = .ok (.iinc 1 1, 3) := by decide +kernel
theorem dX8_init_328 : decode cX8_init 328 = .ok (.goto (-16), 3) := by decide +kernel
theorem dX8_init_331 : decode cX8_init 331 = .ok (.return_, 1) := by decide +kernel
theorem dX8_in_0 : decode cX8_in 0 = .ok (.lload_n 0, 1) := by decide +kernel
theorem dX8_in_1 : decode cX8_in 1 = .ok (.lload_n 2, 1) := by decide +kernel
theorem dX8_in_2 : decode cX8_in 2 = .ok (.lcmp, 1) := by decide +kernel
theorem dX8_in_3 : decode cX8_in 3 = .ok (.ifCond .lt 14, 3) := by decide +kernel
theorem dX8_in_6 : decode cX8_in 6 = .ok (.lload_n 0, 1) := by decide +kernel
theorem dX8_in_7 : decode cX8_in 7 = .ok (.lload 4, 2) := by decide +kernel
theorem dX8_in_9 : decode cX8_in 9 = .ok (.lcmp, 1) := by decide +kernel
theorem dX8_in_10 : decode cX8_in 10 = .ok (.ifCond .gt 7, 3) := by decide +kernel
theorem dX8_in_13 : decode cX8_in 13 = .ok (.iconst 1, 1) := by decide +kernel
theorem dX8_in_14 : decode cX8_in 14 = .ok (.goto 4, 3) := by decide +kernel
theorem dX8_in_17 : decode cX8_in 17 = .ok (.iconst 0, 1) := by decide +kernel
theorem dX8_in_18 : decode cX8_in 18 = .ok (.ireturn, 1) := by decide +kernel
theorem dX8_one_0 : decode cX8_one 0 = .ok (.iload_n 0, 1) := by decide +kernel
theorem dX8_one_1 : decode cX8_one 1 = .ok (.ifCond .eq 7, 3) := by decide +kernel
theorem dX8_one_4 : decode cX8_one 4 = .ok (.iconst 1, 1) := by decide +kernel
theorem dX8_one_5 : decode cX8_one 5 = .ok (.goto 4, 3) := by decide +kernel
theorem dX8_one_8 : decode cX8_one 8 = .ok (.iconst 0, 1) := by decide +kernel
theorem dX8_one_9 : decode cX8_one 9 = .ok (.ireturn, 1) := by decide +kernel
theorem dX8_atFirst_0 : decode cX8_atFirst 0 = .ok (.iload_n 0, 1) := by decide +kernel
theorem dX8_atFirst_1 : decode cX8_atFirst 1 = .ok (.iconst 2, 1) := by decide +kernel
theorem dX8_atFirst_2 : decode cX8_atFirst 2 = .ok (.if_icmp .ne 7, 3) := by decide +kernel
theorem dX8_atFirst_5 : decode cX8_atFirst 5 = .ok (.iconst 3, 1) := by decide +kernel
theorem dX8_atFirst_6 : decode cX8_atFirst 6 = .ok (.goto 24, 3) := by decide +kernel
theorem dX8_atFirst_9 : decode cX8_atFirst 9 = .ok (.iload_n 0, 1) := by decide +kernel
theorem dX8_atFirst_10 : decode cX8_atFirst 10 = .ok (.iconst 3, 1) := by decide +kernel
theorem dX8_atFirst_11 : decode cX8_atFirst 11 = .ok (.if_icmp .eq 14, 3) := by decide +kernel
theorem dX8_atFirst_14 : decode cX8_atFirst 14 = .ok (.iload_n 0, 1) := by decide +kernel
theorem dX8_atFirst_15 : decode cX8_atFirst 15 = .ok (.iconst 4, 1) := by decide +kernel
theorem dX8_atFirst_16 : decode cX8_atFirst 16 = .ok (.if_icmp .eq 9, 3) := by decide +kernel
theorem dX8_atFirst_19 : decode cX8_atFirst 19 = .ok (.iload_n 0, 1) := by decide +kernel
theorem dX8_atFirst_20 : decode cX8_atFirst 20 = .ok (.bipush 7, 2) := by decide +kernel
theorem dX8_atFirst_22 : decode cX8_atFirst 22 = .ok (.if_icmp .ne 7, 3) := by decide +kernel
theorem dX8_atFirst_25 : decode cX8_atFirst 25 = .ok (.iconst 1, 1) := by decide +kernel
theorem dX8_atFirst_26 : decode cX8_atFirst 26 = .ok (.goto 4, 3) := by decide +kernel
theorem dX8_atFirst_29 : decode cX8_atFirst 29 = .ok (.iconst 0, 1) := by decide +kernel
theorem dX8_atFirst_30 : decode cX8_atFirst 30 = .ok (.ireturn, 1) := by decide +kernel
theorem dX8_noWork_0 : decode cX8_noWork 0 = .ok (.iload_n 1, 1) := by decide +kernel
theorem dX8_noWork_1 : decode cX8_noWork 1 = .ok (.i2l, 1) := by decide +kernel
theorem dX8_noWork_2 : decode cX8_noWork 2 = .ok (.lconst 0, 1) := by decide +kernel
theorem dX8_noWork_3 : decode cX8_noWork 3 = .ok (.aload_n 0, 1) := by decide +kernel
theorem dX8_noWork_4 : decode cX8_noWork 4 = .ok (.getfield 124, 3) := by decide +kernel
theorem dX8_noWork_7 : decode cX8_noWork 7 = .ok (.iconst 1, 1) := by decide +kernel
theorem dX8_noWork_8 : decode cX8_noWork 8 = .ok (.isub, 1) := by decide +kernel
theorem dX8_noWork_9 : decode cX8_noWork 9 = .ok (.i2l, 1) := by decide +kernel
theorem dX8_noWork_10 : decode cX8_noWork 10 = .ok (.invokestatic 127, 3) := by decide +kernel
theorem dX8_noWork_13 : decode cX8_noWork 13 = .ok (.ifCond .ne 7, 3) := by decide +kernel
theorem dX8_noWork_16 : decode cX8_noWork 16 = .ok (.iconst 1, 1) := by decide +kernel
theorem dX8_noWork_17 : decode cX8_noWork 17 = .ok (.goto 4, 3) := by decide +kernel
theorem dX8_noWork_20 : decode cX8_noWork 20 = .ok (.iconst 0, 1) := by decide +kernel
theorem dX8_noWork_21 : decode cX8_noWork 21 = .ok (.ireturn, 1) := by decide +kernel
theorem dX8_isName_0 : decode cX8_isName 0 = .ok (.iload_n 0, 1) := by decide +kernel
theorem dX8_isName_1 : decode cX8_isName 1 = .ok (.i2l, 1) := by decide +kernel
theorem dX8_isName_2 : decode cX8_isName 2 = .ok (.lconst 0, 1) := by decide +kernel
theorem dX8_isName_3 : decode cX8_isName 3 = .ok (.ldc2_w 131, 3) := by decide +kernel
theorem dX8_isName_6 : decode cX8_isName 6 = .ok (.invokestatic 127, 3) := by decide +kernel
theorem dX8_isName_9 : decode cX8_isName 9 = .ok (.ifCond .eq 39, 3) := by decide +kernel
theorem dX8_isName_12 : decode cX8_isName 12 = .ok (.iload_n 1, 1) := by decide +kernel
theorem dX8_isName_13 : decode cX8_isName 13 = .ok (.i2l, 1) := by decide +kernel
theorem dX8_isName_14 : decode cX8_isName 14 = .ok (.lconst 0, 1) := by decide +kernel
theorem dX8_isName_15 : decode cX8_isName 15 = .ok (.ldc2_w 133, 3) := by decide +kernel
theorem dX8_isName_18 : decode cX8_isName 18 = .ok (.invokestatic 127, 3) := by decide +kernel
theorem dX8_isName_21 : decode cX8_isName 21 = .ok (.ifCond .eq 27, 3) := by decide +kernel
theorem dX8_isName_24 : decode cX8_isName 24 = .ok (.iload_n 2, 1) := by decide +kernel
theorem dX8_isName_25 : decode cX8_isName 25 = .ok (.i2l, 1) := by decide +kernel
theorem dX8_isName_26 : decode cX8_isName 26 = .ok (.lconst 0, 1) := by decide +kernel
theorem dX8_isName_27 : decode cX8_isName 27 = .ok (.iload_n 1, 1) := by decide +kernel
theorem dX8_isName_28 : decode cX8_isName 28 = .ok (.ifCond .ne 7, 3) := by decide +kernel
theorem dX8_isName_31 : decode cX8_isName 31 = .ok (.lconst 0, 1) := by decide +kernel
theorem dX8_isName_32 : decode cX8_isName 32 = .ok (.goto 6, 3) := by decide +kernel
theorem dX8_isName_35 : decode cX8_isName 35 = .ok (.ldc2_w 133, 3) := by decide +kernel
theorem dX8_isName_38 : decode cX8_isName 38 = .ok (.invokestatic 127, 3) := by decide +kernel
theorem dX8_isName_41 : decode cX8_isName 41 = .ok (.ifCond .eq 7, 3) := by decide +kernel
theorem dX8_isName_44 : decode cX8_isName 44 = .ok (.iconst 1, 1) := by decide +kernel
theorem dX8_isName_45 : decode cX8_isName 45 = .ok (.goto 4, 3) := by decide +kernel
theorem dX8_isName_48 : decode cX8_isName 48 = .ok (.iconst 0, 1) := by decide +kernel
theorem dX8_isName_49 : decode cX8_isName 49 = .ok (.ireturn, 1) := by decide +kernel
theorem dX8_name_0 : decode cX8_name 0 = .ok (.iconst 4, 1) := by decide +kernel
theorem dX8_name_1 : decode cX8_name 1 = .ok (.iload_n 1, 1) := by decide +kernel
theorem dX8_name_2 : decode cX8_name 2 = .ok (.imul, 1) := by decide +kernel
theorem dX8_name_3 : decode cX8_name 3 = .ok (.aload_n 0, 1) := by decide +kernel
theorem dX8_name_4 : decode cX8_name 4 = .ok (.getfield 7, 3) := by decide +kernel
theorem dX8_name_7 : decode cX8_name 7 = .ok (.iload_n 1, 1) := by decide +kernel
theorem dX8_name_8 : decode cX8_name 8 = .ok (.iaload, 1) := by decide +kernel
theorem dX8_name_9 : decode cX8_name 9 = .ok (.iadd, 1) := by decide +kernel
theorem dX8_name_10 : decode cX8_name 10 = .ok (.istore 5, 2) := by decide +kernel
theorem dX8_name_12 : decode cX8_name 12 = .ok (.aload_n 0, 1) := by decide +kernel
theorem dX8_name_13 : decode cX8_name 13 = .ok (.getfield 13, 3) := by decide +kernel
theorem dX8_name_16 : decode cX8_name 16 = .ok (.iload 5, 2) := by decide +kernel
theorem dX8_name_18 : decode cX8_name 18 = .ok (.iload_n 2, 1) := by decide +kernel
theorem dX8_name_19 : decode cX8_name 19 = .ok (.iastore, 1) := by decide +kernel
theorem dX8_name_20 : decode cX8_name 20 = .ok (.aload_n 0, 1) := by decide +kernel
theorem dX8_name_21 : decode cX8_name 21 = .ok (.getfield 16, 3) := by decide +kernel
theorem dX8_name_24 : decode cX8_name 24 = .ok (.iload 5, 2) := by decide +kernel
theorem dX8_name_26 : decode cX8_name 26 = .ok (.iload_n 3, 1) := by decide +kernel
theorem dX8_name_27 : decode cX8_name 27 = .ok (.iastore, 1) := by decide +kernel
theorem dX8_name_28 : decode cX8_name 28 = .ok (.aload_n 0, 1) := by decide +kernel
theorem dX8_name_29 : decode cX8_name 29 = .ok (.getfield 19, 3) := by decide +kernel
theorem dX8_name_32 : decode cX8_name 32 = .ok (.iload 5, 2) := by decide +kernel
theorem dX8_name_34 : decode cX8_name 34 = .ok (.iload 4, 2) := by decide +kernel
theorem dX8_name_36 : decode cX8_name 36 = .ok (.iastore, 1) := by decide +kernel
theorem dX8_name_37 : decode cX8_name 37 = .ok (.aload_n 0, 1) := by decide +kernel
theorem dX8_name_38 : decode cX8_name 38 = .ok (.getfield 7, 3) := by decide +kernel
theorem dX8_name_41 : decode cX8_name 41 = .ok (.iload_n 1, 1) := by decide +kernel
theorem dX8_name_42 : decode cX8_name 42 = .ok (.dup2, 1) := by decide +kernel
theorem dX8_name_43 : decode cX8_name 43 = .ok (.iaload, 1) := by decide +kernel
theorem dX8_name_44 : decode cX8_name 44 = .ok (.iconst 1, 1) := by decide +kernel
theorem dX8_name_45 : decode cX8_name 45 = .ok (.iadd, 1) := by decide +kernel
theorem dX8_name_46 : decode cX8_name 46 = .ok (.iastore, 1) := by decide +kernel
theorem dX8_name_47 : decode cX8_name 47 = .ok (.return_, 1) := by decide +kernel
theorem dX8_work_0 : decode cX8_work 0 = .ok (.iload_n 1, 1) := by decide +kernel
theorem dX8_work_1 : decode cX8_work 1 = .ok (.iload_n 2, 1) := by decide +kernel
theorem dX8_work_2 : decode cX8_work 2 = .ok (.iload_n 3, 1) := by decide +kernel
theorem dX8_work_3 : decode cX8_work 3 = .ok (.invokestatic 135, 3) := by decide +kernel
theorem dX8_work_6 : decode cX8_work 6 = .ok (.ifCond .eq 29, 3) := by decide +kernel
theorem dX8_work_9 : decode cX8_work 9 = .ok (.iload 4, 2) := by decide +kernel
theorem dX8_work_11 : decode cX8_work 11 = .ok (.i2l, 1) := by decide +kernel
theorem dX8_work_12 : decode cX8_work 12 = .ok (.lconst 0, 1) := by decide +kernel
theorem dX8_work_13 : decode cX8_work 13 = .ok (.ldc2_w 139, 3) := by decide +kernel
theorem dX8_work_16 : decode cX8_work 16 = .ok (.invokestatic 127, 3) := by decide +kernel
theorem dX8_work_19 : decode cX8_work 19 = .ok (.ifCond .eq 16, 3) := by decide +kernel
theorem dX8_work_22 : decode cX8_work 22 = .ok (.iload 5, 2) := by decide +kernel
theorem dX8_work_24 : decode cX8_work 24 = .ok (.i2l, 1) := by decide +kernel
theorem dX8_work_25 : decode cX8_work 25 = .ok (.lconst 0, 1) := by decide +kernel
theorem dX8_work_26 : decode cX8_work 26 = .ok (.ldc2_w 141, 3) := by decide +kernel
theorem dX8_work_29 : decode cX8_work 29 = .ok (.invokestatic 127, 3) := by decide +kernel
theorem dX8_work_32 : decode cX8_work 32 = .ok (.ifCond .ne 7, 3) := by decide +kernel
theorem dX8_work_35 : decode cX8_work 35 = .ok (.sipush (-1002), 3) := by decide +kernel
theorem dX8_work_38 : decode cX8_work 38 = .ok (.ireturn, 1) := by decide +kernel
theorem dX8_work_39 : decode cX8_work 39 = .ok (.aload_n 0, 1) := by decide +kernel
theorem dX8_work_40 : decode cX8_work 40 = .ok (.getfield 124, 3) := by decide +kernel
theorem dX8_work_43 : decode cX8_work 43 = .ok (.bipush 24, 2) := by decide +kernel
theorem dX8_work_45 : decode cX8_work 45 = .ok (.if_icmp .ne 7, 3) := by decide +kernel
theorem dX8_work_48 : decode cX8_work 48 = .ok (.sipush (-1004), 3) := by decide +kernel
theorem dX8_work_51 : decode cX8_work 51 = .ok (.ireturn, 1) := by decide +kernel
theorem dX8_work_52 : decode cX8_work 52 = .ok (.aload_n 0, 1) := by decide +kernel
theorem dX8_work_53 : decode cX8_work 53 = .ok (.getfield 7, 3) := by decide +kernel
theorem dX8_work_56 : decode cX8_work 56 = .ok (.aload_n 0, 1) := by decide +kernel
theorem dX8_work_57 : decode cX8_work 57 = .ok (.getfield 124, 3) := by decide +kernel
theorem dX8_work_60 : decode cX8_work 60 = .ok (.iconst 0, 1) := by decide +kernel
theorem dX8_work_61 : decode cX8_work 61 = .ok (.iastore, 1) := by decide +kernel
theorem dX8_work_62 : decode cX8_work 62 = .ok (.aload_n 0, 1) := by decide +kernel
theorem dX8_work_63 : decode cX8_work 63 = .ok (.aload_n 0, 1) := by decide +kernel
theorem dX8_work_64 : decode cX8_work 64 = .ok (.getfield 124, 3) := by decide +kernel
theorem dX8_work_67 : decode cX8_work 67 = .ok (.iload_n 1, 1) := by decide +kernel
theorem dX8_work_68 : decode cX8_work 68 = .ok (.iload_n 2, 1) := by decide +kernel
theorem dX8_work_69 : decode cX8_work 69 = .ok (.iload_n 3, 1) := by decide +kernel
theorem dX8_work_70 : decode cX8_work 70 = .ok (.invokevirtual 143, 3) := by decide +kernel
theorem dX8_work_73 : decode cX8_work 73 = .ok (.aload_n 0, 1) := by decide +kernel
theorem dX8_work_74 : decode cX8_work 74 = .ok (.getfield 22, 3) := by decide +kernel
theorem dX8_work_77 : decode cX8_work 77 = .ok (.aload_n 0, 1) := by decide +kernel
theorem dX8_work_78 : decode cX8_work 78 = .ok (.getfield 124, 3) := by decide +kernel
theorem dX8_work_81 : decode cX8_work 81 = .ok (.iload 4, 2) := by decide +kernel
theorem dX8_work_83 : decode cX8_work 83 = .ok (.iastore, 1) := by decide +kernel
theorem dX8_work_84 : decode cX8_work 84 = .ok (.aload_n 0, 1) := by decide +kernel
theorem dX8_work_85 : decode cX8_work 85 = .ok (.getfield 25, 3) := by decide +kernel
theorem dX8_work_88 : decode cX8_work 88 = .ok (.aload_n 0, 1) := by decide +kernel
theorem dX8_work_89 : decode cX8_work 89 = .ok (.getfield 124, 3) := by decide +kernel
theorem dX8_work_92 : decode cX8_work 92 = .ok (.iload 5, 2) := by decide +kernel
theorem dX8_work_94 : decode cX8_work 94 = .ok (.iastore, 1) := by decide +kernel
theorem dX8_work_95 : decode cX8_work 95 = .ok (.aload_n 0, 1) := by decide +kernel
theorem dX8_work_96 : decode cX8_work 96 = .ok (.getfield 28, 3) := by decide +kernel
theorem dX8_work_99 : decode cX8_work 99 = .ok (.aload_n 0, 1) := by decide +kernel
theorem dX8_work_100 : decode cX8_work 100 = .ok (.getfield 124, 3) := by decide +kernel
theorem dX8_work_103 : decode cX8_work 103 = .ok (.iconst (-1), 1) := by decide +kernel
theorem dX8_work_104 : decode cX8_work 104 = .ok (.iastore, 1) := by decide +kernel
theorem dX8_work_105 : decode cX8_work 105 = .ok (.aload_n 0, 1) := by decide +kernel
theorem dX8_work_106 : decode cX8_work 106 = .ok (.getfield 31, 3) := by decide +kernel
theorem dX8_work_109 : decode cX8_work 109 = .ok (.aload_n 0, 1) := by decide +kernel
theorem dX8_work_110 : decode cX8_work 110 = .ok (.getfield 124, 3) := by decide +kernel
theorem dX8_work_113 : decode cX8_work 113 = .ok (.iconst (-1), 1) := by decide +kernel
theorem dX8_work_114 : decode cX8_work 114 = .ok (.iastore, 1) := by decide +kernel
theorem dX8_work_115 : decode cX8_work 115 = .ok (.aload_n 0, 1) := by decide +kernel
theorem dX8_work_116 : decode cX8_work 116 = .ok (.dup, 1) := by decide +kernel
theorem dX8_work_117 : decode cX8_work 117 = .ok (.getfield 124, 3) := by decide +kernel
theorem dX8_work_120 : decode cX8_work 120 = .ok (.iconst 1, 1) := by decide +kernel
theorem dX8_work_121 : decode cX8_work 121 = .ok (.iadd, 1) := by decide +kernel
theorem dX8_work_122 : decode cX8_work 122 = .ok (.putfield 124, 3) := by decide +kernel
theorem dX8_work_125 : decode cX8_work 125 = .ok (.aload_n 0, 1) := by decide +kernel
theorem dX8_work_126 : decode cX8_work 126 = .ok (.getfield 124, 3) := by decide +kernel
theorem dX8_work_129 : decode cX8_work 129 = .ok (.iconst 1, 1) := by decide +kernel
theorem dX8_work_130 : decode cX8_work 130 = .ok (.isub, 1) := by decide +kernel
theorem dX8_work_131 : decode cX8_work 131 = .ok (.ireturn, 1) := by decide +kernel
theorem dX8_author_0 : decode cX8_author 0 = .ok (.aload_n 0, 1) := by decide +kernel
theorem dX8_author_1 : decode cX8_author 1 = .ok (.iload_n 1, 1) := by decide +kernel
theorem dX8_author_2 : decode cX8_author 2 = .ok (.invokevirtual 147, 3) := by decide +kernel
theorem dX8_author_5 : decode cX8_author 5 = .ok (.ifCond .eq 7, 3) := by decide +kernel
theorem dX8_author_8 : decode cX8_author 8 = .ok (.sipush (-1001), 3) := by decide +kernel
theorem dX8_author_11 : decode cX8_author 11 = .ok (.ireturn, 1) := by decide +kernel
theorem dX8_author_12 : decode cX8_author 12 = .ok (.iload_n 2, 1) := by decide +kernel
theorem dX8_author_13 : decode cX8_author 13 = .ok (.iload_n 3, 1) := by decide +kernel
theorem dX8_author_14 : decode cX8_author 14 = .ok (.iload 4, 2) := by decide +kernel
theorem dX8_author_16 : decode cX8_author 16 = .ok (.invokestatic 135, 3) := by decide +kernel
theorem dX8_author_19 : decode cX8_author 19 = .ok (.ifCond .ne 7, 3) := by decide +kernel
theorem dX8_author_22 : decode cX8_author 22 = .ok (.sipush (-1002), 3) := by decide +kernel
theorem dX8_author_25 : decode cX8_author 25 = .ok (.ireturn, 1) := by decide +kernel
theorem dX8_author_26 : decode cX8_author 26 = .ok (.aload_n 0, 1) := by decide +kernel
theorem dX8_author_27 : decode cX8_author 27 = .ok (.getfield 7, 3) := by decide +kernel
theorem dX8_author_30 : decode cX8_author 30 = .ok (.iload_n 1, 1) := by decide +kernel
theorem dX8_author_31 : decode cX8_author 31 = .ok (.iaload, 1) := by decide +kernel
theorem dX8_author_32 : decode cX8_author 32 = .ok (.iconst 4, 1) := by decide +kernel
theorem dX8_author_33 : decode cX8_author 33 = .ok (.if_icmp .ne 7, 3) := by decide +kernel
theorem dX8_author_36 : decode cX8_author 36 = .ok (.sipush (-1004), 3) := by decide +kernel
theorem dX8_author_39 : decode cX8_author 39 = .ok (.ireturn, 1) := by decide +kernel
theorem dX8_author_40 : decode cX8_author 40 = .ok (.aload_n 0, 1) := by decide +kernel
theorem dX8_author_41 : decode cX8_author 41 = .ok (.iload_n 1, 1) := by decide +kernel
theorem dX8_author_42 : decode cX8_author 42 = .ok (.iload_n 2, 1) := by decide +kernel
theorem dX8_author_43 : decode cX8_author 43 = .ok (.iload_n 3, 1) := by decide +kernel
theorem dX8_author_44 : decode cX8_author 44 = .ok (.iload 4, 2) := by decide +kernel
theorem dX8_author_46 : decode cX8_author 46 = .ok (.invokevirtual 143, 3) := by decide +kernel
theorem dX8_author_49 : decode cX8_author 49 = .ok (.aload_n 0, 1) := by decide +kernel
theorem dX8_author_50 : decode cX8_author 50 = .ok (.getfield 7, 3) := by decide +kernel
theorem dX8_author_53 : decode cX8_author 53 = .ok (.iload_n 1, 1) := by decide +kernel
theorem dX8_author_54 : decode cX8_author 54 = .ok (.iaload, 1) := by decide +kernel
theorem dX8_author_55 : decode cX8_author 55 = .ok (.ireturn, 1) := by decide +kernel
theorem dX8_pages_0 : decode cX8_pages 0 = .ok (.aload_n 0, 1) := by decide +kernel
theorem dX8_pages_1 : decode cX8_pages 1 = .ok (.iload_n 1, 1) := by decide +kernel
theorem dX8_pages_2 : decode cX8_pages 2 = .ok (.invokevirtual 147, 3) := by decide +kernel
theorem dX8_pages_5 : decode cX8_pages 5 = .ok (.ifCond .eq 7, 3) := by decide +kernel
theorem dX8_pages_8 : decode cX8_pages 8 = .ok (.sipush (-1001), 3) := by decide +kernel
theorem dX8_pages_11 : decode cX8_pages 11 = .ok (.ireturn, 1) := by decide +kernel
theorem dX8_pages_12 : decode cX8_pages 12 = .ok (.iload_n 2, 1) := by decide +kernel
theorem dX8_pages_13 : decode cX8_pages 13 = .ok (.iconst (-1), 1) := by decide +kernel
theorem dX8_pages_14 : decode cX8_pages 14 = .ok (.if_icmp .ne 12, 3) := by decide +kernel
theorem dX8_pages_17 : decode cX8_pages 17 = .ok (.iload_n 3, 1) := by decide +kernel
theorem dX8_pages_18 : decode cX8_pages 18 = .ok (.iconst (-1), 1) := by decide +kernel
theorem dX8_pages_19 : decode cX8_pages 19 = .ok (.if_icmp .ne 7, 3) := by decide +kernel
theorem dX8_pages_22 : decode cX8_pages 22 = .ok (.iconst 1, 1) := by decide +kernel
theorem dX8_pages_23 : decode cX8_pages 23 = .ok (.goto 4, 3) := by decide +kernel
theorem dX8_pages_26 : decode cX8_pages 26 = .ok (.iconst 0, 1) := by decide +kernel
theorem dX8_pages_27 : decode cX8_pages 27 = .ok (.istore 4, 2) := by decide +kernel
theorem dX8_pages_29 : decode cX8_pages 29 = .ok (.iload 4, 2) := by decide +kernel
theorem dX8_pages_31 : decode cX8_pages 31 = .ok (.ifCond .ne 32, 3) := by decide +kernel
theorem dX8_pages_34 : decode cX8_pages 34 = .ok (.iload_n 2, 1) := by decide +kernel
theorem dX8_pages_35 : decode cX8_pages 35 = .ok (.i2l, 1) := by decide +kernel
theorem dX8_pages_36 : decode cX8_pages 36 = .ok (.lconst 0, 1) := by decide +kernel
theorem dX8_pages_37 : decode cX8_pages 37 = .ok (.ldc2_w 151, 3) := by decide +kernel
theorem dX8_pages_40 : decode cX8_pages 40 = .ok (.invokestatic 127, 3) := by decide +kernel
theorem dX8_pages_43 : decode cX8_pages 43 = .ok (.ifCond .eq 16, 3) := by decide +kernel
theorem dX8_pages_46 : decode cX8_pages 46 = .ok (.iload_n 3, 1) := by decide +kernel
theorem dX8_pages_47 : decode cX8_pages 47 = .ok (.i2l, 1) := by decide +kernel
theorem dX8_pages_48 : decode cX8_pages 48 = .ok (.iload_n 2, 1) := by decide +kernel
theorem dX8_pages_49 : decode cX8_pages 49 = .ok (.i2l, 1) := by decide +kernel
theorem dX8_pages_50 : decode cX8_pages 50 = .ok (.ldc2_w 151, 3) := by decide +kernel
theorem dX8_pages_53 : decode cX8_pages 53 = .ok (.invokestatic 127, 3) := by decide +kernel
theorem dX8_pages_56 : decode cX8_pages 56 = .ok (.ifCond .ne 7, 3) := by decide +kernel
theorem dX8_pages_59 : decode cX8_pages 59 = .ok (.sipush (-1002), 3) := by decide +kernel
theorem dX8_pages_62 : decode cX8_pages 62 = .ok (.ireturn, 1) := by decide +kernel
theorem dX8_pages_63 : decode cX8_pages 63 = .ok (.aload_n 0, 1) := by decide +kernel
theorem dX8_pages_64 : decode cX8_pages 64 = .ok (.getfield 28, 3) := by decide +kernel
theorem dX8_pages_67 : decode cX8_pages 67 = .ok (.iload_n 1, 1) := by decide +kernel
theorem dX8_pages_68 : decode cX8_pages 68 = .ok (.iload_n 2, 1) := by decide +kernel
theorem dX8_pages_69 : decode cX8_pages 69 = .ok (.iastore, 1) := by decide +kernel
theorem dX8_pages_70 : decode cX8_pages 70 = .ok (.aload_n 0, 1) := by decide +kernel
theorem dX8_pages_71 : decode cX8_pages 71 = .ok (.getfield 31, 3) := by decide +kernel
theorem dX8_pages_74 : decode cX8_pages 74 = .ok (.iload_n 1, 1) := by decide +kernel
theorem dX8_pages_75 : decode cX8_pages 75 = .ok (.iload_n 3, 1) := by decide +kernel
theorem dX8_pages_76 : decode cX8_pages 76 = .ok (.iastore, 1) := by decide +kernel
theorem dX8_pages_77 : decode cX8_pages 77 = .ok (.iconst 1, 1) := by decide +kernel
theorem dX8_pages_78 : decode cX8_pages 78 = .ok (.ireturn, 1) := by decide +kernel
theorem dX8_meant_0 : decode cX8_meant 0 = .ok (.iload_n 1, 1) := by decide +kernel
theorem dX8_meant_1 : decode cX8_meant 1 = .ok (.istore_n 2, 1) := by decide +kernel
theorem dX8_meant_2 : decode cX8_meant 2 = .ok (.aload_n 0, 1) := by decide +kernel
theorem dX8_meant_3 : decode cX8_meant 3 = .ok (.getfield 34, 3) := by decide +kernel
theorem dX8_meant_6 : decode cX8_meant 6 = .ok (.bipush 24, 2) := by decide +kernel
theorem dX8_meant_8 : decode cX8_meant 8 = .ok (.aload_n 0, 1) := by decide +kernel
theorem dX8_meant_9 : decode cX8_meant 9 = .ok (.getfield 53, 3) := by decide +kernel
theorem dX8_meant_12 : decode cX8_meant 12 = .ok (.imul, 1) := by decide +kernel
theorem dX8_meant_13 : decode cX8_meant 13 = .ok (.iload_n 2, 1) := by decide +kernel
theorem dX8_meant_14 : decode cX8_meant 14 = .ok (.iadd, 1) := by decide +kernel
theorem dX8_meant_15 : decode cX8_meant 15 = .ok (.iaload, 1) := by decide +kernel
theorem dX8_meant_16 : decode cX8_meant 16 = .ok (.ifCond .lt 21, 3) := by decide +kernel
theorem dX8_meant_19 : decode cX8_meant 19 = .ok (.aload_n 0, 1) := by decide +kernel
theorem dX8_meant_20 : decode cX8_meant 20 = .ok (.getfield 34, 3) := by decide +kernel
theorem dX8_meant_23 : decode cX8_meant 23 = .ok (.bipush 24, 2) := by decide +kernel
theorem dX8_meant_25 : decode cX8_meant 25 = .ok (.aload_n 0, 1) := by decide +kernel
theorem dX8_meant_26 : decode cX8_meant 26 = .ok (.getfield 53, 3) := by decide +kernel
theorem dX8_meant_29 : decode cX8_meant 29 = .ok (.imul, 1) := by decide +kernel
theorem dX8_meant_30 : decode cX8_meant 30 = .ok (.iload_n 2, 1) := by decide +kernel
theorem dX8_meant_31 : decode cX8_meant 31 = .ok (.iadd, 1) := by decide +kernel
theorem dX8_meant_32 : decode cX8_meant 32 = .ok (.iaload, 1) := by decide +kernel
theorem dX8_meant_33 : decode cX8_meant 33 = .ok (.istore_n 2, 1) := by decide +kernel
theorem dX8_meant_34 : decode cX8_meant 34 = .ok (.goto (-32), 3) := by decide +kernel
theorem dX8_meant_37 : decode cX8_meant 37 = .ok (.iload_n 2, 1) := by decide +kernel
theorem dX8_meant_38 : decode cX8_meant 38 = .ok (.ireturn, 1) := by decide +kernel
theorem dX8_join_0 : decode cX8_join 0 = .ok (.aload_n 0, 1) := by decide +kernel
theorem dX8_join_1 : decode cX8_join 1 = .ok (.iload_n 1, 1) := by decide +kernel
theorem dX8_join_2 : decode cX8_join 2 = .ok (.invokevirtual 147, 3) := by decide +kernel
theorem dX8_join_5 : decode cX8_join 5 = .ok (.ifCond .ne 11, 3) := by decide +kernel
theorem dX8_join_8 : decode cX8_join 8 = .ok (.aload_n 0, 1) := by decide +kernel
theorem dX8_join_9 : decode cX8_join 9 = .ok (.iload_n 2, 1) := by decide +kernel
theorem dX8_join_10 : decode cX8_join 10 = .ok (.invokevirtual 147, 3) := by decide +kernel
theorem dX8_join_13 : decode cX8_join 13 = .ok (.ifCond .eq 7, 3) := by decide +kernel
theorem dX8_join_16 : decode cX8_join 16 = .ok (.sipush (-1001), 3) := by decide +kernel
theorem dX8_join_19 : decode cX8_join 19 = .ok (.ireturn, 1) := by decide +kernel
theorem dX8_join_20 : decode cX8_join 20 = .ok (.aload_n 0, 1) := by decide +kernel
theorem dX8_join_21 : decode cX8_join 21 = .ok (.iconst 4, 1) := by decide +kernel
theorem dX8_join_22 : decode cX8_join 22 = .ok (.putfield 53, 3) := by decide +kernel
theorem dX8_join_25 : decode cX8_join 25 = .ok (.aload_n 0, 1) := by decide +kernel
theorem dX8_join_26 : decode cX8_join 26 = .ok (.getfield 34, 3) := by decide +kernel
theorem dX8_join_29 : decode cX8_join 29 = .ok (.bipush 96, 2) := by decide +kernel
theorem dX8_join_31 : decode cX8_join 31 = .ok (.iload_n 1, 1) := by decide +kernel
theorem dX8_join_32 : decode cX8_join 32 = .ok (.iadd, 1) := by decide +kernel
theorem dX8_join_33 : decode cX8_join 33 = .ok (.iaload, 1) := by decide +kernel
theorem dX8_join_34 : decode cX8_join 34 = .ok (.ifCond .ge 12, 3) := by decide +kernel
theorem dX8_join_37 : decode cX8_join 37 = .ok (.aload_n 0, 1) := by decide +kernel
theorem dX8_join_38 : decode cX8_join 38 = .ok (.iload_n 2, 1) := by decide +kernel
theorem dX8_join_39 : decode cX8_join 39 = .ok (.invokevirtual 153, 3) := by decide +kernel
theorem dX8_join_42 : decode cX8_join 42 = .ok (.iload_n 1, 1) := by decide +kernel
theorem dX8_join_43 : decode cX8_join 43 = .ok (.if_icmp .ne 7, 3) := by decide +kernel
theorem dX8_join_46 : decode cX8_join 46 = .ok (.sipush (-1003), 3) := by decide +kernel
theorem dX8_join_49 : decode cX8_join 49 = .ok (.ireturn, 1) := by decide +kernel
theorem dX8_join_50 : decode cX8_join 50 = .ok (.aload_n 0, 1) := by decide +kernel
theorem dX8_join_51 : decode cX8_join 51 = .ok (.getfield 34, 3) := by decide +kernel
theorem dX8_join_54 : decode cX8_join 54 = .ok (.bipush 96, 2) := by decide +kernel
theorem dX8_join_56 : decode cX8_join 56 = .ok (.iload_n 1, 1) := by decide +kernel
theorem dX8_join_57 : decode cX8_join 57 = .ok (.iadd, 1) := by decide +kernel
theorem dX8_join_58 : decode cX8_join 58 = .ok (.iload_n 2, 1) := by decide +kernel
theorem dX8_join_59 : decode cX8_join 59 = .ok (.iastore, 1) := by decide +kernel
theorem dX8_join_60 : decode cX8_join 60 = .ok (.aload_n 0, 1) := by decide +kernel
theorem dX8_join_61 : decode cX8_join 61 = .ok (.iload_n 2, 1) := by decide +kernel
theorem dX8_join_62 : decode cX8_join 62 = .ok (.invokevirtual 153, 3) := by decide +kernel
theorem dX8_join_65 : decode cX8_join 65 = .ok (.ireturn, 1) := by decide +kernel
theorem dX8_part_0 : decode cX8_part 0 = .ok (.aload_n 0, 1) := by decide +kernel
theorem dX8_part_1 : decode cX8_part 1 = .ok (.iload_n 1, 1) := by decide +kernel
theorem dX8_part_2 : decode cX8_part 2 = .ok (.invokevirtual 147, 3) := by decide +kernel
theorem dX8_part_5 : decode cX8_part 5 = .ok (.ifCond .eq 7, 3) := by decide +kernel
theorem dX8_part_8 : decode cX8_part 8 = .ok (.sipush (-1001), 3) := by decide +kernel
theorem dX8_part_11 : decode cX8_part 11 = .ok (.ireturn, 1) := by decide +kernel
theorem dX8_part_12 : decode cX8_part 12 = .ok (.aload_n 0, 1) := by decide +kernel
theorem dX8_part_13 : decode cX8_part 13 = .ok (.getfield 34, 3) := by decide +kernel
theorem dX8_part_16 : decode cX8_part 16 = .ok (.bipush 96, 2) := by decide +kernel
theorem dX8_part_18 : decode cX8_part 18 = .ok (.iload_n 1, 1) := by decide +kernel
theorem dX8_part_19 : decode cX8_part 19 = .ok (.iadd, 1) := by decide +kernel
theorem dX8_part_20 : decode cX8_part 20 = .ok (.iaload, 1) := by decide +kernel
theorem dX8_part_21 : decode cX8_part 21 = .ok (.istore_n 2, 1) := by decide +kernel
theorem dX8_part_22 : decode cX8_part 22 = .ok (.iload_n 2, 1) := by decide +kernel
theorem dX8_part_23 : decode cX8_part 23 = .ok (.ifCond .ge 7, 3) := by decide +kernel
theorem dX8_part_26 : decode cX8_part 26 = .ok (.sipush (-1003), 3) := by decide +kernel
theorem dX8_part_29 : decode cX8_part 29 = .ok (.ireturn, 1) := by decide +kernel
theorem dX8_part_30 : decode cX8_part 30 = .ok (.aload_n 0, 1) := by decide +kernel
theorem dX8_part_31 : decode cX8_part 31 = .ok (.getfield 34, 3) := by decide +kernel
theorem dX8_part_34 : decode cX8_part 34 = .ok (.bipush 96, 2) := by decide +kernel
theorem dX8_part_36 : decode cX8_part 36 = .ok (.iload_n 1, 1) := by decide +kernel
theorem dX8_part_37 : decode cX8_part 37 = .ok (.iadd, 1) := by decide +kernel
theorem dX8_part_38 : decode cX8_part 38 = .ok (.iconst (-1), 1) := by decide +kernel
theorem dX8_part_39 : decode cX8_part 39 = .ok (.iastore, 1) := by decide +kernel
theorem dX8_part_40 : decode cX8_part 40 = .ok (.iload_n 2, 1) := by decide +kernel
theorem dX8_part_41 : decode cX8_part 41 = .ok (.ireturn, 1) := by decide +kernel
theorem dX8_name__0 : decode cX8_name_ 0 = .ok (.aload_n 0, 1) := by decide +kernel
theorem dX8_name__1 : decode cX8_name_ 1 = .ok (.iload_n 1, 1) := by decide +kernel
theorem dX8_name__2 : decode cX8_name_ 2 = .ok (.invokevirtual 147, 3) := by decide +kernel
theorem dX8_name__5 : decode cX8_name_ 5 = .ok (.ifCond .eq 7, 3) := by decide +kernel
theorem dX8_name__8 : decode cX8_name_ 8 = .ok (.sipush (-1001), 3) := by decide +kernel
theorem dX8_name__11 : decode cX8_name_ 11 = .ok (.ireturn, 1) := by decide +kernel
theorem dX8_name__12 : decode cX8_name_ 12 = .ok (.iload_n 2, 1) := by decide +kernel
theorem dX8_name__13 : decode cX8_name_ 13 = .ok (.i2l, 1) := by decide +kernel
theorem dX8_name__14 : decode cX8_name_ 14 = .ok (.lconst 0, 1) := by decide +kernel
theorem dX8_name__15 : decode cX8_name_ 15 = .ok (.aload_n 0, 1) := by decide +kernel
theorem dX8_name__16 : decode cX8_name_ 16 = .ok (.getfield 7, 3) := by decide +kernel
theorem dX8_name__19 : decode cX8_name_ 19 = .ok (.iload_n 1, 1) := by decide +kernel
theorem dX8_name__20 : decode cX8_name_ 20 = .ok (.iaload, 1) := by decide +kernel
theorem dX8_name__21 : decode cX8_name_ 21 = .ok (.iconst 1, 1) := by decide +kernel
theorem dX8_name__22 : decode cX8_name_ 22 = .ok (.isub, 1) := by decide +kernel
theorem dX8_name__23 : decode cX8_name_ 23 = .ok (.i2l, 1) := by decide +kernel
theorem dX8_name__24 : decode cX8_name_ 24 = .ok (.invokestatic 127, 3) := by decide +kernel
theorem dX8_name__27 : decode cX8_name_ 27 = .ok (.ifCond .eq 15, 3) := by decide +kernel
theorem dX8_name__30 : decode cX8_name_ 30 = .ok (.iload_n 3, 1) := by decide +kernel
theorem dX8_name__31 : decode cX8_name_ 31 = .ok (.i2l, 1) := by decide +kernel
theorem dX8_name__32 : decode cX8_name_ 32 = .ok (.lconst 0, 1) := by decide +kernel
theorem dX8_name__33 : decode cX8_name_ 33 = .ok (.ldc2_w 156, 3) := by decide +kernel
theorem dX8_name__36 : decode cX8_name_ 36 = .ok (.invokestatic 127, 3) := by decide +kernel
theorem dX8_name__39 : decode cX8_name_ 39 = .ok (.ifCond .ne 7, 3) := by decide +kernel
theorem dX8_name__42 : decode cX8_name_ 42 = .ok (.sipush (-1002), 3) := by decide +kernel
theorem dX8_name__45 : decode cX8_name_ 45 = .ok (.ireturn, 1) := by decide +kernel
theorem dX8_name__46 : decode cX8_name_ 46 = .ok (.iconst 4, 1) := by decide +kernel
theorem dX8_name__47 : decode cX8_name_ 47 = .ok (.iload_n 1, 1) := by decide +kernel
theorem dX8_name__48 : decode cX8_name_ 48 = .ok (.imul, 1) := by decide +kernel
theorem dX8_name__49 : decode cX8_name_ 49 = .ok (.iload_n 2, 1) := by decide +kernel
theorem dX8_name__50 : decode cX8_name_ 50 = .ok (.iadd, 1) := by decide +kernel
theorem dX8_name__51 : decode cX8_name_ 51 = .ok (.istore 4, 2) := by decide +kernel
theorem dX8_name__53 : decode cX8_name_ 53 = .ok (.iload_n 3, 1) := by decide +kernel
theorem dX8_name__54 : decode cX8_name_ 54 = .ok (.ifCond .ne 13, 3) := by decide +kernel
theorem dX8_name__57 : decode cX8_name_ 57 = .ok (.aload_n 0, 1) := by decide +kernel
theorem dX8_name__58 : decode cX8_name_ 58 = .ok (.getfield 13, 3) := by decide +kernel
theorem dX8_name__61 : decode cX8_name_ 61 = .ok (.iload 4, 2) := by decide +kernel
theorem dX8_name__63 : decode cX8_name_ 63 = .ok (.iaload, 1) := by decide +kernel
theorem dX8_name__64 : decode cX8_name_ 64 = .ok (.goto 25, 3) := by decide +kernel
theorem dX8_name__67 : decode cX8_name_ 67 = .ok (.iload_n 3, 1) := by decide +kernel
theorem dX8_name__68 : decode cX8_name_ 68 = .ok (.iconst 1, 1) := by decide +kernel
theorem dX8_name__69 : decode cX8_name_ 69 = .ok (.if_icmp .ne 13, 3) := by decide +kernel
theorem dX8_name__72 : decode cX8_name_ 72 = .ok (.aload_n 0, 1) := by decide +kernel
theorem dX8_name__73 : decode cX8_name_ 73 = .ok (.getfield 16, 3) := by decide +kernel
theorem dX8_name__76 : decode cX8_name_ 76 = .ok (.iload 4, 2) := by decide +kernel
theorem dX8_name__78 : decode cX8_name_ 78 = .ok (.iaload, 1) := by decide +kernel
theorem dX8_name__79 : decode cX8_name_ 79 = .ok (.goto 10, 3) := by decide +kernel
theorem dX8_name__82 : decode cX8_name_ 82 = .ok (.aload_n 0, 1) := by decide +kernel
theorem dX8_name__83 : decode cX8_name_ 83 = .ok (.getfield 19, 3) := by decide +kernel
theorem dX8_name__86 : decode cX8_name_ 86 = .ok (.iload 4, 2) := by decide +kernel
theorem dX8_name__88 : decode cX8_name_ 88 = .ok (.iaload, 1) := by decide +kernel
theorem dX8_name__89 : decode cX8_name_ 89 = .ok (.ireturn, 1) := by decide +kernel
theorem dX8_sizeOf_0 : decode cX8_sizeOf 0 = .ok (.aload_n 0, 1) := by decide +kernel
theorem dX8_sizeOf_1 : decode cX8_sizeOf 1 = .ok (.getfield 40, 3) := by decide +kernel
theorem dX8_sizeOf_4 : decode cX8_sizeOf 4 = .ok (.bipush 40, 2) := by decide +kernel
theorem dX8_sizeOf_6 : decode cX8_sizeOf 6 = .ok (.aload_n 0, 1) := by decide +kernel
theorem dX8_sizeOf_7 : decode cX8_sizeOf 7 = .ok (.getfield 53, 3) := by decide +kernel
theorem dX8_sizeOf_10 : decode cX8_sizeOf 10 = .ok (.imul, 1) := by decide +kernel
theorem dX8_sizeOf_11 : decode cX8_sizeOf 11 = .ok (.iload_n 1, 1) := by decide +kernel
theorem dX8_sizeOf_12 : decode cX8_sizeOf 12 = .ok (.iadd, 1) := by decide +kernel
theorem dX8_sizeOf_13 : decode cX8_sizeOf 13 = .ok (.iaload, 1) := by decide +kernel
theorem dX8_sizeOf_14 : decode cX8_sizeOf 14 = .ok (.ireturn, 1) := by decide +kernel
theorem dX8_callAt_0 : decode cX8_callAt 0 = .ok (.aload_n 0, 1) := by decide +kernel
theorem dX8_callAt_1 : decode cX8_callAt 1 = .ok (.getfield 43, 3) := by decide +kernel
theorem dX8_callAt_4 : decode cX8_callAt 4 = .ok (.iconst 5, 1) := by decide +kernel
theorem dX8_callAt_5 : decode cX8_callAt 5 = .ok (.bipush 40, 2) := by decide +kernel
theorem dX8_callAt_7 : decode cX8_callAt 7 = .ok (.aload_n 0, 1) := by decide +kernel
theorem dX8_callAt_8 : decode cX8_callAt 8 = .ok (.getfield 53, 3) := by decide +kernel
theorem dX8_callAt_11 : decode cX8_callAt 11 = .ok (.imul, 1) := by decide +kernel
theorem dX8_callAt_12 : decode cX8_callAt 12 = .ok (.iload_n 1, 1) := by decide +kernel
theorem dX8_callAt_13 : decode cX8_callAt 13 = .ok (.iadd, 1) := by decide +kernel
theorem dX8_callAt_14 : decode cX8_callAt 14 = .ok (.imul, 1) := by decide +kernel
theorem dX8_callAt_15 : decode cX8_callAt 15 = .ok (.iload_n 2, 1) := by decide +kernel
theorem dX8_callAt_16 : decode cX8_callAt 16 = .ok (.iadd, 1) := by decide +kernel
theorem dX8_callAt_17 : decode cX8_callAt 17 = .ok (.iaload, 1) := by decide +kernel
theorem dX8_callAt_18 : decode cX8_callAt 18 = .ok (.ireturn, 1) := by decide +kernel
theorem dX8_isCited_0 : decode cX8_isCited 0 = .ok (.aload_n 0, 1) := by decide +kernel
theorem dX8_isCited_1 : decode cX8_isCited 1 = .ok (.getfield 72, 3) := by decide +kernel
theorem dX8_isCited_4 : decode cX8_isCited 4 = .ok (.iload_n 1, 1) := by decide +kernel
theorem dX8_isCited_5 : decode cX8_isCited 5 = .ok (.iaload, 1) := by decide +kernel
theorem dX8_isCited_6 : decode cX8_isCited 6 = .ok (.ifCond .le 7, 3) := by decide +kernel
theorem dX8_isCited_9 : decode cX8_isCited 9 = .ok (.iconst 1, 1) := by decide +kernel
theorem dX8_isCited_10 : decode cX8_isCited 10 = .ok (.goto 4, 3) := by decide +kernel
theorem dX8_isCited_13 : decode cX8_isCited 13 = .ok (.iconst 0, 1) := by decide +kernel
theorem dX8_isCited_14 : decode cX8_isCited 14 = .ok (.ireturn, 1) := by decide +kernel
theorem dX8_styleOf_0 : decode cX8_styleOf 0 = .ok (.aload_n 0, 1) := by decide +kernel
theorem dX8_styleOf_1 : decode cX8_styleOf 1 = .ok (.getfield 46, 3) := by decide +kernel
theorem dX8_styleOf_4 : decode cX8_styleOf 4 = .ok (.bipush 10, 2) := by decide +kernel
theorem dX8_styleOf_6 : decode cX8_styleOf 6 = .ok (.aload_n 0, 1) := by decide +kernel
theorem dX8_styleOf_7 : decode cX8_styleOf 7 = .ok (.getfield 53, 3) := by decide +kernel
theorem dX8_styleOf_10 : decode cX8_styleOf 10 = .ok (.imul, 1) := by decide +kernel
theorem dX8_styleOf_11 : decode cX8_styleOf 11 = .ok (.iload_n 1, 1) := by decide +kernel
theorem dX8_styleOf_12 : decode cX8_styleOf 12 = .ok (.iadd, 1) := by decide +kernel
theorem dX8_styleOf_13 : decode cX8_styleOf 13 = .ok (.iaload, 1) := by decide +kernel
theorem dX8_styleOf_14 : decode cX8_styleOf 14 = .ok (.ireturn, 1) := by decide +kernel
theorem dX8_findCalls_0 : decode cX8_findCalls 0 = .ok (.aload_n 0, 1) := by decide +kernel
theorem dX8_findCalls_1 : decode cX8_findCalls 1 = .ok (.iconst 0, 1) := by decide +kernel
theorem dX8_findCalls_2 : decode cX8_findCalls 2 = .ok (.putfield 158, 3) := by decide +kernel
theorem dX8_findCalls_5 : decode cX8_findCalls 5 = .ok (.iconst 0, 1) := by decide +kernel
theorem dX8_findCalls_6 : decode cX8_findCalls 6 = .ok (.istore_n 1, 1) := by decide +kernel
theorem dX8_findCalls_7 : decode cX8_findCalls 7 = .ok (.iload_n 1, 1) := by decide +kernel
theorem dX8_findCalls_8 : decode cX8_findCalls 8 = .ok (.aload_n 0, 1) := by decide +kernel
theorem dX8_findCalls_9 : decode cX8_findCalls 9 = .ok (.getfield 161, 3) := by decide +kernel
theorem dX8_findCalls_12 : decode cX8_findCalls 12 = .ok (.if_icmp .ge 16, 3) := by decide +kernel
theorem dX8_findCalls_15 : decode cX8_findCalls 15 = .ok (.aload_n 0, 1) := by decide +kernel
theorem dX8_findCalls_16 : decode cX8_findCalls 16 = .ok (.getfield 69, 3) := by decide +kernel
theorem dX8_findCalls_19 : decode cX8_findCalls 19 = .ok (.iload_n 1, 1) := by decide +kernel
theorem dX8_findCalls_20 : decode cX8_findCalls 20 = .ok (.iconst (-1), 1) := by decide +kernel
theorem dX8_findCalls_21 : decode cX8_findCalls 21 = .ok (.iastore, 1) := by decide +kernel
theorem dX8_findCalls_22 : decode cX8_findCalls 22 = .ok (.iinc 1 1, 3) := by decide +kernel
theorem dX8_findCalls_25 : decode cX8_findCalls 25 = .ok (.goto (-18), 3) := by decide +kernel
theorem dX8_findCalls_28 : decode cX8_findCalls 28 = .ok (.iconst 0, 1) := by decide +kernel
theorem dX8_findCalls_29 : decode cX8_findCalls 29 = .ok (.istore_n 1, 1) := by decide +kernel
theorem dX8_findCalls_30 : decode cX8_findCalls 30 = .ok (.iload_n 1, 1) := by decide +kernel
theorem dX8_findCalls_31 : decode cX8_findCalls 31 = .ok (.aload_n 0, 1) := by decide +kernel
theorem dX8_findCalls_32 : decode cX8_findCalls 32 = .ok (.getfield 124, 3) := by decide +kernel
theorem dX8_findCalls_35 : decode cX8_findCalls 35 = .ok (.if_icmp .ge 16, 3) := by decide +kernel
theorem dX8_findCalls_38 : decode cX8_findCalls 38 = .ok (.aload_n 0, 1) := by decide +kernel
theorem dX8_findCalls_39 : decode cX8_findCalls 39 = .ok (.getfield 72, 3) := by decide +kernel
theorem dX8_findCalls_42 : decode cX8_findCalls 42 = .ok (.iload_n 1, 1) := by decide +kernel
theorem dX8_findCalls_43 : decode cX8_findCalls 43 = .ok (.iconst 0, 1) := by decide +kernel
theorem dX8_findCalls_44 : decode cX8_findCalls 44 = .ok (.iastore, 1) := by decide +kernel
theorem dX8_findCalls_45 : decode cX8_findCalls 45 = .ok (.iinc 1 1, 3) := by decide +kernel
theorem dX8_findCalls_48 : decode cX8_findCalls 48 = .ok (.goto (-18), 3) := by decide +kernel
theorem dX8_findCalls_51 : decode cX8_findCalls 51 = .ok (.iconst 0, 1) := by decide +kernel
theorem dX8_findCalls_52 : decode cX8_findCalls 52 = .ok (.istore_n 1, 1) := by decide +kernel
theorem dX8_findCalls_53 : decode cX8_findCalls 53 = .ok (.iload_n 1, 1) := by decide +kernel
theorem dX8_findCalls_54 : decode cX8_findCalls 54 = .ok (.aload_n 0, 1) := by decide +kernel
theorem dX8_findCalls_55 : decode cX8_findCalls 55 = .ok (.getfield 37, 3) := by decide +kernel
theorem dX8_findCalls_58 : decode cX8_findCalls 58 = .ok (.aload_n 0, 1) := by decide +kernel
theorem dX8_findCalls_59 : decode cX8_findCalls 59 = .ok (.getfield 53, 3) := by decide +kernel
theorem dX8_findCalls_62 : decode cX8_findCalls 62 = .ok (.iaload, 1) := by decide +kernel
theorem dX8_findCalls_63 : decode cX8_findCalls 63 = .ok (.if_icmp .ge 92, 3) := by decide +kernel
theorem dX8_findCalls_66 : decode cX8_findCalls 66 = .ok (.iconst 0, 1) := by decide +kernel
theorem dX8_findCalls_67 : decode cX8_findCalls 67 = .ok (.istore_n 2, 1) := by decide +kernel
theorem dX8_findCalls_68 : decode cX8_findCalls 68 = .ok (.iload_n 2, 1) := by decide +kernel
theorem dX8_findCalls_69 : decode cX8_findCalls 69 = .ok (.aload_n 0, 1) := by decide +kernel
theorem dX8_findCalls_70 : decode cX8_findCalls 70 = .ok (.iload_n 1, 1) := by decide +kernel
theorem dX8_findCalls_71 : decode cX8_findCalls 71 = .ok (.invokevirtual 164, 3) := by decide +kernel
theorem dX8_findCalls_74 : decode cX8_findCalls 74 = .ok (.if_icmp .ge 75, 3) := by decide +kernel
theorem dX8_findCalls_77 : decode cX8_findCalls 77 = .ok (.aload_n 0, 1) := by decide +kernel
theorem dX8_findCalls_78 : decode cX8_findCalls 78 = .ok (.iload_n 1, 1) := by decide +kernel
theorem dX8_findCalls_79 : decode cX8_findCalls 79 = .ok (.iload_n 2, 1) := by decide +kernel
theorem dX8_findCalls_80 : decode cX8_findCalls 80 = .ok (.invokevirtual 167, 3) := by decide +kernel
theorem dX8_findCalls_83 : decode cX8_findCalls 83 = .ok (.istore_n 3, 1) := by decide +kernel
theorem dX8_findCalls_84 : decode cX8_findCalls 84 = .ok (.aload_n 0, 1) := by decide +kernel
theorem dX8_findCalls_85 : decode cX8_findCalls 85 = .ok (.getfield 63, 3) := by decide +kernel
theorem dX8_findCalls_88 : decode cX8_findCalls 88 = .ok (.aload_n 0, 1) := by decide +kernel
theorem dX8_findCalls_89 : decode cX8_findCalls 89 = .ok (.getfield 158, 3) := by decide +kernel
theorem dX8_findCalls_92 : decode cX8_findCalls 92 = .ok (.iload_n 3, 1) := by decide +kernel
theorem dX8_findCalls_93 : decode cX8_findCalls 93 = .ok (.iastore, 1) := by decide +kernel
theorem dX8_findCalls_94 : decode cX8_findCalls 94 = .ok (.aload_n 0, 1) := by decide +kernel
theorem dX8_findCalls_95 : decode cX8_findCalls 95 = .ok (.getfield 66, 3) := by decide +kernel
theorem dX8_findCalls_98 : decode cX8_findCalls 98 = .ok (.aload_n 0, 1) := by decide +kernel
theorem dX8_findCalls_99 : decode cX8_findCalls 99 = .ok (.getfield 158, 3) := by decide +kernel
theorem dX8_findCalls_102 : decode cX8_findCalls 102 = .ok (.iload_n 1, 1) := by decide +kernel
theorem dX8_findCalls_103 : decode cX8_findCalls 103 = .ok (.iastore, 1) := by decide +kernel
theorem dX8_findCalls_104 : decode cX8_findCalls 104 = .ok (.aload_n 0, 1) := by decide +kernel
theorem dX8_findCalls_105 : decode cX8_findCalls 105 = .ok (.getfield 69, 3) := by decide +kernel
theorem dX8_findCalls_108 : decode cX8_findCalls 108 = .ok (.iload_n 3, 1) := by decide +kernel
theorem dX8_findCalls_109 : decode cX8_findCalls 109 = .ok (.aload_n 0, 1) := by decide +kernel
theorem dX8_findCalls_110 : decode cX8_findCalls 110 = .ok (.getfield 158, 3) := by decide +kernel
theorem dX8_findCalls_113 : decode cX8_findCalls 113 = .ok (.iastore, 1) := by decide +kernel
theorem dX8_findCalls_114 : decode cX8_findCalls 114 = .ok (.aload_n 0, 1) := by decide +kernel
theorem dX8_findCalls_115 : decode cX8_findCalls 115 = .ok (.dup, 1) := by decide +kernel
theorem dX8_findCalls_116 : decode cX8_findCalls 116 = .ok (.getfield 158, 3) := by decide +kernel
theorem dX8_findCalls_119 : decode cX8_findCalls 119 = .ok (.iconst 1, 1) := by decide +kernel
theorem dX8_findCalls_120 : decode cX8_findCalls 120 = .ok (.iadd, 1) := by decide +kernel
theorem dX8_findCalls_121 : decode cX8_findCalls 121 = .ok (.putfield 158, 3) := by decide +kernel
theorem dX8_findCalls_124 : decode cX8_findCalls 124 = .ok (.aload_n 0, 1) := by decide +kernel
theorem dX8_findCalls_125 : decode cX8_findCalls 125 = .ok (.getfield 72, 3) := by decide +kernel
theorem dX8_findCalls_128 : decode cX8_findCalls 128 = .ok (.aload_n 0, 1) := by decide +kernel
theorem dX8_findCalls_129 : decode cX8_findCalls 129 = .ok (.aload_n 0, 1) := by decide +kernel
theorem dX8_findCalls_130 : decode cX8_findCalls 130 = .ok (.getfield 57, 3) := by decide +kernel
theorem dX8_findCalls_133 : decode cX8_findCalls 133 = .ok (.iload_n 3, 1) := by decide +kernel
theorem dX8_findCalls_134 : decode cX8_findCalls 134 = .ok (.iaload, 1) := by decide +kernel
theorem dX8_findCalls_135 : decode cX8_findCalls 135 = .ok (.invokevirtual 153, 3) := by decide +kernel
theorem dX8_findCalls_138 : decode cX8_findCalls 138 = .ok (.dup2, 1) := by decide +kernel
theorem dX8_findCalls_139 : decode cX8_findCalls 139 = .ok (.iaload, 1) := by decide +kernel
theorem dX8_findCalls_140 : decode cX8_findCalls 140 = .ok (.iconst 1, 1) := by decide +kernel
theorem dX8_findCalls_141 : decode cX8_findCalls 141 = .ok (.iadd, 1) := by decide +kernel
theorem dX8_findCalls_142 : decode cX8_findCalls 142 = .ok (.iastore, 1) := by decide +kernel
theorem dX8_findCalls_143 : decode cX8_findCalls 143 = .ok (.iinc 2 1, 3) := by decide +kernel
theorem dX8_findCalls_146 : decode cX8_findCalls 146 = .ok (.goto (-78), 3) := by decide +kernel
theorem dX8_findCalls_149 : decode cX8_findCalls 149 = .ok (.iinc 1 1, 3) := by decide +kernel
theorem dX8_findCalls_152 : decode cX8_findCalls 152 = .ok (.goto (-99), 3) := by decide +kernel
theorem dX8_findCalls_155 : decode cX8_findCalls 155 = .ok (.return_, 1) := by decide +kernel
theorem dX8_byName_0 : decode cX8_byName 0 = .ok (.iconst 0, 1) := by decide +kernel
theorem dX8_byName_1 : decode cX8_byName 1 = .ok (.istore_n 3, 1) := by decide +kernel
theorem dX8_byName_2 : decode cX8_byName 2 = .ok (.iload_n 3, 1) := by decide +kernel
theorem dX8_byName_3 : decode cX8_byName 3 = .ok (.iconst 4, 1) := by decide +kernel
theorem dX8_byName_4 : decode cX8_byName 4 = .ok (.if_icmp .ge 171, 3) := by decide +kernel
theorem dX8_byName_7 : decode cX8_byName 7 = .ok (.iload_n 3, 1) := by decide +kernel
theorem dX8_byName_8 : decode cX8_byName 8 = .ok (.aload_n 0, 1) := by decide +kernel
theorem dX8_byName_9 : decode cX8_byName 9 = .ok (.getfield 7, 3) := by decide +kernel
theorem dX8_byName_12 : decode cX8_byName 12 = .ok (.iload_n 1, 1) := by decide +kernel
theorem dX8_byName_13 : decode cX8_byName 13 = .ok (.iaload, 1) := by decide +kernel
theorem dX8_byName_14 : decode cX8_byName 14 = .ok (.if_icmp .ge 13, 3) := by decide +kernel
theorem dX8_byName_17 : decode cX8_byName 17 = .ok (.iload_n 3, 1) := by decide +kernel
theorem dX8_byName_18 : decode cX8_byName 18 = .ok (.aload_n 0, 1) := by decide +kernel
theorem dX8_byName_19 : decode cX8_byName 19 = .ok (.getfield 7, 3) := by decide +kernel
theorem dX8_byName_22 : decode cX8_byName 22 = .ok (.iload_n 2, 1) := by decide +kernel
theorem dX8_byName_23 : decode cX8_byName 23 = .ok (.iaload, 1) := by decide +kernel
theorem dX8_byName_24 : decode cX8_byName 24 = .ok (.if_icmp .lt 32, 3) := by decide +kernel
theorem dX8_byName_27 : decode cX8_byName 27 = .ok (.aload_n 0, 1) := by decide +kernel
theorem dX8_byName_28 : decode cX8_byName 28 = .ok (.getfield 7, 3) := by decide +kernel
theorem dX8_byName_31 : decode cX8_byName 31 = .ok (.iload_n 1, 1) := by decide +kernel
theorem dX8_byName_32 : decode cX8_byName 32 = .ok (.iaload, 1) := by decide +kernel
theorem dX8_byName_33 : decode cX8_byName 33 = .ok (.aload_n 0, 1) := by decide +kernel
theorem dX8_byName_34 : decode cX8_byName 34 = .ok (.getfield 7, 3) := by decide +kernel
theorem dX8_byName_37 : decode cX8_byName 37 = .ok (.iload_n 2, 1) := by decide +kernel
theorem dX8_byName_38 : decode cX8_byName 38 = .ok (.iaload, 1) := by decide +kernel
theorem dX8_byName_39 : decode cX8_byName 39 = .ok (.if_icmp .eq 130, 3) := by decide +kernel
theorem dX8_byName_42 : decode cX8_byName 42 = .ok (.aload_n 0, 1) := by decide +kernel
theorem dX8_byName_43 : decode cX8_byName 43 = .ok (.getfield 7, 3) := by decide +kernel
theorem dX8_byName_46 : decode cX8_byName 46 = .ok (.iload_n 1, 1) := by decide +kernel
theorem dX8_byName_47 : decode cX8_byName 47 = .ok (.iaload, 1) := by decide +kernel
theorem dX8_byName_48 : decode cX8_byName 48 = .ok (.aload_n 0, 1) := by decide +kernel
theorem dX8_byName_49 : decode cX8_byName 49 = .ok (.getfield 7, 3) := by decide +kernel
theorem dX8_byName_52 : decode cX8_byName 52 = .ok (.iload_n 2, 1) := by decide +kernel
theorem dX8_byName_53 : decode cX8_byName 53 = .ok (.iaload, 1) := by decide +kernel
theorem dX8_byName_54 : decode cX8_byName 54 = .ok (.isub, 1) := by decide +kernel
theorem dX8_byName_55 : decode cX8_byName 55 = .ok (.ireturn, 1) := by decide +kernel
theorem dX8_byName_56 : decode cX8_byName 56 = .ok (.iconst 4, 1) := by decide +kernel
theorem dX8_byName_57 : decode cX8_byName 57 = .ok (.iload_n 1, 1) := by decide +kernel
theorem dX8_byName_58 : decode cX8_byName 58 = .ok (.imul, 1) := by decide +kernel
theorem dX8_byName_59 : decode cX8_byName 59 = .ok (.iload_n 3, 1) := by decide +kernel
theorem dX8_byName_60 : decode cX8_byName 60 = .ok (.iadd, 1) := by decide +kernel
theorem dX8_byName_61 : decode cX8_byName 61 = .ok (.istore 4, 2) := by decide +kernel
theorem dX8_byName_63 : decode cX8_byName 63 = .ok (.iconst 4, 1) := by decide +kernel
theorem dX8_byName_64 : decode cX8_byName 64 = .ok (.iload_n 2, 1) := by decide +kernel
theorem dX8_byName_65 : decode cX8_byName 65 = .ok (.imul, 1) := by decide +kernel
theorem dX8_byName_66 : decode cX8_byName 66 = .ok (.iload_n 3, 1) := by decide +kernel
theorem dX8_byName_67 : decode cX8_byName 67 = .ok (.iadd, 1) := by decide +kernel
theorem dX8_byName_68 : decode cX8_byName 68 = .ok (.istore 5, 2) := by decide +kernel
theorem dX8_byName_70 : decode cX8_byName 70 = .ok (.aload_n 0, 1) := by decide +kernel
theorem dX8_byName_71 : decode cX8_byName 71 = .ok (.getfield 13, 3) := by decide +kernel
theorem dX8_byName_74 : decode cX8_byName 74 = .ok (.iload 4, 2) := by decide +kernel
theorem dX8_byName_76 : decode cX8_byName 76 = .ok (.iaload, 1) := by decide +kernel
theorem dX8_byName_77 : decode cX8_byName 77 = .ok (.aload_n 0, 1) := by decide +kernel
theorem dX8_byName_78 : decode cX8_byName 78 = .ok (.getfield 13, 3) := by decide +kernel
theorem dX8_byName_81 : decode cX8_byName 81 = .ok (.iload 5, 2) := by decide +kernel
theorem dX8_byName_83 : decode cX8_byName 83 = .ok (.iaload, 1) := by decide +kernel
theorem dX8_byName_84 : decode cX8_byName 84 = .ok (.if_icmp .eq 19, 3) := by decide +kernel
theorem dX8_byName_87 : decode cX8_byName 87 = .ok (.aload_n 0, 1) := by decide +kernel
theorem dX8_byName_88 : decode cX8_byName 88 = .ok (.getfield 13, 3) := by decide +kernel
theorem dX8_byName_91 : decode cX8_byName 91 = .ok (.iload 4, 2) := by decide +kernel
theorem dX8_byName_93 : decode cX8_byName 93 = .ok (.iaload, 1) := by decide +kernel
theorem dX8_byName_94 : decode cX8_byName 94 = .ok (.aload_n 0, 1) := by decide +kernel
theorem dX8_byName_95 : decode cX8_byName 95 = .ok (.getfield 13, 3) := by decide +kernel
theorem dX8_byName_98 : decode cX8_byName 98 = .ok (.iload 5, 2) := by decide +kernel
theorem dX8_byName_100 : decode cX8_byName 100 = .ok (.iaload, 1) := by decide +kernel
theorem dX8_byName_101 : decode cX8_byName 101 = .ok (.isub, 1) := by decide +kernel
theorem dX8_byName_102 : decode cX8_byName 102 = .ok (.ireturn, 1) := by decide +kernel
theorem dX8_byName_103 : decode cX8_byName 103 = .ok (.aload_n 0, 1) := by decide +kernel
theorem dX8_byName_104 : decode cX8_byName 104 = .ok (.getfield 16, 3) := by decide +kernel
theorem dX8_byName_107 : decode cX8_byName 107 = .ok (.iload 4, 2) := by decide +kernel
theorem dX8_byName_109 : decode cX8_byName 109 = .ok (.iaload, 1) := by decide +kernel
theorem dX8_byName_110 : decode cX8_byName 110 = .ok (.aload_n 0, 1) := by decide +kernel
theorem dX8_byName_111 : decode cX8_byName 111 = .ok (.getfield 16, 3) := by decide +kernel
theorem dX8_byName_114 : decode cX8_byName 114 = .ok (.iload 5, 2) := by decide +kernel
theorem dX8_byName_116 : decode cX8_byName 116 = .ok (.iaload, 1) := by decide +kernel
theorem dX8_byName_117 : decode cX8_byName 117 = .ok (.if_icmp .eq 19, 3) := by decide +kernel
theorem dX8_byName_120 : decode cX8_byName 120 = .ok (.aload_n 0, 1) := by decide +kernel
theorem dX8_byName_121 : decode cX8_byName 121 = .ok (.getfield 16, 3) := by decide +kernel
theorem dX8_byName_124 : decode cX8_byName 124 = .ok (.iload 4, 2) := by decide +kernel
theorem dX8_byName_126 : decode cX8_byName 126 = .ok (.iaload, 1) := by decide +kernel
theorem dX8_byName_127 : decode cX8_byName 127 = .ok (.aload_n 0, 1) := by decide +kernel
theorem dX8_byName_128 : decode cX8_byName 128 = .ok (.getfield 16, 3) := by decide +kernel
theorem dX8_byName_131 : decode cX8_byName 131 = .ok (.iload 5, 2) := by decide +kernel
theorem dX8_byName_133 : decode cX8_byName 133 = .ok (.iaload, 1) := by decide +kernel
theorem dX8_byName_134 : decode cX8_byName 134 = .ok (.isub, 1) := by decide +kernel
theorem dX8_byName_135 : decode cX8_byName 135 = .ok (.ireturn, 1) := by decide +kernel
theorem dX8_byName_136 : decode cX8_byName 136 = .ok (.aload_n 0, 1) := by decide +kernel
theorem dX8_byName_137 : decode cX8_byName 137 = .ok (.getfield 19, 3) := by decide +kernel
theorem dX8_byName_140 : decode cX8_byName 140 = .ok (.iload 4, 2) := by decide +kernel
theorem dX8_byName_142 : decode cX8_byName 142 = .ok (.iaload, 1) := by decide +kernel
theorem dX8_byName_143 : decode cX8_byName 143 = .ok (.aload_n 0, 1) := by decide +kernel
theorem dX8_byName_144 : decode cX8_byName 144 = .ok (.getfield 19, 3) := by decide +kernel
theorem dX8_byName_147 : decode cX8_byName 147 = .ok (.iload 5, 2) := by decide +kernel
theorem dX8_byName_149 : decode cX8_byName 149 = .ok (.iaload, 1) := by decide +kernel
theorem dX8_byName_150 : decode cX8_byName 150 = .ok (.if_icmp .eq 19, 3) := by decide +kernel
theorem dX8_byName_153 : decode cX8_byName 153 = .ok (.aload_n 0, 1) := by decide +kernel
theorem dX8_byName_154 : decode cX8_byName 154 = .ok (.getfield 19, 3) := by decide +kernel
theorem dX8_byName_157 : decode cX8_byName 157 = .ok (.iload 4, 2) := by decide +kernel
theorem dX8_byName_159 : decode cX8_byName 159 = .ok (.iaload, 1) := by decide +kernel
theorem dX8_byName_160 : decode cX8_byName 160 = .ok (.aload_n 0, 1) := by decide +kernel
theorem dX8_byName_161 : decode cX8_byName 161 = .ok (.getfield 19, 3) := by decide +kernel
theorem dX8_byName_164 : decode cX8_byName 164 = .ok (.iload 5, 2) := by decide +kernel
theorem dX8_byName_166 : decode cX8_byName 166 = .ok (.iaload, 1) := by decide +kernel
theorem dX8_byName_167 : decode cX8_byName 167 = .ok (.isub, 1) := by decide +kernel
theorem dX8_byName_168 : decode cX8_byName 168 = .ok (.ireturn, 1) := by decide +kernel
theorem dX8_byName_169 : decode cX8_byName 169 = .ok (.iinc 3 1, 3) := by decide +kernel
theorem dX8_byName_172 : decode cX8_byName 172 = .ok (.goto (-170), 3) := by decide +kernel
theorem dX8_byName_175 : decode cX8_byName 175 = .ok (.aload_n 0, 1) := by decide +kernel
theorem dX8_byName_176 : decode cX8_byName 176 = .ok (.getfield 22, 3) := by decide +kernel
theorem dX8_byName_179 : decode cX8_byName 179 = .ok (.iload_n 1, 1) := by decide +kernel
theorem dX8_byName_180 : decode cX8_byName 180 = .ok (.iaload, 1) := by decide +kernel
theorem dX8_byName_181 : decode cX8_byName 181 = .ok (.aload_n 0, 1) := by decide +kernel
theorem dX8_byName_182 : decode cX8_byName 182 = .ok (.getfield 22, 3) := by decide +kernel
theorem dX8_byName_185 : decode cX8_byName 185 = .ok (.iload_n 2, 1) := by decide +kernel
theorem dX8_byName_186 : decode cX8_byName 186 = .ok (.iaload, 1) := by decide +kernel
theorem dX8_byName_187 : decode cX8_byName 187 = .ok (.if_icmp .eq 19, 3) := by decide +kernel
theorem dX8_byName_190 : decode cX8_byName 190 = .ok (.aload_n 0, 1) := by decide +kernel
theorem dX8_byName_191 : decode cX8_byName 191 = .ok (.getfield 22, 3) := by decide +kernel
theorem dX8_byName_194 : decode cX8_byName 194 = .ok (.iload_n 1, 1) := by decide +kernel
theorem dX8_byName_195 : decode cX8_byName 195 = .ok (.iaload, 1) := by decide +kernel
theorem dX8_byName_196 : decode cX8_byName 196 = .ok (.aload_n 0, 1) := by decide +kernel
theorem dX8_byName_197 : decode cX8_byName 197 = .ok (.getfield 22, 3) := by decide +kernel
theorem dX8_byName_200 : decode cX8_byName 200 = .ok (.iload_n 2, 1) := by decide +kernel
theorem dX8_byName_201 : decode cX8_byName 201 = .ok (.iaload, 1) := by decide +kernel
theorem dX8_byName_202 : decode cX8_byName 202 = .ok (.isub, 1) := by decide +kernel
theorem dX8_byName_203 : decode cX8_byName 203 = .ok (.goto 37, 3) := by decide +kernel
theorem dX8_byName_206 : decode cX8_byName 206 = .ok (.aload_n 0, 1) := by decide +kernel
theorem dX8_byName_207 : decode cX8_byName 207 = .ok (.getfield 25, 3) := by decide +kernel
theorem dX8_byName_210 : decode cX8_byName 210 = .ok (.iload_n 1, 1) := by decide +kernel
theorem dX8_byName_211 : decode cX8_byName 211 = .ok (.iaload, 1) := by decide +kernel
theorem dX8_byName_212 : decode cX8_byName 212 = .ok (.aload_n 0, 1) := by decide +kernel
theorem dX8_byName_213 : decode cX8_byName 213 = .ok (.getfield 25, 3) := by decide +kernel
theorem dX8_byName_216 : decode cX8_byName 216 = .ok (.iload_n 2, 1) := by decide +kernel
theorem dX8_byName_217 : decode cX8_byName 217 = .ok (.iaload, 1) := by decide +kernel
theorem dX8_byName_218 : decode cX8_byName 218 = .ok (.if_icmp .eq 19, 3) := by decide +kernel
theorem dX8_byName_221 : decode cX8_byName 221 = .ok (.aload_n 0, 1) := by decide +kernel
theorem dX8_byName_222 : decode cX8_byName 222 = .ok (.getfield 25, 3) := by decide +kernel
theorem dX8_byName_225 : decode cX8_byName 225 = .ok (.iload_n 1, 1) := by decide +kernel
theorem dX8_byName_226 : decode cX8_byName 226 = .ok (.iaload, 1) := by decide +kernel
theorem dX8_byName_227 : decode cX8_byName 227 = .ok (.aload_n 0, 1) := by decide +kernel
theorem dX8_byName_228 : decode cX8_byName 228 = .ok (.getfield 25, 3) := by decide +kernel
theorem dX8_byName_231 : decode cX8_byName 231 = .ok (.iload_n 2, 1) := by decide +kernel
theorem dX8_byName_232 : decode cX8_byName 232 = .ok (.iaload, 1) := by decide +kernel
theorem dX8_byName_233 : decode cX8_byName 233 = .ok (.isub, 1) := by decide +kernel
theorem dX8_byName_234 : decode cX8_byName 234 = .ok (.goto 6, 3) := by decide +kernel
theorem dX8_byName_237 : decode cX8_byName 237 = .ok (.iload_n 1, 1) := by decide +kernel
theorem dX8_byName_238 : decode cX8_byName 238 = .ok (.iload_n 2, 1) := by decide +kernel
theorem dX8_byName_239 : decode cX8_byName 239 = .ok (.isub, 1) := by decide +kernel
theorem dX8_byName_240 : decode cX8_byName 240 = .ok (.ireturn, 1) := by decide +kernel
theorem dX8_isAhead_0 : decode cX8_isAhead 0 = .ok (.aload_n 0, 1) := by decide +kernel
theorem dX8_isAhead_1 : decode cX8_isAhead 1 = .ok (.iconst 1, 1) := by decide +kernel
theorem dX8_isAhead_2 : decode cX8_isAhead 2 = .ok (.invokevirtual 171, 3) := by decide +kernel
theorem dX8_isAhead_5 : decode cX8_isAhead 5 = .ok (.iconst 2, 1) := by decide +kernel
theorem dX8_isAhead_6 : decode cX8_isAhead 6 = .ok (.if_icmp .ne 41, 3) := by decide +kernel
theorem dX8_isAhead_9 : decode cX8_isAhead 9 = .ok (.aload_n 0, 1) := by decide +kernel
theorem dX8_isAhead_10 : decode cX8_isAhead 10 = .ok (.getfield 22, 3) := by decide +kernel
theorem dX8_isAhead_13 : decode cX8_isAhead 13 = .ok (.iload_n 1, 1) := by decide +kernel
theorem dX8_isAhead_14 : decode cX8_isAhead 14 = .ok (.iaload, 1) := by decide +kernel
theorem dX8_isAhead_15 : decode cX8_isAhead 15 = .ok (.aload_n 0, 1) := by decide +kernel
theorem dX8_isAhead_16 : decode cX8_isAhead 16 = .ok (.getfield 22, 3) := by decide +kernel
theorem dX8_isAhead_19 : decode cX8_isAhead 19 = .ok (.iload_n 2, 1) := by decide +kernel
theorem dX8_isAhead_20 : decode cX8_isAhead 20 = .ok (.iaload, 1) := by decide +kernel
theorem dX8_isAhead_21 : decode cX8_isAhead 21 = .ok (.if_icmp .eq 26, 3) := by decide +kernel
theorem dX8_isAhead_24 : decode cX8_isAhead 24 = .ok (.aload_n 0, 1) := by decide +kernel
theorem dX8_isAhead_25 : decode cX8_isAhead 25 = .ok (.getfield 22, 3) := by decide +kernel
theorem dX8_isAhead_28 : decode cX8_isAhead 28 = .ok (.iload_n 1, 1) := by decide +kernel
theorem dX8_isAhead_29 : decode cX8_isAhead 29 = .ok (.iaload, 1) := by decide +kernel
theorem dX8_isAhead_30 : decode cX8_isAhead 30 = .ok (.aload_n 0, 1) := by decide +kernel
theorem dX8_isAhead_31 : decode cX8_isAhead 31 = .ok (.getfield 22, 3) := by decide +kernel
theorem dX8_isAhead_34 : decode cX8_isAhead 34 = .ok (.iload_n 2, 1) := by decide +kernel
theorem dX8_isAhead_35 : decode cX8_isAhead 35 = .ok (.iaload, 1) := by decide +kernel
theorem dX8_isAhead_36 : decode cX8_isAhead 36 = .ok (.if_icmp .ge 7, 3) := by decide +kernel
theorem dX8_isAhead_39 : decode cX8_isAhead 39 = .ok (.iconst 1, 1) := by decide +kernel
theorem dX8_isAhead_40 : decode cX8_isAhead 40 = .ok (.goto 21, 3) := by decide +kernel
theorem dX8_isAhead_43 : decode cX8_isAhead 43 = .ok (.iconst 0, 1) := by decide +kernel
theorem dX8_isAhead_44 : decode cX8_isAhead 44 = .ok (.goto 17, 3) := by decide +kernel
theorem dX8_isAhead_47 : decode cX8_isAhead 47 = .ok (.aload_n 0, 1) := by decide +kernel
theorem dX8_isAhead_48 : decode cX8_isAhead 48 = .ok (.iload_n 1, 1) := by decide +kernel
theorem dX8_isAhead_49 : decode cX8_isAhead 49 = .ok (.iload_n 2, 1) := by decide +kernel
theorem dX8_isAhead_50 : decode cX8_isAhead 50 = .ok (.invokevirtual 174, 3) := by decide +kernel
theorem dX8_isAhead_53 : decode cX8_isAhead 53 = .ok (.ifCond .ge 7, 3) := by decide +kernel
theorem dX8_isAhead_56 : decode cX8_isAhead 56 = .ok (.iconst 1, 1) := by decide +kernel
theorem dX8_isAhead_57 : decode cX8_isAhead 57 = .ok (.goto 4, 3) := by decide +kernel
theorem dX8_isAhead_60 : decode cX8_isAhead 60 = .ok (.iconst 0, 1) := by decide +kernel
theorem dX8_isAhead_61 : decode cX8_isAhead 61 = .ok (.ireturn, 1) := by decide +kernel
theorem dX8_findList_0 : decode cX8_findList 0 = .ok (.aload_n 0, 1) := by decide +kernel
theorem dX8_findList_1 : decode cX8_findList 1 = .ok (.iconst 0, 1) := by decide +kernel
theorem dX8_findList_2 : decode cX8_findList 2 = .ok (.putfield 177, 3) := by decide +kernel
theorem dX8_findList_5 : decode cX8_findList 5 = .ok (.iconst 0, 1) := by decide +kernel
theorem dX8_findList_6 : decode cX8_findList 6 = .ok (.istore_n 1, 1) := by decide +kernel
theorem dX8_findList_7 : decode cX8_findList 7 = .ok (.iload_n 1, 1) := by decide +kernel
theorem dX8_findList_8 : decode cX8_findList 8 = .ok (.aload_n 0, 1) := by decide +kernel
theorem dX8_findList_9 : decode cX8_findList 9 = .ok (.getfield 124, 3) := by decide +kernel
theorem dX8_findList_12 : decode cX8_findList 12 = .ok (.if_icmp .ge 16, 3) := by decide +kernel
theorem dX8_findList_15 : decode cX8_findList 15 = .ok (.aload_n 0, 1) := by decide +kernel
theorem dX8_findList_16 : decode cX8_findList 16 = .ok (.getfield 78, 3) := by decide +kernel
theorem dX8_findList_19 : decode cX8_findList 19 = .ok (.iload_n 1, 1) := by decide +kernel
theorem dX8_findList_20 : decode cX8_findList 20 = .ok (.iconst 0, 1) := by decide +kernel
theorem dX8_findList_21 : decode cX8_findList 21 = .ok (.iastore, 1) := by decide +kernel
theorem dX8_findList_22 : decode cX8_findList 22 = .ok (.iinc 1 1, 3) := by decide +kernel
theorem dX8_findList_25 : decode cX8_findList 25 = .ok (.goto (-18), 3) := by decide +kernel
theorem dX8_findList_28 : decode cX8_findList 28 = .ok (.aload_n 0, 1) := by decide +kernel
theorem dX8_findList_29 : decode cX8_findList 29 = .ok (.iconst 1, 1) := by decide +kernel
theorem dX8_findList_30 : decode cX8_findList 30 = .ok (.invokevirtual 171, 3) := by decide +kernel
theorem dX8_findList_33 : decode cX8_findList 33 = .ok (.ifCond .ne 75, 3) := by decide +kernel
theorem dX8_findList_36 : decode cX8_findList 36 = .ok (.iconst 0, 1) := by decide +kernel
theorem dX8_findList_37 : decode cX8_findList 37 = .ok (.istore_n 1, 1) := by decide +kernel
theorem dX8_findList_38 : decode cX8_findList 38 = .ok (.iload_n 1, 1) := by decide +kernel
theorem dX8_findList_39 : decode cX8_findList 39 = .ok (.aload_n 0, 1) := by decide +kernel
theorem dX8_findList_40 : decode cX8_findList 40 = .ok (.getfield 158, 3) := by decide +kernel
theorem dX8_findList_43 : decode cX8_findList 43 = .ok (.if_icmp .ge 64, 3) := by decide +kernel
theorem dX8_findList_46 : decode cX8_findList 46 = .ok (.aload_n 0, 1) := by decide +kernel
theorem dX8_findList_47 : decode cX8_findList 47 = .ok (.aload_n 0, 1) := by decide +kernel
theorem dX8_findList_48 : decode cX8_findList 48 = .ok (.getfield 57, 3) := by decide +kernel
theorem dX8_findList_51 : decode cX8_findList 51 = .ok (.aload_n 0, 1) := by decide +kernel
theorem dX8_findList_52 : decode cX8_findList 52 = .ok (.getfield 63, 3) := by decide +kernel
theorem dX8_findList_55 : decode cX8_findList 55 = .ok (.iload_n 1, 1) := by decide +kernel
theorem dX8_findList_56 : decode cX8_findList 56 = .ok (.iaload, 1) := by decide +kernel
theorem dX8_findList_57 : decode cX8_findList 57 = .ok (.iaload, 1) := by decide +kernel
theorem dX8_findList_58 : decode cX8_findList 58 = .ok (.invokevirtual 153, 3) := by decide +kernel
theorem dX8_findList_61 : decode cX8_findList 61 = .ok (.istore_n 2, 1) := by decide +kernel
theorem dX8_findList_62 : decode cX8_findList 62 = .ok (.aload_n 0, 1) := by decide +kernel
theorem dX8_findList_63 : decode cX8_findList 63 = .ok (.getfield 78, 3) := by decide +kernel
theorem dX8_findList_66 : decode cX8_findList 66 = .ok (.iload_n 2, 1) := by decide +kernel
theorem dX8_findList_67 : decode cX8_findList 67 = .ok (.iaload, 1) := by decide +kernel
theorem dX8_findList_68 : decode cX8_findList 68 = .ok (.ifCond .ne 33, 3) := by decide +kernel
theorem dX8_findList_71 : decode cX8_findList 71 = .ok (.aload_n 0, 1) := by decide +kernel
theorem dX8_findList_72 : decode cX8_findList 72 = .ok (.getfield 75, 3) := by decide +kernel
theorem dX8_findList_75 : decode cX8_findList 75 = .ok (.aload_n 0, 1) := by decide +kernel
theorem dX8_findList_76 : decode cX8_findList 76 = .ok (.getfield 177, 3) := by decide +kernel
theorem dX8_findList_79 : decode cX8_findList 79 = .ok (.iload_n 2, 1) := by decide +kernel
theorem dX8_findList_80 : decode cX8_findList 80 = .ok (.iastore, 1) := by decide +kernel
theorem dX8_findList_81 : decode cX8_findList 81 = .ok (.aload_n 0, 1) := by decide +kernel
theorem dX8_findList_82 : decode cX8_findList 82 = .ok (.dup, 1) := by decide +kernel
theorem dX8_findList_83 : decode cX8_findList 83 = .ok (.getfield 177, 3) := by decide +kernel
theorem dX8_findList_86 : decode cX8_findList 86 = .ok (.iconst 1, 1) := by decide +kernel
theorem dX8_findList_87 : decode cX8_findList 87 = .ok (.iadd, 1) := by decide +kernel
theorem dX8_findList_88 : decode cX8_findList 88 = .ok (.putfield 177, 3) := by decide +kernel
theorem dX8_findList_91 : decode cX8_findList 91 = .ok (.aload_n 0, 1) := by decide +kernel
theorem dX8_findList_92 : decode cX8_findList 92 = .ok (.getfield 78, 3) := by decide +kernel
theorem dX8_findList_95 : decode cX8_findList 95 = .ok (.iload_n 2, 1) := by decide +kernel
theorem dX8_findList_96 : decode cX8_findList 96 = .ok (.aload_n 0, 1) := by decide +kernel
theorem dX8_findList_97 : decode cX8_findList 97 = .ok (.getfield 177, 3) := by decide +kernel
theorem dX8_findList_100 : decode cX8_findList 100 = .ok (.iastore, 1) := by decide +kernel
theorem dX8_findList_101 : decode cX8_findList 101 = .ok (.iinc 1 1, 3) := by decide +kernel
theorem dX8_findList_104 : decode cX8_findList 104 = .ok (.goto (-66), 3) := by decide +kernel
theorem dX8_findList_107 : decode cX8_findList 107 = .ok (.return_, 1) := by decide +kernel
theorem dX8_findList_108 : decode cX8_findList 108 = .ok (.iconst 0, 1) := by decide +kernel
theorem dX8_findList_109 : decode cX8_findList 109 = .ok (.istore_n 1, 1) := by decide +kernel
theorem dX8_findList_110 : decode cX8_findList 110 = .ok (.iload_n 1, 1) := by decide +kernel
theorem dX8_findList_111 : decode cX8_findList 111 = .ok (.aload_n 0, 1) := by decide +kernel
theorem dX8_findList_112 : decode cX8_findList 112 = .ok (.getfield 124, 3) := by decide +kernel
theorem dX8_findList_115 : decode cX8_findList 115 = .ok (.if_icmp .ge 79, 3) := by decide +kernel
theorem dX8_findList_118 : decode cX8_findList 118 = .ok (.aload_n 0, 1) := by decide +kernel
theorem dX8_findList_119 : decode cX8_findList 119 = .ok (.iload_n 1, 1) := by decide +kernel
theorem dX8_findList_120 : decode cX8_findList 120 = .ok (.invokevirtual 180, 3) := by decide +kernel
theorem dX8_findList_123 : decode cX8_findList 123 = .ok (.ifCond .eq 65, 3) := by decide +kernel
theorem dX8_findList_126 : decode cX8_findList 126 = .ok (.aload_n 0, 1) := by decide +kernel
theorem dX8_findList_127 : decode cX8_findList 127 = .ok (.getfield 177, 3) := by decide +kernel
theorem dX8_findList_130 : decode cX8_findList 130 = .ok (.istore_n 2, 1) := by decide +kernel
theorem dX8_findList_131 : decode cX8_findList 131 = .ok (.iload_n 2, 1) := by decide +kernel
theorem dX8_findList_132 : decode cX8_findList 132 = .ok (.ifCond .le 39, 3) := by decide +kernel
theorem dX8_findList_135 : decode cX8_findList 135 = .ok (.aload_n 0, 1) := by decide +kernel
theorem dX8_findList_136 : decode cX8_findList 136 = .ok (.iload_n 1, 1) := by decide +kernel
theorem dX8_findList_137 : decode cX8_findList 137 = .ok (.aload_n 0, 1) := by decide +kernel
theorem dX8_findList_138 : decode cX8_findList 138 = .ok (.getfield 75, 3) := by decide +kernel
theorem dX8_findList_141 : decode cX8_findList 141 = .ok (.iload_n 2, 1) := by decide +kernel
theorem dX8_findList_142 : decode cX8_findList 142 = .ok (.iconst 1, 1) := by decide +kernel
theorem dX8_findList_143 : decode cX8_findList 143 = .ok (.isub, 1) := by decide +kernel
theorem dX8_findList_144 : decode cX8_findList 144 = .ok (.iaload, 1) := by decide +kernel
theorem dX8_findList_145 : decode cX8_findList 145 = .ok (.invokevirtual 183, 3) := by decide +kernel
theorem dX8_findList_148 : decode cX8_findList 148 = .ok (.ifCond .eq 23, 3) := by decide +kernel
theorem dX8_findList_151 : decode cX8_findList 151 = .ok (.aload_n 0, 1) := by decide +kernel
theorem dX8_findList_152 : decode cX8_findList 152 = .ok (.getfield 75, 3) := by decide +kernel
theorem dX8_findList_155 : decode cX8_findList 155 = .ok (.iload_n 2, 1) := by decide +kernel
theorem dX8_findList_156 : decode cX8_findList 156 = .ok (.aload_n 0, 1) := by decide +kernel
theorem dX8_findList_157 : decode cX8_findList 157 = .ok (.getfield 75, 3) := by decide +kernel
theorem dX8_findList_160 : decode cX8_findList 160 = .ok (.iload_n 2, 1) := by decide +kernel
theorem dX8_findList_161 : decode cX8_findList 161 = .ok (.iconst 1, 1) := by decide +kernel
theorem dX8_findList_162 : decode cX8_findList 162 = .ok (.isub, 1) := by decide +kernel
theorem dX8_findList_163 : decode cX8_findList 163 = .ok (.iaload, 1) := by decide +kernel
theorem dX8_findList_164 : decode cX8_findList 164 = .ok (.iastore, 1) := by decide +kernel
theorem dX8_findList_165 : decode cX8_findList 165 = .ok (.iinc 2 (-1), 3) := by decide +kernel
theorem dX8_findList_168 : decode cX8_findList 168 = .ok (.goto (-37), 3) := by decide +kernel
theorem dX8_findList_171 : decode cX8_findList 171 = .ok (.aload_n 0, 1) := by decide +kernel
theorem dX8_findList_172 : decode cX8_findList 172 = .ok (.getfield 75, 3) := by decide +kernel
theorem dX8_findList_175 : decode cX8_findList 175 = .ok (.iload_n 2, 1) := by decide +kernel
theorem dX8_findList_176 : decode cX8_findList 176 = .ok (.iload_n 1, 1) := by decide +kernel
theorem dX8_findList_177 : decode cX8_findList 177 = .ok (.iastore, 1) := by decide +kernel
theorem dX8_findList_178 : decode cX8_findList 178 = .ok (.aload_n 0, 1) := by decide +kernel
theorem dX8_findList_179 : decode cX8_findList 179 = .ok (.dup, 1) := by decide +kernel
theorem dX8_findList_180 : decode cX8_findList 180 = .ok (.getfield 177, 3) := by decide +kernel
theorem dX8_findList_183 : decode cX8_findList 183 = .ok (.iconst 1, 1) := by decide +kernel
theorem dX8_findList_184 : decode cX8_findList 184 = .ok (.iadd, 1) := by decide +kernel
theorem dX8_findList_185 : decode cX8_findList 185 = .ok (.putfield 177, 3) := by decide +kernel
theorem dX8_findList_188 : decode cX8_findList 188 = .ok (.iinc 1 1, 3) := by decide +kernel
theorem dX8_findList_191 : decode cX8_findList 191 = .ok (.goto (-81), 3) := by decide +kernel
theorem dX8_findList_194 : decode cX8_findList 194 = .ok (.iconst 0, 1) := by decide +kernel
theorem dX8_findList_195 : decode cX8_findList 195 = .ok (.istore_n 1, 1) := by decide +kernel
theorem dX8_findList_196 : decode cX8_findList 196 = .ok (.iload_n 1, 1) := by decide +kernel
theorem dX8_findList_197 : decode cX8_findList 197 = .ok (.aload_n 0, 1) := by decide +kernel
theorem dX8_findList_198 : decode cX8_findList 198 = .ok (.getfield 177, 3) := by decide +kernel
theorem dX8_findList_201 : decode cX8_findList 201 = .ok (.if_icmp .ge 23, 3) := by decide +kernel
theorem dX8_findList_204 : decode cX8_findList 204 = .ok (.aload_n 0, 1) := by decide +kernel
theorem dX8_findList_205 : decode cX8_findList 205 = .ok (.getfield 78, 3) := by decide +kernel
theorem dX8_findList_208 : decode cX8_findList 208 = .ok (.aload_n 0, 1) := by decide +kernel
theorem dX8_findList_209 : decode cX8_findList 209 = .ok (.getfield 75, 3) := by decide +kernel
theorem dX8_findList_212 : decode cX8_findList 212 = .ok (.iload_n 1, 1) := by decide +kernel
theorem dX8_findList_213 : decode cX8_findList 213 = .ok (.iaload, 1) := by decide +kernel
theorem dX8_findList_214 : decode cX8_findList 214 = .ok (.iload_n 1, 1) := by decide +kernel
theorem dX8_findList_215 : decode cX8_findList 215 = .ok (.iconst 1, 1) := by decide +kernel
theorem dX8_findList_216 : decode cX8_findList 216 = .ok (.iadd, 1) := by decide +kernel
theorem dX8_findList_217 : decode cX8_findList 217 = .ok (.iastore, 1) := by decide +kernel
theorem dX8_findList_218 : decode cX8_findList 218 = .ok (.iinc 1 1, 3) := by decide +kernel
theorem dX8_findList_221 : decode cX8_findList 221 = .ok (.goto (-25), 3) := by decide +kernel
theorem dX8_findList_224 : decode cX8_findList 224 = .ok (.return_, 1) := by decide +kernel
theorem dX8_lesser_0 : decode cX8_lesser 0 = .ok (.iload_n 0, 1) := by decide +kernel
theorem dX8_lesser_1 : decode cX8_lesser 1 = .ok (.iload_n 1, 1) := by decide +kernel
theorem dX8_lesser_2 : decode cX8_lesser 2 = .ok (.if_icmp .ge 7, 3) := by decide +kernel
theorem dX8_lesser_5 : decode cX8_lesser 5 = .ok (.iload_n 0, 1) := by decide +kernel
theorem dX8_lesser_6 : decode cX8_lesser 6 = .ok (.goto 4, 3) := by decide +kernel
theorem dX8_lesser_9 : decode cX8_lesser 9 = .ok (.iload_n 1, 1) := by decide +kernel
theorem dX8_lesser_10 : decode cX8_lesser 10 = .ok (.ireturn, 1) := by decide +kernel
theorem dX8_isLike_0 : decode cX8_isLike 0 = .ok (.iload_n 3, 1) := by decide +kernel
theorem dX8_isLike_1 : decode cX8_isLike 1 = .ok (.aload_n 0, 1) := by decide +kernel
theorem dX8_isLike_2 : decode cX8_isLike 2 = .ok (.getfield 7, 3) := by decide +kernel
theorem dX8_isLike_5 : decode cX8_isLike 5 = .ok (.iload_n 1, 1) := by decide +kernel
theorem dX8_isLike_6 : decode cX8_isLike 6 = .ok (.iaload, 1) := by decide +kernel
theorem dX8_isLike_7 : decode cX8_isLike 7 = .ok (.invokestatic 187, 3) := by decide +kernel
theorem dX8_isLike_10 : decode cX8_isLike 10 = .ok (.istore 4, 2) := by decide +kernel
theorem dX8_isLike_12 : decode cX8_isLike 12 = .ok (.aload_n 0, 1) := by decide +kernel
theorem dX8_isLike_13 : decode cX8_isLike 13 = .ok (.getfield 22, 3) := by decide +kernel
theorem dX8_isLike_16 : decode cX8_isLike 16 = .ok (.iload_n 1, 1) := by decide +kernel
theorem dX8_isLike_17 : decode cX8_isLike 17 = .ok (.iaload, 1) := by decide +kernel
theorem dX8_isLike_18 : decode cX8_isLike 18 = .ok (.aload_n 0, 1) := by decide +kernel
theorem dX8_isLike_19 : decode cX8_isLike 19 = .ok (.getfield 22, 3) := by decide +kernel
theorem dX8_isLike_22 : decode cX8_isLike 22 = .ok (.iload_n 2, 1) := by decide +kernel
theorem dX8_isLike_23 : decode cX8_isLike 23 = .ok (.iaload, 1) := by decide +kernel
theorem dX8_isLike_24 : decode cX8_isLike 24 = .ok (.if_icmp .ne 55, 3) := by decide +kernel
theorem dX8_isLike_27 : decode cX8_isLike 27 = .ok (.iload 4, 2) := by decide +kernel
theorem dX8_isLike_29 : decode cX8_isLike 29 = .ok (.iload_n 3, 1) := by decide +kernel
theorem dX8_isLike_30 : decode cX8_isLike 30 = .ok (.aload_n 0, 1) := by decide +kernel
theorem dX8_isLike_31 : decode cX8_isLike 31 = .ok (.getfield 7, 3) := by decide +kernel
theorem dX8_isLike_34 : decode cX8_isLike 34 = .ok (.iload_n 2, 1) := by decide +kernel
theorem dX8_isLike_35 : decode cX8_isLike 35 = .ok (.iaload, 1) := by decide +kernel
theorem dX8_isLike_36 : decode cX8_isLike 36 = .ok (.invokestatic 187, 3) := by decide +kernel
theorem dX8_isLike_39 : decode cX8_isLike 39 = .ok (.if_icmp .ne 40, 3) := by decide +kernel
theorem dX8_isLike_42 : decode cX8_isLike 42 = .ok (.aload_n 0, 1) := by decide +kernel
theorem dX8_isLike_43 : decode cX8_isLike 43 = .ok (.getfield 7, 3) := by decide +kernel
theorem dX8_isLike_46 : decode cX8_isLike 46 = .ok (.iload_n 1, 1) := by decide +kernel
theorem dX8_isLike_47 : decode cX8_isLike 47 = .ok (.iaload, 1) := by decide +kernel
theorem dX8_isLike_48 : decode cX8_isLike 48 = .ok (.iload_n 3, 1) := by decide +kernel
theorem dX8_isLike_49 : decode cX8_isLike 49 = .ok (.if_icmp .le 7, 3) := by decide +kernel
theorem dX8_isLike_52 : decode cX8_isLike 52 = .ok (.iconst 1, 1) := by decide +kernel
theorem dX8_isLike_53 : decode cX8_isLike 53 = .ok (.goto 4, 3) := by decide +kernel
theorem dX8_isLike_56 : decode cX8_isLike 56 = .ok (.iconst 0, 1) := by decide +kernel
theorem dX8_isLike_57 : decode cX8_isLike 57 = .ok (.aload_n 0, 1) := by decide +kernel
theorem dX8_isLike_58 : decode cX8_isLike 58 = .ok (.getfield 7, 3) := by decide +kernel
theorem dX8_isLike_61 : decode cX8_isLike 61 = .ok (.iload_n 2, 1) := by decide +kernel
theorem dX8_isLike_62 : decode cX8_isLike 62 = .ok (.iaload, 1) := by decide +kernel
theorem dX8_isLike_63 : decode cX8_isLike 63 = .ok (.iload_n 3, 1) := by decide +kernel
theorem dX8_isLike_64 : decode cX8_isLike 64 = .ok (.if_icmp .le 7, 3) := by decide +kernel
theorem dX8_isLike_67 : decode cX8_isLike 67 = .ok (.iconst 1, 1) := by decide +kernel
theorem dX8_isLike_68 : decode cX8_isLike 68 = .ok (.goto 4, 3) := by decide +kernel
theorem dX8_isLike_71 : decode cX8_isLike 71 = .ok (.iconst 0, 1) := by decide +kernel
theorem dX8_isLike_72 : decode cX8_isLike 72 = .ok (.if_icmp .ne 7, 3) := by decide +kernel
theorem dX8_isLike_75 : decode cX8_isLike 75 = .ok (.iconst 1, 1) := by decide +kernel
theorem dX8_isLike_76 : decode cX8_isLike 76 = .ok (.goto 4, 3) := by decide +kernel
theorem dX8_isLike_79 : decode cX8_isLike 79 = .ok (.iconst 0, 1) := by decide +kernel
theorem dX8_isLike_80 : decode cX8_isLike 80 = .ok (.istore 5, 2) := by decide +kernel
theorem dX8_isLike_82 : decode cX8_isLike 82 = .ok (.iconst 0, 1) := by decide +kernel
theorem dX8_isLike_83 : decode cX8_isLike 83 = .ok (.istore 6, 2) := by decide +kernel
theorem dX8_isLike_85 : decode cX8_isLike 85 = .ok (.iload 6, 2) := by decide +kernel
theorem dX8_isLike_87 : decode cX8_isLike 87 = .ok (.iload 4, 2) := by decide +kernel
theorem dX8_isLike_89 : decode cX8_isLike 89 = .ok (.if_icmp .ge 46, 3) := by decide +kernel
theorem dX8_isLike_92 : decode cX8_isLike 92 = .ok (.iload 5, 2) := by decide +kernel
theorem dX8_isLike_94 : decode cX8_isLike 94 = .ok (.ifCond .eq 41, 3) := by decide +kernel
theorem dX8_isLike_97 : decode cX8_isLike 97 = .ok (.aload_n 0, 1) := by decide +kernel
theorem dX8_isLike_98 : decode cX8_isLike 98 = .ok (.getfield 13, 3) := by decide +kernel
theorem dX8_isLike_101 : decode cX8_isLike 101 = .ok (.iconst 4, 1) := by decide +kernel
theorem dX8_isLike_102 : decode cX8_isLike 102 = .ok (.iload_n 1, 1) := by decide +kernel
theorem dX8_isLike_103 : decode cX8_isLike 103 = .ok (.imul, 1) := by decide +kernel
theorem dX8_isLike_104 : decode cX8_isLike 104 = .ok (.iload 6, 2) := by decide +kernel
theorem dX8_isLike_106 : decode cX8_isLike 106 = .ok (.iadd, 1) := by decide +kernel
theorem dX8_isLike_107 : decode cX8_isLike 107 = .ok (.iaload, 1) := by decide +kernel
theorem dX8_isLike_108 : decode cX8_isLike 108 = .ok (.aload_n 0, 1) := by decide +kernel
theorem dX8_isLike_109 : decode cX8_isLike 109 = .ok (.getfield 13, 3) := by decide +kernel
theorem dX8_isLike_112 : decode cX8_isLike 112 = .ok (.iconst 4, 1) := by decide +kernel
theorem dX8_isLike_113 : decode cX8_isLike 113 = .ok (.iload_n 2, 1) := by decide +kernel
theorem dX8_isLike_114 : decode cX8_isLike 114 = .ok (.imul, 1) := by decide +kernel
theorem dX8_isLike_115 : decode cX8_isLike 115 = .ok (.iload 6, 2) := by decide +kernel
theorem dX8_isLike_117 : decode cX8_isLike 117 = .ok (.iadd, 1) := by decide +kernel
theorem dX8_isLike_118 : decode cX8_isLike 118 = .ok (.iaload, 1) := by decide +kernel
theorem dX8_isLike_119 : decode cX8_isLike 119 = .ok (.if_icmp .ne 7, 3) := by decide +kernel
theorem dX8_isLike_122 : decode cX8_isLike 122 = .ok (.iconst 1, 1) := by decide +kernel
theorem dX8_isLike_123 : decode cX8_isLike 123 = .ok (.goto 4, 3) := by decide +kernel
theorem dX8_isLike_126 : decode cX8_isLike 126 = .ok (.iconst 0, 1) := by decide +kernel
theorem dX8_isLike_127 : decode cX8_isLike 127 = .ok (.istore 5, 2) := by decide +kernel
theorem dX8_isLike_129 : decode cX8_isLike 129 = .ok (.iinc 6 1, 3) := by decide +kernel
theorem dX8_isLike_132 : decode cX8_isLike 132 = .ok (.goto (-47), 3) := by decide +kernel
theorem dX8_isLike_135 : decode cX8_isLike 135 = .ok (.iload 5, 2) := by decide +kernel
theorem dX8_isLike_137 : decode cX8_isLike 137 = .ok (.ireturn, 1) := by decide +kernel
theorem dX8_shownAtFirst_0 : decode cX8_shownAtFirst 0 = .ok (.aload_n 0, 1) := by decide +kernel
theorem dX8_shownAtFirst_1 : decode cX8_shownAtFirst 1 = .ok (.getfield 7, 3) := by decide +kernel
theorem dX8_shownAtFirst_4 : decode cX8_shownAtFirst 4 = .ok (.iload_n 1, 1) := by decide +kernel
theorem dX8_shownAtFirst_5 : decode cX8_shownAtFirst 5 = .ok (.iaload, 1) := by decide +kernel
theorem dX8_shownAtFirst_6 : decode cX8_shownAtFirst 6 = .ok (.aload_n 0, 1) := by decide +kernel
theorem dX8_shownAtFirst_7 : decode cX8_shownAtFirst 7 = .ok (.iconst 2, 1) := by decide +kernel
theorem dX8_shownAtFirst_8 : decode cX8_shownAtFirst 8 = .ok (.invokevirtual 171, 3) := by decide +kernel
theorem dX8_shownAtFirst_11 : decode cX8_shownAtFirst 11 = .ok (.if_icmp .gt 12, 3) := by decide +kernel
theorem dX8_shownAtFirst_14 : decode cX8_shownAtFirst 14 = .ok (.aload_n 0, 1) := by decide +kernel
theorem dX8_shownAtFirst_15 : decode cX8_shownAtFirst 15 = .ok (.getfield 7, 3) := by decide +kernel
theorem dX8_shownAtFirst_18 : decode cX8_shownAtFirst 18 = .ok (.iload_n 1, 1) := by decide +kernel
theorem dX8_shownAtFirst_19 : decode cX8_shownAtFirst 19 = .ok (.iaload, 1) := by decide +kernel
theorem dX8_shownAtFirst_20 : decode cX8_shownAtFirst 20 = .ok (.goto 8, 3) := by decide +kernel
theorem dX8_shownAtFirst_23 : decode cX8_shownAtFirst 23 = .ok (.aload_n 0, 1) := by decide +kernel
theorem dX8_shownAtFirst_24 : decode cX8_shownAtFirst 24 = .ok (.iconst 3, 1) := by decide +kernel
theorem dX8_shownAtFirst_25 : decode cX8_shownAtFirst 25 = .ok (.invokevirtual 171, 3) := by decide +kernel
theorem dX8_shownAtFirst_28 : decode cX8_shownAtFirst 28 = .ok (.ireturn, 1) := by decide +kernel
theorem dX8_shownOf_0 : decode cX8_shownOf 0 = .ok (.aload_n 0, 1) := by decide +kernel
theorem dX8_shownOf_1 : decode cX8_shownOf 1 = .ok (.iload_n 1, 1) := by decide +kernel
theorem dX8_shownOf_2 : decode cX8_shownOf 2 = .ok (.invokevirtual 190, 3) := by decide +kernel
theorem dX8_shownOf_5 : decode cX8_shownOf 5 = .ok (.istore_n 2, 1) := by decide +kernel
theorem dX8_shownOf_6 : decode cX8_shownOf 6 = .ok (.iload_n 2, 1) := by decide +kernel
theorem dX8_shownOf_7 : decode cX8_shownOf 7 = .ok (.istore_n 3, 1) := by decide +kernel
theorem dX8_shownOf_8 : decode cX8_shownOf 8 = .ok (.iload_n 3, 1) := by decide +kernel
theorem dX8_shownOf_9 : decode cX8_shownOf 9 = .ok (.aload_n 0, 1) := by decide +kernel
theorem dX8_shownOf_10 : decode cX8_shownOf 10 = .ok (.getfield 7, 3) := by decide +kernel
theorem dX8_shownOf_13 : decode cX8_shownOf 13 = .ok (.iload_n 1, 1) := by decide +kernel
theorem dX8_shownOf_14 : decode cX8_shownOf 14 = .ok (.iaload, 1) := by decide +kernel
theorem dX8_shownOf_15 : decode cX8_shownOf 15 = .ok (.if_icmp .gt 84, 3) := by decide +kernel
theorem dX8_shownOf_18 : decode cX8_shownOf 18 = .ok (.aload_n 0, 1) := by decide +kernel
theorem dX8_shownOf_19 : decode cX8_shownOf 19 = .ok (.iconst 5, 1) := by decide +kernel
theorem dX8_shownOf_20 : decode cX8_shownOf 20 = .ok (.invokevirtual 171, 3) := by decide +kernel
theorem dX8_shownOf_23 : decode cX8_shownOf 23 = .ok (.iconst 1, 1) := by decide +kernel
theorem dX8_shownOf_24 : decode cX8_shownOf 24 = .ok (.if_icmp .ne 75, 3) := by decide +kernel
theorem dX8_shownOf_27 : decode cX8_shownOf 27 = .ok (.iconst 1, 1) := by decide +kernel
theorem dX8_shownOf_28 : decode cX8_shownOf 28 = .ok (.istore 4, 2) := by decide +kernel
theorem dX8_shownOf_30 : decode cX8_shownOf 30 = .ok (.iconst 0, 1) := by decide +kernel
theorem dX8_shownOf_31 : decode cX8_shownOf 31 = .ok (.istore 5, 2) := by decide +kernel
theorem dX8_shownOf_33 : decode cX8_shownOf 33 = .ok (.iload 5, 2) := by decide +kernel
theorem dX8_shownOf_35 : decode cX8_shownOf 35 = .ok (.aload_n 0, 1) := by decide +kernel
theorem dX8_shownOf_36 : decode cX8_shownOf 36 = .ok (.getfield 124, 3) := by decide +kernel
theorem dX8_shownOf_39 : decode cX8_shownOf 39 = .ok (.if_icmp .ge 47, 3) := by decide +kernel
theorem dX8_shownOf_42 : decode cX8_shownOf 42 = .ok (.iload 4, 2) := by decide +kernel
theorem dX8_shownOf_44 : decode cX8_shownOf 44 = .ok (.ifCond .eq 33, 3) := by decide +kernel
theorem dX8_shownOf_47 : decode cX8_shownOf 47 = .ok (.iload 5, 2) := by decide +kernel
theorem dX8_shownOf_49 : decode cX8_shownOf 49 = .ok (.iload_n 1, 1) := by decide +kernel
theorem dX8_shownOf_50 : decode cX8_shownOf 50 = .ok (.if_icmp .eq 23, 3) := by decide +kernel
theorem dX8_shownOf_53 : decode cX8_shownOf 53 = .ok (.aload_n 0, 1) := by decide +kernel
theorem dX8_shownOf_54 : decode cX8_shownOf 54 = .ok (.iload 5, 2) := by decide +kernel
theorem dX8_shownOf_56 : decode cX8_shownOf 56 = .ok (.invokevirtual 180, 3) := by decide +kernel
theorem dX8_shownOf_59 : decode cX8_shownOf 59 = .ok (.ifCond .eq 14, 3) := by decide +kernel
theorem dX8_shownOf_62 : decode cX8_shownOf 62 = .ok (.aload_n 0, 1) := by decide +kernel
theorem dX8_shownOf_63 : decode cX8_shownOf 63 = .ok (.iload_n 1, 1) := by decide +kernel
theorem dX8_shownOf_64 : decode cX8_shownOf 64 = .ok (.iload 5, 2) := by decide +kernel
theorem dX8_shownOf_66 : decode cX8_shownOf 66 = .ok (.iload_n 3, 1) := by decide +kernel
theorem dX8_shownOf_67 : decode cX8_shownOf 67 = .ok (.invokevirtual 193, 3) := by decide +kernel
theorem dX8_shownOf_70 : decode cX8_shownOf 70 = .ok (.ifCond .ne 7, 3) := by decide +kernel
theorem dX8_shownOf_73 : decode cX8_shownOf 73 = .ok (.iconst 1, 1) := by decide +kernel
theorem dX8_shownOf_74 : decode cX8_shownOf 74 = .ok (.goto 4, 3) := by decide +kernel
theorem dX8_shownOf_77 : decode cX8_shownOf 77 = .ok (.iconst 0, 1) := by decide +kernel
theorem dX8_shownOf_78 : decode cX8_shownOf 78 = .ok (.istore 4, 2) := by decide +kernel
theorem dX8_shownOf_80 : decode cX8_shownOf 80 = .ok (.iinc 5 1, 3) := by decide +kernel
theorem dX8_shownOf_83 : decode cX8_shownOf 83 = .ok (.goto (-50), 3) := by decide +kernel
theorem dX8_shownOf_86 : decode cX8_shownOf 86 = .ok (.iload 4, 2) := by decide +kernel
theorem dX8_shownOf_88 : decode cX8_shownOf 88 = .ok (.ifCond .eq 5, 3) := by decide +kernel
theorem dX8_shownOf_91 : decode cX8_shownOf 91 = .ok (.iload_n 3, 1) := by decide +kernel
theorem dX8_shownOf_92 : decode cX8_shownOf 92 = .ok (.ireturn, 1) := by decide +kernel
theorem dX8_shownOf_93 : decode cX8_shownOf 93 = .ok (.iinc 3 1, 3) := by decide +kernel
theorem dX8_shownOf_96 : decode cX8_shownOf 96 = .ok (.goto (-88), 3) := by decide +kernel
theorem dX8_shownOf_99 : decode cX8_shownOf 99 = .ok (.iload_n 2, 1) := by decide +kernel
theorem dX8_shownOf_100 : decode cX8_shownOf 100 = .ok (.ireturn, 1) := by decide +kernel
theorem dX8_showsInitials_0 : decode cX8_showsInitials 0 = .ok (.iconst 0, 1) := by decide +kernel
theorem dX8_showsInitials_1 : decode cX8_showsInitials 1 = .ok (.istore_n 2, 1) := by decide +kernel
theorem dX8_showsInitials_2 : decode cX8_showsInitials 2 = .ok (.iconst 0, 1) := by decide +kernel
theorem dX8_showsInitials_3 : decode cX8_showsInitials 3 = .ok (.istore_n 3, 1) := by decide +kernel
theorem dX8_showsInitials_4 : decode cX8_showsInitials 4 = .ok (.iload_n 3, 1) := by decide +kernel
theorem dX8_showsInitials_5 : decode cX8_showsInitials 5 = .ok (.aload_n 0, 1) := by decide +kernel
theorem dX8_showsInitials_6 : decode cX8_showsInitials 6 = .ok (.getfield 124, 3) := by decide +kernel
theorem dX8_showsInitials_9 : decode cX8_showsInitials 9 = .ok (.if_icmp .ge 101, 3) := by decide +kernel
theorem dX8_showsInitials_12 : decode cX8_showsInitials 12 = .ok (.aload_n 0, 1) := by decide +kernel
theorem dX8_showsInitials_13 : decode cX8_showsInitials 13 = .ok (.getfield 16, 3) := by decide +kernel
theorem dX8_showsInitials_16 : decode cX8_showsInitials 16 = .ok (.iconst 4, 1) := by decide +kernel
theorem dX8_showsInitials_17 : decode cX8_showsInitials 17 = .ok (.iload_n 1, 1) := by decide +kernel
theorem dX8_showsInitials_18 : decode cX8_showsInitials 18 = .ok (.imul, 1) := by decide +kernel
theorem dX8_showsInitials_19 : decode cX8_showsInitials 19 = .ok (.iaload, 1) := by decide +kernel
theorem dX8_showsInitials_20 : decode cX8_showsInitials 20 = .ok (.aload_n 0, 1) := by decide +kernel
theorem dX8_showsInitials_21 : decode cX8_showsInitials 21 = .ok (.getfield 16, 3) := by decide +kernel
theorem dX8_showsInitials_24 : decode cX8_showsInitials 24 = .ok (.iconst 4, 1) := by decide +kernel
theorem dX8_showsInitials_25 : decode cX8_showsInitials 25 = .ok (.iload_n 3, 1) := by decide +kernel
theorem dX8_showsInitials_26 : decode cX8_showsInitials 26 = .ok (.imul, 1) := by decide +kernel
theorem dX8_showsInitials_27 : decode cX8_showsInitials 27 = .ok (.iaload, 1) := by decide +kernel
theorem dX8_showsInitials_28 : decode cX8_showsInitials 28 = .ok (.if_icmp .ne 22, 3) := by decide +kernel
theorem dX8_showsInitials_31 : decode cX8_showsInitials 31 = .ok (.aload_n 0, 1) := by decide +kernel
theorem dX8_showsInitials_32 : decode cX8_showsInitials 32 = .ok (.getfield 19, 3) := by decide +kernel
theorem dX8_showsInitials_35 : decode cX8_showsInitials 35 = .ok (.iconst 4, 1) := by decide +kernel
theorem dX8_showsInitials_36 : decode cX8_showsInitials 36 = .ok (.iload_n 1, 1) := by decide +kernel
theorem dX8_showsInitials_37 : decode cX8_showsInitials 37 = .ok (.imul, 1) := by decide +kernel
theorem dX8_showsInitials_38 : decode cX8_showsInitials 38 = .ok (.iaload, 1) := by decide +kernel
theorem dX8_showsInitials_39 : decode cX8_showsInitials 39 = .ok (.aload_n 0, 1) := by decide +kernel
theorem dX8_showsInitials_40 : decode cX8_showsInitials 40 = .ok (.getfield 19, 3) := by decide +kernel
theorem dX8_showsInitials_43 : decode cX8_showsInitials 43 = .ok (.iconst 4, 1) := by decide +kernel
theorem dX8_showsInitials_44 : decode cX8_showsInitials 44 = .ok (.iload_n 3, 1) := by decide +kernel
theorem dX8_showsInitials_45 : decode cX8_showsInitials 45 = .ok (.imul, 1) := by decide +kernel
theorem dX8_showsInitials_46 : decode cX8_showsInitials 46 = .ok (.iaload, 1) := by decide +kernel
theorem dX8_showsInitials_47 : decode cX8_showsInitials 47 = .ok (.if_icmp .eq 7, 3) := by decide +kernel
theorem dX8_showsInitials_50 : decode cX8_showsInitials 50 = .ok (.iconst 1, 1) := by decide +kernel
theorem dX8_showsInitials_51 : decode cX8_showsInitials 51 = .ok (.goto 4, 3) := by decide +kernel
theorem dX8_showsInitials_54 : decode cX8_showsInitials 54 = .ok (.iconst 0, 1) := by decide +kernel
theorem dX8_showsInitials_55 : decode cX8_showsInitials 55 = .ok (.istore 4, 2) := by decide +kernel
theorem dX8_showsInitials_57 : decode cX8_showsInitials 57 = .ok (.iload_n 2, 1) := by decide +kernel
theorem dX8_showsInitials_58 : decode cX8_showsInitials 58 = .ok (.ifCond .ne 40, 3) := by decide +kernel
theorem dX8_showsInitials_61 : decode cX8_showsInitials 61 = .ok (.iload_n 3, 1) := by decide +kernel
theorem dX8_showsInitials_62 : decode cX8_showsInitials 62 = .ok (.iload_n 1, 1) := by decide +kernel
theorem dX8_showsInitials_63 : decode cX8_showsInitials 63 = .ok (.if_icmp .eq 39, 3) := by decide +kernel
theorem dX8_showsInitials_66 : decode cX8_showsInitials 66 = .ok (.aload_n 0, 1) := by decide +kernel
theorem dX8_showsInitials_67 : decode cX8_showsInitials 67 = .ok (.iload_n 3, 1) := by decide +kernel
theorem dX8_showsInitials_68 : decode cX8_showsInitials 68 = .ok (.invokevirtual 180, 3) := by decide +kernel
theorem dX8_showsInitials_71 : decode cX8_showsInitials 71 = .ok (.ifCond .eq 31, 3) := by decide +kernel
theorem dX8_showsInitials_74 : decode cX8_showsInitials 74 = .ok (.aload_n 0, 1) := by decide +kernel
theorem dX8_showsInitials_75 : decode cX8_showsInitials 75 = .ok (.getfield 13, 3) := by decide +kernel
theorem dX8_showsInitials_78 : decode cX8_showsInitials 78 = .ok (.iconst 4, 1) := by decide +kernel
theorem dX8_showsInitials_79 : decode cX8_showsInitials 79 = .ok (.iload_n 1, 1) := by decide +kernel
theorem dX8_showsInitials_80 : decode cX8_showsInitials 80 = .ok (.imul, 1) := by decide +kernel
theorem dX8_showsInitials_81 : decode cX8_showsInitials 81 = .ok (.iaload, 1) := by decide +kernel
theorem dX8_showsInitials_82 : decode cX8_showsInitials 82 = .ok (.aload_n 0, 1) := by decide +kernel
theorem dX8_showsInitials_83 : decode cX8_showsInitials 83 = .ok (.getfield 13, 3) := by decide +kernel
theorem dX8_showsInitials_86 : decode cX8_showsInitials 86 = .ok (.iconst 4, 1) := by decide +kernel
theorem dX8_showsInitials_87 : decode cX8_showsInitials 87 = .ok (.iload_n 3, 1) := by decide +kernel
theorem dX8_showsInitials_88 : decode cX8_showsInitials 88 = .ok (.imul, 1) := by decide +kernel
theorem dX8_showsInitials_89 : decode cX8_showsInitials 89 = .ok (.iaload, 1) := by decide +kernel
theorem dX8_showsInitials_90 : decode cX8_showsInitials 90 = .ok (.if_icmp .ne 12, 3) := by decide +kernel
theorem dX8_showsInitials_93 : decode cX8_showsInitials 93 = .ok (.iload 4, 2) := by decide +kernel
theorem dX8_showsInitials_95 : decode cX8_showsInitials 95 = .ok (.ifCond .eq 7, 3) := by decide +kernel
theorem dX8_showsInitials_98 : decode cX8_showsInitials 98 = .ok (.iconst 1, 1) := by decide +kernel
theorem dX8_showsInitials_99 : decode cX8_showsInitials 99 = .ok (.goto 4, 3) := by decide +kernel
theorem dX8_showsInitials_102 : decode cX8_showsInitials 102 = .ok (.iconst 0, 1) := by decide +kernel
theorem dX8_showsInitials_103 : decode cX8_showsInitials 103 = .ok (.istore_n 2, 1) := by decide +kernel
theorem dX8_showsInitials_104 : decode cX8_showsInitials 104 = .ok (.iinc 3 1, 3) := by decide +kernel
theorem dX8_showsInitials_107 : decode cX8_showsInitials 107 = .ok (.goto (-103), 3) := by decide +kernel
theorem dX8_showsInitials_110 : decode cX8_showsInitials 110 = .ok (.iload_n 2, 1) := by decide +kernel
theorem dX8_showsInitials_111 : decode cX8_showsInitials 111 = .ok (.ifCond .eq 17, 3) := by decide +kernel
theorem dX8_showsInitials_114 : decode cX8_showsInitials 114 = .ok (.aload_n 0, 1) := by decide +kernel
theorem dX8_showsInitials_115 : decode cX8_showsInitials 115 = .ok (.bipush 6, 2) := by decide +kernel
theorem dX8_showsInitials_117 : decode cX8_showsInitials 117 = .ok (.invokevirtual 171, 3) := by decide +kernel
theorem dX8_showsInitials_120 : decode cX8_showsInitials 120 = .ok (.iconst 1, 1) := by decide +kernel
theorem dX8_showsInitials_121 : decode cX8_showsInitials 121 = .ok (.if_icmp .ne 7, 3) := by decide +kernel
theorem dX8_showsInitials_124 : decode cX8_showsInitials 124 = .ok (.iconst 1, 1) := by decide +kernel
theorem dX8_showsInitials_125 : decode cX8_showsInitials 125 = .ok (.goto 4, 3) := by decide +kernel
theorem dX8_showsInitials_128 : decode cX8_showsInitials 128 = .ok (.iconst 0, 1) := by decide +kernel
theorem dX8_showsInitials_129 : decode cX8_showsInitials 129 = .ok (.ireturn, 1) := by decide +kernel
theorem dX8_isFaceLike_0 : decode cX8_isFaceLike 0 = .ok (.aload_n 0, 1) := by decide +kernel
theorem dX8_isFaceLike_1 : decode cX8_isFaceLike 1 = .ok (.getfield 22, 3) := by decide +kernel
theorem dX8_isFaceLike_4 : decode cX8_isFaceLike 4 = .ok (.iload_n 1, 1) := by decide +kernel
theorem dX8_isFaceLike_5 : decode cX8_isFaceLike 5 = .ok (.iaload, 1) := by decide +kernel
theorem dX8_isFaceLike_6 : decode cX8_isFaceLike 6 = .ok (.aload_n 0, 1) := by decide +kernel
theorem dX8_isFaceLike_7 : decode cX8_isFaceLike 7 = .ok (.getfield 22, 3) := by decide +kernel
theorem dX8_isFaceLike_10 : decode cX8_isFaceLike 10 = .ok (.iload_n 2, 1) := by decide +kernel
theorem dX8_isFaceLike_11 : decode cX8_isFaceLike 11 = .ok (.iaload, 1) := by decide +kernel
theorem dX8_isFaceLike_12 : decode cX8_isFaceLike 12 = .ok (.if_icmp .ne 80, 3) := by decide +kernel
theorem dX8_isFaceLike_15 : decode cX8_isFaceLike 15 = .ok (.aload_n 0, 1) := by decide +kernel
theorem dX8_isFaceLike_16 : decode cX8_isFaceLike 16 = .ok (.getfield 81, 3) := by decide +kernel
theorem dX8_isFaceLike_19 : decode cX8_isFaceLike 19 = .ok (.iload_n 1, 1) := by decide +kernel
theorem dX8_isFaceLike_20 : decode cX8_isFaceLike 20 = .ok (.iaload, 1) := by decide +kernel
theorem dX8_isFaceLike_21 : decode cX8_isFaceLike 21 = .ok (.aload_n 0, 1) := by decide +kernel
theorem dX8_isFaceLike_22 : decode cX8_isFaceLike 22 = .ok (.getfield 81, 3) := by decide +kernel
theorem dX8_isFaceLike_25 : decode cX8_isFaceLike 25 = .ok (.iload_n 2, 1) := by decide +kernel
theorem dX8_isFaceLike_26 : decode cX8_isFaceLike 26 = .ok (.iaload, 1) := by decide +kernel
theorem dX8_isFaceLike_27 : decode cX8_isFaceLike 27 = .ok (.if_icmp .ne 65, 3) := by decide +kernel
theorem dX8_isFaceLike_30 : decode cX8_isFaceLike 30 = .ok (.aload_n 0, 1) := by decide +kernel
theorem dX8_isFaceLike_31 : decode cX8_isFaceLike 31 = .ok (.getfield 84, 3) := by decide +kernel
theorem dX8_isFaceLike_34 : decode cX8_isFaceLike 34 = .ok (.iload_n 1, 1) := by decide +kernel
theorem dX8_isFaceLike_35 : decode cX8_isFaceLike 35 = .ok (.baload, 1) := by decide +kernel
theorem dX8_isFaceLike_36 : decode cX8_isFaceLike 36 = .ok (.aload_n 0, 1) := by decide +kernel
theorem dX8_isFaceLike_37 : decode cX8_isFaceLike 37 = .ok (.getfield 84, 3) := by decide +kernel
theorem dX8_isFaceLike_40 : decode cX8_isFaceLike 40 = .ok (.iload_n 2, 1) := by decide +kernel
theorem dX8_isFaceLike_41 : decode cX8_isFaceLike 41 = .ok (.baload, 1) := by decide +kernel
theorem dX8_isFaceLike_42 : decode cX8_isFaceLike 42 = .ok (.if_icmp .ne 50, 3) := by decide +kernel
theorem dX8_isFaceLike_45 : decode cX8_isFaceLike 45 = .ok (.aload_n 0, 1) := by decide +kernel
theorem dX8_isFaceLike_46 : decode cX8_isFaceLike 46 = .ok (.getfield 7, 3) := by decide +kernel
theorem dX8_isFaceLike_49 : decode cX8_isFaceLike 49 = .ok (.iload_n 1, 1) := by decide +kernel
theorem dX8_isFaceLike_50 : decode cX8_isFaceLike 50 = .ok (.iaload, 1) := by decide +kernel
theorem dX8_isFaceLike_51 : decode cX8_isFaceLike 51 = .ok (.aload_n 0, 1) := by decide +kernel
theorem dX8_isFaceLike_52 : decode cX8_isFaceLike 52 = .ok (.getfield 81, 3) := by decide +kernel
theorem dX8_isFaceLike_55 : decode cX8_isFaceLike 55 = .ok (.iload_n 1, 1) := by decide +kernel
theorem dX8_isFaceLike_56 : decode cX8_isFaceLike 56 = .ok (.iaload, 1) := by decide +kernel
theorem dX8_isFaceLike_57 : decode cX8_isFaceLike 57 = .ok (.if_icmp .le 7, 3) := by decide +kernel
theorem dX8_isFaceLike_60 : decode cX8_isFaceLike 60 = .ok (.iconst 1, 1) := by decide +kernel
theorem dX8_isFaceLike_61 : decode cX8_isFaceLike 61 = .ok (.goto 4, 3) := by decide +kernel
theorem dX8_isFaceLike_64 : decode cX8_isFaceLike 64 = .ok (.iconst 0, 1) := by decide +kernel
theorem dX8_isFaceLike_65 : decode cX8_isFaceLike 65 = .ok (.aload_n 0, 1) := by decide +kernel
theorem dX8_isFaceLike_66 : decode cX8_isFaceLike 66 = .ok (.getfield 7, 3) := by decide +kernel
theorem dX8_isFaceLike_69 : decode cX8_isFaceLike 69 = .ok (.iload_n 2, 1) := by decide +kernel
theorem dX8_isFaceLike_70 : decode cX8_isFaceLike 70 = .ok (.iaload, 1) := by decide +kernel
theorem dX8_isFaceLike_71 : decode cX8_isFaceLike 71 = .ok (.aload_n 0, 1) := by decide +kernel
theorem dX8_isFaceLike_72 : decode cX8_isFaceLike 72 = .ok (.getfield 81, 3) := by decide +kernel
theorem dX8_isFaceLike_75 : decode cX8_isFaceLike 75 = .ok (.iload_n 2, 1) := by decide +kernel
theorem dX8_isFaceLike_76 : decode cX8_isFaceLike 76 = .ok (.iaload, 1) := by decide +kernel
theorem dX8_isFaceLike_77 : decode cX8_isFaceLike 77 = .ok (.if_icmp .le 7, 3) := by decide +kernel
theorem dX8_isFaceLike_80 : decode cX8_isFaceLike 80 = .ok (.iconst 1, 1) := by decide +kernel
theorem dX8_isFaceLike_81 : decode cX8_isFaceLike 81 = .ok (.goto 4, 3) := by decide +kernel
theorem dX8_isFaceLike_84 : decode cX8_isFaceLike 84 = .ok (.iconst 0, 1) := by decide +kernel
theorem dX8_isFaceLike_85 : decode cX8_isFaceLike 85 = .ok (.if_icmp .ne 7, 3) := by decide +kernel
theorem dX8_isFaceLike_88 : decode cX8_isFaceLike 88 = .ok (.iconst 1, 1) := by decide +kernel
theorem dX8_isFaceLike_89 : decode cX8_isFaceLike 89 = .ok (.goto 4, 3) := by decide +kernel
theorem dX8_isFaceLike_92 : decode cX8_isFaceLike 92 = .ok (.iconst 0, 1) := by decide +kernel
theorem dX8_isFaceLike_93 : decode cX8_isFaceLike 93 = .ok (.istore_n 3, 1) := by decide +kernel
theorem dX8_isFaceLike_94 : decode cX8_isFaceLike 94 = .ok (.iload_n 3, 1) := by decide +kernel
theorem dX8_isFaceLike_95 : decode cX8_isFaceLike 95 = .ok (.ifCond .eq 54, 3) := by decide +kernel
theorem dX8_isFaceLike_98 : decode cX8_isFaceLike 98 = .ok (.aload_n 0, 1) := by decide +kernel
theorem dX8_isFaceLike_99 : decode cX8_isFaceLike 99 = .ok (.getfield 84, 3) := by decide +kernel
theorem dX8_isFaceLike_102 : decode cX8_isFaceLike 102 = .ok (.iload_n 1, 1) := by decide +kernel
theorem dX8_isFaceLike_103 : decode cX8_isFaceLike 103 = .ok (.baload, 1) := by decide +kernel
theorem dX8_isFaceLike_104 : decode cX8_isFaceLike 104 = .ok (.ifCond .eq 41, 3) := by decide +kernel
theorem dX8_isFaceLike_107 : decode cX8_isFaceLike 107 = .ok (.aload_n 0, 1) := by decide +kernel
theorem dX8_isFaceLike_108 : decode cX8_isFaceLike 108 = .ok (.getfield 16, 3) := by decide +kernel
theorem dX8_isFaceLike_111 : decode cX8_isFaceLike 111 = .ok (.iconst 4, 1) := by decide +kernel
theorem dX8_isFaceLike_112 : decode cX8_isFaceLike 112 = .ok (.iload_n 1, 1) := by decide +kernel
theorem dX8_isFaceLike_113 : decode cX8_isFaceLike 113 = .ok (.imul, 1) := by decide +kernel
theorem dX8_isFaceLike_114 : decode cX8_isFaceLike 114 = .ok (.iaload, 1) := by decide +kernel
theorem dX8_isFaceLike_115 : decode cX8_isFaceLike 115 = .ok (.aload_n 0, 1) := by decide +kernel
theorem dX8_isFaceLike_116 : decode cX8_isFaceLike 116 = .ok (.getfield 16, 3) := by decide +kernel
theorem dX8_isFaceLike_119 : decode cX8_isFaceLike 119 = .ok (.iconst 4, 1) := by decide +kernel
theorem dX8_isFaceLike_120 : decode cX8_isFaceLike 120 = .ok (.iload_n 2, 1) := by decide +kernel
theorem dX8_isFaceLike_121 : decode cX8_isFaceLike 121 = .ok (.imul, 1) := by decide +kernel
theorem dX8_isFaceLike_122 : decode cX8_isFaceLike 122 = .ok (.iaload, 1) := by decide +kernel
theorem dX8_isFaceLike_123 : decode cX8_isFaceLike 123 = .ok (.if_icmp .ne 26, 3) := by decide +kernel
theorem dX8_isFaceLike_126 : decode cX8_isFaceLike 126 = .ok (.aload_n 0, 1) := by decide +kernel
theorem dX8_isFaceLike_127 : decode cX8_isFaceLike 127 = .ok (.getfield 19, 3) := by decide +kernel
theorem dX8_isFaceLike_130 : decode cX8_isFaceLike 130 = .ok (.iconst 4, 1) := by decide +kernel
theorem dX8_isFaceLike_131 : decode cX8_isFaceLike 131 = .ok (.iload_n 1, 1) := by decide +kernel
theorem dX8_isFaceLike_132 : decode cX8_isFaceLike 132 = .ok (.imul, 1) := by decide +kernel
theorem dX8_isFaceLike_133 : decode cX8_isFaceLike 133 = .ok (.iaload, 1) := by decide +kernel
theorem dX8_isFaceLike_134 : decode cX8_isFaceLike 134 = .ok (.aload_n 0, 1) := by decide +kernel
theorem dX8_isFaceLike_135 : decode cX8_isFaceLike 135 = .ok (.getfield 19, 3) := by decide +kernel
theorem dX8_isFaceLike_138 : decode cX8_isFaceLike 138 = .ok (.iconst 4, 1) := by decide +kernel
theorem dX8_isFaceLike_139 : decode cX8_isFaceLike 139 = .ok (.iload_n 2, 1) := by decide +kernel
theorem dX8_isFaceLike_140 : decode cX8_isFaceLike 140 = .ok (.imul, 1) := by decide +kernel
theorem dX8_isFaceLike_141 : decode cX8_isFaceLike 141 = .ok (.iaload, 1) := by decide +kernel
theorem dX8_isFaceLike_142 : decode cX8_isFaceLike 142 = .ok (.if_icmp .ne 7, 3) := by decide +kernel
theorem dX8_isFaceLike_145 : decode cX8_isFaceLike 145 = .ok (.iconst 1, 1) := by decide +kernel
theorem dX8_isFaceLike_146 : decode cX8_isFaceLike 146 = .ok (.goto 4, 3) := by decide +kernel
theorem dX8_isFaceLike_149 : decode cX8_isFaceLike 149 = .ok (.iconst 0, 1) := by decide +kernel
theorem dX8_isFaceLike_150 : decode cX8_isFaceLike 150 = .ok (.istore_n 3, 1) := by decide +kernel
theorem dX8_isFaceLike_151 : decode cX8_isFaceLike 151 = .ok (.iconst 0, 1) := by decide +kernel
theorem dX8_isFaceLike_152 : decode cX8_isFaceLike 152 = .ok (.istore 4, 2) := by decide +kernel
theorem dX8_isFaceLike_154 : decode cX8_isFaceLike 154 = .ok (.iload 4, 2) := by decide +kernel
theorem dX8_isFaceLike_156 : decode cX8_isFaceLike 156 = .ok (.aload_n 0, 1) := by decide +kernel
theorem dX8_isFaceLike_157 : decode cX8_isFaceLike 157 = .ok (.getfield 81, 3) := by decide +kernel
theorem dX8_isFaceLike_160 : decode cX8_isFaceLike 160 = .ok (.iload_n 1, 1) := by decide +kernel
theorem dX8_isFaceLike_161 : decode cX8_isFaceLike 161 = .ok (.iaload, 1) := by decide +kernel
theorem dX8_isFaceLike_162 : decode cX8_isFaceLike 162 = .ok (.if_icmp .ge 44, 3) := by decide +kernel
theorem dX8_isFaceLike_165 : decode cX8_isFaceLike 165 = .ok (.iload_n 3, 1) := by decide +kernel
theorem dX8_isFaceLike_166 : decode cX8_isFaceLike 166 = .ok (.ifCond .eq 40, 3) := by decide +kernel
theorem dX8_isFaceLike_169 : decode cX8_isFaceLike 169 = .ok (.aload_n 0, 1) := by decide +kernel
theorem dX8_isFaceLike_170 : decode cX8_isFaceLike 170 = .ok (.getfield 13, 3) := by decide +kernel
theorem dX8_isFaceLike_173 : decode cX8_isFaceLike 173 = .ok (.iconst 4, 1) := by decide +kernel
theorem dX8_isFaceLike_174 : decode cX8_isFaceLike 174 = .ok (.iload_n 1, 1) := by decide +kernel
theorem dX8_isFaceLike_175 : decode cX8_isFaceLike 175 = .ok (.imul, 1) := by decide +kernel
theorem dX8_isFaceLike_176 : decode cX8_isFaceLike 176 = .ok (.iload 4, 2) := by decide +kernel
theorem dX8_isFaceLike_178 : decode cX8_isFaceLike 178 = .ok (.iadd, 1) := by decide +kernel
theorem dX8_isFaceLike_179 : decode cX8_isFaceLike 179 = .ok (.iaload, 1) := by decide +kernel
theorem dX8_isFaceLike_180 : decode cX8_isFaceLike 180 = .ok (.aload_n 0, 1) := by decide +kernel
theorem dX8_isFaceLike_181 : decode cX8_isFaceLike 181 = .ok (.getfield 13, 3) := by decide +kernel
theorem dX8_isFaceLike_184 : decode cX8_isFaceLike 184 = .ok (.iconst 4, 1) := by decide +kernel
theorem dX8_isFaceLike_185 : decode cX8_isFaceLike 185 = .ok (.iload_n 2, 1) := by decide +kernel
theorem dX8_isFaceLike_186 : decode cX8_isFaceLike 186 = .ok (.imul, 1) := by decide +kernel
theorem dX8_isFaceLike_187 : decode cX8_isFaceLike 187 = .ok (.iload 4, 2) := by decide +kernel
theorem dX8_isFaceLike_189 : decode cX8_isFaceLike 189 = .ok (.iadd, 1) := by decide +kernel
theorem dX8_isFaceLike_190 : decode cX8_isFaceLike 190 = .ok (.iaload, 1) := by decide +kernel
theorem dX8_isFaceLike_191 : decode cX8_isFaceLike 191 = .ok (.if_icmp .ne 7, 3) := by decide +kernel
theorem dX8_isFaceLike_194 : decode cX8_isFaceLike 194 = .ok (.iconst 1, 1) := by decide +kernel
theorem dX8_isFaceLike_195 : decode cX8_isFaceLike 195 = .ok (.goto 4, 3) := by decide +kernel
theorem dX8_isFaceLike_198 : decode cX8_isFaceLike 198 = .ok (.iconst 0, 1) := by decide +kernel
theorem dX8_isFaceLike_199 : decode cX8_isFaceLike 199 = .ok (.istore_n 3, 1) := by decide +kernel
theorem dX8_isFaceLike_200 : decode cX8_isFaceLike 200 = .ok (.iinc 4 1, 3) := by decide +kernel
theorem dX8_isFaceLike_203 : decode cX8_isFaceLike 203 = .ok (.goto (-49), 3) := by decide +kernel
theorem dX8_isFaceLike_206 : decode cX8_isFaceLike 206 = .ok (.iload_n 3, 1) := by decide +kernel
theorem dX8_isFaceLike_207 : decode cX8_isFaceLike 207 = .ok (.ireturn, 1) := by decide +kernel
theorem dX8_findShown_0 : decode cX8_findShown 0 = .ok (.iconst 0, 1) := by decide +kernel
theorem dX8_findShown_1 : decode cX8_findShown 1 = .ok (.istore_n 1, 1) := by decide +kernel
theorem dX8_findShown_2 : decode cX8_findShown 2 = .ok (.iload_n 1, 1) := by decide +kernel
theorem dX8_findShown_3 : decode cX8_findShown 3 = .ok (.aload_n 0, 1) := by decide +kernel
theorem dX8_findShown_4 : decode cX8_findShown 4 = .ok (.getfield 124, 3) := by decide +kernel
theorem dX8_findShown_7 : decode cX8_findShown 7 = .ok (.if_icmp .ge 73, 3) := by decide +kernel
theorem dX8_findShown_10 : decode cX8_findShown 10 = .ok (.aload_n 0, 1) := by decide +kernel
theorem dX8_findShown_11 : decode cX8_findShown 11 = .ok (.getfield 81, 3) := by decide +kernel
theorem dX8_findShown_14 : decode cX8_findShown 14 = .ok (.iload_n 1, 1) := by decide +kernel
theorem dX8_findShown_15 : decode cX8_findShown 15 = .ok (.aload_n 0, 1) := by decide +kernel
theorem dX8_findShown_16 : decode cX8_findShown 16 = .ok (.iload_n 1, 1) := by decide +kernel
theorem dX8_findShown_17 : decode cX8_findShown 17 = .ok (.invokevirtual 180, 3) := by decide +kernel
theorem dX8_findShown_20 : decode cX8_findShown 20 = .ok (.ifCond .eq 11, 3) := by decide +kernel
theorem dX8_findShown_23 : decode cX8_findShown 23 = .ok (.aload_n 0, 1) := by decide +kernel
theorem dX8_findShown_24 : decode cX8_findShown 24 = .ok (.iload_n 1, 1) := by decide +kernel
theorem dX8_findShown_25 : decode cX8_findShown 25 = .ok (.invokevirtual 196, 3) := by decide +kernel
theorem dX8_findShown_28 : decode cX8_findShown 28 = .ok (.goto 4, 3) := by decide +kernel
theorem dX8_findShown_31 : decode cX8_findShown 31 = .ok (.iconst 0, 1) := by decide +kernel
theorem dX8_findShown_32 : decode cX8_findShown 32 = .ok (.iastore, 1) := by decide +kernel
theorem dX8_findShown_33 : decode cX8_findShown 33 = .ok (.aload_n 0, 1) := by decide +kernel
theorem dX8_findShown_34 : decode cX8_findShown 34 = .ok (.getfield 84, 3) := by decide +kernel
theorem dX8_findShown_37 : decode cX8_findShown 37 = .ok (.iload_n 1, 1) := by decide +kernel
theorem dX8_findShown_38 : decode cX8_findShown 38 = .ok (.aload_n 0, 1) := by decide +kernel
theorem dX8_findShown_39 : decode cX8_findShown 39 = .ok (.iload_n 1, 1) := by decide +kernel
theorem dX8_findShown_40 : decode cX8_findShown 40 = .ok (.invokevirtual 180, 3) := by decide +kernel
theorem dX8_findShown_43 : decode cX8_findShown 43 = .ok (.ifCond .eq 15, 3) := by decide +kernel
theorem dX8_findShown_46 : decode cX8_findShown 46 = .ok (.aload_n 0, 1) := by decide +kernel
theorem dX8_findShown_47 : decode cX8_findShown 47 = .ok (.iload_n 1, 1) := by decide +kernel
theorem dX8_findShown_48 : decode cX8_findShown 48 = .ok (.invokevirtual 199, 3) := by decide +kernel
theorem dX8_findShown_51 : decode cX8_findShown 51 = .ok (.ifCond .eq 7, 3) := by decide +kernel
theorem dX8_findShown_54 : decode cX8_findShown 54 = .ok (.iconst 1, 1) := by decide +kernel
theorem dX8_findShown_55 : decode cX8_findShown 55 = .ok (.goto 4, 3) := by decide +kernel
theorem dX8_findShown_58 : decode cX8_findShown 58 = .ok (.iconst 0, 1) := by decide +kernel
theorem dX8_findShown_59 : decode cX8_findShown 59 = .ok (.bastore, 1) := by decide +kernel
theorem dX8_findShown_60 : decode cX8_findShown 60 = .ok (.aload_n 0, 1) := by decide +kernel
theorem dX8_findShown_61 : decode cX8_findShown 61 = .ok (.getfield 87, 3) := by decide +kernel
theorem dX8_findShown_64 : decode cX8_findShown 64 = .ok (.iload_n 1, 1) := by decide +kernel
theorem dX8_findShown_65 : decode cX8_findShown 65 = .ok (.iconst 0, 1) := by decide +kernel
theorem dX8_findShown_66 : decode cX8_findShown 66 = .ok (.iastore, 1) := by decide +kernel
theorem dX8_findShown_67 : decode cX8_findShown 67 = .ok (.aload_n 0, 1) := by decide +kernel
theorem dX8_findShown_68 : decode cX8_findShown 68 = .ok (.getfield 90, 3) := by decide +kernel
theorem dX8_findShown_71 : decode cX8_findShown 71 = .ok (.iload_n 1, 1) := by decide +kernel
theorem dX8_findShown_72 : decode cX8_findShown 72 = .ok (.iconst 0, 1) := by decide +kernel
theorem dX8_findShown_73 : decode cX8_findShown 73 = .ok (.bastore, 1) := by decide +kernel
theorem dX8_findShown_74 : decode cX8_findShown 74 = .ok (.iinc 1 1, 3) := by decide +kernel
theorem dX8_findShown_77 : decode cX8_findShown 77 = .ok (.goto (-75), 3) := by decide +kernel
theorem dX8_findShown_80 : decode cX8_findShown 80 = .ok (.iconst 0, 1) := by decide +kernel
theorem dX8_findShown_81 : decode cX8_findShown 81 = .ok (.istore_n 1, 1) := by decide +kernel
theorem dX8_findShown_82 : decode cX8_findShown 82 = .ok (.iload_n 1, 1) := by decide +kernel
theorem dX8_findShown_83 : decode cX8_findShown 83 = .ok (.aload_n 0, 1) := by decide +kernel
theorem dX8_findShown_84 : decode cX8_findShown 84 = .ok (.getfield 177, 3) := by decide +kernel
theorem dX8_findShown_87 : decode cX8_findShown 87 = .ok (.if_icmp .ge 156, 3) := by decide +kernel
theorem dX8_findShown_90 : decode cX8_findShown 90 = .ok (.iconst 0, 1) := by decide +kernel
theorem dX8_findShown_91 : decode cX8_findShown 91 = .ok (.istore_n 2, 1) := by decide +kernel
theorem dX8_findShown_92 : decode cX8_findShown 92 = .ok (.iconst 0, 1) := by decide +kernel
theorem dX8_findShown_93 : decode cX8_findShown 93 = .ok (.istore_n 3, 1) := by decide +kernel
theorem dX8_findShown_94 : decode cX8_findShown 94 = .ok (.iload_n 3, 1) := by decide +kernel
theorem dX8_findShown_95 : decode cX8_findShown 95 = .ok (.aload_n 0, 1) := by decide +kernel
theorem dX8_findShown_96 : decode cX8_findShown 96 = .ok (.getfield 177, 3) := by decide +kernel
theorem dX8_findShown_99 : decode cX8_findShown 99 = .ok (.if_icmp .ge 96, 3) := by decide +kernel
theorem dX8_findShown_102 : decode cX8_findShown 102 = .ok (.iload_n 1, 1) := by decide +kernel
theorem dX8_findShown_103 : decode cX8_findShown 103 = .ok (.iload_n 3, 1) := by decide +kernel
theorem dX8_findShown_104 : decode cX8_findShown 104 = .ok (.if_icmp .eq 26, 3) := by decide +kernel
theorem dX8_findShown_107 : decode cX8_findShown 107 = .ok (.aload_n 0, 1) := by decide +kernel
theorem dX8_findShown_108 : decode cX8_findShown 108 = .ok (.aload_n 0, 1) := by decide +kernel
theorem dX8_findShown_109 : decode cX8_findShown 109 = .ok (.getfield 75, 3) := by decide +kernel
theorem dX8_findShown_112 : decode cX8_findShown 112 = .ok (.iload_n 1, 1) := by decide +kernel
theorem dX8_findShown_113 : decode cX8_findShown 113 = .ok (.iaload, 1) := by decide +kernel
theorem dX8_findShown_114 : decode cX8_findShown 114 = .ok (.aload_n 0, 1) := by decide +kernel
theorem dX8_findShown_115 : decode cX8_findShown 115 = .ok (.getfield 75, 3) := by decide +kernel
theorem dX8_findShown_118 : decode cX8_findShown 118 = .ok (.iload_n 3, 1) := by decide +kernel
theorem dX8_findShown_119 : decode cX8_findShown 119 = .ok (.iaload, 1) := by decide +kernel
theorem dX8_findShown_120 : decode cX8_findShown 120 = .ok (.invokevirtual 202, 3) := by decide +kernel
theorem dX8_findShown_123 : decode cX8_findShown 123 = .ok (.ifCond .eq 7, 3) := by decide +kernel
theorem dX8_findShown_126 : decode cX8_findShown 126 = .ok (.iconst 1, 1) := by decide +kernel
theorem dX8_findShown_127 : decode cX8_findShown 127 = .ok (.goto 4, 3) := by decide +kernel
theorem dX8_findShown_130 : decode cX8_findShown 130 = .ok (.iconst 0, 1) := by decide +kernel
theorem dX8_findShown_131 : decode cX8_findShown 131 = .ok (.istore 4, 2) := by decide +kernel
theorem dX8_findShown_133 : decode cX8_findShown 133 = .ok (.aload_n 0, 1) := by decide +kernel
theorem dX8_findShown_134 : decode cX8_findShown 134 = .ok (.getfield 90, 3) := by decide +kernel
theorem dX8_findShown_137 : decode cX8_findShown 137 = .ok (.aload_n 0, 1) := by decide +kernel
theorem dX8_findShown_138 : decode cX8_findShown 138 = .ok (.getfield 75, 3) := by decide +kernel
theorem dX8_findShown_141 : decode cX8_findShown 141 = .ok (.iload_n 1, 1) := by decide +kernel
theorem dX8_findShown_142 : decode cX8_findShown 142 = .ok (.iaload, 1) := by decide +kernel
theorem dX8_findShown_143 : decode cX8_findShown 143 = .ok (.aload_n 0, 1) := by decide +kernel
theorem dX8_findShown_144 : decode cX8_findShown 144 = .ok (.getfield 90, 3) := by decide +kernel
theorem dX8_findShown_147 : decode cX8_findShown 147 = .ok (.aload_n 0, 1) := by decide +kernel
theorem dX8_findShown_148 : decode cX8_findShown 148 = .ok (.getfield 75, 3) := by decide +kernel
theorem dX8_findShown_151 : decode cX8_findShown 151 = .ok (.iload_n 1, 1) := by decide +kernel
theorem dX8_findShown_152 : decode cX8_findShown 152 = .ok (.iaload, 1) := by decide +kernel
theorem dX8_findShown_153 : decode cX8_findShown 153 = .ok (.baload, 1) := by decide +kernel
theorem dX8_findShown_154 : decode cX8_findShown 154 = .ok (.ifCond .ne 8, 3) := by decide +kernel
theorem dX8_findShown_157 : decode cX8_findShown 157 = .ok (.iload 4, 2) := by decide +kernel
theorem dX8_findShown_159 : decode cX8_findShown 159 = .ok (.ifCond .eq 7, 3) := by decide +kernel
theorem dX8_findShown_162 : decode cX8_findShown 162 = .ok (.iconst 1, 1) := by decide +kernel
theorem dX8_findShown_163 : decode cX8_findShown 163 = .ok (.goto 4, 3) := by decide +kernel
theorem dX8_findShown_166 : decode cX8_findShown 166 = .ok (.iconst 0, 1) := by decide +kernel
theorem dX8_findShown_167 : decode cX8_findShown 167 = .ok (.bastore, 1) := by decide +kernel
theorem dX8_findShown_168 : decode cX8_findShown 168 = .ok (.iload_n 2, 1) := by decide +kernel
theorem dX8_findShown_169 : decode cX8_findShown 169 = .ok (.iload 4, 2) := by decide +kernel
theorem dX8_findShown_171 : decode cX8_findShown 171 = .ok (.ifCond .eq 12, 3) := by decide +kernel
theorem dX8_findShown_174 : decode cX8_findShown 174 = .ok (.iload_n 3, 1) := by decide +kernel
theorem dX8_findShown_175 : decode cX8_findShown 175 = .ok (.iload_n 1, 1) := by decide +kernel
theorem dX8_findShown_176 : decode cX8_findShown 176 = .ok (.if_icmp .ge 7, 3) := by decide +kernel
theorem dX8_findShown_179 : decode cX8_findShown 179 = .ok (.iconst 1, 1) := by decide +kernel
theorem dX8_findShown_180 : decode cX8_findShown 180 = .ok (.goto 4, 3) := by decide +kernel
theorem dX8_findShown_183 : decode cX8_findShown 183 = .ok (.iconst 0, 1) := by decide +kernel
theorem dX8_findShown_184 : decode cX8_findShown 184 = .ok (.invokestatic 205, 3) := by decide +kernel
theorem dX8_findShown_187 : decode cX8_findShown 187 = .ok (.iadd, 1) := by decide +kernel
theorem dX8_findShown_188 : decode cX8_findShown 188 = .ok (.istore_n 2, 1) := by decide +kernel
theorem dX8_findShown_189 : decode cX8_findShown 189 = .ok (.iinc 3 1, 3) := by decide +kernel
theorem dX8_findShown_192 : decode cX8_findShown 192 = .ok (.goto (-98), 3) := by decide +kernel
theorem dX8_findShown_195 : decode cX8_findShown 195 = .ok (.aload_n 0, 1) := by decide +kernel
theorem dX8_findShown_196 : decode cX8_findShown 196 = .ok (.getfield 87, 3) := by decide +kernel
theorem dX8_findShown_199 : decode cX8_findShown 199 = .ok (.aload_n 0, 1) := by decide +kernel
theorem dX8_findShown_200 : decode cX8_findShown 200 = .ok (.getfield 75, 3) := by decide +kernel
theorem dX8_findShown_203 : decode cX8_findShown 203 = .ok (.iload_n 1, 1) := by decide +kernel
theorem dX8_findShown_204 : decode cX8_findShown 204 = .ok (.iaload, 1) := by decide +kernel
theorem dX8_findShown_205 : decode cX8_findShown 205 = .ok (.aload_n 0, 1) := by decide +kernel
theorem dX8_findShown_206 : decode cX8_findShown 206 = .ok (.getfield 90, 3) := by decide +kernel
theorem dX8_findShown_209 : decode cX8_findShown 209 = .ok (.aload_n 0, 1) := by decide +kernel
theorem dX8_findShown_210 : decode cX8_findShown 210 = .ok (.getfield 75, 3) := by decide +kernel
theorem dX8_findShown_213 : decode cX8_findShown 213 = .ok (.iload_n 1, 1) := by decide +kernel
theorem dX8_findShown_214 : decode cX8_findShown 214 = .ok (.iaload, 1) := by decide +kernel
theorem dX8_findShown_215 : decode cX8_findShown 215 = .ok (.baload, 1) := by decide +kernel
theorem dX8_findShown_216 : decode cX8_findShown 216 = .ok (.ifCond .eq 19, 3) := by decide +kernel
theorem dX8_findShown_219 : decode cX8_findShown 219 = .ok (.aload_n 0, 1) := by decide +kernel
theorem dX8_findShown_220 : decode cX8_findShown 220 = .ok (.bipush 7, 2) := by decide +kernel
theorem dX8_findShown_222 : decode cX8_findShown 222 = .ok (.invokevirtual 171, 3) := by decide +kernel
theorem dX8_findShown_225 : decode cX8_findShown 225 = .ok (.iconst 1, 1) := by decide +kernel
theorem dX8_findShown_226 : decode cX8_findShown 226 = .ok (.if_icmp .ne 9, 3) := by decide +kernel
theorem dX8_findShown_229 : decode cX8_findShown 229 = .ok (.iload_n 2, 1) := by decide +kernel
theorem dX8_findShown_230 : decode cX8_findShown 230 = .ok (.iconst 1, 1) := by decide +kernel
theorem dX8_findShown_231 : decode cX8_findShown 231 = .ok (.iadd, 1) := by decide +kernel
theorem dX8_findShown_232 : decode cX8_findShown 232 = .ok (.goto 4, 3) := by decide +kernel
theorem dX8_findShown_235 : decode cX8_findShown 235 = .ok (.iconst 0, 1) := by decide +kernel
theorem dX8_findShown_236 : decode cX8_findShown 236 = .ok (.iastore, 1) := by decide +kernel
theorem dX8_findShown_237 : decode cX8_findShown 237 = .ok (.iinc 1 1, 3) := by decide +kernel
theorem dX8_findShown_240 : decode cX8_findShown 240 = .ok (.goto (-158), 3) := by decide +kernel
theorem dX8_findShown_243 : decode cX8_findShown 243 = .ok (.return_, 1) := by decide +kernel
theorem dX8_findAll_0 : decode cX8_findAll 0 = .ok (.aload_n 0, 1) := by decide +kernel
theorem dX8_findAll_1 : decode cX8_findAll 1 = .ok (.iload_n 1, 1) := by decide +kernel
theorem dX8_findAll_2 : decode cX8_findAll 2 = .ok (.putfield 53, 3) := by decide +kernel
theorem dX8_findAll_5 : decode cX8_findAll 5 = .ok (.aload_n 0, 1) := by decide +kernel
theorem dX8_findAll_6 : decode cX8_findAll 6 = .ok (.invokevirtual 209, 3) := by decide +kernel
theorem dX8_findAll_9 : decode cX8_findAll 9 = .ok (.aload_n 0, 1) := by decide +kernel
theorem dX8_findAll_10 : decode cX8_findAll 10 = .ok (.invokevirtual 212, 3) := by decide +kernel
theorem dX8_findAll_13 : decode cX8_findAll 13 = .ok (.aload_n 0, 1) := by decide +kernel
theorem dX8_findAll_14 : decode cX8_findAll 14 = .ok (.invokevirtual 215, 3) := by decide +kernel
theorem dX8_findAll_17 : decode cX8_findAll 17 = .ok (.return_, 1) := by decide +kernel
theorem dX8_roomOf_0 : decode cX8_roomOf 0 = .ok (.aload_n 0, 1) := by decide +kernel
theorem dX8_roomOf_1 : decode cX8_roomOf 1 = .ok (.getfield 16, 3) := by decide +kernel
theorem dX8_roomOf_4 : decode cX8_roomOf 4 = .ok (.iconst 4, 1) := by decide +kernel
theorem dX8_roomOf_5 : decode cX8_roomOf 5 = .ok (.iload_n 1, 1) := by decide +kernel
theorem dX8_roomOf_6 : decode cX8_roomOf 6 = .ok (.imul, 1) := by decide +kernel
theorem dX8_roomOf_7 : decode cX8_roomOf 7 = .ok (.iaload, 1) := by decide +kernel
theorem dX8_roomOf_8 : decode cX8_roomOf 8 = .ok (.ifCond .le 7, 3) := by decide +kernel
theorem dX8_roomOf_11 : decode cX8_roomOf 11 = .ok (.iconst 1, 1) := by decide +kernel
theorem dX8_roomOf_12 : decode cX8_roomOf 12 = .ok (.goto 4, 3) := by decide +kernel
theorem dX8_roomOf_15 : decode cX8_roomOf 15 = .ok (.iconst 0, 1) := by decide +kernel
theorem dX8_roomOf_16 : decode cX8_roomOf 16 = .ok (.invokestatic 205, 3) := by decide +kernel
theorem dX8_roomOf_19 : decode cX8_roomOf 19 = .ok (.aload_n 0, 1) := by decide +kernel
theorem dX8_roomOf_20 : decode cX8_roomOf 20 = .ok (.getfield 19, 3) := by decide +kernel
theorem dX8_roomOf_23 : decode cX8_roomOf 23 = .ok (.iconst 4, 1) := by decide +kernel
theorem dX8_roomOf_24 : decode cX8_roomOf 24 = .ok (.iload_n 1, 1) := by decide +kernel
theorem dX8_roomOf_25 : decode cX8_roomOf 25 = .ok (.imul, 1) := by decide +kernel
theorem dX8_roomOf_26 : decode cX8_roomOf 26 = .ok (.iaload, 1) := by decide +kernel
theorem dX8_roomOf_27 : decode cX8_roomOf 27 = .ok (.ifCond .le 7, 3) := by decide +kernel
theorem dX8_roomOf_30 : decode cX8_roomOf 30 = .ok (.iconst 1, 1) := by decide +kernel
theorem dX8_roomOf_31 : decode cX8_roomOf 31 = .ok (.goto 4, 3) := by decide +kernel
theorem dX8_roomOf_34 : decode cX8_roomOf 34 = .ok (.iconst 0, 1) := by decide +kernel
theorem dX8_roomOf_35 : decode cX8_roomOf 35 = .ok (.invokestatic 205, 3) := by decide +kernel
theorem dX8_roomOf_38 : decode cX8_roomOf 38 = .ok (.iadd, 1) := by decide +kernel
theorem dX8_roomOf_39 : decode cX8_roomOf 39 = .ok (.istore_n 2, 1) := by decide +kernel
theorem dX8_roomOf_40 : decode cX8_roomOf 40 = .ok (.bipush 8, 2) := by decide +kernel
theorem dX8_roomOf_42 : decode cX8_roomOf 42 = .ok (.aload_n 0, 1) := by decide +kernel
theorem dX8_roomOf_43 : decode cX8_roomOf 43 = .ok (.getfield 81, 3) := by decide +kernel
theorem dX8_roomOf_46 : decode cX8_roomOf 46 = .ok (.iload_n 1, 1) := by decide +kernel
theorem dX8_roomOf_47 : decode cX8_roomOf 47 = .ok (.iaload, 1) := by decide +kernel
theorem dX8_roomOf_48 : decode cX8_roomOf 48 = .ok (.imul, 1) := by decide +kernel
theorem dX8_roomOf_49 : decode cX8_roomOf 49 = .ok (.aload_n 0, 1) := by decide +kernel
theorem dX8_roomOf_50 : decode cX8_roomOf 50 = .ok (.getfield 84, 3) := by decide +kernel
theorem dX8_roomOf_53 : decode cX8_roomOf 53 = .ok (.iload_n 1, 1) := by decide +kernel
theorem dX8_roomOf_54 : decode cX8_roomOf 54 = .ok (.baload, 1) := by decide +kernel
theorem dX8_roomOf_55 : decode cX8_roomOf 55 = .ok (.ifCond .eq 9, 3) := by decide +kernel
theorem dX8_roomOf_58 : decode cX8_roomOf 58 = .ok (.iconst 2, 1) := by decide +kernel
theorem dX8_roomOf_59 : decode cX8_roomOf 59 = .ok (.iload_n 2, 1) := by decide +kernel
theorem dX8_roomOf_60 : decode cX8_roomOf 60 = .ok (.imul, 1) := by decide +kernel
theorem dX8_roomOf_61 : decode cX8_roomOf 61 = .ok (.goto 4, 3) := by decide +kernel
theorem dX8_roomOf_64 : decode cX8_roomOf 64 = .ok (.iconst 0, 1) := by decide +kernel
theorem dX8_roomOf_65 : decode cX8_roomOf 65 = .ok (.iadd, 1) := by decide +kernel
theorem dX8_roomOf_66 : decode cX8_roomOf 66 = .ok (.iconst 5, 1) := by decide +kernel
theorem dX8_roomOf_67 : decode cX8_roomOf 67 = .ok (.aload_n 0, 1) := by decide +kernel
theorem dX8_roomOf_68 : decode cX8_roomOf 68 = .ok (.getfield 7, 3) := by decide +kernel
theorem dX8_roomOf_71 : decode cX8_roomOf 71 = .ok (.iload_n 1, 1) := by decide +kernel
theorem dX8_roomOf_72 : decode cX8_roomOf 72 = .ok (.iaload, 1) := by decide +kernel
theorem dX8_roomOf_73 : decode cX8_roomOf 73 = .ok (.aload_n 0, 1) := by decide +kernel
theorem dX8_roomOf_74 : decode cX8_roomOf 74 = .ok (.getfield 81, 3) := by decide +kernel
theorem dX8_roomOf_77 : decode cX8_roomOf 77 = .ok (.iload_n 1, 1) := by decide +kernel
theorem dX8_roomOf_78 : decode cX8_roomOf 78 = .ok (.iaload, 1) := by decide +kernel
theorem dX8_roomOf_79 : decode cX8_roomOf 79 = .ok (.if_icmp .le 7, 3) := by decide +kernel
theorem dX8_roomOf_82 : decode cX8_roomOf 82 = .ok (.iconst 1, 1) := by decide +kernel
theorem dX8_roomOf_83 : decode cX8_roomOf 83 = .ok (.goto 4, 3) := by decide +kernel
theorem dX8_roomOf_86 : decode cX8_roomOf 86 = .ok (.iconst 0, 1) := by decide +kernel
theorem dX8_roomOf_87 : decode cX8_roomOf 87 = .ok (.invokestatic 205, 3) := by decide +kernel
theorem dX8_roomOf_90 : decode cX8_roomOf 90 = .ok (.imul, 1) := by decide +kernel
theorem dX8_roomOf_91 : decode cX8_roomOf 91 = .ok (.iadd, 1) := by decide +kernel
theorem dX8_roomOf_92 : decode cX8_roomOf 92 = .ok (.iconst 4, 1) := by decide +kernel
theorem dX8_roomOf_93 : decode cX8_roomOf 93 = .ok (.iadd, 1) := by decide +kernel
theorem dX8_roomOf_94 : decode cX8_roomOf 94 = .ok (.aload_n 0, 1) := by decide +kernel
theorem dX8_roomOf_95 : decode cX8_roomOf 95 = .ok (.getfield 87, 3) := by decide +kernel
theorem dX8_roomOf_98 : decode cX8_roomOf 98 = .ok (.iload_n 1, 1) := by decide +kernel
theorem dX8_roomOf_99 : decode cX8_roomOf 99 = .ok (.iaload, 1) := by decide +kernel
theorem dX8_roomOf_100 : decode cX8_roomOf 100 = .ok (.ifCond .le 7, 3) := by decide +kernel
theorem dX8_roomOf_103 : decode cX8_roomOf 103 = .ok (.iconst 1, 1) := by decide +kernel
theorem dX8_roomOf_104 : decode cX8_roomOf 104 = .ok (.goto 4, 3) := by decide +kernel
theorem dX8_roomOf_107 : decode cX8_roomOf 107 = .ok (.iconst 0, 1) := by decide +kernel
theorem dX8_roomOf_108 : decode cX8_roomOf 108 = .ok (.invokestatic 205, 3) := by decide +kernel
theorem dX8_roomOf_111 : decode cX8_roomOf 111 = .ok (.iadd, 1) := by decide +kernel
theorem dX8_roomOf_112 : decode cX8_roomOf 112 = .ok (.ireturn, 1) := by decide +kernel
theorem dX8_roomAll_0 : decode cX8_roomAll 0 = .ok (.iconst 0, 1) := by decide +kernel
theorem dX8_roomAll_1 : decode cX8_roomAll 1 = .ok (.istore_n 1, 1) := by decide +kernel
theorem dX8_roomAll_2 : decode cX8_roomAll 2 = .ok (.iconst 0, 1) := by decide +kernel
theorem dX8_roomAll_3 : decode cX8_roomAll 3 = .ok (.istore_n 2, 1) := by decide +kernel
theorem dX8_roomAll_4 : decode cX8_roomAll 4 = .ok (.iload_n 2, 1) := by decide +kernel
theorem dX8_roomAll_5 : decode cX8_roomAll 5 = .ok (.aload_n 0, 1) := by decide +kernel
theorem dX8_roomAll_6 : decode cX8_roomAll 6 = .ok (.getfield 177, 3) := by decide +kernel
theorem dX8_roomAll_9 : decode cX8_roomAll 9 = .ok (.if_icmp .ge 22, 3) := by decide +kernel
theorem dX8_roomAll_12 : decode cX8_roomAll 12 = .ok (.iload_n 1, 1) := by decide +kernel
theorem dX8_roomAll_13 : decode cX8_roomAll 13 = .ok (.aload_n 0, 1) := by decide +kernel
theorem dX8_roomAll_14 : decode cX8_roomAll 14 = .ok (.aload_n 0, 1) := by decide +kernel
theorem dX8_roomAll_15 : decode cX8_roomAll 15 = .ok (.getfield 75, 3) := by decide +kernel
theorem dX8_roomAll_18 : decode cX8_roomAll 18 = .ok (.iload_n 2, 1) := by decide +kernel
theorem dX8_roomAll_19 : decode cX8_roomAll 19 = .ok (.iaload, 1) := by decide +kernel
theorem dX8_roomAll_20 : decode cX8_roomAll 20 = .ok (.invokevirtual 218, 3) := by decide +kernel
theorem dX8_roomAll_23 : decode cX8_roomAll 23 = .ok (.iadd, 1) := by decide +kernel
theorem dX8_roomAll_24 : decode cX8_roomAll 24 = .ok (.istore_n 1, 1) := by decide +kernel
theorem dX8_roomAll_25 : decode cX8_roomAll 25 = .ok (.iinc 2 1, 3) := by decide +kernel
theorem dX8_roomAll_28 : decode cX8_roomAll 28 = .ok (.goto (-24), 3) := by decide +kernel
theorem dX8_roomAll_31 : decode cX8_roomAll 31 = .ok (.iload_n 1, 1) := by decide +kernel
theorem dX8_roomAll_32 : decode cX8_roomAll 32 = .ok (.ireturn, 1) := by decide +kernel
theorem dX8_unclear_0 : decode cX8_unclear 0 = .ok (.iconst 0, 1) := by decide +kernel
theorem dX8_unclear_1 : decode cX8_unclear 1 = .ok (.istore_n 1, 1) := by decide +kernel
theorem dX8_unclear_2 : decode cX8_unclear 2 = .ok (.iconst 0, 1) := by decide +kernel
theorem dX8_unclear_3 : decode cX8_unclear 3 = .ok (.istore_n 2, 1) := by decide +kernel
theorem dX8_unclear_4 : decode cX8_unclear 4 = .ok (.iload_n 2, 1) := by decide +kernel
theorem dX8_unclear_5 : decode cX8_unclear 5 = .ok (.aload_n 0, 1) := by decide +kernel
theorem dX8_unclear_6 : decode cX8_unclear 6 = .ok (.getfield 177, 3) := by decide +kernel
theorem dX8_unclear_9 : decode cX8_unclear 9 = .ok (.if_icmp .ge 48, 3) := by decide +kernel
theorem dX8_unclear_12 : decode cX8_unclear 12 = .ok (.iload_n 1, 1) := by decide +kernel
theorem dX8_unclear_13 : decode cX8_unclear 13 = .ok (.aload_n 0, 1) := by decide +kernel
theorem dX8_unclear_14 : decode cX8_unclear 14 = .ok (.getfield 90, 3) := by decide +kernel
theorem dX8_unclear_17 : decode cX8_unclear 17 = .ok (.aload_n 0, 1) := by decide +kernel
theorem dX8_unclear_18 : decode cX8_unclear 18 = .ok (.getfield 75, 3) := by decide +kernel
theorem dX8_unclear_21 : decode cX8_unclear 21 = .ok (.iload_n 2, 1) := by decide +kernel
theorem dX8_unclear_22 : decode cX8_unclear 22 = .ok (.iaload, 1) := by decide +kernel
theorem dX8_unclear_23 : decode cX8_unclear 23 = .ok (.baload, 1) := by decide +kernel
theorem dX8_unclear_24 : decode cX8_unclear 24 = .ok (.ifCond .eq 21, 3) := by decide +kernel
theorem dX8_unclear_27 : decode cX8_unclear 27 = .ok (.aload_n 0, 1) := by decide +kernel
theorem dX8_unclear_28 : decode cX8_unclear 28 = .ok (.getfield 87, 3) := by decide +kernel
theorem dX8_unclear_31 : decode cX8_unclear 31 = .ok (.aload_n 0, 1) := by decide +kernel
theorem dX8_unclear_32 : decode cX8_unclear 32 = .ok (.getfield 75, 3) := by decide +kernel
theorem dX8_unclear_35 : decode cX8_unclear 35 = .ok (.iload_n 2, 1) := by decide +kernel
theorem dX8_unclear_36 : decode cX8_unclear 36 = .ok (.iaload, 1) := by decide +kernel
theorem dX8_unclear_37 : decode cX8_unclear 37 = .ok (.iaload, 1) := by decide +kernel
theorem dX8_unclear_38 : decode cX8_unclear 38 = .ok (.ifCond .ne 7, 3) := by decide +kernel
theorem dX8_unclear_41 : decode cX8_unclear 41 = .ok (.iconst 1, 1) := by decide +kernel
theorem dX8_unclear_42 : decode cX8_unclear 42 = .ok (.goto 4, 3) := by decide +kernel
theorem dX8_unclear_45 : decode cX8_unclear 45 = .ok (.iconst 0, 1) := by decide +kernel
theorem dX8_unclear_46 : decode cX8_unclear 46 = .ok (.invokestatic 205, 3) := by decide +kernel
theorem dX8_unclear_49 : decode cX8_unclear 49 = .ok (.iadd, 1) := by decide +kernel
theorem dX8_unclear_50 : decode cX8_unclear 50 = .ok (.istore_n 1, 1) := by decide +kernel
theorem dX8_unclear_51 : decode cX8_unclear 51 = .ok (.iinc 2 1, 3) := by decide +kernel
theorem dX8_unclear_54 : decode cX8_unclear 54 = .ok (.goto (-50), 3) := by decide +kernel
theorem dX8_unclear_57 : decode cX8_unclear 57 = .ok (.iload_n 1, 1) := by decide +kernel
theorem dX8_unclear_58 : decode cX8_unclear 58 = .ok (.ireturn, 1) := by decide +kernel
theorem dX8_about_0 : decode cX8_about 0 = .ok (.aload_n 0, 1) := by decide +kernel
theorem dX8_about_1 : decode cX8_about 1 = .ok (.iload_n 1, 1) := by decide +kernel
theorem dX8_about_2 : decode cX8_about 2 = .ok (.invokevirtual 147, 3) := by decide +kernel
theorem dX8_about_5 : decode cX8_about 5 = .ok (.ifCond .eq 7, 3) := by decide +kernel
theorem dX8_about_8 : decode cX8_about 8 = .ok (.sipush (-1001), 3) := by decide +kernel
theorem dX8_about_11 : decode cX8_about 11 = .ok (.ireturn, 1) := by decide +kernel
theorem dX8_about_12 : decode cX8_about 12 = .ok (.aload_n 0, 1) := by decide +kernel
theorem dX8_about_13 : decode cX8_about 13 = .ok (.iconst 4, 1) := by decide +kernel
theorem dX8_about_14 : decode cX8_about 14 = .ok (.invokevirtual 221, 3) := by decide +kernel
theorem dX8_about_17 : decode cX8_about 17 = .ok (.iload_n 2, 1) := by decide +kernel
theorem dX8_about_18 : decode cX8_about 18 = .ok (.i2l, 1) := by decide +kernel
theorem dX8_about_19 : decode cX8_about 19 = .ok (.ldc2_w 225, 3) := by decide +kernel
theorem dX8_about_22 : decode cX8_about 22 = .ok (.ldc2_w 227, 3) := by decide +kernel
theorem dX8_about_25 : decode cX8_about 25 = .ok (.invokestatic 127, 3) := by decide +kernel
theorem dX8_about_28 : decode cX8_about 28 = .ok (.ifCond .eq 13, 3) := by decide +kernel
theorem dX8_about_31 : decode cX8_about 31 = .ok (.aload_n 0, 1) := by decide +kernel
theorem dX8_about_32 : decode cX8_about 32 = .ok (.iload_n 1, 1) := by decide +kernel
theorem dX8_about_33 : decode cX8_about 33 = .ok (.invokevirtual 180, 3) := by decide +kernel
theorem dX8_about_36 : decode cX8_about 36 = .ok (.ifCond .ne 5, 3) := by decide +kernel
theorem dX8_about_39 : decode cX8_about 39 = .ok (.iconst (-1), 1) := by decide +kernel
theorem dX8_about_40 : decode cX8_about 40 = .ok (.ireturn, 1) := by decide +kernel
theorem dX8_about_41 : decode cX8_about 41 = .ok (.iload_n 2, 1) := by decide +kernel
theorem dX8_about_42 : decode cX8_about 42 = .ok (.tableswitch 138 0 10 #[58, 65, 72, 79, 85, 92, 101, 108, 118, 125, 132], 58) := by decide +kernel
theorem dX8_about_100 : decode cX8_about 100 = .ok (.aload_n 0, 1) := by decide +kernel
theorem dX8_about_101 : decode cX8_about 101 = .ok (.getfield 7, 3) := by decide +kernel
theorem dX8_about_104 : decode cX8_about 104 = .ok (.iload_n 1, 1) := by decide +kernel
theorem dX8_about_105 : decode cX8_about 105 = .ok (.iaload, 1) := by decide +kernel
theorem dX8_about_106 : decode cX8_about 106 = .ok (.ireturn, 1) := by decide +kernel
theorem dX8_about_107 : decode cX8_about 107 = .ok (.aload_n 0, 1) := by decide +kernel
theorem dX8_about_108 : decode cX8_about 108 = .ok (.getfield 22, 3) := by decide +kernel
theorem dX8_about_111 : decode cX8_about 111 = .ok (.iload_n 1, 1) := by decide +kernel
theorem dX8_about_112 : decode cX8_about 112 = .ok (.iaload, 1) := by decide +kernel
theorem dX8_about_113 : decode cX8_about 113 = .ok (.ireturn, 1) := by decide +kernel
theorem dX8_about_114 : decode cX8_about 114 = .ok (.aload_n 0, 1) := by decide +kernel
theorem dX8_about_115 : decode cX8_about 115 = .ok (.getfield 25, 3) := by decide +kernel
theorem dX8_about_118 : decode cX8_about 118 = .ok (.iload_n 1, 1) := by decide +kernel
theorem dX8_about_119 : decode cX8_about 119 = .ok (.iaload, 1) := by decide +kernel
theorem dX8_about_120 : decode cX8_about 120 = .ok (.ireturn, 1) := by decide +kernel
theorem dX8_about_121 : decode cX8_about 121 = .ok (.aload_n 0, 1) := by decide +kernel
theorem dX8_about_122 : decode cX8_about 122 = .ok (.iload_n 1, 1) := by decide +kernel
theorem dX8_about_123 : decode cX8_about 123 = .ok (.invokevirtual 153, 3) := by decide +kernel
theorem dX8_about_126 : decode cX8_about 126 = .ok (.ireturn, 1) := by decide +kernel
theorem dX8_about_127 : decode cX8_about 127 = .ok (.aload_n 0, 1) := by decide +kernel
theorem dX8_about_128 : decode cX8_about 128 = .ok (.getfield 72, 3) := by decide +kernel
theorem dX8_about_131 : decode cX8_about 131 = .ok (.iload_n 1, 1) := by decide +kernel
theorem dX8_about_132 : decode cX8_about 132 = .ok (.iaload, 1) := by decide +kernel
theorem dX8_about_133 : decode cX8_about 133 = .ok (.ireturn, 1) := by decide +kernel
theorem dX8_about_134 : decode cX8_about 134 = .ok (.aload_n 0, 1) := by decide +kernel
theorem dX8_about_135 : decode cX8_about 135 = .ok (.iload_n 1, 1) := by decide +kernel
theorem dX8_about_136 : decode cX8_about 136 = .ok (.invokevirtual 180, 3) := by decide +kernel
theorem dX8_about_139 : decode cX8_about 139 = .ok (.invokestatic 205, 3) := by decide +kernel
theorem dX8_about_142 : decode cX8_about 142 = .ok (.ireturn, 1) := by decide +kernel
theorem dX8_about_143 : decode cX8_about 143 = .ok (.aload_n 0, 1) := by decide +kernel
theorem dX8_about_144 : decode cX8_about 144 = .ok (.getfield 81, 3) := by decide +kernel
theorem dX8_about_147 : decode cX8_about 147 = .ok (.iload_n 1, 1) := by decide +kernel
theorem dX8_about_148 : decode cX8_about 148 = .ok (.iaload, 1) := by decide +kernel
theorem dX8_about_149 : decode cX8_about 149 = .ok (.ireturn, 1) := by decide +kernel
theorem dX8_about_150 : decode cX8_about 150 = .ok (.aload_n 0, 1) := by decide +kernel
theorem dX8_about_151 : decode cX8_about 151 = .ok (.getfield 84, 3) := by decide +kernel
theorem dX8_about_154 : decode cX8_about 154 = .ok (.iload_n 1, 1) := by decide +kernel
theorem dX8_about_155 : decode cX8_about 155 = .ok (.baload, 1) := by decide +kernel
theorem dX8_about_156 : decode cX8_about 156 = .ok (.invokestatic 205, 3) := by decide +kernel
theorem dX8_about_159 : decode cX8_about 159 = .ok (.ireturn, 1) := by decide +kernel
theorem dX8_about_160 : decode cX8_about 160 = .ok (.aload_n 0, 1) := by decide +kernel
theorem dX8_about_161 : decode cX8_about 161 = .ok (.getfield 87, 3) := by decide +kernel
theorem dX8_about_164 : decode cX8_about 164 = .ok (.iload_n 1, 1) := by decide +kernel
theorem dX8_about_165 : decode cX8_about 165 = .ok (.iaload, 1) := by decide +kernel
theorem dX8_about_166 : decode cX8_about 166 = .ok (.ireturn, 1) := by decide +kernel
theorem dX8_about_167 : decode cX8_about 167 = .ok (.aload_n 0, 1) := by decide +kernel
theorem dX8_about_168 : decode cX8_about 168 = .ok (.getfield 78, 3) := by decide +kernel
theorem dX8_about_171 : decode cX8_about 171 = .ok (.iload_n 1, 1) := by decide +kernel
theorem dX8_about_172 : decode cX8_about 172 = .ok (.iaload, 1) := by decide +kernel
theorem dX8_about_173 : decode cX8_about 173 = .ok (.ireturn, 1) := by decide +kernel
theorem dX8_about_174 : decode cX8_about 174 = .ok (.aload_n 0, 1) := by decide +kernel
theorem dX8_about_175 : decode cX8_about 175 = .ok (.iload_n 1, 1) := by decide +kernel
theorem dX8_about_176 : decode cX8_about 176 = .ok (.invokevirtual 218, 3) := by decide +kernel
theorem dX8_about_179 : decode cX8_about 179 = .ok (.ireturn, 1) := by decide +kernel
theorem dX8_about_180 : decode cX8_about 180 = .ok (.sipush (-1002), 3) := by decide +kernel
theorem dX8_about_183 : decode cX8_about 183 = .ok (.ireturn, 1) := by decide +kernel
theorem dX8_list_0 : decode cX8_list 0 = .ok (.aload_n 0, 1) := by decide +kernel
theorem dX8_list_1 : decode cX8_list 1 = .ok (.iconst 4, 1) := by decide +kernel
theorem dX8_list_2 : decode cX8_list 2 = .ok (.invokevirtual 221, 3) := by decide +kernel
theorem dX8_list_5 : decode cX8_list 5 = .ok (.iload_n 1, 1) := by decide +kernel
theorem dX8_list_6 : decode cX8_list 6 = .ok (.i2l, 1) := by decide +kernel
theorem dX8_list_7 : decode cX8_list 7 = .ok (.lconst 0, 1) := by decide +kernel
theorem dX8_list_8 : decode cX8_list 8 = .ok (.aload_n 0, 1) := by decide +kernel
theorem dX8_list_9 : decode cX8_list 9 = .ok (.getfield 177, 3) := by decide +kernel
theorem dX8_list_12 : decode cX8_list 12 = .ok (.iconst 1, 1) := by decide +kernel
theorem dX8_list_13 : decode cX8_list 13 = .ok (.isub, 1) := by decide +kernel
theorem dX8_list_14 : decode cX8_list 14 = .ok (.i2l, 1) := by decide +kernel
theorem dX8_list_15 : decode cX8_list 15 = .ok (.invokestatic 127, 3) := by decide +kernel
theorem dX8_list_18 : decode cX8_list 18 = .ok (.ifCond .eq 12, 3) := by decide +kernel
theorem dX8_list_21 : decode cX8_list 21 = .ok (.aload_n 0, 1) := by decide +kernel
theorem dX8_list_22 : decode cX8_list 22 = .ok (.getfield 75, 3) := by decide +kernel
theorem dX8_list_25 : decode cX8_list 25 = .ok (.iload_n 1, 1) := by decide +kernel
theorem dX8_list_26 : decode cX8_list 26 = .ok (.iaload, 1) := by decide +kernel
theorem dX8_list_27 : decode cX8_list 27 = .ok (.goto 4, 3) := by decide +kernel
theorem dX8_list_30 : decode cX8_list 30 = .ok (.iconst (-1), 1) := by decide +kernel
theorem dX8_list_31 : decode cX8_list 31 = .ok (.ireturn, 1) := by decide +kernel
theorem dX8_figures_0 : decode cX8_figures 0 = .ok (.iload_n 0, 1) := by decide +kernel
theorem dX8_figures_1 : decode cX8_figures 1 = .ok (.sipush 999, 3) := by decide +kernel
theorem dX8_figures_4 : decode cX8_figures 4 = .ok (.if_icmp .le 7, 3) := by decide +kernel
theorem dX8_figures_7 : decode cX8_figures 7 = .ok (.iconst 4, 1) := by decide +kernel
theorem dX8_figures_8 : decode cX8_figures 8 = .ok (.goto 24, 3) := by decide +kernel
theorem dX8_figures_11 : decode cX8_figures 11 = .ok (.iload_n 0, 1) := by decide +kernel
theorem dX8_figures_12 : decode cX8_figures 12 = .ok (.bipush 99, 2) := by decide +kernel
theorem dX8_figures_14 : decode cX8_figures 14 = .ok (.if_icmp .le 7, 3) := by decide +kernel
theorem dX8_figures_17 : decode cX8_figures 17 = .ok (.iconst 3, 1) := by decide +kernel
theorem dX8_figures_18 : decode cX8_figures 18 = .ok (.goto 14, 3) := by decide +kernel
theorem dX8_figures_21 : decode cX8_figures 21 = .ok (.iload_n 0, 1) := by decide +kernel
theorem dX8_figures_22 : decode cX8_figures 22 = .ok (.bipush 9, 2) := by decide +kernel
theorem dX8_figures_24 : decode cX8_figures 24 = .ok (.if_icmp .le 7, 3) := by decide +kernel
theorem dX8_figures_27 : decode cX8_figures 27 = .ok (.iconst 2, 1) := by decide +kernel
theorem dX8_figures_28 : decode cX8_figures 28 = .ok (.goto 4, 3) := by decide +kernel
theorem dX8_figures_31 : decode cX8_figures 31 = .ok (.iconst 1, 1) := by decide +kernel
theorem dX8_figures_32 : decode cX8_figures 32 = .ok (.ireturn, 1) := by decide +kernel
theorem dX8_toldFigures_0 : decode cX8_toldFigures 0 = .ok (.aload_n 0, 1) := by decide +kernel
theorem dX8_toldFigures_1 : decode cX8_toldFigures 1 = .ok (.getfield 31, 3) := by decide +kernel
theorem dX8_toldFigures_4 : decode cX8_toldFigures 4 = .ok (.iload_n 1, 1) := by decide +kernel
theorem dX8_toldFigures_5 : decode cX8_toldFigures 5 = .ok (.iaload, 1) := by decide +kernel
theorem dX8_toldFigures_6 : decode cX8_toldFigures 6 = .ok (.invokestatic 229, 3) := by decide +kernel
theorem dX8_toldFigures_9 : decode cX8_toldFigures 9 = .ok (.istore_n 2, 1) := by decide +kernel
theorem dX8_toldFigures_10 : decode cX8_toldFigures 10 = .ok (.aload_n 0, 1) := by decide +kernel
theorem dX8_toldFigures_11 : decode cX8_toldFigures 11 = .ok (.getfield 46, 3) := by decide +kernel
theorem dX8_toldFigures_14 : decode cX8_toldFigures 14 = .ok (.bipush 49, 2) := by decide +kernel
theorem dX8_toldFigures_16 : decode cX8_toldFigures 16 = .ok (.iaload, 1) := by decide +kernel
theorem dX8_toldFigures_17 : decode cX8_toldFigures 17 = .ok (.ifCond .eq 16, 3) := by decide +kernel
theorem dX8_toldFigures_20 : decode cX8_toldFigures 20 = .ok (.aload_n 0, 1) := by decide +kernel
theorem dX8_toldFigures_21 : decode cX8_toldFigures 21 = .ok (.getfield 28, 3) := by decide +kernel
theorem dX8_toldFigures_24 : decode cX8_toldFigures 24 = .ok (.iload_n 1, 1) := by decide +kernel
theorem dX8_toldFigures_25 : decode cX8_toldFigures 25 = .ok (.iaload, 1) := by decide +kernel
theorem dX8_toldFigures_26 : decode cX8_toldFigures 26 = .ok (.invokestatic 229, 3) := by decide +kernel
theorem dX8_toldFigures_29 : decode cX8_toldFigures 29 = .ok (.iload_n 2, 1) := by decide +kernel
theorem dX8_toldFigures_30 : decode cX8_toldFigures 30 = .ok (.if_icmp .eq 5, 3) := by decide +kernel
theorem dX8_toldFigures_33 : decode cX8_toldFigures 33 = .ok (.iload_n 2, 1) := by decide +kernel
theorem dX8_toldFigures_34 : decode cX8_toldFigures 34 = .ok (.ireturn, 1) := by decide +kernel
theorem dX8_toldFigures_35 : decode cX8_toldFigures 35 = .ok (.iload_n 2, 1) := by decide +kernel
theorem dX8_toldFigures_36 : decode cX8_toldFigures 36 = .ok (.iconst 4, 1) := by decide +kernel
theorem dX8_toldFigures_37 : decode cX8_toldFigures 37 = .ok (.if_icmp .ne 9, 3) := by decide +kernel
theorem dX8_toldFigures_40 : decode cX8_toldFigures 40 = .ok (.sipush 1000, 3) := by decide +kernel
theorem dX8_toldFigures_43 : decode cX8_toldFigures 43 = .ok (.goto 24, 3) := by decide +kernel
theorem dX8_toldFigures_46 : decode cX8_toldFigures 46 = .ok (.iload_n 2, 1) := by decide +kernel
theorem dX8_toldFigures_47 : decode cX8_toldFigures 47 = .ok (.iconst 3, 1) := by decide +kernel
theorem dX8_toldFigures_48 : decode cX8_toldFigures 48 = .ok (.if_icmp .ne 8, 3) := by decide +kernel
theorem dX8_toldFigures_51 : decode cX8_toldFigures 51 = .ok (.bipush 100, 2) := by decide +kernel
theorem dX8_toldFigures_53 : decode cX8_toldFigures 53 = .ok (.goto 14, 3) := by decide +kernel
theorem dX8_toldFigures_56 : decode cX8_toldFigures 56 = .ok (.iload_n 2, 1) := by decide +kernel
theorem dX8_toldFigures_57 : decode cX8_toldFigures 57 = .ok (.iconst 2, 1) := by decide +kernel
theorem dX8_toldFigures_58 : decode cX8_toldFigures 58 = .ok (.if_icmp .ne 8, 3) := by decide +kernel
theorem dX8_toldFigures_61 : decode cX8_toldFigures 61 = .ok (.bipush 10, 2) := by decide +kernel
theorem dX8_toldFigures_63 : decode cX8_toldFigures 63 = .ok (.goto 4, 3) := by decide +kernel
theorem dX8_toldFigures_66 : decode cX8_toldFigures 66 = .ok (.iconst 1, 1) := by decide +kernel
theorem dX8_toldFigures_67 : decode cX8_toldFigures 67 = .ok (.istore_n 3, 1) := by decide +kernel
theorem dX8_toldFigures_68 : decode cX8_toldFigures 68 = .ok (.iload_n 2, 1) := by decide +kernel
theorem dX8_toldFigures_69 : decode cX8_toldFigures 69 = .ok (.istore 4, 2) := by decide +kernel
theorem dX8_toldFigures_71 : decode cX8_toldFigures 71 = .ok (.iload 4, 2) := by decide +kernel
theorem dX8_toldFigures_73 : decode cX8_toldFigures 73 = .ok (.iconst 1, 1) := by decide +kernel
theorem dX8_toldFigures_74 : decode cX8_toldFigures 74 = .ok (.if_icmp .le 33, 3) := by decide +kernel
theorem dX8_toldFigures_77 : decode cX8_toldFigures 77 = .ok (.aload_n 0, 1) := by decide +kernel
theorem dX8_toldFigures_78 : decode cX8_toldFigures 78 = .ok (.getfield 28, 3) := by decide +kernel
theorem dX8_toldFigures_81 : decode cX8_toldFigures 81 = .ok (.iload_n 1, 1) := by decide +kernel
theorem dX8_toldFigures_82 : decode cX8_toldFigures 82 = .ok (.iaload, 1) := by decide +kernel
theorem dX8_toldFigures_83 : decode cX8_toldFigures 83 = .ok (.iload_n 3, 1) := by decide +kernel
theorem dX8_toldFigures_84 : decode cX8_toldFigures 84 = .ok (.idiv, 1) := by decide +kernel
theorem dX8_toldFigures_85 : decode cX8_toldFigures 85 = .ok (.aload_n 0, 1) := by decide +kernel
theorem dX8_toldFigures_86 : decode cX8_toldFigures 86 = .ok (.getfield 31, 3) := by decide +kernel
theorem dX8_toldFigures_89 : decode cX8_toldFigures 89 = .ok (.iload_n 1, 1) := by decide +kernel
theorem dX8_toldFigures_90 : decode cX8_toldFigures 90 = .ok (.iaload, 1) := by decide +kernel
theorem dX8_toldFigures_91 : decode cX8_toldFigures 91 = .ok (.iload_n 3, 1) := by decide +kernel
theorem dX8_toldFigures_92 : decode cX8_toldFigures 92 = .ok (.idiv, 1) := by decide +kernel
theorem dX8_toldFigures_93 : decode cX8_toldFigures 93 = .ok (.if_icmp .ne 14, 3) := by decide +kernel
theorem dX8_toldFigures_96 : decode cX8_toldFigures 96 = .ok (.iload_n 3, 1) := by decide +kernel
theorem dX8_toldFigures_97 : decode cX8_toldFigures 97 = .ok (.bipush 10, 2) := by decide +kernel
theorem dX8_toldFigures_99 : decode cX8_toldFigures 99 = .ok (.idiv, 1) := by decide +kernel
theorem dX8_toldFigures_100 : decode cX8_toldFigures 100 = .ok (.istore_n 3, 1) := by decide +kernel
theorem dX8_toldFigures_101 : decode cX8_toldFigures 101 = .ok (.iinc 4 (-1), 3) := by decide +kernel
theorem dX8_toldFigures_104 : decode cX8_toldFigures 104 = .ok (.goto (-33), 3) := by decide +kernel
theorem dX8_toldFigures_107 : decode cX8_toldFigures 107 = .ok (.iload 4, 2) := by decide +kernel
theorem dX8_toldFigures_109 : decode cX8_toldFigures 109 = .ok (.ireturn, 1) := by decide +kernel
theorem dX8_page_0 : decode cX8_page 0 = .ok (.aload_n 0, 1) := by decide +kernel
theorem dX8_page_1 : decode cX8_page 1 = .ok (.iload_n 1, 1) := by decide +kernel
theorem dX8_page_2 : decode cX8_page 2 = .ok (.invokevirtual 147, 3) := by decide +kernel
theorem dX8_page_5 : decode cX8_page 5 = .ok (.ifCond .eq 7, 3) := by decide +kernel
theorem dX8_page_8 : decode cX8_page 8 = .ok (.sipush (-1001), 3) := by decide +kernel
theorem dX8_page_11 : decode cX8_page 11 = .ok (.ireturn, 1) := by decide +kernel
theorem dX8_page_12 : decode cX8_page 12 = .ok (.iload_n 2, 1) := by decide +kernel
theorem dX8_page_13 : decode cX8_page 13 = .ok (.i2l, 1) := by decide +kernel
theorem dX8_page_14 : decode cX8_page 14 = .ok (.lconst 0, 1) := by decide +kernel
theorem dX8_page_15 : decode cX8_page 15 = .ok (.ldc2_w 156, 3) := by decide +kernel
theorem dX8_page_18 : decode cX8_page 18 = .ok (.invokestatic 127, 3) := by decide +kernel
theorem dX8_page_21 : decode cX8_page 21 = .ok (.ifCond .ne 7, 3) := by decide +kernel
theorem dX8_page_24 : decode cX8_page 24 = .ok (.sipush (-1002), 3) := by decide +kernel
theorem dX8_page_27 : decode cX8_page 27 = .ok (.ireturn, 1) := by decide +kernel
theorem dX8_page_28 : decode cX8_page 28 = .ok (.aload_n 0, 1) := by decide +kernel
theorem dX8_page_29 : decode cX8_page 29 = .ok (.getfield 28, 3) := by decide +kernel
theorem dX8_page_32 : decode cX8_page 32 = .ok (.iload_n 1, 1) := by decide +kernel
theorem dX8_page_33 : decode cX8_page 33 = .ok (.iaload, 1) := by decide +kernel
theorem dX8_page_34 : decode cX8_page 34 = .ok (.ifCond .ge 5, 3) := by decide +kernel
theorem dX8_page_37 : decode cX8_page 37 = .ok (.iconst (-1), 1) := by decide +kernel
theorem dX8_page_38 : decode cX8_page 38 = .ok (.ireturn, 1) := by decide +kernel
theorem dX8_page_39 : decode cX8_page 39 = .ok (.aload_n 0, 1) := by decide +kernel
theorem dX8_page_40 : decode cX8_page 40 = .ok (.iload_n 1, 1) := by decide +kernel
theorem dX8_page_41 : decode cX8_page 41 = .ok (.invokevirtual 232, 3) := by decide +kernel
theorem dX8_page_44 : decode cX8_page 44 = .ok (.istore_n 3, 1) := by decide +kernel
theorem dX8_page_45 : decode cX8_page 45 = .ok (.iload_n 3, 1) := by decide +kernel
theorem dX8_page_46 : decode cX8_page 46 = .ok (.iconst 4, 1) := by decide +kernel
theorem dX8_page_47 : decode cX8_page 47 = .ok (.if_icmp .ne 9, 3) := by decide +kernel
theorem dX8_page_50 : decode cX8_page 50 = .ok (.sipush 10000, 3) := by decide +kernel
theorem dX8_page_53 : decode cX8_page 53 = .ok (.goto 26, 3) := by decide +kernel
theorem dX8_page_56 : decode cX8_page 56 = .ok (.iload_n 3, 1) := by decide +kernel
theorem dX8_page_57 : decode cX8_page 57 = .ok (.iconst 3, 1) := by decide +kernel
theorem dX8_page_58 : decode cX8_page 58 = .ok (.if_icmp .ne 9, 3) := by decide +kernel
theorem dX8_page_61 : decode cX8_page 61 = .ok (.sipush 1000, 3) := by decide +kernel
theorem dX8_page_64 : decode cX8_page 64 = .ok (.goto 15, 3) := by decide +kernel
theorem dX8_page_67 : decode cX8_page 67 = .ok (.iload_n 3, 1) := by decide +kernel
theorem dX8_page_68 : decode cX8_page 68 = .ok (.iconst 2, 1) := by decide +kernel
theorem dX8_page_69 : decode cX8_page 69 = .ok (.if_icmp .ne 8, 3) := by decide +kernel
theorem dX8_page_72 : decode cX8_page 72 = .ok (.bipush 100, 2) := by decide +kernel
theorem dX8_page_74 : decode cX8_page 74 = .ok (.goto 5, 3) := by decide +kernel
theorem dX8_page_77 : decode cX8_page 77 = .ok (.bipush 10, 2) := by decide +kernel
theorem dX8_page_79 : decode cX8_page 79 = .ok (.istore 4, 2) := by decide +kernel
theorem dX8_page_81 : decode cX8_page 81 = .ok (.iload_n 2, 1) := by decide +kernel
theorem dX8_page_82 : decode cX8_page 82 = .ok (.ifCond .ne 12, 3) := by decide +kernel
theorem dX8_page_85 : decode cX8_page 85 = .ok (.aload_n 0, 1) := by decide +kernel
theorem dX8_page_86 : decode cX8_page 86 = .ok (.getfield 28, 3) := by decide +kernel
theorem dX8_page_89 : decode cX8_page 89 = .ok (.iload_n 1, 1) := by decide +kernel
theorem dX8_page_90 : decode cX8_page 90 = .ok (.iaload, 1) := by decide +kernel
theorem dX8_page_91 : decode cX8_page 91 = .ok (.goto 21, 3) := by decide +kernel
theorem dX8_page_94 : decode cX8_page 94 = .ok (.iload_n 2, 1) := by decide +kernel
theorem dX8_page_95 : decode cX8_page 95 = .ok (.iconst 1, 1) := by decide +kernel
theorem dX8_page_96 : decode cX8_page 96 = .ok (.if_icmp .ne 15, 3) := by decide +kernel
theorem dX8_page_99 : decode cX8_page 99 = .ok (.aload_n 0, 1) := by decide +kernel
theorem dX8_page_100 : decode cX8_page 100 = .ok (.getfield 31, 3) := by decide +kernel
theorem dX8_page_103 : decode cX8_page 103 = .ok (.iload_n 1, 1) := by decide +kernel
theorem dX8_page_104 : decode cX8_page 104 = .ok (.iaload, 1) := by decide +kernel
theorem dX8_page_105 : decode cX8_page 105 = .ok (.iload 4, 2) := by decide +kernel
theorem dX8_page_107 : decode cX8_page 107 = .ok (.irem, 1) := by decide +kernel
theorem dX8_page_108 : decode cX8_page 108 = .ok (.goto 4, 3) := by decide +kernel
theorem dX8_page_111 : decode cX8_page 111 = .ok (.iload_n 3, 1) := by decide +kernel
theorem dX8_page_112 : decode cX8_page 112 = .ok (.ireturn, 1) := by decide +kernel
theorem dX8_copyNote_0 : decode cX8_copyNote 0 = .ok (.aload_n 0, 1) := by decide +kernel
theorem dX8_copyNote_1 : decode cX8_copyNote 1 = .ok (.getfield 40, 3) := by decide +kernel
theorem dX8_copyNote_4 : decode cX8_copyNote 4 = .ok (.sipush 160, 3) := by decide +kernel
theorem dX8_copyNote_7 : decode cX8_copyNote 7 = .ok (.iload_n 2, 1) := by decide +kernel
theorem dX8_copyNote_8 : decode cX8_copyNote 8 = .ok (.iadd, 1) := by decide +kernel
theorem dX8_copyNote_9 : decode cX8_copyNote 9 = .ok (.aload_n 0, 1) := by decide +kernel
theorem dX8_copyNote_10 : decode cX8_copyNote 10 = .ok (.getfield 40, 3) := by decide +kernel
theorem dX8_copyNote_13 : decode cX8_copyNote 13 = .ok (.sipush 160, 3) := by decide +kernel
theorem dX8_copyNote_16 : decode cX8_copyNote 16 = .ok (.iload_n 1, 1) := by decide +kernel
theorem dX8_copyNote_17 : decode cX8_copyNote 17 = .ok (.iadd, 1) := by decide +kernel
theorem dX8_copyNote_18 : decode cX8_copyNote 18 = .ok (.iaload, 1) := by decide +kernel
theorem dX8_copyNote_19 : decode cX8_copyNote 19 = .ok (.iastore, 1) := by decide +kernel
theorem dX8_copyNote_20 : decode cX8_copyNote 20 = .ok (.iconst 0, 1) := by decide +kernel
theorem dX8_copyNote_21 : decode cX8_copyNote 21 = .ok (.istore_n 3, 1) := by decide +kernel
theorem dX8_copyNote_22 : decode cX8_copyNote 22 = .ok (.iload_n 3, 1) := by decide +kernel
theorem dX8_copyNote_23 : decode cX8_copyNote 23 = .ok (.iconst 5, 1) := by decide +kernel
theorem dX8_copyNote_24 : decode cX8_copyNote 24 = .ok (.if_icmp .ge 37, 3) := by decide +kernel
theorem dX8_copyNote_27 : decode cX8_copyNote 27 = .ok (.aload_n 0, 1) := by decide +kernel
theorem dX8_copyNote_28 : decode cX8_copyNote 28 = .ok (.getfield 43, 3) := by decide +kernel
theorem dX8_copyNote_31 : decode cX8_copyNote 31 = .ok (.iconst 5, 1) := by decide +kernel
theorem dX8_copyNote_32 : decode cX8_copyNote 32 = .ok (.sipush 160, 3) := by decide +kernel
theorem dX8_copyNote_35 : decode cX8_copyNote 35 = .ok (.iload_n 2, 1) := by decide +kernel
theorem dX8_copyNote_36 : decode cX8_copyNote 36 = .ok (.iadd, 1) := by decide +kernel
theorem dX8_copyNote_37 : decode cX8_copyNote 37 = .ok (.imul, 1) := by decide +kernel
theorem dX8_copyNote_38 : decode cX8_copyNote 38 = .ok (.iload_n 3, 1) := by decide +kernel
theorem dX8_copyNote_39 : decode cX8_copyNote 39 = .ok (.iadd, 1) := by decide +kernel
theorem dX8_copyNote_40 : decode cX8_copyNote 40 = .ok (.aload_n 0, 1) := by decide +kernel
theorem dX8_copyNote_41 : decode cX8_copyNote 41 = .ok (.getfield 43, 3) := by decide +kernel
theorem dX8_copyNote_44 : decode cX8_copyNote 44 = .ok (.iconst 5, 1) := by decide +kernel
theorem dX8_copyNote_45 : decode cX8_copyNote 45 = .ok (.sipush 160, 3) := by decide +kernel
theorem dX8_copyNote_48 : decode cX8_copyNote 48 = .ok (.iload_n 1, 1) := by decide +kernel
theorem dX8_copyNote_49 : decode cX8_copyNote 49 = .ok (.iadd, 1) := by decide +kernel
theorem dX8_copyNote_50 : decode cX8_copyNote 50 = .ok (.imul, 1) := by decide +kernel
theorem dX8_copyNote_51 : decode cX8_copyNote 51 = .ok (.iload_n 3, 1) := by decide +kernel
theorem dX8_copyNote_52 : decode cX8_copyNote 52 = .ok (.iadd, 1) := by decide +kernel
theorem dX8_copyNote_53 : decode cX8_copyNote 53 = .ok (.iaload, 1) := by decide +kernel
theorem dX8_copyNote_54 : decode cX8_copyNote 54 = .ok (.iastore, 1) := by decide +kernel
theorem dX8_copyNote_55 : decode cX8_copyNote 55 = .ok (.iinc 3 1, 3) := by decide +kernel
theorem dX8_copyNote_58 : decode cX8_copyNote 58 = .ok (.goto (-36), 3) := by decide +kernel
theorem dX8_copyNote_61 : decode cX8_copyNote 61 = .ok (.return_, 1) := by decide +kernel
theorem dX8_note_0 : decode cX8_note 0 = .ok (.iload_n 1, 1) := by decide +kernel
theorem dX8_note_1 : decode cX8_note 1 = .ok (.i2l, 1) := by decide +kernel
theorem dX8_note_2 : decode cX8_note 2 = .ok (.lconst 0, 1) := by decide +kernel
theorem dX8_note_3 : decode cX8_note 3 = .ok (.aload_n 0, 1) := by decide +kernel
theorem dX8_note_4 : decode cX8_note 4 = .ok (.getfield 37, 3) := by decide +kernel
theorem dX8_note_7 : decode cX8_note 7 = .ok (.iconst 4, 1) := by decide +kernel
theorem dX8_note_8 : decode cX8_note 8 = .ok (.iaload, 1) := by decide +kernel
theorem dX8_note_9 : decode cX8_note 9 = .ok (.i2l, 1) := by decide +kernel
theorem dX8_note_10 : decode cX8_note 10 = .ok (.invokestatic 127, 3) := by decide +kernel
theorem dX8_note_13 : decode cX8_note 13 = .ok (.ifCond .ne 7, 3) := by decide +kernel
theorem dX8_note_16 : decode cX8_note 16 = .ok (.sipush (-1002), 3) := by decide +kernel
theorem dX8_note_19 : decode cX8_note 19 = .ok (.ireturn, 1) := by decide +kernel
theorem dX8_note_20 : decode cX8_note 20 = .ok (.aload_n 0, 1) := by decide +kernel
theorem dX8_note_21 : decode cX8_note 21 = .ok (.getfield 37, 3) := by decide +kernel
theorem dX8_note_24 : decode cX8_note 24 = .ok (.iconst 4, 1) := by decide +kernel
theorem dX8_note_25 : decode cX8_note 25 = .ok (.iaload, 1) := by decide +kernel
theorem dX8_note_26 : decode cX8_note 26 = .ok (.bipush 40, 2) := by decide +kernel
theorem dX8_note_28 : decode cX8_note 28 = .ok (.if_icmp .ne 7, 3) := by decide +kernel
theorem dX8_note_31 : decode cX8_note 31 = .ok (.sipush (-1004), 3) := by decide +kernel
theorem dX8_note_34 : decode cX8_note 34 = .ok (.ireturn, 1) := by decide +kernel
theorem dX8_note_35 : decode cX8_note 35 = .ok (.aload_n 0, 1) := by decide +kernel
theorem dX8_note_36 : decode cX8_note 36 = .ok (.getfield 37, 3) := by decide +kernel
theorem dX8_note_39 : decode cX8_note 39 = .ok (.iconst 4, 1) := by decide +kernel
theorem dX8_note_40 : decode cX8_note 40 = .ok (.iaload, 1) := by decide +kernel
theorem dX8_note_41 : decode cX8_note 41 = .ok (.istore_n 2, 1) := by decide +kernel
theorem dX8_note_42 : decode cX8_note 42 = .ok (.iload_n 2, 1) := by decide +kernel
theorem dX8_note_43 : decode cX8_note 43 = .ok (.iload_n 1, 1) := by decide +kernel
theorem dX8_note_44 : decode cX8_note 44 = .ok (.if_icmp .le 17, 3) := by decide +kernel
theorem dX8_note_47 : decode cX8_note 47 = .ok (.aload_n 0, 1) := by decide +kernel
theorem dX8_note_48 : decode cX8_note 48 = .ok (.iload_n 2, 1) := by decide +kernel
theorem dX8_note_49 : decode cX8_note 49 = .ok (.iconst 1, 1) := by decide +kernel
theorem dX8_note_50 : decode cX8_note 50 = .ok (.isub, 1) := by decide +kernel
theorem dX8_note_51 : decode cX8_note 51 = .ok (.iload_n 2, 1) := by decide +kernel
theorem dX8_note_52 : decode cX8_note 52 = .ok (.invokevirtual 235, 3) := by decide +kernel
theorem dX8_note_55 : decode cX8_note 55 = .ok (.iinc 2 (-1), 3) := by decide +kernel
theorem dX8_note_58 : decode cX8_note 58 = .ok (.goto (-16), 3) := by decide +kernel
theorem dX8_note_61 : decode cX8_note 61 = .ok (.aload_n 0, 1) := by decide +kernel
theorem dX8_note_62 : decode cX8_note 62 = .ok (.getfield 40, 3) := by decide +kernel
theorem dX8_note_65 : decode cX8_note 65 = .ok (.sipush 160, 3) := by decide +kernel
theorem dX8_note_68 : decode cX8_note 68 = .ok (.iload_n 1, 1) := by decide +kernel
theorem dX8_note_69 : decode cX8_note 69 = .ok (.iadd, 1) := by decide +kernel
theorem dX8_note_70 : decode cX8_note 70 = .ok (.iconst 0, 1) := by decide +kernel
theorem dX8_note_71 : decode cX8_note 71 = .ok (.iastore, 1) := by decide +kernel
theorem dX8_note_72 : decode cX8_note 72 = .ok (.aload_n 0, 1) := by decide +kernel
theorem dX8_note_73 : decode cX8_note 73 = .ok (.getfield 37, 3) := by decide +kernel
theorem dX8_note_76 : decode cX8_note 76 = .ok (.iconst 4, 1) := by decide +kernel
theorem dX8_note_77 : decode cX8_note 77 = .ok (.dup2, 1) := by decide +kernel
theorem dX8_note_78 : decode cX8_note 78 = .ok (.iaload, 1) := by decide +kernel
theorem dX8_note_79 : decode cX8_note 79 = .ok (.iconst 1, 1) := by decide +kernel
theorem dX8_note_80 : decode cX8_note 80 = .ok (.iadd, 1) := by decide +kernel
theorem dX8_note_81 : decode cX8_note 81 = .ok (.iastore, 1) := by decide +kernel
theorem dX8_note_82 : decode cX8_note 82 = .ok (.iload_n 1, 1) := by decide +kernel
theorem dX8_note_83 : decode cX8_note 83 = .ok (.ireturn, 1) := by decide +kernel
theorem dX8_noNote_0 : decode cX8_noNote 0 = .ok (.iload_n 1, 1) := by decide +kernel
theorem dX8_noNote_1 : decode cX8_noNote 1 = .ok (.i2l, 1) := by decide +kernel
theorem dX8_noNote_2 : decode cX8_noNote 2 = .ok (.lconst 0, 1) := by decide +kernel
theorem dX8_noNote_3 : decode cX8_noNote 3 = .ok (.aload_n 0, 1) := by decide +kernel
theorem dX8_noNote_4 : decode cX8_noNote 4 = .ok (.getfield 37, 3) := by decide +kernel
theorem dX8_noNote_7 : decode cX8_noNote 7 = .ok (.iconst 4, 1) := by decide +kernel
theorem dX8_noNote_8 : decode cX8_noNote 8 = .ok (.iaload, 1) := by decide +kernel
theorem dX8_noNote_9 : decode cX8_noNote 9 = .ok (.iconst 1, 1) := by decide +kernel
theorem dX8_noNote_10 : decode cX8_noNote 10 = .ok (.isub, 1) := by decide +kernel
theorem dX8_noNote_11 : decode cX8_noNote 11 = .ok (.i2l, 1) := by decide +kernel
theorem dX8_noNote_12 : decode cX8_noNote 12 = .ok (.invokestatic 127, 3) := by decide +kernel
theorem dX8_noNote_15 : decode cX8_noNote 15 = .ok (.ifCond .ne 7, 3) := by decide +kernel
theorem dX8_noNote_18 : decode cX8_noNote 18 = .ok (.iconst 1, 1) := by decide +kernel
theorem dX8_noNote_19 : decode cX8_noNote 19 = .ok (.goto 4, 3) := by decide +kernel
theorem dX8_noNote_22 : decode cX8_noNote 22 = .ok (.iconst 0, 1) := by decide +kernel
theorem dX8_noNote_23 : decode cX8_noNote 23 = .ok (.ireturn, 1) := by decide +kernel
theorem dX8_cut_0 : decode cX8_cut 0 = .ok (.aload_n 0, 1) := by decide +kernel
theorem dX8_cut_1 : decode cX8_cut 1 = .ok (.iload_n 1, 1) := by decide +kernel
theorem dX8_cut_2 : decode cX8_cut 2 = .ok (.invokevirtual 239, 3) := by decide +kernel
theorem dX8_cut_5 : decode cX8_cut 5 = .ok (.ifCond .eq 7, 3) := by decide +kernel
theorem dX8_cut_8 : decode cX8_cut 8 = .ok (.sipush (-1001), 3) := by decide +kernel
theorem dX8_cut_11 : decode cX8_cut 11 = .ok (.ireturn, 1) := by decide +kernel
theorem dX8_cut_12 : decode cX8_cut 12 = .ok (.aload_n 0, 1) := by decide +kernel
theorem dX8_cut_13 : decode cX8_cut 13 = .ok (.getfield 40, 3) := by decide +kernel
theorem dX8_cut_16 : decode cX8_cut 16 = .ok (.sipush 160, 3) := by decide +kernel
theorem dX8_cut_19 : decode cX8_cut 19 = .ok (.iload_n 1, 1) := by decide +kernel
theorem dX8_cut_20 : decode cX8_cut 20 = .ok (.iadd, 1) := by decide +kernel
theorem dX8_cut_21 : decode cX8_cut 21 = .ok (.iaload, 1) := by decide +kernel
theorem dX8_cut_22 : decode cX8_cut 22 = .ok (.istore_n 2, 1) := by decide +kernel
theorem dX8_cut_23 : decode cX8_cut 23 = .ok (.iload_n 1, 1) := by decide +kernel
theorem dX8_cut_24 : decode cX8_cut 24 = .ok (.istore_n 3, 1) := by decide +kernel
theorem dX8_cut_25 : decode cX8_cut 25 = .ok (.iload_n 3, 1) := by decide +kernel
theorem dX8_cut_26 : decode cX8_cut 26 = .ok (.iconst 1, 1) := by decide +kernel
theorem dX8_cut_27 : decode cX8_cut 27 = .ok (.iadd, 1) := by decide +kernel
theorem dX8_cut_28 : decode cX8_cut 28 = .ok (.aload_n 0, 1) := by decide +kernel
theorem dX8_cut_29 : decode cX8_cut 29 = .ok (.getfield 37, 3) := by decide +kernel
theorem dX8_cut_32 : decode cX8_cut 32 = .ok (.iconst 4, 1) := by decide +kernel
theorem dX8_cut_33 : decode cX8_cut 33 = .ok (.iaload, 1) := by decide +kernel
theorem dX8_cut_34 : decode cX8_cut 34 = .ok (.if_icmp .ge 17, 3) := by decide +kernel
theorem dX8_cut_37 : decode cX8_cut 37 = .ok (.aload_n 0, 1) := by decide +kernel
theorem dX8_cut_38 : decode cX8_cut 38 = .ok (.iload_n 3, 1) := by decide +kernel
theorem dX8_cut_39 : decode cX8_cut 39 = .ok (.iconst 1, 1) := by decide +kernel
theorem dX8_cut_40 : decode cX8_cut 40 = .ok (.iadd, 1) := by decide +kernel
theorem dX8_cut_41 : decode cX8_cut 41 = .ok (.iload_n 3, 1) := by decide +kernel
theorem dX8_cut_42 : decode cX8_cut 42 = .ok (.invokevirtual 235, 3) := by decide +kernel
theorem dX8_cut_45 : decode cX8_cut 45 = .ok (.iinc 3 1, 3) := by decide +kernel
theorem dX8_cut_48 : decode cX8_cut 48 = .ok (.goto (-23), 3) := by decide +kernel
theorem dX8_cut_51 : decode cX8_cut 51 = .ok (.aload_n 0, 1) := by decide +kernel
theorem dX8_cut_52 : decode cX8_cut 52 = .ok (.getfield 37, 3) := by decide +kernel
theorem dX8_cut_55 : decode cX8_cut 55 = .ok (.iconst 4, 1) := by decide +kernel
theorem dX8_cut_56 : decode cX8_cut 56 = .ok (.dup2, 1) := by decide +kernel
theorem dX8_cut_57 : decode cX8_cut 57 = .ok (.iaload, 1) := by decide +kernel
theorem dX8_cut_58 : decode cX8_cut 58 = .ok (.iconst 1, 1) := by decide +kernel
theorem dX8_cut_59 : decode cX8_cut 59 = .ok (.isub, 1) := by decide +kernel
theorem dX8_cut_60 : decode cX8_cut 60 = .ok (.iastore, 1) := by decide +kernel
theorem dX8_cut_61 : decode cX8_cut 61 = .ok (.iload_n 2, 1) := by decide +kernel
theorem dX8_cut_62 : decode cX8_cut 62 = .ok (.ireturn, 1) := by decide +kernel
theorem dX8_move_0 : decode cX8_move 0 = .ok (.aload_n 0, 1) := by decide +kernel
theorem dX8_move_1 : decode cX8_move 1 = .ok (.iload_n 1, 1) := by decide +kernel
theorem dX8_move_2 : decode cX8_move 2 = .ok (.invokevirtual 239, 3) := by decide +kernel
theorem dX8_move_5 : decode cX8_move 5 = .ok (.ifCond .ne 11, 3) := by decide +kernel
theorem dX8_move_8 : decode cX8_move 8 = .ok (.aload_n 0, 1) := by decide +kernel
theorem dX8_move_9 : decode cX8_move 9 = .ok (.iload_n 2, 1) := by decide +kernel
theorem dX8_move_10 : decode cX8_move 10 = .ok (.invokevirtual 239, 3) := by decide +kernel
theorem dX8_move_13 : decode cX8_move 13 = .ok (.ifCond .eq 7, 3) := by decide +kernel
theorem dX8_move_16 : decode cX8_move 16 = .ok (.sipush (-1001), 3) := by decide +kernel
theorem dX8_move_19 : decode cX8_move 19 = .ok (.ireturn, 1) := by decide +kernel
theorem dX8_move_20 : decode cX8_move 20 = .ok (.aload_n 0, 1) := by decide +kernel
theorem dX8_move_21 : decode cX8_move 21 = .ok (.getfield 40, 3) := by decide +kernel
theorem dX8_move_24 : decode cX8_move 24 = .ok (.sipush 160, 3) := by decide +kernel
theorem dX8_move_27 : decode cX8_move 27 = .ok (.iload_n 1, 1) := by decide +kernel
theorem dX8_move_28 : decode cX8_move 28 = .ok (.iadd, 1) := by decide +kernel
theorem dX8_move_29 : decode cX8_move 29 = .ok (.iaload, 1) := by decide +kernel
theorem dX8_move_30 : decode cX8_move 30 = .ok (.istore_n 3, 1) := by decide +kernel
theorem dX8_move_31 : decode cX8_move 31 = .ok (.iconst 0, 1) := by decide +kernel
theorem dX8_move_32 : decode cX8_move 32 = .ok (.istore 4, 2) := by decide +kernel
theorem dX8_move_34 : decode cX8_move 34 = .ok (.iload 4, 2) := by decide +kernel
theorem dX8_move_36 : decode cX8_move 36 = .ok (.iconst 5, 1) := by decide +kernel
theorem dX8_move_37 : decode cX8_move 37 = .ok (.if_icmp .ge 31, 3) := by decide +kernel
theorem dX8_move_40 : decode cX8_move 40 = .ok (.aload_n 0, 1) := by decide +kernel
theorem dX8_move_41 : decode cX8_move 41 = .ok (.getfield 93, 3) := by decide +kernel
theorem dX8_move_44 : decode cX8_move 44 = .ok (.iload 4, 2) := by decide +kernel
theorem dX8_move_46 : decode cX8_move 46 = .ok (.aload_n 0, 1) := by decide +kernel
theorem dX8_move_47 : decode cX8_move 47 = .ok (.getfield 43, 3) := by decide +kernel
theorem dX8_move_50 : decode cX8_move 50 = .ok (.iconst 5, 1) := by decide +kernel
theorem dX8_move_51 : decode cX8_move 51 = .ok (.sipush 160, 3) := by decide +kernel
theorem dX8_move_54 : decode cX8_move 54 = .ok (.iload_n 1, 1) := by decide +kernel
theorem dX8_move_55 : decode cX8_move 55 = .ok (.iadd, 1) := by decide +kernel
theorem dX8_move_56 : decode cX8_move 56 = .ok (.imul, 1) := by decide +kernel
theorem dX8_move_57 : decode cX8_move 57 = .ok (.iload 4, 2) := by decide +kernel
theorem dX8_move_59 : decode cX8_move 59 = .ok (.iadd, 1) := by decide +kernel
theorem dX8_move_60 : decode cX8_move 60 = .ok (.iaload, 1) := by decide +kernel
theorem dX8_move_61 : decode cX8_move 61 = .ok (.iastore, 1) := by decide +kernel
theorem dX8_move_62 : decode cX8_move 62 = .ok (.iinc 4 1, 3) := by decide +kernel
theorem dX8_move_65 : decode cX8_move 65 = .ok (.goto (-31), 3) := by decide +kernel
theorem dX8_move_68 : decode cX8_move 68 = .ok (.iload_n 1, 1) := by decide +kernel
theorem dX8_move_69 : decode cX8_move 69 = .ok (.istore 4, 2) := by decide +kernel
theorem dX8_move_71 : decode cX8_move 71 = .ok (.iload 4, 2) := by decide +kernel
theorem dX8_move_73 : decode cX8_move 73 = .ok (.iload_n 2, 1) := by decide +kernel
theorem dX8_move_74 : decode cX8_move 74 = .ok (.if_icmp .ge 19, 3) := by decide +kernel
theorem dX8_move_77 : decode cX8_move 77 = .ok (.aload_n 0, 1) := by decide +kernel
theorem dX8_move_78 : decode cX8_move 78 = .ok (.iload 4, 2) := by decide +kernel
theorem dX8_move_80 : decode cX8_move 80 = .ok (.iconst 1, 1) := by decide +kernel
theorem dX8_move_81 : decode cX8_move 81 = .ok (.iadd, 1) := by decide +kernel
theorem dX8_move_82 : decode cX8_move 82 = .ok (.iload 4, 2) := by decide +kernel
theorem dX8_move_84 : decode cX8_move 84 = .ok (.invokevirtual 235, 3) := by decide +kernel
theorem dX8_move_87 : decode cX8_move 87 = .ok (.iinc 4 1, 3) := by decide +kernel
theorem dX8_move_90 : decode cX8_move 90 = .ok (.goto (-19), 3) := by decide +kernel
theorem dX8_move_93 : decode cX8_move 93 = .ok (.iload_n 1, 1) := by decide +kernel
theorem dX8_move_94 : decode cX8_move 94 = .ok (.istore 4, 2) := by decide +kernel
theorem dX8_move_96 : decode cX8_move 96 = .ok (.iload 4, 2) := by decide +kernel
theorem dX8_move_98 : decode cX8_move 98 = .ok (.iload_n 2, 1) := by decide +kernel
theorem dX8_move_99 : decode cX8_move 99 = .ok (.if_icmp .le 19, 3) := by decide +kernel
theorem dX8_move_102 : decode cX8_move 102 = .ok (.aload_n 0, 1) := by decide +kernel
theorem dX8_move_103 : decode cX8_move 103 = .ok (.iload 4, 2) := by decide +kernel
theorem dX8_move_105 : decode cX8_move 105 = .ok (.iconst 1, 1) := by decide +kernel
theorem dX8_move_106 : decode cX8_move 106 = .ok (.isub, 1) := by decide +kernel
theorem dX8_move_107 : decode cX8_move 107 = .ok (.iload 4, 2) := by decide +kernel
theorem dX8_move_109 : decode cX8_move 109 = .ok (.invokevirtual 235, 3) := by decide +kernel
theorem dX8_move_112 : decode cX8_move 112 = .ok (.iinc 4 (-1), 3) := by decide +kernel
theorem dX8_move_115 : decode cX8_move 115 = .ok (.goto (-19), 3) := by decide +kernel
theorem dX8_move_118 : decode cX8_move 118 = .ok (.aload_n 0, 1) := by decide +kernel
theorem dX8_move_119 : decode cX8_move 119 = .ok (.getfield 40, 3) := by decide +kernel
theorem dX8_move_122 : decode cX8_move 122 = .ok (.sipush 160, 3) := by decide +kernel
theorem dX8_move_125 : decode cX8_move 125 = .ok (.iload_n 2, 1) := by decide +kernel
theorem dX8_move_126 : decode cX8_move 126 = .ok (.iadd, 1) := by decide +kernel
theorem dX8_move_127 : decode cX8_move 127 = .ok (.iload_n 3, 1) := by decide +kernel
theorem dX8_move_128 : decode cX8_move 128 = .ok (.iastore, 1) := by decide +kernel
theorem dX8_move_129 : decode cX8_move 129 = .ok (.iconst 0, 1) := by decide +kernel
theorem dX8_move_130 : decode cX8_move 130 = .ok (.istore 4, 2) := by decide +kernel
theorem dX8_move_132 : decode cX8_move 132 = .ok (.iload 4, 2) := by decide +kernel
theorem dX8_move_134 : decode cX8_move 134 = .ok (.iconst 5, 1) := by decide +kernel
theorem dX8_move_135 : decode cX8_move 135 = .ok (.if_icmp .ge 31, 3) := by decide +kernel
theorem dX8_move_138 : decode cX8_move 138 = .ok (.aload_n 0, 1) := by decide +kernel
theorem dX8_move_139 : decode cX8_move 139 = .ok (.getfield 43, 3) := by decide +kernel
theorem dX8_move_142 : decode cX8_move 142 = .ok (.iconst 5, 1) := by decide +kernel
theorem dX8_move_143 : decode cX8_move 143 = .ok (.sipush 160, 3) := by decide +kernel
theorem dX8_move_146 : decode cX8_move 146 = .ok (.iload_n 2, 1) := by decide +kernel
theorem dX8_move_147 : decode cX8_move 147 = .ok (.iadd, 1) := by decide +kernel
theorem dX8_move_148 : decode cX8_move 148 = .ok (.imul, 1) := by decide +kernel
theorem dX8_move_149 : decode cX8_move 149 = .ok (.iload 4, 2) := by decide +kernel
theorem dX8_move_151 : decode cX8_move 151 = .ok (.iadd, 1) := by decide +kernel
theorem dX8_move_152 : decode cX8_move 152 = .ok (.aload_n 0, 1) := by decide +kernel
theorem dX8_move_153 : decode cX8_move 153 = .ok (.getfield 93, 3) := by decide +kernel
theorem dX8_move_156 : decode cX8_move 156 = .ok (.iload 4, 2) := by decide +kernel
theorem dX8_move_158 : decode cX8_move 158 = .ok (.iaload, 1) := by decide +kernel
theorem dX8_move_159 : decode cX8_move 159 = .ok (.iastore, 1) := by decide +kernel
theorem dX8_move_160 : decode cX8_move 160 = .ok (.iinc 4 1, 3) := by decide +kernel
theorem dX8_move_163 : decode cX8_move 163 = .ok (.goto (-31), 3) := by decide +kernel
theorem dX8_move_166 : decode cX8_move 166 = .ok (.iconst 1, 1) := by decide +kernel
theorem dX8_move_167 : decode cX8_move 167 = .ok (.ireturn, 1) := by decide +kernel
theorem dX8_call_0 : decode cX8_call 0 = .ok (.aload_n 0, 1) := by decide +kernel
theorem dX8_call_1 : decode cX8_call 1 = .ok (.iload_n 1, 1) := by decide +kernel
theorem dX8_call_2 : decode cX8_call 2 = .ok (.invokevirtual 239, 3) := by decide +kernel
theorem dX8_call_5 : decode cX8_call 5 = .ok (.ifCond .ne 11, 3) := by decide +kernel
theorem dX8_call_8 : decode cX8_call 8 = .ok (.aload_n 0, 1) := by decide +kernel
theorem dX8_call_9 : decode cX8_call 9 = .ok (.iload_n 2, 1) := by decide +kernel
theorem dX8_call_10 : decode cX8_call 10 = .ok (.invokevirtual 147, 3) := by decide +kernel
theorem dX8_call_13 : decode cX8_call 13 = .ok (.ifCond .eq 7, 3) := by decide +kernel
theorem dX8_call_16 : decode cX8_call 16 = .ok (.sipush (-1001), 3) := by decide +kernel
theorem dX8_call_19 : decode cX8_call 19 = .ok (.ireturn, 1) := by decide +kernel
theorem dX8_call_20 : decode cX8_call 20 = .ok (.iload_n 3, 1) := by decide +kernel
theorem dX8_call_21 : decode cX8_call 21 = .ok (.i2l, 1) := by decide +kernel
theorem dX8_call_22 : decode cX8_call 22 = .ok (.ldc2_w 242, 3) := by decide +kernel
theorem dX8_call_25 : decode cX8_call 25 = .ok (.ldc2_w 151, 3) := by decide +kernel
theorem dX8_call_28 : decode cX8_call 28 = .ok (.invokestatic 127, 3) := by decide +kernel
theorem dX8_call_31 : decode cX8_call 31 = .ok (.ifCond .ne 7, 3) := by decide +kernel
theorem dX8_call_34 : decode cX8_call 34 = .ok (.sipush (-1002), 3) := by decide +kernel
theorem dX8_call_37 : decode cX8_call 37 = .ok (.ireturn, 1) := by decide +kernel
theorem dX8_call_38 : decode cX8_call 38 = .ok (.sipush 160, 3) := by decide +kernel
theorem dX8_call_41 : decode cX8_call 41 = .ok (.iload_n 1, 1) := by decide +kernel
theorem dX8_call_42 : decode cX8_call 42 = .ok (.iadd, 1) := by decide +kernel
theorem dX8_call_43 : decode cX8_call 43 = .ok (.istore 4, 2) := by decide +kernel
theorem dX8_call_45 : decode cX8_call 45 = .ok (.aload_n 0, 1) := by decide +kernel
theorem dX8_call_46 : decode cX8_call 46 = .ok (.getfield 40, 3) := by decide +kernel
theorem dX8_call_49 : decode cX8_call 49 = .ok (.iload 4, 2) := by decide +kernel
theorem dX8_call_51 : decode cX8_call 51 = .ok (.iaload, 1) := by decide +kernel
theorem dX8_call_52 : decode cX8_call 52 = .ok (.iconst 5, 1) := by decide +kernel
theorem dX8_call_53 : decode cX8_call 53 = .ok (.if_icmp .eq 12, 3) := by decide +kernel
theorem dX8_call_56 : decode cX8_call 56 = .ok (.aload_n 0, 1) := by decide +kernel
theorem dX8_call_57 : decode cX8_call 57 = .ok (.getfield 161, 3) := by decide +kernel
theorem dX8_call_60 : decode cX8_call 60 = .ok (.bipush 100, 2) := by decide +kernel
theorem dX8_call_62 : decode cX8_call 62 = .ok (.if_icmp .ne 7, 3) := by decide +kernel
theorem dX8_call_65 : decode cX8_call 65 = .ok (.sipush (-1004), 3) := by decide +kernel
theorem dX8_call_68 : decode cX8_call 68 = .ok (.ireturn, 1) := by decide +kernel
theorem dX8_call_69 : decode cX8_call 69 = .ok (.aload_n 0, 1) := by decide +kernel
theorem dX8_call_70 : decode cX8_call 70 = .ok (.getfield 57, 3) := by decide +kernel
theorem dX8_call_73 : decode cX8_call 73 = .ok (.aload_n 0, 1) := by decide +kernel
theorem dX8_call_74 : decode cX8_call 74 = .ok (.getfield 161, 3) := by decide +kernel
theorem dX8_call_77 : decode cX8_call 77 = .ok (.iload_n 2, 1) := by decide +kernel
theorem dX8_call_78 : decode cX8_call 78 = .ok (.iastore, 1) := by decide +kernel
theorem dX8_call_79 : decode cX8_call 79 = .ok (.aload_n 0, 1) := by decide +kernel
theorem dX8_call_80 : decode cX8_call 80 = .ok (.getfield 60, 3) := by decide +kernel
theorem dX8_call_83 : decode cX8_call 83 = .ok (.aload_n 0, 1) := by decide +kernel
theorem dX8_call_84 : decode cX8_call 84 = .ok (.getfield 161, 3) := by decide +kernel
theorem dX8_call_87 : decode cX8_call 87 = .ok (.iload_n 3, 1) := by decide +kernel
theorem dX8_call_88 : decode cX8_call 88 = .ok (.iastore, 1) := by decide +kernel
theorem dX8_call_89 : decode cX8_call 89 = .ok (.aload_n 0, 1) := by decide +kernel
theorem dX8_call_90 : decode cX8_call 90 = .ok (.getfield 43, 3) := by decide +kernel
theorem dX8_call_93 : decode cX8_call 93 = .ok (.iconst 5, 1) := by decide +kernel
theorem dX8_call_94 : decode cX8_call 94 = .ok (.iload 4, 2) := by decide +kernel
theorem dX8_call_96 : decode cX8_call 96 = .ok (.imul, 1) := by decide +kernel
theorem dX8_call_97 : decode cX8_call 97 = .ok (.aload_n 0, 1) := by decide +kernel
theorem dX8_call_98 : decode cX8_call 98 = .ok (.getfield 40, 3) := by decide +kernel
theorem dX8_call_101 : decode cX8_call 101 = .ok (.iload 4, 2) := by decide +kernel
theorem dX8_call_103 : decode cX8_call 103 = .ok (.iaload, 1) := by decide +kernel
theorem dX8_call_104 : decode cX8_call 104 = .ok (.iadd, 1) := by decide +kernel
theorem dX8_call_105 : decode cX8_call 105 = .ok (.aload_n 0, 1) := by decide +kernel
theorem dX8_call_106 : decode cX8_call 106 = .ok (.getfield 161, 3) := by decide +kernel
theorem dX8_call_109 : decode cX8_call 109 = .ok (.iastore, 1) := by decide +kernel
theorem dX8_call_110 : decode cX8_call 110 = .ok (.aload_n 0, 1) := by decide +kernel
theorem dX8_call_111 : decode cX8_call 111 = .ok (.getfield 40, 3) := by decide +kernel
theorem dX8_call_114 : decode cX8_call 114 = .ok (.iload 4, 2) := by decide +kernel
theorem dX8_call_116 : decode cX8_call 116 = .ok (.dup2, 1) := by decide +kernel
theorem dX8_call_117 : decode cX8_call 117 = .ok (.iaload, 1) := by decide +kernel
theorem dX8_call_118 : decode cX8_call 118 = .ok (.iconst 1, 1) := by decide +kernel
theorem dX8_call_119 : decode cX8_call 119 = .ok (.iadd, 1) := by decide +kernel
theorem dX8_call_120 : decode cX8_call 120 = .ok (.iastore, 1) := by decide +kernel
theorem dX8_call_121 : decode cX8_call 121 = .ok (.aload_n 0, 1) := by decide +kernel
theorem dX8_call_122 : decode cX8_call 122 = .ok (.dup, 1) := by decide +kernel
theorem dX8_call_123 : decode cX8_call 123 = .ok (.getfield 161, 3) := by decide +kernel
theorem dX8_call_126 : decode cX8_call 126 = .ok (.iconst 1, 1) := by decide +kernel
theorem dX8_call_127 : decode cX8_call 127 = .ok (.iadd, 1) := by decide +kernel
theorem dX8_call_128 : decode cX8_call 128 = .ok (.putfield 161, 3) := by decide +kernel
theorem dX8_call_131 : decode cX8_call 131 = .ok (.aload_n 0, 1) := by decide +kernel
theorem dX8_call_132 : decode cX8_call 132 = .ok (.getfield 161, 3) := by decide +kernel
theorem dX8_call_135 : decode cX8_call 135 = .ok (.iconst 1, 1) := by decide +kernel
theorem dX8_call_136 : decode cX8_call 136 = .ok (.isub, 1) := by decide +kernel
theorem dX8_call_137 : decode cX8_call 137 = .ok (.ireturn, 1) := by decide +kernel
theorem dX8_standing_0 : decode cX8_standing 0 = .ok (.iconst 0, 1) := by decide +kernel
theorem dX8_standing_1 : decode cX8_standing 1 = .ok (.istore_n 2, 1) := by decide +kernel
theorem dX8_standing_2 : decode cX8_standing 2 = .ok (.iload_n 2, 1) := by decide +kernel
theorem dX8_standing_3 : decode cX8_standing 3 = .ok (.aload_n 0, 1) := by decide +kernel
theorem dX8_standing_4 : decode cX8_standing 4 = .ok (.getfield 37, 3) := by decide +kernel
theorem dX8_standing_7 : decode cX8_standing 7 = .ok (.iconst 4, 1) := by decide +kernel
theorem dX8_standing_8 : decode cX8_standing 8 = .ok (.iaload, 1) := by decide +kernel
theorem dX8_standing_9 : decode cX8_standing 9 = .ok (.if_icmp .ge 55, 3) := by decide +kernel
theorem dX8_standing_12 : decode cX8_standing 12 = .ok (.iconst 0, 1) := by decide +kernel
theorem dX8_standing_13 : decode cX8_standing 13 = .ok (.istore_n 3, 1) := by decide +kernel
theorem dX8_standing_14 : decode cX8_standing 14 = .ok (.iload_n 3, 1) := by decide +kernel
theorem dX8_standing_15 : decode cX8_standing 15 = .ok (.aload_n 0, 1) := by decide +kernel
theorem dX8_standing_16 : decode cX8_standing 16 = .ok (.getfield 40, 3) := by decide +kernel
theorem dX8_standing_19 : decode cX8_standing 19 = .ok (.sipush 160, 3) := by decide +kernel
theorem dX8_standing_22 : decode cX8_standing 22 = .ok (.iload_n 2, 1) := by decide +kernel
theorem dX8_standing_23 : decode cX8_standing 23 = .ok (.iadd, 1) := by decide +kernel
theorem dX8_standing_24 : decode cX8_standing 24 = .ok (.iaload, 1) := by decide +kernel
theorem dX8_standing_25 : decode cX8_standing 25 = .ok (.if_icmp .ge 33, 3) := by decide +kernel
theorem dX8_standing_28 : decode cX8_standing 28 = .ok (.aload_n 0, 1) := by decide +kernel
theorem dX8_standing_29 : decode cX8_standing 29 = .ok (.getfield 43, 3) := by decide +kernel
theorem dX8_standing_32 : decode cX8_standing 32 = .ok (.iconst 5, 1) := by decide +kernel
theorem dX8_standing_33 : decode cX8_standing 33 = .ok (.sipush 160, 3) := by decide +kernel
theorem dX8_standing_36 : decode cX8_standing 36 = .ok (.iload_n 2, 1) := by decide +kernel
theorem dX8_standing_37 : decode cX8_standing 37 = .ok (.iadd, 1) := by decide +kernel
theorem dX8_standing_38 : decode cX8_standing 38 = .ok (.imul, 1) := by decide +kernel
theorem dX8_standing_39 : decode cX8_standing 39 = .ok (.iload_n 3, 1) := by decide +kernel
theorem dX8_standing_40 : decode cX8_standing 40 = .ok (.iadd, 1) := by decide +kernel
theorem dX8_standing_41 : decode cX8_standing 41 = .ok (.iaload, 1) := by decide +kernel
theorem dX8_standing_42 : decode cX8_standing 42 = .ok (.iload_n 1, 1) := by decide +kernel
theorem dX8_standing_43 : decode cX8_standing 43 = .ok (.if_icmp .ne 9, 3) := by decide +kernel
theorem dX8_standing_46 : decode cX8_standing 46 = .ok (.iconst 5, 1) := by decide +kernel
theorem dX8_standing_47 : decode cX8_standing 47 = .ok (.iload_n 2, 1) := by decide +kernel
theorem dX8_standing_48 : decode cX8_standing 48 = .ok (.imul, 1) := by decide +kernel
theorem dX8_standing_49 : decode cX8_standing 49 = .ok (.iload_n 3, 1) := by decide +kernel
theorem dX8_standing_50 : decode cX8_standing 50 = .ok (.iadd, 1) := by decide +kernel
theorem dX8_standing_51 : decode cX8_standing 51 = .ok (.ireturn, 1) := by decide +kernel
theorem dX8_standing_52 : decode cX8_standing 52 = .ok (.iinc 3 1, 3) := by decide +kernel
theorem dX8_standing_55 : decode cX8_standing 55 = .ok (.goto (-41), 3) := by decide +kernel
theorem dX8_standing_58 : decode cX8_standing 58 = .ok (.iinc 2 1, 3) := by decide +kernel
theorem dX8_standing_61 : decode cX8_standing 61 = .ok (.goto (-59), 3) := by decide +kernel
theorem dX8_standing_64 : decode cX8_standing 64 = .ok (.iconst (-1), 1) := by decide +kernel
theorem dX8_standing_65 : decode cX8_standing 65 = .ok (.ireturn, 1) := by decide +kernel
theorem dX8_drop_0 : decode cX8_drop 0 = .ok (.iload_n 1, 1) := by decide +kernel
theorem dX8_drop_1 : decode cX8_drop 1 = .ok (.ifCond .ge 7, 3) := by decide +kernel
theorem dX8_drop_4 : decode cX8_drop 4 = .ok (.iconst (-1), 1) := by decide +kernel
theorem dX8_drop_5 : decode cX8_drop 5 = .ok (.goto 8, 3) := by decide +kernel
theorem dX8_drop_8 : decode cX8_drop 8 = .ok (.aload_n 0, 1) := by decide +kernel
theorem dX8_drop_9 : decode cX8_drop 9 = .ok (.iload_n 1, 1) := by decide +kernel
theorem dX8_drop_10 : decode cX8_drop 10 = .ok (.invokevirtual 244, 3) := by decide +kernel
theorem dX8_drop_13 : decode cX8_drop 13 = .ok (.istore_n 2, 1) := by decide +kernel
theorem dX8_drop_14 : decode cX8_drop 14 = .ok (.iload_n 2, 1) := by decide +kernel
theorem dX8_drop_15 : decode cX8_drop 15 = .ok (.ifCond .ge 7, 3) := by decide +kernel
theorem dX8_drop_18 : decode cX8_drop 18 = .ok (.sipush (-1001), 3) := by decide +kernel
theorem dX8_drop_21 : decode cX8_drop 21 = .ok (.ireturn, 1) := by decide +kernel
theorem dX8_drop_22 : decode cX8_drop 22 = .ok (.sipush 160, 3) := by decide +kernel
theorem dX8_drop_25 : decode cX8_drop 25 = .ok (.iload_n 2, 1) := by decide +kernel
theorem dX8_drop_26 : decode cX8_drop 26 = .ok (.iconst 5, 1) := by decide +kernel
theorem dX8_drop_27 : decode cX8_drop 27 = .ok (.idiv, 1) := by decide +kernel
theorem dX8_drop_28 : decode cX8_drop 28 = .ok (.iadd, 1) := by decide +kernel
theorem dX8_drop_29 : decode cX8_drop 29 = .ok (.istore_n 3, 1) := by decide +kernel
theorem dX8_drop_30 : decode cX8_drop 30 = .ok (.aload_n 0, 1) := by decide +kernel
theorem dX8_drop_31 : decode cX8_drop 31 = .ok (.getfield 40, 3) := by decide +kernel
theorem dX8_drop_34 : decode cX8_drop 34 = .ok (.iload_n 3, 1) := by decide +kernel
theorem dX8_drop_35 : decode cX8_drop 35 = .ok (.dup2, 1) := by decide +kernel
theorem dX8_drop_36 : decode cX8_drop 36 = .ok (.iaload, 1) := by decide +kernel
theorem dX8_drop_37 : decode cX8_drop 37 = .ok (.iconst 1, 1) := by decide +kernel
theorem dX8_drop_38 : decode cX8_drop 38 = .ok (.isub, 1) := by decide +kernel
theorem dX8_drop_39 : decode cX8_drop 39 = .ok (.iastore, 1) := by decide +kernel
theorem dX8_drop_40 : decode cX8_drop 40 = .ok (.iload_n 2, 1) := by decide +kernel
theorem dX8_drop_41 : decode cX8_drop 41 = .ok (.iconst 5, 1) := by decide +kernel
theorem dX8_drop_42 : decode cX8_drop 42 = .ok (.irem, 1) := by decide +kernel
theorem dX8_drop_43 : decode cX8_drop 43 = .ok (.istore 4, 2) := by decide +kernel
theorem dX8_drop_45 : decode cX8_drop 45 = .ok (.iload 4, 2) := by decide +kernel
theorem dX8_drop_47 : decode cX8_drop 47 = .ok (.aload_n 0, 1) := by decide +kernel
theorem dX8_drop_48 : decode cX8_drop 48 = .ok (.getfield 40, 3) := by decide +kernel
theorem dX8_drop_51 : decode cX8_drop 51 = .ok (.iload_n 3, 1) := by decide +kernel
theorem dX8_drop_52 : decode cX8_drop 52 = .ok (.iaload, 1) := by decide +kernel
theorem dX8_drop_53 : decode cX8_drop 53 = .ok (.if_icmp .ge 33, 3) := by decide +kernel
theorem dX8_drop_56 : decode cX8_drop 56 = .ok (.aload_n 0, 1) := by decide +kernel
theorem dX8_drop_57 : decode cX8_drop 57 = .ok (.getfield 43, 3) := by decide +kernel
theorem dX8_drop_60 : decode cX8_drop 60 = .ok (.iconst 5, 1) := by decide +kernel
theorem dX8_drop_61 : decode cX8_drop 61 = .ok (.iload_n 3, 1) := by decide +kernel
theorem dX8_drop_62 : decode cX8_drop 62 = .ok (.imul, 1) := by decide +kernel
theorem dX8_drop_63 : decode cX8_drop 63 = .ok (.iload 4, 2) := by decide +kernel
theorem dX8_drop_65 : decode cX8_drop 65 = .ok (.iadd, 1) := by decide +kernel
theorem dX8_drop_66 : decode cX8_drop 66 = .ok (.aload_n 0, 1) := by decide +kernel
theorem dX8_drop_67 : decode cX8_drop 67 = .ok (.getfield 43, 3) := by decide +kernel
theorem dX8_drop_70 : decode cX8_drop 70 = .ok (.iconst 5, 1) := by decide +kernel
theorem dX8_drop_71 : decode cX8_drop 71 = .ok (.iload_n 3, 1) := by decide +kernel
theorem dX8_drop_72 : decode cX8_drop 72 = .ok (.imul, 1) := by decide +kernel
theorem dX8_drop_73 : decode cX8_drop 73 = .ok (.iload 4, 2) := by decide +kernel
theorem dX8_drop_75 : decode cX8_drop 75 = .ok (.iadd, 1) := by decide +kernel
theorem dX8_drop_76 : decode cX8_drop 76 = .ok (.iconst 1, 1) := by decide +kernel
theorem dX8_drop_77 : decode cX8_drop 77 = .ok (.iadd, 1) := by decide +kernel
theorem dX8_drop_78 : decode cX8_drop 78 = .ok (.iaload, 1) := by decide +kernel
theorem dX8_drop_79 : decode cX8_drop 79 = .ok (.iastore, 1) := by decide +kernel
theorem dX8_drop_80 : decode cX8_drop 80 = .ok (.iinc 4 1, 3) := by decide +kernel
theorem dX8_drop_83 : decode cX8_drop 83 = .ok (.goto (-38), 3) := by decide +kernel
theorem dX8_drop_86 : decode cX8_drop 86 = .ok (.iconst 1, 1) := by decide +kernel
theorem dX8_drop_87 : decode cX8_drop 87 = .ok (.ireturn, 1) := by decide +kernel
theorem dX8_formOf_0 : decode cX8_formOf 0 = .ok (.aload_n 0, 1) := by decide +kernel
theorem dX8_formOf_1 : decode cX8_formOf 1 = .ok (.iconst 0, 1) := by decide +kernel
theorem dX8_formOf_2 : decode cX8_formOf 2 = .ok (.invokevirtual 171, 3) := by decide +kernel
theorem dX8_formOf_5 : decode cX8_formOf 5 = .ok (.ifCond .le 11, 3) := by decide +kernel
theorem dX8_formOf_8 : decode cX8_formOf 8 = .ok (.iconst 3, 1) := by decide +kernel
theorem dX8_formOf_9 : decode cX8_formOf 9 = .ok (.aload_n 0, 1) := by decide +kernel
theorem dX8_formOf_10 : decode cX8_formOf 10 = .ok (.iconst 0, 1) := by decide +kernel
theorem dX8_formOf_11 : decode cX8_formOf 11 = .ok (.invokevirtual 171, 3) := by decide +kernel
theorem dX8_formOf_14 : decode cX8_formOf 14 = .ok (.iadd, 1) := by decide +kernel
theorem dX8_formOf_15 : decode cX8_formOf 15 = .ok (.ireturn, 1) := by decide +kernel
theorem dX8_formOf_16 : decode cX8_formOf 16 = .ok (.aload_n 0, 1) := by decide +kernel
theorem dX8_formOf_17 : decode cX8_formOf 17 = .ok (.aload_n 0, 1) := by decide +kernel
theorem dX8_formOf_18 : decode cX8_formOf 18 = .ok (.getfield 57, 3) := by decide +kernel
theorem dX8_formOf_21 : decode cX8_formOf 21 = .ok (.aload_n 0, 1) := by decide +kernel
theorem dX8_formOf_22 : decode cX8_formOf 22 = .ok (.getfield 63, 3) := by decide +kernel
theorem dX8_formOf_25 : decode cX8_formOf 25 = .ok (.iload_n 1, 1) := by decide +kernel
theorem dX8_formOf_26 : decode cX8_formOf 26 = .ok (.iaload, 1) := by decide +kernel
theorem dX8_formOf_27 : decode cX8_formOf 27 = .ok (.iaload, 1) := by decide +kernel
theorem dX8_formOf_28 : decode cX8_formOf 28 = .ok (.invokevirtual 153, 3) := by decide +kernel
theorem dX8_formOf_31 : decode cX8_formOf 31 = .ok (.istore_n 2, 1) := by decide +kernel
theorem dX8_formOf_32 : decode cX8_formOf 32 = .ok (.iconst 0, 1) := by decide +kernel
theorem dX8_formOf_33 : decode cX8_formOf 33 = .ok (.istore_n 3, 1) := by decide +kernel
theorem dX8_formOf_34 : decode cX8_formOf 34 = .ok (.iconst 0, 1) := by decide +kernel
theorem dX8_formOf_35 : decode cX8_formOf 35 = .ok (.istore 4, 2) := by decide +kernel
theorem dX8_formOf_37 : decode cX8_formOf 37 = .ok (.iload 4, 2) := by decide +kernel
theorem dX8_formOf_39 : decode cX8_formOf 39 = .ok (.iload_n 1, 1) := by decide +kernel
theorem dX8_formOf_40 : decode cX8_formOf 40 = .ok (.if_icmp .ge 39, 3) := by decide +kernel
theorem dX8_formOf_43 : decode cX8_formOf 43 = .ok (.iload_n 3, 1) := by decide +kernel
theorem dX8_formOf_44 : decode cX8_formOf 44 = .ok (.ifCond .ne 23, 3) := by decide +kernel
theorem dX8_formOf_47 : decode cX8_formOf 47 = .ok (.aload_n 0, 1) := by decide +kernel
theorem dX8_formOf_48 : decode cX8_formOf 48 = .ok (.aload_n 0, 1) := by decide +kernel
theorem dX8_formOf_49 : decode cX8_formOf 49 = .ok (.getfield 57, 3) := by decide +kernel
theorem dX8_formOf_52 : decode cX8_formOf 52 = .ok (.aload_n 0, 1) := by decide +kernel
theorem dX8_formOf_53 : decode cX8_formOf 53 = .ok (.getfield 63, 3) := by decide +kernel
theorem dX8_formOf_56 : decode cX8_formOf 56 = .ok (.iload 4, 2) := by decide +kernel
theorem dX8_formOf_58 : decode cX8_formOf 58 = .ok (.iaload, 1) := by decide +kernel
theorem dX8_formOf_59 : decode cX8_formOf 59 = .ok (.iaload, 1) := by decide +kernel
theorem dX8_formOf_60 : decode cX8_formOf 60 = .ok (.invokevirtual 153, 3) := by decide +kernel
theorem dX8_formOf_63 : decode cX8_formOf 63 = .ok (.iload_n 2, 1) := by decide +kernel
theorem dX8_formOf_64 : decode cX8_formOf 64 = .ok (.if_icmp .ne 7, 3) := by decide +kernel
theorem dX8_formOf_67 : decode cX8_formOf 67 = .ok (.iconst 1, 1) := by decide +kernel
theorem dX8_formOf_68 : decode cX8_formOf 68 = .ok (.goto 4, 3) := by decide +kernel
theorem dX8_formOf_71 : decode cX8_formOf 71 = .ok (.iconst 0, 1) := by decide +kernel
theorem dX8_formOf_72 : decode cX8_formOf 72 = .ok (.istore_n 3, 1) := by decide +kernel
theorem dX8_formOf_73 : decode cX8_formOf 73 = .ok (.iinc 4 1, 3) := by decide +kernel
theorem dX8_formOf_76 : decode cX8_formOf 76 = .ok (.goto (-39), 3) := by decide +kernel
theorem dX8_formOf_79 : decode cX8_formOf 79 = .ok (.iload_n 3, 1) := by decide +kernel
theorem dX8_formOf_80 : decode cX8_formOf 80 = .ok (.ifCond .ne 5, 3) := by decide +kernel
theorem dX8_formOf_83 : decode cX8_formOf 83 = .ok (.iconst 0, 1) := by decide +kernel
theorem dX8_formOf_84 : decode cX8_formOf 84 = .ok (.ireturn, 1) := by decide +kernel
theorem dX8_formOf_85 : decode cX8_formOf 85 = .ok (.aload_n 0, 1) := by decide +kernel
theorem dX8_formOf_86 : decode cX8_formOf 86 = .ok (.getfield 66, 3) := by decide +kernel
theorem dX8_formOf_89 : decode cX8_formOf 89 = .ok (.iload_n 1, 1) := by decide +kernel
theorem dX8_formOf_90 : decode cX8_formOf 90 = .ok (.iaload, 1) := by decide +kernel
theorem dX8_formOf_91 : decode cX8_formOf 91 = .ok (.aload_n 0, 1) := by decide +kernel
theorem dX8_formOf_92 : decode cX8_formOf 92 = .ok (.getfield 66, 3) := by decide +kernel
theorem dX8_formOf_95 : decode cX8_formOf 95 = .ok (.iload_n 1, 1) := by decide +kernel
theorem dX8_formOf_96 : decode cX8_formOf 96 = .ok (.iconst 1, 1) := by decide +kernel
theorem dX8_formOf_97 : decode cX8_formOf 97 = .ok (.isub, 1) := by decide +kernel
theorem dX8_formOf_98 : decode cX8_formOf 98 = .ok (.iaload, 1) := by decide +kernel
theorem dX8_formOf_99 : decode cX8_formOf 99 = .ok (.isub, 1) := by decide +kernel
theorem dX8_formOf_100 : decode cX8_formOf 100 = .ok (.istore 4, 2) := by decide +kernel
theorem dX8_formOf_102 : decode cX8_formOf 102 = .ok (.iload 4, 2) := by decide +kernel
theorem dX8_formOf_104 : decode cX8_formOf 104 = .ok (.ifCond .eq 29, 3) := by decide +kernel
theorem dX8_formOf_107 : decode cX8_formOf 107 = .ok (.iload 4, 2) := by decide +kernel
theorem dX8_formOf_109 : decode cX8_formOf 109 = .ok (.aload_n 0, 1) := by decide +kernel
theorem dX8_formOf_110 : decode cX8_formOf 110 = .ok (.iconst 4, 1) := by decide +kernel
theorem dX8_formOf_111 : decode cX8_formOf 111 = .ok (.invokevirtual 171, 3) := by decide +kernel
theorem dX8_formOf_114 : decode cX8_formOf 114 = .ok (.if_icmp .gt 23, 3) := by decide +kernel
theorem dX8_formOf_117 : decode cX8_formOf 117 = .ok (.aload_n 0, 1) := by decide +kernel
theorem dX8_formOf_118 : decode cX8_formOf 118 = .ok (.aload_n 0, 1) := by decide +kernel
theorem dX8_formOf_119 : decode cX8_formOf 119 = .ok (.getfield 66, 3) := by decide +kernel
theorem dX8_formOf_122 : decode cX8_formOf 122 = .ok (.iload_n 1, 1) := by decide +kernel
theorem dX8_formOf_123 : decode cX8_formOf 123 = .ok (.iconst 1, 1) := by decide +kernel
theorem dX8_formOf_124 : decode cX8_formOf 124 = .ok (.isub, 1) := by decide +kernel
theorem dX8_formOf_125 : decode cX8_formOf 125 = .ok (.iaload, 1) := by decide +kernel
theorem dX8_formOf_126 : decode cX8_formOf 126 = .ok (.invokevirtual 164, 3) := by decide +kernel
theorem dX8_formOf_129 : decode cX8_formOf 129 = .ok (.iconst 1, 1) := by decide +kernel
theorem dX8_formOf_130 : decode cX8_formOf 130 = .ok (.if_icmp .ne 7, 3) := by decide +kernel
theorem dX8_formOf_133 : decode cX8_formOf 133 = .ok (.iconst 1, 1) := by decide +kernel
theorem dX8_formOf_134 : decode cX8_formOf 134 = .ok (.goto 4, 3) := by decide +kernel
theorem dX8_formOf_137 : decode cX8_formOf 137 = .ok (.iconst 0, 1) := by decide +kernel
theorem dX8_formOf_138 : decode cX8_formOf 138 = .ok (.istore 5, 2) := by decide +kernel
theorem dX8_formOf_140 : decode cX8_formOf 140 = .ok (.aload_n 0, 1) := by decide +kernel
theorem dX8_formOf_141 : decode cX8_formOf 141 = .ok (.aload_n 0, 1) := by decide +kernel
theorem dX8_formOf_142 : decode cX8_formOf 142 = .ok (.getfield 57, 3) := by decide +kernel
theorem dX8_formOf_145 : decode cX8_formOf 145 = .ok (.aload_n 0, 1) := by decide +kernel
theorem dX8_formOf_146 : decode cX8_formOf 146 = .ok (.getfield 63, 3) := by decide +kernel
theorem dX8_formOf_149 : decode cX8_formOf 149 = .ok (.iload_n 1, 1) := by decide +kernel
theorem dX8_formOf_150 : decode cX8_formOf 150 = .ok (.iconst 1, 1) := by decide +kernel
theorem dX8_formOf_151 : decode cX8_formOf 151 = .ok (.isub, 1) := by decide +kernel
theorem dX8_formOf_152 : decode cX8_formOf 152 = .ok (.iaload, 1) := by decide +kernel
theorem dX8_formOf_153 : decode cX8_formOf 153 = .ok (.iaload, 1) := by decide +kernel
theorem dX8_formOf_154 : decode cX8_formOf 154 = .ok (.invokevirtual 153, 3) := by decide +kernel
theorem dX8_formOf_157 : decode cX8_formOf 157 = .ok (.iload_n 2, 1) := by decide +kernel
theorem dX8_formOf_158 : decode cX8_formOf 158 = .ok (.if_icmp .ne 8, 3) := by decide +kernel
theorem dX8_formOf_161 : decode cX8_formOf 161 = .ok (.iload 5, 2) := by decide +kernel
theorem dX8_formOf_163 : decode cX8_formOf 163 = .ok (.ifCond .ne 5, 3) := by decide +kernel
theorem dX8_formOf_166 : decode cX8_formOf 166 = .ok (.iconst 1, 1) := by decide +kernel
theorem dX8_formOf_167 : decode cX8_formOf 167 = .ok (.ireturn, 1) := by decide +kernel
theorem dX8_formOf_168 : decode cX8_formOf 168 = .ok (.aload_n 0, 1) := by decide +kernel
theorem dX8_formOf_169 : decode cX8_formOf 169 = .ok (.getfield 60, 3) := by decide +kernel
theorem dX8_formOf_172 : decode cX8_formOf 172 = .ok (.aload_n 0, 1) := by decide +kernel
theorem dX8_formOf_173 : decode cX8_formOf 173 = .ok (.getfield 63, 3) := by decide +kernel
theorem dX8_formOf_176 : decode cX8_formOf 176 = .ok (.iload_n 1, 1) := by decide +kernel
theorem dX8_formOf_177 : decode cX8_formOf 177 = .ok (.iaload, 1) := by decide +kernel
theorem dX8_formOf_178 : decode cX8_formOf 178 = .ok (.iaload, 1) := by decide +kernel
theorem dX8_formOf_179 : decode cX8_formOf 179 = .ok (.aload_n 0, 1) := by decide +kernel
theorem dX8_formOf_180 : decode cX8_formOf 180 = .ok (.getfield 60, 3) := by decide +kernel
theorem dX8_formOf_183 : decode cX8_formOf 183 = .ok (.aload_n 0, 1) := by decide +kernel
theorem dX8_formOf_184 : decode cX8_formOf 184 = .ok (.getfield 63, 3) := by decide +kernel
theorem dX8_formOf_187 : decode cX8_formOf 187 = .ok (.iload_n 1, 1) := by decide +kernel
theorem dX8_formOf_188 : decode cX8_formOf 188 = .ok (.iconst 1, 1) := by decide +kernel
theorem dX8_formOf_189 : decode cX8_formOf 189 = .ok (.isub, 1) := by decide +kernel
theorem dX8_formOf_190 : decode cX8_formOf 190 = .ok (.iaload, 1) := by decide +kernel
theorem dX8_formOf_191 : decode cX8_formOf 191 = .ok (.iaload, 1) := by decide +kernel
theorem dX8_formOf_192 : decode cX8_formOf 192 = .ok (.if_icmp .ne 7, 3) := by decide +kernel
theorem dX8_formOf_195 : decode cX8_formOf 195 = .ok (.iconst 2, 1) := by decide +kernel
theorem dX8_formOf_196 : decode cX8_formOf 196 = .ok (.goto 4, 3) := by decide +kernel
theorem dX8_formOf_199 : decode cX8_formOf 199 = .ok (.iconst 3, 1) := by decide +kernel
theorem dX8_formOf_200 : decode cX8_formOf 200 = .ok (.ireturn, 1) := by decide +kernel
theorem dX8_told_0 : decode cX8_told 0 = .ok (.iload_n 1, 1) := by decide +kernel
theorem dX8_told_1 : decode cX8_told 1 = .ok (.ifCond .ge 7, 3) := by decide +kernel
theorem dX8_told_4 : decode cX8_told 4 = .ok (.iconst (-1), 1) := by decide +kernel
theorem dX8_told_5 : decode cX8_told 5 = .ok (.goto 8, 3) := by decide +kernel
theorem dX8_told_8 : decode cX8_told 8 = .ok (.aload_n 0, 1) := by decide +kernel
theorem dX8_told_9 : decode cX8_told 9 = .ok (.iload_n 1, 1) := by decide +kernel
theorem dX8_told_10 : decode cX8_told 10 = .ok (.invokevirtual 244, 3) := by decide +kernel
theorem dX8_told_13 : decode cX8_told 13 = .ok (.istore_n 3, 1) := by decide +kernel
theorem dX8_told_14 : decode cX8_told 14 = .ok (.iload_n 3, 1) := by decide +kernel
theorem dX8_told_15 : decode cX8_told 15 = .ok (.ifCond .ge 7, 3) := by decide +kernel
theorem dX8_told_18 : decode cX8_told 18 = .ok (.sipush (-1001), 3) := by decide +kernel
theorem dX8_told_21 : decode cX8_told 21 = .ok (.ireturn, 1) := by decide +kernel
theorem dX8_told_22 : decode cX8_told 22 = .ok (.aload_n 0, 1) := by decide +kernel
theorem dX8_told_23 : decode cX8_told 23 = .ok (.iconst 4, 1) := by decide +kernel
theorem dX8_told_24 : decode cX8_told 24 = .ok (.invokevirtual 221, 3) := by decide +kernel
theorem dX8_told_27 : decode cX8_told 27 = .ok (.iload_n 2, 1) := by decide +kernel
theorem dX8_told_28 : decode cX8_told 28 = .ok (.tableswitch 95 0 6 #[44, 48, 52, 59, 70, 77, 84], 44) := by decide +kernel
theorem dX8_told_72 : decode cX8_told 72 = .ok (.iload_n 3, 1) := by decide +kernel
theorem dX8_told_73 : decode cX8_told 73 = .ok (.iconst 5, 1) := by decide +kernel
theorem dX8_told_74 : decode cX8_told 74 = .ok (.idiv, 1) := by decide +kernel
theorem dX8_told_75 : decode cX8_told 75 = .ok (.ireturn, 1) := by decide +kernel
theorem dX8_told_76 : decode cX8_told 76 = .ok (.iload_n 3, 1) := by decide +kernel
theorem dX8_told_77 : decode cX8_told 77 = .ok (.iconst 5, 1) := by decide +kernel
theorem dX8_told_78 : decode cX8_told 78 = .ok (.irem, 1) := by decide +kernel
theorem dX8_told_79 : decode cX8_told 79 = .ok (.ireturn, 1) := by decide +kernel
theorem dX8_told_80 : decode cX8_told 80 = .ok (.aload_n 0, 1) := by decide +kernel
theorem dX8_told_81 : decode cX8_told 81 = .ok (.getfield 57, 3) := by decide +kernel
theorem dX8_told_84 : decode cX8_told 84 = .ok (.iload_n 1, 1) := by decide +kernel
theorem dX8_told_85 : decode cX8_told 85 = .ok (.iaload, 1) := by decide +kernel
theorem dX8_told_86 : decode cX8_told 86 = .ok (.ireturn, 1) := by decide +kernel
theorem dX8_told_87 : decode cX8_told 87 = .ok (.aload_n 0, 1) := by decide +kernel
theorem dX8_told_88 : decode cX8_told 88 = .ok (.aload_n 0, 1) := by decide +kernel
theorem dX8_told_89 : decode cX8_told 89 = .ok (.getfield 57, 3) := by decide +kernel
theorem dX8_told_92 : decode cX8_told 92 = .ok (.iload_n 1, 1) := by decide +kernel
theorem dX8_told_93 : decode cX8_told 93 = .ok (.iaload, 1) := by decide +kernel
theorem dX8_told_94 : decode cX8_told 94 = .ok (.invokevirtual 153, 3) := by decide +kernel
theorem dX8_told_97 : decode cX8_told 97 = .ok (.ireturn, 1) := by decide +kernel
theorem dX8_told_98 : decode cX8_told 98 = .ok (.aload_n 0, 1) := by decide +kernel
theorem dX8_told_99 : decode cX8_told 99 = .ok (.getfield 60, 3) := by decide +kernel
theorem dX8_told_102 : decode cX8_told 102 = .ok (.iload_n 1, 1) := by decide +kernel
theorem dX8_told_103 : decode cX8_told 103 = .ok (.iaload, 1) := by decide +kernel
theorem dX8_told_104 : decode cX8_told 104 = .ok (.ireturn, 1) := by decide +kernel
theorem dX8_told_105 : decode cX8_told 105 = .ok (.aload_n 0, 1) := by decide +kernel
theorem dX8_told_106 : decode cX8_told 106 = .ok (.getfield 69, 3) := by decide +kernel
theorem dX8_told_109 : decode cX8_told 109 = .ok (.iload_n 1, 1) := by decide +kernel
theorem dX8_told_110 : decode cX8_told 110 = .ok (.iaload, 1) := by decide +kernel
theorem dX8_told_111 : decode cX8_told 111 = .ok (.ireturn, 1) := by decide +kernel
theorem dX8_told_112 : decode cX8_told 112 = .ok (.aload_n 0, 1) := by decide +kernel
theorem dX8_told_113 : decode cX8_told 113 = .ok (.aload_n 0, 1) := by decide +kernel
theorem dX8_told_114 : decode cX8_told 114 = .ok (.getfield 69, 3) := by decide +kernel
theorem dX8_told_117 : decode cX8_told 117 = .ok (.iload_n 1, 1) := by decide +kernel
theorem dX8_told_118 : decode cX8_told 118 = .ok (.iaload, 1) := by decide +kernel
theorem dX8_told_119 : decode cX8_told 119 = .ok (.invokevirtual 247, 3) := by decide +kernel
theorem dX8_told_122 : decode cX8_told 122 = .ok (.ireturn, 1) := by decide +kernel
theorem dX8_told_123 : decode cX8_told 123 = .ok (.sipush (-1002), 3) := by decide +kernel
theorem dX8_told_126 : decode cX8_told 126 = .ok (.ireturn, 1) := by decide +kernel
theorem dX8_at_0 : decode cX8_at 0 = .ok (.aload_n 0, 1) := by decide +kernel
theorem dX8_at_1 : decode cX8_at 1 = .ok (.iload_n 1, 1) := by decide +kernel
theorem dX8_at_2 : decode cX8_at 2 = .ok (.invokevirtual 239, 3) := by decide +kernel
theorem dX8_at_5 : decode cX8_at 5 = .ok (.ifCond .eq 7, 3) := by decide +kernel
theorem dX8_at_8 : decode cX8_at 8 = .ok (.sipush (-1001), 3) := by decide +kernel
theorem dX8_at_11 : decode cX8_at 11 = .ok (.ireturn, 1) := by decide +kernel
theorem dX8_at_12 : decode cX8_at 12 = .ok (.aload_n 0, 1) := by decide +kernel
theorem dX8_at_13 : decode cX8_at 13 = .ok (.iconst 4, 1) := by decide +kernel
theorem dX8_at_14 : decode cX8_at 14 = .ok (.putfield 53, 3) := by decide +kernel
theorem dX8_at_17 : decode cX8_at 17 = .ok (.iload_n 2, 1) := by decide +kernel
theorem dX8_at_18 : decode cX8_at 18 = .ok (.i2l, 1) := by decide +kernel
theorem dX8_at_19 : decode cX8_at 19 = .ok (.lconst 0, 1) := by decide +kernel
theorem dX8_at_20 : decode cX8_at 20 = .ok (.aload_n 0, 1) := by decide +kernel
theorem dX8_at_21 : decode cX8_at 21 = .ok (.iload_n 1, 1) := by decide +kernel
theorem dX8_at_22 : decode cX8_at 22 = .ok (.invokevirtual 164, 3) := by decide +kernel
theorem dX8_at_25 : decode cX8_at 25 = .ok (.iconst 1, 1) := by decide +kernel
theorem dX8_at_26 : decode cX8_at 26 = .ok (.isub, 1) := by decide +kernel
theorem dX8_at_27 : decode cX8_at 27 = .ok (.i2l, 1) := by decide +kernel
theorem dX8_at_28 : decode cX8_at 28 = .ok (.invokestatic 127, 3) := by decide +kernel
theorem dX8_at_31 : decode cX8_at 31 = .ok (.ifCond .eq 12, 3) := by decide +kernel
theorem dX8_at_34 : decode cX8_at 34 = .ok (.aload_n 0, 1) := by decide +kernel
theorem dX8_at_35 : decode cX8_at 35 = .ok (.iload_n 1, 1) := by decide +kernel
theorem dX8_at_36 : decode cX8_at 36 = .ok (.iload_n 2, 1) := by decide +kernel
theorem dX8_at_37 : decode cX8_at 37 = .ok (.invokevirtual 167, 3) := by decide +kernel
theorem dX8_at_40 : decode cX8_at 40 = .ok (.goto 4, 3) := by decide +kernel
theorem dX8_at_43 : decode cX8_at 43 = .ok (.iconst (-1), 1) := by decide +kernel
theorem dX8_at_44 : decode cX8_at 44 = .ok (.ireturn, 1) := by decide +kernel
theorem dX8_findPieces_0 : decode cX8_findPieces 0 = .ok (.iconst 0, 1) := by decide +kernel
theorem dX8_findPieces_1 : decode cX8_findPieces 1 = .ok (.istore_n 2, 1) := by decide +kernel
theorem dX8_findPieces_2 : decode cX8_findPieces 2 = .ok (.iconst 0, 1) := by decide +kernel
theorem dX8_findPieces_3 : decode cX8_findPieces 3 = .ok (.istore_n 3, 1) := by decide +kernel
theorem dX8_findPieces_4 : decode cX8_findPieces 4 = .ok (.iload_n 3, 1) := by decide +kernel
theorem dX8_findPieces_5 : decode cX8_findPieces 5 = .ok (.aload_n 0, 1) := by decide +kernel
theorem dX8_findPieces_6 : decode cX8_findPieces 6 = .ok (.iload_n 1, 1) := by decide +kernel
theorem dX8_findPieces_7 : decode cX8_findPieces 7 = .ok (.invokevirtual 164, 3) := by decide +kernel
theorem dX8_findPieces_10 : decode cX8_findPieces 10 = .ok (.if_icmp .ge 34, 3) := by decide +kernel
theorem dX8_findPieces_13 : decode cX8_findPieces 13 = .ok (.iload_n 2, 1) := by decide +kernel
theorem dX8_findPieces_14 : decode cX8_findPieces 14 = .ok (.iconst 1, 1) := by decide +kernel
theorem dX8_findPieces_15 : decode cX8_findPieces 15 = .ok (.aload_n 0, 1) := by decide +kernel
theorem dX8_findPieces_16 : decode cX8_findPieces 16 = .ok (.getfield 78, 3) := by decide +kernel
theorem dX8_findPieces_19 : decode cX8_findPieces 19 = .ok (.aload_n 0, 1) := by decide +kernel
theorem dX8_findPieces_20 : decode cX8_findPieces 20 = .ok (.aload_n 0, 1) := by decide +kernel
theorem dX8_findPieces_21 : decode cX8_findPieces 21 = .ok (.getfield 57, 3) := by decide +kernel
theorem dX8_findPieces_24 : decode cX8_findPieces 24 = .ok (.aload_n 0, 1) := by decide +kernel
theorem dX8_findPieces_25 : decode cX8_findPieces 25 = .ok (.iload_n 1, 1) := by decide +kernel
theorem dX8_findPieces_26 : decode cX8_findPieces 26 = .ok (.iload_n 3, 1) := by decide +kernel
theorem dX8_findPieces_27 : decode cX8_findPieces 27 = .ok (.invokevirtual 167, 3) := by decide +kernel
theorem dX8_findPieces_30 : decode cX8_findPieces 30 = .ok (.iaload, 1) := by decide +kernel
theorem dX8_findPieces_31 : decode cX8_findPieces 31 = .ok (.invokevirtual 153, 3) := by decide +kernel
theorem dX8_findPieces_34 : decode cX8_findPieces 34 = .ok (.iaload, 1) := by decide +kernel
theorem dX8_findPieces_35 : decode cX8_findPieces 35 = .ok (.ishl, 1) := by decide +kernel
theorem dX8_findPieces_36 : decode cX8_findPieces 36 = .ok (.ior, 1) := by decide +kernel
theorem dX8_findPieces_37 : decode cX8_findPieces 37 = .ok (.istore_n 2, 1) := by decide +kernel
theorem dX8_findPieces_38 : decode cX8_findPieces 38 = .ok (.iinc 3 1, 3) := by decide +kernel
theorem dX8_findPieces_41 : decode cX8_findPieces 41 = .ok (.goto (-37), 3) := by decide +kernel
theorem dX8_findPieces_44 : decode cX8_findPieces 44 = .ok (.aload_n 0, 1) := by decide +kernel
theorem dX8_findPieces_45 : decode cX8_findPieces 45 = .ok (.iconst 0, 1) := by decide +kernel
theorem dX8_findPieces_46 : decode cX8_findPieces 46 = .ok (.putfield 250, 3) := by decide +kernel
theorem dX8_findPieces_49 : decode cX8_findPieces 49 = .ok (.aload_n 0, 1) := by decide +kernel
theorem dX8_findPieces_50 : decode cX8_findPieces 50 = .ok (.bipush 8, 2) := by decide +kernel
theorem dX8_findPieces_52 : decode cX8_findPieces 52 = .ok (.invokevirtual 171, 3) := by decide +kernel
theorem dX8_findPieces_55 : decode cX8_findPieces 55 = .ok (.istore_n 3, 1) := by decide +kernel
theorem dX8_findPieces_56 : decode cX8_findPieces 56 = .ok (.iconst 1, 1) := by decide +kernel
theorem dX8_findPieces_57 : decode cX8_findPieces 57 = .ok (.istore 4, 2) := by decide +kernel
theorem dX8_findPieces_59 : decode cX8_findPieces 59 = .ok (.iload 4, 2) := by decide +kernel
theorem dX8_findPieces_61 : decode cX8_findPieces 61 = .ok (.bipush 24, 2) := by decide +kernel
theorem dX8_findPieces_63 : decode cX8_findPieces 63 = .ok (.if_icmp .gt 120, 3) := by decide +kernel
theorem dX8_findPieces_66 : decode cX8_findPieces 66 = .ok (.iload 4, 2) := by decide +kernel
theorem dX8_findPieces_68 : decode cX8_findPieces 68 = .ok (.istore 5, 2) := by decide +kernel
theorem dX8_findPieces_70 : decode cX8_findPieces 70 = .ok (.iload 5, 2) := by decide +kernel
theorem dX8_findPieces_72 : decode cX8_findPieces 72 = .ok (.bipush 24, 2) := by decide +kernel
theorem dX8_findPieces_74 : decode cX8_findPieces 74 = .ok (.if_icmp .gt 19, 3) := by decide +kernel
theorem dX8_findPieces_77 : decode cX8_findPieces 77 = .ok (.iload_n 2, 1) := by decide +kernel
theorem dX8_findPieces_78 : decode cX8_findPieces 78 = .ok (.iload 5, 2) := by decide +kernel
theorem dX8_findPieces_80 : decode cX8_findPieces 80 = .ok (.ishr, 1) := by decide +kernel
theorem dX8_findPieces_81 : decode cX8_findPieces 81 = .ok (.iconst 1, 1) := by decide +kernel
theorem dX8_findPieces_82 : decode cX8_findPieces 82 = .ok (.iand, 1) := by decide +kernel
theorem dX8_findPieces_83 : decode cX8_findPieces 83 = .ok (.iconst 1, 1) := by decide +kernel
theorem dX8_findPieces_84 : decode cX8_findPieces 84 = .ok (.if_icmp .ne 9, 3) := by decide +kernel
theorem dX8_findPieces_87 : decode cX8_findPieces 87 = .ok (.iinc 5 1, 3) := by decide +kernel
theorem dX8_findPieces_90 : decode cX8_findPieces 90 = .ok (.goto (-20), 3) := by decide +kernel
theorem dX8_findPieces_93 : decode cX8_findPieces 93 = .ok (.iload_n 3, 1) := by decide +kernel
theorem dX8_findPieces_94 : decode cX8_findPieces 94 = .ok (.ifCond .le 16, 3) := by decide +kernel
theorem dX8_findPieces_97 : decode cX8_findPieces 97 = .ok (.iload 5, 2) := by decide +kernel
theorem dX8_findPieces_99 : decode cX8_findPieces 99 = .ok (.iload 4, 2) := by decide +kernel
theorem dX8_findPieces_101 : decode cX8_findPieces 101 = .ok (.isub, 1) := by decide +kernel
theorem dX8_findPieces_102 : decode cX8_findPieces 102 = .ok (.iload_n 3, 1) := by decide +kernel
theorem dX8_findPieces_103 : decode cX8_findPieces 103 = .ok (.if_icmp .lt 7, 3) := by decide +kernel
theorem dX8_findPieces_106 : decode cX8_findPieces 106 = .ok (.iconst 1, 1) := by decide +kernel
theorem dX8_findPieces_107 : decode cX8_findPieces 107 = .ok (.goto 4, 3) := by decide +kernel
theorem dX8_findPieces_110 : decode cX8_findPieces 110 = .ok (.iconst 0, 1) := by decide +kernel
theorem dX8_findPieces_111 : decode cX8_findPieces 111 = .ok (.istore 6, 2) := by decide +kernel
theorem dX8_findPieces_113 : decode cX8_findPieces 113 = .ok (.iload 5, 2) := by decide +kernel
theorem dX8_findPieces_115 : decode cX8_findPieces 115 = .ok (.iload 4, 2) := by decide +kernel
theorem dX8_findPieces_117 : decode cX8_findPieces 117 = .ok (.if_icmp .le 47, 3) := by decide +kernel
theorem dX8_findPieces_120 : decode cX8_findPieces 120 = .ok (.aload_n 0, 1) := by decide +kernel
theorem dX8_findPieces_121 : decode cX8_findPieces 121 = .ok (.getfield 96, 3) := by decide +kernel
theorem dX8_findPieces_124 : decode cX8_findPieces 124 = .ok (.aload_n 0, 1) := by decide +kernel
theorem dX8_findPieces_125 : decode cX8_findPieces 125 = .ok (.getfield 250, 3) := by decide +kernel
theorem dX8_findPieces_128 : decode cX8_findPieces 128 = .ok (.iload 4, 2) := by decide +kernel
theorem dX8_findPieces_130 : decode cX8_findPieces 130 = .ok (.iastore, 1) := by decide +kernel
theorem dX8_findPieces_131 : decode cX8_findPieces 131 = .ok (.aload_n 0, 1) := by decide +kernel
theorem dX8_findPieces_132 : decode cX8_findPieces 132 = .ok (.getfield 99, 3) := by decide +kernel
theorem dX8_findPieces_135 : decode cX8_findPieces 135 = .ok (.aload_n 0, 1) := by decide +kernel
theorem dX8_findPieces_136 : decode cX8_findPieces 136 = .ok (.getfield 250, 3) := by decide +kernel
theorem dX8_findPieces_139 : decode cX8_findPieces 139 = .ok (.iload 6, 2) := by decide +kernel
theorem dX8_findPieces_141 : decode cX8_findPieces 141 = .ok (.ifCond .eq 10, 3) := by decide +kernel
theorem dX8_findPieces_144 : decode cX8_findPieces 144 = .ok (.iload 5, 2) := by decide +kernel
theorem dX8_findPieces_146 : decode cX8_findPieces 146 = .ok (.iconst 1, 1) := by decide +kernel
theorem dX8_findPieces_147 : decode cX8_findPieces 147 = .ok (.isub, 1) := by decide +kernel
theorem dX8_findPieces_148 : decode cX8_findPieces 148 = .ok (.goto 5, 3) := by decide +kernel
theorem dX8_findPieces_151 : decode cX8_findPieces 151 = .ok (.iload 4, 2) := by decide +kernel
theorem dX8_findPieces_153 : decode cX8_findPieces 153 = .ok (.iastore, 1) := by decide +kernel
theorem dX8_findPieces_154 : decode cX8_findPieces 154 = .ok (.aload_n 0, 1) := by decide +kernel
theorem dX8_findPieces_155 : decode cX8_findPieces 155 = .ok (.dup, 1) := by decide +kernel
theorem dX8_findPieces_156 : decode cX8_findPieces 156 = .ok (.getfield 250, 3) := by decide +kernel
theorem dX8_findPieces_159 : decode cX8_findPieces 159 = .ok (.iconst 1, 1) := by decide +kernel
theorem dX8_findPieces_160 : decode cX8_findPieces 160 = .ok (.iadd, 1) := by decide +kernel
theorem dX8_findPieces_161 : decode cX8_findPieces 161 = .ok (.putfield 250, 3) := by decide +kernel
theorem dX8_findPieces_164 : decode cX8_findPieces 164 = .ok (.iload 6, 2) := by decide +kernel
theorem dX8_findPieces_166 : decode cX8_findPieces 166 = .ok (.ifCond .eq 8, 3) := by decide +kernel
theorem dX8_findPieces_169 : decode cX8_findPieces 169 = .ok (.iload 5, 2) := by decide +kernel
theorem dX8_findPieces_171 : decode cX8_findPieces 171 = .ok (.goto 7, 3) := by decide +kernel
theorem dX8_findPieces_174 : decode cX8_findPieces 174 = .ok (.iload 4, 2) := by decide +kernel
theorem dX8_findPieces_176 : decode cX8_findPieces 176 = .ok (.iconst 1, 1) := by decide +kernel
theorem dX8_findPieces_177 : decode cX8_findPieces 177 = .ok (.iadd, 1) := by decide +kernel
theorem dX8_findPieces_178 : decode cX8_findPieces 178 = .ok (.istore 4, 2) := by decide +kernel
theorem dX8_findPieces_180 : decode cX8_findPieces 180 = .ok (.goto (-121), 3) := by decide +kernel
theorem dX8_findPieces_183 : decode cX8_findPieces 183 = .ok (.return_, 1) := by decide +kernel
theorem dX8_piece_0 : decode cX8_piece 0 = .ok (.aload_n 0, 1) := by decide +kernel
theorem dX8_piece_1 : decode cX8_piece 1 = .ok (.iload_n 1, 1) := by decide +kernel
theorem dX8_piece_2 : decode cX8_piece 2 = .ok (.invokevirtual 239, 3) := by decide +kernel
theorem dX8_piece_5 : decode cX8_piece 5 = .ok (.ifCond .eq 7, 3) := by decide +kernel
theorem dX8_piece_8 : decode cX8_piece 8 = .ok (.sipush (-1001), 3) := by decide +kernel
theorem dX8_piece_11 : decode cX8_piece 11 = .ok (.ireturn, 1) := by decide +kernel
theorem dX8_piece_12 : decode cX8_piece 12 = .ok (.iload_n 2, 1) := by decide +kernel
theorem dX8_piece_13 : decode cX8_piece 13 = .ok (.iconst (-1), 1) := by decide +kernel
theorem dX8_piece_14 : decode cX8_piece 14 = .ok (.if_icmp .eq 17, 3) := by decide +kernel
theorem dX8_piece_17 : decode cX8_piece 17 = .ok (.iload_n 3, 1) := by decide +kernel
theorem dX8_piece_18 : decode cX8_piece 18 = .ok (.i2l, 1) := by decide +kernel
theorem dX8_piece_19 : decode cX8_piece 19 = .ok (.lconst 0, 1) := by decide +kernel
theorem dX8_piece_20 : decode cX8_piece 20 = .ok (.lconst 1, 1) := by decide +kernel
theorem dX8_piece_21 : decode cX8_piece 21 = .ok (.invokestatic 127, 3) := by decide +kernel
theorem dX8_piece_24 : decode cX8_piece 24 = .ok (.ifCond .ne 7, 3) := by decide +kernel
theorem dX8_piece_27 : decode cX8_piece 27 = .ok (.sipush (-1002), 3) := by decide +kernel
theorem dX8_piece_30 : decode cX8_piece 30 = .ok (.ireturn, 1) := by decide +kernel
theorem dX8_piece_31 : decode cX8_piece 31 = .ok (.aload_n 0, 1) := by decide +kernel
theorem dX8_piece_32 : decode cX8_piece 32 = .ok (.iconst 4, 1) := by decide +kernel
theorem dX8_piece_33 : decode cX8_piece 33 = .ok (.invokevirtual 221, 3) := by decide +kernel
theorem dX8_piece_36 : decode cX8_piece 36 = .ok (.aload_n 0, 1) := by decide +kernel
theorem dX8_piece_37 : decode cX8_piece 37 = .ok (.iload_n 1, 1) := by decide +kernel
theorem dX8_piece_38 : decode cX8_piece 38 = .ok (.invokevirtual 253, 3) := by decide +kernel
theorem dX8_piece_41 : decode cX8_piece 41 = .ok (.iload_n 2, 1) := by decide +kernel
theorem dX8_piece_42 : decode cX8_piece 42 = .ok (.iconst (-1), 1) := by decide +kernel
theorem dX8_piece_43 : decode cX8_piece 43 = .ok (.if_icmp .ne 10, 3) := by decide +kernel
theorem dX8_piece_46 : decode cX8_piece 46 = .ok (.aload_n 0, 1) := by decide +kernel
theorem dX8_piece_47 : decode cX8_piece 47 = .ok (.getfield 250, 3) := by decide +kernel
theorem dX8_piece_50 : decode cX8_piece 50 = .ok (.goto 42, 3) := by decide +kernel
theorem dX8_piece_53 : decode cX8_piece 53 = .ok (.iload_n 2, 1) := by decide +kernel
theorem dX8_piece_54 : decode cX8_piece 54 = .ok (.i2l, 1) := by decide +kernel
theorem dX8_piece_55 : decode cX8_piece 55 = .ok (.lconst 0, 1) := by decide +kernel
theorem dX8_piece_56 : decode cX8_piece 56 = .ok (.aload_n 0, 1) := by decide +kernel
theorem dX8_piece_57 : decode cX8_piece 57 = .ok (.getfield 250, 3) := by decide +kernel
theorem dX8_piece_60 : decode cX8_piece 60 = .ok (.iconst 1, 1) := by decide +kernel
theorem dX8_piece_61 : decode cX8_piece 61 = .ok (.isub, 1) := by decide +kernel
theorem dX8_piece_62 : decode cX8_piece 62 = .ok (.i2l, 1) := by decide +kernel
theorem dX8_piece_63 : decode cX8_piece 63 = .ok (.invokestatic 127, 3) := by decide +kernel
theorem dX8_piece_66 : decode cX8_piece 66 = .ok (.ifCond .ne 7, 3) := by decide +kernel
theorem dX8_piece_69 : decode cX8_piece 69 = .ok (.iconst (-1), 1) := by decide +kernel
theorem dX8_piece_70 : decode cX8_piece 70 = .ok (.goto 22, 3) := by decide +kernel
theorem dX8_piece_73 : decode cX8_piece 73 = .ok (.iload_n 3, 1) := by decide +kernel
theorem dX8_piece_74 : decode cX8_piece 74 = .ok (.ifCond .ne 12, 3) := by decide +kernel
theorem dX8_piece_77 : decode cX8_piece 77 = .ok (.aload_n 0, 1) := by decide +kernel
theorem dX8_piece_78 : decode cX8_piece 78 = .ok (.getfield 96, 3) := by decide +kernel
theorem dX8_piece_81 : decode cX8_piece 81 = .ok (.iload_n 2, 1) := by decide +kernel
theorem dX8_piece_82 : decode cX8_piece 82 = .ok (.iaload, 1) := by decide +kernel
theorem dX8_piece_83 : decode cX8_piece 83 = .ok (.goto 9, 3) := by decide +kernel
theorem dX8_piece_86 : decode cX8_piece 86 = .ok (.aload_n 0, 1) := by decide +kernel
theorem dX8_piece_87 : decode cX8_piece 87 = .ok (.getfield 99, 3) := by decide +kernel
theorem dX8_piece_90 : decode cX8_piece 90 = .ok (.iload_n 2, 1) := by decide +kernel
theorem dX8_piece_91 : decode cX8_piece 91 = .ok (.iaload, 1) := by decide +kernel
theorem dX8_piece_92 : decode cX8_piece 92 = .ok (.ireturn, 1) := by decide +kernel
theorem dX8_count_0 : decode cX8_count 0 = .ok (.aload_n 0, 1) := by decide +kernel
theorem dX8_count_1 : decode cX8_count 1 = .ok (.iconst 4, 1) := by decide +kernel
theorem dX8_count_2 : decode cX8_count 2 = .ok (.invokevirtual 221, 3) := by decide +kernel
theorem dX8_count_5 : decode cX8_count 5 = .ok (.iconst 0, 1) := by decide +kernel
theorem dX8_count_6 : decode cX8_count 6 = .ok (.istore_n 2, 1) := by decide +kernel
theorem dX8_count_7 : decode cX8_count 7 = .ok (.iconst 0, 1) := by decide +kernel
theorem dX8_count_8 : decode cX8_count 8 = .ok (.istore_n 3, 1) := by decide +kernel
theorem dX8_count_9 : decode cX8_count 9 = .ok (.iconst 0, 1) := by decide +kernel
theorem dX8_count_10 : decode cX8_count 10 = .ok (.istore 4, 2) := by decide +kernel
theorem dX8_count_12 : decode cX8_count 12 = .ok (.iload 4, 2) := by decide +kernel
theorem dX8_count_14 : decode cX8_count 14 = .ok (.aload_n 0, 1) := by decide +kernel
theorem dX8_count_15 : decode cX8_count 15 = .ok (.getfield 124, 3) := by decide +kernel
theorem dX8_count_18 : decode cX8_count 18 = .ok (.if_icmp .ge 54, 3) := by decide +kernel
theorem dX8_count_21 : decode cX8_count 21 = .ok (.iload_n 2, 1) := by decide +kernel
theorem dX8_count_22 : decode cX8_count 22 = .ok (.aload_n 0, 1) := by decide +kernel
theorem dX8_count_23 : decode cX8_count 23 = .ok (.getfield 34, 3) := by decide +kernel
theorem dX8_count_26 : decode cX8_count 26 = .ok (.bipush 96, 2) := by decide +kernel
theorem dX8_count_28 : decode cX8_count 28 = .ok (.iload 4, 2) := by decide +kernel
theorem dX8_count_30 : decode cX8_count 30 = .ok (.iadd, 1) := by decide +kernel
theorem dX8_count_31 : decode cX8_count 31 = .ok (.iaload, 1) := by decide +kernel
theorem dX8_count_32 : decode cX8_count 32 = .ok (.ifCond .lt 7, 3) := by decide +kernel
theorem dX8_count_35 : decode cX8_count 35 = .ok (.iconst 1, 1) := by decide +kernel
theorem dX8_count_36 : decode cX8_count 36 = .ok (.goto 4, 3) := by decide +kernel
theorem dX8_count_39 : decode cX8_count 39 = .ok (.iconst 0, 1) := by decide +kernel
theorem dX8_count_40 : decode cX8_count 40 = .ok (.invokestatic 205, 3) := by decide +kernel
theorem dX8_count_43 : decode cX8_count 43 = .ok (.iadd, 1) := by decide +kernel
theorem dX8_count_44 : decode cX8_count 44 = .ok (.istore_n 2, 1) := by decide +kernel
theorem dX8_count_45 : decode cX8_count 45 = .ok (.iload_n 3, 1) := by decide +kernel
theorem dX8_count_46 : decode cX8_count 46 = .ok (.aload_n 0, 1) := by decide +kernel
theorem dX8_count_47 : decode cX8_count 47 = .ok (.getfield 87, 3) := by decide +kernel
theorem dX8_count_50 : decode cX8_count 50 = .ok (.iload 4, 2) := by decide +kernel
theorem dX8_count_52 : decode cX8_count 52 = .ok (.iaload, 1) := by decide +kernel
theorem dX8_count_53 : decode cX8_count 53 = .ok (.ifCond .le 7, 3) := by decide +kernel
theorem dX8_count_56 : decode cX8_count 56 = .ok (.iconst 1, 1) := by decide +kernel
theorem dX8_count_57 : decode cX8_count 57 = .ok (.goto 4, 3) := by decide +kernel
theorem dX8_count_60 : decode cX8_count 60 = .ok (.iconst 0, 1) := by decide +kernel
theorem dX8_count_61 : decode cX8_count 61 = .ok (.invokestatic 205, 3) := by decide +kernel
theorem dX8_count_64 : decode cX8_count 64 = .ok (.iadd, 1) := by decide +kernel
theorem dX8_count_65 : decode cX8_count 65 = .ok (.istore_n 3, 1) := by decide +kernel
theorem dX8_count_66 : decode cX8_count 66 = .ok (.iinc 4 1, 3) := by decide +kernel
theorem dX8_count_69 : decode cX8_count 69 = .ok (.goto (-57), 3) := by decide +kernel
theorem dX8_count_72 : decode cX8_count 72 = .ok (.iload_n 1, 1) := by decide +kernel
theorem dX8_count_73 : decode cX8_count 73 = .ok (.tableswitch 92 0 8 #[51, 56, 58, 65, 70, 75, 80, 82, 87], 51) := by decide +kernel
theorem dX8_count_124 : decode cX8_count 124 = .ok (.aload_n 0, 1) := by decide +kernel
theorem dX8_count_125 : decode cX8_count 125 = .ok (.getfield 124, 3) := by decide +kernel
theorem dX8_count_128 : decode cX8_count 128 = .ok (.ireturn, 1) := by decide +kernel
theorem dX8_count_129 : decode cX8_count 129 = .ok (.iload_n 2, 1) := by decide +kernel
theorem dX8_count_130 : decode cX8_count 130 = .ok (.ireturn, 1) := by decide +kernel
theorem dX8_count_131 : decode cX8_count 131 = .ok (.aload_n 0, 1) := by decide +kernel
theorem dX8_count_132 : decode cX8_count 132 = .ok (.getfield 37, 3) := by decide +kernel
theorem dX8_count_135 : decode cX8_count 135 = .ok (.iconst 4, 1) := by decide +kernel
theorem dX8_count_136 : decode cX8_count 136 = .ok (.iaload, 1) := by decide +kernel
theorem dX8_count_137 : decode cX8_count 137 = .ok (.ireturn, 1) := by decide +kernel
theorem dX8_count_138 : decode cX8_count 138 = .ok (.aload_n 0, 1) := by decide +kernel
theorem dX8_count_139 : decode cX8_count 139 = .ok (.getfield 158, 3) := by decide +kernel
theorem dX8_count_142 : decode cX8_count 142 = .ok (.ireturn, 1) := by decide +kernel
theorem dX8_count_143 : decode cX8_count 143 = .ok (.aload_n 0, 1) := by decide +kernel
theorem dX8_count_144 : decode cX8_count 144 = .ok (.getfield 177, 3) := by decide +kernel
theorem dX8_count_147 : decode cX8_count 147 = .ok (.ireturn, 1) := by decide +kernel
theorem dX8_count_148 : decode cX8_count 148 = .ok (.aload_n 0, 1) := by decide +kernel
theorem dX8_count_149 : decode cX8_count 149 = .ok (.invokevirtual 256, 3) := by decide +kernel
theorem dX8_count_152 : decode cX8_count 152 = .ok (.ireturn, 1) := by decide +kernel
theorem dX8_count_153 : decode cX8_count 153 = .ok (.iload_n 3, 1) := by decide +kernel
theorem dX8_count_154 : decode cX8_count 154 = .ok (.ireturn, 1) := by decide +kernel
theorem dX8_count_155 : decode cX8_count 155 = .ok (.aload_n 0, 1) := by decide +kernel
theorem dX8_count_156 : decode cX8_count 156 = .ok (.invokevirtual 260, 3) := by decide +kernel
theorem dX8_count_159 : decode cX8_count 159 = .ok (.ireturn, 1) := by decide +kernel
theorem dX8_count_160 : decode cX8_count 160 = .ok (.aload_n 0, 1) := by decide +kernel
theorem dX8_count_161 : decode cX8_count 161 = .ok (.getfield 263, 3) := by decide +kernel
theorem dX8_count_164 : decode cX8_count 164 = .ok (.ireturn, 1) := by decide +kernel
theorem dX8_count_165 : decode cX8_count 165 = .ok (.sipush (-1002), 3) := by decide +kernel
theorem dX8_count_168 : decode cX8_count 168 = .ok (.ireturn, 1) := by decide +kernel
theorem dX8_feed_0 : decode cX8_feed 0 = .ok (.iload_n 1, 1) := by decide +kernel
theorem dX8_feed_1 : decode cX8_feed 1 = .ok (.i2l, 1) := by decide +kernel
theorem dX8_feed_2 : decode cX8_feed 2 = .ok (.lconst 1, 1) := by decide +kernel
theorem dX8_feed_3 : decode cX8_feed 3 = .ok (.ldc2_w 266, 3) := by decide +kernel
theorem dX8_feed_6 : decode cX8_feed 6 = .ok (.invokestatic 127, 3) := by decide +kernel
theorem dX8_feed_9 : decode cX8_feed 9 = .ok (.ifCond .ne 7, 3) := by decide +kernel
theorem dX8_feed_12 : decode cX8_feed 12 = .ok (.sipush (-1002), 3) := by decide +kernel
theorem dX8_feed_15 : decode cX8_feed 15 = .ok (.ireturn, 1) := by decide +kernel
theorem dX8_feed_16 : decode cX8_feed 16 = .ok (.aload_n 0, 1) := by decide +kernel
theorem dX8_feed_17 : decode cX8_feed 17 = .ok (.getfield 263, 3) := by decide +kernel
theorem dX8_feed_20 : decode cX8_feed 20 = .ok (.iload_n 1, 1) := by decide +kernel
theorem dX8_feed_21 : decode cX8_feed 21 = .ok (.iadd, 1) := by decide +kernel
theorem dX8_feed_22 : decode cX8_feed 22 = .ok (.sipush 200, 3) := by decide +kernel
theorem dX8_feed_25 : decode cX8_feed 25 = .ok (.if_icmp .le 7, 3) := by decide +kernel
theorem dX8_feed_28 : decode cX8_feed 28 = .ok (.sipush (-1004), 3) := by decide +kernel
theorem dX8_feed_31 : decode cX8_feed 31 = .ok (.ireturn, 1) := by decide +kernel
theorem dX8_feed_32 : decode cX8_feed 32 = .ok (.iload_n 1, 1) := by decide +kernel
theorem dX8_feed_33 : decode cX8_feed 33 = .ok (.iconst 1, 1) := by decide +kernel
theorem dX8_feed_34 : decode cX8_feed 34 = .ok (.isub, 1) := by decide +kernel
theorem dX8_feed_35 : decode cX8_feed 35 = .ok (.istore 4, 2) := by decide +kernel
theorem dX8_feed_37 : decode cX8_feed 37 = .ok (.iload 4, 2) := by decide +kernel
theorem dX8_feed_39 : decode cX8_feed 39 = .ok (.ifCond .lt 40, 3) := by decide +kernel
theorem dX8_feed_42 : decode cX8_feed 42 = .ok (.aload_n 0, 1) := by decide +kernel
theorem dX8_feed_43 : decode cX8_feed 43 = .ok (.getfield 102, 3) := by decide +kernel
theorem dX8_feed_46 : decode cX8_feed 46 = .ok (.aload_n 0, 1) := by decide +kernel
theorem dX8_feed_47 : decode cX8_feed 47 = .ok (.getfield 263, 3) := by decide +kernel
theorem dX8_feed_50 : decode cX8_feed 50 = .ok (.lload_n 2, 1) := by decide +kernel
theorem dX8_feed_51 : decode cX8_feed 51 = .ok (.bipush 8, 2) := by decide +kernel
theorem dX8_feed_53 : decode cX8_feed 53 = .ok (.iload 4, 2) := by decide +kernel
theorem dX8_feed_55 : decode cX8_feed 55 = .ok (.imul, 1) := by decide +kernel
theorem dX8_feed_56 : decode cX8_feed 56 = .ok (.lshr, 1) := by decide +kernel
theorem dX8_feed_57 : decode cX8_feed 57 = .ok (.ldc2_w 268, 3) := by decide +kernel
theorem dX8_feed_60 : decode cX8_feed 60 = .ok (.land, 1) := by decide +kernel
theorem dX8_feed_61 : decode cX8_feed 61 = .ok (.l2i, 1) := by decide +kernel
theorem dX8_feed_62 : decode cX8_feed 62 = .ok (.iastore, 1) := by decide +kernel
theorem dX8_feed_63 : decode cX8_feed 63 = .ok (.aload_n 0, 1) := by decide +kernel
theorem dX8_feed_64 : decode cX8_feed 64 = .ok (.dup, 1) := by decide +kernel
theorem dX8_feed_65 : decode cX8_feed 65 = .ok (.getfield 263, 3) := by decide +kernel
theorem dX8_feed_68 : decode cX8_feed 68 = .ok (.iconst 1, 1) := by decide +kernel
theorem dX8_feed_69 : decode cX8_feed 69 = .ok (.iadd, 1) := by decide +kernel
theorem dX8_feed_70 : decode cX8_feed 70 = .ok (.putfield 263, 3) := by decide +kernel
theorem dX8_feed_73 : decode cX8_feed 73 = .ok (.iinc 4 (-1), 3) := by decide +kernel
theorem dX8_feed_76 : decode cX8_feed 76 = .ok (.goto (-39), 3) := by decide +kernel
theorem dX8_feed_79 : decode cX8_feed 79 = .ok (.aload_n 0, 1) := by decide +kernel
theorem dX8_feed_80 : decode cX8_feed 80 = .ok (.getfield 263, 3) := by decide +kernel
theorem dX8_feed_83 : decode cX8_feed 83 = .ok (.ireturn, 1) := by decide +kernel
theorem dX8_look_0 : decode cX8_look 0 = .ok (.aload_n 0, 1) := by decide +kernel
theorem dX8_look_1 : decode cX8_look 1 = .ok (.getfield 270, 3) := by decide +kernel
theorem dX8_look_4 : decode cX8_look 4 = .ok (.aload_n 0, 1) := by decide +kernel
theorem dX8_look_5 : decode cX8_look 5 = .ok (.getfield 263, 3) := by decide +kernel
theorem dX8_look_8 : decode cX8_look 8 = .ok (.if_icmp .ge 30, 3) := by decide +kernel
theorem dX8_look_11 : decode cX8_look 11 = .ok (.aload_n 0, 1) := by decide +kernel
theorem dX8_look_12 : decode cX8_look 12 = .ok (.getfield 102, 3) := by decide +kernel
theorem dX8_look_15 : decode cX8_look 15 = .ok (.aload_n 0, 1) := by decide +kernel
theorem dX8_look_16 : decode cX8_look 16 = .ok (.getfield 270, 3) := by decide +kernel
theorem dX8_look_19 : decode cX8_look 19 = .ok (.iaload, 1) := by decide +kernel
theorem dX8_look_20 : decode cX8_look 20 = .ok (.bipush 32, 2) := by decide +kernel
theorem dX8_look_22 : decode cX8_look 22 = .ok (.if_icmp .ne 16, 3) := by decide +kernel
theorem dX8_look_25 : decode cX8_look 25 = .ok (.aload_n 0, 1) := by decide +kernel
theorem dX8_look_26 : decode cX8_look 26 = .ok (.dup, 1) := by decide +kernel
theorem dX8_look_27 : decode cX8_look 27 = .ok (.getfield 270, 3) := by decide +kernel
theorem dX8_look_30 : decode cX8_look 30 = .ok (.iconst 1, 1) := by decide +kernel
theorem dX8_look_31 : decode cX8_look 31 = .ok (.iadd, 1) := by decide +kernel
theorem dX8_look_32 : decode cX8_look 32 = .ok (.putfield 270, 3) := by decide +kernel
theorem dX8_look_35 : decode cX8_look 35 = .ok (.goto (-35), 3) := by decide +kernel
theorem dX8_look_38 : decode cX8_look 38 = .ok (.aload_n 0, 1) := by decide +kernel
theorem dX8_look_39 : decode cX8_look 39 = .ok (.getfield 270, 3) := by decide +kernel
theorem dX8_look_42 : decode cX8_look 42 = .ok (.aload_n 0, 1) := by decide +kernel
theorem dX8_look_43 : decode cX8_look 43 = .ok (.getfield 263, 3) := by decide +kernel
theorem dX8_look_46 : decode cX8_look 46 = .ok (.if_icmp .ge 15, 3) := by decide +kernel
theorem dX8_look_49 : decode cX8_look 49 = .ok (.aload_n 0, 1) := by decide +kernel
theorem dX8_look_50 : decode cX8_look 50 = .ok (.getfield 102, 3) := by decide +kernel
theorem dX8_look_53 : decode cX8_look 53 = .ok (.aload_n 0, 1) := by decide +kernel
theorem dX8_look_54 : decode cX8_look 54 = .ok (.getfield 270, 3) := by decide +kernel
theorem dX8_look_57 : decode cX8_look 57 = .ok (.iaload, 1) := by decide +kernel
theorem dX8_look_58 : decode cX8_look 58 = .ok (.goto 4, 3) := by decide +kernel
theorem dX8_look_61 : decode cX8_look 61 = .ok (.iconst (-1), 1) := by decide +kernel
theorem dX8_look_62 : decode cX8_look 62 = .ok (.ireturn, 1) := by decide +kernel
theorem dX8_want_0 : decode cX8_want 0 = .ok (.iload_n 1, 1) := by decide +kernel
theorem dX8_want_1 : decode cX8_want 1 = .ok (.ifCond .ne 20, 3) := by decide +kernel
theorem dX8_want_4 : decode cX8_want 4 = .ok (.aload_n 0, 1) := by decide +kernel
theorem dX8_want_5 : decode cX8_want 5 = .ok (.getfield 273, 3) := by decide +kernel
theorem dX8_want_8 : decode cX8_want 8 = .ok (.ifCond .ne 13, 3) := by decide +kernel
theorem dX8_want_11 : decode cX8_want 11 = .ok (.aload_n 0, 1) := by decide +kernel
theorem dX8_want_12 : decode cX8_want 12 = .ok (.iload_n 2, 1) := by decide +kernel
theorem dX8_want_13 : decode cX8_want 13 = .ok (.putfield 273, 3) := by decide +kernel
theorem dX8_want_16 : decode cX8_want 16 = .ok (.aload_n 0, 1) := by decide +kernel
theorem dX8_want_17 : decode cX8_want 17 = .ok (.iload_n 3, 1) := by decide +kernel
theorem dX8_want_18 : decode cX8_want 18 = .ok (.putfield 105, 3) := by decide +kernel
theorem dX8_want_21 : decode cX8_want 21 = .ok (.aload_n 0, 1) := by decide +kernel
theorem dX8_want_22 : decode cX8_want 22 = .ok (.getfield 273, 3) := by decide +kernel
theorem dX8_want_25 : decode cX8_want 25 = .ok (.ifCond .ne 7, 3) := by decide +kernel
theorem dX8_want_28 : decode cX8_want 28 = .ok (.iconst 1, 1) := by decide +kernel
theorem dX8_want_29 : decode cX8_want 29 = .ok (.goto 4, 3) := by decide +kernel
theorem dX8_want_32 : decode cX8_want 32 = .ok (.iconst 0, 1) := by decide +kernel
theorem dX8_want_33 : decode cX8_want 33 = .ok (.ireturn, 1) := by decide +kernel
theorem dX8_takeWord_0 : decode cX8_takeWord 0 = .ok (.aload_n 0, 1) := by decide +kernel
theorem dX8_takeWord_1 : decode cX8_takeWord 1 = .ok (.invokevirtual 276, 3) := by decide +kernel
theorem dX8_takeWord_4 : decode cX8_takeWord 4 = .ok (.istore_n 1, 1) := by decide +kernel
theorem dX8_takeWord_5 : decode cX8_takeWord 5 = .ok (.aload_n 0, 1) := by decide +kernel
theorem dX8_takeWord_6 : decode cX8_takeWord 6 = .ok (.aload_n 0, 1) := by decide +kernel
theorem dX8_takeWord_7 : decode cX8_takeWord 7 = .ok (.getfield 270, 3) := by decide +kernel
theorem dX8_takeWord_10 : decode cX8_takeWord 10 = .ok (.putfield 279, 3) := by decide +kernel
theorem dX8_takeWord_13 : decode cX8_takeWord 13 = .ok (.aload_n 0, 1) := by decide +kernel
theorem dX8_takeWord_14 : decode cX8_takeWord 14 = .ok (.getfield 270, 3) := by decide +kernel
theorem dX8_takeWord_17 : decode cX8_takeWord 17 = .ok (.aload_n 0, 1) := by decide +kernel
theorem dX8_takeWord_18 : decode cX8_takeWord 18 = .ok (.getfield 263, 3) := by decide +kernel
theorem dX8_takeWord_21 : decode cX8_takeWord 21 = .ok (.if_icmp .ge 38, 3) := by decide +kernel
theorem dX8_takeWord_24 : decode cX8_takeWord 24 = .ok (.aload_n 0, 1) := by decide +kernel
theorem dX8_takeWord_25 : decode cX8_takeWord 25 = .ok (.getfield 102, 3) := by decide +kernel
theorem dX8_takeWord_28 : decode cX8_takeWord 28 = .ok (.aload_n 0, 1) := by decide +kernel
theorem dX8_takeWord_29 : decode cX8_takeWord 29 = .ok (.getfield 270, 3) := by decide +kernel
theorem dX8_takeWord_32 : decode cX8_takeWord 32 = .ok (.iaload, 1) := by decide +kernel
theorem dX8_takeWord_33 : decode cX8_takeWord 33 = .ok (.i2l, 1) := by decide +kernel
theorem dX8_takeWord_34 : decode cX8_takeWord 34 = .ok (.ldc2_w 282, 3) := by decide +kernel
theorem dX8_takeWord_37 : decode cX8_takeWord 37 = .ok (.ldc2_w 284, 3) := by decide +kernel
theorem dX8_takeWord_40 : decode cX8_takeWord 40 = .ok (.invokestatic 127, 3) := by decide +kernel
theorem dX8_takeWord_43 : decode cX8_takeWord 43 = .ok (.ifCond .eq 16, 3) := by decide +kernel
theorem dX8_takeWord_46 : decode cX8_takeWord 46 = .ok (.aload_n 0, 1) := by decide +kernel
theorem dX8_takeWord_47 : decode cX8_takeWord 47 = .ok (.dup, 1) := by decide +kernel
theorem dX8_takeWord_48 : decode cX8_takeWord 48 = .ok (.getfield 270, 3) := by decide +kernel
theorem dX8_takeWord_51 : decode cX8_takeWord 51 = .ok (.iconst 1, 1) := by decide +kernel
theorem dX8_takeWord_52 : decode cX8_takeWord 52 = .ok (.iadd, 1) := by decide +kernel
theorem dX8_takeWord_53 : decode cX8_takeWord 53 = .ok (.putfield 270, 3) := by decide +kernel
theorem dX8_takeWord_56 : decode cX8_takeWord 56 = .ok (.goto (-43), 3) := by decide +kernel
theorem dX8_takeWord_59 : decode cX8_takeWord 59 = .ok (.aload_n 0, 1) := by decide +kernel
theorem dX8_takeWord_60 : decode cX8_takeWord 60 = .ok (.aload_n 0, 1) := by decide +kernel
theorem dX8_takeWord_61 : decode cX8_takeWord 61 = .ok (.getfield 270, 3) := by decide +kernel
theorem dX8_takeWord_64 : decode cX8_takeWord 64 = .ok (.aload_n 0, 1) := by decide +kernel
theorem dX8_takeWord_65 : decode cX8_takeWord 65 = .ok (.getfield 279, 3) := by decide +kernel
theorem dX8_takeWord_68 : decode cX8_takeWord 68 = .ok (.isub, 1) := by decide +kernel
theorem dX8_takeWord_69 : decode cX8_takeWord 69 = .ok (.putfield 286, 3) := by decide +kernel
theorem dX8_takeWord_72 : decode cX8_takeWord 72 = .ok (.return_, 1) := by decide +kernel
theorem dX8_isWord_0 : decode cX8_isWord 0 = .ok (.aload_n 0, 1) := by decide +kernel
theorem dX8_isWord_1 : decode cX8_isWord 1 = .ok (.getfield 286, 3) := by decide +kernel
theorem dX8_isWord_4 : decode cX8_isWord 4 = .ok (.iload_n 1, 1) := by decide +kernel
theorem dX8_isWord_5 : decode cX8_isWord 5 = .ok (.if_icmp .ne 7, 3) := by decide +kernel
theorem dX8_isWord_8 : decode cX8_isWord 8 = .ok (.iconst 1, 1) := by decide +kernel
theorem dX8_isWord_9 : decode cX8_isWord 9 = .ok (.goto 4, 3) := by decide +kernel
theorem dX8_isWord_12 : decode cX8_isWord 12 = .ok (.iconst 0, 1) := by decide +kernel
theorem dX8_isWord_13 : decode cX8_isWord 13 = .ok (.istore 8, 2) := by decide +kernel
theorem dX8_isWord_15 : decode cX8_isWord 15 = .ok (.iconst 0, 1) := by decide +kernel
theorem dX8_isWord_16 : decode cX8_isWord 16 = .ok (.istore 9, 2) := by decide +kernel
theorem dX8_isWord_18 : decode cX8_isWord 18 = .ok (.iload 9, 2) := by decide +kernel
theorem dX8_isWord_20 : decode cX8_isWord 20 = .ok (.iload_n 1, 1) := by decide +kernel
theorem dX8_isWord_21 : decode cX8_isWord 21 = .ok (.if_icmp .ge 90, 3) := by decide +kernel
theorem dX8_isWord_24 : decode cX8_isWord 24 = .ok (.iload 8, 2) := by decide +kernel
theorem dX8_isWord_26 : decode cX8_isWord 26 = .ok (.ifCond .eq 85, 3) := by decide +kernel
theorem dX8_isWord_29 : decode cX8_isWord 29 = .ok (.aload_n 0, 1) := by decide +kernel
theorem dX8_isWord_30 : decode cX8_isWord 30 = .ok (.getfield 102, 3) := by decide +kernel
theorem dX8_isWord_33 : decode cX8_isWord 33 = .ok (.aload_n 0, 1) := by decide +kernel
theorem dX8_isWord_34 : decode cX8_isWord 34 = .ok (.getfield 279, 3) := by decide +kernel
theorem dX8_isWord_37 : decode cX8_isWord 37 = .ok (.iload 9, 2) := by decide +kernel
theorem dX8_isWord_39 : decode cX8_isWord 39 = .ok (.iadd, 1) := by decide +kernel
theorem dX8_isWord_40 : decode cX8_isWord 40 = .ok (.iaload, 1) := by decide +kernel
theorem dX8_isWord_41 : decode cX8_isWord 41 = .ok (.iload 9, 2) := by decide +kernel
theorem dX8_isWord_43 : decode cX8_isWord 43 = .ok (.ifCond .ne 7, 3) := by decide +kernel
theorem dX8_isWord_46 : decode cX8_isWord 46 = .ok (.iload_n 2, 1) := by decide +kernel
theorem dX8_isWord_47 : decode cX8_isWord 47 = .ok (.goto 48, 3) := by decide +kernel
theorem dX8_isWord_50 : decode cX8_isWord 50 = .ok (.iload 9, 2) := by decide +kernel
theorem dX8_isWord_52 : decode cX8_isWord 52 = .ok (.iconst 1, 1) := by decide +kernel
theorem dX8_isWord_53 : decode cX8_isWord 53 = .ok (.if_icmp .ne 7, 3) := by decide +kernel
theorem dX8_isWord_56 : decode cX8_isWord 56 = .ok (.iload_n 3, 1) := by decide +kernel
theorem dX8_isWord_57 : decode cX8_isWord 57 = .ok (.goto 38, 3) := by decide +kernel
theorem dX8_isWord_60 : decode cX8_isWord 60 = .ok (.iload 9, 2) := by decide +kernel
theorem dX8_isWord_62 : decode cX8_isWord 62 = .ok (.iconst 2, 1) := by decide +kernel
theorem dX8_isWord_63 : decode cX8_isWord 63 = .ok (.if_icmp .ne 8, 3) := by decide +kernel
theorem dX8_isWord_66 : decode cX8_isWord 66 = .ok (.iload 4, 2) := by decide +kernel
theorem dX8_isWord_68 : decode cX8_isWord 68 = .ok (.goto 27, 3) := by decide +kernel
theorem dX8_isWord_71 : decode cX8_isWord 71 = .ok (.iload 9, 2) := by decide +kernel
theorem dX8_isWord_73 : decode cX8_isWord 73 = .ok (.iconst 3, 1) := by decide +kernel
theorem dX8_isWord_74 : decode cX8_isWord 74 = .ok (.if_icmp .ne 8, 3) := by decide +kernel
theorem dX8_isWord_77 : decode cX8_isWord 77 = .ok (.iload 5, 2) := by decide +kernel
theorem dX8_isWord_79 : decode cX8_isWord 79 = .ok (.goto 16, 3) := by decide +kernel
theorem dX8_isWord_82 : decode cX8_isWord 82 = .ok (.iload 9, 2) := by decide +kernel
theorem dX8_isWord_84 : decode cX8_isWord 84 = .ok (.iconst 4, 1) := by decide +kernel
theorem dX8_isWord_85 : decode cX8_isWord 85 = .ok (.if_icmp .ne 8, 3) := by decide +kernel
theorem dX8_isWord_88 : decode cX8_isWord 88 = .ok (.iload 6, 2) := by decide +kernel
theorem dX8_isWord_90 : decode cX8_isWord 90 = .ok (.goto 5, 3) := by decide +kernel
theorem dX8_isWord_93 : decode cX8_isWord 93 = .ok (.iload 7, 2) := by decide +kernel
theorem dX8_isWord_95 : decode cX8_isWord 95 = .ok (.if_icmp .ne 7, 3) := by decide +kernel
theorem dX8_isWord_98 : decode cX8_isWord 98 = .ok (.iconst 1, 1) := by decide +kernel
theorem dX8_isWord_99 : decode cX8_isWord 99 = .ok (.goto 4, 3) := by decide +kernel
theorem dX8_isWord_102 : decode cX8_isWord 102 = .ok (.iconst 0, 1) := by decide +kernel
theorem dX8_isWord_103 : decode cX8_isWord 103 = .ok (.istore 8, 2) := by decide +kernel
theorem dX8_isWord_105 : decode cX8_isWord 105 = .ok (.iinc 9 1, 3) := by decide +kernel
theorem dX8_isWord_108 : decode cX8_isWord 108 = .ok (.goto (-90), 3) := by decide +kernel
theorem dX8_isWord_111 : decode cX8_isWord 111 = .ok (.iload 8, 2) := by decide +kernel
theorem dX8_isWord_113 : decode cX8_isWord 113 = .ok (.ireturn, 1) := by decide +kernel
theorem dX8_takeNumber_0 : decode cX8_takeNumber 0 = .ok (.aload_n 0, 1) := by decide +kernel
theorem dX8_takeNumber_1 : decode cX8_takeNumber 1 = .ok (.getfield 273, 3) := by decide +kernel
theorem dX8_takeNumber_4 : decode cX8_takeNumber 4 = .ok (.ifCond .le 5, 3) := by decide +kernel
theorem dX8_takeNumber_7 : decode cX8_takeNumber 7 = .ok (.iconst 0, 1) := by decide +kernel
theorem dX8_takeNumber_8 : decode cX8_takeNumber 8 = .ok (.ireturn, 1) := by decide +kernel
theorem dX8_takeNumber_9 : decode cX8_takeNumber 9 = .ok (.aload_n 0, 1) := by decide +kernel
theorem dX8_takeNumber_10 : decode cX8_takeNumber 10 = .ok (.invokevirtual 276, 3) := by decide +kernel
theorem dX8_takeNumber_13 : decode cX8_takeNumber 13 = .ok (.istore 4, 2) := by decide +kernel
theorem dX8_takeNumber_15 : decode cX8_takeNumber 15 = .ok (.aload_n 0, 1) := by decide +kernel
theorem dX8_takeNumber_16 : decode cX8_takeNumber 16 = .ok (.getfield 270, 3) := by decide +kernel
theorem dX8_takeNumber_19 : decode cX8_takeNumber 19 = .ok (.istore 5, 2) := by decide +kernel
theorem dX8_takeNumber_21 : decode cX8_takeNumber 21 = .ok (.aload_n 0, 1) := by decide +kernel
theorem dX8_takeNumber_22 : decode cX8_takeNumber 22 = .ok (.iload 4, 2) := by decide +kernel
theorem dX8_takeNumber_24 : decode cX8_takeNumber 24 = .ok (.i2l, 1) := by decide +kernel
theorem dX8_takeNumber_25 : decode cX8_takeNumber 25 = .ok (.ldc2_w 289, 3) := by decide +kernel
theorem dX8_takeNumber_28 : decode cX8_takeNumber 28 = .ok (.ldc2_w 291, 3) := by decide +kernel
theorem dX8_takeNumber_31 : decode cX8_takeNumber 31 = .ok (.invokestatic 127, 3) := by decide +kernel
theorem dX8_takeNumber_34 : decode cX8_takeNumber 34 = .ok (.iconst 1, 1) := by decide +kernel
theorem dX8_takeNumber_35 : decode cX8_takeNumber 35 = .ok (.aload_n 0, 1) := by decide +kernel
theorem dX8_takeNumber_36 : decode cX8_takeNumber 36 = .ok (.getfield 270, 3) := by decide +kernel
theorem dX8_takeNumber_39 : decode cX8_takeNumber 39 = .ok (.invokevirtual 293, 3) := by decide +kernel
theorem dX8_takeNumber_42 : decode cX8_takeNumber 42 = .ok (.ifCond .ne 5, 3) := by decide +kernel
theorem dX8_takeNumber_45 : decode cX8_takeNumber 45 = .ok (.iconst 0, 1) := by decide +kernel
theorem dX8_takeNumber_46 : decode cX8_takeNumber 46 = .ok (.ireturn, 1) := by decide +kernel
theorem dX8_takeNumber_47 : decode cX8_takeNumber 47 = .ok (.iconst 0, 1) := by decide +kernel
theorem dX8_takeNumber_48 : decode cX8_takeNumber 48 = .ok (.istore 6, 2) := by decide +kernel
theorem dX8_takeNumber_50 : decode cX8_takeNumber 50 = .ok (.aload_n 0, 1) := by decide +kernel
theorem dX8_takeNumber_51 : decode cX8_takeNumber 51 = .ok (.getfield 270, 3) := by decide +kernel
theorem dX8_takeNumber_54 : decode cX8_takeNumber 54 = .ok (.aload_n 0, 1) := by decide +kernel
theorem dX8_takeNumber_55 : decode cX8_takeNumber 55 = .ok (.getfield 263, 3) := by decide +kernel
theorem dX8_takeNumber_58 : decode cX8_takeNumber 58 = .ok (.if_icmp .ge 70, 3) := by decide +kernel
theorem dX8_takeNumber_61 : decode cX8_takeNumber 61 = .ok (.aload_n 0, 1) := by decide +kernel
theorem dX8_takeNumber_62 : decode cX8_takeNumber 62 = .ok (.getfield 102, 3) := by decide +kernel
theorem dX8_takeNumber_65 : decode cX8_takeNumber 65 = .ok (.aload_n 0, 1) := by decide +kernel
theorem dX8_takeNumber_66 : decode cX8_takeNumber 66 = .ok (.getfield 270, 3) := by decide +kernel
theorem dX8_takeNumber_69 : decode cX8_takeNumber 69 = .ok (.iaload, 1) := by decide +kernel
theorem dX8_takeNumber_70 : decode cX8_takeNumber 70 = .ok (.i2l, 1) := by decide +kernel
theorem dX8_takeNumber_71 : decode cX8_takeNumber 71 = .ok (.ldc2_w 289, 3) := by decide +kernel
theorem dX8_takeNumber_74 : decode cX8_takeNumber 74 = .ok (.ldc2_w 291, 3) := by decide +kernel
theorem dX8_takeNumber_77 : decode cX8_takeNumber 77 = .ok (.invokestatic 127, 3) := by decide +kernel
theorem dX8_takeNumber_80 : decode cX8_takeNumber 80 = .ok (.ifCond .eq 48, 3) := by decide +kernel
theorem dX8_takeNumber_83 : decode cX8_takeNumber 83 = .ok (.iload 6, 2) := by decide +kernel
theorem dX8_takeNumber_85 : decode cX8_takeNumber 85 = .ok (.bipush 99, 2) := by decide +kernel
theorem dX8_takeNumber_87 : decode cX8_takeNumber 87 = .ok (.if_icmp .le 8, 3) := by decide +kernel
theorem dX8_takeNumber_90 : decode cX8_takeNumber 90 = .ok (.iload 6, 2) := by decide +kernel
theorem dX8_takeNumber_92 : decode cX8_takeNumber 92 = .ok (.goto 21, 3) := by decide +kernel
theorem dX8_takeNumber_95 : decode cX8_takeNumber 95 = .ok (.bipush 10, 2) := by decide +kernel
theorem dX8_takeNumber_97 : decode cX8_takeNumber 97 = .ok (.iload 6, 2) := by decide +kernel
theorem dX8_takeNumber_99 : decode cX8_takeNumber 99 = .ok (.imul, 1) := by decide +kernel
theorem dX8_takeNumber_100 : decode cX8_takeNumber 100 = .ok (.aload_n 0, 1) := by decide +kernel
theorem dX8_takeNumber_101 : decode cX8_takeNumber 101 = .ok (.getfield 102, 3) := by decide +kernel
theorem dX8_takeNumber_104 : decode cX8_takeNumber 104 = .ok (.aload_n 0, 1) := by decide +kernel
theorem dX8_takeNumber_105 : decode cX8_takeNumber 105 = .ok (.getfield 270, 3) := by decide +kernel
theorem dX8_takeNumber_108 : decode cX8_takeNumber 108 = .ok (.iaload, 1) := by decide +kernel
theorem dX8_takeNumber_109 : decode cX8_takeNumber 109 = .ok (.iadd, 1) := by decide +kernel
theorem dX8_takeNumber_110 : decode cX8_takeNumber 110 = .ok (.bipush 48, 2) := by decide +kernel
theorem dX8_takeNumber_112 : decode cX8_takeNumber 112 = .ok (.isub, 1) := by decide +kernel
theorem dX8_takeNumber_113 : decode cX8_takeNumber 113 = .ok (.istore 6, 2) := by decide +kernel
theorem dX8_takeNumber_115 : decode cX8_takeNumber 115 = .ok (.aload_n 0, 1) := by decide +kernel
theorem dX8_takeNumber_116 : decode cX8_takeNumber 116 = .ok (.dup, 1) := by decide +kernel
theorem dX8_takeNumber_117 : decode cX8_takeNumber 117 = .ok (.getfield 270, 3) := by decide +kernel
theorem dX8_takeNumber_120 : decode cX8_takeNumber 120 = .ok (.iconst 1, 1) := by decide +kernel
theorem dX8_takeNumber_121 : decode cX8_takeNumber 121 = .ok (.iadd, 1) := by decide +kernel
theorem dX8_takeNumber_122 : decode cX8_takeNumber 122 = .ok (.putfield 270, 3) := by decide +kernel
theorem dX8_takeNumber_125 : decode cX8_takeNumber 125 = .ok (.goto (-75), 3) := by decide +kernel
theorem dX8_takeNumber_128 : decode cX8_takeNumber 128 = .ok (.aload_n 0, 1) := by decide +kernel
theorem dX8_takeNumber_129 : decode cX8_takeNumber 129 = .ok (.aload_n 0, 1) := by decide +kernel
theorem dX8_takeNumber_130 : decode cX8_takeNumber 130 = .ok (.getfield 270, 3) := by decide +kernel
theorem dX8_takeNumber_133 : decode cX8_takeNumber 133 = .ok (.iload 5, 2) := by decide +kernel
theorem dX8_takeNumber_135 : decode cX8_takeNumber 135 = .ok (.isub, 1) := by decide +kernel
theorem dX8_takeNumber_136 : decode cX8_takeNumber 136 = .ok (.iconst 3, 1) := by decide +kernel
theorem dX8_takeNumber_137 : decode cX8_takeNumber 137 = .ok (.if_icmp .ge 26, 3) := by decide +kernel
theorem dX8_takeNumber_140 : decode cX8_takeNumber 140 = .ok (.iload 6, 2) := by decide +kernel
theorem dX8_takeNumber_142 : decode cX8_takeNumber 142 = .ok (.i2l, 1) := by decide +kernel
theorem dX8_takeNumber_143 : decode cX8_takeNumber 143 = .ok (.iload_n 1, 1) := by decide +kernel
theorem dX8_takeNumber_144 : decode cX8_takeNumber 144 = .ok (.i2l, 1) := by decide +kernel
theorem dX8_takeNumber_145 : decode cX8_takeNumber 145 = .ok (.iload_n 2, 1) := by decide +kernel
theorem dX8_takeNumber_146 : decode cX8_takeNumber 146 = .ok (.i2l, 1) := by decide +kernel
theorem dX8_takeNumber_147 : decode cX8_takeNumber 147 = .ok (.invokestatic 127, 3) := by decide +kernel
theorem dX8_takeNumber_150 : decode cX8_takeNumber 150 = .ok (.ifCond .eq 13, 3) := by decide +kernel
theorem dX8_takeNumber_153 : decode cX8_takeNumber 153 = .ok (.iload 6, 2) := by decide +kernel
theorem dX8_takeNumber_155 : decode cX8_takeNumber 155 = .ok (.iload_n 3, 1) := by decide +kernel
theorem dX8_takeNumber_156 : decode cX8_takeNumber 156 = .ok (.if_icmp .eq 7, 3) := by decide +kernel
theorem dX8_takeNumber_159 : decode cX8_takeNumber 159 = .ok (.iconst 1, 1) := by decide +kernel
theorem dX8_takeNumber_160 : decode cX8_takeNumber 160 = .ok (.goto 4, 3) := by decide +kernel
theorem dX8_takeNumber_163 : decode cX8_takeNumber 163 = .ok (.iconst 0, 1) := by decide +kernel
theorem dX8_takeNumber_164 : decode cX8_takeNumber 164 = .ok (.iconst 2, 1) := by decide +kernel
theorem dX8_takeNumber_165 : decode cX8_takeNumber 165 = .ok (.iload 5, 2) := by decide +kernel
theorem dX8_takeNumber_167 : decode cX8_takeNumber 167 = .ok (.invokevirtual 293, 3) := by decide +kernel
theorem dX8_takeNumber_170 : decode cX8_takeNumber 170 = .ok (.istore 7, 2) := by decide +kernel
theorem dX8_takeNumber_172 : decode cX8_takeNumber 172 = .ok (.iload 6, 2) := by decide +kernel
theorem dX8_takeNumber_174 : decode cX8_takeNumber 174 = .ok (.ireturn, 1) := by decide +kernel
theorem dX8_kindOf_0 : decode cX8_kindOf 0 = .ok (.aload_n 0, 1) := by decide +kernel
theorem dX8_kindOf_1 : decode cX8_kindOf 1 = .ok (.iconst 4, 1) := by decide +kernel
theorem dX8_kindOf_2 : decode cX8_kindOf 2 = .ok (.bipush 102, 2) := by decide +kernel
theorem dX8_kindOf_4 : decode cX8_kindOf 4 = .ok (.bipush 111, 2) := by decide +kernel
theorem dX8_kindOf_6 : decode cX8_kindOf 6 = .ok (.bipush 114, 2) := by decide +kernel
theorem dX8_kindOf_8 : decode cX8_kindOf 8 = .ok (.bipush 109, 2) := by decide +kernel
theorem dX8_kindOf_10 : decode cX8_kindOf 10 = .ok (.iconst 0, 1) := by decide +kernel
theorem dX8_kindOf_11 : decode cX8_kindOf 11 = .ok (.iconst 0, 1) := by decide +kernel
theorem dX8_kindOf_12 : decode cX8_kindOf 12 = .ok (.invokevirtual 297, 3) := by decide +kernel
theorem dX8_kindOf_15 : decode cX8_kindOf 15 = .ok (.ifCond .eq 5, 3) := by decide +kernel
theorem dX8_kindOf_18 : decode cX8_kindOf 18 = .ok (.iconst 0, 1) := by decide +kernel
theorem dX8_kindOf_19 : decode cX8_kindOf 19 = .ok (.ireturn, 1) := by decide +kernel
theorem dX8_kindOf_20 : decode cX8_kindOf 20 = .ok (.aload_n 0, 1) := by decide +kernel
theorem dX8_kindOf_21 : decode cX8_kindOf 21 = .ok (.iconst 5, 1) := by decide +kernel
theorem dX8_kindOf_22 : decode cX8_kindOf 22 = .ok (.bipush 111, 2) := by decide +kernel
theorem dX8_kindOf_24 : decode cX8_kindOf 24 = .ok (.bipush 114, 2) := by decide +kernel
theorem dX8_kindOf_26 : decode cX8_kindOf 26 = .ok (.bipush 100, 2) := by decide +kernel
theorem dX8_kindOf_28 : decode cX8_kindOf 28 = .ok (.bipush 101, 2) := by decide +kernel
theorem dX8_kindOf_30 : decode cX8_kindOf 30 = .ok (.bipush 114, 2) := by decide +kernel
theorem dX8_kindOf_32 : decode cX8_kindOf 32 = .ok (.iconst 0, 1) := by decide +kernel
theorem dX8_kindOf_33 : decode cX8_kindOf 33 = .ok (.invokevirtual 297, 3) := by decide +kernel
theorem dX8_kindOf_36 : decode cX8_kindOf 36 = .ok (.ifCond .eq 5, 3) := by decide +kernel
theorem dX8_kindOf_39 : decode cX8_kindOf 39 = .ok (.iconst 1, 1) := by decide +kernel
theorem dX8_kindOf_40 : decode cX8_kindOf 40 = .ok (.ireturn, 1) := by decide +kernel
theorem dX8_kindOf_41 : decode cX8_kindOf 41 = .ok (.aload_n 0, 1) := by decide +kernel
theorem dX8_kindOf_42 : decode cX8_kindOf 42 = .ok (.iconst 5, 1) := by decide +kernel
theorem dX8_kindOf_43 : decode cX8_kindOf 43 = .ok (.bipush 110, 2) := by decide +kernel
theorem dX8_kindOf_45 : decode cX8_kindOf 45 = .ok (.bipush 97, 2) := by decide +kernel
theorem dX8_kindOf_47 : decode cX8_kindOf 47 = .ok (.bipush 109, 2) := by decide +kernel
theorem dX8_kindOf_49 : decode cX8_kindOf 49 = .ok (.bipush 101, 2) := by decide +kernel
theorem dX8_kindOf_51 : decode cX8_kindOf 51 = .ok (.bipush 115, 2) := by decide +kernel
theorem dX8_kindOf_53 : decode cX8_kindOf 53 = .ok (.iconst 0, 1) := by decide +kernel
theorem dX8_kindOf_54 : decode cX8_kindOf 54 = .ok (.invokevirtual 297, 3) := by decide +kernel
theorem dX8_kindOf_57 : decode cX8_kindOf 57 = .ok (.ifCond .eq 5, 3) := by decide +kernel
theorem dX8_kindOf_60 : decode cX8_kindOf 60 = .ok (.iconst 2, 1) := by decide +kernel
theorem dX8_kindOf_61 : decode cX8_kindOf 61 = .ok (.ireturn, 1) := by decide +kernel
theorem dX8_kindOf_62 : decode cX8_kindOf 62 = .ok (.aload_n 0, 1) := by decide +kernel
theorem dX8_kindOf_63 : decode cX8_kindOf 63 = .ok (.iconst 5, 1) := by decide +kernel
theorem dX8_kindOf_64 : decode cX8_kindOf 64 = .ok (.bipush 97, 2) := by decide +kernel
theorem dX8_kindOf_66 : decode cX8_kindOf 66 = .ok (.bipush 103, 2) := by decide +kernel
theorem dX8_kindOf_68 : decode cX8_kindOf 68 = .ok (.bipush 97, 2) := by decide +kernel
theorem dX8_kindOf_70 : decode cX8_kindOf 70 = .ok (.bipush 105, 2) := by decide +kernel
theorem dX8_kindOf_72 : decode cX8_kindOf 72 = .ok (.bipush 110, 2) := by decide +kernel
theorem dX8_kindOf_74 : decode cX8_kindOf 74 = .ok (.iconst 0, 1) := by decide +kernel
theorem dX8_kindOf_75 : decode cX8_kindOf 75 = .ok (.invokevirtual 297, 3) := by decide +kernel
theorem dX8_kindOf_78 : decode cX8_kindOf 78 = .ok (.ifCond .eq 5, 3) := by decide +kernel
theorem dX8_kindOf_81 : decode cX8_kindOf 81 = .ok (.iconst 4, 1) := by decide +kernel
theorem dX8_kindOf_82 : decode cX8_kindOf 82 = .ok (.ireturn, 1) := by decide +kernel
theorem dX8_kindOf_83 : decode cX8_kindOf 83 = .ok (.aload_n 0, 1) := by decide +kernel
theorem dX8_kindOf_84 : decode cX8_kindOf 84 = .ok (.iconst 4, 1) := by decide +kernel
theorem dX8_kindOf_85 : decode cX8_kindOf 85 = .ok (.bipush 109, 2) := by decide +kernel
theorem dX8_kindOf_87 : decode cX8_kindOf 87 = .ok (.bipush 111, 2) := by decide +kernel
theorem dX8_kindOf_89 : decode cX8_kindOf 89 = .ok (.bipush 114, 2) := by decide +kernel
theorem dX8_kindOf_91 : decode cX8_kindOf 91 = .ok (.bipush 101, 2) := by decide +kernel
theorem dX8_kindOf_93 : decode cX8_kindOf 93 = .ok (.iconst 0, 1) := by decide +kernel
theorem dX8_kindOf_94 : decode cX8_kindOf 94 = .ok (.iconst 0, 1) := by decide +kernel
theorem dX8_kindOf_95 : decode cX8_kindOf 95 = .ok (.invokevirtual 297, 3) := by decide +kernel
theorem dX8_kindOf_98 : decode cX8_kindOf 98 = .ok (.ifCond .eq 5, 3) := by decide +kernel
theorem dX8_kindOf_101 : decode cX8_kindOf 101 = .ok (.iconst 5, 1) := by decide +kernel
theorem dX8_kindOf_102 : decode cX8_kindOf 102 = .ok (.ireturn, 1) := by decide +kernel
theorem dX8_kindOf_103 : decode cX8_kindOf 103 = .ok (.aload_n 0, 1) := by decide +kernel
theorem dX8_kindOf_104 : decode cX8_kindOf 104 = .ok (.getfield 286, 3) := by decide +kernel
theorem dX8_kindOf_107 : decode cX8_kindOf 107 = .ok (.bipush 8, 2) := by decide +kernel
theorem dX8_kindOf_109 : decode cX8_kindOf 109 = .ok (.if_icmp .ne 134, 3) := by decide +kernel
theorem dX8_kindOf_112 : decode cX8_kindOf 112 = .ok (.aload_n 0, 1) := by decide +kernel
theorem dX8_kindOf_113 : decode cX8_kindOf 113 = .ok (.getfield 102, 3) := by decide +kernel
theorem dX8_kindOf_116 : decode cX8_kindOf 116 = .ok (.aload_n 0, 1) := by decide +kernel
theorem dX8_kindOf_117 : decode cX8_kindOf 117 = .ok (.getfield 279, 3) := by decide +kernel
theorem dX8_kindOf_120 : decode cX8_kindOf 120 = .ok (.iaload, 1) := by decide +kernel
theorem dX8_kindOf_121 : decode cX8_kindOf 121 = .ok (.bipush 105, 2) := by decide +kernel
theorem dX8_kindOf_123 : decode cX8_kindOf 123 = .ok (.if_icmp .ne 120, 3) := by decide +kernel
theorem dX8_kindOf_126 : decode cX8_kindOf 126 = .ok (.aload_n 0, 1) := by decide +kernel
theorem dX8_kindOf_127 : decode cX8_kindOf 127 = .ok (.getfield 102, 3) := by decide +kernel
theorem dX8_kindOf_130 : decode cX8_kindOf 130 = .ok (.aload_n 0, 1) := by decide +kernel
theorem dX8_kindOf_131 : decode cX8_kindOf 131 = .ok (.getfield 279, 3) := by decide +kernel
theorem dX8_kindOf_134 : decode cX8_kindOf 134 = .ok (.iconst 1, 1) := by decide +kernel
theorem dX8_kindOf_135 : decode cX8_kindOf 135 = .ok (.iadd, 1) := by decide +kernel
theorem dX8_kindOf_136 : decode cX8_kindOf 136 = .ok (.iaload, 1) := by decide +kernel
theorem dX8_kindOf_137 : decode cX8_kindOf 137 = .ok (.bipush 110, 2) := by decide +kernel
theorem dX8_kindOf_139 : decode cX8_kindOf 139 = .ok (.if_icmp .ne 104, 3) := by decide +kernel
theorem dX8_kindOf_142 : decode cX8_kindOf 142 = .ok (.aload_n 0, 1) := by decide +kernel
theorem dX8_kindOf_143 : decode cX8_kindOf 143 = .ok (.getfield 102, 3) := by decide +kernel
theorem dX8_kindOf_146 : decode cX8_kindOf 146 = .ok (.aload_n 0, 1) := by decide +kernel
theorem dX8_kindOf_147 : decode cX8_kindOf 147 = .ok (.getfield 279, 3) := by decide +kernel
theorem dX8_kindOf_150 : decode cX8_kindOf 150 = .ok (.iconst 2, 1) := by decide +kernel
theorem dX8_kindOf_151 : decode cX8_kindOf 151 = .ok (.iadd, 1) := by decide +kernel
theorem dX8_kindOf_152 : decode cX8_kindOf 152 = .ok (.iaload, 1) := by decide +kernel
theorem dX8_kindOf_153 : decode cX8_kindOf 153 = .ok (.bipush 105, 2) := by decide +kernel
theorem dX8_kindOf_155 : decode cX8_kindOf 155 = .ok (.if_icmp .ne 88, 3) := by decide +kernel
theorem dX8_kindOf_158 : decode cX8_kindOf 158 = .ok (.aload_n 0, 1) := by decide +kernel
theorem dX8_kindOf_159 : decode cX8_kindOf 159 = .ok (.getfield 102, 3) := by decide +kernel
theorem dX8_kindOf_162 : decode cX8_kindOf 162 = .ok (.aload_n 0, 1) := by decide +kernel
theorem dX8_kindOf_163 : decode cX8_kindOf 163 = .ok (.getfield 279, 3) := by decide +kernel
theorem dX8_kindOf_166 : decode cX8_kindOf 166 = .ok (.iconst 3, 1) := by decide +kernel
theorem dX8_kindOf_167 : decode cX8_kindOf 167 = .ok (.iadd, 1) := by decide +kernel
theorem dX8_kindOf_168 : decode cX8_kindOf 168 = .ok (.iaload, 1) := by decide +kernel
theorem dX8_kindOf_169 : decode cX8_kindOf 169 = .ok (.bipush 116, 2) := by decide +kernel
theorem dX8_kindOf_171 : decode cX8_kindOf 171 = .ok (.if_icmp .ne 72, 3) := by decide +kernel
theorem dX8_kindOf_174 : decode cX8_kindOf 174 = .ok (.aload_n 0, 1) := by decide +kernel
theorem dX8_kindOf_175 : decode cX8_kindOf 175 = .ok (.getfield 102, 3) := by decide +kernel
theorem dX8_kindOf_178 : decode cX8_kindOf 178 = .ok (.aload_n 0, 1) := by decide +kernel
theorem dX8_kindOf_179 : decode cX8_kindOf 179 = .ok (.getfield 279, 3) := by decide +kernel
theorem dX8_kindOf_182 : decode cX8_kindOf 182 = .ok (.iconst 4, 1) := by decide +kernel
theorem dX8_kindOf_183 : decode cX8_kindOf 183 = .ok (.iadd, 1) := by decide +kernel
theorem dX8_kindOf_184 : decode cX8_kindOf 184 = .ok (.iaload, 1) := by decide +kernel
theorem dX8_kindOf_185 : decode cX8_kindOf 185 = .ok (.bipush 105, 2) := by decide +kernel
theorem dX8_kindOf_187 : decode cX8_kindOf 187 = .ok (.if_icmp .ne 56, 3) := by decide +kernel
theorem dX8_kindOf_190 : decode cX8_kindOf 190 = .ok (.aload_n 0, 1) := by decide +kernel
theorem dX8_kindOf_191 : decode cX8_kindOf 191 = .ok (.getfield 102, 3) := by decide +kernel
theorem dX8_kindOf_194 : decode cX8_kindOf 194 = .ok (.aload_n 0, 1) := by decide +kernel
theorem dX8_kindOf_195 : decode cX8_kindOf 195 = .ok (.getfield 279, 3) := by decide +kernel
theorem dX8_kindOf_198 : decode cX8_kindOf 198 = .ok (.iconst 5, 1) := by decide +kernel
theorem dX8_kindOf_199 : decode cX8_kindOf 199 = .ok (.iadd, 1) := by decide +kernel
theorem dX8_kindOf_200 : decode cX8_kindOf 200 = .ok (.iaload, 1) := by decide +kernel
theorem dX8_kindOf_201 : decode cX8_kindOf 201 = .ok (.bipush 97, 2) := by decide +kernel
theorem dX8_kindOf_203 : decode cX8_kindOf 203 = .ok (.if_icmp .ne 40, 3) := by decide +kernel
theorem dX8_kindOf_206 : decode cX8_kindOf 206 = .ok (.aload_n 0, 1) := by decide +kernel
theorem dX8_kindOf_207 : decode cX8_kindOf 207 = .ok (.getfield 102, 3) := by decide +kernel
theorem dX8_kindOf_210 : decode cX8_kindOf 210 = .ok (.aload_n 0, 1) := by decide +kernel
theorem dX8_kindOf_211 : decode cX8_kindOf 211 = .ok (.getfield 279, 3) := by decide +kernel
theorem dX8_kindOf_214 : decode cX8_kindOf 214 = .ok (.bipush 6, 2) := by decide +kernel
theorem dX8_kindOf_216 : decode cX8_kindOf 216 = .ok (.iadd, 1) := by decide +kernel
theorem dX8_kindOf_217 : decode cX8_kindOf 217 = .ok (.iaload, 1) := by decide +kernel
theorem dX8_kindOf_218 : decode cX8_kindOf 218 = .ok (.bipush 108, 2) := by decide +kernel
theorem dX8_kindOf_220 : decode cX8_kindOf 220 = .ok (.if_icmp .ne 23, 3) := by decide +kernel
theorem dX8_kindOf_223 : decode cX8_kindOf 223 = .ok (.aload_n 0, 1) := by decide +kernel
theorem dX8_kindOf_224 : decode cX8_kindOf 224 = .ok (.getfield 102, 3) := by decide +kernel
theorem dX8_kindOf_227 : decode cX8_kindOf 227 = .ok (.aload_n 0, 1) := by decide +kernel
theorem dX8_kindOf_228 : decode cX8_kindOf 228 = .ok (.getfield 279, 3) := by decide +kernel
theorem dX8_kindOf_231 : decode cX8_kindOf 231 = .ok (.bipush 7, 2) := by decide +kernel
theorem dX8_kindOf_233 : decode cX8_kindOf 233 = .ok (.iadd, 1) := by decide +kernel
theorem dX8_kindOf_234 : decode cX8_kindOf 234 = .ok (.iaload, 1) := by decide +kernel
theorem dX8_kindOf_235 : decode cX8_kindOf 235 = .ok (.bipush 115, 2) := by decide +kernel
theorem dX8_kindOf_237 : decode cX8_kindOf 237 = .ok (.if_icmp .ne 6, 3) := by decide +kernel
theorem dX8_kindOf_240 : decode cX8_kindOf 240 = .ok (.bipush 6, 2) := by decide +kernel
theorem dX8_kindOf_242 : decode cX8_kindOf 242 = .ok (.ireturn, 1) := by decide +kernel
theorem dX8_kindOf_243 : decode cX8_kindOf 243 = .ok (.aload_n 0, 1) := by decide +kernel
theorem dX8_kindOf_244 : decode cX8_kindOf 244 = .ok (.getfield 286, 3) := by decide +kernel
theorem dX8_kindOf_247 : decode cX8_kindOf 247 = .ok (.bipush 7, 2) := by decide +kernel
theorem dX8_kindOf_249 : decode cX8_kindOf 249 = .ok (.if_icmp .ne 117, 3) := by decide +kernel
theorem dX8_kindOf_252 : decode cX8_kindOf 252 = .ok (.aload_n 0, 1) := by decide +kernel
theorem dX8_kindOf_253 : decode cX8_kindOf 253 = .ok (.getfield 102, 3) := by decide +kernel
theorem dX8_kindOf_256 : decode cX8_kindOf 256 = .ok (.aload_n 0, 1) := by decide +kernel
theorem dX8_kindOf_257 : decode cX8_kindOf 257 = .ok (.getfield 279, 3) := by decide +kernel
theorem dX8_kindOf_260 : decode cX8_kindOf 260 = .ok (.iaload, 1) := by decide +kernel
theorem dX8_kindOf_261 : decode cX8_kindOf 261 = .ok (.bipush 108, 2) := by decide +kernel
theorem dX8_kindOf_263 : decode cX8_kindOf 263 = .ok (.if_icmp .ne 103, 3) := by decide +kernel
theorem dX8_kindOf_266 : decode cX8_kindOf 266 = .ok (.aload_n 0, 1) := by decide +kernel
theorem dX8_kindOf_267 : decode cX8_kindOf 267 = .ok (.getfield 102, 3) := by decide +kernel
theorem dX8_kindOf_270 : decode cX8_kindOf 270 = .ok (.aload_n 0, 1) := by decide +kernel
theorem dX8_kindOf_271 : decode cX8_kindOf 271 = .ok (.getfield 279, 3) := by decide +kernel
theorem dX8_kindOf_274 : decode cX8_kindOf 274 = .ok (.iconst 1, 1) := by decide +kernel
theorem dX8_kindOf_275 : decode cX8_kindOf 275 = .ok (.iadd, 1) := by decide +kernel
theorem dX8_kindOf_276 : decode cX8_kindOf 276 = .ok (.iaload, 1) := by decide +kernel
theorem dX8_kindOf_277 : decode cX8_kindOf 277 = .ok (.bipush 101, 2) := by decide +kernel
theorem dX8_kindOf_279 : decode cX8_kindOf 279 = .ok (.if_icmp .ne 87, 3) := by decide +kernel
theorem dX8_kindOf_282 : decode cX8_kindOf 282 = .ok (.aload_n 0, 1) := by decide +kernel
theorem dX8_kindOf_283 : decode cX8_kindOf 283 = .ok (.getfield 102, 3) := by decide +kernel
theorem dX8_kindOf_286 : decode cX8_kindOf 286 = .ok (.aload_n 0, 1) := by decide +kernel
theorem dX8_kindOf_287 : decode cX8_kindOf 287 = .ok (.getfield 279, 3) := by decide +kernel
theorem dX8_kindOf_290 : decode cX8_kindOf 290 = .ok (.iconst 2, 1) := by decide +kernel
theorem dX8_kindOf_291 : decode cX8_kindOf 291 = .ok (.iadd, 1) := by decide +kernel
theorem dX8_kindOf_292 : decode cX8_kindOf 292 = .ok (.iaload, 1) := by decide +kernel
theorem dX8_kindOf_293 : decode cX8_kindOf 293 = .ok (.bipush 116, 2) := by decide +kernel
theorem dX8_kindOf_295 : decode cX8_kindOf 295 = .ok (.if_icmp .ne 71, 3) := by decide +kernel
theorem dX8_kindOf_298 : decode cX8_kindOf 298 = .ok (.aload_n 0, 1) := by decide +kernel
theorem dX8_kindOf_299 : decode cX8_kindOf 299 = .ok (.getfield 102, 3) := by decide +kernel
theorem dX8_kindOf_302 : decode cX8_kindOf 302 = .ok (.aload_n 0, 1) := by decide +kernel
theorem dX8_kindOf_303 : decode cX8_kindOf 303 = .ok (.getfield 279, 3) := by decide +kernel
theorem dX8_kindOf_306 : decode cX8_kindOf 306 = .ok (.iconst 3, 1) := by decide +kernel
theorem dX8_kindOf_307 : decode cX8_kindOf 307 = .ok (.iadd, 1) := by decide +kernel
theorem dX8_kindOf_308 : decode cX8_kindOf 308 = .ok (.iaload, 1) := by decide +kernel
theorem dX8_kindOf_309 : decode cX8_kindOf 309 = .ok (.bipush 116, 2) := by decide +kernel
theorem dX8_kindOf_311 : decode cX8_kindOf 311 = .ok (.if_icmp .ne 55, 3) := by decide +kernel
theorem dX8_kindOf_314 : decode cX8_kindOf 314 = .ok (.aload_n 0, 1) := by decide +kernel
theorem dX8_kindOf_315 : decode cX8_kindOf 315 = .ok (.getfield 102, 3) := by decide +kernel
theorem dX8_kindOf_318 : decode cX8_kindOf 318 = .ok (.aload_n 0, 1) := by decide +kernel
theorem dX8_kindOf_319 : decode cX8_kindOf 319 = .ok (.getfield 279, 3) := by decide +kernel
theorem dX8_kindOf_322 : decode cX8_kindOf 322 = .ok (.iconst 4, 1) := by decide +kernel
theorem dX8_kindOf_323 : decode cX8_kindOf 323 = .ok (.iadd, 1) := by decide +kernel
theorem dX8_kindOf_324 : decode cX8_kindOf 324 = .ok (.iaload, 1) := by decide +kernel
theorem dX8_kindOf_325 : decode cX8_kindOf 325 = .ok (.bipush 101, 2) := by decide +kernel
theorem dX8_kindOf_327 : decode cX8_kindOf 327 = .ok (.if_icmp .ne 39, 3) := by decide +kernel
theorem dX8_kindOf_330 : decode cX8_kindOf 330 = .ok (.aload_n 0, 1) := by decide +kernel
theorem dX8_kindOf_331 : decode cX8_kindOf 331 = .ok (.getfield 102, 3) := by decide +kernel
theorem dX8_kindOf_334 : decode cX8_kindOf 334 = .ok (.aload_n 0, 1) := by decide +kernel
theorem dX8_kindOf_335 : decode cX8_kindOf 335 = .ok (.getfield 279, 3) := by decide +kernel
theorem dX8_kindOf_338 : decode cX8_kindOf 338 = .ok (.iconst 5, 1) := by decide +kernel
theorem dX8_kindOf_339 : decode cX8_kindOf 339 = .ok (.iadd, 1) := by decide +kernel
theorem dX8_kindOf_340 : decode cX8_kindOf 340 = .ok (.iaload, 1) := by decide +kernel
theorem dX8_kindOf_341 : decode cX8_kindOf 341 = .ok (.bipush 114, 2) := by decide +kernel
theorem dX8_kindOf_343 : decode cX8_kindOf 343 = .ok (.if_icmp .ne 23, 3) := by decide +kernel
theorem dX8_kindOf_346 : decode cX8_kindOf 346 = .ok (.aload_n 0, 1) := by decide +kernel
theorem dX8_kindOf_347 : decode cX8_kindOf 347 = .ok (.getfield 102, 3) := by decide +kernel
theorem dX8_kindOf_350 : decode cX8_kindOf 350 = .ok (.aload_n 0, 1) := by decide +kernel
theorem dX8_kindOf_351 : decode cX8_kindOf 351 = .ok (.getfield 279, 3) := by decide +kernel
theorem dX8_kindOf_354 : decode cX8_kindOf 354 = .ok (.bipush 6, 2) := by decide +kernel
theorem dX8_kindOf_356 : decode cX8_kindOf 356 = .ok (.iadd, 1) := by decide +kernel
theorem dX8_kindOf_357 : decode cX8_kindOf 357 = .ok (.iaload, 1) := by decide +kernel
theorem dX8_kindOf_358 : decode cX8_kindOf 358 = .ok (.bipush 115, 2) := by decide +kernel
theorem dX8_kindOf_360 : decode cX8_kindOf 360 = .ok (.if_icmp .ne 6, 3) := by decide +kernel
theorem dX8_kindOf_363 : decode cX8_kindOf 363 = .ok (.bipush 7, 2) := by decide +kernel
theorem dX8_kindOf_365 : decode cX8_kindOf 365 = .ok (.ireturn, 1) := by decide +kernel
theorem dX8_kindOf_366 : decode cX8_kindOf 366 = .ok (.aload_n 0, 1) := by decide +kernel
theorem dX8_kindOf_367 : decode cX8_kindOf 367 = .ok (.iconst 3, 1) := by decide +kernel
theorem dX8_kindOf_368 : decode cX8_kindOf 368 = .ok (.bipush 114, 2) := by decide +kernel
theorem dX8_kindOf_370 : decode cX8_kindOf 370 = .ok (.bipush 117, 2) := by decide +kernel
theorem dX8_kindOf_372 : decode cX8_kindOf 372 = .ok (.bipush 110, 2) := by decide +kernel
theorem dX8_kindOf_374 : decode cX8_kindOf 374 = .ok (.iconst 0, 1) := by decide +kernel
theorem dX8_kindOf_375 : decode cX8_kindOf 375 = .ok (.iconst 0, 1) := by decide +kernel
theorem dX8_kindOf_376 : decode cX8_kindOf 376 = .ok (.iconst 0, 1) := by decide +kernel
theorem dX8_kindOf_377 : decode cX8_kindOf 377 = .ok (.invokevirtual 297, 3) := by decide +kernel
theorem dX8_kindOf_380 : decode cX8_kindOf 380 = .ok (.ifCond .eq 6, 3) := by decide +kernel
theorem dX8_kindOf_383 : decode cX8_kindOf 383 = .ok (.bipush 8, 2) := by decide +kernel
theorem dX8_kindOf_385 : decode cX8_kindOf 385 = .ok (.ireturn, 1) := by decide +kernel
theorem dX8_kindOf_386 : decode cX8_kindOf 386 = .ok (.aload_n 0, 1) := by decide +kernel
theorem dX8_kindOf_387 : decode cX8_kindOf 387 = .ok (.iconst 5, 1) := by decide +kernel
theorem dX8_kindOf_388 : decode cX8_kindOf 388 = .ok (.bipush 112, 2) := by decide +kernel
theorem dX8_kindOf_390 : decode cX8_kindOf 390 = .ok (.bipush 97, 2) := by decide +kernel
theorem dX8_kindOf_392 : decode cX8_kindOf 392 = .ok (.bipush 103, 2) := by decide +kernel
theorem dX8_kindOf_394 : decode cX8_kindOf 394 = .ok (.bipush 101, 2) := by decide +kernel
theorem dX8_kindOf_396 : decode cX8_kindOf 396 = .ok (.bipush 115, 2) := by decide +kernel
theorem dX8_kindOf_398 : decode cX8_kindOf 398 = .ok (.iconst 0, 1) := by decide +kernel
theorem dX8_kindOf_399 : decode cX8_kindOf 399 = .ok (.invokevirtual 297, 3) := by decide +kernel
theorem dX8_kindOf_402 : decode cX8_kindOf 402 = .ok (.ifCond .eq 8, 3) := by decide +kernel
theorem dX8_kindOf_405 : decode cX8_kindOf 405 = .ok (.bipush 9, 2) := by decide +kernel
theorem dX8_kindOf_407 : decode cX8_kindOf 407 = .ok (.goto 4, 3) := by decide +kernel
theorem dX8_kindOf_410 : decode cX8_kindOf 410 = .ok (.iconst (-1), 1) := by decide +kernel
theorem dX8_kindOf_411 : decode cX8_kindOf 411 = .ok (.ireturn, 1) := by decide +kernel
theorem dX8_wordOf_0 : decode cX8_wordOf 0 = .ok (.iload_n 1, 1) := by decide +kernel
theorem dX8_wordOf_1 : decode cX8_wordOf 1 = .ok (.ifCond .ne 74, 3) := by decide +kernel
theorem dX8_wordOf_4 : decode cX8_wordOf 4 = .ok (.aload_n 0, 1) := by decide +kernel
theorem dX8_wordOf_5 : decode cX8_wordOf 5 = .ok (.iconst 4, 1) := by decide +kernel
theorem dX8_wordOf_6 : decode cX8_wordOf 6 = .ok (.bipush 110, 2) := by decide +kernel
theorem dX8_wordOf_8 : decode cX8_wordOf 8 = .ok (.bipush 111, 2) := by decide +kernel
theorem dX8_wordOf_10 : decode cX8_wordOf 10 = .ok (.bipush 116, 2) := by decide +kernel
theorem dX8_wordOf_12 : decode cX8_wordOf 12 = .ok (.bipush 101, 2) := by decide +kernel
theorem dX8_wordOf_14 : decode cX8_wordOf 14 = .ok (.iconst 0, 1) := by decide +kernel
theorem dX8_wordOf_15 : decode cX8_wordOf 15 = .ok (.iconst 0, 1) := by decide +kernel
theorem dX8_wordOf_16 : decode cX8_wordOf 16 = .ok (.invokevirtual 297, 3) := by decide +kernel
theorem dX8_wordOf_19 : decode cX8_wordOf 19 = .ok (.ifCond .eq 7, 3) := by decide +kernel
theorem dX8_wordOf_22 : decode cX8_wordOf 22 = .ok (.iconst 0, 1) := by decide +kernel
theorem dX8_wordOf_23 : decode cX8_wordOf 23 = .ok (.goto 51, 3) := by decide +kernel
theorem dX8_wordOf_26 : decode cX8_wordOf 26 = .ok (.aload_n 0, 1) := by decide +kernel
theorem dX8_wordOf_27 : decode cX8_wordOf 27 = .ok (.iconst 4, 1) := by decide +kernel
theorem dX8_wordOf_28 : decode cX8_wordOf 28 = .ok (.bipush 110, 2) := by decide +kernel
theorem dX8_wordOf_30 : decode cX8_wordOf 30 = .ok (.bipush 97, 2) := by decide +kernel
theorem dX8_wordOf_32 : decode cX8_wordOf 32 = .ok (.bipush 109, 2) := by decide +kernel
theorem dX8_wordOf_34 : decode cX8_wordOf 34 = .ok (.bipush 101, 2) := by decide +kernel
theorem dX8_wordOf_36 : decode cX8_wordOf 36 = .ok (.iconst 0, 1) := by decide +kernel
theorem dX8_wordOf_37 : decode cX8_wordOf 37 = .ok (.iconst 0, 1) := by decide +kernel
theorem dX8_wordOf_38 : decode cX8_wordOf 38 = .ok (.invokevirtual 297, 3) := by decide +kernel
theorem dX8_wordOf_41 : decode cX8_wordOf 41 = .ok (.ifCond .eq 7, 3) := by decide +kernel
theorem dX8_wordOf_44 : decode cX8_wordOf 44 = .ok (.iconst 1, 1) := by decide +kernel
theorem dX8_wordOf_45 : decode cX8_wordOf 45 = .ok (.goto 29, 3) := by decide +kernel
theorem dX8_wordOf_48 : decode cX8_wordOf 48 = .ok (.aload_n 0, 1) := by decide +kernel
theorem dX8_wordOf_49 : decode cX8_wordOf 49 = .ok (.bipush 6, 2) := by decide +kernel
theorem dX8_wordOf_51 : decode cX8_wordOf 51 = .ok (.bipush 110, 2) := by decide +kernel
theorem dX8_wordOf_53 : decode cX8_wordOf 53 = .ok (.bipush 117, 2) := by decide +kernel
theorem dX8_wordOf_55 : decode cX8_wordOf 55 = .ok (.bipush 109, 2) := by decide +kernel
theorem dX8_wordOf_57 : decode cX8_wordOf 57 = .ok (.bipush 98, 2) := by decide +kernel
theorem dX8_wordOf_59 : decode cX8_wordOf 59 = .ok (.bipush 101, 2) := by decide +kernel
theorem dX8_wordOf_61 : decode cX8_wordOf 61 = .ok (.bipush 114, 2) := by decide +kernel
theorem dX8_wordOf_63 : decode cX8_wordOf 63 = .ok (.invokevirtual 297, 3) := by decide +kernel
theorem dX8_wordOf_66 : decode cX8_wordOf 66 = .ok (.ifCond .eq 7, 3) := by decide +kernel
theorem dX8_wordOf_69 : decode cX8_wordOf 69 = .ok (.iconst 2, 1) := by decide +kernel
theorem dX8_wordOf_70 : decode cX8_wordOf 70 = .ok (.goto 4, 3) := by decide +kernel
theorem dX8_wordOf_73 : decode cX8_wordOf 73 = .ok (.iconst (-1), 1) := by decide +kernel
theorem dX8_wordOf_74 : decode cX8_wordOf 74 = .ok (.ireturn, 1) := by decide +kernel
theorem dX8_wordOf_75 : decode cX8_wordOf 75 = .ok (.iload_n 1, 1) := by decide +kernel
theorem dX8_wordOf_76 : decode cX8_wordOf 76 = .ok (.iconst 1, 1) := by decide +kernel
theorem dX8_wordOf_77 : decode cX8_wordOf 77 = .ok (.if_icmp .ne 72, 3) := by decide +kernel
theorem dX8_wordOf_80 : decode cX8_wordOf 80 = .ok (.aload_n 0, 1) := by decide +kernel
theorem dX8_wordOf_81 : decode cX8_wordOf 81 = .ok (.iconst 5, 1) := by decide +kernel
theorem dX8_wordOf_82 : decode cX8_wordOf 82 = .ok (.bipush 99, 2) := by decide +kernel
theorem dX8_wordOf_84 : decode cX8_wordOf 84 = .ok (.bipush 105, 2) := by decide +kernel
theorem dX8_wordOf_86 : decode cX8_wordOf 86 = .ok (.bipush 116, 2) := by decide +kernel
theorem dX8_wordOf_88 : decode cX8_wordOf 88 = .ok (.bipush 101, 2) := by decide +kernel
theorem dX8_wordOf_90 : decode cX8_wordOf 90 = .ok (.bipush 100, 2) := by decide +kernel
theorem dX8_wordOf_92 : decode cX8_wordOf 92 = .ok (.iconst 0, 1) := by decide +kernel
theorem dX8_wordOf_93 : decode cX8_wordOf 93 = .ok (.invokevirtual 297, 3) := by decide +kernel
theorem dX8_wordOf_96 : decode cX8_wordOf 96 = .ok (.ifCond .eq 7, 3) := by decide +kernel
theorem dX8_wordOf_99 : decode cX8_wordOf 99 = .ok (.iconst 0, 1) := by decide +kernel
theorem dX8_wordOf_100 : decode cX8_wordOf 100 = .ok (.goto 48, 3) := by decide +kernel
theorem dX8_wordOf_103 : decode cX8_wordOf 103 = .ok (.aload_n 0, 1) := by decide +kernel
theorem dX8_wordOf_104 : decode cX8_wordOf 104 = .ok (.iconst 4, 1) := by decide +kernel
theorem dX8_wordOf_105 : decode cX8_wordOf 105 = .ok (.bipush 110, 2) := by decide +kernel
theorem dX8_wordOf_107 : decode cX8_wordOf 107 = .ok (.bipush 97, 2) := by decide +kernel
theorem dX8_wordOf_109 : decode cX8_wordOf 109 = .ok (.bipush 109, 2) := by decide +kernel
theorem dX8_wordOf_111 : decode cX8_wordOf 111 = .ok (.bipush 101, 2) := by decide +kernel
theorem dX8_wordOf_113 : decode cX8_wordOf 113 = .ok (.iconst 0, 1) := by decide +kernel
theorem dX8_wordOf_114 : decode cX8_wordOf 114 = .ok (.iconst 0, 1) := by decide +kernel
theorem dX8_wordOf_115 : decode cX8_wordOf 115 = .ok (.invokevirtual 297, 3) := by decide +kernel
theorem dX8_wordOf_118 : decode cX8_wordOf 118 = .ok (.ifCond .eq 7, 3) := by decide +kernel
theorem dX8_wordOf_121 : decode cX8_wordOf 121 = .ok (.iconst 1, 1) := by decide +kernel
theorem dX8_wordOf_122 : decode cX8_wordOf 122 = .ok (.goto 26, 3) := by decide +kernel
theorem dX8_wordOf_125 : decode cX8_wordOf 125 = .ok (.aload_n 0, 1) := by decide +kernel
theorem dX8_wordOf_126 : decode cX8_wordOf 126 = .ok (.iconst 4, 1) := by decide +kernel
theorem dX8_wordOf_127 : decode cX8_wordOf 127 = .ok (.bipush 121, 2) := by decide +kernel
theorem dX8_wordOf_129 : decode cX8_wordOf 129 = .ok (.bipush 101, 2) := by decide +kernel
theorem dX8_wordOf_131 : decode cX8_wordOf 131 = .ok (.bipush 97, 2) := by decide +kernel
theorem dX8_wordOf_133 : decode cX8_wordOf 133 = .ok (.bipush 114, 2) := by decide +kernel
theorem dX8_wordOf_135 : decode cX8_wordOf 135 = .ok (.iconst 0, 1) := by decide +kernel
theorem dX8_wordOf_136 : decode cX8_wordOf 136 = .ok (.iconst 0, 1) := by decide +kernel
theorem dX8_wordOf_137 : decode cX8_wordOf 137 = .ok (.invokevirtual 297, 3) := by decide +kernel
theorem dX8_wordOf_140 : decode cX8_wordOf 140 = .ok (.ifCond .eq 7, 3) := by decide +kernel
theorem dX8_wordOf_143 : decode cX8_wordOf 143 = .ok (.iconst 2, 1) := by decide +kernel
theorem dX8_wordOf_144 : decode cX8_wordOf 144 = .ok (.goto 4, 3) := by decide +kernel
theorem dX8_wordOf_147 : decode cX8_wordOf 147 = .ok (.iconst (-1), 1) := by decide +kernel
theorem dX8_wordOf_148 : decode cX8_wordOf 148 = .ok (.ireturn, 1) := by decide +kernel
theorem dX8_wordOf_149 : decode cX8_wordOf 149 = .ok (.iload_n 1, 1) := by decide +kernel
theorem dX8_wordOf_150 : decode cX8_wordOf 150 = .ok (.bipush 9, 2) := by decide +kernel
theorem dX8_wordOf_152 : decode cX8_wordOf 152 = .ok (.if_icmp .ne 50, 3) := by decide +kernel
theorem dX8_wordOf_155 : decode cX8_wordOf 155 = .ok (.aload_n 0, 1) := by decide +kernel
theorem dX8_wordOf_156 : decode cX8_wordOf 156 = .ok (.iconst 4, 1) := by decide +kernel
theorem dX8_wordOf_157 : decode cX8_wordOf 157 = .ok (.bipush 102, 2) := by decide +kernel
theorem dX8_wordOf_159 : decode cX8_wordOf 159 = .ok (.bipush 117, 2) := by decide +kernel
theorem dX8_wordOf_161 : decode cX8_wordOf 161 = .ok (.bipush 108, 2) := by decide +kernel
theorem dX8_wordOf_163 : decode cX8_wordOf 163 = .ok (.bipush 108, 2) := by decide +kernel
theorem dX8_wordOf_165 : decode cX8_wordOf 165 = .ok (.iconst 0, 1) := by decide +kernel
theorem dX8_wordOf_166 : decode cX8_wordOf 166 = .ok (.iconst 0, 1) := by decide +kernel
theorem dX8_wordOf_167 : decode cX8_wordOf 167 = .ok (.invokevirtual 297, 3) := by decide +kernel
theorem dX8_wordOf_170 : decode cX8_wordOf 170 = .ok (.ifCond .eq 7, 3) := by decide +kernel
theorem dX8_wordOf_173 : decode cX8_wordOf 173 = .ok (.iconst 0, 1) := by decide +kernel
theorem dX8_wordOf_174 : decode cX8_wordOf 174 = .ok (.goto 27, 3) := by decide +kernel
theorem dX8_wordOf_177 : decode cX8_wordOf 177 = .ok (.aload_n 0, 1) := by decide +kernel
theorem dX8_wordOf_178 : decode cX8_wordOf 178 = .ok (.iconst 5, 1) := by decide +kernel
theorem dX8_wordOf_179 : decode cX8_wordOf 179 = .ok (.bipush 115, 2) := by decide +kernel
theorem dX8_wordOf_181 : decode cX8_wordOf 181 = .ok (.bipush 104, 2) := by decide +kernel
theorem dX8_wordOf_183 : decode cX8_wordOf 183 = .ok (.bipush 111, 2) := by decide +kernel
theorem dX8_wordOf_185 : decode cX8_wordOf 185 = .ok (.bipush 114, 2) := by decide +kernel
theorem dX8_wordOf_187 : decode cX8_wordOf 187 = .ok (.bipush 116, 2) := by decide +kernel
theorem dX8_wordOf_189 : decode cX8_wordOf 189 = .ok (.iconst 0, 1) := by decide +kernel
theorem dX8_wordOf_190 : decode cX8_wordOf 190 = .ok (.invokevirtual 297, 3) := by decide +kernel
theorem dX8_wordOf_193 : decode cX8_wordOf 193 = .ok (.ifCond .eq 7, 3) := by decide +kernel
theorem dX8_wordOf_196 : decode cX8_wordOf 196 = .ok (.iconst 1, 1) := by decide +kernel
theorem dX8_wordOf_197 : decode cX8_wordOf 197 = .ok (.goto 4, 3) := by decide +kernel
theorem dX8_wordOf_200 : decode cX8_wordOf 200 = .ok (.iconst (-1), 1) := by decide +kernel
theorem dX8_wordOf_201 : decode cX8_wordOf 201 = .ok (.ireturn, 1) := by decide +kernel
theorem dX8_wordOf_202 : decode cX8_wordOf 202 = .ok (.aload_n 0, 1) := by decide +kernel
theorem dX8_wordOf_203 : decode cX8_wordOf 203 = .ok (.iconst 2, 1) := by decide +kernel
theorem dX8_wordOf_204 : decode cX8_wordOf 204 = .ok (.bipush 110, 2) := by decide +kernel
theorem dX8_wordOf_206 : decode cX8_wordOf 206 = .ok (.bipush 111, 2) := by decide +kernel
theorem dX8_wordOf_208 : decode cX8_wordOf 208 = .ok (.iconst 0, 1) := by decide +kernel
theorem dX8_wordOf_209 : decode cX8_wordOf 209 = .ok (.iconst 0, 1) := by decide +kernel
theorem dX8_wordOf_210 : decode cX8_wordOf 210 = .ok (.iconst 0, 1) := by decide +kernel
theorem dX8_wordOf_211 : decode cX8_wordOf 211 = .ok (.iconst 0, 1) := by decide +kernel
theorem dX8_wordOf_212 : decode cX8_wordOf 212 = .ok (.invokevirtual 297, 3) := by decide +kernel
theorem dX8_wordOf_215 : decode cX8_wordOf 215 = .ok (.ifCond .eq 7, 3) := by decide +kernel
theorem dX8_wordOf_218 : decode cX8_wordOf 218 = .ok (.iconst 0, 1) := by decide +kernel
theorem dX8_wordOf_219 : decode cX8_wordOf 219 = .ok (.goto 25, 3) := by decide +kernel
theorem dX8_wordOf_222 : decode cX8_wordOf 222 = .ok (.aload_n 0, 1) := by decide +kernel
theorem dX8_wordOf_223 : decode cX8_wordOf 223 = .ok (.iconst 3, 1) := by decide +kernel
theorem dX8_wordOf_224 : decode cX8_wordOf 224 = .ok (.bipush 121, 2) := by decide +kernel
theorem dX8_wordOf_226 : decode cX8_wordOf 226 = .ok (.bipush 101, 2) := by decide +kernel
theorem dX8_wordOf_228 : decode cX8_wordOf 228 = .ok (.bipush 115, 2) := by decide +kernel
theorem dX8_wordOf_230 : decode cX8_wordOf 230 = .ok (.iconst 0, 1) := by decide +kernel
theorem dX8_wordOf_231 : decode cX8_wordOf 231 = .ok (.iconst 0, 1) := by decide +kernel
theorem dX8_wordOf_232 : decode cX8_wordOf 232 = .ok (.iconst 0, 1) := by decide +kernel
theorem dX8_wordOf_233 : decode cX8_wordOf 233 = .ok (.invokevirtual 297, 3) := by decide +kernel
theorem dX8_wordOf_236 : decode cX8_wordOf 236 = .ok (.ifCond .eq 7, 3) := by decide +kernel
theorem dX8_wordOf_239 : decode cX8_wordOf 239 = .ok (.iconst 1, 1) := by decide +kernel
theorem dX8_wordOf_240 : decode cX8_wordOf 240 = .ok (.goto 4, 3) := by decide +kernel
theorem dX8_wordOf_243 : decode cX8_wordOf 243 = .ok (.iconst (-1), 1) := by decide +kernel
theorem dX8_wordOf_244 : decode cX8_wordOf 244 = .ok (.ireturn, 1) := by decide +kernel
theorem dX8_readClause_0 : decode cX8_readClause 0 = .ok (.iload_n 1, 1) := by decide +kernel
theorem dX8_readClause_1 : decode cX8_readClause 1 = .ok (.iconst 2, 1) := by decide +kernel
theorem dX8_readClause_2 : decode cX8_readClause 2 = .ok (.if_icmp .ne 73, 3) := by decide +kernel
theorem dX8_readClause_5 : decode cX8_readClause 5 = .ok (.aload_n 0, 1) := by decide +kernel
theorem dX8_readClause_6 : decode cX8_readClause 6 = .ok (.getfield 108, 3) := by decide +kernel
theorem dX8_readClause_9 : decode cX8_readClause 9 = .ok (.iconst 2, 1) := by decide +kernel
theorem dX8_readClause_10 : decode cX8_readClause 10 = .ok (.aload_n 0, 1) := by decide +kernel
theorem dX8_readClause_11 : decode cX8_readClause 11 = .ok (.iconst 1, 1) := by decide +kernel
theorem dX8_readClause_12 : decode cX8_readClause 12 = .ok (.iconst 4, 1) := by decide +kernel
theorem dX8_readClause_13 : decode cX8_readClause 13 = .ok (.iconst (-1), 1) := by decide +kernel
theorem dX8_readClause_14 : decode cX8_readClause 14 = .ok (.invokevirtual 301, 3) := by decide +kernel
theorem dX8_readClause_17 : decode cX8_readClause 17 = .ok (.iastore, 1) := by decide +kernel
theorem dX8_readClause_18 : decode cX8_readClause 18 = .ok (.aload_n 0, 1) := by decide +kernel
theorem dX8_readClause_19 : decode cX8_readClause 19 = .ok (.getfield 273, 3) := by decide +kernel
theorem dX8_readClause_22 : decode cX8_readClause 22 = .ok (.ifCond .ne 138, 3) := by decide +kernel
theorem dX8_readClause_25 : decode cX8_readClause 25 = .ok (.aload_n 0, 1) := by decide +kernel
theorem dX8_readClause_26 : decode cX8_readClause 26 = .ok (.invokevirtual 305, 3) := by decide +kernel
theorem dX8_readClause_29 : decode cX8_readClause 29 = .ok (.aload_n 0, 1) := by decide +kernel
theorem dX8_readClause_30 : decode cX8_readClause 30 = .ok (.aload_n 0, 1) := by decide +kernel
theorem dX8_readClause_31 : decode cX8_readClause 31 = .ok (.iconst 4, 1) := by decide +kernel
theorem dX8_readClause_32 : decode cX8_readClause 32 = .ok (.bipush 115, 2) := by decide +kernel
theorem dX8_readClause_34 : decode cX8_readClause 34 = .ok (.bipush 104, 2) := by decide +kernel
theorem dX8_readClause_36 : decode cX8_readClause 36 = .ok (.bipush 111, 2) := by decide +kernel
theorem dX8_readClause_38 : decode cX8_readClause 38 = .ok (.bipush 119, 2) := by decide +kernel
theorem dX8_readClause_40 : decode cX8_readClause 40 = .ok (.iconst 0, 1) := by decide +kernel
theorem dX8_readClause_41 : decode cX8_readClause 41 = .ok (.iconst 0, 1) := by decide +kernel
theorem dX8_readClause_42 : decode cX8_readClause 42 = .ok (.invokevirtual 297, 3) := by decide +kernel
theorem dX8_readClause_45 : decode cX8_readClause 45 = .ok (.iconst 1, 1) := by decide +kernel
theorem dX8_readClause_46 : decode cX8_readClause 46 = .ok (.aload_n 0, 1) := by decide +kernel
theorem dX8_readClause_47 : decode cX8_readClause 47 = .ok (.getfield 279, 3) := by decide +kernel
theorem dX8_readClause_50 : decode cX8_readClause 50 = .ok (.invokevirtual 293, 3) := by decide +kernel
theorem dX8_readClause_53 : decode cX8_readClause 53 = .ok (.istore_n 2, 1) := by decide +kernel
theorem dX8_readClause_54 : decode cX8_readClause 54 = .ok (.aload_n 0, 1) := by decide +kernel
theorem dX8_readClause_55 : decode cX8_readClause 55 = .ok (.getfield 108, 3) := by decide +kernel
theorem dX8_readClause_58 : decode cX8_readClause 58 = .ok (.iconst 3, 1) := by decide +kernel
theorem dX8_readClause_59 : decode cX8_readClause 59 = .ok (.aload_n 0, 1) := by decide +kernel
theorem dX8_readClause_60 : decode cX8_readClause 60 = .ok (.iconst 1, 1) := by decide +kernel
theorem dX8_readClause_61 : decode cX8_readClause 61 = .ok (.aload_n 0, 1) := by decide +kernel
theorem dX8_readClause_62 : decode cX8_readClause 62 = .ok (.getfield 108, 3) := by decide +kernel
theorem dX8_readClause_65 : decode cX8_readClause 65 = .ok (.iconst 2, 1) := by decide +kernel
theorem dX8_readClause_66 : decode cX8_readClause 66 = .ok (.iaload, 1) := by decide +kernel
theorem dX8_readClause_67 : decode cX8_readClause 67 = .ok (.iconst (-1), 1) := by decide +kernel
theorem dX8_readClause_68 : decode cX8_readClause 68 = .ok (.invokevirtual 301, 3) := by decide +kernel
theorem dX8_readClause_71 : decode cX8_readClause 71 = .ok (.iastore, 1) := by decide +kernel
theorem dX8_readClause_72 : decode cX8_readClause 72 = .ok (.goto 88, 3) := by decide +kernel
theorem dX8_readClause_75 : decode cX8_readClause 75 = .ok (.iload_n 1, 1) := by decide +kernel
theorem dX8_readClause_76 : decode cX8_readClause 76 = .ok (.iconst 4, 1) := by decide +kernel
theorem dX8_readClause_77 : decode cX8_readClause 77 = .ok (.if_icmp .ne 20, 3) := by decide +kernel
theorem dX8_readClause_80 : decode cX8_readClause 80 = .ok (.aload_n 0, 1) := by decide +kernel
theorem dX8_readClause_81 : decode cX8_readClause 81 = .ok (.getfield 108, 3) := by decide +kernel
theorem dX8_readClause_84 : decode cX8_readClause 84 = .ok (.iconst 4, 1) := by decide +kernel
theorem dX8_readClause_85 : decode cX8_readClause 85 = .ok (.aload_n 0, 1) := by decide +kernel
theorem dX8_readClause_86 : decode cX8_readClause 86 = .ok (.iconst 0, 1) := by decide +kernel
theorem dX8_readClause_87 : decode cX8_readClause 87 = .ok (.bipush 9, 2) := by decide +kernel
theorem dX8_readClause_89 : decode cX8_readClause 89 = .ok (.iconst (-1), 1) := by decide +kernel
theorem dX8_readClause_90 : decode cX8_readClause 90 = .ok (.invokevirtual 301, 3) := by decide +kernel
theorem dX8_readClause_93 : decode cX8_readClause 93 = .ok (.iastore, 1) := by decide +kernel
theorem dX8_readClause_94 : decode cX8_readClause 94 = .ok (.goto 66, 3) := by decide +kernel
theorem dX8_readClause_97 : decode cX8_readClause 97 = .ok (.iload_n 1, 1) := by decide +kernel
theorem dX8_readClause_98 : decode cX8_readClause 98 = .ok (.bipush 8, 2) := by decide +kernel
theorem dX8_readClause_100 : decode cX8_readClause 100 = .ok (.if_icmp .ne 21, 3) := by decide +kernel
theorem dX8_readClause_103 : decode cX8_readClause 103 = .ok (.aload_n 0, 1) := by decide +kernel
theorem dX8_readClause_104 : decode cX8_readClause 104 = .ok (.getfield 108, 3) := by decide +kernel
theorem dX8_readClause_107 : decode cX8_readClause 107 = .ok (.bipush 8, 2) := by decide +kernel
theorem dX8_readClause_109 : decode cX8_readClause 109 = .ok (.aload_n 0, 1) := by decide +kernel
theorem dX8_readClause_110 : decode cX8_readClause 110 = .ok (.iconst 0, 1) := by decide +kernel
theorem dX8_readClause_111 : decode cX8_readClause 111 = .ok (.bipush 9, 2) := by decide +kernel
theorem dX8_readClause_113 : decode cX8_readClause 113 = .ok (.iconst 1, 1) := by decide +kernel
theorem dX8_readClause_114 : decode cX8_readClause 114 = .ok (.invokevirtual 301, 3) := by decide +kernel
theorem dX8_readClause_117 : decode cX8_readClause 117 = .ok (.iastore, 1) := by decide +kernel
theorem dX8_readClause_118 : decode cX8_readClause 118 = .ok (.goto 42, 3) := by decide +kernel
theorem dX8_readClause_121 : decode cX8_readClause 121 = .ok (.aload_n 0, 1) := by decide +kernel
theorem dX8_readClause_122 : decode cX8_readClause 122 = .ok (.invokevirtual 305, 3) := by decide +kernel
theorem dX8_readClause_125 : decode cX8_readClause 125 = .ok (.aload_n 0, 1) := by decide +kernel
theorem dX8_readClause_126 : decode cX8_readClause 126 = .ok (.getfield 108, 3) := by decide +kernel
theorem dX8_readClause_129 : decode cX8_readClause 129 = .ok (.iload_n 1, 1) := by decide +kernel
theorem dX8_readClause_130 : decode cX8_readClause 130 = .ok (.aload_n 0, 1) := by decide +kernel
theorem dX8_readClause_131 : decode cX8_readClause 131 = .ok (.iload_n 1, 1) := by decide +kernel
theorem dX8_readClause_132 : decode cX8_readClause 132 = .ok (.invokevirtual 308, 3) := by decide +kernel
theorem dX8_readClause_135 : decode cX8_readClause 135 = .ok (.iastore, 1) := by decide +kernel
theorem dX8_readClause_136 : decode cX8_readClause 136 = .ok (.aload_n 0, 1) := by decide +kernel
theorem dX8_readClause_137 : decode cX8_readClause 137 = .ok (.aload_n 0, 1) := by decide +kernel
theorem dX8_readClause_138 : decode cX8_readClause 138 = .ok (.getfield 108, 3) := by decide +kernel
theorem dX8_readClause_141 : decode cX8_readClause 141 = .ok (.iload_n 1, 1) := by decide +kernel
theorem dX8_readClause_142 : decode cX8_readClause 142 = .ok (.iaload, 1) := by decide +kernel
theorem dX8_readClause_143 : decode cX8_readClause 143 = .ok (.ifCond .lt 7, 3) := by decide +kernel
theorem dX8_readClause_146 : decode cX8_readClause 146 = .ok (.iconst 1, 1) := by decide +kernel
theorem dX8_readClause_147 : decode cX8_readClause 147 = .ok (.goto 4, 3) := by decide +kernel
theorem dX8_readClause_150 : decode cX8_readClause 150 = .ok (.iconst 0, 1) := by decide +kernel
theorem dX8_readClause_151 : decode cX8_readClause 151 = .ok (.iconst 1, 1) := by decide +kernel
theorem dX8_readClause_152 : decode cX8_readClause 152 = .ok (.aload_n 0, 1) := by decide +kernel
theorem dX8_readClause_153 : decode cX8_readClause 153 = .ok (.getfield 279, 3) := by decide +kernel
theorem dX8_readClause_156 : decode cX8_readClause 156 = .ok (.invokevirtual 293, 3) := by decide +kernel
theorem dX8_readClause_159 : decode cX8_readClause 159 = .ok (.istore_n 2, 1) := by decide +kernel
theorem dX8_readClause_160 : decode cX8_readClause 160 = .ok (.aload_n 0, 1) := by decide +kernel
theorem dX8_readClause_161 : decode cX8_readClause 161 = .ok (.getfield 273, 3) := by decide +kernel
theorem dX8_readClause_164 : decode cX8_readClause 164 = .ok (.ifCond .ne 40, 3) := by decide +kernel
theorem dX8_readClause_167 : decode cX8_readClause 167 = .ok (.aload_n 0, 1) := by decide +kernel
theorem dX8_readClause_168 : decode cX8_readClause 168 = .ok (.invokevirtual 276, 3) := by decide +kernel
theorem dX8_readClause_171 : decode cX8_readClause 171 = .ok (.istore_n 2, 1) := by decide +kernel
theorem dX8_readClause_172 : decode cX8_readClause 172 = .ok (.aload_n 0, 1) := by decide +kernel
theorem dX8_readClause_173 : decode cX8_readClause 173 = .ok (.dup, 1) := by decide +kernel
theorem dX8_readClause_174 : decode cX8_readClause 174 = .ok (.getfield 270, 3) := by decide +kernel
theorem dX8_readClause_177 : decode cX8_readClause 177 = .ok (.aload_n 0, 1) := by decide +kernel
theorem dX8_readClause_178 : decode cX8_readClause 178 = .ok (.iload_n 2, 1) := by decide +kernel
theorem dX8_readClause_179 : decode cX8_readClause 179 = .ok (.bipush 59, 2) := by decide +kernel
theorem dX8_readClause_181 : decode cX8_readClause 181 = .ok (.if_icmp .ne 7, 3) := by decide +kernel
theorem dX8_readClause_184 : decode cX8_readClause 184 = .ok (.iconst 1, 1) := by decide +kernel
theorem dX8_readClause_185 : decode cX8_readClause 185 = .ok (.goto 4, 3) := by decide +kernel
theorem dX8_readClause_188 : decode cX8_readClause 188 = .ok (.iconst 0, 1) := by decide +kernel
theorem dX8_readClause_189 : decode cX8_readClause 189 = .ok (.iconst 1, 1) := by decide +kernel
theorem dX8_readClause_190 : decode cX8_readClause 190 = .ok (.aload_n 0, 1) := by decide +kernel
theorem dX8_readClause_191 : decode cX8_readClause 191 = .ok (.getfield 270, 3) := by decide +kernel
theorem dX8_readClause_194 : decode cX8_readClause 194 = .ok (.invokevirtual 293, 3) := by decide +kernel
theorem dX8_readClause_197 : decode cX8_readClause 197 = .ok (.invokestatic 205, 3) := by decide +kernel
theorem dX8_readClause_200 : decode cX8_readClause 200 = .ok (.iadd, 1) := by decide +kernel
theorem dX8_readClause_201 : decode cX8_readClause 201 = .ok (.putfield 270, 3) := by decide +kernel
theorem dX8_readClause_204 : decode cX8_readClause 204 = .ok (.return_, 1) := by decide +kernel
theorem dX8_read_0 : decode cX8_read 0 = .ok (.aload_n 0, 1) := by decide +kernel
theorem dX8_read_1 : decode cX8_read 1 = .ok (.iconst 0, 1) := by decide +kernel
theorem dX8_read_2 : decode cX8_read 2 = .ok (.putfield 270, 3) := by decide +kernel
theorem dX8_read_5 : decode cX8_read 5 = .ok (.aload_n 0, 1) := by decide +kernel
theorem dX8_read_6 : decode cX8_read 6 = .ok (.iconst 0, 1) := by decide +kernel
theorem dX8_read_7 : decode cX8_read 7 = .ok (.putfield 273, 3) := by decide +kernel
theorem dX8_read_10 : decode cX8_read 10 = .ok (.aload_n 0, 1) := by decide +kernel
theorem dX8_read_11 : decode cX8_read 11 = .ok (.iconst (-1), 1) := by decide +kernel
theorem dX8_read_12 : decode cX8_read 12 = .ok (.putfield 105, 3) := by decide +kernel
theorem dX8_read_15 : decode cX8_read 15 = .ok (.iconst 0, 1) := by decide +kernel
theorem dX8_read_16 : decode cX8_read 16 = .ok (.istore_n 1, 1) := by decide +kernel
theorem dX8_read_17 : decode cX8_read 17 = .ok (.iload_n 1, 1) := by decide +kernel
theorem dX8_read_18 : decode cX8_read 18 = .ok (.bipush 10, 2) := by decide +kernel
theorem dX8_read_20 : decode cX8_read 20 = .ok (.if_icmp .ge 19, 3) := by decide +kernel
theorem dX8_read_23 : decode cX8_read 23 = .ok (.aload_n 0, 1) := by decide +kernel
theorem dX8_read_24 : decode cX8_read 24 = .ok (.getfield 108, 3) := by decide +kernel
theorem dX8_read_27 : decode cX8_read 27 = .ok (.iload_n 1, 1) := by decide +kernel
theorem dX8_read_28 : decode cX8_read 28 = .ok (.iload_n 1, 1) := by decide +kernel
theorem dX8_read_29 : decode cX8_read 29 = .ok (.invokestatic 120, 3) := by decide +kernel
theorem dX8_read_32 : decode cX8_read 32 = .ok (.iastore, 1) := by decide +kernel
theorem dX8_read_33 : decode cX8_read 33 = .ok (.iinc 1 1, 3) := by decide +kernel
theorem dX8_read_36 : decode cX8_read 36 = .ok (.goto (-19), 3) := by decide +kernel
theorem dX8_read_39 : decode cX8_read 39 = .ok (.iconst 0, 1) := by decide +kernel
theorem dX8_read_40 : decode cX8_read 40 = .ok (.istore_n 1, 1) := by decide +kernel
theorem dX8_read_41 : decode cX8_read 41 = .ok (.iconst 0, 1) := by decide +kernel
theorem dX8_read_42 : decode cX8_read 42 = .ok (.istore_n 2, 1) := by decide +kernel
theorem dX8_read_43 : decode cX8_read 43 = .ok (.aload_n 0, 1) := by decide +kernel
theorem dX8_read_44 : decode cX8_read 44 = .ok (.getfield 273, 3) := by decide +kernel
theorem dX8_read_47 : decode cX8_read 47 = .ok (.ifCond .ne 82, 3) := by decide +kernel
theorem dX8_read_50 : decode cX8_read 50 = .ok (.aload_n 0, 1) := by decide +kernel
theorem dX8_read_51 : decode cX8_read 51 = .ok (.invokevirtual 276, 3) := by decide +kernel
theorem dX8_read_54 : decode cX8_read 54 = .ok (.ifCond .lt 75, 3) := by decide +kernel
theorem dX8_read_57 : decode cX8_read 57 = .ok (.aload_n 0, 1) := by decide +kernel
theorem dX8_read_58 : decode cX8_read 58 = .ok (.invokevirtual 305, 3) := by decide +kernel
theorem dX8_read_61 : decode cX8_read 61 = .ok (.aload_n 0, 1) := by decide +kernel
theorem dX8_read_62 : decode cX8_read 62 = .ok (.invokevirtual 311, 3) := by decide +kernel
theorem dX8_read_65 : decode cX8_read 65 = .ok (.istore_n 3, 1) := by decide +kernel
theorem dX8_read_66 : decode cX8_read 66 = .ok (.aload_n 0, 1) := by decide +kernel
theorem dX8_read_67 : decode cX8_read 67 = .ok (.iload_n 3, 1) := by decide +kernel
theorem dX8_read_68 : decode cX8_read 68 = .ok (.ifCond .lt 7, 3) := by decide +kernel
theorem dX8_read_71 : decode cX8_read 71 = .ok (.iconst 1, 1) := by decide +kernel
theorem dX8_read_72 : decode cX8_read 72 = .ok (.goto 4, 3) := by decide +kernel
theorem dX8_read_75 : decode cX8_read 75 = .ok (.iconst 0, 1) := by decide +kernel
theorem dX8_read_76 : decode cX8_read 76 = .ok (.iconst 1, 1) := by decide +kernel
theorem dX8_read_77 : decode cX8_read 77 = .ok (.aload_n 0, 1) := by decide +kernel
theorem dX8_read_78 : decode cX8_read 78 = .ok (.getfield 279, 3) := by decide +kernel
theorem dX8_read_81 : decode cX8_read 81 = .ok (.invokevirtual 293, 3) := by decide +kernel
theorem dX8_read_84 : decode cX8_read 84 = .ok (.ifCond .eq 42, 3) := by decide +kernel
theorem dX8_read_87 : decode cX8_read 87 = .ok (.aload_n 0, 1) := by decide +kernel
theorem dX8_read_88 : decode cX8_read 88 = .ok (.iload_n 2, 1) := by decide +kernel
theorem dX8_read_89 : decode cX8_read 89 = .ok (.iload_n 3, 1) := by decide +kernel
theorem dX8_read_90 : decode cX8_read 90 = .ok (.ishr, 1) := by decide +kernel
theorem dX8_read_91 : decode cX8_read 91 = .ok (.iconst 1, 1) := by decide +kernel
theorem dX8_read_92 : decode cX8_read 92 = .ok (.iand, 1) := by decide +kernel
theorem dX8_read_93 : decode cX8_read 93 = .ok (.ifCond .ne 7, 3) := by decide +kernel
theorem dX8_read_96 : decode cX8_read 96 = .ok (.iconst 1, 1) := by decide +kernel
theorem dX8_read_97 : decode cX8_read 97 = .ok (.goto 4, 3) := by decide +kernel
theorem dX8_read_100 : decode cX8_read 100 = .ok (.iconst 0, 1) := by decide +kernel
theorem dX8_read_101 : decode cX8_read 101 = .ok (.iconst 3, 1) := by decide +kernel
theorem dX8_read_102 : decode cX8_read 102 = .ok (.aload_n 0, 1) := by decide +kernel
theorem dX8_read_103 : decode cX8_read 103 = .ok (.getfield 279, 3) := by decide +kernel
theorem dX8_read_106 : decode cX8_read 106 = .ok (.invokevirtual 293, 3) := by decide +kernel
theorem dX8_read_109 : decode cX8_read 109 = .ok (.ifCond .eq 17, 3) := by decide +kernel
theorem dX8_read_112 : decode cX8_read 112 = .ok (.iload_n 2, 1) := by decide +kernel
theorem dX8_read_113 : decode cX8_read 113 = .ok (.iconst 1, 1) := by decide +kernel
theorem dX8_read_114 : decode cX8_read 114 = .ok (.iload_n 3, 1) := by decide +kernel
theorem dX8_read_115 : decode cX8_read 115 = .ok (.ishl, 1) := by decide +kernel
theorem dX8_read_116 : decode cX8_read 116 = .ok (.ior, 1) := by decide +kernel
theorem dX8_read_117 : decode cX8_read 117 = .ok (.istore_n 2, 1) := by decide +kernel
theorem dX8_read_118 : decode cX8_read 118 = .ok (.aload_n 0, 1) := by decide +kernel
theorem dX8_read_119 : decode cX8_read 119 = .ok (.iload_n 3, 1) := by decide +kernel
theorem dX8_read_120 : decode cX8_read 120 = .ok (.invokevirtual 314, 3) := by decide +kernel
theorem dX8_read_123 : decode cX8_read 123 = .ok (.iinc 1 1, 3) := by decide +kernel
theorem dX8_read_126 : decode cX8_read 126 = .ok (.goto (-83), 3) := by decide +kernel
theorem dX8_read_129 : decode cX8_read 129 = .ok (.aload_n 0, 1) := by decide +kernel
theorem dX8_read_130 : decode cX8_read 130 = .ok (.iconst 0, 1) := by decide +kernel
theorem dX8_read_131 : decode cX8_read 131 = .ok (.putfield 263, 3) := by decide +kernel
theorem dX8_read_134 : decode cX8_read 134 = .ok (.aload_n 0, 1) := by decide +kernel
theorem dX8_read_135 : decode cX8_read 135 = .ok (.getfield 273, 3) := by decide +kernel
theorem dX8_read_138 : decode cX8_read 138 = .ok (.ifCond .le 11, 3) := by decide +kernel
theorem dX8_read_141 : decode cX8_read 141 = .ok (.bipush (-10), 2) := by decide +kernel
theorem dX8_read_143 : decode cX8_read 143 = .ok (.aload_n 0, 1) := by decide +kernel
theorem dX8_read_144 : decode cX8_read 144 = .ok (.getfield 273, 3) := by decide +kernel
theorem dX8_read_147 : decode cX8_read 147 = .ok (.isub, 1) := by decide +kernel
theorem dX8_read_148 : decode cX8_read 148 = .ok (.ireturn, 1) := by decide +kernel
theorem dX8_read_149 : decode cX8_read 149 = .ok (.iconst 0, 1) := by decide +kernel
theorem dX8_read_150 : decode cX8_read 150 = .ok (.istore_n 3, 1) := by decide +kernel
theorem dX8_read_151 : decode cX8_read 151 = .ok (.iload_n 3, 1) := by decide +kernel
theorem dX8_read_152 : decode cX8_read 152 = .ok (.bipush 10, 2) := by decide +kernel
theorem dX8_read_154 : decode cX8_read 154 = .ok (.if_icmp .ge 24, 3) := by decide +kernel
theorem dX8_read_157 : decode cX8_read 157 = .ok (.aload_n 0, 1) := by decide +kernel
theorem dX8_read_158 : decode cX8_read 158 = .ok (.getfield 46, 3) := by decide +kernel
theorem dX8_read_161 : decode cX8_read 161 = .ok (.bipush 40, 2) := by decide +kernel
theorem dX8_read_163 : decode cX8_read 163 = .ok (.iload_n 3, 1) := by decide +kernel
theorem dX8_read_164 : decode cX8_read 164 = .ok (.iadd, 1) := by decide +kernel
theorem dX8_read_165 : decode cX8_read 165 = .ok (.aload_n 0, 1) := by decide +kernel
theorem dX8_read_166 : decode cX8_read 166 = .ok (.getfield 108, 3) := by decide +kernel
theorem dX8_read_169 : decode cX8_read 169 = .ok (.iload_n 3, 1) := by decide +kernel
theorem dX8_read_170 : decode cX8_read 170 = .ok (.iaload, 1) := by decide +kernel
theorem dX8_read_171 : decode cX8_read 171 = .ok (.iastore, 1) := by decide +kernel
theorem dX8_read_172 : decode cX8_read 172 = .ok (.iinc 3 1, 3) := by decide +kernel
theorem dX8_read_175 : decode cX8_read 175 = .ok (.goto (-24), 3) := by decide +kernel
theorem dX8_read_178 : decode cX8_read 178 = .ok (.iload_n 1, 1) := by decide +kernel
theorem dX8_read_179 : decode cX8_read 179 = .ok (.ireturn, 1) := by decide +kernel
theorem dX8_fault_0 : decode cX8_fault 0 = .ok (.aload_n 0, 1) := by decide +kernel
theorem dX8_fault_1 : decode cX8_fault 1 = .ok (.getfield 105, 3) := by decide +kernel
theorem dX8_fault_4 : decode cX8_fault 4 = .ok (.ireturn, 1) := by decide +kernel
theorem dX8_style_0 : decode cX8_style 0 = .ok (.iload_n 1, 1) := by decide +kernel
theorem dX8_style_1 : decode cX8_style 1 = .ok (.i2l, 1) := by decide +kernel
theorem dX8_style_2 : decode cX8_style 2 = .ok (.lconst 0, 1) := by decide +kernel
theorem dX8_style_3 : decode cX8_style 3 = .ok (.ldc2_w 317, 3) := by decide +kernel
theorem dX8_style_6 : decode cX8_style 6 = .ok (.invokestatic 127, 3) := by decide +kernel
theorem dX8_style_9 : decode cX8_style 9 = .ok (.ifCond .eq 15, 3) := by decide +kernel
theorem dX8_style_12 : decode cX8_style 12 = .ok (.aload_n 0, 1) := by decide +kernel
theorem dX8_style_13 : decode cX8_style 13 = .ok (.getfield 46, 3) := by decide +kernel
theorem dX8_style_16 : decode cX8_style 16 = .ok (.bipush 40, 2) := by decide +kernel
theorem dX8_style_18 : decode cX8_style 18 = .ok (.iload_n 1, 1) := by decide +kernel
theorem dX8_style_19 : decode cX8_style 19 = .ok (.iadd, 1) := by decide +kernel
theorem dX8_style_20 : decode cX8_style 20 = .ok (.iaload, 1) := by decide +kernel
theorem dX8_style_21 : decode cX8_style 21 = .ok (.goto 6, 3) := by decide +kernel
theorem dX8_style_24 : decode cX8_style 24 = .ok (.sipush (-1002), 3) := by decide +kernel
theorem dX8_style_27 : decode cX8_style 27 = .ok (.ireturn, 1) := by decide +kernel
theorem dX8_copySlot_0 : decode cX8_copySlot 0 = .ok (.iconst 0, 1) := by decide +kernel
theorem dX8_copySlot_1 : decode cX8_copySlot 1 = .ok (.istore_n 3, 1) := by decide +kernel
theorem dX8_copySlot_2 : decode cX8_copySlot 2 = .ok (.iload_n 3, 1) := by decide +kernel
theorem dX8_copySlot_3 : decode cX8_copySlot 3 = .ok (.bipush 24, 2) := by decide +kernel
theorem dX8_copySlot_5 : decode cX8_copySlot 5 = .ok (.if_icmp .ge 31, 3) := by decide +kernel
theorem dX8_copySlot_8 : decode cX8_copySlot 8 = .ok (.aload_n 0, 1) := by decide +kernel
theorem dX8_copySlot_9 : decode cX8_copySlot 9 = .ok (.getfield 34, 3) := by decide +kernel
theorem dX8_copySlot_12 : decode cX8_copySlot 12 = .ok (.bipush 24, 2) := by decide +kernel
theorem dX8_copySlot_14 : decode cX8_copySlot 14 = .ok (.iload_n 2, 1) := by decide +kernel
theorem dX8_copySlot_15 : decode cX8_copySlot 15 = .ok (.imul, 1) := by decide +kernel
theorem dX8_copySlot_16 : decode cX8_copySlot 16 = .ok (.iload_n 3, 1) := by decide +kernel
theorem dX8_copySlot_17 : decode cX8_copySlot 17 = .ok (.iadd, 1) := by decide +kernel
theorem dX8_copySlot_18 : decode cX8_copySlot 18 = .ok (.aload_n 0, 1) := by decide +kernel
theorem dX8_copySlot_19 : decode cX8_copySlot 19 = .ok (.getfield 34, 3) := by decide +kernel
theorem dX8_copySlot_22 : decode cX8_copySlot 22 = .ok (.bipush 24, 2) := by decide +kernel
theorem dX8_copySlot_24 : decode cX8_copySlot 24 = .ok (.iload_n 1, 1) := by decide +kernel
theorem dX8_copySlot_25 : decode cX8_copySlot 25 = .ok (.imul, 1) := by decide +kernel
theorem dX8_copySlot_26 : decode cX8_copySlot 26 = .ok (.iload_n 3, 1) := by decide +kernel
theorem dX8_copySlot_27 : decode cX8_copySlot 27 = .ok (.iadd, 1) := by decide +kernel
theorem dX8_copySlot_28 : decode cX8_copySlot 28 = .ok (.iaload, 1) := by decide +kernel
theorem dX8_copySlot_29 : decode cX8_copySlot 29 = .ok (.iastore, 1) := by decide +kernel
theorem dX8_copySlot_30 : decode cX8_copySlot 30 = .ok (.iinc 3 1, 3) := by decide +kernel
theorem dX8_copySlot_33 : decode cX8_copySlot 33 = .ok (.goto (-31), 3) := by decide +kernel
theorem dX8_copySlot_36 : decode cX8_copySlot 36 = .ok (.aload_n 0, 1) := by decide +kernel
theorem dX8_copySlot_37 : decode cX8_copySlot 37 = .ok (.getfield 37, 3) := by decide +kernel
theorem dX8_copySlot_40 : decode cX8_copySlot 40 = .ok (.iload_n 2, 1) := by decide +kernel
theorem dX8_copySlot_41 : decode cX8_copySlot 41 = .ok (.aload_n 0, 1) := by decide +kernel
theorem dX8_copySlot_42 : decode cX8_copySlot 42 = .ok (.getfield 37, 3) := by decide +kernel
theorem dX8_copySlot_45 : decode cX8_copySlot 45 = .ok (.iload_n 1, 1) := by decide +kernel
theorem dX8_copySlot_46 : decode cX8_copySlot 46 = .ok (.iaload, 1) := by decide +kernel
theorem dX8_copySlot_47 : decode cX8_copySlot 47 = .ok (.iastore, 1) := by decide +kernel
theorem dX8_copySlot_48 : decode cX8_copySlot 48 = .ok (.iconst 0, 1) := by decide +kernel
theorem dX8_copySlot_49 : decode cX8_copySlot 49 = .ok (.istore_n 3, 1) := by decide +kernel
theorem dX8_copySlot_50 : decode cX8_copySlot 50 = .ok (.iload_n 3, 1) := by decide +kernel
theorem dX8_copySlot_51 : decode cX8_copySlot 51 = .ok (.bipush 40, 2) := by decide +kernel
theorem dX8_copySlot_53 : decode cX8_copySlot 53 = .ok (.if_icmp .ge 78, 3) := by decide +kernel
theorem dX8_copySlot_56 : decode cX8_copySlot 56 = .ok (.aload_n 0, 1) := by decide +kernel
theorem dX8_copySlot_57 : decode cX8_copySlot 57 = .ok (.getfield 40, 3) := by decide +kernel
theorem dX8_copySlot_60 : decode cX8_copySlot 60 = .ok (.bipush 40, 2) := by decide +kernel
theorem dX8_copySlot_62 : decode cX8_copySlot 62 = .ok (.iload_n 2, 1) := by decide +kernel
theorem dX8_copySlot_63 : decode cX8_copySlot 63 = .ok (.imul, 1) := by decide +kernel
theorem dX8_copySlot_64 : decode cX8_copySlot 64 = .ok (.iload_n 3, 1) := by decide +kernel
theorem dX8_copySlot_65 : decode cX8_copySlot 65 = .ok (.iadd, 1) := by decide +kernel
theorem dX8_copySlot_66 : decode cX8_copySlot 66 = .ok (.aload_n 0, 1) := by decide +kernel
theorem dX8_copySlot_67 : decode cX8_copySlot 67 = .ok (.getfield 40, 3) := by decide +kernel
theorem dX8_copySlot_70 : decode cX8_copySlot 70 = .ok (.bipush 40, 2) := by decide +kernel
theorem dX8_copySlot_72 : decode cX8_copySlot 72 = .ok (.iload_n 1, 1) := by decide +kernel
theorem dX8_copySlot_73 : decode cX8_copySlot 73 = .ok (.imul, 1) := by decide +kernel
theorem dX8_copySlot_74 : decode cX8_copySlot 74 = .ok (.iload_n 3, 1) := by decide +kernel
theorem dX8_copySlot_75 : decode cX8_copySlot 75 = .ok (.iadd, 1) := by decide +kernel
theorem dX8_copySlot_76 : decode cX8_copySlot 76 = .ok (.iaload, 1) := by decide +kernel
theorem dX8_copySlot_77 : decode cX8_copySlot 77 = .ok (.iastore, 1) := by decide +kernel
theorem dX8_copySlot_78 : decode cX8_copySlot 78 = .ok (.iconst 0, 1) := by decide +kernel
theorem dX8_copySlot_79 : decode cX8_copySlot 79 = .ok (.istore 4, 2) := by decide +kernel
theorem dX8_copySlot_81 : decode cX8_copySlot 81 = .ok (.iload 4, 2) := by decide +kernel
theorem dX8_copySlot_83 : decode cX8_copySlot 83 = .ok (.iconst 5, 1) := by decide +kernel
theorem dX8_copySlot_84 : decode cX8_copySlot 84 = .ok (.if_icmp .ge 41, 3) := by decide +kernel
theorem dX8_copySlot_87 : decode cX8_copySlot 87 = .ok (.aload_n 0, 1) := by decide +kernel
theorem dX8_copySlot_88 : decode cX8_copySlot 88 = .ok (.getfield 43, 3) := by decide +kernel
theorem dX8_copySlot_91 : decode cX8_copySlot 91 = .ok (.iconst 5, 1) := by decide +kernel
theorem dX8_copySlot_92 : decode cX8_copySlot 92 = .ok (.bipush 40, 2) := by decide +kernel
theorem dX8_copySlot_94 : decode cX8_copySlot 94 = .ok (.iload_n 2, 1) := by decide +kernel
theorem dX8_copySlot_95 : decode cX8_copySlot 95 = .ok (.imul, 1) := by decide +kernel
theorem dX8_copySlot_96 : decode cX8_copySlot 96 = .ok (.iload_n 3, 1) := by decide +kernel
theorem dX8_copySlot_97 : decode cX8_copySlot 97 = .ok (.iadd, 1) := by decide +kernel
theorem dX8_copySlot_98 : decode cX8_copySlot 98 = .ok (.imul, 1) := by decide +kernel
theorem dX8_copySlot_99 : decode cX8_copySlot 99 = .ok (.iload 4, 2) := by decide +kernel
theorem dX8_copySlot_101 : decode cX8_copySlot 101 = .ok (.iadd, 1) := by decide +kernel
theorem dX8_copySlot_102 : decode cX8_copySlot 102 = .ok (.aload_n 0, 1) := by decide +kernel
theorem dX8_copySlot_103 : decode cX8_copySlot 103 = .ok (.getfield 43, 3) := by decide +kernel
theorem dX8_copySlot_106 : decode cX8_copySlot 106 = .ok (.iconst 5, 1) := by decide +kernel
theorem dX8_copySlot_107 : decode cX8_copySlot 107 = .ok (.bipush 40, 2) := by decide +kernel
theorem dX8_copySlot_109 : decode cX8_copySlot 109 = .ok (.iload_n 1, 1) := by decide +kernel
theorem dX8_copySlot_110 : decode cX8_copySlot 110 = .ok (.imul, 1) := by decide +kernel
theorem dX8_copySlot_111 : decode cX8_copySlot 111 = .ok (.iload_n 3, 1) := by decide +kernel
theorem dX8_copySlot_112 : decode cX8_copySlot 112 = .ok (.iadd, 1) := by decide +kernel
theorem dX8_copySlot_113 : decode cX8_copySlot 113 = .ok (.imul, 1) := by decide +kernel
theorem dX8_copySlot_114 : decode cX8_copySlot 114 = .ok (.iload 4, 2) := by decide +kernel
theorem dX8_copySlot_116 : decode cX8_copySlot 116 = .ok (.iadd, 1) := by decide +kernel
theorem dX8_copySlot_117 : decode cX8_copySlot 117 = .ok (.iaload, 1) := by decide +kernel
theorem dX8_copySlot_118 : decode cX8_copySlot 118 = .ok (.iastore, 1) := by decide +kernel
theorem dX8_copySlot_119 : decode cX8_copySlot 119 = .ok (.iinc 4 1, 3) := by decide +kernel
theorem dX8_copySlot_122 : decode cX8_copySlot 122 = .ok (.goto (-41), 3) := by decide +kernel
theorem dX8_copySlot_125 : decode cX8_copySlot 125 = .ok (.iinc 3 1, 3) := by decide +kernel
theorem dX8_copySlot_128 : decode cX8_copySlot 128 = .ok (.goto (-78), 3) := by decide +kernel
theorem dX8_copySlot_131 : decode cX8_copySlot 131 = .ok (.iconst 0, 1) := by decide +kernel
theorem dX8_copySlot_132 : decode cX8_copySlot 132 = .ok (.istore_n 3, 1) := by decide +kernel
theorem dX8_copySlot_133 : decode cX8_copySlot 133 = .ok (.iload_n 3, 1) := by decide +kernel
theorem dX8_copySlot_134 : decode cX8_copySlot 134 = .ok (.bipush 10, 2) := by decide +kernel
theorem dX8_copySlot_136 : decode cX8_copySlot 136 = .ok (.if_icmp .ge 31, 3) := by decide +kernel
theorem dX8_copySlot_139 : decode cX8_copySlot 139 = .ok (.aload_n 0, 1) := by decide +kernel
theorem dX8_copySlot_140 : decode cX8_copySlot 140 = .ok (.getfield 46, 3) := by decide +kernel
theorem dX8_copySlot_143 : decode cX8_copySlot 143 = .ok (.bipush 10, 2) := by decide +kernel
theorem dX8_copySlot_145 : decode cX8_copySlot 145 = .ok (.iload_n 2, 1) := by decide +kernel
theorem dX8_copySlot_146 : decode cX8_copySlot 146 = .ok (.imul, 1) := by decide +kernel
theorem dX8_copySlot_147 : decode cX8_copySlot 147 = .ok (.iload_n 3, 1) := by decide +kernel
theorem dX8_copySlot_148 : decode cX8_copySlot 148 = .ok (.iadd, 1) := by decide +kernel
theorem dX8_copySlot_149 : decode cX8_copySlot 149 = .ok (.aload_n 0, 1) := by decide +kernel
theorem dX8_copySlot_150 : decode cX8_copySlot 150 = .ok (.getfield 46, 3) := by decide +kernel
theorem dX8_copySlot_153 : decode cX8_copySlot 153 = .ok (.bipush 10, 2) := by decide +kernel
theorem dX8_copySlot_155 : decode cX8_copySlot 155 = .ok (.iload_n 1, 1) := by decide +kernel
theorem dX8_copySlot_156 : decode cX8_copySlot 156 = .ok (.imul, 1) := by decide +kernel
theorem dX8_copySlot_157 : decode cX8_copySlot 157 = .ok (.iload_n 3, 1) := by decide +kernel
theorem dX8_copySlot_158 : decode cX8_copySlot 158 = .ok (.iadd, 1) := by decide +kernel
theorem dX8_copySlot_159 : decode cX8_copySlot 159 = .ok (.iaload, 1) := by decide +kernel
theorem dX8_copySlot_160 : decode cX8_copySlot 160 = .ok (.iastore, 1) := by decide +kernel
theorem dX8_copySlot_161 : decode cX8_copySlot 161 = .ok (.iinc 3 1, 3) := by decide +kernel
theorem dX8_copySlot_164 : decode cX8_copySlot 164 = .ok (.goto (-31), 3) := by decide +kernel
theorem dX8_copySlot_167 : decode cX8_copySlot 167 = .ok (.return_, 1) := by decide +kernel
theorem dX8_keep_0 : decode cX8_keep 0 = .ok (.iload_n 1, 1) := by decide +kernel
theorem dX8_keep_1 : decode cX8_keep 1 = .ok (.i2l, 1) := by decide +kernel
theorem dX8_keep_2 : decode cX8_keep 2 = .ok (.lconst 0, 1) := by decide +kernel
theorem dX8_keep_3 : decode cX8_keep 3 = .ok (.ldc2_w 319, 3) := by decide +kernel
theorem dX8_keep_6 : decode cX8_keep 6 = .ok (.invokestatic 127, 3) := by decide +kernel
theorem dX8_keep_9 : decode cX8_keep 9 = .ok (.ifCond .ne 7, 3) := by decide +kernel
theorem dX8_keep_12 : decode cX8_keep 12 = .ok (.sipush (-1001), 3) := by decide +kernel
theorem dX8_keep_15 : decode cX8_keep 15 = .ok (.ireturn, 1) := by decide +kernel
theorem dX8_keep_16 : decode cX8_keep 16 = .ok (.aload_n 0, 1) := by decide +kernel
theorem dX8_keep_17 : decode cX8_keep 17 = .ok (.iconst 4, 1) := by decide +kernel
theorem dX8_keep_18 : decode cX8_keep 18 = .ok (.iload_n 1, 1) := by decide +kernel
theorem dX8_keep_19 : decode cX8_keep 19 = .ok (.invokevirtual 321, 3) := by decide +kernel
theorem dX8_keep_22 : decode cX8_keep 22 = .ok (.aload_n 0, 1) := by decide +kernel
theorem dX8_keep_23 : decode cX8_keep 23 = .ok (.getfield 49, 3) := by decide +kernel
theorem dX8_keep_26 : decode cX8_keep 26 = .ok (.iload_n 1, 1) := by decide +kernel
theorem dX8_keep_27 : decode cX8_keep 27 = .ok (.iconst 1, 1) := by decide +kernel
theorem dX8_keep_28 : decode cX8_keep 28 = .ok (.bastore, 1) := by decide +kernel
theorem dX8_keep_29 : decode cX8_keep 29 = .ok (.aload_n 0, 1) := by decide +kernel
theorem dX8_keep_30 : decode cX8_keep 30 = .ok (.iconst 4, 1) := by decide +kernel
theorem dX8_keep_31 : decode cX8_keep 31 = .ok (.invokevirtual 221, 3) := by decide +kernel
theorem dX8_keep_34 : decode cX8_keep 34 = .ok (.aload_n 0, 1) := by decide +kernel
theorem dX8_keep_35 : decode cX8_keep 35 = .ok (.getfield 158, 3) := by decide +kernel
theorem dX8_keep_38 : decode cX8_keep 38 = .ok (.ireturn, 1) := by decide +kernel
theorem dX8_noVersion_0 : decode cX8_noVersion 0 = .ok (.iload_n 1, 1) := by decide +kernel
theorem dX8_noVersion_1 : decode cX8_noVersion 1 = .ok (.i2l, 1) := by decide +kernel
theorem dX8_noVersion_2 : decode cX8_noVersion 2 = .ok (.lconst 0, 1) := by decide +kernel
theorem dX8_noVersion_3 : decode cX8_noVersion 3 = .ok (.ldc2_w 319, 3) := by decide +kernel
theorem dX8_noVersion_6 : decode cX8_noVersion 6 = .ok (.invokestatic 127, 3) := by decide +kernel
theorem dX8_noVersion_9 : decode cX8_noVersion 9 = .ok (.ifCond .eq 12, 3) := by decide +kernel
theorem dX8_noVersion_12 : decode cX8_noVersion 12 = .ok (.aload_n 0, 1) := by decide +kernel
theorem dX8_noVersion_13 : decode cX8_noVersion 13 = .ok (.getfield 49, 3) := by decide +kernel
theorem dX8_noVersion_16 : decode cX8_noVersion 16 = .ok (.iload_n 1, 1) := by decide +kernel
theorem dX8_noVersion_17 : decode cX8_noVersion 17 = .ok (.baload, 1) := by decide +kernel
theorem dX8_noVersion_18 : decode cX8_noVersion 18 = .ok (.ifCond .ne 7, 3) := by decide +kernel
theorem dX8_noVersion_21 : decode cX8_noVersion 21 = .ok (.iconst 1, 1) := by decide +kernel
theorem dX8_noVersion_22 : decode cX8_noVersion 22 = .ok (.goto 4, 3) := by decide +kernel
theorem dX8_noVersion_25 : decode cX8_noVersion 25 = .ok (.iconst 0, 1) := by decide +kernel
theorem dX8_noVersion_26 : decode cX8_noVersion 26 = .ok (.ireturn, 1) := by decide +kernel
theorem dX8_back_0 : decode cX8_back 0 = .ok (.aload_n 0, 1) := by decide +kernel
theorem dX8_back_1 : decode cX8_back 1 = .ok (.iload_n 1, 1) := by decide +kernel
theorem dX8_back_2 : decode cX8_back 2 = .ok (.invokevirtual 324, 3) := by decide +kernel
theorem dX8_back_5 : decode cX8_back 5 = .ok (.ifCond .eq 7, 3) := by decide +kernel
theorem dX8_back_8 : decode cX8_back 8 = .ok (.sipush (-1001), 3) := by decide +kernel
theorem dX8_back_11 : decode cX8_back 11 = .ok (.ireturn, 1) := by decide +kernel
theorem dX8_back_12 : decode cX8_back 12 = .ok (.aload_n 0, 1) := by decide +kernel
theorem dX8_back_13 : decode cX8_back 13 = .ok (.iload_n 1, 1) := by decide +kernel
theorem dX8_back_14 : decode cX8_back 14 = .ok (.iconst 4, 1) := by decide +kernel
theorem dX8_back_15 : decode cX8_back 15 = .ok (.invokevirtual 321, 3) := by decide +kernel
theorem dX8_back_18 : decode cX8_back 18 = .ok (.aload_n 0, 1) := by decide +kernel
theorem dX8_back_19 : decode cX8_back 19 = .ok (.getfield 37, 3) := by decide +kernel
theorem dX8_back_22 : decode cX8_back 22 = .ok (.iconst 4, 1) := by decide +kernel
theorem dX8_back_23 : decode cX8_back 23 = .ok (.iaload, 1) := by decide +kernel
theorem dX8_back_24 : decode cX8_back 24 = .ok (.ireturn, 1) := by decide +kernel
theorem dX8_readBy_0 : decode cX8_readBy 0 = .ok (.aload_n 0, 1) := by decide +kernel
theorem dX8_readBy_1 : decode cX8_readBy 1 = .ok (.aload_n 0, 1) := by decide +kernel
theorem dX8_readBy_2 : decode cX8_readBy 2 = .ok (.getfield 57, 3) := by decide +kernel
theorem dX8_readBy_5 : decode cX8_readBy 5 = .ok (.aload_n 0, 1) := by decide +kernel
theorem dX8_readBy_6 : decode cX8_readBy 6 = .ok (.getfield 63, 3) := by decide +kernel
theorem dX8_readBy_9 : decode cX8_readBy 9 = .ok (.iload_n 1, 1) := by decide +kernel
theorem dX8_readBy_10 : decode cX8_readBy 10 = .ok (.iaload, 1) := by decide +kernel
theorem dX8_readBy_11 : decode cX8_readBy 11 = .ok (.iaload, 1) := by decide +kernel
theorem dX8_readBy_12 : decode cX8_readBy 12 = .ok (.invokevirtual 153, 3) := by decide +kernel
theorem dX8_readBy_15 : decode cX8_readBy 15 = .ok (.istore_n 2, 1) := by decide +kernel
theorem dX8_readBy_16 : decode cX8_readBy 16 = .ok (.aload_n 0, 1) := by decide +kernel
theorem dX8_readBy_17 : decode cX8_readBy 17 = .ok (.iconst 0, 1) := by decide +kernel
theorem dX8_readBy_18 : decode cX8_readBy 18 = .ok (.invokevirtual 171, 3) := by decide +kernel
theorem dX8_readBy_21 : decode cX8_readBy 21 = .ok (.iconst 2, 1) := by decide +kernel
theorem dX8_readBy_22 : decode cX8_readBy 22 = .ok (.if_icmp .ne 12, 3) := by decide +kernel
theorem dX8_readBy_25 : decode cX8_readBy 25 = .ok (.aload_n 0, 1) := by decide +kernel
theorem dX8_readBy_26 : decode cX8_readBy 26 = .ok (.getfield 78, 3) := by decide +kernel
theorem dX8_readBy_29 : decode cX8_readBy 29 = .ok (.iload_n 2, 1) := by decide +kernel
theorem dX8_readBy_30 : decode cX8_readBy 30 = .ok (.iaload, 1) := by decide +kernel
theorem dX8_readBy_31 : decode cX8_readBy 31 = .ok (.goto 4, 3) := by decide +kernel
theorem dX8_readBy_34 : decode cX8_readBy 34 = .ok (.iconst 0, 1) := by decide +kernel
theorem dX8_readBy_35 : decode cX8_readBy 35 = .ok (.istore_n 3, 1) := by decide +kernel
theorem dX8_readBy_36 : decode cX8_readBy 36 = .ok (.aload_n 0, 1) := by decide +kernel
theorem dX8_readBy_37 : decode cX8_readBy 37 = .ok (.iload_n 1, 1) := by decide +kernel
theorem dX8_readBy_38 : decode cX8_readBy 38 = .ok (.invokevirtual 247, 3) := by decide +kernel
theorem dX8_readBy_41 : decode cX8_readBy 41 = .ok (.bipush 8, 2) := by decide +kernel
theorem dX8_readBy_43 : decode cX8_readBy 43 = .ok (.imul, 1) := by decide +kernel
theorem dX8_readBy_44 : decode cX8_readBy 44 = .ok (.aload_n 0, 1) := by decide +kernel
theorem dX8_readBy_45 : decode cX8_readBy 45 = .ok (.getfield 81, 3) := by decide +kernel
theorem dX8_readBy_48 : decode cX8_readBy 48 = .ok (.iload_n 2, 1) := by decide +kernel
theorem dX8_readBy_49 : decode cX8_readBy 49 = .ok (.iaload, 1) := by decide +kernel
theorem dX8_readBy_50 : decode cX8_readBy 50 = .ok (.iadd, 1) := by decide +kernel
theorem dX8_readBy_51 : decode cX8_readBy 51 = .ok (.iconst 2, 1) := by decide +kernel
theorem dX8_readBy_52 : decode cX8_readBy 52 = .ok (.imul, 1) := by decide +kernel
theorem dX8_readBy_53 : decode cX8_readBy 53 = .ok (.aload_n 0, 1) := by decide +kernel
theorem dX8_readBy_54 : decode cX8_readBy 54 = .ok (.getfield 84, 3) := by decide +kernel
theorem dX8_readBy_57 : decode cX8_readBy 57 = .ok (.iload_n 2, 1) := by decide +kernel
theorem dX8_readBy_58 : decode cX8_readBy 58 = .ok (.baload, 1) := by decide +kernel
theorem dX8_readBy_59 : decode cX8_readBy 59 = .ok (.invokestatic 205, 3) := by decide +kernel
theorem dX8_readBy_62 : decode cX8_readBy 62 = .ok (.iadd, 1) := by decide +kernel
theorem dX8_readBy_63 : decode cX8_readBy 63 = .ok (.bipush 32, 2) := by decide +kernel
theorem dX8_readBy_65 : decode cX8_readBy 65 = .ok (.imul, 1) := by decide +kernel
theorem dX8_readBy_66 : decode cX8_readBy 66 = .ok (.aload_n 0, 1) := by decide +kernel
theorem dX8_readBy_67 : decode cX8_readBy 67 = .ok (.getfield 87, 3) := by decide +kernel
theorem dX8_readBy_70 : decode cX8_readBy 70 = .ok (.iload_n 2, 1) := by decide +kernel
theorem dX8_readBy_71 : decode cX8_readBy 71 = .ok (.iaload, 1) := by decide +kernel
theorem dX8_readBy_72 : decode cX8_readBy 72 = .ok (.iadd, 1) := by decide +kernel
theorem dX8_readBy_73 : decode cX8_readBy 73 = .ok (.bipush 32, 2) := by decide +kernel
theorem dX8_readBy_75 : decode cX8_readBy 75 = .ok (.imul, 1) := by decide +kernel
theorem dX8_readBy_76 : decode cX8_readBy 76 = .ok (.iload_n 3, 1) := by decide +kernel
theorem dX8_readBy_77 : decode cX8_readBy 77 = .ok (.iadd, 1) := by decide +kernel
theorem dX8_readBy_78 : decode cX8_readBy 78 = .ok (.ireturn, 1) := by decide +kernel
theorem dX8_beside_0 : decode cX8_beside 0 = .ok (.aload_n 0, 1) := by decide +kernel
theorem dX8_beside_1 : decode cX8_beside 1 = .ok (.iload_n 1, 1) := by decide +kernel
theorem dX8_beside_2 : decode cX8_beside 2 = .ok (.invokevirtual 324, 3) := by decide +kernel
theorem dX8_beside_5 : decode cX8_beside 5 = .ok (.ifCond .eq 7, 3) := by decide +kernel
theorem dX8_beside_8 : decode cX8_beside 8 = .ok (.sipush (-1001), 3) := by decide +kernel
theorem dX8_beside_11 : decode cX8_beside 11 = .ok (.ireturn, 1) := by decide +kernel
theorem dX8_beside_12 : decode cX8_beside 12 = .ok (.iload_n 2, 1) := by decide +kernel
theorem dX8_beside_13 : decode cX8_beside 13 = .ok (.i2l, 1) := by decide +kernel
theorem dX8_beside_14 : decode cX8_beside 14 = .ok (.lconst 0, 1) := by decide +kernel
theorem dX8_beside_15 : decode cX8_beside 15 = .ok (.ldc2_w 156, 3) := by decide +kernel
theorem dX8_beside_18 : decode cX8_beside 18 = .ok (.invokestatic 127, 3) := by decide +kernel
theorem dX8_beside_21 : decode cX8_beside 21 = .ok (.ifCond .ne 7, 3) := by decide +kernel
theorem dX8_beside_24 : decode cX8_beside 24 = .ok (.sipush (-1002), 3) := by decide +kernel
theorem dX8_beside_27 : decode cX8_beside 27 = .ok (.ireturn, 1) := by decide +kernel
theorem dX8_beside_28 : decode cX8_beside 28 = .ok (.aload_n 0, 1) := by decide +kernel
theorem dX8_beside_29 : decode cX8_beside 29 = .ok (.iload_n 1, 1) := by decide +kernel
theorem dX8_beside_30 : decode cX8_beside 30 = .ok (.invokevirtual 221, 3) := by decide +kernel
theorem dX8_beside_33 : decode cX8_beside 33 = .ok (.iconst 0, 1) := by decide +kernel
theorem dX8_beside_34 : decode cX8_beside 34 = .ok (.istore_n 3, 1) := by decide +kernel
theorem dX8_beside_35 : decode cX8_beside 35 = .ok (.iload_n 3, 1) := by decide +kernel
theorem dX8_beside_36 : decode cX8_beside 36 = .ok (.aload_n 0, 1) := by decide +kernel
theorem dX8_beside_37 : decode cX8_beside 37 = .ok (.getfield 161, 3) := by decide +kernel
theorem dX8_beside_40 : decode cX8_beside 40 = .ok (.if_icmp .ge 38, 3) := by decide +kernel
theorem dX8_beside_43 : decode cX8_beside 43 = .ok (.aload_n 0, 1) := by decide +kernel
theorem dX8_beside_44 : decode cX8_beside 44 = .ok (.getfield 111, 3) := by decide +kernel
theorem dX8_beside_47 : decode cX8_beside 47 = .ok (.iload_n 3, 1) := by decide +kernel
theorem dX8_beside_48 : decode cX8_beside 48 = .ok (.aload_n 0, 1) := by decide +kernel
theorem dX8_beside_49 : decode cX8_beside 49 = .ok (.getfield 69, 3) := by decide +kernel
theorem dX8_beside_52 : decode cX8_beside 52 = .ok (.iload_n 3, 1) := by decide +kernel
theorem dX8_beside_53 : decode cX8_beside 53 = .ok (.iaload, 1) := by decide +kernel
theorem dX8_beside_54 : decode cX8_beside 54 = .ok (.ifCond .ge 7, 3) := by decide +kernel
theorem dX8_beside_57 : decode cX8_beside 57 = .ok (.iconst (-1), 1) := by decide +kernel
theorem dX8_beside_58 : decode cX8_beside 58 = .ok (.goto 13, 3) := by decide +kernel
theorem dX8_beside_61 : decode cX8_beside 61 = .ok (.aload_n 0, 1) := by decide +kernel
theorem dX8_beside_62 : decode cX8_beside 62 = .ok (.aload_n 0, 1) := by decide +kernel
theorem dX8_beside_63 : decode cX8_beside 63 = .ok (.getfield 69, 3) := by decide +kernel
theorem dX8_beside_66 : decode cX8_beside 66 = .ok (.iload_n 3, 1) := by decide +kernel
theorem dX8_beside_67 : decode cX8_beside 67 = .ok (.iaload, 1) := by decide +kernel
theorem dX8_beside_68 : decode cX8_beside 68 = .ok (.invokevirtual 327, 3) := by decide +kernel
theorem dX8_beside_71 : decode cX8_beside 71 = .ok (.iastore, 1) := by decide +kernel
theorem dX8_beside_72 : decode cX8_beside 72 = .ok (.iinc 3 1, 3) := by decide +kernel
theorem dX8_beside_75 : decode cX8_beside 75 = .ok (.goto (-40), 3) := by decide +kernel
theorem dX8_beside_78 : decode cX8_beside 78 = .ok (.aload_n 0, 1) := by decide +kernel
theorem dX8_beside_79 : decode cX8_beside 79 = .ok (.iconst 4, 1) := by decide +kernel
theorem dX8_beside_80 : decode cX8_beside 80 = .ok (.invokevirtual 221, 3) := by decide +kernel
theorem dX8_beside_83 : decode cX8_beside 83 = .ok (.iconst 0, 1) := by decide +kernel
theorem dX8_beside_84 : decode cX8_beside 84 = .ok (.istore_n 3, 1) := by decide +kernel
theorem dX8_beside_85 : decode cX8_beside 85 = .ok (.iconst 0, 1) := by decide +kernel
theorem dX8_beside_86 : decode cX8_beside 86 = .ok (.istore 4, 2) := by decide +kernel
theorem dX8_beside_88 : decode cX8_beside 88 = .ok (.iconst (-1), 1) := by decide +kernel
theorem dX8_beside_89 : decode cX8_beside 89 = .ok (.istore 5, 2) := by decide +kernel
theorem dX8_beside_91 : decode cX8_beside 91 = .ok (.iconst 0, 1) := by decide +kernel
theorem dX8_beside_92 : decode cX8_beside 92 = .ok (.istore 6, 2) := by decide +kernel
theorem dX8_beside_94 : decode cX8_beside 94 = .ok (.iload 6, 2) := by decide +kernel
theorem dX8_beside_96 : decode cX8_beside 96 = .ok (.aload_n 0, 1) := by decide +kernel
theorem dX8_beside_97 : decode cX8_beside 97 = .ok (.getfield 161, 3) := by decide +kernel
theorem dX8_beside_100 : decode cX8_beside 100 = .ok (.if_icmp .ge 137, 3) := by decide +kernel
theorem dX8_beside_103 : decode cX8_beside 103 = .ok (.aload_n 0, 1) := by decide +kernel
theorem dX8_beside_104 : decode cX8_beside 104 = .ok (.getfield 69, 3) := by decide +kernel
theorem dX8_beside_107 : decode cX8_beside 107 = .ok (.iload 6, 2) := by decide +kernel
theorem dX8_beside_109 : decode cX8_beside 109 = .ok (.iaload, 1) := by decide +kernel
theorem dX8_beside_110 : decode cX8_beside 110 = .ok (.ifCond .ge 7, 3) := by decide +kernel
theorem dX8_beside_113 : decode cX8_beside 113 = .ok (.iconst (-1), 1) := by decide +kernel
theorem dX8_beside_114 : decode cX8_beside 114 = .ok (.goto 14, 3) := by decide +kernel
theorem dX8_beside_117 : decode cX8_beside 117 = .ok (.aload_n 0, 1) := by decide +kernel
theorem dX8_beside_118 : decode cX8_beside 118 = .ok (.aload_n 0, 1) := by decide +kernel
theorem dX8_beside_119 : decode cX8_beside 119 = .ok (.getfield 69, 3) := by decide +kernel
theorem dX8_beside_122 : decode cX8_beside 122 = .ok (.iload 6, 2) := by decide +kernel
theorem dX8_beside_124 : decode cX8_beside 124 = .ok (.iaload, 1) := by decide +kernel
theorem dX8_beside_125 : decode cX8_beside 125 = .ok (.invokevirtual 327, 3) := by decide +kernel
theorem dX8_beside_128 : decode cX8_beside 128 = .ok (.istore 7, 2) := by decide +kernel
theorem dX8_beside_130 : decode cX8_beside 130 = .ok (.iload 7, 2) := by decide +kernel
theorem dX8_beside_132 : decode cX8_beside 132 = .ok (.ifCond .ge 7, 3) := by decide +kernel
theorem dX8_beside_135 : decode cX8_beside 135 = .ok (.iconst 1, 1) := by decide +kernel
theorem dX8_beside_136 : decode cX8_beside 136 = .ok (.goto 4, 3) := by decide +kernel
theorem dX8_beside_139 : decode cX8_beside 139 = .ok (.iconst 0, 1) := by decide +kernel
theorem dX8_beside_140 : decode cX8_beside 140 = .ok (.aload_n 0, 1) := by decide +kernel
theorem dX8_beside_141 : decode cX8_beside 141 = .ok (.getfield 111, 3) := by decide +kernel
theorem dX8_beside_144 : decode cX8_beside 144 = .ok (.iload 6, 2) := by decide +kernel
theorem dX8_beside_146 : decode cX8_beside 146 = .ok (.iaload, 1) := by decide +kernel
theorem dX8_beside_147 : decode cX8_beside 147 = .ok (.ifCond .ge 7, 3) := by decide +kernel
theorem dX8_beside_150 : decode cX8_beside 150 = .ok (.iconst 1, 1) := by decide +kernel
theorem dX8_beside_151 : decode cX8_beside 151 = .ok (.goto 4, 3) := by decide +kernel
theorem dX8_beside_154 : decode cX8_beside 154 = .ok (.iconst 0, 1) := by decide +kernel
theorem dX8_beside_155 : decode cX8_beside 155 = .ok (.if_icmp .eq 7, 3) := by decide +kernel
theorem dX8_beside_158 : decode cX8_beside 158 = .ok (.iconst 1, 1) := by decide +kernel
theorem dX8_beside_159 : decode cX8_beside 159 = .ok (.goto 4, 3) := by decide +kernel
theorem dX8_beside_162 : decode cX8_beside 162 = .ok (.iconst 0, 1) := by decide +kernel
theorem dX8_beside_163 : decode cX8_beside 163 = .ok (.istore 8, 2) := by decide +kernel
theorem dX8_beside_165 : decode cX8_beside 165 = .ok (.iload 8, 2) := by decide +kernel
theorem dX8_beside_167 : decode cX8_beside 167 = .ok (.ifCond .ne 19, 3) := by decide +kernel
theorem dX8_beside_170 : decode cX8_beside 170 = .ok (.iload 7, 2) := by decide +kernel
theorem dX8_beside_172 : decode cX8_beside 172 = .ok (.aload_n 0, 1) := by decide +kernel
theorem dX8_beside_173 : decode cX8_beside 173 = .ok (.getfield 111, 3) := by decide +kernel
theorem dX8_beside_176 : decode cX8_beside 176 = .ok (.iload 6, 2) := by decide +kernel
theorem dX8_beside_178 : decode cX8_beside 178 = .ok (.iaload, 1) := by decide +kernel
theorem dX8_beside_179 : decode cX8_beside 179 = .ok (.if_icmp .eq 7, 3) := by decide +kernel
theorem dX8_beside_182 : decode cX8_beside 182 = .ok (.iconst 1, 1) := by decide +kernel
theorem dX8_beside_183 : decode cX8_beside 183 = .ok (.goto 4, 3) := by decide +kernel
theorem dX8_beside_186 : decode cX8_beside 186 = .ok (.iconst 0, 1) := by decide +kernel
theorem dX8_beside_187 : decode cX8_beside 187 = .ok (.istore 9, 2) := by decide +kernel
theorem dX8_beside_189 : decode cX8_beside 189 = .ok (.iload_n 3, 1) := by decide +kernel
theorem dX8_beside_190 : decode cX8_beside 190 = .ok (.iload 8, 2) := by decide +kernel
theorem dX8_beside_192 : decode cX8_beside 192 = .ok (.invokestatic 205, 3) := by decide +kernel
theorem dX8_beside_195 : decode cX8_beside 195 = .ok (.iadd, 1) := by decide +kernel
theorem dX8_beside_196 : decode cX8_beside 196 = .ok (.istore_n 3, 1) := by decide +kernel
theorem dX8_beside_197 : decode cX8_beside 197 = .ok (.iload 4, 2) := by decide +kernel
theorem dX8_beside_199 : decode cX8_beside 199 = .ok (.iload 9, 2) := by decide +kernel
theorem dX8_beside_201 : decode cX8_beside 201 = .ok (.invokestatic 205, 3) := by decide +kernel
theorem dX8_beside_204 : decode cX8_beside 204 = .ok (.iadd, 1) := by decide +kernel
theorem dX8_beside_205 : decode cX8_beside 205 = .ok (.istore 4, 2) := by decide +kernel
theorem dX8_beside_207 : decode cX8_beside 207 = .ok (.iload 5, 2) := by decide +kernel
theorem dX8_beside_209 : decode cX8_beside 209 = .ok (.ifCond .ge 18, 3) := by decide +kernel
theorem dX8_beside_212 : decode cX8_beside 212 = .ok (.iload 8, 2) := by decide +kernel
theorem dX8_beside_214 : decode cX8_beside 214 = .ok (.ifCond .ne 8, 3) := by decide +kernel
theorem dX8_beside_217 : decode cX8_beside 217 = .ok (.iload 9, 2) := by decide +kernel
theorem dX8_beside_219 : decode cX8_beside 219 = .ok (.ifCond .eq 8, 3) := by decide +kernel
theorem dX8_beside_222 : decode cX8_beside 222 = .ok (.iload 6, 2) := by decide +kernel
theorem dX8_beside_224 : decode cX8_beside 224 = .ok (.goto 5, 3) := by decide +kernel
theorem dX8_beside_227 : decode cX8_beside 227 = .ok (.iload 5, 2) := by decide +kernel
theorem dX8_beside_229 : decode cX8_beside 229 = .ok (.istore 5, 2) := by decide +kernel
theorem dX8_beside_231 : decode cX8_beside 231 = .ok (.iinc 6 1, 3) := by decide +kernel
theorem dX8_beside_234 : decode cX8_beside 234 = .ok (.goto (-140), 3) := by decide +kernel
theorem dX8_beside_237 : decode cX8_beside 237 = .ok (.iload_n 2, 1) := by decide +kernel
theorem dX8_beside_238 : decode cX8_beside 238 = .ok (.ifCond .ne 7, 3) := by decide +kernel
theorem dX8_beside_241 : decode cX8_beside 241 = .ok (.iload_n 3, 1) := by decide +kernel
theorem dX8_beside_242 : decode cX8_beside 242 = .ok (.goto 15, 3) := by decide +kernel
theorem dX8_beside_245 : decode cX8_beside 245 = .ok (.iload_n 2, 1) := by decide +kernel
theorem dX8_beside_246 : decode cX8_beside 246 = .ok (.iconst 1, 1) := by decide +kernel
theorem dX8_beside_247 : decode cX8_beside 247 = .ok (.if_icmp .ne 8, 3) := by decide +kernel
theorem dX8_beside_250 : decode cX8_beside 250 = .ok (.iload 4, 2) := by decide +kernel
theorem dX8_beside_252 : decode cX8_beside 252 = .ok (.goto 5, 3) := by decide +kernel
theorem dX8_beside_255 : decode cX8_beside 255 = .ok (.iload 5, 2) := by decide +kernel
theorem dX8_beside_257 : decode cX8_beside 257 = .ok (.ireturn, 1) := by decide +kernel
theorem dX8_together_0 : decode cX8_together 0 = .ok (.aload_n 0, 1) := by decide +kernel
theorem dX8_together_1 : decode cX8_together 1 = .ok (.iload_n 1, 1) := by decide +kernel
theorem dX8_together_2 : decode cX8_together 2 = .ok (.invokevirtual 147, 3) := by decide +kernel
theorem dX8_together_5 : decode cX8_together 5 = .ok (.ifCond .ne 11, 3) := by decide +kernel
theorem dX8_together_8 : decode cX8_together 8 = .ok (.aload_n 0, 1) := by decide +kernel
theorem dX8_together_9 : decode cX8_together 9 = .ok (.iload_n 2, 1) := by decide +kernel
theorem dX8_together_10 : decode cX8_together 10 = .ok (.invokevirtual 147, 3) := by decide +kernel
theorem dX8_together_13 : decode cX8_together 13 = .ok (.ifCond .eq 7, 3) := by decide +kernel
theorem dX8_together_16 : decode cX8_together 16 = .ok (.sipush (-1001), 3) := by decide +kernel
theorem dX8_together_19 : decode cX8_together 19 = .ok (.ireturn, 1) := by decide +kernel
theorem dX8_together_20 : decode cX8_together 20 = .ok (.aload_n 0, 1) := by decide +kernel
theorem dX8_together_21 : decode cX8_together 21 = .ok (.iconst 4, 1) := by decide +kernel
theorem dX8_together_22 : decode cX8_together 22 = .ok (.putfield 53, 3) := by decide +kernel
theorem dX8_together_25 : decode cX8_together 25 = .ok (.aload_n 0, 1) := by decide +kernel
theorem dX8_together_26 : decode cX8_together 26 = .ok (.iload_n 1, 1) := by decide +kernel
theorem dX8_together_27 : decode cX8_together 27 = .ok (.invokevirtual 153, 3) := by decide +kernel
theorem dX8_together_30 : decode cX8_together 30 = .ok (.istore_n 3, 1) := by decide +kernel
theorem dX8_together_31 : decode cX8_together 31 = .ok (.aload_n 0, 1) := by decide +kernel
theorem dX8_together_32 : decode cX8_together 32 = .ok (.iload_n 2, 1) := by decide +kernel
theorem dX8_together_33 : decode cX8_together 33 = .ok (.invokevirtual 153, 3) := by decide +kernel
theorem dX8_together_36 : decode cX8_together 36 = .ok (.istore 4, 2) := by decide +kernel
theorem dX8_together_38 : decode cX8_together 38 = .ok (.iconst 0, 1) := by decide +kernel
theorem dX8_together_39 : decode cX8_together 39 = .ok (.istore 5, 2) := by decide +kernel
theorem dX8_together_41 : decode cX8_together 41 = .ok (.iconst 0, 1) := by decide +kernel
theorem dX8_together_42 : decode cX8_together 42 = .ok (.istore 6, 2) := by decide +kernel
theorem dX8_together_44 : decode cX8_together 44 = .ok (.iload 6, 2) := by decide +kernel
theorem dX8_together_46 : decode cX8_together 46 = .ok (.aload_n 0, 1) := by decide +kernel
theorem dX8_together_47 : decode cX8_together 47 = .ok (.getfield 37, 3) := by decide +kernel
theorem dX8_together_50 : decode cX8_together 50 = .ok (.iconst 4, 1) := by decide +kernel
theorem dX8_together_51 : decode cX8_together 51 = .ok (.iaload, 1) := by decide +kernel
theorem dX8_together_52 : decode cX8_together 52 = .ok (.if_icmp .ge 111, 3) := by decide +kernel
theorem dX8_together_55 : decode cX8_together 55 = .ok (.iconst 0, 1) := by decide +kernel
theorem dX8_together_56 : decode cX8_together 56 = .ok (.istore 7, 2) := by decide +kernel
theorem dX8_together_58 : decode cX8_together 58 = .ok (.iconst 0, 1) := by decide +kernel
theorem dX8_together_59 : decode cX8_together 59 = .ok (.istore 8, 2) := by decide +kernel
theorem dX8_together_61 : decode cX8_together 61 = .ok (.iconst 0, 1) := by decide +kernel
theorem dX8_together_62 : decode cX8_together 62 = .ok (.istore 9, 2) := by decide +kernel
theorem dX8_together_64 : decode cX8_together 64 = .ok (.iload 9, 2) := by decide +kernel
theorem dX8_together_66 : decode cX8_together 66 = .ok (.aload_n 0, 1) := by decide +kernel
theorem dX8_together_67 : decode cX8_together 67 = .ok (.iload 6, 2) := by decide +kernel
theorem dX8_together_69 : decode cX8_together 69 = .ok (.invokevirtual 164, 3) := by decide +kernel
theorem dX8_together_72 : decode cX8_together 72 = .ok (.if_icmp .ge 65, 3) := by decide +kernel
theorem dX8_together_75 : decode cX8_together 75 = .ok (.aload_n 0, 1) := by decide +kernel
theorem dX8_together_76 : decode cX8_together 76 = .ok (.aload_n 0, 1) := by decide +kernel
theorem dX8_together_77 : decode cX8_together 77 = .ok (.getfield 57, 3) := by decide +kernel
theorem dX8_together_80 : decode cX8_together 80 = .ok (.aload_n 0, 1) := by decide +kernel
theorem dX8_together_81 : decode cX8_together 81 = .ok (.iload 6, 2) := by decide +kernel
theorem dX8_together_83 : decode cX8_together 83 = .ok (.iload 9, 2) := by decide +kernel
theorem dX8_together_85 : decode cX8_together 85 = .ok (.invokevirtual 167, 3) := by decide +kernel
theorem dX8_together_88 : decode cX8_together 88 = .ok (.iaload, 1) := by decide +kernel
theorem dX8_together_89 : decode cX8_together 89 = .ok (.invokevirtual 153, 3) := by decide +kernel
theorem dX8_together_92 : decode cX8_together 92 = .ok (.istore 10, 2) := by decide +kernel
theorem dX8_together_94 : decode cX8_together 94 = .ok (.iload 7, 2) := by decide +kernel
theorem dX8_together_96 : decode cX8_together 96 = .ok (.ifCond .ne 9, 3) := by decide +kernel
theorem dX8_together_99 : decode cX8_together 99 = .ok (.iload 10, 2) := by decide +kernel
theorem dX8_together_101 : decode cX8_together 101 = .ok (.iload_n 3, 1) := by decide +kernel
theorem dX8_together_102 : decode cX8_together 102 = .ok (.if_icmp .ne 7, 3) := by decide +kernel
theorem dX8_together_105 : decode cX8_together 105 = .ok (.iconst 1, 1) := by decide +kernel
theorem dX8_together_106 : decode cX8_together 106 = .ok (.goto 4, 3) := by decide +kernel
theorem dX8_together_109 : decode cX8_together 109 = .ok (.iconst 0, 1) := by decide +kernel
theorem dX8_together_110 : decode cX8_together 110 = .ok (.istore 7, 2) := by decide +kernel
theorem dX8_together_112 : decode cX8_together 112 = .ok (.iload 8, 2) := by decide +kernel
theorem dX8_together_114 : decode cX8_together 114 = .ok (.ifCond .ne 10, 3) := by decide +kernel
theorem dX8_together_117 : decode cX8_together 117 = .ok (.iload 10, 2) := by decide +kernel
theorem dX8_together_119 : decode cX8_together 119 = .ok (.iload 4, 2) := by decide +kernel
theorem dX8_together_121 : decode cX8_together 121 = .ok (.if_icmp .ne 7, 3) := by decide +kernel
theorem dX8_together_124 : decode cX8_together 124 = .ok (.iconst 1, 1) := by decide +kernel
theorem dX8_together_125 : decode cX8_together 125 = .ok (.goto 4, 3) := by decide +kernel
theorem dX8_together_128 : decode cX8_together 128 = .ok (.iconst 0, 1) := by decide +kernel
theorem dX8_together_129 : decode cX8_together 129 = .ok (.istore 8, 2) := by decide +kernel
theorem dX8_together_131 : decode cX8_together 131 = .ok (.iinc 9 1, 3) := by decide +kernel
theorem dX8_together_134 : decode cX8_together 134 = .ok (.goto (-70), 3) := by decide +kernel
theorem dX8_together_137 : decode cX8_together 137 = .ok (.iload 5, 2) := by decide +kernel
theorem dX8_together_139 : decode cX8_together 139 = .ok (.iload 7, 2) := by decide +kernel
theorem dX8_together_141 : decode cX8_together 141 = .ok (.ifCond .eq 12, 3) := by decide +kernel
theorem dX8_together_144 : decode cX8_together 144 = .ok (.iload 8, 2) := by decide +kernel
theorem dX8_together_146 : decode cX8_together 146 = .ok (.ifCond .eq 7, 3) := by decide +kernel
theorem dX8_together_149 : decode cX8_together 149 = .ok (.iconst 1, 1) := by decide +kernel
theorem dX8_together_150 : decode cX8_together 150 = .ok (.goto 4, 3) := by decide +kernel
theorem dX8_together_153 : decode cX8_together 153 = .ok (.iconst 0, 1) := by decide +kernel
theorem dX8_together_154 : decode cX8_together 154 = .ok (.iadd, 1) := by decide +kernel
theorem dX8_together_155 : decode cX8_together 155 = .ok (.istore 5, 2) := by decide +kernel
theorem dX8_together_157 : decode cX8_together 157 = .ok (.iinc 6 1, 3) := by decide +kernel
theorem dX8_together_160 : decode cX8_together 160 = .ok (.goto (-116), 3) := by decide +kernel
theorem dX8_together_163 : decode cX8_together 163 = .ok (.iload 5, 2) := by decide +kernel
theorem dX8_together_165 : decode cX8_together 165 = .ok (.ireturn, 1) := by decide +kernel
theorem dX8_rank_0 : decode cX8_rank 0 = .ok (.aload_n 0, 1) := by decide +kernel
theorem dX8_rank_1 : decode cX8_rank 1 = .ok (.iconst 4, 1) := by decide +kernel
theorem dX8_rank_2 : decode cX8_rank 2 = .ok (.invokevirtual 221, 3) := by decide +kernel
theorem dX8_rank_5 : decode cX8_rank 5 = .ok (.iconst 0, 1) := by decide +kernel
theorem dX8_rank_6 : decode cX8_rank 6 = .ok (.istore_n 1, 1) := by decide +kernel
theorem dX8_rank_7 : decode cX8_rank 7 = .ok (.iconst 1, 1) := by decide +kernel
theorem dX8_rank_8 : decode cX8_rank 8 = .ok (.istore_n 2, 1) := by decide +kernel
theorem dX8_rank_9 : decode cX8_rank 9 = .ok (.iload_n 2, 1) := by decide +kernel
theorem dX8_rank_10 : decode cX8_rank 10 = .ok (.ifCond .eq 66, 3) := by decide +kernel
theorem dX8_rank_13 : decode cX8_rank 13 = .ok (.iconst 0, 1) := by decide +kernel
theorem dX8_rank_14 : decode cX8_rank 14 = .ok (.istore_n 3, 1) := by decide +kernel
theorem dX8_rank_15 : decode cX8_rank 15 = .ok (.iconst 0, 1) := by decide +kernel
theorem dX8_rank_16 : decode cX8_rank 16 = .ok (.istore 4, 2) := by decide +kernel
theorem dX8_rank_18 : decode cX8_rank 18 = .ok (.iload 4, 2) := by decide +kernel
theorem dX8_rank_20 : decode cX8_rank 20 = .ok (.aload_n 0, 1) := by decide +kernel
theorem dX8_rank_21 : decode cX8_rank 21 = .ok (.getfield 124, 3) := by decide +kernel
theorem dX8_rank_24 : decode cX8_rank 24 = .ok (.if_icmp .ge 31, 3) := by decide +kernel
theorem dX8_rank_27 : decode cX8_rank 27 = .ok (.iload_n 3, 1) := by decide +kernel
theorem dX8_rank_28 : decode cX8_rank 28 = .ok (.aload_n 0, 1) := by decide +kernel
theorem dX8_rank_29 : decode cX8_rank 29 = .ok (.getfield 72, 3) := by decide +kernel
theorem dX8_rank_32 : decode cX8_rank 32 = .ok (.iload 4, 2) := by decide +kernel
theorem dX8_rank_34 : decode cX8_rank 34 = .ok (.iaload, 1) := by decide +kernel
theorem dX8_rank_35 : decode cX8_rank 35 = .ok (.iload_n 1, 1) := by decide +kernel
theorem dX8_rank_36 : decode cX8_rank 36 = .ok (.if_icmp .le 7, 3) := by decide +kernel
theorem dX8_rank_39 : decode cX8_rank 39 = .ok (.iconst 1, 1) := by decide +kernel
theorem dX8_rank_40 : decode cX8_rank 40 = .ok (.goto 4, 3) := by decide +kernel
theorem dX8_rank_43 : decode cX8_rank 43 = .ok (.iconst 0, 1) := by decide +kernel
theorem dX8_rank_44 : decode cX8_rank 44 = .ok (.invokestatic 205, 3) := by decide +kernel
theorem dX8_rank_47 : decode cX8_rank 47 = .ok (.iadd, 1) := by decide +kernel
theorem dX8_rank_48 : decode cX8_rank 48 = .ok (.istore_n 3, 1) := by decide +kernel
theorem dX8_rank_49 : decode cX8_rank 49 = .ok (.iinc 4 1, 3) := by decide +kernel
theorem dX8_rank_52 : decode cX8_rank 52 = .ok (.goto (-34), 3) := by decide +kernel
theorem dX8_rank_55 : decode cX8_rank 55 = .ok (.iload_n 3, 1) := by decide +kernel
theorem dX8_rank_56 : decode cX8_rank 56 = .ok (.iload_n 1, 1) := by decide +kernel
theorem dX8_rank_57 : decode cX8_rank 57 = .ok (.if_icmp .le 7, 3) := by decide +kernel
theorem dX8_rank_60 : decode cX8_rank 60 = .ok (.iconst 1, 1) := by decide +kernel
theorem dX8_rank_61 : decode cX8_rank 61 = .ok (.goto 4, 3) := by decide +kernel
theorem dX8_rank_64 : decode cX8_rank 64 = .ok (.iconst 0, 1) := by decide +kernel
theorem dX8_rank_65 : decode cX8_rank 65 = .ok (.istore_n 2, 1) := by decide +kernel
theorem dX8_rank_66 : decode cX8_rank 66 = .ok (.iload_n 1, 1) := by decide +kernel
theorem dX8_rank_67 : decode cX8_rank 67 = .ok (.iload_n 2, 1) := by decide +kernel
theorem dX8_rank_68 : decode cX8_rank 68 = .ok (.invokestatic 205, 3) := by decide +kernel
theorem dX8_rank_71 : decode cX8_rank 71 = .ok (.iadd, 1) := by decide +kernel
theorem dX8_rank_72 : decode cX8_rank 72 = .ok (.istore_n 1, 1) := by decide +kernel
theorem dX8_rank_73 : decode cX8_rank 73 = .ok (.goto (-64), 3) := by decide +kernel
theorem dX8_rank_76 : decode cX8_rank 76 = .ok (.iload_n 1, 1) := by decide +kernel
theorem dX8_rank_77 : decode cX8_rank 77 = .ok (.ireturn, 1) := by decide +kernel
theorem dX8_tryStyle_0 : decode cX8_tryStyle 0 = .ok (.aload_n 0, 1) := by decide +kernel
theorem dX8_tryStyle_1 : decode cX8_tryStyle 1 = .ok (.getfield 46, 3) := by decide +kernel
theorem dX8_tryStyle_4 : decode cX8_tryStyle 4 = .ok (.bipush 42, 2) := by decide +kernel
theorem dX8_tryStyle_6 : decode cX8_tryStyle 6 = .ok (.iload_n 1, 1) := by decide +kernel
theorem dX8_tryStyle_7 : decode cX8_tryStyle 7 = .ok (.iastore, 1) := by decide +kernel
theorem dX8_tryStyle_8 : decode cX8_tryStyle 8 = .ok (.aload_n 0, 1) := by decide +kernel
theorem dX8_tryStyle_9 : decode cX8_tryStyle 9 = .ok (.getfield 46, 3) := by decide +kernel
theorem dX8_tryStyle_12 : decode cX8_tryStyle 12 = .ok (.bipush 43, 2) := by decide +kernel
theorem dX8_tryStyle_14 : decode cX8_tryStyle 14 = .ok (.iload_n 2, 1) := by decide +kernel
theorem dX8_tryStyle_15 : decode cX8_tryStyle 15 = .ok (.iastore, 1) := by decide +kernel
theorem dX8_tryStyle_16 : decode cX8_tryStyle 16 = .ok (.aload_n 0, 1) := by decide +kernel
theorem dX8_tryStyle_17 : decode cX8_tryStyle 17 = .ok (.getfield 46, 3) := by decide +kernel
theorem dX8_tryStyle_20 : decode cX8_tryStyle 20 = .ok (.bipush 45, 2) := by decide +kernel
theorem dX8_tryStyle_22 : decode cX8_tryStyle 22 = .ok (.iload_n 3, 1) := by decide +kernel
theorem dX8_tryStyle_23 : decode cX8_tryStyle 23 = .ok (.iconst 4, 1) := by decide +kernel
theorem dX8_tryStyle_24 : decode cX8_tryStyle 24 = .ok (.idiv, 1) := by decide +kernel
theorem dX8_tryStyle_25 : decode cX8_tryStyle 25 = .ok (.iastore, 1) := by decide +kernel
theorem dX8_tryStyle_26 : decode cX8_tryStyle 26 = .ok (.aload_n 0, 1) := by decide +kernel
theorem dX8_tryStyle_27 : decode cX8_tryStyle 27 = .ok (.getfield 46, 3) := by decide +kernel
theorem dX8_tryStyle_30 : decode cX8_tryStyle 30 = .ok (.bipush 46, 2) := by decide +kernel
theorem dX8_tryStyle_32 : decode cX8_tryStyle 32 = .ok (.iload_n 3, 1) := by decide +kernel
theorem dX8_tryStyle_33 : decode cX8_tryStyle 33 = .ok (.iconst 2, 1) := by decide +kernel
theorem dX8_tryStyle_34 : decode cX8_tryStyle 34 = .ok (.idiv, 1) := by decide +kernel
theorem dX8_tryStyle_35 : decode cX8_tryStyle 35 = .ok (.iconst 2, 1) := by decide +kernel
theorem dX8_tryStyle_36 : decode cX8_tryStyle 36 = .ok (.irem, 1) := by decide +kernel
theorem dX8_tryStyle_37 : decode cX8_tryStyle 37 = .ok (.iastore, 1) := by decide +kernel
theorem dX8_tryStyle_38 : decode cX8_tryStyle 38 = .ok (.aload_n 0, 1) := by decide +kernel
theorem dX8_tryStyle_39 : decode cX8_tryStyle 39 = .ok (.getfield 46, 3) := by decide +kernel
theorem dX8_tryStyle_42 : decode cX8_tryStyle 42 = .ok (.bipush 47, 2) := by decide +kernel
theorem dX8_tryStyle_44 : decode cX8_tryStyle 44 = .ok (.iload_n 3, 1) := by decide +kernel
theorem dX8_tryStyle_45 : decode cX8_tryStyle 45 = .ok (.iconst 2, 1) := by decide +kernel
theorem dX8_tryStyle_46 : decode cX8_tryStyle 46 = .ok (.irem, 1) := by decide +kernel
theorem dX8_tryStyle_47 : decode cX8_tryStyle 47 = .ok (.iastore, 1) := by decide +kernel
theorem dX8_tryStyle_48 : decode cX8_tryStyle 48 = .ok (.aload_n 0, 1) := by decide +kernel
theorem dX8_tryStyle_49 : decode cX8_tryStyle 49 = .ok (.iconst 4, 1) := by decide +kernel
theorem dX8_tryStyle_50 : decode cX8_tryStyle 50 = .ok (.invokevirtual 221, 3) := by decide +kernel
theorem dX8_tryStyle_53 : decode cX8_tryStyle 53 = .ok (.aload_n 0, 1) := by decide +kernel
theorem dX8_tryStyle_54 : decode cX8_tryStyle 54 = .ok (.invokevirtual 256, 3) := by decide +kernel
theorem dX8_tryStyle_57 : decode cX8_tryStyle 57 = .ok (.ifCond .ne 99, 3) := by decide +kernel
theorem dX8_tryStyle_60 : decode cX8_tryStyle 60 = .ok (.aload_n 0, 1) := by decide +kernel
theorem dX8_tryStyle_61 : decode cX8_tryStyle 61 = .ok (.getfield 330, 3) := by decide +kernel
theorem dX8_tryStyle_64 : decode cX8_tryStyle 64 = .ok (.ifCond .lt 14, 3) := by decide +kernel
theorem dX8_tryStyle_67 : decode cX8_tryStyle 67 = .ok (.aload_n 0, 1) := by decide +kernel
theorem dX8_tryStyle_68 : decode cX8_tryStyle 68 = .ok (.invokevirtual 260, 3) := by decide +kernel
theorem dX8_tryStyle_71 : decode cX8_tryStyle 71 = .ok (.aload_n 0, 1) := by decide +kernel
theorem dX8_tryStyle_72 : decode cX8_tryStyle 72 = .ok (.getfield 330, 3) := by decide +kernel
theorem dX8_tryStyle_75 : decode cX8_tryStyle 75 = .ok (.if_icmp .ge 81, 3) := by decide +kernel
theorem dX8_tryStyle_78 : decode cX8_tryStyle 78 = .ok (.aload_n 0, 1) := by decide +kernel
theorem dX8_tryStyle_79 : decode cX8_tryStyle 79 = .ok (.aload_n 0, 1) := by decide +kernel
theorem dX8_tryStyle_80 : decode cX8_tryStyle 80 = .ok (.invokevirtual 260, 3) := by decide +kernel
theorem dX8_tryStyle_83 : decode cX8_tryStyle 83 = .ok (.putfield 330, 3) := by decide +kernel
theorem dX8_tryStyle_86 : decode cX8_tryStyle 86 = .ok (.iconst 0, 1) := by decide +kernel
theorem dX8_tryStyle_87 : decode cX8_tryStyle 87 = .ok (.istore 4, 2) := by decide +kernel
theorem dX8_tryStyle_89 : decode cX8_tryStyle 89 = .ok (.iload 4, 2) := by decide +kernel
theorem dX8_tryStyle_91 : decode cX8_tryStyle 91 = .ok (.iconst 5, 1) := by decide +kernel
theorem dX8_tryStyle_92 : decode cX8_tryStyle 92 = .ok (.if_icmp .ge 64, 3) := by decide +kernel
theorem dX8_tryStyle_95 : decode cX8_tryStyle 95 = .ok (.aload_n 0, 1) := by decide +kernel
theorem dX8_tryStyle_96 : decode cX8_tryStyle 96 = .ok (.getfield 114, 3) := by decide +kernel
theorem dX8_tryStyle_99 : decode cX8_tryStyle 99 = .ok (.iload 4, 2) := by decide +kernel
theorem dX8_tryStyle_101 : decode cX8_tryStyle 101 = .ok (.iload 4, 2) := by decide +kernel
theorem dX8_tryStyle_103 : decode cX8_tryStyle 103 = .ok (.ifCond .ne 7, 3) := by decide +kernel
theorem dX8_tryStyle_106 : decode cX8_tryStyle 106 = .ok (.iload_n 1, 1) := by decide +kernel
theorem dX8_tryStyle_107 : decode cX8_tryStyle 107 = .ok (.goto 42, 3) := by decide +kernel
theorem dX8_tryStyle_110 : decode cX8_tryStyle 110 = .ok (.iload 4, 2) := by decide +kernel
theorem dX8_tryStyle_112 : decode cX8_tryStyle 112 = .ok (.iconst 1, 1) := by decide +kernel
theorem dX8_tryStyle_113 : decode cX8_tryStyle 113 = .ok (.if_icmp .ne 7, 3) := by decide +kernel
theorem dX8_tryStyle_116 : decode cX8_tryStyle 116 = .ok (.iload_n 2, 1) := by decide +kernel
theorem dX8_tryStyle_117 : decode cX8_tryStyle 117 = .ok (.goto 32, 3) := by decide +kernel
theorem dX8_tryStyle_120 : decode cX8_tryStyle 120 = .ok (.iload 4, 2) := by decide +kernel
theorem dX8_tryStyle_122 : decode cX8_tryStyle 122 = .ok (.iconst 2, 1) := by decide +kernel
theorem dX8_tryStyle_123 : decode cX8_tryStyle 123 = .ok (.if_icmp .ne 9, 3) := by decide +kernel
theorem dX8_tryStyle_126 : decode cX8_tryStyle 126 = .ok (.iload_n 3, 1) := by decide +kernel
theorem dX8_tryStyle_127 : decode cX8_tryStyle 127 = .ok (.iconst 4, 1) := by decide +kernel
theorem dX8_tryStyle_128 : decode cX8_tryStyle 128 = .ok (.idiv, 1) := by decide +kernel
theorem dX8_tryStyle_129 : decode cX8_tryStyle 129 = .ok (.goto 20, 3) := by decide +kernel
theorem dX8_tryStyle_132 : decode cX8_tryStyle 132 = .ok (.iload 4, 2) := by decide +kernel
theorem dX8_tryStyle_134 : decode cX8_tryStyle 134 = .ok (.iconst 3, 1) := by decide +kernel
theorem dX8_tryStyle_135 : decode cX8_tryStyle 135 = .ok (.if_icmp .ne 11, 3) := by decide +kernel
theorem dX8_tryStyle_138 : decode cX8_tryStyle 138 = .ok (.iload_n 3, 1) := by decide +kernel
theorem dX8_tryStyle_139 : decode cX8_tryStyle 139 = .ok (.iconst 2, 1) := by decide +kernel
theorem dX8_tryStyle_140 : decode cX8_tryStyle 140 = .ok (.idiv, 1) := by decide +kernel
theorem dX8_tryStyle_141 : decode cX8_tryStyle 141 = .ok (.iconst 2, 1) := by decide +kernel
theorem dX8_tryStyle_142 : decode cX8_tryStyle 142 = .ok (.irem, 1) := by decide +kernel
theorem dX8_tryStyle_143 : decode cX8_tryStyle 143 = .ok (.goto 6, 3) := by decide +kernel
theorem dX8_tryStyle_146 : decode cX8_tryStyle 146 = .ok (.iload_n 3, 1) := by decide +kernel
theorem dX8_tryStyle_147 : decode cX8_tryStyle 147 = .ok (.iconst 2, 1) := by decide +kernel
theorem dX8_tryStyle_148 : decode cX8_tryStyle 148 = .ok (.irem, 1) := by decide +kernel
theorem dX8_tryStyle_149 : decode cX8_tryStyle 149 = .ok (.iastore, 1) := by decide +kernel
theorem dX8_tryStyle_150 : decode cX8_tryStyle 150 = .ok (.iinc 4 1, 3) := by decide +kernel
theorem dX8_tryStyle_153 : decode cX8_tryStyle 153 = .ok (.goto (-64), 3) := by decide +kernel
theorem dX8_tryStyle_156 : decode cX8_tryStyle 156 = .ok (.return_, 1) := by decide +kernel
theorem dX8_least_0 : decode cX8_least 0 = .ok (.iload_n 1, 1) := by decide +kernel
theorem dX8_least_1 : decode cX8_least 1 = .ok (.i2l, 1) := by decide +kernel
theorem dX8_least_2 : decode cX8_least 2 = .ok (.lconst 0, 1) := by decide +kernel
theorem dX8_least_3 : decode cX8_least 3 = .ok (.ldc2_w 333, 3) := by decide +kernel
theorem dX8_least_6 : decode cX8_least 6 = .ok (.invokestatic 127, 3) := by decide +kernel
theorem dX8_least_9 : decode cX8_least 9 = .ok (.ifCond .ne 7, 3) := by decide +kernel
theorem dX8_least_12 : decode cX8_least 12 = .ok (.sipush (-1002), 3) := by decide +kernel
theorem dX8_least_15 : decode cX8_least 15 = .ok (.ireturn, 1) := by decide +kernel
theorem dX8_least_16 : decode cX8_least 16 = .ok (.iconst 0, 1) := by decide +kernel
theorem dX8_least_17 : decode cX8_least 17 = .ok (.istore_n 2, 1) := by decide +kernel
theorem dX8_least_18 : decode cX8_least 18 = .ok (.iload_n 2, 1) := by decide +kernel
theorem dX8_least_19 : decode cX8_least 19 = .ok (.bipush 10, 2) := by decide +kernel
theorem dX8_least_21 : decode cX8_least 21 = .ok (.if_icmp .ge 24, 3) := by decide +kernel
theorem dX8_least_24 : decode cX8_least 24 = .ok (.aload_n 0, 1) := by decide +kernel
theorem dX8_least_25 : decode cX8_least 25 = .ok (.getfield 117, 3) := by decide +kernel
theorem dX8_least_28 : decode cX8_least 28 = .ok (.iload_n 2, 1) := by decide +kernel
theorem dX8_least_29 : decode cX8_least 29 = .ok (.aload_n 0, 1) := by decide +kernel
theorem dX8_least_30 : decode cX8_least 30 = .ok (.getfield 46, 3) := by decide +kernel
theorem dX8_least_33 : decode cX8_least 33 = .ok (.bipush 40, 2) := by decide +kernel
theorem dX8_least_35 : decode cX8_least 35 = .ok (.iload_n 2, 1) := by decide +kernel
theorem dX8_least_36 : decode cX8_least 36 = .ok (.iadd, 1) := by decide +kernel
theorem dX8_least_37 : decode cX8_least 37 = .ok (.iaload, 1) := by decide +kernel
theorem dX8_least_38 : decode cX8_least 38 = .ok (.iastore, 1) := by decide +kernel
theorem dX8_least_39 : decode cX8_least 39 = .ok (.iinc 2 1, 3) := by decide +kernel
theorem dX8_least_42 : decode cX8_least 42 = .ok (.goto (-24), 3) := by decide +kernel
theorem dX8_least_45 : decode cX8_least 45 = .ok (.aload_n 0, 1) := by decide +kernel
theorem dX8_least_46 : decode cX8_least 46 = .ok (.iconst (-1), 1) := by decide +kernel
theorem dX8_least_47 : decode cX8_least 47 = .ok (.putfield 330, 3) := by decide +kernel
theorem dX8_least_50 : decode cX8_least 50 = .ok (.iconst 1, 1) := by decide +kernel
theorem dX8_least_51 : decode cX8_least 51 = .ok (.istore_n 2, 1) := by decide +kernel
theorem dX8_least_52 : decode cX8_least 52 = .ok (.iload_n 2, 1) := by decide +kernel
theorem dX8_least_53 : decode cX8_least 53 = .ok (.iconst 5, 1) := by decide +kernel
theorem dX8_least_54 : decode cX8_least 54 = .ok (.if_icmp .ge 46, 3) := by decide +kernel
theorem dX8_least_57 : decode cX8_least 57 = .ok (.iconst 1, 1) := by decide +kernel
theorem dX8_least_58 : decode cX8_least 58 = .ok (.istore_n 3, 1) := by decide +kernel
theorem dX8_least_59 : decode cX8_least 59 = .ok (.iload_n 3, 1) := by decide +kernel
theorem dX8_least_60 : decode cX8_least 60 = .ok (.iload_n 2, 1) := by decide +kernel
theorem dX8_least_61 : decode cX8_least 61 = .ok (.if_icmp .gt 33, 3) := by decide +kernel
theorem dX8_least_64 : decode cX8_least 64 = .ok (.iconst 0, 1) := by decide +kernel
theorem dX8_least_65 : decode cX8_least 65 = .ok (.istore 4, 2) := by decide +kernel
theorem dX8_least_67 : decode cX8_least 67 = .ok (.iload 4, 2) := by decide +kernel
theorem dX8_least_69 : decode cX8_least 69 = .ok (.bipush 8, 2) := by decide +kernel
theorem dX8_least_71 : decode cX8_least 71 = .ok (.if_icmp .ge 17, 3) := by decide +kernel
theorem dX8_least_74 : decode cX8_least 74 = .ok (.aload_n 0, 1) := by decide +kernel
theorem dX8_least_75 : decode cX8_least 75 = .ok (.iload_n 2, 1) := by decide +kernel
theorem dX8_least_76 : decode cX8_least 76 = .ok (.iload_n 3, 1) := by decide +kernel
theorem dX8_least_77 : decode cX8_least 77 = .ok (.iload 4, 2) := by decide +kernel
theorem dX8_least_79 : decode cX8_least 79 = .ok (.invokevirtual 335, 3) := by decide +kernel
theorem dX8_least_82 : decode cX8_least 82 = .ok (.iinc 4 1, 3) := by decide +kernel
theorem dX8_least_85 : decode cX8_least 85 = .ok (.goto (-18), 3) := by decide +kernel
theorem dX8_least_88 : decode cX8_least 88 = .ok (.iinc 3 1, 3) := by decide +kernel
theorem dX8_least_91 : decode cX8_least 91 = .ok (.goto (-32), 3) := by decide +kernel
theorem dX8_least_94 : decode cX8_least 94 = .ok (.iinc 2 1, 3) := by decide +kernel
theorem dX8_least_97 : decode cX8_least 97 = .ok (.goto (-45), 3) := by decide +kernel
theorem dX8_least_100 : decode cX8_least 100 = .ok (.iconst 0, 1) := by decide +kernel
theorem dX8_least_101 : decode cX8_least 101 = .ok (.istore_n 2, 1) := by decide +kernel
theorem dX8_least_102 : decode cX8_least 102 = .ok (.iload_n 2, 1) := by decide +kernel
theorem dX8_least_103 : decode cX8_least 103 = .ok (.bipush 10, 2) := by decide +kernel
theorem dX8_least_105 : decode cX8_least 105 = .ok (.if_icmp .ge 24, 3) := by decide +kernel
theorem dX8_least_108 : decode cX8_least 108 = .ok (.aload_n 0, 1) := by decide +kernel
theorem dX8_least_109 : decode cX8_least 109 = .ok (.getfield 46, 3) := by decide +kernel
theorem dX8_least_112 : decode cX8_least 112 = .ok (.bipush 40, 2) := by decide +kernel
theorem dX8_least_114 : decode cX8_least 114 = .ok (.iload_n 2, 1) := by decide +kernel
theorem dX8_least_115 : decode cX8_least 115 = .ok (.iadd, 1) := by decide +kernel
theorem dX8_least_116 : decode cX8_least 116 = .ok (.aload_n 0, 1) := by decide +kernel
theorem dX8_least_117 : decode cX8_least 117 = .ok (.getfield 117, 3) := by decide +kernel
theorem dX8_least_120 : decode cX8_least 120 = .ok (.iload_n 2, 1) := by decide +kernel
theorem dX8_least_121 : decode cX8_least 121 = .ok (.iaload, 1) := by decide +kernel
theorem dX8_least_122 : decode cX8_least 122 = .ok (.iastore, 1) := by decide +kernel
theorem dX8_least_123 : decode cX8_least 123 = .ok (.iinc 2 1, 3) := by decide +kernel
theorem dX8_least_126 : decode cX8_least 126 = .ok (.goto (-24), 3) := by decide +kernel
theorem dX8_least_129 : decode cX8_least 129 = .ok (.aload_n 0, 1) := by decide +kernel
theorem dX8_least_130 : decode cX8_least 130 = .ok (.getfield 330, 3) := by decide +kernel
theorem dX8_least_133 : decode cX8_least 133 = .ok (.ifCond .ge 9, 3) := by decide +kernel
theorem dX8_least_136 : decode cX8_least 136 = .ok (.sipush (-1003), 3) := by decide +kernel
theorem dX8_least_139 : decode cX8_least 139 = .ok (.goto 22, 3) := by decide +kernel
theorem dX8_least_142 : decode cX8_least 142 = .ok (.iload_n 1, 1) := by decide +kernel
theorem dX8_least_143 : decode cX8_least 143 = .ok (.ifCond .ne 10, 3) := by decide +kernel
theorem dX8_least_146 : decode cX8_least 146 = .ok (.aload_n 0, 1) := by decide +kernel
theorem dX8_least_147 : decode cX8_least 147 = .ok (.getfield 330, 3) := by decide +kernel
theorem dX8_least_150 : decode cX8_least 150 = .ok (.goto 11, 3) := by decide +kernel
theorem dX8_least_153 : decode cX8_least 153 = .ok (.aload_n 0, 1) := by decide +kernel
theorem dX8_least_154 : decode cX8_least 154 = .ok (.getfield 114, 3) := by decide +kernel
theorem dX8_least_157 : decode cX8_least 157 = .ok (.iload_n 1, 1) := by decide +kernel
theorem dX8_least_158 : decode cX8_least 158 = .ok (.iconst 1, 1) := by decide +kernel
theorem dX8_least_159 : decode cX8_least 159 = .ok (.isub, 1) := by decide +kernel
theorem dX8_least_160 : decode cX8_least 160 = .ok (.iaload, 1) := by decide +kernel
theorem dX8_least_161 : decode cX8_least 161 = .ok (.ireturn, 1) := by decide +kernel
