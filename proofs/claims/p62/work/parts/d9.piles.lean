/-! Printed by program: the law's script, and its piles. -/
theorem dL_piles_0 : decode cL_piles 0 = .ok (.aload_n 1, 1) := by decide +kernel
theorem dL_piles_1 : decode cL_piles 1 = .ok (.invokevirtual 295, 3) := by decide +kernel
theorem dL_piles_4 : decode cL_piles 4 = .ok (.istore_n 2, 1) := by decide +kernel
theorem dL_piles_5 : decode cL_piles 5 = .ok (.iconst 0, 1) := by decide +kernel
theorem dL_piles_6 : decode cL_piles 6 = .ok (.istore_n 3, 1) := by decide +kernel
theorem dL_piles_7 : decode cL_piles 7 = .ok (.iload_n 3, 1) := by decide +kernel
theorem dL_piles_8 : decode cL_piles 8 = .ok (.iload_n 2, 1) := by decide +kernel
theorem dL_piles_9 : decode cL_piles 9 = .ok (.if_icmp .ge 449, 3) := by decide +kernel
theorem dL_piles_12 : decode cL_piles 12 = .ok (.iconst 0, 1) := by decide +kernel
theorem dL_piles_13 : decode cL_piles 13 = .ok (.istore 4, 2) := by decide +kernel
theorem dL_piles_15 : decode cL_piles 15 = .ok (.iconst 0, 1) := by decide +kernel
theorem dL_piles_16 : decode cL_piles 16 = .ok (.istore 5, 2) := by decide +kernel
theorem dL_piles_18 : decode cL_piles 18 = .ok (.aload_n 1, 1) := by decide +kernel
theorem dL_piles_19 : decode cL_piles 19 = .ok (.iload_n 3, 1) := by decide +kernel
theorem dL_piles_20 : decode cL_piles 20 = .ok (.invokestatic 298, 3) := by decide +kernel
theorem dL_piles_23 : decode cL_piles 23 = .ok (.astore 6, 2) := by decide +kernel
theorem dL_piles_25 : decode cL_piles 25 = .ok (.aload_n 1, 1) := by decide +kernel
theorem dL_piles_26 : decode cL_piles 26 = .ok (.iload_n 3, 1) := by decide +kernel
theorem dL_piles_27 : decode cL_piles 27 = .ok (.invokestatic 298, 3) := by decide +kernel
theorem dL_piles_30 : decode cL_piles 30 = .ok (.astore 7, 2) := by decide +kernel
theorem dL_piles_32 : decode cL_piles 32 = .ok (.iconst 0, 1) := by decide +kernel
theorem dL_piles_33 : decode cL_piles 33 = .ok (.istore 8, 2) := by decide +kernel
theorem dL_piles_35 : decode cL_piles 35 = .ok (.iload 8, 2) := by decide +kernel
theorem dL_piles_37 : decode cL_piles 37 = .ok (.iconst 4, 1) := by decide +kernel
theorem dL_piles_38 : decode cL_piles 38 = .ok (.if_icmp .ge 98, 3) := by decide +kernel
theorem dL_piles_41 : decode cL_piles 41 = .ok (.iconst 0, 1) := by decide +kernel
theorem dL_piles_42 : decode cL_piles 42 = .ok (.istore 9, 2) := by decide +kernel
theorem dL_piles_44 : decode cL_piles 44 = .ok (.iload 9, 2) := by decide +kernel
theorem dL_piles_46 : decode cL_piles 46 = .ok (.iconst 4, 1) := by decide +kernel
theorem dL_piles_47 : decode cL_piles 47 = .ok (.if_icmp .ge 83, 3) := by decide +kernel
theorem dL_piles_50 : decode cL_piles 50 = .ok (.iload 4, 2) := by decide +kernel
theorem dL_piles_52 : decode cL_piles 52 = .ok (.aload 6, 2) := by decide +kernel
theorem dL_piles_54 : decode cL_piles 54 = .ok (.iload 8, 2) := by decide +kernel
theorem dL_piles_56 : decode cL_piles 56 = .ok (.aaload, 1) := by decide +kernel
theorem dL_piles_57 : decode cL_piles 57 = .ok (.iload 9, 2) := by decide +kernel
theorem dL_piles_59 : decode cL_piles 59 = .ok (.iaload, 1) := by decide +kernel
theorem dL_piles_60 : decode cL_piles 60 = .ok (.iadd, 1) := by decide +kernel
theorem dL_piles_61 : decode cL_piles 61 = .ok (.istore 4, 2) := by decide +kernel
theorem dL_piles_63 : decode cL_piles 63 = .ok (.iload 5, 2) := by decide +kernel
theorem dL_piles_65 : decode cL_piles 65 = .ok (.aload 6, 2) := by decide +kernel
theorem dL_piles_67 : decode cL_piles 67 = .ok (.iload 9, 2) := by decide +kernel
theorem dL_piles_69 : decode cL_piles 69 = .ok (.iload 8, 2) := by decide +kernel
theorem dL_piles_71 : decode cL_piles 71 = .ok (.invokestatic 292, 3) := by decide +kernel
theorem dL_piles_74 : decode cL_piles 74 = .ok (.invokestatic 276, 3) := by decide +kernel
theorem dL_piles_77 : decode cL_piles 77 = .ok (.istore 5, 2) := by decide +kernel
theorem dL_piles_79 : decode cL_piles 79 = .ok (.aload 7, 2) := by decide +kernel
theorem dL_piles_81 : decode cL_piles 81 = .ok (.iload 8, 2) := by decide +kernel
theorem dL_piles_83 : decode cL_piles 83 = .ok (.aaload, 1) := by decide +kernel
theorem dL_piles_84 : decode cL_piles 84 = .ok (.iload 9, 2) := by decide +kernel
theorem dL_piles_86 : decode cL_piles 86 = .ok (.dup2, 1) := by decide +kernel
theorem dL_piles_87 : decode cL_piles 87 = .ok (.iaload, 1) := by decide +kernel
theorem dL_piles_88 : decode cL_piles 88 = .ok (.iconst 4, 1) := by decide +kernel
theorem dL_piles_89 : decode cL_piles 89 = .ok (.iload 9, 2) := by decide +kernel
theorem dL_piles_91 : decode cL_piles 91 = .ok (.iload 8, 2) := by decide +kernel
theorem dL_piles_93 : decode cL_piles 93 = .ok (.invokestatic 302, 3) := by decide +kernel
theorem dL_piles_96 : decode cL_piles 96 = .ok (.isub, 1) := by decide +kernel
theorem dL_piles_97 : decode cL_piles 97 = .ok (.iadd, 1) := by decide +kernel
theorem dL_piles_98 : decode cL_piles 98 = .ok (.iastore, 1) := by decide +kernel
theorem dL_piles_99 : decode cL_piles 99 = .ok (.aload 6, 2) := by decide +kernel
theorem dL_piles_101 : decode cL_piles 101 = .ok (.iload 8, 2) := by decide +kernel
theorem dL_piles_103 : decode cL_piles 103 = .ok (.aaload, 1) := by decide +kernel
theorem dL_piles_104 : decode cL_piles 104 = .ok (.iload 9, 2) := by decide +kernel
theorem dL_piles_106 : decode cL_piles 106 = .ok (.iaload, 1) := by decide +kernel
theorem dL_piles_107 : decode cL_piles 107 = .ok (.ifCond .lt 15, 3) := by decide +kernel
theorem dL_piles_110 : decode cL_piles 110 = .ok (.aload 6, 2) := by decide +kernel
theorem dL_piles_112 : decode cL_piles 112 = .ok (.iload 8, 2) := by decide +kernel
theorem dL_piles_114 : decode cL_piles 114 = .ok (.aaload, 1) := by decide +kernel
theorem dL_piles_115 : decode cL_piles 115 = .ok (.iload 9, 2) := by decide +kernel
theorem dL_piles_117 : decode cL_piles 117 = .ok (.iaload, 1) := by decide +kernel
theorem dL_piles_118 : decode cL_piles 118 = .ok (.iconst 3, 1) := by decide +kernel
theorem dL_piles_119 : decode cL_piles 119 = .ok (.if_icmp .le 5, 3) := by decide +kernel
theorem dL_piles_122 : decode cL_piles 122 = .ok (.iconst 0, 1) := by decide +kernel
theorem dL_piles_123 : decode cL_piles 123 = .ok (.ireturn, 1) := by decide +kernel
theorem dL_piles_124 : decode cL_piles 124 = .ok (.iinc 9 1, 3) := by decide +kernel
theorem dL_piles_127 : decode cL_piles 127 = .ok (.goto (-83), 3) := by decide +kernel
theorem dL_piles_130 : decode cL_piles 130 = .ok (.iinc 8 1, 3) := by decide +kernel
theorem dL_piles_133 : decode cL_piles 133 = .ok (.goto (-98), 3) := by decide +kernel
theorem dL_piles_136 : decode cL_piles 136 = .ok (.iconst 0, 1) := by decide +kernel
theorem dL_piles_137 : decode cL_piles 137 = .ok (.istore 8, 2) := by decide +kernel
theorem dL_piles_139 : decode cL_piles 139 = .ok (.iconst 0, 1) := by decide +kernel
theorem dL_piles_140 : decode cL_piles 140 = .ok (.istore 9, 2) := by decide +kernel
theorem dL_piles_142 : decode cL_piles 142 = .ok (.iload 9, 2) := by decide +kernel
theorem dL_piles_144 : decode cL_piles 144 = .ok (.bipush 32, 2) := by decide +kernel
theorem dL_piles_146 : decode cL_piles 146 = .ok (.if_icmp .ge 29, 3) := by decide +kernel
theorem dL_piles_149 : decode cL_piles 149 = .ok (.iload 8, 2) := by decide +kernel
theorem dL_piles_151 : decode cL_piles 151 = .ok (.aload 7, 2) := by decide +kernel
theorem dL_piles_153 : decode cL_piles 153 = .ok (.iload 9, 2) := by decide +kernel
theorem dL_piles_155 : decode cL_piles 155 = .ok (.iconst 4, 1) := by decide +kernel
theorem dL_piles_156 : decode cL_piles 156 = .ok (.irem, 1) := by decide +kernel
theorem dL_piles_157 : decode cL_piles 157 = .ok (.iload 9, 2) := by decide +kernel
theorem dL_piles_159 : decode cL_piles 159 = .ok (.iconst 4, 1) := by decide +kernel
theorem dL_piles_160 : decode cL_piles 160 = .ok (.idiv, 1) := by decide +kernel
theorem dL_piles_161 : decode cL_piles 161 = .ok (.iconst 4, 1) := by decide +kernel
theorem dL_piles_162 : decode cL_piles 162 = .ok (.irem, 1) := by decide +kernel
theorem dL_piles_163 : decode cL_piles 163 = .ok (.invokestatic 288, 3) := by decide +kernel
theorem dL_piles_166 : decode cL_piles 166 = .ok (.iadd, 1) := by decide +kernel
theorem dL_piles_167 : decode cL_piles 167 = .ok (.istore 8, 2) := by decide +kernel
theorem dL_piles_169 : decode cL_piles 169 = .ok (.iinc 9 1, 3) := by decide +kernel
theorem dL_piles_172 : decode cL_piles 172 = .ok (.goto (-30), 3) := by decide +kernel
theorem dL_piles_175 : decode cL_piles 175 = .ok (.aload_n 0, 1) := by decide +kernel
theorem dL_piles_176 : decode cL_piles 176 = .ok (.bipush 32, 2) := by decide +kernel
theorem dL_piles_178 : decode cL_piles 178 = .ok (.iload_n 3, 1) := by decide +kernel
theorem dL_piles_179 : decode cL_piles 179 = .ok (.iadd, 1) := by decide +kernel
theorem dL_piles_180 : decode cL_piles 180 = .ok (.invokestatic 194, 3) := by decide +kernel
theorem dL_piles_183 : decode cL_piles 183 = .ok (.iconst 1, 1) := by decide +kernel
theorem dL_piles_184 : decode cL_piles 184 = .ok (.iushr, 1) := by decide +kernel
theorem dL_piles_185 : decode cL_piles 185 = .ok (.istore 9, 2) := by decide +kernel
theorem dL_piles_187 : decode cL_piles 187 = .ok (.iload 9, 2) := by decide +kernel
theorem dL_piles_189 : decode cL_piles 189 = .ok (.iconst 4, 1) := by decide +kernel
theorem dL_piles_190 : decode cL_piles 190 = .ok (.irem, 1) := by decide +kernel
theorem dL_piles_191 : decode cL_piles 191 = .ok (.istore 10, 2) := by decide +kernel
theorem dL_piles_193 : decode cL_piles 193 = .ok (.iload 9, 2) := by decide +kernel
theorem dL_piles_195 : decode cL_piles 195 = .ok (.iconst 2, 1) := by decide +kernel
theorem dL_piles_196 : decode cL_piles 196 = .ok (.iushr, 1) := by decide +kernel
theorem dL_piles_197 : decode cL_piles 197 = .ok (.iconst 4, 1) := by decide +kernel
theorem dL_piles_198 : decode cL_piles 198 = .ok (.irem, 1) := by decide +kernel
theorem dL_piles_199 : decode cL_piles 199 = .ok (.istore 11, 2) := by decide +kernel
theorem dL_piles_201 : decode cL_piles 201 = .ok (.iconst 1, 1) := by decide +kernel
theorem dL_piles_202 : decode cL_piles 202 = .ok (.iload 9, 2) := by decide +kernel
theorem dL_piles_204 : decode cL_piles 204 = .ok (.iconst 4, 1) := by decide +kernel
theorem dL_piles_205 : decode cL_piles 205 = .ok (.iushr, 1) := by decide +kernel
theorem dL_piles_206 : decode cL_piles 206 = .ok (.bipush 40, 2) := by decide +kernel
theorem dL_piles_208 : decode cL_piles 208 = .ok (.irem, 1) := by decide +kernel
theorem dL_piles_209 : decode cL_piles 209 = .ok (.iadd, 1) := by decide +kernel
theorem dL_piles_210 : decode cL_piles 210 = .ok (.istore 12, 2) := by decide +kernel
theorem dL_piles_212 : decode cL_piles 212 = .ok (.aload_n 1, 1) := by decide +kernel
theorem dL_piles_213 : decode cL_piles 213 = .ok (.iload_n 3, 1) := by decide +kernel
theorem dL_piles_214 : decode cL_piles 214 = .ok (.invokestatic 298, 3) := by decide +kernel
theorem dL_piles_217 : decode cL_piles 217 = .ok (.astore 13, 2) := by decide +kernel
theorem dL_piles_219 : decode cL_piles 219 = .ok (.aload 13, 2) := by decide +kernel
theorem dL_piles_221 : decode cL_piles 221 = .ok (.iload 11, 2) := by decide +kernel
theorem dL_piles_223 : decode cL_piles 223 = .ok (.aaload, 1) := by decide +kernel
theorem dL_piles_224 : decode cL_piles 224 = .ok (.iload 10, 2) := by decide +kernel
theorem dL_piles_226 : decode cL_piles 226 = .ok (.dup2, 1) := by decide +kernel
theorem dL_piles_227 : decode cL_piles 227 = .ok (.iaload, 1) := by decide +kernel
theorem dL_piles_228 : decode cL_piles 228 = .ok (.iload 12, 2) := by decide +kernel
theorem dL_piles_230 : decode cL_piles 230 = .ok (.iadd, 1) := by decide +kernel
theorem dL_piles_231 : decode cL_piles 231 = .ok (.iastore, 1) := by decide +kernel
theorem dL_piles_232 : decode cL_piles 232 = .ok (.aload 13, 2) := by decide +kernel
theorem dL_piles_234 : decode cL_piles 234 = .ok (.iload 10, 2) := by decide +kernel
theorem dL_piles_236 : decode cL_piles 236 = .ok (.iload 11, 2) := by decide +kernel
theorem dL_piles_238 : decode cL_piles 238 = .ok (.invokestatic 288, 3) := by decide +kernel
theorem dL_piles_241 : decode cL_piles 241 = .ok (.istore 14, 2) := by decide +kernel
theorem dL_piles_243 : decode cL_piles 243 = .ok (.iconst 0, 1) := by decide +kernel
theorem dL_piles_244 : decode cL_piles 244 = .ok (.istore 15, 2) := by decide +kernel
theorem dL_piles_246 : decode cL_piles 246 = .ok (.iload 15, 2) := by decide +kernel
theorem dL_piles_248 : decode cL_piles 248 = .ok (.bipush 32, 2) := by decide +kernel
theorem dL_piles_250 : decode cL_piles 250 = .ok (.if_icmp .ge 29, 3) := by decide +kernel
theorem dL_piles_253 : decode cL_piles 253 = .ok (.iload 14, 2) := by decide +kernel
theorem dL_piles_255 : decode cL_piles 255 = .ok (.aload 13, 2) := by decide +kernel
theorem dL_piles_257 : decode cL_piles 257 = .ok (.iload 15, 2) := by decide +kernel
theorem dL_piles_259 : decode cL_piles 259 = .ok (.iconst 4, 1) := by decide +kernel
theorem dL_piles_260 : decode cL_piles 260 = .ok (.irem, 1) := by decide +kernel
theorem dL_piles_261 : decode cL_piles 261 = .ok (.iload 15, 2) := by decide +kernel
theorem dL_piles_263 : decode cL_piles 263 = .ok (.iconst 4, 1) := by decide +kernel
theorem dL_piles_264 : decode cL_piles 264 = .ok (.idiv, 1) := by decide +kernel
theorem dL_piles_265 : decode cL_piles 265 = .ok (.iconst 4, 1) := by decide +kernel
theorem dL_piles_266 : decode cL_piles 266 = .ok (.irem, 1) := by decide +kernel
theorem dL_piles_267 : decode cL_piles 267 = .ok (.invokestatic 288, 3) := by decide +kernel
theorem dL_piles_270 : decode cL_piles 270 = .ok (.iadd, 1) := by decide +kernel
theorem dL_piles_271 : decode cL_piles 271 = .ok (.istore 14, 2) := by decide +kernel
theorem dL_piles_273 : decode cL_piles 273 = .ok (.iinc 15 1, 3) := by decide +kernel
theorem dL_piles_276 : decode cL_piles 276 = .ok (.goto (-30), 3) := by decide +kernel
theorem dL_piles_279 : decode cL_piles 279 = .ok (.aload_n 1, 1) := by decide +kernel
theorem dL_piles_280 : decode cL_piles 280 = .ok (.iload_n 3, 1) := by decide +kernel
theorem dL_piles_281 : decode cL_piles 281 = .ok (.invokestatic 305, 3) := by decide +kernel
theorem dL_piles_284 : decode cL_piles 284 = .ok (.iload 4, 2) := by decide +kernel
theorem dL_piles_286 : decode cL_piles 286 = .ok (.if_icmp .ne 29, 3) := by decide +kernel
theorem dL_piles_289 : decode cL_piles 289 = .ok (.aload_n 1, 1) := by decide +kernel
theorem dL_piles_290 : decode cL_piles 290 = .ok (.iload_n 3, 1) := by decide +kernel
theorem dL_piles_291 : decode cL_piles 291 = .ok (.invokestatic 307, 3) := by decide +kernel
theorem dL_piles_294 : decode cL_piles 294 = .ok (.iload 4, 2) := by decide +kernel
theorem dL_piles_296 : decode cL_piles 296 = .ok (.aload_n 1, 1) := by decide +kernel
theorem dL_piles_297 : decode cL_piles 297 = .ok (.iload_n 3, 1) := by decide +kernel
theorem dL_piles_298 : decode cL_piles 298 = .ok (.invokestatic 309, 3) := by decide +kernel
theorem dL_piles_301 : decode cL_piles 301 = .ok (.iadd, 1) := by decide +kernel
theorem dL_piles_302 : decode cL_piles 302 = .ok (.aload_n 1, 1) := by decide +kernel
theorem dL_piles_303 : decode cL_piles 303 = .ok (.iload_n 3, 1) := by decide +kernel
theorem dL_piles_304 : decode cL_piles 304 = .ok (.invokestatic 311, 3) := by decide +kernel
theorem dL_piles_307 : decode cL_piles 307 = .ok (.iadd, 1) := by decide +kernel
theorem dL_piles_308 : decode cL_piles 308 = .ok (.if_icmp .ne 7, 3) := by decide +kernel
theorem dL_piles_311 : decode cL_piles 311 = .ok (.iconst 1, 1) := by decide +kernel
theorem dL_piles_312 : decode cL_piles 312 = .ok (.goto 4, 3) := by decide +kernel
theorem dL_piles_315 : decode cL_piles 315 = .ok (.iconst 0, 1) := by decide +kernel
theorem dL_piles_316 : decode cL_piles 316 = .ok (.istore 15, 2) := by decide +kernel
theorem dL_piles_318 : decode cL_piles 318 = .ok (.aload_n 1, 1) := by decide +kernel
theorem dL_piles_319 : decode cL_piles 319 = .ok (.iload_n 3, 1) := by decide +kernel
theorem dL_piles_320 : decode cL_piles 320 = .ok (.invokestatic 313, 3) := by decide +kernel
theorem dL_piles_323 : decode cL_piles 323 = .ok (.iload 8, 2) := by decide +kernel
theorem dL_piles_325 : decode cL_piles 325 = .ok (.bipush 16, 2) := by decide +kernel
theorem dL_piles_327 : decode cL_piles 327 = .ok (.if_icmp .ne 7, 3) := by decide +kernel
theorem dL_piles_330 : decode cL_piles 330 = .ok (.iconst 1, 1) := by decide +kernel
theorem dL_piles_331 : decode cL_piles 331 = .ok (.goto 4, 3) := by decide +kernel
theorem dL_piles_334 : decode cL_piles 334 = .ok (.iconst 0, 1) := by decide +kernel
theorem dL_piles_335 : decode cL_piles 335 = .ok (.if_icmp .ne 20, 3) := by decide +kernel
theorem dL_piles_338 : decode cL_piles 338 = .ok (.aload_n 1, 1) := by decide +kernel
theorem dL_piles_339 : decode cL_piles 339 = .ok (.iload_n 3, 1) := by decide +kernel
theorem dL_piles_340 : decode cL_piles 340 = .ok (.invokestatic 315, 3) := by decide +kernel
theorem dL_piles_343 : decode cL_piles 343 = .ok (.aload_n 1, 1) := by decide +kernel
theorem dL_piles_344 : decode cL_piles 344 = .ok (.iload_n 3, 1) := by decide +kernel
theorem dL_piles_345 : decode cL_piles 345 = .ok (.invokestatic 313, 3) := by decide +kernel
theorem dL_piles_348 : decode cL_piles 348 = .ok (.if_icmp .ne 7, 3) := by decide +kernel
theorem dL_piles_351 : decode cL_piles 351 = .ok (.iconst 1, 1) := by decide +kernel
theorem dL_piles_352 : decode cL_piles 352 = .ok (.goto 4, 3) := by decide +kernel
theorem dL_piles_355 : decode cL_piles 355 = .ok (.iconst 0, 1) := by decide +kernel
theorem dL_piles_356 : decode cL_piles 356 = .ok (.istore 16, 2) := by decide +kernel
theorem dL_piles_358 : decode cL_piles 358 = .ok (.iload 15, 2) := by decide +kernel
theorem dL_piles_360 : decode cL_piles 360 = .ok (.ifCond .eq 90, 3) := by decide +kernel
theorem dL_piles_363 : decode cL_piles 363 = .ok (.iload 16, 2) := by decide +kernel
theorem dL_piles_365 : decode cL_piles 365 = .ok (.ifCond .eq 85, 3) := by decide +kernel
theorem dL_piles_368 : decode cL_piles 368 = .ok (.aload_n 1, 1) := by decide +kernel
theorem dL_piles_369 : decode cL_piles 369 = .ok (.iload_n 3, 1) := by decide +kernel
theorem dL_piles_370 : decode cL_piles 370 = .ok (.invokestatic 318, 3) := by decide +kernel
theorem dL_piles_373 : decode cL_piles 373 = .ok (.iload 5, 2) := by decide +kernel
theorem dL_piles_375 : decode cL_piles 375 = .ok (.if_icmp .ne 75, 3) := by decide +kernel
theorem dL_piles_378 : decode cL_piles 378 = .ok (.aload_n 1, 1) := by decide +kernel
theorem dL_piles_379 : decode cL_piles 379 = .ok (.iload_n 3, 1) := by decide +kernel
theorem dL_piles_380 : decode cL_piles 380 = .ok (.invokestatic 321, 3) := by decide +kernel
theorem dL_piles_383 : decode cL_piles 383 = .ok (.iload 5, 2) := by decide +kernel
theorem dL_piles_385 : decode cL_piles 385 = .ok (.if_icmp .ne 65, 3) := by decide +kernel
theorem dL_piles_388 : decode cL_piles 388 = .ok (.aload_n 1, 1) := by decide +kernel
theorem dL_piles_389 : decode cL_piles 389 = .ok (.iload_n 3, 1) := by decide +kernel
theorem dL_piles_390 : decode cL_piles 390 = .ok (.iload 10, 2) := by decide +kernel
theorem dL_piles_392 : decode cL_piles 392 = .ok (.iload 11, 2) := by decide +kernel
theorem dL_piles_394 : decode cL_piles 394 = .ok (.iload 12, 2) := by decide +kernel
theorem dL_piles_396 : decode cL_piles 396 = .ok (.invokestatic 324, 3) := by decide +kernel
theorem dL_piles_399 : decode cL_piles 399 = .ok (.iload 14, 2) := by decide +kernel
theorem dL_piles_401 : decode cL_piles 401 = .ok (.if_icmp .ne 49, 3) := by decide +kernel
theorem dL_piles_404 : decode cL_piles 404 = .ok (.aload_n 1, 1) := by decide +kernel
theorem dL_piles_405 : decode cL_piles 405 = .ok (.iload_n 3, 1) := by decide +kernel
theorem dL_piles_406 : decode cL_piles 406 = .ok (.iload 10, 2) := by decide +kernel
theorem dL_piles_408 : decode cL_piles 408 = .ok (.iload 11, 2) := by decide +kernel
theorem dL_piles_410 : decode cL_piles 410 = .ok (.iload 12, 2) := by decide +kernel
theorem dL_piles_412 : decode cL_piles 412 = .ok (.invokestatic 327, 3) := by decide +kernel
theorem dL_piles_415 : decode cL_piles 415 = .ok (.iload 14, 2) := by decide +kernel
theorem dL_piles_417 : decode cL_piles 417 = .ok (.if_icmp .ne 33, 3) := by decide +kernel
theorem dL_piles_420 : decode cL_piles 420 = .ok (.aload_n 1, 1) := by decide +kernel
theorem dL_piles_421 : decode cL_piles 421 = .ok (.iload_n 3, 1) := by decide +kernel
theorem dL_piles_422 : decode cL_piles 422 = .ok (.iload 10, 2) := by decide +kernel
theorem dL_piles_424 : decode cL_piles 424 = .ok (.iload 11, 2) := by decide +kernel
theorem dL_piles_426 : decode cL_piles 426 = .ok (.bipush 41, 2) := by decide +kernel
theorem dL_piles_428 : decode cL_piles 428 = .ok (.invokestatic 324, 3) := by decide +kernel
theorem dL_piles_431 : decode cL_piles 431 = .ok (.bipush (-12), 2) := by decide +kernel
theorem dL_piles_433 : decode cL_piles 433 = .ok (.if_icmp .ne 17, 3) := by decide +kernel
theorem dL_piles_436 : decode cL_piles 436 = .ok (.aload_n 1, 1) := by decide +kernel
theorem dL_piles_437 : decode cL_piles 437 = .ok (.iload_n 3, 1) := by decide +kernel
theorem dL_piles_438 : decode cL_piles 438 = .ok (.iconst 4, 1) := by decide +kernel
theorem dL_piles_439 : decode cL_piles 439 = .ok (.iload 11, 2) := by decide +kernel
theorem dL_piles_441 : decode cL_piles 441 = .ok (.iconst 1, 1) := by decide +kernel
theorem dL_piles_442 : decode cL_piles 442 = .ok (.invokestatic 327, 3) := by decide +kernel
theorem dL_piles_445 : decode cL_piles 445 = .ok (.bipush (-12), 2) := by decide +kernel
theorem dL_piles_447 : decode cL_piles 447 = .ok (.if_icmp .eq 5, 3) := by decide +kernel
theorem dL_piles_450 : decode cL_piles 450 = .ok (.iconst 0, 1) := by decide +kernel
theorem dL_piles_451 : decode cL_piles 451 = .ok (.ireturn, 1) := by decide +kernel
theorem dL_piles_452 : decode cL_piles 452 = .ok (.iinc 3 1, 3) := by decide +kernel
theorem dL_piles_455 : decode cL_piles 455 = .ok (.goto (-448), 3) := by decide +kernel
theorem dL_piles_458 : decode cL_piles 458 = .ok (.aload_n 1, 1) := by decide +kernel
theorem dL_piles_459 : decode cL_piles 459 = .ok (.iload_n 2, 1) := by decide +kernel
theorem dL_piles_460 : decode cL_piles 460 = .ok (.invokestatic 305, 3) := by decide +kernel
theorem dL_piles_463 : decode cL_piles 463 = .ok (.bipush (-11), 2) := by decide +kernel
theorem dL_piles_465 : decode cL_piles 465 = .ok (.if_icmp .ne 150, 3) := by decide +kernel
theorem dL_piles_468 : decode cL_piles 468 = .ok (.aload_n 1, 1) := by decide +kernel
theorem dL_piles_469 : decode cL_piles 469 = .ok (.iload_n 2, 1) := by decide +kernel
theorem dL_piles_470 : decode cL_piles 470 = .ok (.iconst 0, 1) := by decide +kernel
theorem dL_piles_471 : decode cL_piles 471 = .ok (.iconst 0, 1) := by decide +kernel
theorem dL_piles_472 : decode cL_piles 472 = .ok (.invokestatic 330, 3) := by decide +kernel
theorem dL_piles_475 : decode cL_piles 475 = .ok (.bipush (-11), 2) := by decide +kernel
theorem dL_piles_477 : decode cL_piles 477 = .ok (.if_icmp .ne 138, 3) := by decide +kernel
theorem dL_piles_480 : decode cL_piles 480 = .ok (.aload_n 1, 1) := by decide +kernel
theorem dL_piles_481 : decode cL_piles 481 = .ok (.iconst 0, 1) := by decide +kernel
theorem dL_piles_482 : decode cL_piles 482 = .ok (.iconst 4, 1) := by decide +kernel
theorem dL_piles_483 : decode cL_piles 483 = .ok (.iconst 0, 1) := by decide +kernel
theorem dL_piles_484 : decode cL_piles 484 = .ok (.invokestatic 330, 3) := by decide +kernel
theorem dL_piles_487 : decode cL_piles 487 = .ok (.bipush (-12), 2) := by decide +kernel
theorem dL_piles_489 : decode cL_piles 489 = .ok (.if_icmp .ne 126, 3) := by decide +kernel
theorem dL_piles_492 : decode cL_piles 492 = .ok (.aload_n 1, 1) := by decide +kernel
theorem dL_piles_493 : decode cL_piles 493 = .ok (.iload_n 2, 1) := by decide +kernel
theorem dL_piles_494 : decode cL_piles 494 = .ok (.invokestatic 313, 3) := by decide +kernel
theorem dL_piles_497 : decode cL_piles 497 = .ok (.bipush (-11), 2) := by decide +kernel
theorem dL_piles_499 : decode cL_piles 499 = .ok (.if_icmp .ne 116, 3) := by decide +kernel
theorem dL_piles_502 : decode cL_piles 502 = .ok (.aload_n 1, 1) := by decide +kernel
theorem dL_piles_503 : decode cL_piles 503 = .ok (.iconst (-1), 1) := by decide +kernel
theorem dL_piles_504 : decode cL_piles 504 = .ok (.invokestatic 315, 3) := by decide +kernel
theorem dL_piles_507 : decode cL_piles 507 = .ok (.bipush (-11), 2) := by decide +kernel
theorem dL_piles_509 : decode cL_piles 509 = .ok (.if_icmp .ne 106, 3) := by decide +kernel
theorem dL_piles_512 : decode cL_piles 512 = .ok (.aload_n 1, 1) := by decide +kernel
theorem dL_piles_513 : decode cL_piles 513 = .ok (.iload_n 2, 1) := by decide +kernel
theorem dL_piles_514 : decode cL_piles 514 = .ok (.invokestatic 318, 3) := by decide +kernel
theorem dL_piles_517 : decode cL_piles 517 = .ok (.bipush (-11), 2) := by decide +kernel
theorem dL_piles_519 : decode cL_piles 519 = .ok (.if_icmp .ne 96, 3) := by decide +kernel
theorem dL_piles_522 : decode cL_piles 522 = .ok (.aload_n 1, 1) := by decide +kernel
theorem dL_piles_523 : decode cL_piles 523 = .ok (.iload_n 2, 1) := by decide +kernel
theorem dL_piles_524 : decode cL_piles 524 = .ok (.invokestatic 321, 3) := by decide +kernel
theorem dL_piles_527 : decode cL_piles 527 = .ok (.bipush (-11), 2) := by decide +kernel
theorem dL_piles_529 : decode cL_piles 529 = .ok (.if_icmp .ne 86, 3) := by decide +kernel
theorem dL_piles_532 : decode cL_piles 532 = .ok (.aload_n 1, 1) := by decide +kernel
theorem dL_piles_533 : decode cL_piles 533 = .ok (.iload_n 2, 1) := by decide +kernel
theorem dL_piles_534 : decode cL_piles 534 = .ok (.invokestatic 307, 3) := by decide +kernel
theorem dL_piles_537 : decode cL_piles 537 = .ok (.bipush (-11), 2) := by decide +kernel
theorem dL_piles_539 : decode cL_piles 539 = .ok (.if_icmp .ne 76, 3) := by decide +kernel
theorem dL_piles_542 : decode cL_piles 542 = .ok (.aload_n 1, 1) := by decide +kernel
theorem dL_piles_543 : decode cL_piles 543 = .ok (.iload_n 2, 1) := by decide +kernel
theorem dL_piles_544 : decode cL_piles 544 = .ok (.invokestatic 309, 3) := by decide +kernel
theorem dL_piles_547 : decode cL_piles 547 = .ok (.bipush (-11), 2) := by decide +kernel
theorem dL_piles_549 : decode cL_piles 549 = .ok (.if_icmp .ne 66, 3) := by decide +kernel
theorem dL_piles_552 : decode cL_piles 552 = .ok (.aload_n 1, 1) := by decide +kernel
theorem dL_piles_553 : decode cL_piles 553 = .ok (.iload_n 2, 1) := by decide +kernel
theorem dL_piles_554 : decode cL_piles 554 = .ok (.invokestatic 311, 3) := by decide +kernel
theorem dL_piles_557 : decode cL_piles 557 = .ok (.bipush (-11), 2) := by decide +kernel
theorem dL_piles_559 : decode cL_piles 559 = .ok (.if_icmp .ne 56, 3) := by decide +kernel
theorem dL_piles_562 : decode cL_piles 562 = .ok (.aload_n 1, 1) := by decide +kernel
theorem dL_piles_563 : decode cL_piles 563 = .ok (.iload_n 2, 1) := by decide +kernel
theorem dL_piles_564 : decode cL_piles 564 = .ok (.invokestatic 332, 3) := by decide +kernel
theorem dL_piles_567 : decode cL_piles 567 = .ok (.bipush (-11), 2) := by decide +kernel
theorem dL_piles_569 : decode cL_piles 569 = .ok (.if_icmp .ne 46, 3) := by decide +kernel
theorem dL_piles_572 : decode cL_piles 572 = .ok (.aload_n 1, 1) := by decide +kernel
theorem dL_piles_573 : decode cL_piles 573 = .ok (.iload_n 2, 1) := by decide +kernel
theorem dL_piles_574 : decode cL_piles 574 = .ok (.invokestatic 334, 3) := by decide +kernel
theorem dL_piles_577 : decode cL_piles 577 = .ok (.bipush (-11), 2) := by decide +kernel
theorem dL_piles_579 : decode cL_piles 579 = .ok (.if_icmp .ne 36, 3) := by decide +kernel
theorem dL_piles_582 : decode cL_piles 582 = .ok (.aload_n 1, 1) := by decide +kernel
theorem dL_piles_583 : decode cL_piles 583 = .ok (.iload_n 2, 1) := by decide +kernel
theorem dL_piles_584 : decode cL_piles 584 = .ok (.bipush 9, 2) := by decide +kernel
theorem dL_piles_586 : decode cL_piles 586 = .ok (.bipush 9, 2) := by decide +kernel
theorem dL_piles_588 : decode cL_piles 588 = .ok (.bipush 99, 2) := by decide +kernel
theorem dL_piles_590 : decode cL_piles 590 = .ok (.invokestatic 324, 3) := by decide +kernel
theorem dL_piles_593 : decode cL_piles 593 = .ok (.bipush (-11), 2) := by decide +kernel
theorem dL_piles_595 : decode cL_piles 595 = .ok (.if_icmp .ne 20, 3) := by decide +kernel
theorem dL_piles_598 : decode cL_piles 598 = .ok (.aload_n 1, 1) := by decide +kernel
theorem dL_piles_599 : decode cL_piles 599 = .ok (.iload_n 2, 1) := by decide +kernel
theorem dL_piles_600 : decode cL_piles 600 = .ok (.iconst 0, 1) := by decide +kernel
theorem dL_piles_601 : decode cL_piles 601 = .ok (.iconst 0, 1) := by decide +kernel
theorem dL_piles_602 : decode cL_piles 602 = .ok (.iconst 1, 1) := by decide +kernel
theorem dL_piles_603 : decode cL_piles 603 = .ok (.invokestatic 327, 3) := by decide +kernel
theorem dL_piles_606 : decode cL_piles 606 = .ok (.bipush (-11), 2) := by decide +kernel
theorem dL_piles_608 : decode cL_piles 608 = .ok (.if_icmp .ne 7, 3) := by decide +kernel
theorem dL_piles_611 : decode cL_piles 611 = .ok (.iconst 1, 1) := by decide +kernel
theorem dL_piles_612 : decode cL_piles 612 = .ok (.goto 4, 3) := by decide +kernel
theorem dL_piles_615 : decode cL_piles 615 = .ok (.iconst 0, 1) := by decide +kernel
theorem dL_piles_616 : decode cL_piles 616 = .ok (.ireturn, 1) := by decide +kernel
noncomputable def fL_piles (N : Nat) (Z : Nat → Int32) (L : Nat) (xs : Nat → Int32) (K : Nat)  : Option Bool :=
  gd (0 ≤ K) <|
  lt (nI (eZ Z)) fun v2 =>
  fix2 (fun self6 (x4 : Int32) (κ5 : Nat) =>
  if v2 ≤ x4 then
  (gd ((κ5 + 1) ≤ K) <|
  jn (fun (y10 : Bool) (κ11 : Nat) =>
  gd (κ11 ≤ K) <|
  some y10) fun j12 =>
  jn (fun (κ16 : Nat) =>
  j12 false κ16) fun j17 =>
  if (wL_grains Z v2) = (-11) then
  (gd ((κ5 + 3) ≤ K) <|
  if (wL_grainsAt Z v2 0 0) = (-11) then
  (gd ((κ5 + 5) ≤ K) <|
  if (wL_grainsAt Z 0 4 0) = (-12) then
  (gd ((κ5 + 6) ≤ K) <|
  if (wL_lasts Z v2) = (-11) then
  (gd ((κ5 + 7) ≤ K) <|
  if (wL_byToppling Z (-1)) = (-11) then
  (gd ((κ5 + 8) ≤ K) <|
  if (wL_slope Z v2) = (-11) then
  (gd ((κ5 + 9) ≤ K) <|
  if (wL_slopeByGrains Z v2) = (-11) then
  (gd ((κ5 + 10) ≤ K) <|
  if (wL_dropped Z v2) = (-11) then
  (gd ((κ5 + 11) ≤ K) <|
  if (wL_spilled Z v2) = (-11) then
  (gd ((κ5 + 12) ≤ K) <|
  if (wL_melted Z v2) = (-11) then
  (gd ((κ5 + 13) ≤ K) <|
  if (wL_roomOf Z v2) = (-11) then
  (gd ((κ5 + 14) ≤ K) <|
  if (wL_limit Z v2) = (-11) then
  (gd ((κ5 + 15) ≤ K) <|
  if (wL_topplings Z v2 9 9 99) = (-11) then
  (gd ((κ5 + 16) ≤ K) <|
  if (wL_byRounds Z v2 0 0 1) = (-11) then
  (j12 true (κ5 + 16))
  else (j17 (κ5 + 16)))
  else (j17 (κ5 + 15)))
  else (j17 (κ5 + 14)))
  else (j17 (κ5 + 13)))
  else (j17 (κ5 + 12)))
  else (j17 (κ5 + 11)))
  else (j17 (κ5 + 10)))
  else (j17 (κ5 + 9)))
  else (j17 (κ5 + 8)))
  else (j17 (κ5 + 7)))
  else (j17 (κ5 + 6)))
  else (j17 (κ5 + 5)))
  else (j17 (κ5 + 3)))
  else (j17 (κ5 + 1)))
  else (gd ((κ5 + 40) ≤ K) <|
  (fL_pile N Z 40 x4).bind fun r48 =>
  gd ((κ5 + 80) ≤ K) <|
  (fL_pile N Z 40 x4).bind fun r51 =>
  fix5 (fun self58 (x53 : Int32) (x54 : Int32) (x55 : Int32) (m56 : Mem) (κ57 : Nat) =>
  if 4 ≤ x55 then
  (fix4 (fun self65 (x61 : Int32) (x62 : Int32) (m63 : Mem) (κ64 : Nat) =>
  if 32 ≤ x62 then
  (gd (κ64 ≤ K) <|
  gd (¬ (32 + x4) < 0) <|
  lt (cellL L xs (32 + x4)) fun v71 =>
  lt (((v71 : Int32).toUInt32 >>> ((1 : Int32).toUInt32 &&& Int32.toUInt32 31)).toInt32) fun v73 =>
  lt (v73 - v73 / 4 * 4) fun v75 =>
  lt ((((v73 : Int32).toUInt32 >>> ((2 : Int32).toUInt32 &&& Int32.toUInt32 31)).toInt32) - (((v73 : Int32).toUInt32 >>> ((2 : Int32).toUInt32 &&& Int32.toUInt32 31)).toInt32) / 4 * 4) fun v77 =>
  lt (1 + ((((v73 : Int32).toUInt32 >>> ((4 : Int32).toUInt32 &&& Int32.toUInt32 31)).toInt32) - (((v73 : Int32).toUInt32 >>> ((4 : Int32).toUInt32 &&& Int32.toUInt32 31)).toInt32) / 40 * 40)) fun v79 =>
  gd ((κ64 + 40) ≤ K) <|
  (fL_pile N Z 40 x4).bind fun r82 =>
  ar 4 v77 fun q84 =>
  ag (r82 (0 + 1 + 1 * q84)) 4 v75 fun v88 =>
  aw r82 (0 + 1 + 1 * q84) 4 v75 (v88 + v79) fun μ91 =>
  gd ((κ64 + 40) ≤ K) <|
  (fL_topple N 300 μ91 0 v75 v77).bind fun r95 =>
  fix4 (fun self100 (x96 : Int32) (x97 : Int32) (m98 : Mem) (κ99 : Nat) =>
  if 32 ≤ x97 then
  (gd ((κ99 + 1) ≤ K) <|
  jn (fun (y104 : Bool) (κ105 : Nat) =>
  gd ((κ105 + 1) ≤ K) <|
  jn (fun (y110 : Bool) (κ111 : Nat) =>
  jn (fun (y115 : Bool) (κ116 : Nat) =>
  jn (fun (κ120 : Nat) =>
  gd (κ120 ≤ K) <|
  some false) fun j121 =>
  cond y104
  (cond y115
  (gd ((κ116 + 1) ≤ K) <|
  if (wL_slope Z x4) = x54 then
  (gd ((κ116 + 2) ≤ K) <|
  if (wL_slopeByGrains Z x4) = x54 then
  (gd ((κ116 + 3) ≤ K) <|
  if (wL_topplings Z x4 v75 v77 v79) = x96 then
  (gd ((κ116 + 4) ≤ K) <|
  if (wL_byRounds Z x4 v75 v77 v79) = x96 then
  (gd ((κ116 + 5) ≤ K) <|
  if (wL_topplings Z x4 v75 v77 41) = (-12) then
  (gd ((κ116 + 6) ≤ K) <|
  if (wL_byRounds Z x4 4 v77 1) = (-12) then
  (lt (x4 + 1) fun v139 =>
  self6 v139 (κ116 + 6))
  else (j121 (κ116 + 6)))
  else (j121 (κ116 + 5)))
  else (j121 (κ116 + 4)))
  else (j121 (κ116 + 3)))
  else (j121 (κ116 + 2)))
  else (j121 (κ116 + 1)))
  (j121 κ116))
  (j121 κ116)) fun j117 =>
  jn (fun (κ141 : Nat) =>
  j117 false κ141) fun j142 =>
  if (wL_lasts Z x4) = (b2i y110) then
  (gd ((κ111 + 1) ≤ K) <|
  gd ((κ111 + 2) ≤ K) <|
  if (wL_byToppling Z x4) = (wL_lasts Z x4) then
  (j117 true (κ111 + 2))
  else (j142 (κ111 + 2)))
  else (j142 κ111)) fun j112 =>
  if x61 = 16 then
  (j112 true (κ105 + 1))
  else (j112 false (κ105 + 1))) fun j106 =>
  jn (fun (κ150 : Nat) =>
  j106 false κ150) fun j151 =>
  if (wL_grains Z x4) = x53 then
  (gd ((κ99 + 2) ≤ K) <|
  gd ((κ99 + 3) ≤ K) <|
  gd ((κ99 + 4) ≤ K) <|
  if (wL_dropped Z x4) = ((x53 + (wL_spilled Z x4)) + (wL_melted Z x4)) then
  (j106 true (κ99 + 4))
  else (j151 (κ99 + 4)))
  else (j151 (κ99 + 1)))
  else (gd (κ99 ≤ K) <|
  (fL_topple N 300 m98 0 (x97 - x97 / 4 * 4) ((x97 / 4) - (x97 / 4) / 4 * 4)).bind fun r160 =>
  lt (x96 + r160.2) fun v161 =>
  lt (x97 + 1) fun v163 =>
  self100 v161 v163 r160.1 κ99)) N r95.2 0 r95.1 (κ64 + 40))
  else (gd (κ64 ≤ K) <|
  (fL_topple N 300 m63 0 (x62 - x62 / 4 * 4) ((x62 / 4) - (x62 / 4) / 4 * 4)).bind fun r166 =>
  lt (x61 + r166.2) fun v167 =>
  lt (x62 + 1) fun v169 =>
  self65 v167 v169 r166.1 κ64)) N 0 0 m56 κ57)
  else (fix5 (fun self176 (x171 : Int32) (x172 : Int32) (x173 : Int32) (m174 : Mem) (κ175 : Nat) =>
  if 4 ≤ x173 then
  (lt (x55 + 1) fun v179 =>
  self58 x171 x172 v179 m174 κ175)
  else (ar 4 x55 fun q181 =>
  ag (r48 (0 + 1 + 1 * q181)) 4 x173 fun v185 =>
  lt (x171 + v185) fun v188 =>
  gd (κ175 ≤ K) <|
  (fL_slopeFrom N 8 r48 0 x173 x55).bind fun r191 =>
  gd (κ175 ≤ K) <|
  lt (imax x172 r191) fun v193 =>
  ar 4 x55 fun q195 =>
  ag (m174 (0 + 1 + 1 * q195)) 4 x173 fun v199 =>
  gd (κ175 ≤ K) <|
  (fL_neighbours N 0 x173 x55).bind fun r203 =>
  aw m174 (0 + 1 + 1 * q195) 4 x173 (v199 + (4 - r203)) fun μ204 =>
  ar 4 x55 fun q207 =>
  ag (r48 (0 + 1 + 1 * q207)) 4 x173 fun v211 =>
  jn (fun (κ214 : Nat) =>
  gd (κ214 ≤ K) <|
  some false) fun j215 =>
  if v211 < 0 then
  (j215 κ175)
  else (ar 4 x55 fun q220 =>
  ag (r48 (0 + 1 + 1 * q220)) 4 x173 fun v224 =>
  if v224 ≤ 3 then
  (lt (x173 + 1) fun v228 =>
  self176 v188 v193 v228 μ204 κ175)
  else (j215 κ175)))) N x53 x54 0 m56 κ57)) N 0 0 0 r51 (κ5 + 80))) N 0 0
abbrev rmL_piles (K : Nat) : Room := { frames := 303, cells := K, slots := 6 * K, locals := 18084 }
set_option maxHeartbeats 4000000 in
set_option maxRecDepth 100000 in
theorem metL_piles {l : Launch} {s0 : State} {b B : Nat} {D : va_G} {T : Nat → ClassId} (F : FX l s0 b D T B) {X : Nat → Prop} (hX : ∀ o, o < 561 → ¬ X (B + o)) {N : Nat} (hN : 1200000000000 ≤ N) {L : Nat} {xs : Nat → Int32} (hL : L ≤ 260) (hXs : va_X b L xs s0 s0.heap) (hbl : b < s0.heap.size) {Z : Nat → Int32} {hs : List (Nat → Int32)} {t : List Nat} {K : Nat}  {r : Bool} (h : fL_piles N Z L xs K  = some r) : gMet l yL_piles cL_piles 17 (some .boolean) (rmL_piles K) [.ref b, .ref (B + 0)] (gZ s0 D T B X Z hs t) (KC s0 X) (some (.int (b2i r))) (gZ s0 D T B X Z hs t) (gA B X) K (6 * K) := by
  refine gZ_of RL (by decide +kernel) rfl (Nat.le_of_ble_eq_true rfl) ?_
  intro p e s m args below meth c ls Q hx hb hlocks hml hown hts hW hk hl hS hend
  have hC := FX_C F hk hx hb hown hts
  have hl : lv_has ls 17 [(0, .ref b), (1, .ref (B + 0))] := hl
  unfold fL_piles at h
  replace hW := gZL_nil hW
  refine lv_aload_n hx hb dL_piles_0 rfl (lv_at hl 1 rfl) ?_
  obtain ⟨g1, h⟩ := gd_out h
  refine gz_dv (As := []) (w := fun r => .int r) F hX hk hC hml hS (gZL_out hW) (fun μ hP => z_exhibitCount (N := N) hP) (fun μ r h9 X9 hX9 => metX10_exhibitCount F hX9 is_Ga h9) ml_L_295 rfl ⟨rfl, rfl, (by first | exact Nat.le_of_ble_eq_true rfl | (simp only [rmL_piles, rmL_neighbours, rmL_pile, rmL_slopeFrom, rmL_topple]; omega) | (simp only [rmL_piles]; omega)), (by first | exact Nat.le_of_ble_eq_true rfl | (simp only [rmL_piles, rmL_neighbours, rmL_pile, rmL_slopeFrom, rmL_topple]; omega) | (simp only [rmL_piles]; omega))⟩ rfl hl.1 rfl (by first | exact Nat.le_of_ble_eq_true rfl | (simp only [rmL_piles, rmL_neighbours, rmL_pile, rmL_slopeFrom, rmL_topple]; omega) | (simp only [rmL_piles]; omega)) dL_piles_1 ⟨(by show _ ≤ K; omega), (by show _ ≤ 6 * K; omega)⟩ (fun H locs hW hS => ?_)
  replace hW := gZL_nil hW
  obtain ⟨v2, e3, h⟩ := lt_out h
  rw [← e3]
  refine lv_istore_n (lv' := [(2, .int v2), (0, .ref b), (1, .ref (B + 0))]) hx hb dL_piles_4 rfl hl (by decide) rfl (fun ls hl => ?_)
  refine lv_iconst (v := 0) hx hb dL_piles_5 (by decide) ?_
  refine lv_istore_n (lv' := [(3, .int 0), (2, .int v2), (0, .ref b), (1, .ref (B + 0))]) hx hb dL_piles_6 rfl hl (by decide) rfl (fun ls hl => ?_)
  refine W.widen (k := 0) (n := 6 * 0) (by omega) (by omega) ?_
  refine fix2_ind (fun (x4 : Int32) (κ5 : Nat) => ∀ (H : Heap) (locs : List Loc) (ls : Array Slot), gZL s0 D T B X Z hs t [] [] H → va_S (gA B X) s.heap H locs → lv_has ls 17 [(0, .ref b), (1, .ref (B + 0)), (2, .int v2), (3, .int x4)] → W p l e (rmL_piles K) s m args below meth c H locs κ5 (6 * κ5) Q (F0 m 7 ls [])) ?_ N _ _ h _ _ _ hW hS (lv_sub hl [2, 3, 1, 0] rfl)
  clear h hW hS hl
  intro self6 IH7 x4 κ5 h H locs ls hW hS hl
  refine lv_iload_n hx hb dL_piles_7 rfl (lv_at hl 3 rfl) ?_
  refine lv_iload_n hx hb dL_piles_8 rfl (lv_at hl 2 rfl) ?_
  refine lv_icmp_ge (tgt := 458) hx hb dL_piles_9 (by decide) (fun c8 => ?_) (fun c8 => ?_)
  · replace h := ite_t c8 h
    refine lv_aload_n hx hb dL_piles_458 rfl (lv_at hl 1 rfl) ?_
    refine lv_iload_n hx hb dL_piles_459 rfl (lv_at hl 2 rfl) ?_
    obtain ⟨g9, h⟩ := gd_out h
    refine gk_wr (As := [.ref (B + 0), .int v2]) F hX hk hC hml hS hW (fun hX2 => mq_grains F hX2 hN) mw_L_305 ⟨rfl, rfl, (by first | exact Nat.le_of_ble_eq_true rfl | (simp only [rmL_piles, rmL_neighbours, rmL_pile, rmL_slopeFrom, rmL_topple]; omega) | (simp only [rmL_piles]; omega)), (by first | exact Nat.le_of_ble_eq_true rfl | (simp only [rmL_piles, rmL_neighbours, rmL_pile, rmL_slopeFrom, rmL_topple]; omega) | (simp only [rmL_piles]; omega))⟩ rfl hl.1 rfl (by first | exact Nat.le_of_ble_eq_true rfl | (simp only [rmL_piles, rmL_neighbours, rmL_pile, rmL_slopeFrom, rmL_topple]; omega) | (simp only [rmL_piles]; omega)) dL_piles_460 ⟨(by show _ ≤ K; omega), (by show _ ≤ 6 * K; omega)⟩ (fun H locs hW hS => ?_)
    refine W.widen (k := (κ5 + 1)) (n := 6 * (κ5 + 1)) (by omega) (by omega) ?_
    change W p l e _ s m args below meth c H locs _ _ Q (F0 m _ ls (.int (wL_grains Z v2) :: _))
    refine lv_bipush (v := (-11)) hx hb dL_piles_463 (by decide) ?_
    obtain ⟨j12, hj14, h⟩ := jn2_o h
    have J13 : ∀ (y10 : Bool) (κ11 : Nat), j12 y10 κ11 = some r → ∀ (H : Heap) (locs : List Loc) (ls : Array Slot), gZL s0 D T B X Z hs t [] [] H → va_S (gA B X) s.heap H locs → lv_has ls 17 [] → W p l e (rmL_piles K) s m args below meth c H locs κ11 (6 * κ11) Q (F0 m 616 ls [.int (b2i y10)]) := by
      clear h hW hS hl
      intro y10 κ11 h H locs ls hW hS hl
      replace h := (hj14 y10 κ11).symm.trans h
      obtain ⟨g15, h⟩ := gd_out h
      cases h
      exact hend dL_piles_616 (gZL_out hW) hS (by omega) (by omega)
    obtain ⟨j17, hj19, h⟩ := jn1_o h
    have J18 : ∀ (κ16 : Nat), j17 κ16 = some r → ∀ (H : Heap) (locs : List Loc) (ls : Array Slot), gZL s0 D T B X Z hs t [] [] H → va_S (gA B X) s.heap H locs → lv_has ls 17 [] → W p l e (rmL_piles K) s m args below meth c H locs κ16 (6 * κ16) Q (F0 m 615 ls []) := by
      clear h hW hS hl
      intro κ16 h H locs ls hW hS hl
      replace h := (hj19 κ16).symm.trans h
      refine lv_iconst (v := 0) hx hb dL_piles_615 (by decide) ?_
      refine W.widen (k := κ16) (n := 6 * κ16) (by omega) (by omega) ?_
      exact J13 _ _ h _ _ _ hW hS (lv_sub hl [] rfl)
    refine lv_icmp_ne (tgt := 615) hx hb dL_piles_465 (by decide) (fun c20 => ?_) (fun c20 => ?_)
    · replace h := ite_f c20 h
      refine W.widen (k := (κ5 + 1)) (n := 6 * (κ5 + 1)) (by omega) (by omega) ?_
      exact J18 _ h _ _ _ hW hS (lv_sub hl [] rfl)
    · replace h := ite_t c20 h
      refine lv_aload_n hx hb dL_piles_468 rfl (lv_at hl 1 rfl) ?_
      refine lv_iload_n hx hb dL_piles_469 rfl (lv_at hl 2 rfl) ?_
      refine lv_iconst (v := 0) hx hb dL_piles_470 (by decide) ?_
      refine lv_iconst (v := 0) hx hb dL_piles_471 (by decide) ?_
      obtain ⟨g21, h⟩ := gd_out h
      refine gk_wr (As := [.ref (B + 0), .int v2, .int 0, .int 0]) F hX hk hC hml hS hW (fun hX2 => mq_grainsAt F hX2 hN) mw_L_330 ⟨rfl, rfl, (by first | exact Nat.le_of_ble_eq_true rfl | (simp only [rmL_piles, rmL_neighbours, rmL_pile, rmL_slopeFrom, rmL_topple]; omega) | (simp only [rmL_piles]; omega)), (by first | exact Nat.le_of_ble_eq_true rfl | (simp only [rmL_piles, rmL_neighbours, rmL_pile, rmL_slopeFrom, rmL_topple]; omega) | (simp only [rmL_piles]; omega))⟩ rfl hl.1 rfl (by first | exact Nat.le_of_ble_eq_true rfl | (simp only [rmL_piles, rmL_neighbours, rmL_pile, rmL_slopeFrom, rmL_topple]; omega) | (simp only [rmL_piles]; omega)) dL_piles_472 ⟨(by show _ ≤ K; omega), (by show _ ≤ 6 * K; omega)⟩ (fun H locs hW hS => ?_)
      refine W.widen (k := (κ5 + 3)) (n := 6 * (κ5 + 3)) (by omega) (by omega) ?_
      change W p l e _ s m args below meth c H locs _ _ Q (F0 m _ ls (.int (wL_grainsAt Z v2 0 0) :: _))
      refine lv_bipush (v := (-11)) hx hb dL_piles_475 (by decide) ?_
      refine lv_icmp_ne (tgt := 615) hx hb dL_piles_477 (by decide) (fun c22 => ?_) (fun c22 => ?_)
      · replace h := ite_f c22 h
        refine W.widen (k := (κ5 + 3)) (n := 6 * (κ5 + 3)) (by omega) (by omega) ?_
        exact J18 _ h _ _ _ hW hS (lv_sub hl [] rfl)
      · replace h := ite_t c22 h
        refine lv_aload_n hx hb dL_piles_480 rfl (lv_at hl 1 rfl) ?_
        refine lv_iconst (v := 0) hx hb dL_piles_481 (by decide) ?_
        refine lv_iconst (v := 4) hx hb dL_piles_482 (by decide) ?_
        refine lv_iconst (v := 0) hx hb dL_piles_483 (by decide) ?_
        obtain ⟨g23, h⟩ := gd_out h
        refine gk_wr (As := [.ref (B + 0), .int 0, .int 4, .int 0]) F hX hk hC hml hS hW (fun hX2 => mq_grainsAt F hX2 hN) mw_L_330 ⟨rfl, rfl, (by first | exact Nat.le_of_ble_eq_true rfl | (simp only [rmL_piles, rmL_neighbours, rmL_pile, rmL_slopeFrom, rmL_topple]; omega) | (simp only [rmL_piles]; omega)), (by first | exact Nat.le_of_ble_eq_true rfl | (simp only [rmL_piles, rmL_neighbours, rmL_pile, rmL_slopeFrom, rmL_topple]; omega) | (simp only [rmL_piles]; omega))⟩ rfl hl.1 rfl (by first | exact Nat.le_of_ble_eq_true rfl | (simp only [rmL_piles, rmL_neighbours, rmL_pile, rmL_slopeFrom, rmL_topple]; omega) | (simp only [rmL_piles]; omega)) dL_piles_484 ⟨(by show _ ≤ K; omega), (by show _ ≤ 6 * K; omega)⟩ (fun H locs hW hS => ?_)
        refine W.widen (k := (κ5 + 5)) (n := 6 * (κ5 + 5)) (by omega) (by omega) ?_
        change W p l e _ s m args below meth c H locs _ _ Q (F0 m _ ls (.int (wL_grainsAt Z 0 4 0) :: _))
        refine lv_bipush (v := (-12)) hx hb dL_piles_487 (by decide) ?_
        refine lv_icmp_ne (tgt := 615) hx hb dL_piles_489 (by decide) (fun c24 => ?_) (fun c24 => ?_)
        · replace h := ite_f c24 h
          refine W.widen (k := (κ5 + 5)) (n := 6 * (κ5 + 5)) (by omega) (by omega) ?_
          exact J18 _ h _ _ _ hW hS (lv_sub hl [] rfl)
        · replace h := ite_t c24 h
          refine lv_aload_n hx hb dL_piles_492 rfl (lv_at hl 1 rfl) ?_
          refine lv_iload_n hx hb dL_piles_493 rfl (lv_at hl 2 rfl) ?_
          obtain ⟨g25, h⟩ := gd_out h
          refine gk_wr (As := [.ref (B + 0), .int v2]) F hX hk hC hml hS hW (fun hX2 => mq_lasts F hX2 hN) mw_L_313 ⟨rfl, rfl, (by first | exact Nat.le_of_ble_eq_true rfl | (simp only [rmL_piles, rmL_neighbours, rmL_pile, rmL_slopeFrom, rmL_topple]; omega) | (simp only [rmL_piles]; omega)), (by first | exact Nat.le_of_ble_eq_true rfl | (simp only [rmL_piles, rmL_neighbours, rmL_pile, rmL_slopeFrom, rmL_topple]; omega) | (simp only [rmL_piles]; omega))⟩ rfl hl.1 rfl (by first | exact Nat.le_of_ble_eq_true rfl | (simp only [rmL_piles, rmL_neighbours, rmL_pile, rmL_slopeFrom, rmL_topple]; omega) | (simp only [rmL_piles]; omega)) dL_piles_494 ⟨(by show _ ≤ K; omega), (by show _ ≤ 6 * K; omega)⟩ (fun H locs hW hS => ?_)
          refine W.widen (k := (κ5 + 6)) (n := 6 * (κ5 + 6)) (by omega) (by omega) ?_
          change W p l e _ s m args below meth c H locs _ _ Q (F0 m _ ls (.int (wL_lasts Z v2) :: _))
          refine lv_bipush (v := (-11)) hx hb dL_piles_497 (by decide) ?_
          refine lv_icmp_ne (tgt := 615) hx hb dL_piles_499 (by decide) (fun c26 => ?_) (fun c26 => ?_)
          · replace h := ite_f c26 h
            refine W.widen (k := (κ5 + 6)) (n := 6 * (κ5 + 6)) (by omega) (by omega) ?_
            exact J18 _ h _ _ _ hW hS (lv_sub hl [] rfl)
          · replace h := ite_t c26 h
            refine lv_aload_n hx hb dL_piles_502 rfl (lv_at hl 1 rfl) ?_
            refine lv_iconst (v := (-1)) hx hb dL_piles_503 (by decide) ?_
            obtain ⟨g27, h⟩ := gd_out h
            refine gk_wr (As := [.ref (B + 0), .int (-1)]) F hX hk hC hml hS hW (fun hX2 => mq_byToppling F hX2 hN) mw_L_315 ⟨rfl, rfl, (by first | exact Nat.le_of_ble_eq_true rfl | (simp only [rmL_piles, rmL_neighbours, rmL_pile, rmL_slopeFrom, rmL_topple]; omega) | (simp only [rmL_piles]; omega)), (by first | exact Nat.le_of_ble_eq_true rfl | (simp only [rmL_piles, rmL_neighbours, rmL_pile, rmL_slopeFrom, rmL_topple]; omega) | (simp only [rmL_piles]; omega))⟩ rfl hl.1 rfl (by first | exact Nat.le_of_ble_eq_true rfl | (simp only [rmL_piles, rmL_neighbours, rmL_pile, rmL_slopeFrom, rmL_topple]; omega) | (simp only [rmL_piles]; omega)) dL_piles_504 ⟨(by show _ ≤ K; omega), (by show _ ≤ 6 * K; omega)⟩ (fun H locs hW hS => ?_)
            refine W.widen (k := (κ5 + 7)) (n := 6 * (κ5 + 7)) (by omega) (by omega) ?_
            change W p l e _ s m args below meth c H locs _ _ Q (F0 m _ ls (.int (wL_byToppling Z (-1)) :: _))
            refine lv_bipush (v := (-11)) hx hb dL_piles_507 (by decide) ?_
            refine lv_icmp_ne (tgt := 615) hx hb dL_piles_509 (by decide) (fun c28 => ?_) (fun c28 => ?_)
            · replace h := ite_f c28 h
              refine W.widen (k := (κ5 + 7)) (n := 6 * (κ5 + 7)) (by omega) (by omega) ?_
              exact J18 _ h _ _ _ hW hS (lv_sub hl [] rfl)
            · replace h := ite_t c28 h
              refine lv_aload_n hx hb dL_piles_512 rfl (lv_at hl 1 rfl) ?_
              refine lv_iload_n hx hb dL_piles_513 rfl (lv_at hl 2 rfl) ?_
              obtain ⟨g29, h⟩ := gd_out h
              refine gk_wr (As := [.ref (B + 0), .int v2]) F hX hk hC hml hS hW (fun hX2 => mq_slope F hX2 hN) mw_L_318 ⟨rfl, rfl, (by first | exact Nat.le_of_ble_eq_true rfl | (simp only [rmL_piles, rmL_neighbours, rmL_pile, rmL_slopeFrom, rmL_topple]; omega) | (simp only [rmL_piles]; omega)), (by first | exact Nat.le_of_ble_eq_true rfl | (simp only [rmL_piles, rmL_neighbours, rmL_pile, rmL_slopeFrom, rmL_topple]; omega) | (simp only [rmL_piles]; omega))⟩ rfl hl.1 rfl (by first | exact Nat.le_of_ble_eq_true rfl | (simp only [rmL_piles, rmL_neighbours, rmL_pile, rmL_slopeFrom, rmL_topple]; omega) | (simp only [rmL_piles]; omega)) dL_piles_514 ⟨(by show _ ≤ K; omega), (by show _ ≤ 6 * K; omega)⟩ (fun H locs hW hS => ?_)
              refine W.widen (k := (κ5 + 8)) (n := 6 * (κ5 + 8)) (by omega) (by omega) ?_
              change W p l e _ s m args below meth c H locs _ _ Q (F0 m _ ls (.int (wL_slope Z v2) :: _))
              refine lv_bipush (v := (-11)) hx hb dL_piles_517 (by decide) ?_
              refine lv_icmp_ne (tgt := 615) hx hb dL_piles_519 (by decide) (fun c30 => ?_) (fun c30 => ?_)
              · replace h := ite_f c30 h
                refine W.widen (k := (κ5 + 8)) (n := 6 * (κ5 + 8)) (by omega) (by omega) ?_
                exact J18 _ h _ _ _ hW hS (lv_sub hl [] rfl)
              · replace h := ite_t c30 h
                refine lv_aload_n hx hb dL_piles_522 rfl (lv_at hl 1 rfl) ?_
                refine lv_iload_n hx hb dL_piles_523 rfl (lv_at hl 2 rfl) ?_
                obtain ⟨g31, h⟩ := gd_out h
                refine gk_wr (As := [.ref (B + 0), .int v2]) F hX hk hC hml hS hW (fun hX2 => mq_slopeByGrains F hX2 hN) mw_L_321 ⟨rfl, rfl, (by first | exact Nat.le_of_ble_eq_true rfl | (simp only [rmL_piles, rmL_neighbours, rmL_pile, rmL_slopeFrom, rmL_topple]; omega) | (simp only [rmL_piles]; omega)), (by first | exact Nat.le_of_ble_eq_true rfl | (simp only [rmL_piles, rmL_neighbours, rmL_pile, rmL_slopeFrom, rmL_topple]; omega) | (simp only [rmL_piles]; omega))⟩ rfl hl.1 rfl (by first | exact Nat.le_of_ble_eq_true rfl | (simp only [rmL_piles, rmL_neighbours, rmL_pile, rmL_slopeFrom, rmL_topple]; omega) | (simp only [rmL_piles]; omega)) dL_piles_524 ⟨(by show _ ≤ K; omega), (by show _ ≤ 6 * K; omega)⟩ (fun H locs hW hS => ?_)
                refine W.widen (k := (κ5 + 9)) (n := 6 * (κ5 + 9)) (by omega) (by omega) ?_
                change W p l e _ s m args below meth c H locs _ _ Q (F0 m _ ls (.int (wL_slopeByGrains Z v2) :: _))
                refine lv_bipush (v := (-11)) hx hb dL_piles_527 (by decide) ?_
                refine lv_icmp_ne (tgt := 615) hx hb dL_piles_529 (by decide) (fun c32 => ?_) (fun c32 => ?_)
                · replace h := ite_f c32 h
                  refine W.widen (k := (κ5 + 9)) (n := 6 * (κ5 + 9)) (by omega) (by omega) ?_
                  exact J18 _ h _ _ _ hW hS (lv_sub hl [] rfl)
                · replace h := ite_t c32 h
                  refine lv_aload_n hx hb dL_piles_532 rfl (lv_at hl 1 rfl) ?_
                  refine lv_iload_n hx hb dL_piles_533 rfl (lv_at hl 2 rfl) ?_
                  obtain ⟨g33, h⟩ := gd_out h
                  refine gk_wr (As := [.ref (B + 0), .int v2]) F hX hk hC hml hS hW (fun hX2 => mq_dropped F hX2 hN) mw_L_307 ⟨rfl, rfl, (by first | exact Nat.le_of_ble_eq_true rfl | (simp only [rmL_piles, rmL_neighbours, rmL_pile, rmL_slopeFrom, rmL_topple]; omega) | (simp only [rmL_piles]; omega)), (by first | exact Nat.le_of_ble_eq_true rfl | (simp only [rmL_piles, rmL_neighbours, rmL_pile, rmL_slopeFrom, rmL_topple]; omega) | (simp only [rmL_piles]; omega))⟩ rfl hl.1 rfl (by first | exact Nat.le_of_ble_eq_true rfl | (simp only [rmL_piles, rmL_neighbours, rmL_pile, rmL_slopeFrom, rmL_topple]; omega) | (simp only [rmL_piles]; omega)) dL_piles_534 ⟨(by show _ ≤ K; omega), (by show _ ≤ 6 * K; omega)⟩ (fun H locs hW hS => ?_)
                  refine W.widen (k := (κ5 + 10)) (n := 6 * (κ5 + 10)) (by omega) (by omega) ?_
                  change W p l e _ s m args below meth c H locs _ _ Q (F0 m _ ls (.int (wL_dropped Z v2) :: _))
                  refine lv_bipush (v := (-11)) hx hb dL_piles_537 (by decide) ?_
                  refine lv_icmp_ne (tgt := 615) hx hb dL_piles_539 (by decide) (fun c34 => ?_) (fun c34 => ?_)
                  · replace h := ite_f c34 h
                    refine W.widen (k := (κ5 + 10)) (n := 6 * (κ5 + 10)) (by omega) (by omega) ?_
                    exact J18 _ h _ _ _ hW hS (lv_sub hl [] rfl)
                  · replace h := ite_t c34 h
                    refine lv_aload_n hx hb dL_piles_542 rfl (lv_at hl 1 rfl) ?_
                    refine lv_iload_n hx hb dL_piles_543 rfl (lv_at hl 2 rfl) ?_
                    obtain ⟨g35, h⟩ := gd_out h
                    refine gk_wr (As := [.ref (B + 0), .int v2]) F hX hk hC hml hS hW (fun hX2 => mq_spilled F hX2 hN) mw_L_309 ⟨rfl, rfl, (by first | exact Nat.le_of_ble_eq_true rfl | (simp only [rmL_piles, rmL_neighbours, rmL_pile, rmL_slopeFrom, rmL_topple]; omega) | (simp only [rmL_piles]; omega)), (by first | exact Nat.le_of_ble_eq_true rfl | (simp only [rmL_piles, rmL_neighbours, rmL_pile, rmL_slopeFrom, rmL_topple]; omega) | (simp only [rmL_piles]; omega))⟩ rfl hl.1 rfl (by first | exact Nat.le_of_ble_eq_true rfl | (simp only [rmL_piles, rmL_neighbours, rmL_pile, rmL_slopeFrom, rmL_topple]; omega) | (simp only [rmL_piles]; omega)) dL_piles_544 ⟨(by show _ ≤ K; omega), (by show _ ≤ 6 * K; omega)⟩ (fun H locs hW hS => ?_)
                    refine W.widen (k := (κ5 + 11)) (n := 6 * (κ5 + 11)) (by omega) (by omega) ?_
                    change W p l e _ s m args below meth c H locs _ _ Q (F0 m _ ls (.int (wL_spilled Z v2) :: _))
                    refine lv_bipush (v := (-11)) hx hb dL_piles_547 (by decide) ?_
                    refine lv_icmp_ne (tgt := 615) hx hb dL_piles_549 (by decide) (fun c36 => ?_) (fun c36 => ?_)
                    · replace h := ite_f c36 h
                      refine W.widen (k := (κ5 + 11)) (n := 6 * (κ5 + 11)) (by omega) (by omega) ?_
                      exact J18 _ h _ _ _ hW hS (lv_sub hl [] rfl)
                    · replace h := ite_t c36 h
                      refine lv_aload_n hx hb dL_piles_552 rfl (lv_at hl 1 rfl) ?_
                      refine lv_iload_n hx hb dL_piles_553 rfl (lv_at hl 2 rfl) ?_
                      obtain ⟨g37, h⟩ := gd_out h
                      refine gk_wr (As := [.ref (B + 0), .int v2]) F hX hk hC hml hS hW (fun hX2 => mq_melted F hX2 hN) mw_L_311 ⟨rfl, rfl, (by first | exact Nat.le_of_ble_eq_true rfl | (simp only [rmL_piles, rmL_neighbours, rmL_pile, rmL_slopeFrom, rmL_topple]; omega) | (simp only [rmL_piles]; omega)), (by first | exact Nat.le_of_ble_eq_true rfl | (simp only [rmL_piles, rmL_neighbours, rmL_pile, rmL_slopeFrom, rmL_topple]; omega) | (simp only [rmL_piles]; omega))⟩ rfl hl.1 rfl (by first | exact Nat.le_of_ble_eq_true rfl | (simp only [rmL_piles, rmL_neighbours, rmL_pile, rmL_slopeFrom, rmL_topple]; omega) | (simp only [rmL_piles]; omega)) dL_piles_554 ⟨(by show _ ≤ K; omega), (by show _ ≤ 6 * K; omega)⟩ (fun H locs hW hS => ?_)
                      refine W.widen (k := (κ5 + 12)) (n := 6 * (κ5 + 12)) (by omega) (by omega) ?_
                      change W p l e _ s m args below meth c H locs _ _ Q (F0 m _ ls (.int (wL_melted Z v2) :: _))
                      refine lv_bipush (v := (-11)) hx hb dL_piles_557 (by decide) ?_
                      refine lv_icmp_ne (tgt := 615) hx hb dL_piles_559 (by decide) (fun c38 => ?_) (fun c38 => ?_)
                      · replace h := ite_f c38 h
                        refine W.widen (k := (κ5 + 12)) (n := 6 * (κ5 + 12)) (by omega) (by omega) ?_
                        exact J18 _ h _ _ _ hW hS (lv_sub hl [] rfl)
                      · replace h := ite_t c38 h
                        refine lv_aload_n hx hb dL_piles_562 rfl (lv_at hl 1 rfl) ?_
                        refine lv_iload_n hx hb dL_piles_563 rfl (lv_at hl 2 rfl) ?_
                        obtain ⟨g39, h⟩ := gd_out h
                        refine gk_wr (As := [.ref (B + 0), .int v2]) F hX hk hC hml hS hW (fun hX2 => mq_roomOf F hX2 hN) mw_L_332 ⟨rfl, rfl, (by first | exact Nat.le_of_ble_eq_true rfl | (simp only [rmL_piles, rmL_neighbours, rmL_pile, rmL_slopeFrom, rmL_topple]; omega) | (simp only [rmL_piles]; omega)), (by first | exact Nat.le_of_ble_eq_true rfl | (simp only [rmL_piles, rmL_neighbours, rmL_pile, rmL_slopeFrom, rmL_topple]; omega) | (simp only [rmL_piles]; omega))⟩ rfl hl.1 rfl (by first | exact Nat.le_of_ble_eq_true rfl | (simp only [rmL_piles, rmL_neighbours, rmL_pile, rmL_slopeFrom, rmL_topple]; omega) | (simp only [rmL_piles]; omega)) dL_piles_564 ⟨(by show _ ≤ K; omega), (by show _ ≤ 6 * K; omega)⟩ (fun H locs hW hS => ?_)
                        refine W.widen (k := (κ5 + 13)) (n := 6 * (κ5 + 13)) (by omega) (by omega) ?_
                        change W p l e _ s m args below meth c H locs _ _ Q (F0 m _ ls (.int (wL_roomOf Z v2) :: _))
                        refine lv_bipush (v := (-11)) hx hb dL_piles_567 (by decide) ?_
                        refine lv_icmp_ne (tgt := 615) hx hb dL_piles_569 (by decide) (fun c40 => ?_) (fun c40 => ?_)
                        · replace h := ite_f c40 h
                          refine W.widen (k := (κ5 + 13)) (n := 6 * (κ5 + 13)) (by omega) (by omega) ?_
                          exact J18 _ h _ _ _ hW hS (lv_sub hl [] rfl)
                        · replace h := ite_t c40 h
                          refine lv_aload_n hx hb dL_piles_572 rfl (lv_at hl 1 rfl) ?_
                          refine lv_iload_n hx hb dL_piles_573 rfl (lv_at hl 2 rfl) ?_
                          obtain ⟨g41, h⟩ := gd_out h
                          refine gk_wr (As := [.ref (B + 0), .int v2]) F hX hk hC hml hS hW (fun hX2 => mq_limit F hX2 hN) mw_L_334 ⟨rfl, rfl, (by first | exact Nat.le_of_ble_eq_true rfl | (simp only [rmL_piles, rmL_neighbours, rmL_pile, rmL_slopeFrom, rmL_topple]; omega) | (simp only [rmL_piles]; omega)), (by first | exact Nat.le_of_ble_eq_true rfl | (simp only [rmL_piles, rmL_neighbours, rmL_pile, rmL_slopeFrom, rmL_topple]; omega) | (simp only [rmL_piles]; omega))⟩ rfl hl.1 rfl (by first | exact Nat.le_of_ble_eq_true rfl | (simp only [rmL_piles, rmL_neighbours, rmL_pile, rmL_slopeFrom, rmL_topple]; omega) | (simp only [rmL_piles]; omega)) dL_piles_574 ⟨(by show _ ≤ K; omega), (by show _ ≤ 6 * K; omega)⟩ (fun H locs hW hS => ?_)
                          refine W.widen (k := (κ5 + 14)) (n := 6 * (κ5 + 14)) (by omega) (by omega) ?_
                          change W p l e _ s m args below meth c H locs _ _ Q (F0 m _ ls (.int (wL_limit Z v2) :: _))
                          refine lv_bipush (v := (-11)) hx hb dL_piles_577 (by decide) ?_
                          refine lv_icmp_ne (tgt := 615) hx hb dL_piles_579 (by decide) (fun c42 => ?_) (fun c42 => ?_)
                          · replace h := ite_f c42 h
                            refine W.widen (k := (κ5 + 14)) (n := 6 * (κ5 + 14)) (by omega) (by omega) ?_
                            exact J18 _ h _ _ _ hW hS (lv_sub hl [] rfl)
                          · replace h := ite_t c42 h
                            refine lv_aload_n hx hb dL_piles_582 rfl (lv_at hl 1 rfl) ?_
                            refine lv_iload_n hx hb dL_piles_583 rfl (lv_at hl 2 rfl) ?_
                            refine lv_bipush (v := 9) hx hb dL_piles_584 (by decide) ?_
                            refine lv_bipush (v := 9) hx hb dL_piles_586 (by decide) ?_
                            refine lv_bipush (v := 99) hx hb dL_piles_588 (by decide) ?_
                            obtain ⟨g43, h⟩ := gd_out h
                            refine gk_wr (As := [.ref (B + 0), .int v2, .int 9, .int 9, .int 99]) F hX hk hC hml hS hW (fun hX2 => mq_topplings F hX2 hN) mw_L_324 ⟨rfl, rfl, (by first | exact Nat.le_of_ble_eq_true rfl | (simp only [rmL_piles, rmL_neighbours, rmL_pile, rmL_slopeFrom, rmL_topple]; omega) | (simp only [rmL_piles]; omega)), (by first | exact Nat.le_of_ble_eq_true rfl | (simp only [rmL_piles, rmL_neighbours, rmL_pile, rmL_slopeFrom, rmL_topple]; omega) | (simp only [rmL_piles]; omega))⟩ rfl hl.1 rfl (by first | exact Nat.le_of_ble_eq_true rfl | (simp only [rmL_piles, rmL_neighbours, rmL_pile, rmL_slopeFrom, rmL_topple]; omega) | (simp only [rmL_piles]; omega)) dL_piles_590 ⟨(by show _ ≤ K; omega), (by show _ ≤ 6 * K; omega)⟩ (fun H locs hW hS => ?_)
                            refine W.widen (k := (κ5 + 15)) (n := 6 * (κ5 + 15)) (by omega) (by omega) ?_
                            change W p l e _ s m args below meth c H locs _ _ Q (F0 m _ ls (.int (wL_topplings Z v2 9 9 99) :: _))
                            refine lv_bipush (v := (-11)) hx hb dL_piles_593 (by decide) ?_
                            refine lv_icmp_ne (tgt := 615) hx hb dL_piles_595 (by decide) (fun c44 => ?_) (fun c44 => ?_)
                            · replace h := ite_f c44 h
                              refine W.widen (k := (κ5 + 15)) (n := 6 * (κ5 + 15)) (by omega) (by omega) ?_
                              exact J18 _ h _ _ _ hW hS (lv_sub hl [] rfl)
                            · replace h := ite_t c44 h
                              refine lv_aload_n hx hb dL_piles_598 rfl (lv_at hl 1 rfl) ?_
                              refine lv_iload_n hx hb dL_piles_599 rfl (lv_at hl 2 rfl) ?_
                              refine lv_iconst (v := 0) hx hb dL_piles_600 (by decide) ?_
                              refine lv_iconst (v := 0) hx hb dL_piles_601 (by decide) ?_
                              refine lv_iconst (v := 1) hx hb dL_piles_602 (by decide) ?_
                              obtain ⟨g45, h⟩ := gd_out h
                              refine gk_wr (As := [.ref (B + 0), .int v2, .int 0, .int 0, .int 1]) F hX hk hC hml hS hW (fun hX2 => mq_byRounds F hX2 hN) mw_L_327 ⟨rfl, rfl, (by first | exact Nat.le_of_ble_eq_true rfl | (simp only [rmL_piles, rmL_neighbours, rmL_pile, rmL_slopeFrom, rmL_topple]; omega) | (simp only [rmL_piles]; omega)), (by first | exact Nat.le_of_ble_eq_true rfl | (simp only [rmL_piles, rmL_neighbours, rmL_pile, rmL_slopeFrom, rmL_topple]; omega) | (simp only [rmL_piles]; omega))⟩ rfl hl.1 rfl (by first | exact Nat.le_of_ble_eq_true rfl | (simp only [rmL_piles, rmL_neighbours, rmL_pile, rmL_slopeFrom, rmL_topple]; omega) | (simp only [rmL_piles]; omega)) dL_piles_603 ⟨(by show _ ≤ K; omega), (by show _ ≤ 6 * K; omega)⟩ (fun H locs hW hS => ?_)
                              refine W.widen (k := (κ5 + 16)) (n := 6 * (κ5 + 16)) (by omega) (by omega) ?_
                              change W p l e _ s m args below meth c H locs _ _ Q (F0 m _ ls (.int (wL_byRounds Z v2 0 0 1) :: _))
                              refine lv_bipush (v := (-11)) hx hb dL_piles_606 (by decide) ?_
                              refine lv_icmp_ne (tgt := 615) hx hb dL_piles_608 (by decide) (fun c46 => ?_) (fun c46 => ?_)
                              · replace h := ite_f c46 h
                                refine W.widen (k := (κ5 + 16)) (n := 6 * (κ5 + 16)) (by omega) (by omega) ?_
                                exact J18 _ h _ _ _ hW hS (lv_sub hl [] rfl)
                              · replace h := ite_t c46 h
                                refine lv_iconst (v := 1) hx hb dL_piles_611 (by decide) ?_
                                refine lv_goto (tgt := 616) hx hb dL_piles_612 (by decide) ?_
                                refine W.widen (k := (κ5 + 16)) (n := 6 * (κ5 + 16)) (by omega) (by omega) ?_
                                exact J13 _ _ h _ _ _ hW hS (lv_sub hl [] rfl)
  · replace h := ite_f c8 h
    refine lv_iconst (v := 0) hx hb dL_piles_12 (by decide) ?_
    refine lv_istore (lv' := [(4, .int 0), (0, .ref b), (1, .ref (B + 0)), (2, .int v2), (3, .int x4)]) hx hb dL_piles_13 hl (by decide) rfl (fun ls hl => ?_)
    refine lv_iconst (v := 0) hx hb dL_piles_15 (by decide) ?_
    refine lv_istore (lv' := [(5, .int 0), (4, .int 0), (0, .ref b), (1, .ref (B + 0)), (2, .int v2), (3, .int x4)]) hx hb dL_piles_16 hl (by decide) rfl (fun ls hl => ?_)
    refine lv_aload_n hx hb dL_piles_18 rfl (lv_at hl 3 rfl) ?_
    refine lv_iload_n hx hb dL_piles_19 rfl (lv_at hl 5 rfl) ?_
    obtain ⟨g47, h⟩ := gd_out h
    obtain ⟨r48, hcall, h⟩ := bd_out h
    refine gk_pile (As := [.ref (B + 0), .int x4]) F hX hk hC hml hS hW (fun h0 hX2 => metL_pile F hX2 hN hcall) ml_L_298 ⟨rfl, rfl, (by first | exact Nat.le_of_ble_eq_true rfl | (simp only [rmL_piles, rmL_neighbours, rmL_pile, rmL_slopeFrom, rmL_topple]; omega) | (simp only [rmL_piles]; omega)), (by first | exact Nat.le_of_ble_eq_true rfl | (simp only [rmL_piles, rmL_neighbours, rmL_pile, rmL_slopeFrom, rmL_topple]; omega) | (simp only [rmL_piles]; omega))⟩ rfl hl.1 rfl (by first | exact Nat.le_of_ble_eq_true rfl | (simp only [rmL_piles, rmL_neighbours, rmL_pile, rmL_slopeFrom, rmL_topple]; omega) | (simp only [rmL_piles]; omega)) dL_piles_20 ⟨(by show _ ≤ K; omega), (by show _ ≤ 6 * K; omega)⟩ (fun q49 H locs hW hS => ?_)
    refine W.widen (k := (κ5 + 40)) (n := 6 * (κ5 + 40)) (by omega) (by omega) ?_
    replace hW : gZL s0 D T B X Z hs t [q49] [r48] H := hW
    refine lv_astore (lv' := [(6, .ref (q49 + 0)), (5, .int 0), (4, .int 0), (0, .ref b), (1, .ref (B + 0)), (2, .int v2), (3, .int x4)]) hx hb dL_piles_23 hl (by decide) rfl (fun ls hl => ?_)
    refine lv_aload_n hx hb dL_piles_25 rfl (lv_at hl 4 rfl) ?_
    refine lv_iload_n hx hb dL_piles_26 rfl (lv_at hl 6 rfl) ?_
    obtain ⟨g50, h⟩ := gd_out h
    obtain ⟨r51, hcall, h⟩ := bd_out h
    refine gk_pile (As := [.ref (B + 0), .int x4]) F hX hk hC hml hS hW (fun h0 hX2 => metL_pile F hX2 hN hcall) ml_L_298 ⟨rfl, rfl, (by first | exact Nat.le_of_ble_eq_true rfl | (simp only [rmL_piles, rmL_neighbours, rmL_pile, rmL_slopeFrom, rmL_topple]; omega) | (simp only [rmL_piles]; omega)), (by first | exact Nat.le_of_ble_eq_true rfl | (simp only [rmL_piles, rmL_neighbours, rmL_pile, rmL_slopeFrom, rmL_topple]; omega) | (simp only [rmL_piles]; omega))⟩ rfl hl.1 rfl (by first | exact Nat.le_of_ble_eq_true rfl | (simp only [rmL_piles, rmL_neighbours, rmL_pile, rmL_slopeFrom, rmL_topple]; omega) | (simp only [rmL_piles]; omega)) dL_piles_27 ⟨(by show _ ≤ K; omega), (by show _ ≤ 6 * K; omega)⟩ (fun q52 H locs hW hS => ?_)
    refine W.widen (k := (κ5 + 80)) (n := 6 * (κ5 + 80)) (by omega) (by omega) ?_
    replace hW : gZL s0 D T B X Z hs t [q49, q52] [r48, r51] H := hW
    refine lv_astore (lv' := [(7, .ref (q52 + 0)), (6, .ref (q49 + 0)), (5, .int 0), (4, .int 0), (0, .ref b), (1, .ref (B + 0)), (2, .int v2), (3, .int x4)]) hx hb dL_piles_30 hl (by decide) rfl (fun ls hl => ?_)
    refine lv_iconst (v := 0) hx hb dL_piles_32 (by decide) ?_
    refine lv_istore (lv' := [(8, .int 0), (7, .ref (q52 + 0)), (6, .ref (q49 + 0)), (5, .int 0), (4, .int 0), (0, .ref b), (1, .ref (B + 0)), (2, .int v2), (3, .int x4)]) hx hb dL_piles_33 hl (by decide) rfl (fun ls hl => ?_)
    refine W.widen (k := (κ5 + 80)) (n := 6 * (κ5 + 80)) (by omega) (by omega) ?_
    refine fix5_ind (fun (x53 : Int32) (x54 : Int32) (x55 : Int32) (m56 : Mem) (κ57 : Nat) => ∀ (H : Heap) (locs : List Loc) (ls : Array Slot), gZL s0 D T B X Z hs t [q49, q52] [r48, m56] H → va_S (gA B X) s.heap H locs → lv_has ls 17 [(0, .ref b), (1, .ref (B + 0)), (2, .int v2), (3, .int x4), (4, .int x53), (5, .int x54), (6, .ref (q49 + 0)), (7, .ref (q52 + 0)), (8, .int x55)] → W p l e (rmL_piles K) s m args below meth c H locs κ57 (6 * κ57) Q (F0 m 35 ls [])) ?_ N _ _ _ _ _ h _ _ _ hW hS (lv_sub hl [5, 6, 7, 8, 4, 3, 2, 1, 0] rfl)
    clear h hW hS hl
    intro self58 IH59 x53 x54 x55 m56 κ57 h H locs ls hW hS hl
    refine lv_iload hx hb dL_piles_35 (lv_at hl 8 rfl) ?_
    refine lv_iconst (v := 4) hx hb dL_piles_37 (by decide) ?_
    refine lv_icmp_ge (tgt := 136) hx hb dL_piles_38 (by decide) (fun c60 => ?_) (fun c60 => ?_)
    · replace h := ite_t c60 h
      refine lv_iconst (v := 0) hx hb dL_piles_136 (by decide) ?_
      refine lv_istore (lv' := [(8, .int 0), (0, .ref b), (1, .ref (B + 0)), (2, .int v2), (3, .int x4), (4, .int x53), (5, .int x54), (6, .ref (q49 + 0)), (7, .ref (q52 + 0))]) hx hb dL_piles_137 hl (by decide) rfl (fun ls hl => ?_)
      refine lv_iconst (v := 0) hx hb dL_piles_139 (by decide) ?_
      refine lv_istore (lv' := [(9, .int 0), (8, .int 0), (0, .ref b), (1, .ref (B + 0)), (2, .int v2), (3, .int x4), (4, .int x53), (5, .int x54), (6, .ref (q49 + 0)), (7, .ref (q52 + 0))]) hx hb dL_piles_140 hl (by decide) rfl (fun ls hl => ?_)
      refine W.widen (k := κ57) (n := 6 * κ57) (by omega) (by omega) ?_
      refine fix4_ind (fun (x61 : Int32) (x62 : Int32) (m63 : Mem) (κ64 : Nat) => ∀ (H : Heap) (locs : List Loc) (ls : Array Slot), gZL s0 D T B X Z hs t [q49, q52] [r48, m63] H → va_S (gA B X) s.heap H locs → lv_has ls 17 [(0, .ref b), (1, .ref (B + 0)), (2, .int v2), (3, .int x4), (4, .int x53), (5, .int x54), (7, .ref (q52 + 0)), (8, .int x61), (9, .int x62)] → W p l e (rmL_piles K) s m args below meth c H locs κ64 (6 * κ64) Q (F0 m 142 ls [])) ?_ N _ _ _ _ h _ _ _ hW hS (lv_sub hl [2, 3, 4, 5, 6, 7, 9, 1, 0] rfl)
      clear h hW hS hl
      intro self65 IH66 x61 x62 m63 κ64 h H locs ls hW hS hl
      refine lv_iload hx hb dL_piles_142 (lv_at hl 8 rfl) ?_
      refine lv_bipush (v := 32) hx hb dL_piles_144 (by decide) ?_
      refine lv_icmp_ge (tgt := 175) hx hb dL_piles_146 (by decide) (fun c67 => ?_) (fun c67 => ?_)
      · replace h := ite_t c67 h
        refine lv_aload_n hx hb dL_piles_175 rfl (lv_at hl 0 rfl) ?_
        refine lv_bipush (v := 32) hx hb dL_piles_176 (by decide) ?_
        refine lv_iload_n hx hb dL_piles_178 rfl (lv_at hl 3 rfl) ?_
        refine lv_iadd hx hb dL_piles_179 ?_
        obtain ⟨g68, h⟩ := gd_out h
        obtain ⟨g70, h⟩ := gd_out h
        obtain ⟨v71, e72, h⟩ := lt_out h
        refine gk_in (As := [.ref b, .int (32 + x4)]) F hX hk hC hml hS hW (fun _ => metL_cell F hXs hbl hL g70) ml_L_194 ⟨rfl, rfl, (by first | exact Nat.le_of_ble_eq_true rfl | (simp only [rmL_piles, rmL_neighbours, rmL_pile, rmL_slopeFrom, rmL_topple]; omega) | (simp only [rmL_piles]; omega)), (by first | exact Nat.le_of_ble_eq_true rfl | (simp only [rmL_piles, rmL_neighbours, rmL_pile, rmL_slopeFrom, rmL_topple]; omega) | (simp only [rmL_piles]; omega))⟩ rfl hl.1 rfl (by first | exact Nat.le_of_ble_eq_true rfl | (simp only [rmL_piles, rmL_neighbours, rmL_pile, rmL_slopeFrom, rmL_topple]; omega) | (simp only [rmL_piles]; omega)) dL_piles_180 ⟨(by show _ ≤ K; omega), (by show _ ≤ 6 * K; omega)⟩ (fun H locs hW hS => ?_)
        change W p l e _ s m args below meth c H locs _ _ Q (F0 m _ ls (.int (cellL L xs (32 + x4)) :: _))
        rw [← e72]
        refine lv_iconst (v := 1) hx hb dL_piles_183 (by decide) ?_
        refine lv_iushr hx hb dL_piles_184 rfl ?_
        obtain ⟨v73, e74, h⟩ := lt_out h
        rw [← e74]
        refine lv_istore (lv' := [(9, .int v73), (0, .ref b), (1, .ref (B + 0)), (2, .int v2), (3, .int x4), (4, .int x53), (5, .int x54), (7, .ref (q52 + 0)), (8, .int x61)]) hx hb dL_piles_185 hl (by decide) rfl (fun ls hl => ?_)
        refine lv_iload hx hb dL_piles_187 (lv_at hl 0 rfl) ?_
        refine lv_iconst (v := 4) hx hb dL_piles_189 (by decide) ?_
        refine lv_irem hx hb dL_piles_190 (by decide) ?_
        obtain ⟨v75, e76, h⟩ := lt_out h
        rw [← e76]
        refine lv_istore (lv' := [(10, .int v75), (9, .int v73), (0, .ref b), (1, .ref (B + 0)), (2, .int v2), (3, .int x4), (4, .int x53), (5, .int x54), (7, .ref (q52 + 0)), (8, .int x61)]) hx hb dL_piles_191 hl (by decide) rfl (fun ls hl => ?_)
        refine lv_iload hx hb dL_piles_193 (lv_at hl 1 rfl) ?_
        refine lv_iconst (v := 2) hx hb dL_piles_195 (by decide) ?_
        refine lv_iushr hx hb dL_piles_196 rfl ?_
        refine lv_iconst (v := 4) hx hb dL_piles_197 (by decide) ?_
        refine lv_irem hx hb dL_piles_198 (by decide) ?_
        obtain ⟨v77, e78, h⟩ := lt_out h
        rw [← e78]
        refine lv_istore (lv' := [(11, .int v77), (10, .int v75), (9, .int v73), (0, .ref b), (1, .ref (B + 0)), (2, .int v2), (3, .int x4), (4, .int x53), (5, .int x54), (7, .ref (q52 + 0)), (8, .int x61)]) hx hb dL_piles_199 hl (by decide) rfl (fun ls hl => ?_)
        refine lv_iconst (v := 1) hx hb dL_piles_201 (by decide) ?_
        refine lv_iload hx hb dL_piles_202 (lv_at hl 2 rfl) ?_
        refine lv_iconst (v := 4) hx hb dL_piles_204 (by decide) ?_
        refine lv_iushr hx hb dL_piles_205 rfl ?_
        refine lv_bipush (v := 40) hx hb dL_piles_206 (by decide) ?_
        refine lv_irem hx hb dL_piles_208 (by decide) ?_
        refine lv_iadd hx hb dL_piles_209 ?_
        obtain ⟨v79, e80, h⟩ := lt_out h
        rw [← e80]
        refine lv_istore (lv' := [(12, .int v79), (11, .int v77), (10, .int v75), (9, .int v73), (0, .ref b), (1, .ref (B + 0)), (2, .int v2), (3, .int x4), (4, .int x53), (5, .int x54), (7, .ref (q52 + 0)), (8, .int x61)]) hx hb dL_piles_210 hl (by decide) rfl (fun ls hl => ?_)
        refine lv_aload_n hx hb dL_piles_212 rfl (lv_at hl 5 rfl) ?_
        refine lv_iload_n hx hb dL_piles_213 rfl (lv_at hl 7 rfl) ?_
        obtain ⟨g81, h⟩ := gd_out h
        obtain ⟨r82, hcall, h⟩ := bd_out h
        refine gk_pile (As := [.ref (B + 0), .int x4]) F hX hk hC hml hS hW (fun h0 hX2 => metL_pile F hX2 hN hcall) ml_L_298 ⟨rfl, rfl, (by first | exact Nat.le_of_ble_eq_true rfl | (simp only [rmL_piles, rmL_neighbours, rmL_pile, rmL_slopeFrom, rmL_topple]; omega) | (simp only [rmL_piles]; omega)), (by first | exact Nat.le_of_ble_eq_true rfl | (simp only [rmL_piles, rmL_neighbours, rmL_pile, rmL_slopeFrom, rmL_topple]; omega) | (simp only [rmL_piles]; omega))⟩ rfl hl.1 rfl (by first | exact Nat.le_of_ble_eq_true rfl | (simp only [rmL_piles, rmL_neighbours, rmL_pile, rmL_slopeFrom, rmL_topple]; omega) | (simp only [rmL_piles]; omega)) dL_piles_214 ⟨(by show _ ≤ K; omega), (by show _ ≤ 6 * K; omega)⟩ (fun q83 H locs hW hS => ?_)
        refine W.widen (k := (κ64 + 40)) (n := 6 * (κ64 + 40)) (by omega) (by omega) ?_
        replace hW : gZL s0 D T B X Z hs t [q49, q52, q83] [r48, m63, r82] H := hW
        refine lv_astore (lv' := [(13, .ref (q83 + 0)), (12, .int v79), (11, .int v77), (10, .int v75), (9, .int v73), (0, .ref b), (1, .ref (B + 0)), (2, .int v2), (3, .int x4), (4, .int x53), (5, .int x54), (7, .ref (q52 + 0)), (8, .int x61)]) hx hb dL_piles_217 hl (by decide) rfl (fun ls hl => ?_)
        refine lv_aload hx hb dL_piles_219 (lv_at hl 0 rfl) ?_
        refine lv_iload hx hb dL_piles_221 (lv_at hl 2 rfl) ?_
        obtain ⟨q84, e85, hq86, hi87, h⟩ := ar_o h
        refine gq_aald hC (show gWP D T q83 r82 H from gZL_p 2 q83 hW rfl) is_PG.1 (is_PG.2.1 T q83 (r82 0)) (t0 := 3) rfl rfl e85 hi87 dL_piles_223 ?_
        refine lv_iload hx hb dL_piles_224 (lv_at hl 3 rfl) ?_
        refine lv_dup2_11 hx hb dL_piles_226 rfl rfl ?_
        obtain ⟨v88, e89, hi90, h⟩ := ag_o h
        refine gq_iald hC (show gWP D T q83 r82 H from gZL_p 2 q83 hW rfl) (is_PG.2.2 q84 hq86).1 ((is_PG.2.2 q84 hq86).2 T q83 (r82 (0 + 1 + 1 * q84))) (t0 := 0) rfl e89 hi90 dL_piles_227 ?_
        refine lv_iload hx hb dL_piles_228 (lv_at hl 1 rfl) ?_
        refine lv_iadd hx hb dL_piles_230 ?_
        obtain ⟨μ91, e92, hi93, h⟩ := aw_o h
        refine gk_iast (i := 2) (q := q83) (o := 0 + 1 + 1 * q84) rfl hC hS hW (is_PG.2.2 q84 hq86) e92 hi93 dL_piles_231 (fun H locs hW hS => ?_)
        replace hW : gZL s0 D T B X Z hs t [q49, q52, q83] [r48, m63, μ91] H := hW
        refine lv_aload hx hb dL_piles_232 (lv_at hl 0 rfl) ?_
        refine lv_iload hx hb dL_piles_234 (lv_at hl 3 rfl) ?_
        refine lv_iload hx hb dL_piles_236 (lv_at hl 2 rfl) ?_
        obtain ⟨g94, h⟩ := gd_out h
        obtain ⟨r95, hcall, h⟩ := bd_out h
        refine gk_tp (i := 2) (q := q83) (m1 := r95.1) (As := [.ref (q83 + 0), .int v75, .int v77]) F hX hk hC hml hS hW rfl (fun X2 hX2 => metL_topple (N := N) (FX_q F hW 2 rfl) hX2 300 is_PG hcall) ml_L_288 ⟨rfl, rfl, (by first | exact Nat.le_of_ble_eq_true rfl | (simp only [rmL_piles, rmL_neighbours, rmL_pile, rmL_slopeFrom, rmL_topple]; omega) | (simp only [rmL_piles]; omega)), (by first | exact Nat.le_of_ble_eq_true rfl | (simp only [rmL_piles, rmL_neighbours, rmL_pile, rmL_slopeFrom, rmL_topple]; omega) | (simp only [rmL_piles]; omega))⟩ rfl hl.1 rfl (by first | exact Nat.le_of_ble_eq_true rfl | (simp only [rmL_piles, rmL_neighbours, rmL_pile, rmL_slopeFrom, rmL_topple]; omega) | (simp only [rmL_piles]; omega)) dL_piles_238 ⟨(by show _ ≤ K; omega), (by show _ ≤ 6 * K; omega)⟩ (fun H locs hW hS => ?_)
        replace hW : gZL s0 D T B X Z hs t [q49, q52, q83] [r48, m63, r95.1] H := hW
        refine lv_istore (lv' := [(14, .int r95.2), (13, .ref (q83 + 0)), (12, .int v79), (11, .int v77), (10, .int v75), (9, .int v73), (0, .ref b), (1, .ref (B + 0)), (2, .int v2), (3, .int x4), (4, .int x53), (5, .int x54), (7, .ref (q52 + 0)), (8, .int x61)]) hx hb dL_piles_241 hl (by decide) rfl (fun ls hl => ?_)
        refine lv_iconst (v := 0) hx hb dL_piles_243 (by decide) ?_
        refine lv_istore (lv' := [(15, .int 0), (14, .int r95.2), (13, .ref (q83 + 0)), (12, .int v79), (11, .int v77), (10, .int v75), (9, .int v73), (0, .ref b), (1, .ref (B + 0)), (2, .int v2), (3, .int x4), (4, .int x53), (5, .int x54), (7, .ref (q52 + 0)), (8, .int x61)]) hx hb dL_piles_244 hl (by decide) rfl (fun ls hl => ?_)
        refine W.widen (k := (κ64 + 40)) (n := 6 * (κ64 + 40)) (by omega) (by omega) ?_
        refine fix4_ind (fun (x96 : Int32) (x97 : Int32) (m98 : Mem) (κ99 : Nat) => ∀ (H : Heap) (locs : List Loc) (ls : Array Slot), gZL s0 D T B X Z hs t [q49, q52, q83] [r48, m63, m98] H → va_S (gA B X) s.heap H locs → lv_has ls 17 [(0, .ref b), (1, .ref (B + 0)), (2, .int v2), (3, .int x4), (4, .int x53), (5, .int x54), (8, .int x61), (10, .int v75), (11, .int v77), (12, .int v79), (13, .ref (q83 + 0)), (14, .int x96), (15, .int x97)] → W p l e (rmL_piles K) s m args below meth c H locs κ99 (6 * κ99) Q (F0 m 246 ls [])) ?_ N _ _ _ _ h _ _ _ hW hS (lv_sub hl [7, 8, 9, 10, 11, 12, 14, 5, 4, 3, 2, 1, 0] rfl)
        clear h hW hS hl
        intro self100 IH101 x96 x97 m98 κ99 h H locs ls hW hS hl
        refine lv_iload hx hb dL_piles_246 (lv_at hl 12 rfl) ?_
        refine lv_bipush (v := 32) hx hb dL_piles_248 (by decide) ?_
        refine lv_icmp_ge (tgt := 279) hx hb dL_piles_250 (by decide) (fun c102 => ?_) (fun c102 => ?_)
        · replace h := ite_t c102 h
          refine lv_aload_n hx hb dL_piles_279 rfl (lv_at hl 1 rfl) ?_
          refine lv_iload_n hx hb dL_piles_280 rfl (lv_at hl 3 rfl) ?_
          obtain ⟨g103, h⟩ := gd_out h
          refine gk_wr (As := [.ref (B + 0), .int x4]) F hX hk hC hml hS hW (fun hX2 => mq_grains F hX2 hN) mw_L_305 ⟨rfl, rfl, (by first | exact Nat.le_of_ble_eq_true rfl | (simp only [rmL_piles, rmL_neighbours, rmL_pile, rmL_slopeFrom, rmL_topple]; omega) | (simp only [rmL_piles]; omega)), (by first | exact Nat.le_of_ble_eq_true rfl | (simp only [rmL_piles, rmL_neighbours, rmL_pile, rmL_slopeFrom, rmL_topple]; omega) | (simp only [rmL_piles]; omega))⟩ rfl hl.1 rfl (by first | exact Nat.le_of_ble_eq_true rfl | (simp only [rmL_piles, rmL_neighbours, rmL_pile, rmL_slopeFrom, rmL_topple]; omega) | (simp only [rmL_piles]; omega)) dL_piles_281 ⟨(by show _ ≤ K; omega), (by show _ ≤ 6 * K; omega)⟩ (fun H locs hW hS => ?_)
          refine W.widen (k := (κ99 + 1)) (n := 6 * (κ99 + 1)) (by omega) (by omega) ?_
          change W p l e _ s m args below meth c H locs _ _ Q (F0 m _ ls (.int (wL_grains Z x4) :: _))
          refine lv_iload hx hb dL_piles_284 (lv_at hl 4 rfl) ?_
          obtain ⟨j106, hj108, h⟩ := jn2_o h
          have J107 : ∀ (y104 : Bool) (κ105 : Nat), j106 y104 κ105 = some r → ∀ (H : Heap) (locs : List Loc) (ls : Array Slot), gZL s0 D T B X Z hs t [q49, q52, q83] [r48, m63, m98] H → va_S (gA B X) s.heap H locs → lv_has ls 17 [(0, .ref b), (1, .ref (B + 0)), (2, .int v2), (3, .int x4), (5, .int x54), (8, .int x61), (10, .int v75), (11, .int v77), (12, .int v79), (14, .int x96)] → W p l e (rmL_piles K) s m args below meth c H locs κ105 (6 * κ105) Q (F0 m 316 ls [.int (b2i y104)]) := by
            clear h hW hS hl
            intro y104 κ105 h H locs ls hW hS hl
            replace h := (hj108 y104 κ105).symm.trans h
            refine lv_istore (lv' := [(15, .int (b2i y104)), (0, .ref b), (1, .ref (B + 0)), (2, .int v2), (3, .int x4), (5, .int x54), (8, .int x61), (10, .int v75), (11, .int v77), (12, .int v79), (14, .int x96)]) hx hb dL_piles_316 hl (by decide) rfl (fun ls hl => ?_)
            refine lv_aload_n hx hb dL_piles_318 rfl (lv_at hl 2 rfl) ?_
            refine lv_iload_n hx hb dL_piles_319 rfl (lv_at hl 4 rfl) ?_
            obtain ⟨g109, h⟩ := gd_out h
            refine gk_wr (As := [.ref (B + 0), .int x4]) F hX hk hC hml hS hW (fun hX2 => mq_lasts F hX2 hN) mw_L_313 ⟨rfl, rfl, (by first | exact Nat.le_of_ble_eq_true rfl | (simp only [rmL_piles, rmL_neighbours, rmL_pile, rmL_slopeFrom, rmL_topple]; omega) | (simp only [rmL_piles]; omega)), (by first | exact Nat.le_of_ble_eq_true rfl | (simp only [rmL_piles, rmL_neighbours, rmL_pile, rmL_slopeFrom, rmL_topple]; omega) | (simp only [rmL_piles]; omega))⟩ rfl hl.1 rfl (by first | exact Nat.le_of_ble_eq_true rfl | (simp only [rmL_piles, rmL_neighbours, rmL_pile, rmL_slopeFrom, rmL_topple]; omega) | (simp only [rmL_piles]; omega)) dL_piles_320 ⟨(by show _ ≤ K; omega), (by show _ ≤ 6 * K; omega)⟩ (fun H locs hW hS => ?_)
            refine W.widen (k := (κ105 + 1)) (n := 6 * (κ105 + 1)) (by omega) (by omega) ?_
            change W p l e _ s m args below meth c H locs _ _ Q (F0 m _ ls (.int (wL_lasts Z x4) :: _))
            refine lv_iload hx hb dL_piles_323 (lv_at hl 6 rfl) ?_
            refine lv_bipush (v := 16) hx hb dL_piles_325 (by decide) ?_
            obtain ⟨j112, hj114, h⟩ := jn2_o h
            have J113 : ∀ (y110 : Bool) (κ111 : Nat), j112 y110 κ111 = some r → ∀ (H : Heap) (locs : List Loc) (ls : Array Slot), gZL s0 D T B X Z hs t [q49, q52, q83] [r48, m63, m98] H → va_S (gA B X) s.heap H locs → lv_has ls 17 [(0, .ref b), (1, .ref (B + 0)), (2, .int v2), (3, .int x4), (5, .int x54), (10, .int v75), (11, .int v77), (12, .int v79), (14, .int x96), (15, .int (b2i y104))] → W p l e (rmL_piles K) s m args below meth c H locs κ111 (6 * κ111) Q (F0 m 335 ls [.int (b2i y110), .int (wL_lasts Z x4)]) := by
              clear h hW hS hl
              intro y110 κ111 h H locs ls hW hS hl
              replace h := (hj114 y110 κ111).symm.trans h
              obtain ⟨j117, hj119, h⟩ := jn2_o h
              have J118 : ∀ (y115 : Bool) (κ116 : Nat), j117 y115 κ116 = some r → ∀ (H : Heap) (locs : List Loc) (ls : Array Slot), gZL s0 D T B X Z hs t [q49, q52, q83] [r48, m63, m98] H → va_S (gA B X) s.heap H locs → lv_has ls 17 [(0, .ref b), (1, .ref (B + 0)), (2, .int v2), (3, .int x4), (5, .int x54), (10, .int v75), (11, .int v77), (12, .int v79), (14, .int x96), (15, .int (b2i y104))] → W p l e (rmL_piles K) s m args below meth c H locs κ116 (6 * κ116) Q (F0 m 356 ls [.int (b2i y115)]) := by
                clear h hW hS hl
                intro y115 κ116 h H locs ls hW hS hl
                replace h := (hj119 y115 κ116).symm.trans h
                refine lv_istore (lv' := [(16, .int (b2i y115)), (0, .ref b), (1, .ref (B + 0)), (2, .int v2), (3, .int x4), (5, .int x54), (10, .int v75), (11, .int v77), (12, .int v79), (14, .int x96), (15, .int (b2i y104))]) hx hb dL_piles_356 hl (by decide) rfl (fun ls hl => ?_)
                refine lv_iload hx hb dL_piles_358 (lv_at hl 10 rfl) ?_
                obtain ⟨j121, hj123, h⟩ := jn1_o h
                have J122 : ∀ (κ120 : Nat), j121 κ120 = some r → ∀ (H : Heap) (locs : List Loc) (ls : Array Slot), gZL s0 D T B X Z hs t [q49, q52, q83] [r48, m63, m98] H → va_S (gA B X) s.heap H locs → lv_has ls 17 [] → W p l e (rmL_piles K) s m args below meth c H locs κ120 (6 * κ120) Q (F0 m 450 ls []) := by
                  clear h hW hS hl
                  intro κ120 h H locs ls hW hS hl
                  replace h := (hj123 κ120).symm.trans h
                  refine lv_iconst (v := 0) hx hb dL_piles_450 (by decide) ?_
                  obtain ⟨g124, h⟩ := gd_out h
                  cases h
                  exact hend dL_piles_451 (gZL_out hW) hS (by omega) (by omega)
                refine gw_if_eqZ (tgt := 450) hx hb dL_piles_360 (by decide) (fun c125 => ?_) (fun c125 => ?_)
                · replace h := cond_f c125 h
                  refine W.widen (k := κ116) (n := 6 * κ116) (by omega) (by omega) ?_
                  exact J122 _ h _ _ _ hW hS (lv_sub hl [] rfl)
                · replace h := cond_t c125 h
                  refine lv_iload hx hb dL_piles_363 (lv_at hl 0 rfl) ?_
                  refine gw_if_eqZ (tgt := 450) hx hb dL_piles_365 (by decide) (fun c126 => ?_) (fun c126 => ?_)
                  · replace h := cond_f c126 h
                    refine W.widen (k := κ116) (n := 6 * κ116) (by omega) (by omega) ?_
                    exact J122 _ h _ _ _ hW hS (lv_sub hl [] rfl)
                  · replace h := cond_t c126 h
                    refine lv_aload_n hx hb dL_piles_368 rfl (lv_at hl 2 rfl) ?_
                    refine lv_iload_n hx hb dL_piles_369 rfl (lv_at hl 4 rfl) ?_
                    obtain ⟨g127, h⟩ := gd_out h
                    refine gk_wr (As := [.ref (B + 0), .int x4]) F hX hk hC hml hS hW (fun hX2 => mq_slope F hX2 hN) mw_L_318 ⟨rfl, rfl, (by first | exact Nat.le_of_ble_eq_true rfl | (simp only [rmL_piles, rmL_neighbours, rmL_pile, rmL_slopeFrom, rmL_topple]; omega) | (simp only [rmL_piles]; omega)), (by first | exact Nat.le_of_ble_eq_true rfl | (simp only [rmL_piles, rmL_neighbours, rmL_pile, rmL_slopeFrom, rmL_topple]; omega) | (simp only [rmL_piles]; omega))⟩ rfl hl.1 rfl (by first | exact Nat.le_of_ble_eq_true rfl | (simp only [rmL_piles, rmL_neighbours, rmL_pile, rmL_slopeFrom, rmL_topple]; omega) | (simp only [rmL_piles]; omega)) dL_piles_370 ⟨(by show _ ≤ K; omega), (by show _ ≤ 6 * K; omega)⟩ (fun H locs hW hS => ?_)
                    refine W.widen (k := (κ116 + 1)) (n := 6 * (κ116 + 1)) (by omega) (by omega) ?_
                    change W p l e _ s m args below meth c H locs _ _ Q (F0 m _ ls (.int (wL_slope Z x4) :: _))
                    refine lv_iload hx hb dL_piles_373 (lv_at hl 5 rfl) ?_
                    refine lv_icmp_ne (tgt := 450) hx hb dL_piles_375 (by decide) (fun c128 => ?_) (fun c128 => ?_)
                    · replace h := ite_f c128 h
                      refine W.widen (k := (κ116 + 1)) (n := 6 * (κ116 + 1)) (by omega) (by omega) ?_
                      exact J122 _ h _ _ _ hW hS (lv_sub hl [] rfl)
                    · replace h := ite_t c128 h
                      refine lv_aload_n hx hb dL_piles_378 rfl (lv_at hl 2 rfl) ?_
                      refine lv_iload_n hx hb dL_piles_379 rfl (lv_at hl 4 rfl) ?_
                      obtain ⟨g129, h⟩ := gd_out h
                      refine gk_wr (As := [.ref (B + 0), .int x4]) F hX hk hC hml hS hW (fun hX2 => mq_slopeByGrains F hX2 hN) mw_L_321 ⟨rfl, rfl, (by first | exact Nat.le_of_ble_eq_true rfl | (simp only [rmL_piles, rmL_neighbours, rmL_pile, rmL_slopeFrom, rmL_topple]; omega) | (simp only [rmL_piles]; omega)), (by first | exact Nat.le_of_ble_eq_true rfl | (simp only [rmL_piles, rmL_neighbours, rmL_pile, rmL_slopeFrom, rmL_topple]; omega) | (simp only [rmL_piles]; omega))⟩ rfl hl.1 rfl (by first | exact Nat.le_of_ble_eq_true rfl | (simp only [rmL_piles, rmL_neighbours, rmL_pile, rmL_slopeFrom, rmL_topple]; omega) | (simp only [rmL_piles]; omega)) dL_piles_380 ⟨(by show _ ≤ K; omega), (by show _ ≤ 6 * K; omega)⟩ (fun H locs hW hS => ?_)
                      refine W.widen (k := (κ116 + 2)) (n := 6 * (κ116 + 2)) (by omega) (by omega) ?_
                      change W p l e _ s m args below meth c H locs _ _ Q (F0 m _ ls (.int (wL_slopeByGrains Z x4) :: _))
                      refine lv_iload hx hb dL_piles_383 (lv_at hl 5 rfl) ?_
                      refine lv_icmp_ne (tgt := 450) hx hb dL_piles_385 (by decide) (fun c130 => ?_) (fun c130 => ?_)
                      · replace h := ite_f c130 h
                        refine W.widen (k := (κ116 + 2)) (n := 6 * (κ116 + 2)) (by omega) (by omega) ?_
                        exact J122 _ h _ _ _ hW hS (lv_sub hl [] rfl)
                      · replace h := ite_t c130 h
                        refine lv_aload_n hx hb dL_piles_388 rfl (lv_at hl 2 rfl) ?_
                        refine lv_iload_n hx hb dL_piles_389 rfl (lv_at hl 4 rfl) ?_
                        refine lv_iload hx hb dL_piles_390 (lv_at hl 6 rfl) ?_
                        refine lv_iload hx hb dL_piles_392 (lv_at hl 7 rfl) ?_
                        refine lv_iload hx hb dL_piles_394 (lv_at hl 8 rfl) ?_
                        obtain ⟨g131, h⟩ := gd_out h
                        refine gk_wr (As := [.ref (B + 0), .int x4, .int v75, .int v77, .int v79]) F hX hk hC hml hS hW (fun hX2 => mq_topplings F hX2 hN) mw_L_324 ⟨rfl, rfl, (by first | exact Nat.le_of_ble_eq_true rfl | (simp only [rmL_piles, rmL_neighbours, rmL_pile, rmL_slopeFrom, rmL_topple]; omega) | (simp only [rmL_piles]; omega)), (by first | exact Nat.le_of_ble_eq_true rfl | (simp only [rmL_piles, rmL_neighbours, rmL_pile, rmL_slopeFrom, rmL_topple]; omega) | (simp only [rmL_piles]; omega))⟩ rfl hl.1 rfl (by first | exact Nat.le_of_ble_eq_true rfl | (simp only [rmL_piles, rmL_neighbours, rmL_pile, rmL_slopeFrom, rmL_topple]; omega) | (simp only [rmL_piles]; omega)) dL_piles_396 ⟨(by show _ ≤ K; omega), (by show _ ≤ 6 * K; omega)⟩ (fun H locs hW hS => ?_)
                        refine W.widen (k := (κ116 + 3)) (n := 6 * (κ116 + 3)) (by omega) (by omega) ?_
                        change W p l e _ s m args below meth c H locs _ _ Q (F0 m _ ls (.int (wL_topplings Z x4 v75 v77 v79) :: _))
                        refine lv_iload hx hb dL_piles_399 (lv_at hl 9 rfl) ?_
                        refine lv_icmp_ne (tgt := 450) hx hb dL_piles_401 (by decide) (fun c132 => ?_) (fun c132 => ?_)
                        · replace h := ite_f c132 h
                          refine W.widen (k := (κ116 + 3)) (n := 6 * (κ116 + 3)) (by omega) (by omega) ?_
                          exact J122 _ h _ _ _ hW hS (lv_sub hl [] rfl)
                        · replace h := ite_t c132 h
                          refine lv_aload_n hx hb dL_piles_404 rfl (lv_at hl 2 rfl) ?_
                          refine lv_iload_n hx hb dL_piles_405 rfl (lv_at hl 4 rfl) ?_
                          refine lv_iload hx hb dL_piles_406 (lv_at hl 6 rfl) ?_
                          refine lv_iload hx hb dL_piles_408 (lv_at hl 7 rfl) ?_
                          refine lv_iload hx hb dL_piles_410 (lv_at hl 8 rfl) ?_
                          obtain ⟨g133, h⟩ := gd_out h
                          refine gk_wr (As := [.ref (B + 0), .int x4, .int v75, .int v77, .int v79]) F hX hk hC hml hS hW (fun hX2 => mq_byRounds F hX2 hN) mw_L_327 ⟨rfl, rfl, (by first | exact Nat.le_of_ble_eq_true rfl | (simp only [rmL_piles, rmL_neighbours, rmL_pile, rmL_slopeFrom, rmL_topple]; omega) | (simp only [rmL_piles]; omega)), (by first | exact Nat.le_of_ble_eq_true rfl | (simp only [rmL_piles, rmL_neighbours, rmL_pile, rmL_slopeFrom, rmL_topple]; omega) | (simp only [rmL_piles]; omega))⟩ rfl hl.1 rfl (by first | exact Nat.le_of_ble_eq_true rfl | (simp only [rmL_piles, rmL_neighbours, rmL_pile, rmL_slopeFrom, rmL_topple]; omega) | (simp only [rmL_piles]; omega)) dL_piles_412 ⟨(by show _ ≤ K; omega), (by show _ ≤ 6 * K; omega)⟩ (fun H locs hW hS => ?_)
                          refine W.widen (k := (κ116 + 4)) (n := 6 * (κ116 + 4)) (by omega) (by omega) ?_
                          change W p l e _ s m args below meth c H locs _ _ Q (F0 m _ ls (.int (wL_byRounds Z x4 v75 v77 v79) :: _))
                          refine lv_iload hx hb dL_piles_415 (lv_at hl 9 rfl) ?_
                          refine lv_icmp_ne (tgt := 450) hx hb dL_piles_417 (by decide) (fun c134 => ?_) (fun c134 => ?_)
                          · replace h := ite_f c134 h
                            refine W.widen (k := (κ116 + 4)) (n := 6 * (κ116 + 4)) (by omega) (by omega) ?_
                            exact J122 _ h _ _ _ hW hS (lv_sub hl [] rfl)
                          · replace h := ite_t c134 h
                            refine lv_aload_n hx hb dL_piles_420 rfl (lv_at hl 2 rfl) ?_
                            refine lv_iload_n hx hb dL_piles_421 rfl (lv_at hl 4 rfl) ?_
                            refine lv_iload hx hb dL_piles_422 (lv_at hl 6 rfl) ?_
                            refine lv_iload hx hb dL_piles_424 (lv_at hl 7 rfl) ?_
                            refine lv_bipush (v := 41) hx hb dL_piles_426 (by decide) ?_
                            obtain ⟨g135, h⟩ := gd_out h
                            refine gk_wr (As := [.ref (B + 0), .int x4, .int v75, .int v77, .int 41]) F hX hk hC hml hS hW (fun hX2 => mq_topplings F hX2 hN) mw_L_324 ⟨rfl, rfl, (by first | exact Nat.le_of_ble_eq_true rfl | (simp only [rmL_piles, rmL_neighbours, rmL_pile, rmL_slopeFrom, rmL_topple]; omega) | (simp only [rmL_piles]; omega)), (by first | exact Nat.le_of_ble_eq_true rfl | (simp only [rmL_piles, rmL_neighbours, rmL_pile, rmL_slopeFrom, rmL_topple]; omega) | (simp only [rmL_piles]; omega))⟩ rfl hl.1 rfl (by first | exact Nat.le_of_ble_eq_true rfl | (simp only [rmL_piles, rmL_neighbours, rmL_pile, rmL_slopeFrom, rmL_topple]; omega) | (simp only [rmL_piles]; omega)) dL_piles_428 ⟨(by show _ ≤ K; omega), (by show _ ≤ 6 * K; omega)⟩ (fun H locs hW hS => ?_)
                            refine W.widen (k := (κ116 + 5)) (n := 6 * (κ116 + 5)) (by omega) (by omega) ?_
                            change W p l e _ s m args below meth c H locs _ _ Q (F0 m _ ls (.int (wL_topplings Z x4 v75 v77 41) :: _))
                            refine lv_bipush (v := (-12)) hx hb dL_piles_431 (by decide) ?_
                            refine lv_icmp_ne (tgt := 450) hx hb dL_piles_433 (by decide) (fun c136 => ?_) (fun c136 => ?_)
                            · replace h := ite_f c136 h
                              refine W.widen (k := (κ116 + 5)) (n := 6 * (κ116 + 5)) (by omega) (by omega) ?_
                              exact J122 _ h _ _ _ hW hS (lv_sub hl [] rfl)
                            · replace h := ite_t c136 h
                              refine lv_aload_n hx hb dL_piles_436 rfl (lv_at hl 2 rfl) ?_
                              refine lv_iload_n hx hb dL_piles_437 rfl (lv_at hl 4 rfl) ?_
                              refine lv_iconst (v := 4) hx hb dL_piles_438 (by decide) ?_
                              refine lv_iload hx hb dL_piles_439 (lv_at hl 7 rfl) ?_
                              refine lv_iconst (v := 1) hx hb dL_piles_441 (by decide) ?_
                              obtain ⟨g137, h⟩ := gd_out h
                              refine gk_wr (As := [.ref (B + 0), .int x4, .int 4, .int v77, .int 1]) F hX hk hC hml hS hW (fun hX2 => mq_byRounds F hX2 hN) mw_L_327 ⟨rfl, rfl, (by first | exact Nat.le_of_ble_eq_true rfl | (simp only [rmL_piles, rmL_neighbours, rmL_pile, rmL_slopeFrom, rmL_topple]; omega) | (simp only [rmL_piles]; omega)), (by first | exact Nat.le_of_ble_eq_true rfl | (simp only [rmL_piles, rmL_neighbours, rmL_pile, rmL_slopeFrom, rmL_topple]; omega) | (simp only [rmL_piles]; omega))⟩ rfl hl.1 rfl (by first | exact Nat.le_of_ble_eq_true rfl | (simp only [rmL_piles, rmL_neighbours, rmL_pile, rmL_slopeFrom, rmL_topple]; omega) | (simp only [rmL_piles]; omega)) dL_piles_442 ⟨(by show _ ≤ K; omega), (by show _ ≤ 6 * K; omega)⟩ (fun H locs hW hS => ?_)
                              refine W.widen (k := (κ116 + 6)) (n := 6 * (κ116 + 6)) (by omega) (by omega) ?_
                              change W p l e _ s m args below meth c H locs _ _ Q (F0 m _ ls (.int (wL_byRounds Z x4 4 v77 1) :: _))
                              refine lv_bipush (v := (-12)) hx hb dL_piles_445 (by decide) ?_
                              refine lv_icmp_eq (tgt := 452) hx hb dL_piles_447 (by decide) (fun c138 => ?_) (fun c138 => ?_)
                              · replace h := ite_t c138 h
                                obtain ⟨v139, e140, h⟩ := lt_out h
                                refine lv_iinc (v := v139) (lv' := [(3, .int v139), (16, .int (b2i y115)), (0, .ref b), (1, .ref (B + 0)), (2, .int v2), (5, .int x54), (10, .int v75), (11, .int v77), (12, .int v79), (14, .int x96), (15, .int (b2i y104))]) hx hb dL_piles_452 hl (k := 4) rfl (by rw [e140]; rfl) (by decide) rfl (fun ls hl => ?_)
                                refine lv_goto (tgt := 7) hx hb dL_piles_455 (by decide) ?_
                                refine W.widen (k := (κ116 + 6)) (n := 6 * (κ116 + 6)) (by omega) (by omega) ?_
                                replace hW := gZL_nil (gZL_out hW)
                                exact IH7 _ _ h _ _ _ hW hS (lv_sub hl [2, 3, 4, 0] rfl)
                              · replace h := ite_f c138 h
                                refine W.widen (k := (κ116 + 6)) (n := 6 * (κ116 + 6)) (by omega) (by omega) ?_
                                exact J122 _ h _ _ _ hW hS (lv_sub hl [] rfl)
              obtain ⟨j142, hj144, h⟩ := jn1_o h
              have J143 : ∀ (κ141 : Nat), j142 κ141 = some r → ∀ (H : Heap) (locs : List Loc) (ls : Array Slot), gZL s0 D T B X Z hs t [q49, q52, q83] [r48, m63, m98] H → va_S (gA B X) s.heap H locs → lv_has ls 17 [(0, .ref b), (1, .ref (B + 0)), (2, .int v2), (3, .int x4), (5, .int x54), (10, .int v75), (11, .int v77), (12, .int v79), (14, .int x96), (15, .int (b2i y104))] → W p l e (rmL_piles K) s m args below meth c H locs κ141 (6 * κ141) Q (F0 m 355 ls []) := by
                clear h hW hS hl
                intro κ141 h H locs ls hW hS hl
                replace h := (hj144 κ141).symm.trans h
                refine lv_iconst (v := 0) hx hb dL_piles_355 (by decide) ?_
                refine W.widen (k := κ141) (n := 6 * κ141) (by omega) (by omega) ?_
                exact J118 _ _ h _ _ _ hW hS (lv_sub hl [0, 1, 2, 3, 4, 5, 6, 7, 8, 9] rfl)
              refine lv_icmp_ne (tgt := 355) hx hb dL_piles_335 (by decide) (fun c145 => ?_) (fun c145 => ?_)
              · replace h := ite_f c145 h
                refine W.widen (k := κ111) (n := 6 * κ111) (by omega) (by omega) ?_
                exact J143 _ h _ _ _ hW hS (lv_sub hl [0, 1, 2, 3, 4, 5, 6, 7, 8, 9] rfl)
              · replace h := ite_t c145 h
                refine lv_aload_n hx hb dL_piles_338 rfl (lv_at hl 1 rfl) ?_
                refine lv_iload_n hx hb dL_piles_339 rfl (lv_at hl 3 rfl) ?_
                obtain ⟨g146, h⟩ := gd_out h
                refine gk_wr (As := [.ref (B + 0), .int x4]) F hX hk hC hml hS hW (fun hX2 => mq_byToppling F hX2 hN) mw_L_315 ⟨rfl, rfl, (by first | exact Nat.le_of_ble_eq_true rfl | (simp only [rmL_piles, rmL_neighbours, rmL_pile, rmL_slopeFrom, rmL_topple]; omega) | (simp only [rmL_piles]; omega)), (by first | exact Nat.le_of_ble_eq_true rfl | (simp only [rmL_piles, rmL_neighbours, rmL_pile, rmL_slopeFrom, rmL_topple]; omega) | (simp only [rmL_piles]; omega))⟩ rfl hl.1 rfl (by first | exact Nat.le_of_ble_eq_true rfl | (simp only [rmL_piles, rmL_neighbours, rmL_pile, rmL_slopeFrom, rmL_topple]; omega) | (simp only [rmL_piles]; omega)) dL_piles_340 ⟨(by show _ ≤ K; omega), (by show _ ≤ 6 * K; omega)⟩ (fun H locs hW hS => ?_)
                refine W.widen (k := (κ111 + 1)) (n := 6 * (κ111 + 1)) (by omega) (by omega) ?_
                change W p l e _ s m args below meth c H locs _ _ Q (F0 m _ ls (.int (wL_byToppling Z x4) :: _))
                refine lv_aload_n hx hb dL_piles_343 rfl (lv_at hl 1 rfl) ?_
                refine lv_iload_n hx hb dL_piles_344 rfl (lv_at hl 3 rfl) ?_
                obtain ⟨g147, h⟩ := gd_out h
                refine gk_wr (As := [.ref (B + 0), .int x4]) F hX hk hC hml hS hW (fun hX2 => mq_lasts F hX2 hN) mw_L_313 ⟨rfl, rfl, (by first | exact Nat.le_of_ble_eq_true rfl | (simp only [rmL_piles, rmL_neighbours, rmL_pile, rmL_slopeFrom, rmL_topple]; omega) | (simp only [rmL_piles]; omega)), (by first | exact Nat.le_of_ble_eq_true rfl | (simp only [rmL_piles, rmL_neighbours, rmL_pile, rmL_slopeFrom, rmL_topple]; omega) | (simp only [rmL_piles]; omega))⟩ rfl hl.1 rfl (by first | exact Nat.le_of_ble_eq_true rfl | (simp only [rmL_piles, rmL_neighbours, rmL_pile, rmL_slopeFrom, rmL_topple]; omega) | (simp only [rmL_piles]; omega)) dL_piles_345 ⟨(by show _ ≤ K; omega), (by show _ ≤ 6 * K; omega)⟩ (fun H locs hW hS => ?_)
                refine W.widen (k := (κ111 + 2)) (n := 6 * (κ111 + 2)) (by omega) (by omega) ?_
                change W p l e _ s m args below meth c H locs _ _ Q (F0 m _ ls (.int (wL_lasts Z x4) :: _))
                refine lv_icmp_ne (tgt := 355) hx hb dL_piles_348 (by decide) (fun c148 => ?_) (fun c148 => ?_)
                · replace h := ite_f c148 h
                  refine W.widen (k := (κ111 + 2)) (n := 6 * (κ111 + 2)) (by omega) (by omega) ?_
                  exact J143 _ h _ _ _ hW hS (lv_sub hl [0, 1, 2, 3, 4, 5, 6, 7, 8, 9] rfl)
                · replace h := ite_t c148 h
                  refine lv_iconst (v := 1) hx hb dL_piles_351 (by decide) ?_
                  refine lv_goto (tgt := 356) hx hb dL_piles_352 (by decide) ?_
                  refine W.widen (k := (κ111 + 2)) (n := 6 * (κ111 + 2)) (by omega) (by omega) ?_
                  exact J118 _ _ h _ _ _ hW hS (lv_sub hl [0, 1, 2, 3, 4, 5, 6, 7, 8, 9] rfl)
            refine lv_icmp_ne (tgt := 334) hx hb dL_piles_327 (by decide) (fun c149 => ?_) (fun c149 => ?_)
            · replace h := ite_f c149 h
              refine lv_iconst (v := 0) hx hb dL_piles_334 (by decide) ?_
              refine W.widen (k := (κ105 + 1)) (n := 6 * (κ105 + 1)) (by omega) (by omega) ?_
              exact J113 _ _ h _ _ _ hW hS (lv_sub hl [1, 2, 3, 4, 5, 7, 8, 9, 10, 0] rfl)
            · replace h := ite_t c149 h
              refine lv_iconst (v := 1) hx hb dL_piles_330 (by decide) ?_
              refine lv_goto (tgt := 335) hx hb dL_piles_331 (by decide) ?_
              refine W.widen (k := (κ105 + 1)) (n := 6 * (κ105 + 1)) (by omega) (by omega) ?_
              exact J113 _ _ h _ _ _ hW hS (lv_sub hl [1, 2, 3, 4, 5, 7, 8, 9, 10, 0] rfl)
          obtain ⟨j151, hj153, h⟩ := jn1_o h
          have J152 : ∀ (κ150 : Nat), j151 κ150 = some r → ∀ (H : Heap) (locs : List Loc) (ls : Array Slot), gZL s0 D T B X Z hs t [q49, q52, q83] [r48, m63, m98] H → va_S (gA B X) s.heap H locs → lv_has ls 17 [(0, .ref b), (1, .ref (B + 0)), (2, .int v2), (3, .int x4), (5, .int x54), (8, .int x61), (10, .int v75), (11, .int v77), (12, .int v79), (14, .int x96)] → W p l e (rmL_piles K) s m args below meth c H locs κ150 (6 * κ150) Q (F0 m 315 ls []) := by
            clear h hW hS hl
            intro κ150 h H locs ls hW hS hl
            replace h := (hj153 κ150).symm.trans h
            refine lv_iconst (v := 0) hx hb dL_piles_315 (by decide) ?_
            refine W.widen (k := κ150) (n := 6 * κ150) (by omega) (by omega) ?_
            exact J107 _ _ h _ _ _ hW hS (lv_sub hl [0, 1, 2, 3, 4, 5, 6, 7, 8, 9] rfl)
          refine lv_icmp_ne (tgt := 315) hx hb dL_piles_286 (by decide) (fun c154 => ?_) (fun c154 => ?_)
          · replace h := ite_f c154 h
            refine W.widen (k := (κ99 + 1)) (n := 6 * (κ99 + 1)) (by omega) (by omega) ?_
            exact J152 _ h _ _ _ hW hS (lv_sub hl [0, 1, 2, 3, 5, 6, 7, 8, 9, 11] rfl)
          · replace h := ite_t c154 h
            refine lv_aload_n hx hb dL_piles_289 rfl (lv_at hl 1 rfl) ?_
            refine lv_iload_n hx hb dL_piles_290 rfl (lv_at hl 3 rfl) ?_
            obtain ⟨g155, h⟩ := gd_out h
            refine gk_wr (As := [.ref (B + 0), .int x4]) F hX hk hC hml hS hW (fun hX2 => mq_dropped F hX2 hN) mw_L_307 ⟨rfl, rfl, (by first | exact Nat.le_of_ble_eq_true rfl | (simp only [rmL_piles, rmL_neighbours, rmL_pile, rmL_slopeFrom, rmL_topple]; omega) | (simp only [rmL_piles]; omega)), (by first | exact Nat.le_of_ble_eq_true rfl | (simp only [rmL_piles, rmL_neighbours, rmL_pile, rmL_slopeFrom, rmL_topple]; omega) | (simp only [rmL_piles]; omega))⟩ rfl hl.1 rfl (by first | exact Nat.le_of_ble_eq_true rfl | (simp only [rmL_piles, rmL_neighbours, rmL_pile, rmL_slopeFrom, rmL_topple]; omega) | (simp only [rmL_piles]; omega)) dL_piles_291 ⟨(by show _ ≤ K; omega), (by show _ ≤ 6 * K; omega)⟩ (fun H locs hW hS => ?_)
            refine W.widen (k := (κ99 + 2)) (n := 6 * (κ99 + 2)) (by omega) (by omega) ?_
            change W p l e _ s m args below meth c H locs _ _ Q (F0 m _ ls (.int (wL_dropped Z x4) :: _))
            refine lv_iload hx hb dL_piles_294 (lv_at hl 4 rfl) ?_
            refine lv_aload_n hx hb dL_piles_296 rfl (lv_at hl 1 rfl) ?_
            refine lv_iload_n hx hb dL_piles_297 rfl (lv_at hl 3 rfl) ?_
            obtain ⟨g156, h⟩ := gd_out h
            refine gk_wr (As := [.ref (B + 0), .int x4]) F hX hk hC hml hS hW (fun hX2 => mq_spilled F hX2 hN) mw_L_309 ⟨rfl, rfl, (by first | exact Nat.le_of_ble_eq_true rfl | (simp only [rmL_piles, rmL_neighbours, rmL_pile, rmL_slopeFrom, rmL_topple]; omega) | (simp only [rmL_piles]; omega)), (by first | exact Nat.le_of_ble_eq_true rfl | (simp only [rmL_piles, rmL_neighbours, rmL_pile, rmL_slopeFrom, rmL_topple]; omega) | (simp only [rmL_piles]; omega))⟩ rfl hl.1 rfl (by first | exact Nat.le_of_ble_eq_true rfl | (simp only [rmL_piles, rmL_neighbours, rmL_pile, rmL_slopeFrom, rmL_topple]; omega) | (simp only [rmL_piles]; omega)) dL_piles_298 ⟨(by show _ ≤ K; omega), (by show _ ≤ 6 * K; omega)⟩ (fun H locs hW hS => ?_)
            refine W.widen (k := (κ99 + 3)) (n := 6 * (κ99 + 3)) (by omega) (by omega) ?_
            change W p l e _ s m args below meth c H locs _ _ Q (F0 m _ ls (.int (wL_spilled Z x4) :: _))
            refine lv_iadd hx hb dL_piles_301 ?_
            refine lv_aload_n hx hb dL_piles_302 rfl (lv_at hl 1 rfl) ?_
            refine lv_iload_n hx hb dL_piles_303 rfl (lv_at hl 3 rfl) ?_
            obtain ⟨g157, h⟩ := gd_out h
            refine gk_wr (As := [.ref (B + 0), .int x4]) F hX hk hC hml hS hW (fun hX2 => mq_melted F hX2 hN) mw_L_311 ⟨rfl, rfl, (by first | exact Nat.le_of_ble_eq_true rfl | (simp only [rmL_piles, rmL_neighbours, rmL_pile, rmL_slopeFrom, rmL_topple]; omega) | (simp only [rmL_piles]; omega)), (by first | exact Nat.le_of_ble_eq_true rfl | (simp only [rmL_piles, rmL_neighbours, rmL_pile, rmL_slopeFrom, rmL_topple]; omega) | (simp only [rmL_piles]; omega))⟩ rfl hl.1 rfl (by first | exact Nat.le_of_ble_eq_true rfl | (simp only [rmL_piles, rmL_neighbours, rmL_pile, rmL_slopeFrom, rmL_topple]; omega) | (simp only [rmL_piles]; omega)) dL_piles_304 ⟨(by show _ ≤ K; omega), (by show _ ≤ 6 * K; omega)⟩ (fun H locs hW hS => ?_)
            refine W.widen (k := (κ99 + 4)) (n := 6 * (κ99 + 4)) (by omega) (by omega) ?_
            change W p l e _ s m args below meth c H locs _ _ Q (F0 m _ ls (.int (wL_melted Z x4) :: _))
            refine lv_iadd hx hb dL_piles_307 ?_
            refine lv_icmp_ne (tgt := 315) hx hb dL_piles_308 (by decide) (fun c158 => ?_) (fun c158 => ?_)
            · replace h := ite_f c158 h
              refine W.widen (k := (κ99 + 4)) (n := 6 * (κ99 + 4)) (by omega) (by omega) ?_
              exact J152 _ h _ _ _ hW hS (lv_sub hl [0, 1, 2, 3, 5, 6, 7, 8, 9, 11] rfl)
            · replace h := ite_t c158 h
              refine lv_iconst (v := 1) hx hb dL_piles_311 (by decide) ?_
              refine lv_goto (tgt := 316) hx hb dL_piles_312 (by decide) ?_
              refine W.widen (k := (κ99 + 4)) (n := 6 * (κ99 + 4)) (by omega) (by omega) ?_
              exact J107 _ _ h _ _ _ hW hS (lv_sub hl [0, 1, 2, 3, 5, 6, 7, 8, 9, 11] rfl)
        · replace h := ite_f c102 h
          refine lv_iload hx hb dL_piles_253 (lv_at hl 11 rfl) ?_
          refine lv_aload hx hb dL_piles_255 (lv_at hl 10 rfl) ?_
          refine lv_iload hx hb dL_piles_257 (lv_at hl 12 rfl) ?_
          refine lv_iconst (v := 4) hx hb dL_piles_259 (by decide) ?_
          refine lv_irem hx hb dL_piles_260 (by decide) ?_
          refine lv_iload hx hb dL_piles_261 (lv_at hl 12 rfl) ?_
          refine lv_iconst (v := 4) hx hb dL_piles_263 (by decide) ?_
          refine lv_idiv hx hb dL_piles_264 (by decide) ?_
          refine lv_iconst (v := 4) hx hb dL_piles_265 (by decide) ?_
          refine lv_irem hx hb dL_piles_266 (by decide) ?_
          obtain ⟨g159, h⟩ := gd_out h
          obtain ⟨r160, hcall, h⟩ := bd_out h
          refine gk_tp (i := 2) (q := q83) (m1 := r160.1) (As := [.ref (q83 + 0), .int (x97 - x97 / 4 * 4), .int ((x97 / 4) - (x97 / 4) / 4 * 4)]) F hX hk hC hml hS hW rfl (fun X2 hX2 => metL_topple (N := N) (FX_q F hW 2 rfl) hX2 300 is_PG hcall) ml_L_288 ⟨rfl, rfl, (by first | exact Nat.le_of_ble_eq_true rfl | (simp only [rmL_piles, rmL_neighbours, rmL_pile, rmL_slopeFrom, rmL_topple]; omega) | (simp only [rmL_piles]; omega)), (by first | exact Nat.le_of_ble_eq_true rfl | (simp only [rmL_piles, rmL_neighbours, rmL_pile, rmL_slopeFrom, rmL_topple]; omega) | (simp only [rmL_piles]; omega))⟩ rfl hl.1 rfl (by first | exact Nat.le_of_ble_eq_true rfl | (simp only [rmL_piles, rmL_neighbours, rmL_pile, rmL_slopeFrom, rmL_topple]; omega) | (simp only [rmL_piles]; omega)) dL_piles_267 ⟨(by show _ ≤ K; omega), (by show _ ≤ 6 * K; omega)⟩ (fun H locs hW hS => ?_)
          replace hW : gZL s0 D T B X Z hs t [q49, q52, q83] [r48, m63, r160.1] H := hW
          refine lv_iadd hx hb dL_piles_270 ?_
          obtain ⟨v161, e162, h⟩ := lt_out h
          rw [← e162]
          refine lv_istore (lv' := [(14, .int v161), (0, .ref b), (1, .ref (B + 0)), (2, .int v2), (3, .int x4), (4, .int x53), (5, .int x54), (8, .int x61), (10, .int v75), (11, .int v77), (12, .int v79), (13, .ref (q83 + 0)), (15, .int x97)]) hx hb dL_piles_271 hl (by decide) rfl (fun ls hl => ?_)
          obtain ⟨v163, e164, h⟩ := lt_out h
          refine lv_iinc (v := v163) (lv' := [(15, .int v163), (14, .int v161), (0, .ref b), (1, .ref (B + 0)), (2, .int v2), (3, .int x4), (4, .int x53), (5, .int x54), (8, .int x61), (10, .int v75), (11, .int v77), (12, .int v79), (13, .ref (q83 + 0))]) hx hb dL_piles_273 hl (k := 12) rfl (by rw [e164]; rfl) (by decide) rfl (fun ls hl => ?_)
          refine lv_goto (tgt := 246) hx hb dL_piles_276 (by decide) ?_
          refine W.widen (k := κ99) (n := 6 * κ99) (by omega) (by omega) ?_
          exact IH101 _ _ _ _ h _ _ _ hW hS (lv_sub hl [2, 3, 4, 5, 6, 7, 8, 9, 10, 11, 12, 1, 0] rfl)
      · replace h := ite_f c67 h
        refine lv_iload hx hb dL_piles_149 (lv_at hl 7 rfl) ?_
        refine lv_aload hx hb dL_piles_151 (lv_at hl 6 rfl) ?_
        refine lv_iload hx hb dL_piles_153 (lv_at hl 8 rfl) ?_
        refine lv_iconst (v := 4) hx hb dL_piles_155 (by decide) ?_
        refine lv_irem hx hb dL_piles_156 (by decide) ?_
        refine lv_iload hx hb dL_piles_157 (lv_at hl 8 rfl) ?_
        refine lv_iconst (v := 4) hx hb dL_piles_159 (by decide) ?_
        refine lv_idiv hx hb dL_piles_160 (by decide) ?_
        refine lv_iconst (v := 4) hx hb dL_piles_161 (by decide) ?_
        refine lv_irem hx hb dL_piles_162 (by decide) ?_
        obtain ⟨g165, h⟩ := gd_out h
        obtain ⟨r166, hcall, h⟩ := bd_out h
        refine gk_tp (i := 1) (q := q52) (m1 := r166.1) (As := [.ref (q52 + 0), .int (x62 - x62 / 4 * 4), .int ((x62 / 4) - (x62 / 4) / 4 * 4)]) F hX hk hC hml hS hW rfl (fun X2 hX2 => metL_topple (N := N) (FX_q F hW 1 rfl) hX2 300 is_PG hcall) ml_L_288 ⟨rfl, rfl, (by first | exact Nat.le_of_ble_eq_true rfl | (simp only [rmL_piles, rmL_neighbours, rmL_pile, rmL_slopeFrom, rmL_topple]; omega) | (simp only [rmL_piles]; omega)), (by first | exact Nat.le_of_ble_eq_true rfl | (simp only [rmL_piles, rmL_neighbours, rmL_pile, rmL_slopeFrom, rmL_topple]; omega) | (simp only [rmL_piles]; omega))⟩ rfl hl.1 rfl (by first | exact Nat.le_of_ble_eq_true rfl | (simp only [rmL_piles, rmL_neighbours, rmL_pile, rmL_slopeFrom, rmL_topple]; omega) | (simp only [rmL_piles]; omega)) dL_piles_163 ⟨(by show _ ≤ K; omega), (by show _ ≤ 6 * K; omega)⟩ (fun H locs hW hS => ?_)
        replace hW : gZL s0 D T B X Z hs t [q49, q52] [r48, r166.1] H := hW
        refine lv_iadd hx hb dL_piles_166 ?_
        obtain ⟨v167, e168, h⟩ := lt_out h
        rw [← e168]
        refine lv_istore (lv' := [(8, .int v167), (0, .ref b), (1, .ref (B + 0)), (2, .int v2), (3, .int x4), (4, .int x53), (5, .int x54), (7, .ref (q52 + 0)), (9, .int x62)]) hx hb dL_piles_167 hl (by decide) rfl (fun ls hl => ?_)
        obtain ⟨v169, e170, h⟩ := lt_out h
        refine lv_iinc (v := v169) (lv' := [(9, .int v169), (8, .int v167), (0, .ref b), (1, .ref (B + 0)), (2, .int v2), (3, .int x4), (4, .int x53), (5, .int x54), (7, .ref (q52 + 0))]) hx hb dL_piles_169 hl (k := 8) rfl (by rw [e170]; rfl) (by decide) rfl (fun ls hl => ?_)
        refine lv_goto (tgt := 142) hx hb dL_piles_172 (by decide) ?_
        refine W.widen (k := κ64) (n := 6 * κ64) (by omega) (by omega) ?_
        exact IH66 _ _ _ _ h _ _ _ hW hS (lv_sub hl [2, 3, 4, 5, 6, 7, 8, 1, 0] rfl)
    · replace h := ite_f c60 h
      refine lv_iconst (v := 0) hx hb dL_piles_41 (by decide) ?_
      refine lv_istore (lv' := [(9, .int 0), (0, .ref b), (1, .ref (B + 0)), (2, .int v2), (3, .int x4), (4, .int x53), (5, .int x54), (6, .ref (q49 + 0)), (7, .ref (q52 + 0)), (8, .int x55)]) hx hb dL_piles_42 hl (by decide) rfl (fun ls hl => ?_)
      refine W.widen (k := κ57) (n := 6 * κ57) (by omega) (by omega) ?_
      refine fix5_ind (fun (x171 : Int32) (x172 : Int32) (x173 : Int32) (m174 : Mem) (κ175 : Nat) => ∀ (H : Heap) (locs : List Loc) (ls : Array Slot), gZL s0 D T B X Z hs t [q49, q52] [r48, m174] H → va_S (gA B X) s.heap H locs → lv_has ls 17 [(0, .ref b), (1, .ref (B + 0)), (2, .int v2), (3, .int x4), (4, .int x171), (5, .int x172), (6, .ref (q49 + 0)), (7, .ref (q52 + 0)), (8, .int x55), (9, .int x173)] → W p l e (rmL_piles K) s m args below meth c H locs κ175 (6 * κ175) Q (F0 m 44 ls [])) ?_ N _ _ _ _ _ h _ _ _ hW hS (lv_sub hl [1, 2, 3, 4, 5, 6, 7, 8, 9, 0] rfl)
      clear h hW hS hl
      intro self176 IH177 x171 x172 x173 m174 κ175 h H locs ls hW hS hl
      refine lv_iload hx hb dL_piles_44 (lv_at hl 9 rfl) ?_
      refine lv_iconst (v := 4) hx hb dL_piles_46 (by decide) ?_
      refine lv_icmp_ge (tgt := 130) hx hb dL_piles_47 (by decide) (fun c178 => ?_) (fun c178 => ?_)
      · replace h := ite_t c178 h
        obtain ⟨v179, e180, h⟩ := lt_out h
        refine lv_iinc (v := v179) (lv' := [(8, .int v179), (0, .ref b), (1, .ref (B + 0)), (2, .int v2), (3, .int x4), (4, .int x171), (5, .int x172), (6, .ref (q49 + 0)), (7, .ref (q52 + 0)), (9, .int x173)]) hx hb dL_piles_130 hl (k := 8) rfl (by rw [e180]; rfl) (by decide) rfl (fun ls hl => ?_)
        refine lv_goto (tgt := 35) hx hb dL_piles_133 (by decide) ?_
        refine W.widen (k := κ175) (n := 6 * κ175) (by omega) (by omega) ?_
        exact IH59 _ _ _ _ _ h _ _ _ hW hS (lv_sub hl [1, 2, 3, 4, 5, 6, 7, 8, 0] rfl)
      · replace h := ite_f c178 h
        refine lv_iload hx hb dL_piles_50 (lv_at hl 4 rfl) ?_
        refine lv_aload hx hb dL_piles_52 (lv_at hl 6 rfl) ?_
        refine lv_iload hx hb dL_piles_54 (lv_at hl 8 rfl) ?_
        obtain ⟨q181, e182, hq183, hi184, h⟩ := ar_o h
        refine gq_aald hC (show gWP D T q49 r48 H from gZL_p 0 q49 hW rfl) is_PG.1 (is_PG.2.1 T q49 (r48 0)) (t0 := 3) rfl rfl e182 hi184 dL_piles_56 ?_
        refine lv_iload hx hb dL_piles_57 (lv_at hl 9 rfl) ?_
        obtain ⟨v185, e186, hi187, h⟩ := ag_o h
        refine gq_iald hC (show gWP D T q49 r48 H from gZL_p 0 q49 hW rfl) (is_PG.2.2 q181 hq183).1 ((is_PG.2.2 q181 hq183).2 T q49 (r48 (0 + 1 + 1 * q181))) (t0 := 0) rfl e186 hi187 dL_piles_59 ?_
        refine lv_iadd hx hb dL_piles_60 ?_
        obtain ⟨v188, e189, h⟩ := lt_out h
        rw [← e189]
        refine lv_istore (lv' := [(4, .int v188), (0, .ref b), (1, .ref (B + 0)), (2, .int v2), (3, .int x4), (5, .int x172), (6, .ref (q49 + 0)), (7, .ref (q52 + 0)), (8, .int x55), (9, .int x173)]) hx hb dL_piles_61 hl (by decide) rfl (fun ls hl => ?_)
        refine lv_iload hx hb dL_piles_63 (lv_at hl 5 rfl) ?_
        refine lv_aload hx hb dL_piles_65 (lv_at hl 6 rfl) ?_
        refine lv_iload hx hb dL_piles_67 (lv_at hl 9 rfl) ?_
        refine lv_iload hx hb dL_piles_69 (lv_at hl 8 rfl) ?_
        obtain ⟨g190, h⟩ := gd_out h
        obtain ⟨r191, hcall, h⟩ := bd_out h
        refine gk_tp (i := 0) (q := q49) (m1 := r48) (As := [.ref (q49 + 0), .int x173, .int x55]) F hX hk hC hml hS hW rfl (fun X2 hX2 => metL_slopeFrom (N := N) (FX_q F hW 0 rfl) hX2 8 is_PG hcall) ml_L_292 ⟨rfl, rfl, (by first | exact Nat.le_of_ble_eq_true rfl | (simp only [rmL_piles, rmL_neighbours, rmL_pile, rmL_slopeFrom, rmL_topple]; omega) | (simp only [rmL_piles]; omega)), (by first | exact Nat.le_of_ble_eq_true rfl | (simp only [rmL_piles, rmL_neighbours, rmL_pile, rmL_slopeFrom, rmL_topple]; omega) | (simp only [rmL_piles]; omega))⟩ rfl hl.1 rfl (by first | exact Nat.le_of_ble_eq_true rfl | (simp only [rmL_piles, rmL_neighbours, rmL_pile, rmL_slopeFrom, rmL_topple]; omega) | (simp only [rmL_piles]; omega)) dL_piles_71 ⟨(by show _ ≤ K; omega), (by show _ ≤ 6 * K; omega)⟩ (fun H locs hW hS => ?_)
        replace hW : gZL s0 D T B X Z hs t [q49, q52] [r48, m174] H := hW
        obtain ⟨g192, h⟩ := gd_out h
        refine gw_max hC (hml.trans hl.1.symm) lm_L_276 lb_max.1 lb_max.2.1 lb_max.2.2 (by first | exact Nat.le_of_ble_eq_true rfl | (simp only [rmL_piles, rmL_neighbours, rmL_pile, rmL_slopeFrom, rmL_topple]; omega) | (simp only [rmL_piles]; omega)) (by first | exact Nat.le_of_ble_eq_true rfl | (simp only [rmL_piles, rmL_neighbours, rmL_pile, rmL_slopeFrom, rmL_topple]; omega) | (simp only [rmL_piles]; omega)) (by show _ ≤ K; omega) (by show _ ≤ 6 * K; omega) dL_piles_74 ?_
        obtain ⟨v193, e194, h⟩ := lt_out h
        rw [← e194]
        refine lv_istore (lv' := [(5, .int v193), (4, .int v188), (0, .ref b), (1, .ref (B + 0)), (2, .int v2), (3, .int x4), (6, .ref (q49 + 0)), (7, .ref (q52 + 0)), (8, .int x55), (9, .int x173)]) hx hb dL_piles_77 hl (by decide) rfl (fun ls hl => ?_)
        refine lv_aload hx hb dL_piles_79 (lv_at hl 7 rfl) ?_
        refine lv_iload hx hb dL_piles_81 (lv_at hl 8 rfl) ?_
        obtain ⟨q195, e196, hq197, hi198, h⟩ := ar_o h
        refine gq_aald hC (show gWP D T q52 m174 H from gZL_p 1 q52 hW rfl) is_PG.1 (is_PG.2.1 T q52 (m174 0)) (t0 := 3) rfl rfl e196 hi198 dL_piles_83 ?_
        refine lv_iload hx hb dL_piles_84 (lv_at hl 9 rfl) ?_
        refine lv_dup2_11 hx hb dL_piles_86 rfl rfl ?_
        obtain ⟨v199, e200, hi201, h⟩ := ag_o h
        refine gq_iald hC (show gWP D T q52 m174 H from gZL_p 1 q52 hW rfl) (is_PG.2.2 q195 hq197).1 ((is_PG.2.2 q195 hq197).2 T q52 (m174 (0 + 1 + 1 * q195))) (t0 := 0) rfl e200 hi201 dL_piles_87 ?_
        refine lv_iconst (v := 4) hx hb dL_piles_88 (by decide) ?_
        refine lv_iload hx hb dL_piles_89 (lv_at hl 9 rfl) ?_
        refine lv_iload hx hb dL_piles_91 (lv_at hl 8 rfl) ?_
        obtain ⟨g202, h⟩ := gd_out h
        obtain ⟨r203, hcall, h⟩ := bd_out h
        refine gk_in (As := [.int x173, .int x55]) F hX hk hC hml hS hW (fun _ => metL_neighbours F hX hN hcall) ml_L_302 ⟨rfl, rfl, (by first | exact Nat.le_of_ble_eq_true rfl | (simp only [rmL_piles, rmL_neighbours, rmL_pile, rmL_slopeFrom, rmL_topple]; omega) | (simp only [rmL_piles]; omega)), (by first | exact Nat.le_of_ble_eq_true rfl | (simp only [rmL_piles, rmL_neighbours, rmL_pile, rmL_slopeFrom, rmL_topple]; omega) | (simp only [rmL_piles]; omega))⟩ rfl hl.1 rfl (by first | exact Nat.le_of_ble_eq_true rfl | (simp only [rmL_piles, rmL_neighbours, rmL_pile, rmL_slopeFrom, rmL_topple]; omega) | (simp only [rmL_piles]; omega)) dL_piles_93 ⟨(by show _ ≤ K; omega), (by show _ ≤ 6 * K; omega)⟩ (fun H locs hW hS => ?_)
        refine lv_isub hx hb dL_piles_96 ?_
        refine lv_iadd hx hb dL_piles_97 ?_
        obtain ⟨μ204, e205, hi206, h⟩ := aw_o h
        refine gk_iast (i := 1) (q := q52) (o := 0 + 1 + 1 * q195) rfl hC hS hW (is_PG.2.2 q195 hq197) e205 hi206 dL_piles_98 (fun H locs hW hS => ?_)
        replace hW : gZL s0 D T B X Z hs t [q49, q52] [r48, μ204] H := hW
        refine lv_aload hx hb dL_piles_99 (lv_at hl 6 rfl) ?_
        refine lv_iload hx hb dL_piles_101 (lv_at hl 8 rfl) ?_
        obtain ⟨q207, e208, hq209, hi210, h⟩ := ar_o h
        refine gq_aald hC (show gWP D T q49 r48 H from gZL_p 0 q49 hW rfl) is_PG.1 (is_PG.2.1 T q49 (r48 0)) (t0 := 3) rfl rfl e208 hi210 dL_piles_103 ?_
        refine lv_iload hx hb dL_piles_104 (lv_at hl 9 rfl) ?_
        obtain ⟨v211, e212, hi213, h⟩ := ag_o h
        refine gq_iald hC (show gWP D T q49 r48 H from gZL_p 0 q49 hW rfl) (is_PG.2.2 q207 hq209).1 ((is_PG.2.2 q207 hq209).2 T q49 (r48 (0 + 1 + 1 * q207))) (t0 := 0) rfl e212 hi213 dL_piles_106 ?_
        obtain ⟨j215, hj217, h⟩ := jn1_o h
        have J216 : ∀ (κ214 : Nat), j215 κ214 = some r → ∀ (H : Heap) (locs : List Loc) (ls : Array Slot), gZL s0 D T B X Z hs t [q49, q52] [r48, μ204] H → va_S (gA B X) s.heap H locs → lv_has ls 17 [] → W p l e (rmL_piles K) s m args below meth c H locs κ214 (6 * κ214) Q (F0 m 122 ls []) := by
          clear h hW hS hl
          intro κ214 h H locs ls hW hS hl
          replace h := (hj217 κ214).symm.trans h
          refine lv_iconst (v := 0) hx hb dL_piles_122 (by decide) ?_
          obtain ⟨g218, h⟩ := gd_out h
          cases h
          exact hend dL_piles_123 (gZL_out hW) hS (by omega) (by omega)
        refine lv_if_lt (tgt := 122) hx hb dL_piles_107 (by decide) (fun c219 => ?_) (fun c219 => ?_)
        · replace h := ite_t c219 h
          refine W.widen (k := κ175) (n := 6 * κ175) (by omega) (by omega) ?_
          exact J216 _ h _ _ _ hW hS (lv_sub hl [] rfl)
        · replace h := ite_f c219 h
          refine lv_aload hx hb dL_piles_110 (lv_at hl 6 rfl) ?_
          refine lv_iload hx hb dL_piles_112 (lv_at hl 8 rfl) ?_
          obtain ⟨q220, e221, hq222, hi223, h⟩ := ar_o h
          refine gq_aald hC (show gWP D T q49 r48 H from gZL_p 0 q49 hW rfl) is_PG.1 (is_PG.2.1 T q49 (r48 0)) (t0 := 3) rfl rfl e221 hi223 dL_piles_114 ?_
          refine lv_iload hx hb dL_piles_115 (lv_at hl 9 rfl) ?_
          obtain ⟨v224, e225, hi226, h⟩ := ag_o h
          refine gq_iald hC (show gWP D T q49 r48 H from gZL_p 0 q49 hW rfl) (is_PG.2.2 q220 hq222).1 ((is_PG.2.2 q220 hq222).2 T q49 (r48 (0 + 1 + 1 * q220))) (t0 := 0) rfl e225 hi226 dL_piles_117 ?_
          refine lv_iconst (v := 3) hx hb dL_piles_118 (by decide) ?_
          refine lv_icmp_le (tgt := 124) hx hb dL_piles_119 (by decide) (fun c227 => ?_) (fun c227 => ?_)
          · replace h := ite_t c227 h
            obtain ⟨v228, e229, h⟩ := lt_out h
            refine lv_iinc (v := v228) (lv' := [(9, .int v228), (5, .int v193), (4, .int v188), (0, .ref b), (1, .ref (B + 0)), (2, .int v2), (3, .int x4), (6, .ref (q49 + 0)), (7, .ref (q52 + 0)), (8, .int x55)]) hx hb dL_piles_124 hl (k := 9) rfl (by rw [e229]; rfl) (by decide) rfl (fun ls hl => ?_)
            refine lv_goto (tgt := 44) hx hb dL_piles_127 (by decide) ?_
            refine W.widen (k := κ175) (n := 6 * κ175) (by omega) (by omega) ?_
            exact IH177 _ _ _ _ _ h _ _ _ hW hS (lv_sub hl [3, 4, 5, 6, 2, 1, 7, 8, 9, 0] rfl)
          · replace h := ite_f c227 h
            refine W.widen (k := κ175) (n := 6 * κ175) (by omega) (by omega) ?_
            exact J216 _ h _ _ _ hW hS (lv_sub hl [] rfl)

