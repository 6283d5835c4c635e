/-! Printed by program: the law draws a gallery. -/
theorem dL_drawn_0 : decode cL_drawn 0 = .ok (.new 9, 3) := by decide +kernel
theorem dL_drawn_3 : decode cL_drawn 3 = .ok (.dup, 1) := by decide +kernel
theorem dL_drawn_4 : decode cL_drawn 4 = .ok (.invokespecial 193, 3) := by decide +kernel
theorem dL_drawn_7 : decode cL_drawn 7 = .ok (.astore_n 1, 1) := by decide +kernel
theorem dL_drawn_8 : decode cL_drawn 8 = .ok (.aload_n 0, 1) := by decide +kernel
theorem dL_drawn_9 : decode cL_drawn 9 = .ok (.iconst 0, 1) := by decide +kernel
theorem dL_drawn_10 : decode cL_drawn 10 = .ok (.invokestatic 194, 3) := by decide +kernel
theorem dL_drawn_13 : decode cL_drawn 13 = .ok (.iconst 1, 1) := by decide +kernel
theorem dL_drawn_14 : decode cL_drawn 14 = .ok (.iushr, 1) := by decide +kernel
theorem dL_drawn_15 : decode cL_drawn 15 = .ok (.istore_n 2, 1) := by decide +kernel
theorem dL_drawn_16 : decode cL_drawn 16 = .ok (.iconst 1, 1) := by decide +kernel
theorem dL_drawn_17 : decode cL_drawn 17 = .ok (.iload_n 2, 1) := by decide +kernel
theorem dL_drawn_18 : decode cL_drawn 18 = .ok (.bipush 6, 2) := by decide +kernel
theorem dL_drawn_20 : decode cL_drawn 20 = .ok (.irem, 1) := by decide +kernel
theorem dL_drawn_21 : decode cL_drawn 21 = .ok (.iadd, 1) := by decide +kernel
theorem dL_drawn_22 : decode cL_drawn 22 = .ok (.istore_n 3, 1) := by decide +kernel
theorem dL_drawn_23 : decode cL_drawn 23 = .ok (.iconst 1, 1) := by decide +kernel
theorem dL_drawn_24 : decode cL_drawn 24 = .ok (.iload_n 2, 1) := by decide +kernel
theorem dL_drawn_25 : decode cL_drawn 25 = .ok (.iconst 3, 1) := by decide +kernel
theorem dL_drawn_26 : decode cL_drawn 26 = .ok (.iushr, 1) := by decide +kernel
theorem dL_drawn_27 : decode cL_drawn 27 = .ok (.iconst 4, 1) := by decide +kernel
theorem dL_drawn_28 : decode cL_drawn 28 = .ok (.irem, 1) := by decide +kernel
theorem dL_drawn_29 : decode cL_drawn 29 = .ok (.iadd, 1) := by decide +kernel
theorem dL_drawn_30 : decode cL_drawn 30 = .ok (.istore 4, 2) := by decide +kernel
theorem dL_drawn_32 : decode cL_drawn 32 = .ok (.iconst 0, 1) := by decide +kernel
theorem dL_drawn_33 : decode cL_drawn 33 = .ok (.istore 5, 2) := by decide +kernel
theorem dL_drawn_35 : decode cL_drawn 35 = .ok (.iload 5, 2) := by decide +kernel
theorem dL_drawn_37 : decode cL_drawn 37 = .ok (.iload_n 3, 1) := by decide +kernel
theorem dL_drawn_38 : decode cL_drawn 38 = .ok (.if_icmp .ge 33, 3) := by decide +kernel
theorem dL_drawn_41 : decode cL_drawn 41 = .ok (.aload_n 1, 1) := by decide +kernel
theorem dL_drawn_42 : decode cL_drawn 42 = .ok (.aload_n 0, 1) := by decide +kernel
theorem dL_drawn_43 : decode cL_drawn 43 = .ok (.iconst 1, 1) := by decide +kernel
theorem dL_drawn_44 : decode cL_drawn 44 = .ok (.iload 5, 2) := by decide +kernel
theorem dL_drawn_46 : decode cL_drawn 46 = .ok (.iadd, 1) := by decide +kernel
theorem dL_drawn_47 : decode cL_drawn 47 = .ok (.invokestatic 194, 3) := by decide +kernel
theorem dL_drawn_50 : decode cL_drawn 50 = .ok (.iconst 1, 1) := by decide +kernel
theorem dL_drawn_51 : decode cL_drawn 51 = .ok (.iushr, 1) := by decide +kernel
theorem dL_drawn_52 : decode cL_drawn 52 = .ok (.bipush 10, 2) := by decide +kernel
theorem dL_drawn_54 : decode cL_drawn 54 = .ok (.irem, 1) := by decide +kernel
theorem dL_drawn_55 : decode cL_drawn 55 = .ok (.invokestatic 198, 3) := by decide +kernel
theorem dL_drawn_58 : decode cL_drawn 58 = .ok (.iload 5, 2) := by decide +kernel
theorem dL_drawn_60 : decode cL_drawn 60 = .ok (.if_icmp .eq 5, 3) := by decide +kernel
theorem dL_drawn_63 : decode cL_drawn 63 = .ok (.aconst_null, 1) := by decide +kernel
theorem dL_drawn_64 : decode cL_drawn 64 = .ok (.areturn, 1) := by decide +kernel
theorem dL_drawn_65 : decode cL_drawn 65 = .ok (.iinc 5 1, 3) := by decide +kernel
theorem dL_drawn_68 : decode cL_drawn 68 = .ok (.goto (-33), 3) := by decide +kernel
theorem dL_drawn_71 : decode cL_drawn 71 = .ok (.iconst 0, 1) := by decide +kernel
theorem dL_drawn_72 : decode cL_drawn 72 = .ok (.istore 5, 2) := by decide +kernel
theorem dL_drawn_74 : decode cL_drawn 74 = .ok (.iload 5, 2) := by decide +kernel
theorem dL_drawn_76 : decode cL_drawn 76 = .ok (.bipush 7, 2) := by decide +kernel
theorem dL_drawn_78 : decode cL_drawn 78 = .ok (.if_icmp .ge 87, 3) := by decide +kernel
theorem dL_drawn_81 : decode cL_drawn 81 = .ok (.iload_n 3, 1) := by decide +kernel
theorem dL_drawn_82 : decode cL_drawn 82 = .ok (.iconst 1, 1) := by decide +kernel
theorem dL_drawn_83 : decode cL_drawn 83 = .ok (.if_icmp .le 82, 3) := by decide +kernel
theorem dL_drawn_86 : decode cL_drawn 86 = .ok (.aload_n 0, 1) := by decide +kernel
theorem dL_drawn_87 : decode cL_drawn 87 = .ok (.bipush 7, 2) := by decide +kernel
theorem dL_drawn_89 : decode cL_drawn 89 = .ok (.iload 5, 2) := by decide +kernel
theorem dL_drawn_91 : decode cL_drawn 91 = .ok (.iadd, 1) := by decide +kernel
theorem dL_drawn_92 : decode cL_drawn 92 = .ok (.invokestatic 194, 3) := by decide +kernel
theorem dL_drawn_95 : decode cL_drawn 95 = .ok (.iconst 1, 1) := by decide +kernel
theorem dL_drawn_96 : decode cL_drawn 96 = .ok (.iushr, 1) := by decide +kernel
theorem dL_drawn_97 : decode cL_drawn 97 = .ok (.istore 6, 2) := by decide +kernel
theorem dL_drawn_99 : decode cL_drawn 99 = .ok (.iload 6, 2) := by decide +kernel
theorem dL_drawn_101 : decode cL_drawn 101 = .ok (.iload_n 3, 1) := by decide +kernel
theorem dL_drawn_102 : decode cL_drawn 102 = .ok (.irem, 1) := by decide +kernel
theorem dL_drawn_103 : decode cL_drawn 103 = .ok (.istore 7, 2) := by decide +kernel
theorem dL_drawn_105 : decode cL_drawn 105 = .ok (.aload_n 1, 1) := by decide +kernel
theorem dL_drawn_106 : decode cL_drawn 106 = .ok (.iload 7, 2) := by decide +kernel
theorem dL_drawn_108 : decode cL_drawn 108 = .ok (.iload 7, 2) := by decide +kernel
theorem dL_drawn_110 : decode cL_drawn 110 = .ok (.iconst 1, 1) := by decide +kernel
theorem dL_drawn_111 : decode cL_drawn 111 = .ok (.iadd, 1) := by decide +kernel
theorem dL_drawn_112 : decode cL_drawn 112 = .ok (.iload 6, 2) := by decide +kernel
theorem dL_drawn_114 : decode cL_drawn 114 = .ok (.iconst 4, 1) := by decide +kernel
theorem dL_drawn_115 : decode cL_drawn 115 = .ok (.iushr, 1) := by decide +kernel
theorem dL_drawn_116 : decode cL_drawn 116 = .ok (.iload_n 3, 1) := by decide +kernel
theorem dL_drawn_117 : decode cL_drawn 117 = .ok (.iconst 1, 1) := by decide +kernel
theorem dL_drawn_118 : decode cL_drawn 118 = .ok (.isub, 1) := by decide +kernel
theorem dL_drawn_119 : decode cL_drawn 119 = .ok (.irem, 1) := by decide +kernel
theorem dL_drawn_120 : decode cL_drawn 120 = .ok (.iadd, 1) := by decide +kernel
theorem dL_drawn_121 : decode cL_drawn 121 = .ok (.iload_n 3, 1) := by decide +kernel
theorem dL_drawn_122 : decode cL_drawn 122 = .ok (.irem, 1) := by decide +kernel
theorem dL_drawn_123 : decode cL_drawn 123 = .ok (.iconst 1, 1) := by decide +kernel
theorem dL_drawn_124 : decode cL_drawn 124 = .ok (.iload 6, 2) := by decide +kernel
theorem dL_drawn_126 : decode cL_drawn 126 = .ok (.bipush 8, 2) := by decide +kernel
theorem dL_drawn_128 : decode cL_drawn 128 = .ok (.iushr, 1) := by decide +kernel
theorem dL_drawn_129 : decode cL_drawn 129 = .ok (.iload_n 2, 1) := by decide +kernel
theorem dL_drawn_130 : decode cL_drawn 130 = .ok (.iconst 3, 1) := by decide +kernel
theorem dL_drawn_131 : decode cL_drawn 131 = .ok (.irem, 1) := by decide +kernel
theorem dL_drawn_132 : decode cL_drawn 132 = .ok (.ifCond .ne 8, 3) := by decide +kernel
theorem dL_drawn_135 : decode cL_drawn 135 = .ok (.bipush 99, 2) := by decide +kernel
theorem dL_drawn_137 : decode cL_drawn 137 = .ok (.goto 4, 3) := by decide +kernel
theorem dL_drawn_140 : decode cL_drawn 140 = .ok (.iconst 4, 1) := by decide +kernel
theorem dL_drawn_141 : decode cL_drawn 141 = .ok (.irem, 1) := by decide +kernel
theorem dL_drawn_142 : decode cL_drawn 142 = .ok (.iadd, 1) := by decide +kernel
theorem dL_drawn_143 : decode cL_drawn 143 = .ok (.iload 6, 2) := by decide +kernel
theorem dL_drawn_145 : decode cL_drawn 145 = .ok (.bipush 16, 2) := by decide +kernel
theorem dL_drawn_147 : decode cL_drawn 147 = .ok (.iushr, 1) := by decide +kernel
theorem dL_drawn_148 : decode cL_drawn 148 = .ok (.bipush 10, 2) := by decide +kernel
theorem dL_drawn_150 : decode cL_drawn 150 = .ok (.irem, 1) := by decide +kernel
theorem dL_drawn_151 : decode cL_drawn 151 = .ok (.invokestatic 201, 3) := by decide +kernel
theorem dL_drawn_154 : decode cL_drawn 154 = .ok (.ifCond .ge 5, 3) := by decide +kernel
theorem dL_drawn_157 : decode cL_drawn 157 = .ok (.aconst_null, 1) := by decide +kernel
theorem dL_drawn_158 : decode cL_drawn 158 = .ok (.areturn, 1) := by decide +kernel
theorem dL_drawn_159 : decode cL_drawn 159 = .ok (.iinc 5 1, 3) := by decide +kernel
theorem dL_drawn_162 : decode cL_drawn 162 = .ok (.goto (-88), 3) := by decide +kernel
theorem dL_drawn_165 : decode cL_drawn 165 = .ok (.iconst 0, 1) := by decide +kernel
theorem dL_drawn_166 : decode cL_drawn 166 = .ok (.istore 5, 2) := by decide +kernel
theorem dL_drawn_168 : decode cL_drawn 168 = .ok (.iload 5, 2) := by decide +kernel
theorem dL_drawn_170 : decode cL_drawn 170 = .ok (.iload 4, 2) := by decide +kernel
theorem dL_drawn_172 : decode cL_drawn 172 = .ok (.if_icmp .ge 44, 3) := by decide +kernel
theorem dL_drawn_175 : decode cL_drawn 175 = .ok (.aload_n 0, 1) := by decide +kernel
theorem dL_drawn_176 : decode cL_drawn 176 = .ok (.bipush 14, 2) := by decide +kernel
theorem dL_drawn_178 : decode cL_drawn 178 = .ok (.iload 5, 2) := by decide +kernel
theorem dL_drawn_180 : decode cL_drawn 180 = .ok (.iadd, 1) := by decide +kernel
theorem dL_drawn_181 : decode cL_drawn 181 = .ok (.invokestatic 194, 3) := by decide +kernel
theorem dL_drawn_184 : decode cL_drawn 184 = .ok (.iconst 1, 1) := by decide +kernel
theorem dL_drawn_185 : decode cL_drawn 185 = .ok (.iushr, 1) := by decide +kernel
theorem dL_drawn_186 : decode cL_drawn 186 = .ok (.istore 6, 2) := by decide +kernel
theorem dL_drawn_188 : decode cL_drawn 188 = .ok (.aload_n 1, 1) := by decide +kernel
theorem dL_drawn_189 : decode cL_drawn 189 = .ok (.iload 6, 2) := by decide +kernel
theorem dL_drawn_191 : decode cL_drawn 191 = .ok (.iload_n 3, 1) := by decide +kernel
theorem dL_drawn_192 : decode cL_drawn 192 = .ok (.irem, 1) := by decide +kernel
theorem dL_drawn_193 : decode cL_drawn 193 = .ok (.iload 6, 2) := by decide +kernel
theorem dL_drawn_195 : decode cL_drawn 195 = .ok (.iconst 4, 1) := by decide +kernel
theorem dL_drawn_196 : decode cL_drawn 196 = .ok (.iushr, 1) := by decide +kernel
theorem dL_drawn_197 : decode cL_drawn 197 = .ok (.bipush 10, 2) := by decide +kernel
theorem dL_drawn_199 : decode cL_drawn 199 = .ok (.irem, 1) := by decide +kernel
theorem dL_drawn_200 : decode cL_drawn 200 = .ok (.invokestatic 204, 3) := by decide +kernel
theorem dL_drawn_203 : decode cL_drawn 203 = .ok (.iload 5, 2) := by decide +kernel
theorem dL_drawn_205 : decode cL_drawn 205 = .ok (.if_icmp .eq 5, 3) := by decide +kernel
theorem dL_drawn_208 : decode cL_drawn 208 = .ok (.aconst_null, 1) := by decide +kernel
theorem dL_drawn_209 : decode cL_drawn 209 = .ok (.areturn, 1) := by decide +kernel
theorem dL_drawn_210 : decode cL_drawn 210 = .ok (.iinc 5 1, 3) := by decide +kernel
theorem dL_drawn_213 : decode cL_drawn 213 = .ok (.goto (-45), 3) := by decide +kernel
theorem dL_drawn_216 : decode cL_drawn 216 = .ok (.iconst 0, 1) := by decide +kernel
theorem dL_drawn_217 : decode cL_drawn 217 = .ok (.istore 5, 2) := by decide +kernel
theorem dL_drawn_219 : decode cL_drawn 219 = .ok (.iload 5, 2) := by decide +kernel
theorem dL_drawn_221 : decode cL_drawn 221 = .ok (.bipush 14, 2) := by decide +kernel
theorem dL_drawn_223 : decode cL_drawn 223 = .ok (.if_icmp .ge 216, 3) := by decide +kernel
theorem dL_drawn_226 : decode cL_drawn 226 = .ok (.aload_n 0, 1) := by decide +kernel
theorem dL_drawn_227 : decode cL_drawn 227 = .ok (.bipush 18, 2) := by decide +kernel
theorem dL_drawn_229 : decode cL_drawn 229 = .ok (.iload 5, 2) := by decide +kernel
theorem dL_drawn_231 : decode cL_drawn 231 = .ok (.iadd, 1) := by decide +kernel
theorem dL_drawn_232 : decode cL_drawn 232 = .ok (.invokestatic 194, 3) := by decide +kernel
theorem dL_drawn_235 : decode cL_drawn 235 = .ok (.iconst 1, 1) := by decide +kernel
theorem dL_drawn_236 : decode cL_drawn 236 = .ok (.iushr, 1) := by decide +kernel
theorem dL_drawn_237 : decode cL_drawn 237 = .ok (.istore 6, 2) := by decide +kernel
theorem dL_drawn_239 : decode cL_drawn 239 = .ok (.iload 6, 2) := by decide +kernel
theorem dL_drawn_241 : decode cL_drawn 241 = .ok (.iconst 4, 1) := by decide +kernel
theorem dL_drawn_242 : decode cL_drawn 242 = .ok (.iushr, 1) := by decide +kernel
theorem dL_drawn_243 : decode cL_drawn 243 = .ok (.iload 4, 2) := by decide +kernel
theorem dL_drawn_245 : decode cL_drawn 245 = .ok (.irem, 1) := by decide +kernel
theorem dL_drawn_246 : decode cL_drawn 246 = .ok (.istore 7, 2) := by decide +kernel
theorem dL_drawn_248 : decode cL_drawn 248 = .ok (.iload 6, 2) := by decide +kernel
theorem dL_drawn_250 : decode cL_drawn 250 = .ok (.bipush 16, 2) := by decide +kernel
theorem dL_drawn_252 : decode cL_drawn 252 = .ok (.irem, 1) := by decide +kernel
theorem dL_drawn_253 : decode cL_drawn 253 = .ok (.istore 8, 2) := by decide +kernel
theorem dL_drawn_255 : decode cL_drawn 255 = .ok (.iload 6, 2) := by decide +kernel
theorem dL_drawn_257 : decode cL_drawn 257 = .ok (.bipush 8, 2) := by decide +kernel
theorem dL_drawn_259 : decode cL_drawn 259 = .ok (.iushr, 1) := by decide +kernel
theorem dL_drawn_260 : decode cL_drawn 260 = .ok (.iload_n 2, 1) := by decide +kernel
theorem dL_drawn_261 : decode cL_drawn 261 = .ok (.iconst 2, 1) := by decide +kernel
theorem dL_drawn_262 : decode cL_drawn 262 = .ok (.irem, 1) := by decide +kernel
theorem dL_drawn_263 : decode cL_drawn 263 = .ok (.ifCond .ne 8, 3) := by decide +kernel
theorem dL_drawn_266 : decode cL_drawn 266 = .ok (.bipush 12, 2) := by decide +kernel
theorem dL_drawn_268 : decode cL_drawn 268 = .ok (.goto 5, 3) := by decide +kernel
theorem dL_drawn_271 : decode cL_drawn 271 = .ok (.bipush 60, 2) := by decide +kernel
theorem dL_drawn_273 : decode cL_drawn 273 = .ok (.irem, 1) := by decide +kernel
theorem dL_drawn_274 : decode cL_drawn 274 = .ok (.istore 9, 2) := by decide +kernel
theorem dL_drawn_276 : decode cL_drawn 276 = .ok (.iload 8, 2) := by decide +kernel
theorem dL_drawn_278 : decode cL_drawn 278 = .ok (.bipush 8, 2) := by decide +kernel
theorem dL_drawn_280 : decode cL_drawn 280 = .ok (.if_icmp .ge 47, 3) := by decide +kernel
theorem dL_drawn_283 : decode cL_drawn 283 = .ok (.aload_n 1, 1) := by decide +kernel
theorem dL_drawn_284 : decode cL_drawn 284 = .ok (.iload 7, 2) := by decide +kernel
theorem dL_drawn_286 : decode cL_drawn 286 = .ok (.iload 6, 2) := by decide +kernel
theorem dL_drawn_288 : decode cL_drawn 288 = .ok (.bipush 8, 2) := by decide +kernel
theorem dL_drawn_290 : decode cL_drawn 290 = .ok (.iushr, 1) := by decide +kernel
theorem dL_drawn_291 : decode cL_drawn 291 = .ok (.iconst 4, 1) := by decide +kernel
theorem dL_drawn_292 : decode cL_drawn 292 = .ok (.irem, 1) := by decide +kernel
theorem dL_drawn_293 : decode cL_drawn 293 = .ok (.iload 6, 2) := by decide +kernel
theorem dL_drawn_295 : decode cL_drawn 295 = .ok (.bipush 10, 2) := by decide +kernel
theorem dL_drawn_297 : decode cL_drawn 297 = .ok (.iushr, 1) := by decide +kernel
theorem dL_drawn_298 : decode cL_drawn 298 = .ok (.iconst 4, 1) := by decide +kernel
theorem dL_drawn_299 : decode cL_drawn 299 = .ok (.irem, 1) := by decide +kernel
theorem dL_drawn_300 : decode cL_drawn 300 = .ok (.iconst 1, 1) := by decide +kernel
theorem dL_drawn_301 : decode cL_drawn 301 = .ok (.iload 6, 2) := by decide +kernel
theorem dL_drawn_303 : decode cL_drawn 303 = .ok (.bipush 12, 2) := by decide +kernel
theorem dL_drawn_305 : decode cL_drawn 305 = .ok (.iushr, 1) := by decide +kernel
theorem dL_drawn_306 : decode cL_drawn 306 = .ok (.iload_n 2, 1) := by decide +kernel
theorem dL_drawn_307 : decode cL_drawn 307 = .ok (.iconst 5, 1) := by decide +kernel
theorem dL_drawn_308 : decode cL_drawn 308 = .ok (.irem, 1) := by decide +kernel
theorem dL_drawn_309 : decode cL_drawn 309 = .ok (.ifCond .ne 8, 3) := by decide +kernel
theorem dL_drawn_312 : decode cL_drawn 312 = .ok (.bipush 40, 2) := by decide +kernel
theorem dL_drawn_314 : decode cL_drawn 314 = .ok (.goto 5, 3) := by decide +kernel
theorem dL_drawn_317 : decode cL_drawn 317 = .ok (.bipush 12, 2) := by decide +kernel
theorem dL_drawn_319 : decode cL_drawn 319 = .ok (.irem, 1) := by decide +kernel
theorem dL_drawn_320 : decode cL_drawn 320 = .ok (.iadd, 1) := by decide +kernel
theorem dL_drawn_321 : decode cL_drawn 321 = .ok (.invokestatic 207, 3) := by decide +kernel
theorem dL_drawn_324 : decode cL_drawn 324 = .ok (.goto 99, 3) := by decide +kernel
theorem dL_drawn_327 : decode cL_drawn 327 = .ok (.iload 8, 2) := by decide +kernel
theorem dL_drawn_329 : decode cL_drawn 329 = .ok (.bipush 12, 2) := by decide +kernel
theorem dL_drawn_331 : decode cL_drawn 331 = .ok (.if_icmp .ge 40, 3) := by decide +kernel
theorem dL_drawn_334 : decode cL_drawn 334 = .ok (.aload_n 1, 1) := by decide +kernel
theorem dL_drawn_335 : decode cL_drawn 335 = .ok (.iload 7, 2) := by decide +kernel
theorem dL_drawn_337 : decode cL_drawn 337 = .ok (.iload 9, 2) := by decide +kernel
theorem dL_drawn_339 : decode cL_drawn 339 = .ok (.bipush 99, 2) := by decide +kernel
theorem dL_drawn_341 : decode cL_drawn 341 = .ok (.iload 9, 2) := by decide +kernel
theorem dL_drawn_343 : decode cL_drawn 343 = .ok (.iload 6, 2) := by decide +kernel
theorem dL_drawn_345 : decode cL_drawn 345 = .ok (.bipush 16, 2) := by decide +kernel
theorem dL_drawn_347 : decode cL_drawn 347 = .ok (.iushr, 1) := by decide +kernel
theorem dL_drawn_348 : decode cL_drawn 348 = .ok (.bipush 6, 2) := by decide +kernel
theorem dL_drawn_350 : decode cL_drawn 350 = .ok (.irem, 1) := by decide +kernel
theorem dL_drawn_351 : decode cL_drawn 351 = .ok (.iadd, 1) := by decide +kernel
theorem dL_drawn_352 : decode cL_drawn 352 = .ok (.invokestatic 209, 3) := by decide +kernel
theorem dL_drawn_355 : decode cL_drawn 355 = .ok (.iconst 1, 1) := by decide +kernel
theorem dL_drawn_356 : decode cL_drawn 356 = .ok (.iload 6, 2) := by decide +kernel
theorem dL_drawn_358 : decode cL_drawn 358 = .ok (.bipush 20, 2) := by decide +kernel
theorem dL_drawn_360 : decode cL_drawn 360 = .ok (.iushr, 1) := by decide +kernel
theorem dL_drawn_361 : decode cL_drawn 361 = .ok (.bipush 30, 2) := by decide +kernel
theorem dL_drawn_363 : decode cL_drawn 363 = .ok (.irem, 1) := by decide +kernel
theorem dL_drawn_364 : decode cL_drawn 364 = .ok (.iadd, 1) := by decide +kernel
theorem dL_drawn_365 : decode cL_drawn 365 = .ok (.invokestatic 214, 3) := by decide +kernel
theorem dL_drawn_368 : decode cL_drawn 368 = .ok (.goto 55, 3) := by decide +kernel
theorem dL_drawn_371 : decode cL_drawn 371 = .ok (.iload 8, 2) := by decide +kernel
theorem dL_drawn_373 : decode cL_drawn 373 = .ok (.bipush 12, 2) := by decide +kernel
theorem dL_drawn_375 : decode cL_drawn 375 = .ok (.if_icmp .ne 12, 3) := by decide +kernel
theorem dL_drawn_378 : decode cL_drawn 378 = .ok (.aload_n 1, 1) := by decide +kernel
theorem dL_drawn_379 : decode cL_drawn 379 = .ok (.iload 7, 2) := by decide +kernel
theorem dL_drawn_381 : decode cL_drawn 381 = .ok (.invokestatic 216, 3) := by decide +kernel
theorem dL_drawn_384 : decode cL_drawn 384 = .ok (.goto 39, 3) := by decide +kernel
theorem dL_drawn_387 : decode cL_drawn 387 = .ok (.iload 8, 2) := by decide +kernel
theorem dL_drawn_389 : decode cL_drawn 389 = .ok (.bipush 13, 2) := by decide +kernel
theorem dL_drawn_391 : decode cL_drawn 391 = .ok (.if_icmp .ne 19, 3) := by decide +kernel
theorem dL_drawn_394 : decode cL_drawn 394 = .ok (.aload_n 1, 1) := by decide +kernel
theorem dL_drawn_395 : decode cL_drawn 395 = .ok (.iconst 1, 1) := by decide +kernel
theorem dL_drawn_396 : decode cL_drawn 396 = .ok (.iload 6, 2) := by decide +kernel
theorem dL_drawn_398 : decode cL_drawn 398 = .ok (.bipush 8, 2) := by decide +kernel
theorem dL_drawn_400 : decode cL_drawn 400 = .ok (.iushr, 1) := by decide +kernel
theorem dL_drawn_401 : decode cL_drawn 401 = .ok (.iconst 3, 1) := by decide +kernel
theorem dL_drawn_402 : decode cL_drawn 402 = .ok (.irem, 1) := by decide +kernel
theorem dL_drawn_403 : decode cL_drawn 403 = .ok (.iadd, 1) := by decide +kernel
theorem dL_drawn_404 : decode cL_drawn 404 = .ok (.invokestatic 219, 3) := by decide +kernel
theorem dL_drawn_407 : decode cL_drawn 407 = .ok (.goto 16, 3) := by decide +kernel
theorem dL_drawn_410 : decode cL_drawn 410 = .ok (.aload_n 1, 1) := by decide +kernel
theorem dL_drawn_411 : decode cL_drawn 411 = .ok (.iload 7, 2) := by decide +kernel
theorem dL_drawn_413 : decode cL_drawn 413 = .ok (.iload 6, 2) := by decide +kernel
theorem dL_drawn_415 : decode cL_drawn 415 = .ok (.bipush 8, 2) := by decide +kernel
theorem dL_drawn_417 : decode cL_drawn 417 = .ok (.iushr, 1) := by decide +kernel
theorem dL_drawn_418 : decode cL_drawn 418 = .ok (.iload_n 3, 1) := by decide +kernel
theorem dL_drawn_419 : decode cL_drawn 419 = .ok (.irem, 1) := by decide +kernel
theorem dL_drawn_420 : decode cL_drawn 420 = .ok (.invokestatic 222, 3) := by decide +kernel
theorem dL_drawn_423 : decode cL_drawn 423 = .ok (.istore 10, 2) := by decide +kernel
theorem dL_drawn_425 : decode cL_drawn 425 = .ok (.iload 10, 2) := by decide +kernel
theorem dL_drawn_427 : decode cL_drawn 427 = .ok (.iconst (-1), 1) := by decide +kernel
theorem dL_drawn_428 : decode cL_drawn 428 = .ok (.if_icmp .ne 5, 3) := by decide +kernel
theorem dL_drawn_431 : decode cL_drawn 431 = .ok (.aconst_null, 1) := by decide +kernel
theorem dL_drawn_432 : decode cL_drawn 432 = .ok (.areturn, 1) := by decide +kernel
theorem dL_drawn_433 : decode cL_drawn 433 = .ok (.iinc 5 1, 3) := by decide +kernel
theorem dL_drawn_436 : decode cL_drawn 436 = .ok (.goto (-217), 3) := by decide +kernel
theorem dL_drawn_439 : decode cL_drawn 439 = .ok (.aload_n 1, 1) := by decide +kernel
theorem dL_drawn_440 : decode cL_drawn 440 = .ok (.areturn, 1) := by decide +kernel
noncomputable def fL_drawn (N : Nat) (Z : Nat → Int32) (hs : List (Nat → Int32)) (L : Nat) (xs : Nat → Int32) (P : (Nat → Int32) → List (Nat → Int32) → Prop) (K κ0 : Nat) : Option Unit :=
  gd (κ0 ≤ K) <|
  gd (¬ (0 : Int32) < 0) <|
  lt (cellL L xs 0) fun v4 =>
  lt (((v4 : Int32).toUInt32 >>> ((1 : Int32).toUInt32 &&& Int32.toUInt32 31)).toInt32) fun v6 =>
  lt (1 + (v6 - v6 / 6 * 6)) fun v8 =>
  lt (1 + ((((v6 : Int32).toUInt32 >>> ((3 : Int32).toUInt32 &&& Int32.toUInt32 31)).toInt32) - (((v6 : Int32).toUInt32 >>> ((3 : Int32).toUInt32 &&& Int32.toUInt32 31)).toInt32) / 4 * 4)) fun v10 =>
  fix4 (fun self16 (x12 : Int32) (Z13 : Nat → Int32) (hs14 : List (Nat → Int32)) (κ15 : Nat) =>
  if v8 ≤ x12 then
  (fix4 (fun self23 (x19 : Int32) (Z20 : Nat → Int32) (hs21 : List (Nat → Int32)) (κ22 : Nat) =>
  jn (fun (Z25 : Nat → Int32) (hs26 : List (Nat → Int32)) (κ27 : Nat) =>
  fix4 (fun self35 (x31 : Int32) (Z32 : Nat → Int32) (hs33 : List (Nat → Int32)) (κ34 : Nat) =>
  if v10 ≤ x31 then
  (fix4 (fun self42 (x38 : Int32) (Z39 : Nat → Int32) (hs40 : List (Nat → Int32)) (κ41 : Nat) =>
  if 14 ≤ x38 then
  (gd (κ41 ≤ K) <|
  whn (P Z39 hs40))
  else (gd (κ41 ≤ K) <|
  gd (¬ (18 + x38) < 0) <|
  lt (cellL L xs (18 + x38)) fun v49 =>
  lt (((v49 : Int32).toUInt32 >>> ((1 : Int32).toUInt32 &&& Int32.toUInt32 31)).toInt32) fun v51 =>
  gd (¬ v10 = 0) <|
  lt ((((v51 : Int32).toUInt32 >>> ((4 : Int32).toUInt32 &&& Int32.toUInt32 31)).toInt32) - (((v51 : Int32).toUInt32 >>> ((4 : Int32).toUInt32 &&& Int32.toUInt32 31)).toInt32) / v10 * v10) fun v54 =>
  lt (v51 - v51 / 16 * 16) fun v56 =>
  jn (fun (y58 : Int32) (Z59 : Nat → Int32) (hs60 : List (Nat → Int32)) (κ61 : Nat) =>
  gd (¬ y58 = 0) <|
  lt ((((v51 : Int32).toUInt32 >>> ((8 : Int32).toUInt32 &&& Int32.toUInt32 31)).toInt32) - (((v51 : Int32).toUInt32 >>> ((8 : Int32).toUInt32 &&& Int32.toUInt32 31)).toInt32) / y58 * y58) fun v66 =>
  jn (fun (y68 : Int32) (Z69 : Nat → Int32) (hs70 : List (Nat → Int32)) (κ71 : Nat) =>
  if y68 = (-1) then
  (whn False)
  else (lt (x38 + 1) fun v76 =>
  self42 v76 Z69 hs70 κ71)) fun j72 =>
  if 8 ≤ v56 then
  (if 12 ≤ v56 then
  (if v56 = 12 then
  (gd ((κ61 + 1) ≤ K) <|
  chR (RCH Z59 hs60 (fun x => V_take Z59 v54 → x ≠ -1) (EK Z59)) fun x94 Z95 hs96 =>
  j72 x94 Z95 hs96 (κ61 + 1))
  else (if v56 = 13 then
  (gd ((κ61 + 1) ≤ K) <|
  chR (RCH Z59 hs60 (fun _ => ¬ V_pass Z59 (1 + ((((v51 : Int32).toUInt32 >>> ((8 : Int32).toUInt32 &&& Int32.toUInt32 31)).toInt32) - (((v51 : Int32).toUInt32 >>> ((8 : Int32).toUInt32 &&& Int32.toUInt32 31)).toInt32) / 3 * 3))) (EK Z59)) fun x89 Z90 hs91 =>
  j72 x89 Z90 hs91 (κ61 + 1))
  else (gd (¬ v8 = 0) <|
  gd ((κ61 + 1) ≤ K) <|
  chR (RCH Z59 hs60 (fun x => V_send Z59 v54 ((((v51 : Int32).toUInt32 >>> ((8 : Int32).toUInt32 &&& Int32.toUInt32 31)).toInt32) - (((v51 : Int32).toUInt32 >>> ((8 : Int32).toUInt32 &&& Int32.toUInt32 31)).toInt32) / v8 * v8) → x ≠ -1) (EK Z59)) fun x84 Z85 hs86 =>
  j72 x84 Z85 hs86 (κ61 + 1))))
  else (gd (κ61 ≤ K) <|
  gd ((κ61 + 1) ≤ K) <|
  chR (RCH Z59 hs60 (fun x => V_ask Z59 v54 v66 (imin 99 (v66 + ((((v51 : Int32).toUInt32 >>> ((16 : Int32).toUInt32 &&& Int32.toUInt32 31)).toInt32) - (((v51 : Int32).toUInt32 >>> ((16 : Int32).toUInt32 &&& Int32.toUInt32 31)).toInt32) / 6 * 6))) (1 + ((((v51 : Int32).toUInt32 >>> ((20 : Int32).toUInt32 &&& Int32.toUInt32 31)).toInt32) - (((v51 : Int32).toUInt32 >>> ((20 : Int32).toUInt32 &&& Int32.toUInt32 31)).toInt32) / 30 * 30)) → x ≠ -1) (EK Z59)) fun x100 Z101 hs102 =>
  j72 x100 Z101 hs102 (κ61 + 1)))
  else (jn (fun (y104 : Int32) (Z105 : Nat → Int32) (hs106 : List (Nat → Int32)) (κ107 : Nat) =>
  gd (¬ y104 = 0) <|
  gd ((κ107 + 1) ≤ K) <|
  chR (RCH Z105 hs106 (fun x => V_drop Z105 v54 ((((v51 : Int32).toUInt32 >>> ((8 : Int32).toUInt32 &&& Int32.toUInt32 31)).toInt32) - (((v51 : Int32).toUInt32 >>> ((8 : Int32).toUInt32 &&& Int32.toUInt32 31)).toInt32) / 4 * 4) ((((v51 : Int32).toUInt32 >>> ((10 : Int32).toUInt32 &&& Int32.toUInt32 31)).toInt32) - (((v51 : Int32).toUInt32 >>> ((10 : Int32).toUInt32 &&& Int32.toUInt32 31)).toInt32) / 4 * 4) (1 + ((((v51 : Int32).toUInt32 >>> ((12 : Int32).toUInt32 &&& Int32.toUInt32 31)).toInt32) - (((v51 : Int32).toUInt32 >>> ((12 : Int32).toUInt32 &&& Int32.toUInt32 31)).toInt32) / y104 * y104)) → x ≠ -1) (EK Z105)) fun x113 Z114 hs115 =>
  j72 x113 Z114 hs115 (κ107 + 1)) fun j108 =>
  if (v6 - v6 / 5 * 5) = 0 then
  (j108 40 Z59 hs60 κ61)
  else (j108 12 Z59 hs60 κ61))) fun j62 =>
  if (v6 - v6 / 2 * 2) = 0 then
  (j62 12 Z39 hs40 κ41)
  else (j62 60 Z39 hs40 κ41))) N 0 Z32 hs33 κ34)
  else (gd (κ34 ≤ K) <|
  gd (¬ (14 + x31) < 0) <|
  lt (cellL L xs (14 + x31)) fun v122 =>
  lt (((v122 : Int32).toUInt32 >>> ((1 : Int32).toUInt32 &&& Int32.toUInt32 31)).toInt32) fun v124 =>
  gd (¬ v8 = 0) <|
  gd ((κ34 + 1) ≤ K) <|
  chR (RCH Z32 hs33 (fun _ => ¬ V_addExhibit Z32 (v124 - v124 / v8 * v8) ((((v124 : Int32).toUInt32 >>> ((4 : Int32).toUInt32 &&& Int32.toUInt32 31)).toInt32) - (((v124 : Int32).toUInt32 >>> ((4 : Int32).toUInt32 &&& Int32.toUInt32 31)).toInt32) / 10 * 10)) (EE Z32)) fun x128 Z129 hs130 =>
  if x128 = x31 then
  (lt (x31 + 1) fun v133 =>
  self35 v133 Z129 hs130 (κ34 + 1))
  else (whn False))) N 0 Z25 hs26 κ27) fun j28 =>
  if 7 ≤ x19 then
  (j28 Z20 hs21 κ22)
  else (if v8 ≤ 1 then
  (j28 Z20 hs21 κ22)
  else (gd (κ22 ≤ K) <|
  gd (¬ (7 + x19) < 0) <|
  lt (cellL L xs (7 + x19)) fun v140 =>
  lt (((v140 : Int32).toUInt32 >>> ((1 : Int32).toUInt32 &&& Int32.toUInt32 31)).toInt32) fun v142 =>
  gd (¬ v8 = 0) <|
  lt (v142 - v142 / v8 * v8) fun v145 =>
  gd (¬ (v8 - 1) = 0) <|
  gd (¬ v8 = 0) <|
  jn (fun (y149 : Int32) (Z150 : Nat → Int32) (hs151 : List (Nat → Int32)) (κ152 : Nat) =>
  gd (¬ y149 = 0) <|
  gd ((κ152 + 1) ≤ K) <|
  chR (RCH Z150 hs151 (fun _ => ¬ V_setLeg Z150 v145 (((v145 + 1) + ((((v142 : Int32).toUInt32 >>> ((4 : Int32).toUInt32 &&& Int32.toUInt32 31)).toInt32) - (((v142 : Int32).toUInt32 >>> ((4 : Int32).toUInt32 &&& Int32.toUInt32 31)).toInt32) / (v8 - 1) * (v8 - 1))) - ((v145 + 1) + ((((v142 : Int32).toUInt32 >>> ((4 : Int32).toUInt32 &&& Int32.toUInt32 31)).toInt32) - (((v142 : Int32).toUInt32 >>> ((4 : Int32).toUInt32 &&& Int32.toUInt32 31)).toInt32) / (v8 - 1) * (v8 - 1))) / v8 * v8) (1 + ((((v142 : Int32).toUInt32 >>> ((8 : Int32).toUInt32 &&& Int32.toUInt32 31)).toInt32) - (((v142 : Int32).toUInt32 >>> ((8 : Int32).toUInt32 &&& Int32.toUInt32 31)).toInt32) / y149 * y149)) ((((v142 : Int32).toUInt32 >>> ((16 : Int32).toUInt32 &&& Int32.toUInt32 31)).toInt32) - (((v142 : Int32).toUInt32 >>> ((16 : Int32).toUInt32 &&& Int32.toUInt32 31)).toInt32) / 10 * 10)) (EK Z150)) fun x158 Z159 hs160 =>
  if 0 ≤ x158 then
  (lt (x19 + 1) fun v163 =>
  self23 v163 Z159 hs160 (κ152 + 1))
  else (whn False)) fun j153 =>
  if (v6 - v6 / 3 * 3) = 0 then
  (j153 99 Z20 hs21 κ22)
  else (j153 4 Z20 hs21 κ22)))) N 0 Z13 hs14 κ15)
  else (gd (κ15 ≤ K) <|
  gd (¬ (1 + x12) < 0) <|
  lt (cellL L xs (1 + x12)) fun v169 =>
  gd ((κ15 + 1) ≤ K) <|
  chR (RCH Z13 hs14 (fun _ => ¬ V_addRoom Z13 ((((v169 : Int32).toUInt32 >>> ((1 : Int32).toUInt32 &&& Int32.toUInt32 31)).toInt32) - (((v169 : Int32).toUInt32 >>> ((1 : Int32).toUInt32 &&& Int32.toUInt32 31)).toInt32) / 10 * 10)) (ER Z13)) fun x172 Z173 hs174 =>
  if x172 = x12 then
  (lt (x12 + 1) fun v177 =>
  self16 v177 Z173 hs174 (κ15 + 1))
  else (whn False))) N 0 Z hs κ0
abbrev rmL_drawn (K : Nat) : Room := { frames := 60, cells := K, slots := 6 * K, locals := 4000 }
set_option maxHeartbeats 8000000 in
set_option maxRecDepth 100000 in
theorem wL_drawn {l : Launch} {s0 : State} {b B : Nat} {D : va_G} {T : Nat → ClassId} (F : FX l s0 b D T B) {X : Nat → Prop} (hX : ∀ o, o < 561 → ¬ X (B + o)) {N : Nat} (hN : 1200000000000 ≤ N) {L : Nat} {xs : Nat → Int32} (hL : L ≤ 260) (hXs : va_X b L xs s0 s0.heap) (hbl : b < s0.heap.size) {t : List Nat} {K : Nat} {P : (Nat → Int32) → List (Nat → Int32) → Prop} {p : Program} {e : Env} {s : State} {m : MethodId} {args : Array Value} {below : List Frame} {meth : Method} {c : Code} {Q : State → Prop} (hx : p.tables.exec = Jvm.exec) (hb : c.code = cL_drawn) (hml : c.maxLocals = 11) (hk : KC s0 X s) (hC : gC p c cL_drawn s m args RL D vwCl (tysG T)) (hend : ∀ {Z2 : Nat → Int32} {hs2 : List (Nat → Int32)} {H : Heap} {locs : List Loc} {cells slots pc : Nat} {ls : Array Slot}, decode cL_drawn pc = .ok (.areturn, 1) → gZ s0 D T B X Z2 hs2 t H → P Z2 hs2 → va_S (gA B X) s.heap H locs → cells ≤ K → slots ≤ 6 * K → W p l e (rmL_drawn K) s m args below meth c H locs cells slots Q (F0 m pc ls [.ref (B + 0)])) {Z : Nat → Int32} {hs : List (Nat → Int32)} {κ0 : Nat} {r : Unit} (h : fL_drawn N Z hs L xs P K κ0 = some r) {H : Heap} {locs : List Loc} {ls : Array Slot} (hW : gZ s0 D T B X Z hs t H) (hS : va_S (gA B X) s.heap H locs) (hl : lv_has ls 11 [(0, .ref b), (1, .ref (B + 0))]) : W p l e (rmL_drawn K) s m args below meth c H locs κ0 (6 * κ0) Q (F0 m 8 ls []) := by
  unfold fL_drawn at h
  replace hW := gZL_nil hW
  refine lv_aload_n hx hb dL_drawn_8 rfl (lv_at hl 0 rfl) ?_
  refine lv_iconst (v := 0) hx hb dL_drawn_9 (by decide) ?_
  obtain ⟨g1, h⟩ := gd_out h
  obtain ⟨g3, h⟩ := gd_out h
  obtain ⟨v4, e5, h⟩ := lt_out h
  refine gk_in (As := [.ref b, .int 0]) F hX hk hC hml hS hW (fun _ => metL_cell F hXs hbl hL g3) ml_L_194 ⟨rfl, rfl, (by first | exact Nat.le_of_ble_eq_true rfl | (simp only [rmL_drawn]; omega) | (simp only [rmL_drawn]; omega)), (by first | exact Nat.le_of_ble_eq_true rfl | (simp only [rmL_drawn]; omega) | (simp only [rmL_drawn]; omega))⟩ rfl hl.1 rfl (by first | exact Nat.le_of_ble_eq_true rfl | (simp only [rmL_drawn]; omega) | (simp only [rmL_drawn]; omega)) dL_drawn_10 ⟨(by show _ ≤ K; omega), (by show _ ≤ 6 * K; omega)⟩ (fun H locs hW hS => ?_)
  change W p l e _ s m args below meth c H locs _ _ Q (F0 m _ ls (.int (cellL L xs 0) :: _))
  rw [← e5]
  refine lv_iconst (v := 1) hx hb dL_drawn_13 (by decide) ?_
  refine lv_iushr hx hb dL_drawn_14 rfl ?_
  obtain ⟨v6, e7, h⟩ := lt_out h
  rw [← e7]
  refine lv_istore_n (lv' := [(2, .int v6), (0, .ref b), (1, .ref (B + 0))]) hx hb dL_drawn_15 rfl hl (by decide) rfl (fun ls hl => ?_)
  refine lv_iconst (v := 1) hx hb dL_drawn_16 (by decide) ?_
  refine lv_iload_n hx hb dL_drawn_17 rfl (lv_at hl 0 rfl) ?_
  refine lv_bipush (v := 6) hx hb dL_drawn_18 (by decide) ?_
  refine lv_irem hx hb dL_drawn_20 (by decide) ?_
  refine lv_iadd hx hb dL_drawn_21 ?_
  obtain ⟨v8, e9, h⟩ := lt_out h
  rw [← e9]
  refine lv_istore_n (lv' := [(3, .int v8), (2, .int v6), (0, .ref b), (1, .ref (B + 0))]) hx hb dL_drawn_22 rfl hl (by decide) rfl (fun ls hl => ?_)
  refine lv_iconst (v := 1) hx hb dL_drawn_23 (by decide) ?_
  refine lv_iload_n hx hb dL_drawn_24 rfl (lv_at hl 1 rfl) ?_
  refine lv_iconst (v := 3) hx hb dL_drawn_25 (by decide) ?_
  refine lv_iushr hx hb dL_drawn_26 rfl ?_
  refine lv_iconst (v := 4) hx hb dL_drawn_27 (by decide) ?_
  refine lv_irem hx hb dL_drawn_28 (by decide) ?_
  refine lv_iadd hx hb dL_drawn_29 ?_
  obtain ⟨v10, e11, h⟩ := lt_out h
  rw [← e11]
  refine lv_istore (lv' := [(4, .int v10), (3, .int v8), (2, .int v6), (0, .ref b), (1, .ref (B + 0))]) hx hb dL_drawn_30 hl (by decide) rfl (fun ls hl => ?_)
  refine lv_iconst (v := 0) hx hb dL_drawn_32 (by decide) ?_
  refine lv_istore (lv' := [(5, .int 0), (4, .int v10), (3, .int v8), (2, .int v6), (0, .ref b), (1, .ref (B + 0))]) hx hb dL_drawn_33 hl (by decide) rfl (fun ls hl => ?_)
  refine W.widen (k := κ0) (n := 6 * κ0) (by omega) (by omega) ?_
  refine fix4_ind (fun (x12 : Int32) (Z13 : Nat → Int32) (hs14 : List (Nat → Int32)) (κ15 : Nat) => ∀ (H : Heap) (locs : List Loc) (ls : Array Slot), gZL s0 D T B X Z13 hs14 t [] [] H → va_S (gA B X) s.heap H locs → lv_has ls 11 [(0, .ref b), (1, .ref (B + 0)), (2, .int v6), (3, .int v8), (4, .int v10), (5, .int x12)] → W p l e (rmL_drawn K) s m args below meth c H locs κ15 (6 * κ15) Q (F0 m 35 ls [])) ?_ N _ _ _ _ h _ _ _ hW hS (lv_sub hl [4, 5, 3, 2, 1, 0] rfl)
  clear h hW hS hl
  intro self16 IH17 x12 Z13 hs14 κ15 h H locs ls hW hS hl
  refine lv_iload hx hb dL_drawn_35 (lv_at hl 5 rfl) ?_
  refine lv_iload_n hx hb dL_drawn_37 rfl (lv_at hl 3 rfl) ?_
  refine lv_icmp_ge (tgt := 71) hx hb dL_drawn_38 (by decide) (fun c18 => ?_) (fun c18 => ?_)
  · replace h := ite_t c18 h
    refine lv_iconst (v := 0) hx hb dL_drawn_71 (by decide) ?_
    refine lv_istore (lv' := [(5, .int 0), (0, .ref b), (1, .ref (B + 0)), (2, .int v6), (3, .int v8), (4, .int v10)]) hx hb dL_drawn_72 hl (by decide) rfl (fun ls hl => ?_)
    refine W.widen (k := κ15) (n := 6 * κ15) (by omega) (by omega) ?_
    refine fix4_ind (fun (x19 : Int32) (Z20 : Nat → Int32) (hs21 : List (Nat → Int32)) (κ22 : Nat) => ∀ (H : Heap) (locs : List Loc) (ls : Array Slot), gZL s0 D T B X Z20 hs21 t [] [] H → va_S (gA B X) s.heap H locs → lv_has ls 11 [(0, .ref b), (1, .ref (B + 0)), (2, .int v6), (3, .int v8), (4, .int v10), (5, .int x19)] → W p l e (rmL_drawn K) s m args below meth c H locs κ22 (6 * κ22) Q (F0 m 74 ls [])) ?_ N _ _ _ _ h _ _ _ hW hS (lv_sub hl [1, 2, 3, 4, 5, 0] rfl)
    clear h hW hS hl
    intro self23 IH24 x19 Z20 hs21 κ22 h H locs ls hW hS hl
    refine lv_iload hx hb dL_drawn_74 (lv_at hl 5 rfl) ?_
    refine lv_bipush (v := 7) hx hb dL_drawn_76 (by decide) ?_
    obtain ⟨j28, hj30, h⟩ := jn3_o h
    have J29 : ∀ (Z25 : Nat → Int32) (hs26 : List (Nat → Int32)) (κ27 : Nat), j28 Z25 hs26 κ27 = some r → ∀ (H : Heap) (locs : List Loc) (ls : Array Slot), gZL s0 D T B X Z25 hs26 t [] [] H → va_S (gA B X) s.heap H locs → lv_has ls 11 [(0, .ref b), (1, .ref (B + 0)), (2, .int v6), (3, .int v8), (4, .int v10)] → W p l e (rmL_drawn K) s m args below meth c H locs κ27 (6 * κ27) Q (F0 m 165 ls []) := by
      clear h hW hS hl
      intro Z25 hs26 κ27 h H locs ls hW hS hl
      replace h := (hj30 Z25 hs26 κ27).symm.trans h
      refine lv_iconst (v := 0) hx hb dL_drawn_165 (by decide) ?_
      refine lv_istore (lv' := [(5, .int 0), (0, .ref b), (1, .ref (B + 0)), (2, .int v6), (3, .int v8), (4, .int v10)]) hx hb dL_drawn_166 hl (by decide) rfl (fun ls hl => ?_)
      refine W.widen (k := κ27) (n := 6 * κ27) (by omega) (by omega) ?_
      refine fix4_ind (fun (x31 : Int32) (Z32 : Nat → Int32) (hs33 : List (Nat → Int32)) (κ34 : Nat) => ∀ (H : Heap) (locs : List Loc) (ls : Array Slot), gZL s0 D T B X Z32 hs33 t [] [] H → va_S (gA B X) s.heap H locs → lv_has ls 11 [(0, .ref b), (1, .ref (B + 0)), (2, .int v6), (3, .int v8), (4, .int v10), (5, .int x31)] → W p l e (rmL_drawn K) s m args below meth c H locs κ34 (6 * κ34) Q (F0 m 168 ls [])) ?_ N _ _ _ _ h _ _ _ hW hS (lv_sub hl [1, 2, 3, 4, 5, 0] rfl)
      clear h hW hS hl
      intro self35 IH36 x31 Z32 hs33 κ34 h H locs ls hW hS hl
      refine lv_iload hx hb dL_drawn_168 (lv_at hl 5 rfl) ?_
      refine lv_iload hx hb dL_drawn_170 (lv_at hl 4 rfl) ?_
      refine lv_icmp_ge (tgt := 216) hx hb dL_drawn_172 (by decide) (fun c37 => ?_) (fun c37 => ?_)
      · replace h := ite_t c37 h
        refine lv_iconst (v := 0) hx hb dL_drawn_216 (by decide) ?_
        refine lv_istore (lv' := [(5, .int 0), (0, .ref b), (1, .ref (B + 0)), (2, .int v6), (3, .int v8), (4, .int v10)]) hx hb dL_drawn_217 hl (by decide) rfl (fun ls hl => ?_)
        refine W.widen (k := κ34) (n := 6 * κ34) (by omega) (by omega) ?_
        refine fix4_ind (fun (x38 : Int32) (Z39 : Nat → Int32) (hs40 : List (Nat → Int32)) (κ41 : Nat) => ∀ (H : Heap) (locs : List Loc) (ls : Array Slot), gZL s0 D T B X Z39 hs40 t [] [] H → va_S (gA B X) s.heap H locs → lv_has ls 11 [(0, .ref b), (1, .ref (B + 0)), (2, .int v6), (3, .int v8), (4, .int v10), (5, .int x38)] → W p l e (rmL_drawn K) s m args below meth c H locs κ41 (6 * κ41) Q (F0 m 219 ls [])) ?_ N _ _ _ _ h _ _ _ hW hS (lv_sub hl [1, 2, 3, 4, 5, 0] rfl)
        clear h hW hS hl
        intro self42 IH43 x38 Z39 hs40 κ41 h H locs ls hW hS hl
        refine lv_iload hx hb dL_drawn_219 (lv_at hl 5 rfl) ?_
        refine lv_bipush (v := 14) hx hb dL_drawn_221 (by decide) ?_
        refine lv_icmp_ge (tgt := 439) hx hb dL_drawn_223 (by decide) (fun c44 => ?_) (fun c44 => ?_)
        · replace h := ite_t c44 h
          refine lv_aload_n hx hb dL_drawn_439 rfl (lv_at hl 1 rfl) ?_
          obtain ⟨g45, h⟩ := gd_out h
          exact hend dL_drawn_440 (gZL_out hW) (whn_out h) hS (by omega) (by omega)
        · replace h := ite_f c44 h
          refine lv_aload_n hx hb dL_drawn_226 rfl (lv_at hl 0 rfl) ?_
          refine lv_bipush (v := 18) hx hb dL_drawn_227 (by decide) ?_
          refine lv_iload hx hb dL_drawn_229 (lv_at hl 5 rfl) ?_
          refine lv_iadd hx hb dL_drawn_231 ?_
          obtain ⟨g46, h⟩ := gd_out h
          obtain ⟨g48, h⟩ := gd_out h
          obtain ⟨v49, e50, h⟩ := lt_out h
          refine gk_in (As := [.ref b, .int (18 + x38)]) F hX hk hC hml hS hW (fun _ => metL_cell F hXs hbl hL g48) ml_L_194 ⟨rfl, rfl, (by first | exact Nat.le_of_ble_eq_true rfl | (simp only [rmL_drawn]; omega) | (simp only [rmL_drawn]; omega)), (by first | exact Nat.le_of_ble_eq_true rfl | (simp only [rmL_drawn]; omega) | (simp only [rmL_drawn]; omega))⟩ rfl hl.1 rfl (by first | exact Nat.le_of_ble_eq_true rfl | (simp only [rmL_drawn]; omega) | (simp only [rmL_drawn]; omega)) dL_drawn_232 ⟨(by show _ ≤ K; omega), (by show _ ≤ 6 * K; omega)⟩ (fun H locs hW hS => ?_)
          change W p l e _ s m args below meth c H locs _ _ Q (F0 m _ ls (.int (cellL L xs (18 + x38)) :: _))
          rw [← e50]
          refine lv_iconst (v := 1) hx hb dL_drawn_235 (by decide) ?_
          refine lv_iushr hx hb dL_drawn_236 rfl ?_
          obtain ⟨v51, e52, h⟩ := lt_out h
          rw [← e52]
          refine lv_istore (lv' := [(6, .int v51), (0, .ref b), (1, .ref (B + 0)), (2, .int v6), (3, .int v8), (4, .int v10), (5, .int x38)]) hx hb dL_drawn_237 hl (by decide) rfl (fun ls hl => ?_)
          refine lv_iload hx hb dL_drawn_239 (lv_at hl 0 rfl) ?_
          refine lv_iconst (v := 4) hx hb dL_drawn_241 (by decide) ?_
          refine lv_iushr hx hb dL_drawn_242 rfl ?_
          refine lv_iload hx hb dL_drawn_243 (lv_at hl 5 rfl) ?_
          obtain ⟨c53, h⟩ := gd_out h
          refine lv_irem hx hb dL_drawn_245 c53 ?_
          obtain ⟨v54, e55, h⟩ := lt_out h
          rw [← e55]
          refine lv_istore (lv' := [(7, .int v54), (6, .int v51), (0, .ref b), (1, .ref (B + 0)), (2, .int v6), (3, .int v8), (4, .int v10), (5, .int x38)]) hx hb dL_drawn_246 hl (by decide) rfl (fun ls hl => ?_)
          refine lv_iload hx hb dL_drawn_248 (lv_at hl 1 rfl) ?_
          refine lv_bipush (v := 16) hx hb dL_drawn_250 (by decide) ?_
          refine lv_irem hx hb dL_drawn_252 (by decide) ?_
          obtain ⟨v56, e57, h⟩ := lt_out h
          rw [← e57]
          refine lv_istore (lv' := [(8, .int v56), (7, .int v54), (6, .int v51), (0, .ref b), (1, .ref (B + 0)), (2, .int v6), (3, .int v8), (4, .int v10), (5, .int x38)]) hx hb dL_drawn_253 hl (by decide) rfl (fun ls hl => ?_)
          refine lv_iload hx hb dL_drawn_255 (lv_at hl 2 rfl) ?_
          refine lv_bipush (v := 8) hx hb dL_drawn_257 (by decide) ?_
          refine lv_iushr hx hb dL_drawn_259 rfl ?_
          refine lv_iload_n hx hb dL_drawn_260 rfl (lv_at hl 5 rfl) ?_
          refine lv_iconst (v := 2) hx hb dL_drawn_261 (by decide) ?_
          refine lv_irem hx hb dL_drawn_262 (by decide) ?_
          obtain ⟨j62, hj64, h⟩ := jn4_o h
          have J63 : ∀ (y58 : Int32) (Z59 : Nat → Int32) (hs60 : List (Nat → Int32)) (κ61 : Nat), j62 y58 Z59 hs60 κ61 = some r → ∀ (H : Heap) (locs : List Loc) (ls : Array Slot), gZL s0 D T B X Z59 hs60 t [] [] H → va_S (gA B X) s.heap H locs → lv_has ls 11 [(0, .ref b), (1, .ref (B + 0)), (2, .int v6), (3, .int v8), (4, .int v10), (5, .int x38), (6, .int v51), (7, .int v54), (8, .int v56)] → W p l e (rmL_drawn K) s m args below meth c H locs κ61 (6 * κ61) Q (F0 m 273 ls [.int y58, .int (((v51 : Int32).toUInt32 >>> ((8 : Int32).toUInt32 &&& Int32.toUInt32 31)).toInt32)]) := by
            clear h hW hS hl
            intro y58 Z59 hs60 κ61 h H locs ls hW hS hl
            replace h := (hj64 y58 Z59 hs60 κ61).symm.trans h
            obtain ⟨c65, h⟩ := gd_out h
            refine lv_irem hx hb dL_drawn_273 c65 ?_
            obtain ⟨v66, e67, h⟩ := lt_out h
            rw [← e67]
            refine lv_istore (lv' := [(9, .int v66), (0, .ref b), (1, .ref (B + 0)), (2, .int v6), (3, .int v8), (4, .int v10), (5, .int x38), (6, .int v51), (7, .int v54), (8, .int v56)]) hx hb dL_drawn_274 hl (by decide) rfl (fun ls hl => ?_)
            refine lv_iload hx hb dL_drawn_276 (lv_at hl 9 rfl) ?_
            refine lv_bipush (v := 8) hx hb dL_drawn_278 (by decide) ?_
            obtain ⟨j72, hj74, h⟩ := jn4_o h
            have J73 : ∀ (y68 : Int32) (Z69 : Nat → Int32) (hs70 : List (Nat → Int32)) (κ71 : Nat), j72 y68 Z69 hs70 κ71 = some r → ∀ (H : Heap) (locs : List Loc) (ls : Array Slot), gZL s0 D T B X Z69 hs70 t [] [] H → va_S (gA B X) s.heap H locs → lv_has ls 11 [(0, .ref b), (1, .ref (B + 0)), (2, .int v6), (3, .int v8), (4, .int v10), (5, .int x38)] → W p l e (rmL_drawn K) s m args below meth c H locs κ71 (6 * κ71) Q (F0 m 423 ls [.int y68]) := by
              clear h hW hS hl
              intro y68 Z69 hs70 κ71 h H locs ls hW hS hl
              replace h := (hj74 y68 Z69 hs70 κ71).symm.trans h
              refine lv_istore (lv' := [(10, .int y68), (0, .ref b), (1, .ref (B + 0)), (2, .int v6), (3, .int v8), (4, .int v10), (5, .int x38)]) hx hb dL_drawn_423 hl (by decide) rfl (fun ls hl => ?_)
              refine lv_iload hx hb dL_drawn_425 (lv_at hl 0 rfl) ?_
              refine lv_iconst (v := (-1)) hx hb dL_drawn_427 (by decide) ?_
              refine lv_icmp_ne (tgt := 433) hx hb dL_drawn_428 (by decide) (fun c75 => ?_) (fun c75 => ?_)
              · replace h := ite_f c75 h
                obtain ⟨v76, e77, h⟩ := lt_out h
                refine lv_iinc (v := v76) (lv' := [(5, .int v76), (10, .int y68), (0, .ref b), (1, .ref (B + 0)), (2, .int v6), (3, .int v8), (4, .int v10)]) hx hb dL_drawn_433 hl (k := 6) rfl (by rw [e77]; rfl) (by decide) rfl (fun ls hl => ?_)
                refine lv_goto (tgt := 219) hx hb dL_drawn_436 (by decide) ?_
                refine W.widen (k := κ71) (n := 6 * κ71) (by omega) (by omega) ?_
                exact IH43 _ _ _ _ h _ _ _ hW hS (lv_sub hl [2, 3, 4, 5, 6, 0] rfl)
              · replace h := ite_t c75 h
                exact (whn_out h).elim
            refine lv_icmp_ge (tgt := 327) hx hb dL_drawn_280 (by decide) (fun c78 => ?_) (fun c78 => ?_)
            · replace h := ite_t c78 h
              refine lv_iload hx hb dL_drawn_327 (lv_at hl 9 rfl) ?_
              refine lv_bipush (v := 12) hx hb dL_drawn_329 (by decide) ?_
              refine lv_icmp_ge (tgt := 371) hx hb dL_drawn_331 (by decide) (fun c79 => ?_) (fun c79 => ?_)
              · replace h := ite_t c79 h
                refine lv_iload hx hb dL_drawn_371 (lv_at hl 9 rfl) ?_
                refine lv_bipush (v := 12) hx hb dL_drawn_373 (by decide) ?_
                refine lv_icmp_ne (tgt := 387) hx hb dL_drawn_375 (by decide) (fun c80 => ?_) (fun c80 => ?_)
                · replace h := ite_f c80 h
                  refine lv_iload hx hb dL_drawn_387 (lv_at hl 9 rfl) ?_
                  refine lv_bipush (v := 13) hx hb dL_drawn_389 (by decide) ?_
                  refine lv_icmp_ne (tgt := 410) hx hb dL_drawn_391 (by decide) (fun c81 => ?_) (fun c81 => ?_)
                  · replace h := ite_f c81 h
                    refine lv_aload_n hx hb dL_drawn_410 rfl (lv_at hl 2 rfl) ?_
                    refine lv_iload hx hb dL_drawn_411 (lv_at hl 8 rfl) ?_
                    refine lv_iload hx hb dL_drawn_413 (lv_at hl 7 rfl) ?_
                    refine lv_bipush (v := 8) hx hb dL_drawn_415 (by decide) ?_
                    refine lv_iushr hx hb dL_drawn_417 rfl ?_
                    refine lv_iload_n hx hb dL_drawn_418 rfl (lv_at hl 4 rfl) ?_
                    obtain ⟨c82, h⟩ := gd_out h
                    refine lv_irem hx hb dL_drawn_419 c82 ?_
                    obtain ⟨g83, h⟩ := gd_out h
                    have hsi := (gZ_si (gZL_out hW)).1
                    refine gz_wrS (As := [.ref (B + 0), .int v54, .int ((((v51 : Int32).toUInt32 >>> ((8 : Int32).toUInt32 &&& Int32.toUInt32 31)).toInt32) - (((v51 : Int32).toUInt32 >>> ((8 : Int32).toUInt32 &&& Int32.toUInt32 31)).toInt32) / v8 * v8)]) F hk hC hml hS (gZL_out hW) (mv_send F hX hN hsi) mw_L_222 ⟨rfl, rfl, (by first | exact Nat.le_of_ble_eq_true rfl | (simp only [rmL_drawn]; omega) | (simp only [rmL_drawn]; omega)), (by first | exact Nat.le_of_ble_eq_true rfl | (simp only [rmL_drawn]; omega) | (simp only [rmL_drawn]; omega))⟩ rfl hl.1 rfl (by first | exact Nat.le_of_ble_eq_true rfl | (simp only [rmL_drawn]; omega) | (simp only [rmL_drawn]; omega)) dL_drawn_420 ⟨(by show _ ≤ K; omega), (by show _ ≤ 6 * K; omega)⟩ (fun Z85 hs86 t9 out87 H locs hS2 hW hS => ?_)
                    refine W.widen (k := (κ61 + 1)) (n := 6 * (κ61 + 1)) (by omega) (by omega) ?_
                    obtain ⟨hR9, hW⟩ := rr_send hsi hS2 hW
                    replace h := chR_out h hR9
                    generalize wr _ out87 = x84 at h ⊢
                    clear hS2 hR9 hsi
                    replace hW := gZL_nil hW
                    refine W.widen (k := (κ61 + 1)) (n := 6 * (κ61 + 1)) (by omega) (by omega) ?_
                    exact J73 _ _ _ _ h _ _ _ hW hS (lv_sub hl [1, 2, 3, 4, 5, 6] rfl)
                  · replace h := ite_t c81 h
                    refine lv_aload_n hx hb dL_drawn_394 rfl (lv_at hl 2 rfl) ?_
                    refine lv_iconst (v := 1) hx hb dL_drawn_395 (by decide) ?_
                    refine lv_iload hx hb dL_drawn_396 (lv_at hl 7 rfl) ?_
                    refine lv_bipush (v := 8) hx hb dL_drawn_398 (by decide) ?_
                    refine lv_iushr hx hb dL_drawn_400 rfl ?_
                    refine lv_iconst (v := 3) hx hb dL_drawn_401 (by decide) ?_
                    refine lv_irem hx hb dL_drawn_402 (by decide) ?_
                    refine lv_iadd hx hb dL_drawn_403 ?_
                    obtain ⟨g88, h⟩ := gd_out h
                    have hsi := (gZ_si (gZL_out hW)).1
                    refine gz_wrS (As := [.ref (B + 0), .int (1 + ((((v51 : Int32).toUInt32 >>> ((8 : Int32).toUInt32 &&& Int32.toUInt32 31)).toInt32) - (((v51 : Int32).toUInt32 >>> ((8 : Int32).toUInt32 &&& Int32.toUInt32 31)).toInt32) / 3 * 3))]) F hk hC hml hS (gZL_out hW) (mv_pass F hX hN hsi) mw_L_219 ⟨rfl, rfl, (by first | exact Nat.le_of_ble_eq_true rfl | (simp only [rmL_drawn]; omega) | (simp only [rmL_drawn]; omega)), (by first | exact Nat.le_of_ble_eq_true rfl | (simp only [rmL_drawn]; omega) | (simp only [rmL_drawn]; omega))⟩ rfl hl.1 rfl (by first | exact Nat.le_of_ble_eq_true rfl | (simp only [rmL_drawn]; omega) | (simp only [rmL_drawn]; omega)) dL_drawn_404 ⟨(by show _ ≤ K; omega), (by show _ ≤ 6 * K; omega)⟩ (fun Z90 hs91 t9 out92 H locs hS2 hW hS => ?_)
                    refine W.widen (k := (κ61 + 1)) (n := 6 * (κ61 + 1)) (by omega) (by omega) ?_
                    obtain ⟨hR9, hW⟩ := rr_pass hsi hS2 hW
                    replace h := chR_out h hR9
                    generalize wr _ out92 = x89 at h ⊢
                    clear hS2 hR9 hsi
                    replace hW := gZL_nil hW
                    refine lv_goto (tgt := 423) hx hb dL_drawn_407 (by decide) ?_
                    refine W.widen (k := (κ61 + 1)) (n := 6 * (κ61 + 1)) (by omega) (by omega) ?_
                    exact J73 _ _ _ _ h _ _ _ hW hS (lv_sub hl [1, 2, 3, 4, 5, 6] rfl)
                · replace h := ite_t c80 h
                  refine lv_aload_n hx hb dL_drawn_378 rfl (lv_at hl 2 rfl) ?_
                  refine lv_iload hx hb dL_drawn_379 (lv_at hl 8 rfl) ?_
                  obtain ⟨g93, h⟩ := gd_out h
                  have hsi := (gZ_si (gZL_out hW)).1
                  refine gz_wrS (As := [.ref (B + 0), .int v54]) F hk hC hml hS (gZL_out hW) (mv_take F hX hN hsi) mw_L_216 ⟨rfl, rfl, (by first | exact Nat.le_of_ble_eq_true rfl | (simp only [rmL_drawn]; omega) | (simp only [rmL_drawn]; omega)), (by first | exact Nat.le_of_ble_eq_true rfl | (simp only [rmL_drawn]; omega) | (simp only [rmL_drawn]; omega))⟩ rfl hl.1 rfl (by first | exact Nat.le_of_ble_eq_true rfl | (simp only [rmL_drawn]; omega) | (simp only [rmL_drawn]; omega)) dL_drawn_381 ⟨(by show _ ≤ K; omega), (by show _ ≤ 6 * K; omega)⟩ (fun Z95 hs96 t9 out97 H locs hS2 hW hS => ?_)
                  refine W.widen (k := (κ61 + 1)) (n := 6 * (κ61 + 1)) (by omega) (by omega) ?_
                  obtain ⟨hR9, hW⟩ := rr_take hsi hS2 hW
                  replace h := chR_out h hR9
                  generalize wr _ out97 = x94 at h ⊢
                  clear hS2 hR9 hsi
                  replace hW := gZL_nil hW
                  refine lv_goto (tgt := 423) hx hb dL_drawn_384 (by decide) ?_
                  refine W.widen (k := (κ61 + 1)) (n := 6 * (κ61 + 1)) (by omega) (by omega) ?_
                  exact J73 _ _ _ _ h _ _ _ hW hS (lv_sub hl [1, 2, 3, 4, 5, 6] rfl)
              · replace h := ite_f c79 h
                refine lv_aload_n hx hb dL_drawn_334 rfl (lv_at hl 2 rfl) ?_
                refine lv_iload hx hb dL_drawn_335 (lv_at hl 8 rfl) ?_
                refine lv_iload hx hb dL_drawn_337 (lv_at hl 0 rfl) ?_
                refine lv_bipush (v := 99) hx hb dL_drawn_339 (by decide) ?_
                refine lv_iload hx hb dL_drawn_341 (lv_at hl 0 rfl) ?_
                refine lv_iload hx hb dL_drawn_343 (lv_at hl 7 rfl) ?_
                refine lv_bipush (v := 16) hx hb dL_drawn_345 (by decide) ?_
                refine lv_iushr hx hb dL_drawn_347 rfl ?_
                refine lv_bipush (v := 6) hx hb dL_drawn_348 (by decide) ?_
                refine lv_irem hx hb dL_drawn_350 (by decide) ?_
                refine lv_iadd hx hb dL_drawn_351 ?_
                obtain ⟨g98, h⟩ := gd_out h
                refine gw_min hC (hml.trans hl.1.symm) lm_L_209 lb_min.1 lb_min.2.1 lb_min.2.2 (by first | exact Nat.le_of_ble_eq_true rfl | (simp only [rmL_drawn]; omega) | (simp only [rmL_drawn]; omega)) (by first | exact Nat.le_of_ble_eq_true rfl | (simp only [rmL_drawn]; omega) | (simp only [rmL_drawn]; omega)) (by show _ ≤ K; omega) (by show _ ≤ 6 * K; omega) dL_drawn_352 ?_
                refine lv_iconst (v := 1) hx hb dL_drawn_355 (by decide) ?_
                refine lv_iload hx hb dL_drawn_356 (lv_at hl 7 rfl) ?_
                refine lv_bipush (v := 20) hx hb dL_drawn_358 (by decide) ?_
                refine lv_iushr hx hb dL_drawn_360 rfl ?_
                refine lv_bipush (v := 30) hx hb dL_drawn_361 (by decide) ?_
                refine lv_irem hx hb dL_drawn_363 (by decide) ?_
                refine lv_iadd hx hb dL_drawn_364 ?_
                obtain ⟨g99, h⟩ := gd_out h
                have hsi := (gZ_si (gZL_out hW)).1
                refine gz_wrS (As := [.ref (B + 0), .int v54, .int v66, .int (imin 99 (v66 + ((((v51 : Int32).toUInt32 >>> ((16 : Int32).toUInt32 &&& Int32.toUInt32 31)).toInt32) - (((v51 : Int32).toUInt32 >>> ((16 : Int32).toUInt32 &&& Int32.toUInt32 31)).toInt32) / 6 * 6))), .int (1 + ((((v51 : Int32).toUInt32 >>> ((20 : Int32).toUInt32 &&& Int32.toUInt32 31)).toInt32) - (((v51 : Int32).toUInt32 >>> ((20 : Int32).toUInt32 &&& Int32.toUInt32 31)).toInt32) / 30 * 30))]) F hk hC hml hS (gZL_out hW) (mv_ask F hX hN hsi) mw_L_214 ⟨rfl, rfl, (by first | exact Nat.le_of_ble_eq_true rfl | (simp only [rmL_drawn]; omega) | (simp only [rmL_drawn]; omega)), (by first | exact Nat.le_of_ble_eq_true rfl | (simp only [rmL_drawn]; omega) | (simp only [rmL_drawn]; omega))⟩ rfl hl.1 rfl (by first | exact Nat.le_of_ble_eq_true rfl | (simp only [rmL_drawn]; omega) | (simp only [rmL_drawn]; omega)) dL_drawn_365 ⟨(by show _ ≤ K; omega), (by show _ ≤ 6 * K; omega)⟩ (fun Z101 hs102 t9 out103 H locs hS2 hW hS => ?_)
                refine W.widen (k := (κ61 + 1)) (n := 6 * (κ61 + 1)) (by omega) (by omega) ?_
                obtain ⟨hR9, hW⟩ := rr_ask hsi hS2 hW
                replace h := chR_out h hR9
                generalize wr _ out103 = x100 at h ⊢
                clear hS2 hR9 hsi
                replace hW := gZL_nil hW
                refine lv_goto (tgt := 423) hx hb dL_drawn_368 (by decide) ?_
                refine W.widen (k := (κ61 + 1)) (n := 6 * (κ61 + 1)) (by omega) (by omega) ?_
                exact J73 _ _ _ _ h _ _ _ hW hS (lv_sub hl [1, 2, 3, 4, 5, 6] rfl)
            · replace h := ite_f c78 h
              refine lv_aload_n hx hb dL_drawn_283 rfl (lv_at hl 2 rfl) ?_
              refine lv_iload hx hb dL_drawn_284 (lv_at hl 8 rfl) ?_
              refine lv_iload hx hb dL_drawn_286 (lv_at hl 7 rfl) ?_
              refine lv_bipush (v := 8) hx hb dL_drawn_288 (by decide) ?_
              refine lv_iushr hx hb dL_drawn_290 rfl ?_
              refine lv_iconst (v := 4) hx hb dL_drawn_291 (by decide) ?_
              refine lv_irem hx hb dL_drawn_292 (by decide) ?_
              refine lv_iload hx hb dL_drawn_293 (lv_at hl 7 rfl) ?_
              refine lv_bipush (v := 10) hx hb dL_drawn_295 (by decide) ?_
              refine lv_iushr hx hb dL_drawn_297 rfl ?_
              refine lv_iconst (v := 4) hx hb dL_drawn_298 (by decide) ?_
              refine lv_irem hx hb dL_drawn_299 (by decide) ?_
              refine lv_iconst (v := 1) hx hb dL_drawn_300 (by decide) ?_
              refine lv_iload hx hb dL_drawn_301 (lv_at hl 7 rfl) ?_
              refine lv_bipush (v := 12) hx hb dL_drawn_303 (by decide) ?_
              refine lv_iushr hx hb dL_drawn_305 rfl ?_
              refine lv_iload_n hx hb dL_drawn_306 rfl (lv_at hl 3 rfl) ?_
              refine lv_iconst (v := 5) hx hb dL_drawn_307 (by decide) ?_
              refine lv_irem hx hb dL_drawn_308 (by decide) ?_
              obtain ⟨j108, hj110, h⟩ := jn4_o h
              have J109 : ∀ (y104 : Int32) (Z105 : Nat → Int32) (hs106 : List (Nat → Int32)) (κ107 : Nat), j108 y104 Z105 hs106 κ107 = some r → ∀ (H : Heap) (locs : List Loc) (ls : Array Slot), gZL s0 D T B X Z105 hs106 t [] [] H → va_S (gA B X) s.heap H locs → lv_has ls 11 [(0, .ref b), (1, .ref (B + 0)), (2, .int v6), (3, .int v8), (4, .int v10), (5, .int x38)] → W p l e (rmL_drawn K) s m args below meth c H locs κ107 (6 * κ107) Q (F0 m 319 ls [.int y104, .int (((v51 : Int32).toUInt32 >>> ((12 : Int32).toUInt32 &&& Int32.toUInt32 31)).toInt32), .int 1, .int ((((v51 : Int32).toUInt32 >>> ((10 : Int32).toUInt32 &&& Int32.toUInt32 31)).toInt32) - (((v51 : Int32).toUInt32 >>> ((10 : Int32).toUInt32 &&& Int32.toUInt32 31)).toInt32) / 4 * 4), .int ((((v51 : Int32).toUInt32 >>> ((8 : Int32).toUInt32 &&& Int32.toUInt32 31)).toInt32) - (((v51 : Int32).toUInt32 >>> ((8 : Int32).toUInt32 &&& Int32.toUInt32 31)).toInt32) / 4 * 4), .int v54, .ref (B + 0)]) := by
                clear h hW hS hl
                intro y104 Z105 hs106 κ107 h H locs ls hW hS hl
                replace h := (hj110 y104 Z105 hs106 κ107).symm.trans h
                obtain ⟨c111, h⟩ := gd_out h
                refine lv_irem hx hb dL_drawn_319 c111 ?_
                refine lv_iadd hx hb dL_drawn_320 ?_
                obtain ⟨g112, h⟩ := gd_out h
                have hsi := (gZ_si (gZL_out hW)).1
                refine gz_wrS (As := [.ref (B + 0), .int v54, .int ((((v51 : Int32).toUInt32 >>> ((8 : Int32).toUInt32 &&& Int32.toUInt32 31)).toInt32) - (((v51 : Int32).toUInt32 >>> ((8 : Int32).toUInt32 &&& Int32.toUInt32 31)).toInt32) / 4 * 4), .int ((((v51 : Int32).toUInt32 >>> ((10 : Int32).toUInt32 &&& Int32.toUInt32 31)).toInt32) - (((v51 : Int32).toUInt32 >>> ((10 : Int32).toUInt32 &&& Int32.toUInt32 31)).toInt32) / 4 * 4), .int (1 + ((((v51 : Int32).toUInt32 >>> ((12 : Int32).toUInt32 &&& Int32.toUInt32 31)).toInt32) - (((v51 : Int32).toUInt32 >>> ((12 : Int32).toUInt32 &&& Int32.toUInt32 31)).toInt32) / y104 * y104))]) F hk hC hml hS (gZL_out hW) (mv_drop F hX hN hsi) mw_L_207 ⟨rfl, rfl, (by first | exact Nat.le_of_ble_eq_true rfl | (simp only [rmL_drawn]; omega) | (simp only [rmL_drawn]; omega)), (by first | exact Nat.le_of_ble_eq_true rfl | (simp only [rmL_drawn]; omega) | (simp only [rmL_drawn]; omega))⟩ rfl hl.1 rfl (by first | exact Nat.le_of_ble_eq_true rfl | (simp only [rmL_drawn]; omega) | (simp only [rmL_drawn]; omega)) dL_drawn_321 ⟨(by show _ ≤ K; omega), (by show _ ≤ 6 * K; omega)⟩ (fun Z114 hs115 t9 out116 H locs hS2 hW hS => ?_)
                refine W.widen (k := (κ107 + 1)) (n := 6 * (κ107 + 1)) (by omega) (by omega) ?_
                obtain ⟨hR9, hW⟩ := rr_drop hsi hS2 hW
                replace h := chR_out h hR9
                generalize wr _ out116 = x113 at h ⊢
                clear hS2 hR9 hsi
                replace hW := gZL_nil hW
                refine lv_goto (tgt := 423) hx hb dL_drawn_324 (by decide) ?_
                refine W.widen (k := (κ107 + 1)) (n := 6 * (κ107 + 1)) (by omega) (by omega) ?_
                exact J73 _ _ _ _ h _ _ _ hW hS (lv_sub hl [0, 1, 2, 3, 4, 5] rfl)
              refine lv_if_ne (tgt := 317) hx hb dL_drawn_309 (by decide) (fun c117 => ?_) (fun c117 => ?_)
              · replace h := ite_f c117 h
                refine lv_bipush (v := 12) hx hb dL_drawn_317 (by decide) ?_
                refine W.widen (k := κ61) (n := 6 * κ61) (by omega) (by omega) ?_
                exact J109 _ _ _ _ h _ _ _ hW hS (lv_sub hl [1, 2, 3, 4, 5, 6] rfl)
              · replace h := ite_t c117 h
                refine lv_bipush (v := 40) hx hb dL_drawn_312 (by decide) ?_
                refine lv_goto (tgt := 319) hx hb dL_drawn_314 (by decide) ?_
                refine W.widen (k := κ61) (n := 6 * κ61) (by omega) (by omega) ?_
                exact J109 _ _ _ _ h _ _ _ hW hS (lv_sub hl [1, 2, 3, 4, 5, 6] rfl)
          refine lv_if_ne (tgt := 271) hx hb dL_drawn_263 (by decide) (fun c118 => ?_) (fun c118 => ?_)
          · replace h := ite_f c118 h
            refine lv_bipush (v := 60) hx hb dL_drawn_271 (by decide) ?_
            refine W.widen (k := κ41) (n := 6 * κ41) (by omega) (by omega) ?_
            exact J63 _ _ _ _ h _ _ _ hW hS (lv_sub hl [3, 4, 5, 6, 7, 8, 2, 1, 0] rfl)
          · replace h := ite_t c118 h
            refine lv_bipush (v := 12) hx hb dL_drawn_266 (by decide) ?_
            refine lv_goto (tgt := 273) hx hb dL_drawn_268 (by decide) ?_
            refine W.widen (k := κ41) (n := 6 * κ41) (by omega) (by omega) ?_
            exact J63 _ _ _ _ h _ _ _ hW hS (lv_sub hl [3, 4, 5, 6, 7, 8, 2, 1, 0] rfl)
      · replace h := ite_f c37 h
        refine lv_aload_n hx hb dL_drawn_175 rfl (lv_at hl 0 rfl) ?_
        refine lv_bipush (v := 14) hx hb dL_drawn_176 (by decide) ?_
        refine lv_iload hx hb dL_drawn_178 (lv_at hl 5 rfl) ?_
        refine lv_iadd hx hb dL_drawn_180 ?_
        obtain ⟨g119, h⟩ := gd_out h
        obtain ⟨g121, h⟩ := gd_out h
        obtain ⟨v122, e123, h⟩ := lt_out h
        refine gk_in (As := [.ref b, .int (14 + x31)]) F hX hk hC hml hS hW (fun _ => metL_cell F hXs hbl hL g121) ml_L_194 ⟨rfl, rfl, (by first | exact Nat.le_of_ble_eq_true rfl | (simp only [rmL_drawn]; omega) | (simp only [rmL_drawn]; omega)), (by first | exact Nat.le_of_ble_eq_true rfl | (simp only [rmL_drawn]; omega) | (simp only [rmL_drawn]; omega))⟩ rfl hl.1 rfl (by first | exact Nat.le_of_ble_eq_true rfl | (simp only [rmL_drawn]; omega) | (simp only [rmL_drawn]; omega)) dL_drawn_181 ⟨(by show _ ≤ K; omega), (by show _ ≤ 6 * K; omega)⟩ (fun H locs hW hS => ?_)
        change W p l e _ s m args below meth c H locs _ _ Q (F0 m _ ls (.int (cellL L xs (14 + x31)) :: _))
        rw [← e123]
        refine lv_iconst (v := 1) hx hb dL_drawn_184 (by decide) ?_
        refine lv_iushr hx hb dL_drawn_185 rfl ?_
        obtain ⟨v124, e125, h⟩ := lt_out h
        rw [← e125]
        refine lv_istore (lv' := [(6, .int v124), (0, .ref b), (1, .ref (B + 0)), (2, .int v6), (3, .int v8), (4, .int v10), (5, .int x31)]) hx hb dL_drawn_186 hl (by decide) rfl (fun ls hl => ?_)
        refine lv_aload_n hx hb dL_drawn_188 rfl (lv_at hl 2 rfl) ?_
        refine lv_iload hx hb dL_drawn_189 (lv_at hl 0 rfl) ?_
        refine lv_iload_n hx hb dL_drawn_191 rfl (lv_at hl 4 rfl) ?_
        obtain ⟨c126, h⟩ := gd_out h
        refine lv_irem hx hb dL_drawn_192 c126 ?_
        refine lv_iload hx hb dL_drawn_193 (lv_at hl 0 rfl) ?_
        refine lv_iconst (v := 4) hx hb dL_drawn_195 (by decide) ?_
        refine lv_iushr hx hb dL_drawn_196 rfl ?_
        refine lv_bipush (v := 10) hx hb dL_drawn_197 (by decide) ?_
        refine lv_irem hx hb dL_drawn_199 (by decide) ?_
        obtain ⟨g127, h⟩ := gd_out h
        have hsi := (gZ_si (gZL_out hW)).1
        refine gz_wrS (As := [.ref (B + 0), .int (v124 - v124 / v8 * v8), .int ((((v124 : Int32).toUInt32 >>> ((4 : Int32).toUInt32 &&& Int32.toUInt32 31)).toInt32) - (((v124 : Int32).toUInt32 >>> ((4 : Int32).toUInt32 &&& Int32.toUInt32 31)).toInt32) / 10 * 10)]) F hk hC hml hS (gZL_out hW) (mv_addExhibit F hX hN hsi) mw_L_204 ⟨rfl, rfl, (by first | exact Nat.le_of_ble_eq_true rfl | (simp only [rmL_drawn]; omega) | (simp only [rmL_drawn]; omega)), (by first | exact Nat.le_of_ble_eq_true rfl | (simp only [rmL_drawn]; omega) | (simp only [rmL_drawn]; omega))⟩ rfl hl.1 rfl (by first | exact Nat.le_of_ble_eq_true rfl | (simp only [rmL_drawn]; omega) | (simp only [rmL_drawn]; omega)) dL_drawn_200 ⟨(by show _ ≤ K; omega), (by show _ ≤ 6 * K; omega)⟩ (fun Z129 hs130 t9 out131 H locs hS2 hW hS => ?_)
        refine W.widen (k := (κ34 + 1)) (n := 6 * (κ34 + 1)) (by omega) (by omega) ?_
        obtain ⟨hR9, hW⟩ := rr_addExhibit hsi hS2 hW
        replace h := chR_out h hR9
        generalize wr _ out131 = x128 at h ⊢
        clear hS2 hR9 hsi
        replace hW := gZL_nil hW
        refine lv_iload hx hb dL_drawn_203 (lv_at hl 6 rfl) ?_
        refine lv_icmp_eq (tgt := 210) hx hb dL_drawn_205 (by decide) (fun c132 => ?_) (fun c132 => ?_)
        · replace h := ite_t c132 h
          obtain ⟨v133, e134, h⟩ := lt_out h
          refine lv_iinc (v := v133) (lv' := [(5, .int v133), (6, .int v124), (0, .ref b), (1, .ref (B + 0)), (2, .int v6), (3, .int v8), (4, .int v10)]) hx hb dL_drawn_210 hl (k := 6) rfl (by rw [e134]; rfl) (by decide) rfl (fun ls hl => ?_)
          refine lv_goto (tgt := 168) hx hb dL_drawn_213 (by decide) ?_
          refine W.widen (k := (κ34 + 1)) (n := 6 * (κ34 + 1)) (by omega) (by omega) ?_
          exact IH36 _ _ _ _ h _ _ _ hW hS (lv_sub hl [2, 3, 4, 5, 6, 0] rfl)
        · replace h := ite_f c132 h
          exact (whn_out h).elim
    refine lv_icmp_ge (tgt := 165) hx hb dL_drawn_78 (by decide) (fun c135 => ?_) (fun c135 => ?_)
    · replace h := ite_t c135 h
      refine W.widen (k := κ22) (n := 6 * κ22) (by omega) (by omega) ?_
      exact J29 _ _ _ h _ _ _ hW hS (lv_sub hl [0, 1, 2, 3, 4] rfl)
    · replace h := ite_f c135 h
      refine lv_iload_n hx hb dL_drawn_81 rfl (lv_at hl 3 rfl) ?_
      refine lv_iconst (v := 1) hx hb dL_drawn_82 (by decide) ?_
      refine lv_icmp_le (tgt := 165) hx hb dL_drawn_83 (by decide) (fun c136 => ?_) (fun c136 => ?_)
      · replace h := ite_t c136 h
        refine W.widen (k := κ22) (n := 6 * κ22) (by omega) (by omega) ?_
        exact J29 _ _ _ h _ _ _ hW hS (lv_sub hl [0, 1, 2, 3, 4] rfl)
      · replace h := ite_f c136 h
        refine lv_aload_n hx hb dL_drawn_86 rfl (lv_at hl 0 rfl) ?_
        refine lv_bipush (v := 7) hx hb dL_drawn_87 (by decide) ?_
        refine lv_iload hx hb dL_drawn_89 (lv_at hl 5 rfl) ?_
        refine lv_iadd hx hb dL_drawn_91 ?_
        obtain ⟨g137, h⟩ := gd_out h
        obtain ⟨g139, h⟩ := gd_out h
        obtain ⟨v140, e141, h⟩ := lt_out h
        refine gk_in (As := [.ref b, .int (7 + x19)]) F hX hk hC hml hS hW (fun _ => metL_cell F hXs hbl hL g139) ml_L_194 ⟨rfl, rfl, (by first | exact Nat.le_of_ble_eq_true rfl | (simp only [rmL_drawn]; omega) | (simp only [rmL_drawn]; omega)), (by first | exact Nat.le_of_ble_eq_true rfl | (simp only [rmL_drawn]; omega) | (simp only [rmL_drawn]; omega))⟩ rfl hl.1 rfl (by first | exact Nat.le_of_ble_eq_true rfl | (simp only [rmL_drawn]; omega) | (simp only [rmL_drawn]; omega)) dL_drawn_92 ⟨(by show _ ≤ K; omega), (by show _ ≤ 6 * K; omega)⟩ (fun H locs hW hS => ?_)
        change W p l e _ s m args below meth c H locs _ _ Q (F0 m _ ls (.int (cellL L xs (7 + x19)) :: _))
        rw [← e141]
        refine lv_iconst (v := 1) hx hb dL_drawn_95 (by decide) ?_
        refine lv_iushr hx hb dL_drawn_96 rfl ?_
        obtain ⟨v142, e143, h⟩ := lt_out h
        rw [← e143]
        refine lv_istore (lv' := [(6, .int v142), (0, .ref b), (1, .ref (B + 0)), (2, .int v6), (3, .int v8), (4, .int v10), (5, .int x19)]) hx hb dL_drawn_97 hl (by decide) rfl (fun ls hl => ?_)
        refine lv_iload hx hb dL_drawn_99 (lv_at hl 0 rfl) ?_
        refine lv_iload_n hx hb dL_drawn_101 rfl (lv_at hl 4 rfl) ?_
        obtain ⟨c144, h⟩ := gd_out h
        refine lv_irem hx hb dL_drawn_102 c144 ?_
        obtain ⟨v145, e146, h⟩ := lt_out h
        rw [← e146]
        refine lv_istore (lv' := [(7, .int v145), (6, .int v142), (0, .ref b), (1, .ref (B + 0)), (2, .int v6), (3, .int v8), (4, .int v10), (5, .int x19)]) hx hb dL_drawn_103 hl (by decide) rfl (fun ls hl => ?_)
        refine lv_aload_n hx hb dL_drawn_105 rfl (lv_at hl 3 rfl) ?_
        refine lv_iload hx hb dL_drawn_106 (lv_at hl 0 rfl) ?_
        refine lv_iload hx hb dL_drawn_108 (lv_at hl 0 rfl) ?_
        refine lv_iconst (v := 1) hx hb dL_drawn_110 (by decide) ?_
        refine lv_iadd hx hb dL_drawn_111 ?_
        refine lv_iload hx hb dL_drawn_112 (lv_at hl 1 rfl) ?_
        refine lv_iconst (v := 4) hx hb dL_drawn_114 (by decide) ?_
        refine lv_iushr hx hb dL_drawn_115 rfl ?_
        refine lv_iload_n hx hb dL_drawn_116 rfl (lv_at hl 5 rfl) ?_
        refine lv_iconst (v := 1) hx hb dL_drawn_117 (by decide) ?_
        refine lv_isub hx hb dL_drawn_118 ?_
        obtain ⟨c147, h⟩ := gd_out h
        refine lv_irem hx hb dL_drawn_119 c147 ?_
        refine lv_iadd hx hb dL_drawn_120 ?_
        refine lv_iload_n hx hb dL_drawn_121 rfl (lv_at hl 5 rfl) ?_
        obtain ⟨c148, h⟩ := gd_out h
        refine lv_irem hx hb dL_drawn_122 c148 ?_
        refine lv_iconst (v := 1) hx hb dL_drawn_123 (by decide) ?_
        refine lv_iload hx hb dL_drawn_124 (lv_at hl 1 rfl) ?_
        refine lv_bipush (v := 8) hx hb dL_drawn_126 (by decide) ?_
        refine lv_iushr hx hb dL_drawn_128 rfl ?_
        refine lv_iload_n hx hb dL_drawn_129 rfl (lv_at hl 4 rfl) ?_
        refine lv_iconst (v := 3) hx hb dL_drawn_130 (by decide) ?_
        refine lv_irem hx hb dL_drawn_131 (by decide) ?_
        obtain ⟨j153, hj155, h⟩ := jn4_o h
        have J154 : ∀ (y149 : Int32) (Z150 : Nat → Int32) (hs151 : List (Nat → Int32)) (κ152 : Nat), j153 y149 Z150 hs151 κ152 = some r → ∀ (H : Heap) (locs : List Loc) (ls : Array Slot), gZL s0 D T B X Z150 hs151 t [] [] H → va_S (gA B X) s.heap H locs → lv_has ls 11 [(0, .ref b), (1, .ref (B + 0)), (2, .int v6), (3, .int v8), (4, .int v10), (5, .int x19), (6, .int v142)] → W p l e (rmL_drawn K) s m args below meth c H locs κ152 (6 * κ152) Q (F0 m 141 ls [.int y149, .int (((v142 : Int32).toUInt32 >>> ((8 : Int32).toUInt32 &&& Int32.toUInt32 31)).toInt32), .int 1, .int (((v145 + 1) + ((((v142 : Int32).toUInt32 >>> ((4 : Int32).toUInt32 &&& Int32.toUInt32 31)).toInt32) - (((v142 : Int32).toUInt32 >>> ((4 : Int32).toUInt32 &&& Int32.toUInt32 31)).toInt32) / (v8 - 1) * (v8 - 1))) - ((v145 + 1) + ((((v142 : Int32).toUInt32 >>> ((4 : Int32).toUInt32 &&& Int32.toUInt32 31)).toInt32) - (((v142 : Int32).toUInt32 >>> ((4 : Int32).toUInt32 &&& Int32.toUInt32 31)).toInt32) / (v8 - 1) * (v8 - 1))) / v8 * v8), .int v145, .ref (B + 0)]) := by
          clear h hW hS hl
          intro y149 Z150 hs151 κ152 h H locs ls hW hS hl
          replace h := (hj155 y149 Z150 hs151 κ152).symm.trans h
          obtain ⟨c156, h⟩ := gd_out h
          refine lv_irem hx hb dL_drawn_141 c156 ?_
          refine lv_iadd hx hb dL_drawn_142 ?_
          refine lv_iload hx hb dL_drawn_143 (lv_at hl 6 rfl) ?_
          refine lv_bipush (v := 16) hx hb dL_drawn_145 (by decide) ?_
          refine lv_iushr hx hb dL_drawn_147 rfl ?_
          refine lv_bipush (v := 10) hx hb dL_drawn_148 (by decide) ?_
          refine lv_irem hx hb dL_drawn_150 (by decide) ?_
          obtain ⟨g157, h⟩ := gd_out h
          have hsi := (gZ_si (gZL_out hW)).1
          refine gz_wrS (As := [.ref (B + 0), .int v145, .int (((v145 + 1) + ((((v142 : Int32).toUInt32 >>> ((4 : Int32).toUInt32 &&& Int32.toUInt32 31)).toInt32) - (((v142 : Int32).toUInt32 >>> ((4 : Int32).toUInt32 &&& Int32.toUInt32 31)).toInt32) / (v8 - 1) * (v8 - 1))) - ((v145 + 1) + ((((v142 : Int32).toUInt32 >>> ((4 : Int32).toUInt32 &&& Int32.toUInt32 31)).toInt32) - (((v142 : Int32).toUInt32 >>> ((4 : Int32).toUInt32 &&& Int32.toUInt32 31)).toInt32) / (v8 - 1) * (v8 - 1))) / v8 * v8), .int (1 + ((((v142 : Int32).toUInt32 >>> ((8 : Int32).toUInt32 &&& Int32.toUInt32 31)).toInt32) - (((v142 : Int32).toUInt32 >>> ((8 : Int32).toUInt32 &&& Int32.toUInt32 31)).toInt32) / y149 * y149)), .int ((((v142 : Int32).toUInt32 >>> ((16 : Int32).toUInt32 &&& Int32.toUInt32 31)).toInt32) - (((v142 : Int32).toUInt32 >>> ((16 : Int32).toUInt32 &&& Int32.toUInt32 31)).toInt32) / 10 * 10)]) F hk hC hml hS (gZL_out hW) (mv_setLeg F hX hN hsi) mw_L_201 ⟨rfl, rfl, (by first | exact Nat.le_of_ble_eq_true rfl | (simp only [rmL_drawn]; omega) | (simp only [rmL_drawn]; omega)), (by first | exact Nat.le_of_ble_eq_true rfl | (simp only [rmL_drawn]; omega) | (simp only [rmL_drawn]; omega))⟩ rfl hl.1 rfl (by first | exact Nat.le_of_ble_eq_true rfl | (simp only [rmL_drawn]; omega) | (simp only [rmL_drawn]; omega)) dL_drawn_151 ⟨(by show _ ≤ K; omega), (by show _ ≤ 6 * K; omega)⟩ (fun Z159 hs160 t9 out161 H locs hS2 hW hS => ?_)
          refine W.widen (k := (κ152 + 1)) (n := 6 * (κ152 + 1)) (by omega) (by omega) ?_
          obtain ⟨hR9, hW⟩ := rr_setLeg hsi hS2 hW
          replace h := chR_out h hR9
          generalize wr _ out161 = x158 at h ⊢
          clear hS2 hR9 hsi
          replace hW := gZL_nil hW
          refine lv_if_ge (tgt := 159) hx hb dL_drawn_154 (by decide) (fun c162 => ?_) (fun c162 => ?_)
          · replace h := ite_t c162 h
            obtain ⟨v163, e164, h⟩ := lt_out h
            refine lv_iinc (v := v163) (lv' := [(5, .int v163), (0, .ref b), (1, .ref (B + 0)), (2, .int v6), (3, .int v8), (4, .int v10), (6, .int v142)]) hx hb dL_drawn_159 hl (k := 5) rfl (by rw [e164]; rfl) (by decide) rfl (fun ls hl => ?_)
            refine lv_goto (tgt := 74) hx hb dL_drawn_162 (by decide) ?_
            refine W.widen (k := (κ152 + 1)) (n := 6 * (κ152 + 1)) (by omega) (by omega) ?_
            exact IH24 _ _ _ _ h _ _ _ hW hS (lv_sub hl [1, 2, 3, 4, 5, 0] rfl)
          · replace h := ite_f c162 h
            exact (whn_out h).elim
        refine lv_if_ne (tgt := 140) hx hb dL_drawn_132 (by decide) (fun c165 => ?_) (fun c165 => ?_)
        · replace h := ite_f c165 h
          refine lv_iconst (v := 4) hx hb dL_drawn_140 (by decide) ?_
          refine W.widen (k := κ22) (n := 6 * κ22) (by omega) (by omega) ?_
          exact J154 _ _ _ _ h _ _ _ hW hS (lv_sub hl [2, 3, 4, 5, 6, 7, 1] rfl)
        · replace h := ite_t c165 h
          refine lv_bipush (v := 99) hx hb dL_drawn_135 (by decide) ?_
          refine lv_goto (tgt := 141) hx hb dL_drawn_137 (by decide) ?_
          refine W.widen (k := κ22) (n := 6 * κ22) (by omega) (by omega) ?_
          exact J154 _ _ _ _ h _ _ _ hW hS (lv_sub hl [2, 3, 4, 5, 6, 7, 1] rfl)
  · replace h := ite_f c18 h
    refine lv_aload_n hx hb dL_drawn_41 rfl (lv_at hl 1 rfl) ?_
    refine lv_aload_n hx hb dL_drawn_42 rfl (lv_at hl 0 rfl) ?_
    refine lv_iconst (v := 1) hx hb dL_drawn_43 (by decide) ?_
    refine lv_iload hx hb dL_drawn_44 (lv_at hl 5 rfl) ?_
    refine lv_iadd hx hb dL_drawn_46 ?_
    obtain ⟨g166, h⟩ := gd_out h
    obtain ⟨g168, h⟩ := gd_out h
    obtain ⟨v169, e170, h⟩ := lt_out h
    refine gk_in (As := [.ref b, .int (1 + x12)]) F hX hk hC hml hS hW (fun _ => metL_cell F hXs hbl hL g168) ml_L_194 ⟨rfl, rfl, (by first | exact Nat.le_of_ble_eq_true rfl | (simp only [rmL_drawn]; omega) | (simp only [rmL_drawn]; omega)), (by first | exact Nat.le_of_ble_eq_true rfl | (simp only [rmL_drawn]; omega) | (simp only [rmL_drawn]; omega))⟩ rfl hl.1 rfl (by first | exact Nat.le_of_ble_eq_true rfl | (simp only [rmL_drawn]; omega) | (simp only [rmL_drawn]; omega)) dL_drawn_47 ⟨(by show _ ≤ K; omega), (by show _ ≤ 6 * K; omega)⟩ (fun H locs hW hS => ?_)
    change W p l e _ s m args below meth c H locs _ _ Q (F0 m _ ls (.int (cellL L xs (1 + x12)) :: _))
    rw [← e170]
    refine lv_iconst (v := 1) hx hb dL_drawn_50 (by decide) ?_
    refine lv_iushr hx hb dL_drawn_51 rfl ?_
    refine lv_bipush (v := 10) hx hb dL_drawn_52 (by decide) ?_
    refine lv_irem hx hb dL_drawn_54 (by decide) ?_
    obtain ⟨g171, h⟩ := gd_out h
    have hsi := (gZ_si (gZL_out hW)).1
    refine gz_wrS (As := [.ref (B + 0), .int ((((v169 : Int32).toUInt32 >>> ((1 : Int32).toUInt32 &&& Int32.toUInt32 31)).toInt32) - (((v169 : Int32).toUInt32 >>> ((1 : Int32).toUInt32 &&& Int32.toUInt32 31)).toInt32) / 10 * 10)]) F hk hC hml hS (gZL_out hW) (mv_addRoom F hX hN hsi) mw_L_198 ⟨rfl, rfl, (by first | exact Nat.le_of_ble_eq_true rfl | (simp only [rmL_drawn]; omega) | (simp only [rmL_drawn]; omega)), (by first | exact Nat.le_of_ble_eq_true rfl | (simp only [rmL_drawn]; omega) | (simp only [rmL_drawn]; omega))⟩ rfl hl.1 rfl (by first | exact Nat.le_of_ble_eq_true rfl | (simp only [rmL_drawn]; omega) | (simp only [rmL_drawn]; omega)) dL_drawn_55 ⟨(by show _ ≤ K; omega), (by show _ ≤ 6 * K; omega)⟩ (fun Z173 hs174 t9 out175 H locs hS2 hW hS => ?_)
    refine W.widen (k := (κ15 + 1)) (n := 6 * (κ15 + 1)) (by omega) (by omega) ?_
    obtain ⟨hR9, hW⟩ := rr_addRoom hsi hS2 hW
    replace h := chR_out h hR9
    generalize wr _ out175 = x172 at h ⊢
    clear hS2 hR9 hsi
    replace hW := gZL_nil hW
    refine lv_iload hx hb dL_drawn_58 (lv_at hl 5 rfl) ?_
    refine lv_icmp_eq (tgt := 65) hx hb dL_drawn_60 (by decide) (fun c176 => ?_) (fun c176 => ?_)
    · replace h := ite_t c176 h
      obtain ⟨v177, e178, h⟩ := lt_out h
      refine lv_iinc (v := v177) (lv' := [(5, .int v177), (0, .ref b), (1, .ref (B + 0)), (2, .int v6), (3, .int v8), (4, .int v10)]) hx hb dL_drawn_65 hl (k := 5) rfl (by rw [e178]; rfl) (by decide) rfl (fun ls hl => ?_)
      refine lv_goto (tgt := 35) hx hb dL_drawn_68 (by decide) ?_
      refine W.widen (k := (κ15 + 1)) (n := 6 * (κ15 + 1)) (by omega) (by omega) ?_
      exact IH17 _ _ _ _ h _ _ _ hW hS (lv_sub hl [1, 2, 3, 4, 5, 0] rfl)
    · replace h := ite_f c176 h
      exact (whn_out h).elim

