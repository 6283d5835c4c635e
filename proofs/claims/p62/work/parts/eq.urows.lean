/-! Printed by program: the instructions of `undone`. -/
theorem dL_undone_0 : decode cL_undone 0 = .ok (.bipush 9, 2) := by decide +kernel
theorem dL_undone_2 : decode cL_undone 2 = .ok (.newarray .long, 2) := by decide +kernel
theorem dL_undone_4 : decode cL_undone 4 = .ok (.astore_n 2, 1) := by decide +kernel
theorem dL_undone_5 : decode cL_undone 5 = .ok (.iconst 0, 1) := by decide +kernel
theorem dL_undone_6 : decode cL_undone 6 = .ok (.istore_n 3, 1) := by decide +kernel
theorem dL_undone_7 : decode cL_undone 7 = .ok (.iconst 0, 1) := by decide +kernel
theorem dL_undone_8 : decode cL_undone 8 = .ok (.istore 4, 2) := by decide +kernel
theorem dL_undone_10 : decode cL_undone 10 = .ok (.iload 4, 2) := by decide +kernel
theorem dL_undone_12 : decode cL_undone 12 = .ok (.bipush 7, 2) := by decide +kernel
theorem dL_undone_14 : decode cL_undone 14 = .ok (.if_icmp .ge 500, 3) := by decide +kernel
theorem dL_undone_17 : decode cL_undone 17 = .ok (.aload_n 0, 1) := by decide +kernel
theorem dL_undone_18 : decode cL_undone 18 = .ok (.bipush 36, 2) := by decide +kernel
theorem dL_undone_20 : decode cL_undone 20 = .ok (.iload 4, 2) := by decide +kernel
theorem dL_undone_22 : decode cL_undone 22 = .ok (.iadd, 1) := by decide +kernel
theorem dL_undone_23 : decode cL_undone 23 = .ok (.invokestatic 194, 3) := by decide +kernel
theorem dL_undone_26 : decode cL_undone 26 = .ok (.iconst 1, 1) := by decide +kernel
theorem dL_undone_27 : decode cL_undone 27 = .ok (.iushr, 1) := by decide +kernel
theorem dL_undone_28 : decode cL_undone 28 = .ok (.istore 5, 2) := by decide +kernel
theorem dL_undone_30 : decode cL_undone 30 = .ok (.iload 5, 2) := by decide +kernel
theorem dL_undone_32 : decode cL_undone 32 = .ok (.iconst 4, 1) := by decide +kernel
theorem dL_undone_33 : decode cL_undone 33 = .ok (.iushr, 1) := by decide +kernel
theorem dL_undone_34 : decode cL_undone 34 = .ok (.istore 6, 2) := by decide +kernel
theorem dL_undone_36 : decode cL_undone 36 = .ok (.aload_n 2, 1) := by decide +kernel
theorem dL_undone_37 : decode cL_undone 37 = .ok (.iload_n 3, 1) := by decide +kernel
theorem dL_undone_38 : decode cL_undone 38 = .ok (.aload_n 1, 1) := by decide +kernel
theorem dL_undone_39 : decode cL_undone 39 = .ok (.invokestatic 433, 3) := by decide +kernel
theorem dL_undone_42 : decode cL_undone 42 = .ok (.lastore, 1) := by decide +kernel
theorem dL_undone_43 : decode cL_undone 43 = .ok (.iload 5, 2) := by decide +kernel
theorem dL_undone_45 : decode cL_undone 45 = .ok (.bipush 13, 2) := by decide +kernel
theorem dL_undone_47 : decode cL_undone 47 = .ok (.irem, 1) := by decide +kernel
theorem dL_undone_48 : decode cL_undone 48 = .ok (.tableswitch 334 0 10 #[60, 104, 155, 192, 213, 213, 248, 248, 269, 306, 320], 60) := by decide +kernel
theorem dL_undone_108 : decode cL_undone 108 = .ok (.iload 6, 2) := by decide +kernel
theorem dL_undone_110 : decode cL_undone 110 = .ok (.iconst 2, 1) := by decide +kernel
theorem dL_undone_111 : decode cL_undone 111 = .ok (.irem, 1) := by decide +kernel
theorem dL_undone_112 : decode cL_undone 112 = .ok (.ifCond .ne 17, 3) := by decide +kernel
theorem dL_undone_115 : decode cL_undone 115 = .ok (.aload_n 1, 1) := by decide +kernel
theorem dL_undone_116 : decode cL_undone 116 = .ok (.iload 6, 2) := by decide +kernel
theorem dL_undone_118 : decode cL_undone 118 = .ok (.iconst 1, 1) := by decide +kernel
theorem dL_undone_119 : decode cL_undone 119 = .ok (.iushr, 1) := by decide +kernel
theorem dL_undone_120 : decode cL_undone 120 = .ok (.bipush 11, 2) := by decide +kernel
theorem dL_undone_122 : decode cL_undone 122 = .ok (.irem, 1) := by decide +kernel
theorem dL_undone_123 : decode cL_undone 123 = .ok (.invokestatic 198, 3) := by decide +kernel
theorem dL_undone_126 : decode cL_undone 126 = .ok (.goto 21, 3) := by decide +kernel
theorem dL_undone_129 : decode cL_undone 129 = .ok (.aload_n 1, 1) := by decide +kernel
theorem dL_undone_130 : decode cL_undone 130 = .ok (.iload 6, 2) := by decide +kernel
theorem dL_undone_132 : decode cL_undone 132 = .ok (.iconst 1, 1) := by decide +kernel
theorem dL_undone_133 : decode cL_undone 133 = .ok (.iushr, 1) := by decide +kernel
theorem dL_undone_134 : decode cL_undone 134 = .ok (.bipush 7, 2) := by decide +kernel
theorem dL_undone_136 : decode cL_undone 136 = .ok (.irem, 1) := by decide +kernel
theorem dL_undone_137 : decode cL_undone 137 = .ok (.iload 6, 2) := by decide +kernel
theorem dL_undone_139 : decode cL_undone 139 = .ok (.iconst 4, 1) := by decide +kernel
theorem dL_undone_140 : decode cL_undone 140 = .ok (.iushr, 1) := by decide +kernel
theorem dL_undone_141 : decode cL_undone 141 = .ok (.bipush 11, 2) := by decide +kernel
theorem dL_undone_143 : decode cL_undone 143 = .ok (.irem, 1) := by decide +kernel
theorem dL_undone_144 : decode cL_undone 144 = .ok (.invokestatic 204, 3) := by decide +kernel
theorem dL_undone_147 : decode cL_undone 147 = .ok (.istore 7, 2) := by decide +kernel
theorem dL_undone_149 : decode cL_undone 149 = .ok (.goto 328, 3) := by decide +kernel
theorem dL_undone_152 : decode cL_undone 152 = .ok (.iload 6, 2) := by decide +kernel
theorem dL_undone_154 : decode cL_undone 154 = .ok (.iconst 2, 1) := by decide +kernel
theorem dL_undone_155 : decode cL_undone 155 = .ok (.irem, 1) := by decide +kernel
theorem dL_undone_156 : decode cL_undone 156 = .ok (.ifCond .ne 24, 3) := by decide +kernel
theorem dL_undone_159 : decode cL_undone 159 = .ok (.aload_n 1, 1) := by decide +kernel
theorem dL_undone_160 : decode cL_undone 160 = .ok (.iload 6, 2) := by decide +kernel
theorem dL_undone_162 : decode cL_undone 162 = .ok (.iconst 1, 1) := by decide +kernel
theorem dL_undone_163 : decode cL_undone 163 = .ok (.iushr, 1) := by decide +kernel
theorem dL_undone_164 : decode cL_undone 164 = .ok (.bipush 7, 2) := by decide +kernel
theorem dL_undone_166 : decode cL_undone 166 = .ok (.irem, 1) := by decide +kernel
theorem dL_undone_167 : decode cL_undone 167 = .ok (.iload 6, 2) := by decide +kernel
theorem dL_undone_169 : decode cL_undone 169 = .ok (.iconst 4, 1) := by decide +kernel
theorem dL_undone_170 : decode cL_undone 170 = .ok (.iushr, 1) := by decide +kernel
theorem dL_undone_171 : decode cL_undone 171 = .ok (.bipush 11, 2) := by decide +kernel
theorem dL_undone_173 : decode cL_undone 173 = .ok (.irem, 1) := by decide +kernel
theorem dL_undone_174 : decode cL_undone 174 = .ok (.invokestatic 437, 3) := by decide +kernel
theorem dL_undone_177 : decode cL_undone 177 = .ok (.goto 21, 3) := by decide +kernel
theorem dL_undone_180 : decode cL_undone 180 = .ok (.aload_n 1, 1) := by decide +kernel
theorem dL_undone_181 : decode cL_undone 181 = .ok (.iload 6, 2) := by decide +kernel
theorem dL_undone_183 : decode cL_undone 183 = .ok (.iconst 1, 1) := by decide +kernel
theorem dL_undone_184 : decode cL_undone 184 = .ok (.iushr, 1) := by decide +kernel
theorem dL_undone_185 : decode cL_undone 185 = .ok (.bipush 6, 2) := by decide +kernel
theorem dL_undone_187 : decode cL_undone 187 = .ok (.irem, 1) := by decide +kernel
theorem dL_undone_188 : decode cL_undone 188 = .ok (.iload 6, 2) := by decide +kernel
theorem dL_undone_190 : decode cL_undone 190 = .ok (.iconst 4, 1) := by decide +kernel
theorem dL_undone_191 : decode cL_undone 191 = .ok (.iushr, 1) := by decide +kernel
theorem dL_undone_192 : decode cL_undone 192 = .ok (.bipush 11, 2) := by decide +kernel
theorem dL_undone_194 : decode cL_undone 194 = .ok (.irem, 1) := by decide +kernel
theorem dL_undone_195 : decode cL_undone 195 = .ok (.invokestatic 439, 3) := by decide +kernel
theorem dL_undone_198 : decode cL_undone 198 = .ok (.istore 7, 2) := by decide +kernel
theorem dL_undone_200 : decode cL_undone 200 = .ok (.goto 277, 3) := by decide +kernel
theorem dL_undone_203 : decode cL_undone 203 = .ok (.aload_n 1, 1) := by decide +kernel
theorem dL_undone_204 : decode cL_undone 204 = .ok (.iload 6, 2) := by decide +kernel
theorem dL_undone_206 : decode cL_undone 206 = .ok (.bipush 7, 2) := by decide +kernel
theorem dL_undone_208 : decode cL_undone 208 = .ok (.irem, 1) := by decide +kernel
theorem dL_undone_209 : decode cL_undone 209 = .ok (.iload 6, 2) := by decide +kernel
theorem dL_undone_211 : decode cL_undone 211 = .ok (.iconst 3, 1) := by decide +kernel
theorem dL_undone_212 : decode cL_undone 212 = .ok (.iushr, 1) := by decide +kernel
theorem dL_undone_213 : decode cL_undone 213 = .ok (.bipush 7, 2) := by decide +kernel
theorem dL_undone_215 : decode cL_undone 215 = .ok (.irem, 1) := by decide +kernel
theorem dL_undone_216 : decode cL_undone 216 = .ok (.iload 6, 2) := by decide +kernel
theorem dL_undone_218 : decode cL_undone 218 = .ok (.bipush 6, 2) := by decide +kernel
theorem dL_undone_220 : decode cL_undone 220 = .ok (.iushr, 1) := by decide +kernel
theorem dL_undone_221 : decode cL_undone 221 = .ok (.bipush 101, 2) := by decide +kernel
theorem dL_undone_223 : decode cL_undone 223 = .ok (.irem, 1) := by decide +kernel
theorem dL_undone_224 : decode cL_undone 224 = .ok (.iload 6, 2) := by decide +kernel
theorem dL_undone_226 : decode cL_undone 226 = .ok (.bipush 13, 2) := by decide +kernel
theorem dL_undone_228 : decode cL_undone 228 = .ok (.iushr, 1) := by decide +kernel
theorem dL_undone_229 : decode cL_undone 229 = .ok (.bipush 11, 2) := by decide +kernel
theorem dL_undone_231 : decode cL_undone 231 = .ok (.irem, 1) := by decide +kernel
theorem dL_undone_232 : decode cL_undone 232 = .ok (.invokestatic 201, 3) := by decide +kernel
theorem dL_undone_235 : decode cL_undone 235 = .ok (.istore 7, 2) := by decide +kernel
theorem dL_undone_237 : decode cL_undone 237 = .ok (.goto 240, 3) := by decide +kernel
theorem dL_undone_240 : decode cL_undone 240 = .ok (.aload_n 1, 1) := by decide +kernel
theorem dL_undone_241 : decode cL_undone 241 = .ok (.iload 6, 2) := by decide +kernel
theorem dL_undone_243 : decode cL_undone 243 = .ok (.bipush 7, 2) := by decide +kernel
theorem dL_undone_245 : decode cL_undone 245 = .ok (.irem, 1) := by decide +kernel
theorem dL_undone_246 : decode cL_undone 246 = .ok (.iload 6, 2) := by decide +kernel
theorem dL_undone_248 : decode cL_undone 248 = .ok (.iconst 3, 1) := by decide +kernel
theorem dL_undone_249 : decode cL_undone 249 = .ok (.iushr, 1) := by decide +kernel
theorem dL_undone_250 : decode cL_undone 250 = .ok (.bipush 7, 2) := by decide +kernel
theorem dL_undone_252 : decode cL_undone 252 = .ok (.irem, 1) := by decide +kernel
theorem dL_undone_253 : decode cL_undone 253 = .ok (.invokestatic 441, 3) := by decide +kernel
theorem dL_undone_256 : decode cL_undone 256 = .ok (.istore 7, 2) := by decide +kernel
theorem dL_undone_258 : decode cL_undone 258 = .ok (.goto 219, 3) := by decide +kernel
theorem dL_undone_261 : decode cL_undone 261 = .ok (.aload_n 1, 1) := by decide +kernel
theorem dL_undone_262 : decode cL_undone 262 = .ok (.iload 6, 2) := by decide +kernel
theorem dL_undone_264 : decode cL_undone 264 = .ok (.bipush 6, 2) := by decide +kernel
theorem dL_undone_266 : decode cL_undone 266 = .ok (.irem, 1) := by decide +kernel
theorem dL_undone_267 : decode cL_undone 267 = .ok (.iload 6, 2) := by decide +kernel
theorem dL_undone_269 : decode cL_undone 269 = .ok (.iconst 3, 1) := by decide +kernel
theorem dL_undone_270 : decode cL_undone 270 = .ok (.iushr, 1) := by decide +kernel
theorem dL_undone_271 : decode cL_undone 271 = .ok (.iconst 5, 1) := by decide +kernel
theorem dL_undone_272 : decode cL_undone 272 = .ok (.irem, 1) := by decide +kernel
theorem dL_undone_273 : decode cL_undone 273 = .ok (.iload 6, 2) := by decide +kernel
theorem dL_undone_275 : decode cL_undone 275 = .ok (.bipush 6, 2) := by decide +kernel
theorem dL_undone_277 : decode cL_undone 277 = .ok (.iushr, 1) := by decide +kernel
theorem dL_undone_278 : decode cL_undone 278 = .ok (.iconst 5, 1) := by decide +kernel
theorem dL_undone_279 : decode cL_undone 279 = .ok (.irem, 1) := by decide +kernel
theorem dL_undone_280 : decode cL_undone 280 = .ok (.iload 6, 2) := by decide +kernel
theorem dL_undone_282 : decode cL_undone 282 = .ok (.bipush 9, 2) := by decide +kernel
theorem dL_undone_284 : decode cL_undone 284 = .ok (.iushr, 1) := by decide +kernel
theorem dL_undone_285 : decode cL_undone 285 = .ok (.bipush 42, 2) := by decide +kernel
theorem dL_undone_287 : decode cL_undone 287 = .ok (.irem, 1) := by decide +kernel
theorem dL_undone_288 : decode cL_undone 288 = .ok (.invokestatic 207, 3) := by decide +kernel
theorem dL_undone_291 : decode cL_undone 291 = .ok (.istore 7, 2) := by decide +kernel
theorem dL_undone_293 : decode cL_undone 293 = .ok (.goto 184, 3) := by decide +kernel
theorem dL_undone_296 : decode cL_undone 296 = .ok (.aload_n 1, 1) := by decide +kernel
theorem dL_undone_297 : decode cL_undone 297 = .ok (.iload 6, 2) := by decide +kernel
theorem dL_undone_299 : decode cL_undone 299 = .ok (.bipush 6, 2) := by decide +kernel
theorem dL_undone_301 : decode cL_undone 301 = .ok (.irem, 1) := by decide +kernel
theorem dL_undone_302 : decode cL_undone 302 = .ok (.iload 6, 2) := by decide +kernel
theorem dL_undone_304 : decode cL_undone 304 = .ok (.iconst 3, 1) := by decide +kernel
theorem dL_undone_305 : decode cL_undone 305 = .ok (.iushr, 1) := by decide +kernel
theorem dL_undone_306 : decode cL_undone 306 = .ok (.bipush 7, 2) := by decide +kernel
theorem dL_undone_308 : decode cL_undone 308 = .ok (.irem, 1) := by decide +kernel
theorem dL_undone_309 : decode cL_undone 309 = .ok (.invokestatic 222, 3) := by decide +kernel
theorem dL_undone_312 : decode cL_undone 312 = .ok (.istore 7, 2) := by decide +kernel
theorem dL_undone_314 : decode cL_undone 314 = .ok (.goto 163, 3) := by decide +kernel
theorem dL_undone_317 : decode cL_undone 317 = .ok (.aload_n 1, 1) := by decide +kernel
theorem dL_undone_318 : decode cL_undone 318 = .ok (.iload 6, 2) := by decide +kernel
theorem dL_undone_320 : decode cL_undone 320 = .ok (.bipush 6, 2) := by decide +kernel
theorem dL_undone_322 : decode cL_undone 322 = .ok (.irem, 1) := by decide +kernel
theorem dL_undone_323 : decode cL_undone 323 = .ok (.iload 6, 2) := by decide +kernel
theorem dL_undone_325 : decode cL_undone 325 = .ok (.iconst 3, 1) := by decide +kernel
theorem dL_undone_326 : decode cL_undone 326 = .ok (.iushr, 1) := by decide +kernel
theorem dL_undone_327 : decode cL_undone 327 = .ok (.bipush 30, 2) := by decide +kernel
theorem dL_undone_329 : decode cL_undone 329 = .ok (.irem, 1) := by decide +kernel
theorem dL_undone_330 : decode cL_undone 330 = .ok (.iload 6, 2) := by decide +kernel
theorem dL_undone_332 : decode cL_undone 332 = .ok (.bipush 8, 2) := by decide +kernel
theorem dL_undone_334 : decode cL_undone 334 = .ok (.iushr, 1) := by decide +kernel
theorem dL_undone_335 : decode cL_undone 335 = .ok (.bipush 102, 2) := by decide +kernel
theorem dL_undone_337 : decode cL_undone 337 = .ok (.irem, 1) := by decide +kernel
theorem dL_undone_338 : decode cL_undone 338 = .ok (.iload 6, 2) := by decide +kernel
theorem dL_undone_340 : decode cL_undone 340 = .ok (.bipush 14, 2) := by decide +kernel
theorem dL_undone_342 : decode cL_undone 342 = .ok (.iushr, 1) := by decide +kernel
theorem dL_undone_343 : decode cL_undone 343 = .ok (.bipush 101, 2) := by decide +kernel
theorem dL_undone_345 : decode cL_undone 345 = .ok (.irem, 1) := by decide +kernel
theorem dL_undone_346 : decode cL_undone 346 = .ok (.invokestatic 214, 3) := by decide +kernel
theorem dL_undone_349 : decode cL_undone 349 = .ok (.istore 7, 2) := by decide +kernel
theorem dL_undone_351 : decode cL_undone 351 = .ok (.goto 126, 3) := by decide +kernel
theorem dL_undone_354 : decode cL_undone 354 = .ok (.aload_n 1, 1) := by decide +kernel
theorem dL_undone_355 : decode cL_undone 355 = .ok (.iload 6, 2) := by decide +kernel
theorem dL_undone_357 : decode cL_undone 357 = .ok (.bipush 6, 2) := by decide +kernel
theorem dL_undone_359 : decode cL_undone 359 = .ok (.irem, 1) := by decide +kernel
theorem dL_undone_360 : decode cL_undone 360 = .ok (.invokestatic 216, 3) := by decide +kernel
theorem dL_undone_363 : decode cL_undone 363 = .ok (.istore 7, 2) := by decide +kernel
theorem dL_undone_365 : decode cL_undone 365 = .ok (.goto 112, 3) := by decide +kernel
theorem dL_undone_368 : decode cL_undone 368 = .ok (.aload_n 1, 1) := by decide +kernel
theorem dL_undone_369 : decode cL_undone 369 = .ok (.iload 6, 2) := by decide +kernel
theorem dL_undone_371 : decode cL_undone 371 = .ok (.bipush 101, 2) := by decide +kernel
theorem dL_undone_373 : decode cL_undone 373 = .ok (.irem, 1) := by decide +kernel
theorem dL_undone_374 : decode cL_undone 374 = .ok (.invokestatic 219, 3) := by decide +kernel
theorem dL_undone_377 : decode cL_undone 377 = .ok (.istore 7, 2) := by decide +kernel
theorem dL_undone_379 : decode cL_undone 379 = .ok (.goto 98, 3) := by decide +kernel
theorem dL_undone_382 : decode cL_undone 382 = .ok (.aload_n 1, 1) := by decide +kernel
theorem dL_undone_383 : decode cL_undone 383 = .ok (.new 382, 3) := by decide +kernel
theorem dL_undone_386 : decode cL_undone 386 = .ok (.dup, 1) := by decide +kernel
theorem dL_undone_387 : decode cL_undone 387 = .ok (.invokespecial 384, 3) := by decide +kernel
theorem dL_undone_390 : decode cL_undone 390 = .ok (.ldc_w 443, 3) := by decide +kernel
theorem dL_undone_393 : decode cL_undone 393 = .ok (.invokevirtual 385, 3) := by decide +kernel
theorem dL_undone_396 : decode cL_undone 396 = .ok (.iload 6, 2) := by decide +kernel
theorem dL_undone_398 : decode cL_undone 398 = .ok (.iconst 5, 1) := by decide +kernel
theorem dL_undone_399 : decode cL_undone 399 = .ok (.irem, 1) := by decide +kernel
theorem dL_undone_400 : decode cL_undone 400 = .ok (.invokevirtual 391, 3) := by decide +kernel
theorem dL_undone_403 : decode cL_undone 403 = .ok (.ldc_w 445, 3) := by decide +kernel
theorem dL_undone_406 : decode cL_undone 406 = .ok (.invokevirtual 385, 3) := by decide +kernel
theorem dL_undone_409 : decode cL_undone 409 = .ok (.iload 6, 2) := by decide +kernel
theorem dL_undone_411 : decode cL_undone 411 = .ok (.iconst 3, 1) := by decide +kernel
theorem dL_undone_412 : decode cL_undone 412 = .ok (.iushr, 1) := by decide +kernel
theorem dL_undone_413 : decode cL_undone 413 = .ok (.bipush 41, 2) := by decide +kernel
theorem dL_undone_415 : decode cL_undone 415 = .ok (.irem, 1) := by decide +kernel
theorem dL_undone_416 : decode cL_undone 416 = .ok (.invokevirtual 391, 3) := by decide +kernel
theorem dL_undone_419 : decode cL_undone 419 = .ok (.ldc_w 447, 3) := by decide +kernel
theorem dL_undone_422 : decode cL_undone 422 = .ok (.invokevirtual 385, 3) := by decide +kernel
theorem dL_undone_425 : decode cL_undone 425 = .ok (.iload 6, 2) := by decide +kernel
theorem dL_undone_427 : decode cL_undone 427 = .ok (.bipush 9, 2) := by decide +kernel
theorem dL_undone_429 : decode cL_undone 429 = .ok (.iushr, 1) := by decide +kernel
theorem dL_undone_430 : decode cL_undone 430 = .ok (.bipush 9, 2) := by decide +kernel
theorem dL_undone_432 : decode cL_undone 432 = .ok (.irem, 1) := by decide +kernel
theorem dL_undone_433 : decode cL_undone 433 = .ok (.invokevirtual 391, 3) := by decide +kernel
theorem dL_undone_436 : decode cL_undone 436 = .ok (.ldc_w 449, 3) := by decide +kernel
theorem dL_undone_439 : decode cL_undone 439 = .ok (.invokevirtual 385, 3) := by decide +kernel
theorem dL_undone_442 : decode cL_undone 442 = .ok (.iload 6, 2) := by decide +kernel
theorem dL_undone_444 : decode cL_undone 444 = .ok (.bipush 13, 2) := by decide +kernel
theorem dL_undone_446 : decode cL_undone 446 = .ok (.iushr, 1) := by decide +kernel
theorem dL_undone_447 : decode cL_undone 447 = .ok (.iconst 5, 1) := by decide +kernel
theorem dL_undone_448 : decode cL_undone 448 = .ok (.irem, 1) := by decide +kernel
theorem dL_undone_449 : decode cL_undone 449 = .ok (.invokevirtual 391, 3) := by decide +kernel
theorem dL_undone_452 : decode cL_undone 452 = .ok (.ldc_w 406, 3) := by decide +kernel
theorem dL_undone_455 : decode cL_undone 455 = .ok (.invokevirtual 385, 3) := by decide +kernel
theorem dL_undone_458 : decode cL_undone 458 = .ok (.iload 6, 2) := by decide +kernel
theorem dL_undone_460 : decode cL_undone 460 = .ok (.bipush 16, 2) := by decide +kernel
theorem dL_undone_462 : decode cL_undone 462 = .ok (.iushr, 1) := by decide +kernel
theorem dL_undone_463 : decode cL_undone 463 = .ok (.bipush 6, 2) := by decide +kernel
theorem dL_undone_465 : decode cL_undone 465 = .ok (.irem, 1) := by decide +kernel
theorem dL_undone_466 : decode cL_undone 466 = .ok (.invokevirtual 391, 3) := by decide +kernel
theorem dL_undone_469 : decode cL_undone 469 = .ok (.invokevirtual 394, 3) := by decide +kernel
theorem dL_undone_472 : decode cL_undone 472 = .ok (.invokestatic 451, 3) := by decide +kernel
theorem dL_undone_475 : decode cL_undone 475 = .ok (.istore 7, 2) := by decide +kernel
theorem dL_undone_477 : decode cL_undone 477 = .ok (.iload 7, 2) := by decide +kernel
theorem dL_undone_479 : decode cL_undone 479 = .ok (.ifCond .ge 16, 3) := by decide +kernel
theorem dL_undone_482 : decode cL_undone 482 = .ok (.aload_n 1, 1) := by decide +kernel
theorem dL_undone_483 : decode cL_undone 483 = .ok (.invokestatic 433, 3) := by decide +kernel
theorem dL_undone_486 : decode cL_undone 486 = .ok (.aload_n 2, 1) := by decide +kernel
theorem dL_undone_487 : decode cL_undone 487 = .ok (.iload_n 3, 1) := by decide +kernel
theorem dL_undone_488 : decode cL_undone 488 = .ok (.laload, 1) := by decide +kernel
theorem dL_undone_489 : decode cL_undone 489 = .ok (.lcmp, 1) := by decide +kernel
theorem dL_undone_490 : decode cL_undone 490 = .ok (.ifCond .eq 5, 3) := by decide +kernel
theorem dL_undone_493 : decode cL_undone 493 = .ok (.iconst 0, 1) := by decide +kernel
theorem dL_undone_494 : decode cL_undone 494 = .ok (.ireturn, 1) := by decide +kernel
theorem dL_undone_495 : decode cL_undone 495 = .ok (.iload_n 3, 1) := by decide +kernel
theorem dL_undone_496 : decode cL_undone 496 = .ok (.iload 7, 2) := by decide +kernel
theorem dL_undone_498 : decode cL_undone 498 = .ok (.ifCond .ge 7, 3) := by decide +kernel
theorem dL_undone_501 : decode cL_undone 501 = .ok (.iconst 0, 1) := by decide +kernel
theorem dL_undone_502 : decode cL_undone 502 = .ok (.goto 4, 3) := by decide +kernel
theorem dL_undone_505 : decode cL_undone 505 = .ok (.iconst 1, 1) := by decide +kernel
theorem dL_undone_506 : decode cL_undone 506 = .ok (.iadd, 1) := by decide +kernel
theorem dL_undone_507 : decode cL_undone 507 = .ok (.istore_n 3, 1) := by decide +kernel
theorem dL_undone_508 : decode cL_undone 508 = .ok (.iinc 4 1, 3) := by decide +kernel
theorem dL_undone_511 : decode cL_undone 511 = .ok (.goto (-501), 3) := by decide +kernel
theorem dL_undone_514 : decode cL_undone 514 = .ok (.iload_n 3, 1) := by decide +kernel
theorem dL_undone_515 : decode cL_undone 515 = .ok (.iconst 1, 1) := by decide +kernel
theorem dL_undone_516 : decode cL_undone 516 = .ok (.isub, 1) := by decide +kernel
theorem dL_undone_517 : decode cL_undone 517 = .ok (.istore 4, 2) := by decide +kernel
theorem dL_undone_519 : decode cL_undone 519 = .ok (.iload 4, 2) := by decide +kernel
theorem dL_undone_521 : decode cL_undone 521 = .ok (.ifCond .lt 30, 3) := by decide +kernel
theorem dL_undone_524 : decode cL_undone 524 = .ok (.aload_n 1, 1) := by decide +kernel
theorem dL_undone_525 : decode cL_undone 525 = .ok (.invokestatic 454, 3) := by decide +kernel
theorem dL_undone_528 : decode cL_undone 528 = .ok (.ifCond .lt 15, 3) := by decide +kernel
theorem dL_undone_531 : decode cL_undone 531 = .ok (.aload_n 1, 1) := by decide +kernel
theorem dL_undone_532 : decode cL_undone 532 = .ok (.invokestatic 433, 3) := by decide +kernel
theorem dL_undone_535 : decode cL_undone 535 = .ok (.aload_n 2, 1) := by decide +kernel
theorem dL_undone_536 : decode cL_undone 536 = .ok (.iload 4, 2) := by decide +kernel
theorem dL_undone_538 : decode cL_undone 538 = .ok (.laload, 1) := by decide +kernel
theorem dL_undone_539 : decode cL_undone 539 = .ok (.lcmp, 1) := by decide +kernel
theorem dL_undone_540 : decode cL_undone 540 = .ok (.ifCond .eq 5, 3) := by decide +kernel
theorem dL_undone_543 : decode cL_undone 543 = .ok (.iconst 0, 1) := by decide +kernel
theorem dL_undone_544 : decode cL_undone 544 = .ok (.ireturn, 1) := by decide +kernel
theorem dL_undone_545 : decode cL_undone 545 = .ok (.iinc 4 (-1), 3) := by decide +kernel
theorem dL_undone_548 : decode cL_undone 548 = .ok (.goto (-29), 3) := by decide +kernel
theorem dL_undone_551 : decode cL_undone 551 = .ok (.iconst 1, 1) := by decide +kernel
theorem dL_undone_552 : decode cL_undone 552 = .ok (.ireturn, 1) := by decide +kernel
