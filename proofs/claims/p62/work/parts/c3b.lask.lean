/-! Printed by program: the law's own methods that only ask. -/
theorem dL_ways_0 : decode cL_ways 0 = .ok (.aload_n 0, 1) := by decide +kernel
theorem dL_ways_1 : decode cL_ways 1 = .ok (.invokevirtual 250, 3) := by decide +kernel
theorem dL_ways_4 : decode cL_ways 4 = .ok (.istore_n 1, 1) := by decide +kernel
theorem dL_ways_5 : decode cL_ways 5 = .ok (.iconst 0, 1) := by decide +kernel
theorem dL_ways_6 : decode cL_ways 6 = .ok (.istore_n 2, 1) := by decide +kernel
theorem dL_ways_7 : decode cL_ways 7 = .ok (.iload_n 2, 1) := by decide +kernel
theorem dL_ways_8 : decode cL_ways 8 = .ok (.iload_n 1, 1) := by decide +kernel
theorem dL_ways_9 : decode cL_ways 9 = .ok (.if_icmp .ge 294, 3) := by decide +kernel
theorem dL_ways_12 : decode cL_ways 12 = .ok (.iconst 0, 1) := by decide +kernel
theorem dL_ways_13 : decode cL_ways 13 = .ok (.istore_n 3, 1) := by decide +kernel
theorem dL_ways_14 : decode cL_ways 14 = .ok (.iload_n 3, 1) := by decide +kernel
theorem dL_ways_15 : decode cL_ways 15 = .ok (.iload_n 1, 1) := by decide +kernel
theorem dL_ways_16 : decode cL_ways 16 = .ok (.if_icmp .ge 281, 3) := by decide +kernel
theorem dL_ways_19 : decode cL_ways 19 = .ok (.aload_n 0, 1) := by decide +kernel
theorem dL_ways_20 : decode cL_ways 20 = .ok (.iload_n 2, 1) := by decide +kernel
theorem dL_ways_21 : decode cL_ways 21 = .ok (.iload_n 3, 1) := by decide +kernel
theorem dL_ways_22 : decode cL_ways 22 = .ok (.iconst 0, 1) := by decide +kernel
theorem dL_ways_23 : decode cL_ways 23 = .ok (.invokestatic 255, 3) := by decide +kernel
theorem dL_ways_26 : decode cL_ways 26 = .ok (.lstore 4, 2) := by decide +kernel
theorem dL_ways_28 : decode cL_ways 28 = .ok (.lload 4, 2) := by decide +kernel
theorem dL_ways_30 : decode cL_ways 30 = .ok (.lconst 0, 1) := by decide +kernel
theorem dL_ways_31 : decode cL_ways 31 = .ok (.lcmp, 1) := by decide +kernel
theorem dL_ways_32 : decode cL_ways 32 = .ok (.ifCond .ge 8, 3) := by decide +kernel
theorem dL_ways_35 : decode cL_ways 35 = .ok (.bipush (-13), 2) := by decide +kernel
theorem dL_ways_37 : decode cL_ways 37 = .ok (.goto 10, 3) := by decide +kernel
theorem dL_ways_40 : decode cL_ways 40 = .ok (.lload 4, 2) := by decide +kernel
theorem dL_ways_42 : decode cL_ways 42 = .ok (.ldc2_w 259, 3) := by decide +kernel
theorem dL_ways_45 : decode cL_ways 45 = .ok (.ldiv, 1) := by decide +kernel
theorem dL_ways_46 : decode cL_ways 46 = .ok (.l2i, 1) := by decide +kernel
theorem dL_ways_47 : decode cL_ways 47 = .ok (.istore 6, 2) := by decide +kernel
theorem dL_ways_49 : decode cL_ways 49 = .ok (.lload 4, 2) := by decide +kernel
theorem dL_ways_51 : decode cL_ways 51 = .ok (.lconst 0, 1) := by decide +kernel
theorem dL_ways_52 : decode cL_ways 52 = .ok (.lcmp, 1) := by decide +kernel
theorem dL_ways_53 : decode cL_ways 53 = .ok (.ifCond .ge 8, 3) := by decide +kernel
theorem dL_ways_56 : decode cL_ways 56 = .ok (.bipush (-13), 2) := by decide +kernel
theorem dL_ways_58 : decode cL_ways 58 = .ok (.goto 14, 3) := by decide +kernel
theorem dL_ways_61 : decode cL_ways 61 = .ok (.lload 4, 2) := by decide +kernel
theorem dL_ways_63 : decode cL_ways 63 = .ok (.ldc2_w 261, 3) := by decide +kernel
theorem dL_ways_66 : decode cL_ways 66 = .ok (.ldiv, 1) := by decide +kernel
theorem dL_ways_67 : decode cL_ways 67 = .ok (.ldc2_w 267, 3) := by decide +kernel
theorem dL_ways_70 : decode cL_ways 70 = .ok (.lrem, 1) := by decide +kernel
theorem dL_ways_71 : decode cL_ways 71 = .ok (.l2i, 1) := by decide +kernel
theorem dL_ways_72 : decode cL_ways 72 = .ok (.istore 7, 2) := by decide +kernel
theorem dL_ways_74 : decode cL_ways 74 = .ok (.aload_n 0, 1) := by decide +kernel
theorem dL_ways_75 : decode cL_ways 75 = .ok (.iload_n 2, 1) := by decide +kernel
theorem dL_ways_76 : decode cL_ways 76 = .ok (.iload_n 3, 1) := by decide +kernel
theorem dL_ways_77 : decode cL_ways 77 = .ok (.invokestatic 269, 3) := by decide +kernel
theorem dL_ways_80 : decode cL_ways 80 = .ok (.iload 6, 2) := by decide +kernel
theorem dL_ways_82 : decode cL_ways 82 = .ok (.if_icmp .ne 56, 3) := by decide +kernel
theorem dL_ways_85 : decode cL_ways 85 = .ok (.aload_n 0, 1) := by decide +kernel
theorem dL_ways_86 : decode cL_ways 86 = .ok (.iload_n 2, 1) := by decide +kernel
theorem dL_ways_87 : decode cL_ways 87 = .ok (.iload_n 3, 1) := by decide +kernel
theorem dL_ways_88 : decode cL_ways 88 = .ok (.invokestatic 271, 3) := by decide +kernel
theorem dL_ways_91 : decode cL_ways 91 = .ok (.iload 6, 2) := by decide +kernel
theorem dL_ways_93 : decode cL_ways 93 = .ok (.if_icmp .ne 45, 3) := by decide +kernel
theorem dL_ways_96 : decode cL_ways 96 = .ok (.aload_n 0, 1) := by decide +kernel
theorem dL_ways_97 : decode cL_ways 97 = .ok (.iload_n 2, 1) := by decide +kernel
theorem dL_ways_98 : decode cL_ways 98 = .ok (.iload_n 3, 1) := by decide +kernel
theorem dL_ways_99 : decode cL_ways 99 = .ok (.invokestatic 274, 3) := by decide +kernel
theorem dL_ways_102 : decode cL_ways 102 = .ok (.iload 7, 2) := by decide +kernel
theorem dL_ways_104 : decode cL_ways 104 = .ok (.if_icmp .ne 34, 3) := by decide +kernel
theorem dL_ways_107 : decode cL_ways 107 = .ok (.aload_n 0, 1) := by decide +kernel
theorem dL_ways_108 : decode cL_ways 108 = .ok (.iload_n 2, 1) := by decide +kernel
theorem dL_ways_109 : decode cL_ways 109 = .ok (.iload_n 3, 1) := by decide +kernel
theorem dL_ways_110 : decode cL_ways 110 = .ok (.iconst 0, 1) := by decide +kernel
theorem dL_ways_111 : decode cL_ways 111 = .ok (.iload 7, 2) := by decide +kernel
theorem dL_ways_113 : decode cL_ways 113 = .ok (.invokestatic 276, 3) := by decide +kernel
theorem dL_ways_116 : decode cL_ways 116 = .ok (.iconst 1, 1) := by decide +kernel
theorem dL_ways_117 : decode cL_ways 117 = .ok (.iadd, 1) := by decide +kernel
theorem dL_ways_118 : decode cL_ways 118 = .ok (.invokestatic 279, 3) := by decide +kernel
theorem dL_ways_121 : decode cL_ways 121 = .ok (.bipush (-13), 2) := by decide +kernel
theorem dL_ways_123 : decode cL_ways 123 = .ok (.if_icmp .ne 15, 3) := by decide +kernel
theorem dL_ways_126 : decode cL_ways 126 = .ok (.aload_n 0, 1) := by decide +kernel
theorem dL_ways_127 : decode cL_ways 127 = .ok (.iload_n 2, 1) := by decide +kernel
theorem dL_ways_128 : decode cL_ways 128 = .ok (.iload_n 3, 1) := by decide +kernel
theorem dL_ways_129 : decode cL_ways 129 = .ok (.iconst (-1), 1) := by decide +kernel
theorem dL_ways_130 : decode cL_ways 130 = .ok (.invokestatic 279, 3) := by decide +kernel
theorem dL_ways_133 : decode cL_ways 133 = .ok (.bipush (-13), 2) := by decide +kernel
theorem dL_ways_135 : decode cL_ways 135 = .ok (.if_icmp .eq 5, 3) := by decide +kernel
theorem dL_ways_138 : decode cL_ways 138 = .ok (.iconst 0, 1) := by decide +kernel
theorem dL_ways_139 : decode cL_ways 139 = .ok (.ireturn, 1) := by decide +kernel
theorem dL_ways_140 : decode cL_ways 140 = .ok (.lload 4, 2) := by decide +kernel
theorem dL_ways_142 : decode cL_ways 142 = .ok (.ldc2_w 261, 3) := by decide +kernel
theorem dL_ways_145 : decode cL_ways 145 = .ok (.lrem, 1) := by decide +kernel
theorem dL_ways_146 : decode cL_ways 146 = .ok (.lstore 8, 2) := by decide +kernel
theorem dL_ways_148 : decode cL_ways 148 = .ok (.lload 4, 2) := by decide +kernel
theorem dL_ways_150 : decode cL_ways 150 = .ok (.lconst 0, 1) := by decide +kernel
theorem dL_ways_151 : decode cL_ways 151 = .ok (.lcmp, 1) := by decide +kernel
theorem dL_ways_152 : decode cL_ways 152 = .ok (.ifCond .lt 14, 3) := by decide +kernel
theorem dL_ways_155 : decode cL_ways 155 = .ok (.aload_n 0, 1) := by decide +kernel
theorem dL_ways_156 : decode cL_ways 156 = .ok (.iload_n 2, 1) := by decide +kernel
theorem dL_ways_157 : decode cL_ways 157 = .ok (.iload_n 3, 1) := by decide +kernel
theorem dL_ways_158 : decode cL_ways 158 = .ok (.iconst 0, 1) := by decide +kernel
theorem dL_ways_159 : decode cL_ways 159 = .ok (.invokestatic 279, 3) := by decide +kernel
theorem dL_ways_162 : decode cL_ways 162 = .ok (.iload_n 2, 1) := by decide +kernel
theorem dL_ways_163 : decode cL_ways 163 = .ok (.if_icmp .ne 7, 3) := by decide +kernel
theorem dL_ways_166 : decode cL_ways 166 = .ok (.iconst 1, 1) := by decide +kernel
theorem dL_ways_167 : decode cL_ways 167 = .ok (.goto 4, 3) := by decide +kernel
theorem dL_ways_170 : decode cL_ways 170 = .ok (.iconst 0, 1) := by decide +kernel
theorem dL_ways_171 : decode cL_ways 171 = .ok (.istore 10, 2) := by decide +kernel
theorem dL_ways_173 : decode cL_ways 173 = .ok (.iconst 1, 1) := by decide +kernel
theorem dL_ways_174 : decode cL_ways 174 = .ok (.istore 11, 2) := by decide +kernel
theorem dL_ways_176 : decode cL_ways 176 = .ok (.iload 11, 2) := by decide +kernel
theorem dL_ways_178 : decode cL_ways 178 = .ok (.iload 7, 2) := by decide +kernel
theorem dL_ways_180 : decode cL_ways 180 = .ok (.if_icmp .gt 54, 3) := by decide +kernel
theorem dL_ways_183 : decode cL_ways 183 = .ok (.iload 10, 2) := by decide +kernel
theorem dL_ways_185 : decode cL_ways 185 = .ok (.ifCond .eq 28, 3) := by decide +kernel
theorem dL_ways_188 : decode cL_ways 188 = .ok (.aload_n 0, 1) := by decide +kernel
theorem dL_ways_189 : decode cL_ways 189 = .ok (.iload_n 2, 1) := by decide +kernel
theorem dL_ways_190 : decode cL_ways 190 = .ok (.iload_n 3, 1) := by decide +kernel
theorem dL_ways_191 : decode cL_ways 191 = .ok (.iload 11, 2) := by decide +kernel
theorem dL_ways_193 : decode cL_ways 193 = .ok (.invokestatic 279, 3) := by decide +kernel
theorem dL_ways_196 : decode cL_ways 196 = .ok (.i2l, 1) := by decide +kernel
theorem dL_ways_197 : decode cL_ways 197 = .ok (.lload 8, 2) := by decide +kernel
theorem dL_ways_199 : decode cL_ways 199 = .ok (.ldc2_w 265, 3) := by decide +kernel
theorem dL_ways_202 : decode cL_ways 202 = .ok (.ldiv, 1) := by decide +kernel
theorem dL_ways_203 : decode cL_ways 203 = .ok (.lconst 1, 1) := by decide +kernel
theorem dL_ways_204 : decode cL_ways 204 = .ok (.lsub, 1) := by decide +kernel
theorem dL_ways_205 : decode cL_ways 205 = .ok (.lcmp, 1) := by decide +kernel
theorem dL_ways_206 : decode cL_ways 206 = .ok (.ifCond .ne 7, 3) := by decide +kernel
theorem dL_ways_209 : decode cL_ways 209 = .ok (.iconst 1, 1) := by decide +kernel
theorem dL_ways_210 : decode cL_ways 210 = .ok (.goto 4, 3) := by decide +kernel
theorem dL_ways_213 : decode cL_ways 213 = .ok (.iconst 0, 1) := by decide +kernel
theorem dL_ways_214 : decode cL_ways 214 = .ok (.istore 10, 2) := by decide +kernel
theorem dL_ways_216 : decode cL_ways 216 = .ok (.lload 8, 2) := by decide +kernel
theorem dL_ways_218 : decode cL_ways 218 = .ok (.ldc2_w 265, 3) := by decide +kernel
theorem dL_ways_221 : decode cL_ways 221 = .ok (.lrem, 1) := by decide +kernel
theorem dL_ways_222 : decode cL_ways 222 = .ok (.ldc2_w 263, 3) := by decide +kernel
theorem dL_ways_225 : decode cL_ways 225 = .ok (.lmul, 1) := by decide +kernel
theorem dL_ways_226 : decode cL_ways 226 = .ok (.lstore 8, 2) := by decide +kernel
theorem dL_ways_228 : decode cL_ways 228 = .ok (.iinc 11 1, 3) := by decide +kernel
theorem dL_ways_231 : decode cL_ways 231 = .ok (.goto (-55), 3) := by decide +kernel
theorem dL_ways_234 : decode cL_ways 234 = .ok (.aload_n 0, 1) := by decide +kernel
theorem dL_ways_235 : decode cL_ways 235 = .ok (.iload_n 2, 1) := by decide +kernel
theorem dL_ways_236 : decode cL_ways 236 = .ok (.iload_n 3, 1) := by decide +kernel
theorem dL_ways_237 : decode cL_ways 237 = .ok (.invokestatic 253, 3) := by decide +kernel
theorem dL_ways_240 : decode cL_ways 240 = .ok (.ifCond .le 7, 3) := by decide +kernel
theorem dL_ways_243 : decode cL_ways 243 = .ok (.iconst 1, 1) := by decide +kernel
theorem dL_ways_244 : decode cL_ways 244 = .ok (.goto 4, 3) := by decide +kernel
theorem dL_ways_247 : decode cL_ways 247 = .ok (.iconst 0, 1) := by decide +kernel
theorem dL_ways_248 : decode cL_ways 248 = .ok (.istore 11, 2) := by decide +kernel
theorem dL_ways_250 : decode cL_ways 250 = .ok (.iload 10, 2) := by decide +kernel
theorem dL_ways_252 : decode cL_ways 252 = .ok (.ifCond .eq 37, 3) := by decide +kernel
theorem dL_ways_255 : decode cL_ways 255 = .ok (.iload 11, 2) := by decide +kernel
theorem dL_ways_257 : decode cL_ways 257 = .ok (.aload_n 0, 1) := by decide +kernel
theorem dL_ways_258 : decode cL_ways 258 = .ok (.iload_n 2, 1) := by decide +kernel
theorem dL_ways_259 : decode cL_ways 259 = .ok (.iload_n 3, 1) := by decide +kernel
theorem dL_ways_260 : decode cL_ways 260 = .ok (.invokestatic 282, 3) := by decide +kernel
theorem dL_ways_263 : decode cL_ways 263 = .ok (.ifCond .lt 7, 3) := by decide +kernel
theorem dL_ways_266 : decode cL_ways 266 = .ok (.iconst 1, 1) := by decide +kernel
theorem dL_ways_267 : decode cL_ways 267 = .ok (.goto 4, 3) := by decide +kernel
theorem dL_ways_270 : decode cL_ways 270 = .ok (.iconst 0, 1) := by decide +kernel
theorem dL_ways_271 : decode cL_ways 271 = .ok (.if_icmp .ne 18, 3) := by decide +kernel
theorem dL_ways_274 : decode cL_ways 274 = .ok (.aload_n 0, 1) := by decide +kernel
theorem dL_ways_275 : decode cL_ways 275 = .ok (.iload_n 2, 1) := by decide +kernel
theorem dL_ways_276 : decode cL_ways 276 = .ok (.iload_n 3, 1) := by decide +kernel
theorem dL_ways_277 : decode cL_ways 277 = .ok (.invokestatic 253, 3) := by decide +kernel
theorem dL_ways_280 : decode cL_ways 280 = .ok (.aload_n 0, 1) := by decide +kernel
theorem dL_ways_281 : decode cL_ways 281 = .ok (.iload_n 3, 1) := by decide +kernel
theorem dL_ways_282 : decode cL_ways 282 = .ok (.iload_n 2, 1) := by decide +kernel
theorem dL_ways_283 : decode cL_ways 283 = .ok (.invokestatic 253, 3) := by decide +kernel
theorem dL_ways_286 : decode cL_ways 286 = .ok (.if_icmp .eq 5, 3) := by decide +kernel
theorem dL_ways_289 : decode cL_ways 289 = .ok (.iconst 0, 1) := by decide +kernel
theorem dL_ways_290 : decode cL_ways 290 = .ok (.ireturn, 1) := by decide +kernel
theorem dL_ways_291 : decode cL_ways 291 = .ok (.iinc 3 1, 3) := by decide +kernel
theorem dL_ways_294 : decode cL_ways 294 = .ok (.goto (-280), 3) := by decide +kernel
theorem dL_ways_297 : decode cL_ways 297 = .ok (.iinc 2 1, 3) := by decide +kernel
theorem dL_ways_300 : decode cL_ways 300 = .ok (.goto (-293), 3) := by decide +kernel
theorem dL_ways_303 : decode cL_ways 303 = .ok (.aload_n 0, 1) := by decide +kernel
theorem dL_ways_304 : decode cL_ways 304 = .ok (.iload_n 1, 1) := by decide +kernel
theorem dL_ways_305 : decode cL_ways 305 = .ok (.invokestatic 284, 3) := by decide +kernel
theorem dL_ways_308 : decode cL_ways 308 = .ok (.bipush (-11), 2) := by decide +kernel
theorem dL_ways_310 : decode cL_ways 310 = .ok (.if_icmp .ne 74, 3) := by decide +kernel
theorem dL_ways_313 : decode cL_ways 313 = .ok (.aload_n 0, 1) := by decide +kernel
theorem dL_ways_314 : decode cL_ways 314 = .ok (.iload_n 1, 1) := by decide +kernel
theorem dL_ways_315 : decode cL_ways 315 = .ok (.iconst 0, 1) := by decide +kernel
theorem dL_ways_316 : decode cL_ways 316 = .ok (.invokestatic 253, 3) := by decide +kernel
theorem dL_ways_319 : decode cL_ways 319 = .ok (.bipush (-11), 2) := by decide +kernel
theorem dL_ways_321 : decode cL_ways 321 = .ok (.if_icmp .ne 63, 3) := by decide +kernel
theorem dL_ways_324 : decode cL_ways 324 = .ok (.aload_n 0, 1) := by decide +kernel
theorem dL_ways_325 : decode cL_ways 325 = .ok (.iconst 0, 1) := by decide +kernel
theorem dL_ways_326 : decode cL_ways 326 = .ok (.iconst (-1), 1) := by decide +kernel
theorem dL_ways_327 : decode cL_ways 327 = .ok (.invokestatic 282, 3) := by decide +kernel
theorem dL_ways_330 : decode cL_ways 330 = .ok (.bipush (-11), 2) := by decide +kernel
theorem dL_ways_332 : decode cL_ways 332 = .ok (.if_icmp .ne 52, 3) := by decide +kernel
theorem dL_ways_335 : decode cL_ways 335 = .ok (.aload_n 0, 1) := by decide +kernel
theorem dL_ways_336 : decode cL_ways 336 = .ok (.iload_n 1, 1) := by decide +kernel
theorem dL_ways_337 : decode cL_ways 337 = .ok (.iconst 0, 1) := by decide +kernel
theorem dL_ways_338 : decode cL_ways 338 = .ok (.invokestatic 269, 3) := by decide +kernel
theorem dL_ways_341 : decode cL_ways 341 = .ok (.bipush (-11), 2) := by decide +kernel
theorem dL_ways_343 : decode cL_ways 343 = .ok (.if_icmp .ne 41, 3) := by decide +kernel
theorem dL_ways_346 : decode cL_ways 346 = .ok (.aload_n 0, 1) := by decide +kernel
theorem dL_ways_347 : decode cL_ways 347 = .ok (.iconst 0, 1) := by decide +kernel
theorem dL_ways_348 : decode cL_ways 348 = .ok (.iload_n 1, 1) := by decide +kernel
theorem dL_ways_349 : decode cL_ways 349 = .ok (.invokestatic 271, 3) := by decide +kernel
theorem dL_ways_352 : decode cL_ways 352 = .ok (.bipush (-11), 2) := by decide +kernel
theorem dL_ways_354 : decode cL_ways 354 = .ok (.if_icmp .ne 30, 3) := by decide +kernel
theorem dL_ways_357 : decode cL_ways 357 = .ok (.aload_n 0, 1) := by decide +kernel
theorem dL_ways_358 : decode cL_ways 358 = .ok (.iload_n 1, 1) := by decide +kernel
theorem dL_ways_359 : decode cL_ways 359 = .ok (.iload_n 1, 1) := by decide +kernel
theorem dL_ways_360 : decode cL_ways 360 = .ok (.invokestatic 274, 3) := by decide +kernel
theorem dL_ways_363 : decode cL_ways 363 = .ok (.bipush (-11), 2) := by decide +kernel
theorem dL_ways_365 : decode cL_ways 365 = .ok (.if_icmp .ne 19, 3) := by decide +kernel
theorem dL_ways_368 : decode cL_ways 368 = .ok (.aload_n 0, 1) := by decide +kernel
theorem dL_ways_369 : decode cL_ways 369 = .ok (.iload_n 1, 1) := by decide +kernel
theorem dL_ways_370 : decode cL_ways 370 = .ok (.iconst 0, 1) := by decide +kernel
theorem dL_ways_371 : decode cL_ways 371 = .ok (.iconst 0, 1) := by decide +kernel
theorem dL_ways_372 : decode cL_ways 372 = .ok (.invokestatic 279, 3) := by decide +kernel
theorem dL_ways_375 : decode cL_ways 375 = .ok (.bipush (-11), 2) := by decide +kernel
theorem dL_ways_377 : decode cL_ways 377 = .ok (.if_icmp .ne 7, 3) := by decide +kernel
theorem dL_ways_380 : decode cL_ways 380 = .ok (.iconst 1, 1) := by decide +kernel
theorem dL_ways_381 : decode cL_ways 381 = .ok (.goto 4, 3) := by decide +kernel
theorem dL_ways_384 : decode cL_ways 384 = .ok (.iconst 0, 1) := by decide +kernel
theorem dL_ways_385 : decode cL_ways 385 = .ok (.ireturn, 1) := by decide +kernel
noncomputable def fL_ways (N : Nat) (Z : Nat → Int32) (K : Nat)  : Option Bool :=
  gd (0 ≤ K) <|
  lt (nI (nZ Z)) fun v2 =>
  fix2 (fun self6 (x4 : Int32) (κ5 : Nat) =>
  if v2 ≤ x4 then
  (gd ((κ5 + 1) ≤ K) <|
  jn (fun (y10 : Bool) (κ11 : Nat) =>
  gd (κ11 ≤ K) <|
  some y10) fun j12 =>
  jn (fun (κ16 : Nat) =>
  j12 false κ16) fun j17 =>
  if (wL_warmth Z v2) = (-11) then
  (gd ((κ5 + 2) ≤ K) <|
  if (wL_legMinutes Z v2 0) = (-11) then
  (gd ((κ5 + 3) ≤ K) <|
  if (wL_legWarmth Z 0 (-1)) = (-11) then
  (gd ((κ5 + 5) ≤ K) <|
  if (wL_minutes Z v2 0) = (-11) then
  (gd ((κ5 + 7) ≤ K) <|
  if (wL_byTable Z 0 v2) = (-11) then
  (gd ((κ5 + 9) ≤ K) <|
  if (wL_wayLegs Z v2 v2) = (-11) then
  (gd ((κ5 + 12) ≤ K) <|
  if (wL_wayRoom Z v2 0 0) = (-11) then
  (j12 true (κ5 + 12))
  else (j17 (κ5 + 12)))
  else (j17 (κ5 + 9)))
  else (j17 (κ5 + 7)))
  else (j17 (κ5 + 5)))
  else (j17 (κ5 + 3)))
  else (j17 (κ5 + 2)))
  else (j17 (κ5 + 1)))
  else (fix2 (fun self35 (x33 : Int32) (κ34 : Nat) =>
  if v2 ≤ x33 then
  (lt (x4 + 1) fun v38 =>
  self6 v38 κ34)
  else (gd ((κ34 + (ckW 7 x4 0)) ≤ K) <|
  (fL_bestWay N 8 Z x4 x33 0).bind fun r41 =>
  jn (fun (y44 : Int32) (κ45 : Nat) =>
  jn (fun (y49 : Int32) (κ50 : Nat) =>
  gd ((κ50 + 2) ≤ K) <|
  jn (fun (κ55 : Nat) =>
  gd (κ55 ≤ K) <|
  some false) fun j56 =>
  if (wL_minutes Z x4 x33) = y44 then
  (gd ((κ50 + 4) ≤ K) <|
  if (wL_byTable Z x4 x33) = y44 then
  (gd ((κ50 + 6) ≤ K) <|
  if (wL_wayLegs Z x4 x33) = y49 then
  (gd ((κ50 + 6) ≤ K) <|
  gd ((κ50 + 9) ≤ K) <|
  if (wL_wayRoom Z x4 x33 ((imax 0 y49) + 1)) = (-13) then
  (gd ((κ50 + 12) ≤ K) <|
  if (wL_wayRoom Z x4 x33 (-1)) = (-13) then
  (lt (r41 - r41 / (1000000 : Int64) * (1000000 : Int64)) fun v70 =>
  jn (fun (y72 : Bool) (κ73 : Nat) =>
  fix4 (fun self81 (x77 : Int64) (x78 : Bool) (x79 : Int32) (κ80 : Nat) =>
  if y49 < x79 then
  (gd ((κ80 + 1) ≤ K) <|
  jn (fun (y85 : Bool) (κ86 : Nat) =>
  jn (fun (κ90 : Nat) =>
  gd (κ90 ≤ K) <|
  some false) fun j91 =>
  cond x78
  (gd ((κ86 + 1) ≤ K) <|
  jn (fun (y97 : Bool) (κ98 : Nat) =>
  if (b2i y85) = (b2i y97) then
  (gd ((κ98 + 1) ≤ K) <|
  gd ((κ98 + 2) ≤ K) <|
  if (wL_legMinutes Z x4 x33) = (wL_legMinutes Z x33 x4) then
  (lt (x33 + 1) fun v106 =>
  self35 v106 (κ98 + 2))
  else (j91 (κ98 + 2)))
  else (j91 κ98)) fun j99 =>
  if (wL_legWarmth Z x4 x33) < 0 then
  (j99 false (κ86 + 1))
  else (j99 true (κ86 + 1)))
  (j91 κ86)) fun j87 =>
  if (wL_legMinutes Z x4 x33) ≤ 0 then
  (j87 false (κ80 + 1))
  else (j87 true (κ80 + 1)))
  else (jn (fun (y110 : Bool) (κ111 : Nat) =>
  lt ((x77 - x77 / (16807 : Int64) * (16807 : Int64)) * (7 : Int64)) fun v115 =>
  lt (x79 + 1) fun v117 =>
  self81 v115 y110 v117 κ111) fun j112 =>
  jn (fun (κ119 : Nat) =>
  j112 false κ119) fun j120 =>
  cond x78
  (gd ((κ80 + 3) ≤ K) <|
  if (lg_cmp (Int32.toInt64 (wL_wayRoom Z x4 x33 x79)) ((x77 / (16807 : Int64)) - (1 : Int64))) = 0 then
  (j112 true (κ80 + 3))
  else (j120 (κ80 + 3)))
  (j120 κ80))) N v70 y72 1 κ73) fun j74 =>
  jn (fun (κ126 : Nat) =>
  j74 true κ126) fun j127 =>
  if (lg_cmp r41 (0 : Int64)) < 0 then
  (j127 (κ50 + 12))
  else (gd ((κ50 + 15) ≤ K) <|
  if (wL_wayRoom Z x4 x33 0) = x4 then
  (j127 (κ50 + 15))
  else (j74 false (κ50 + 15))))
  else (j56 (κ50 + 12)))
  else (j56 (κ50 + 9)))
  else (j56 (κ50 + 6)))
  else (j56 (κ50 + 4)))
  else (j56 (κ50 + 2))) fun j51 =>
  if 0 ≤ (lg_cmp r41 (0 : Int64)) then
  (j51 (Int64.toInt32 ((r41 / (1000000 : Int64)) - (r41 / (1000000 : Int64)) / (10 : Int64) * (10 : Int64))) κ45)
  else (j51 (-13) κ45)) fun j46 =>
  if 0 ≤ (lg_cmp r41 (0 : Int64)) then
  (j46 (Int64.toInt32 (r41 / (10000000 : Int64))) (κ34 + (ckW 7 x4 0)))
  else (j46 (-13) (κ34 + (ckW 7 x4 0))))) N 0 κ5)) N 0 0
abbrev rmL_ways (K : Nat) : Room := { frames := 18, cells := K, slots := 6 * K, locals := 698 }
set_option maxHeartbeats 4000000 in
set_option maxRecDepth 100000 in
theorem metL_ways {l : Launch} {s0 : State} {b B : Nat} {D : va_G} {T : Nat → ClassId} (F : FX l s0 b D T B) {X : Nat → Prop} (hX : ∀ o, o < 561 → ¬ X (B + o)) {N : Nat} (hN : 1200000000000 ≤ N) {Z : Nat → Int32} {hs : List (Nat → Int32)} {t : List Nat} {K : Nat}  {r : Bool} (h : fL_ways N Z K  = some r) : gMet l yL_ways cL_ways 12 (some .boolean) (rmL_ways K) [.ref (B + 0)] (gZ s0 D T B X Z hs t) (KC s0 X) (some (.int (b2i r))) (gZ s0 D T B X Z hs t) (gA B X) K (6 * K) := by
  refine gZ_of RL (by decide +kernel) rfl (Nat.le_of_ble_eq_true rfl) ?_
  intro p e s m args below meth c ls Q hx hb hlocks hml hown hts hW hk hl hS hend
  have hC := FX_C F hk hx hb hown hts
  have hl : lv_has ls 12 [(0, .ref (B + 0))] := hl
  unfold fL_ways at h
  refine lv_aload_n hx hb dL_ways_0 rfl (lv_at hl 0 rfl) ?_
  obtain ⟨g1, h⟩ := gd_out h
  refine gz_dv (As := []) (w := fun r => .int r) F hX hk hC hml hS hW (fun μ hP => z_roomCount (N := N) hP) (fun μ r h9 X9 hX9 => metX10_roomCount F hX9 is_Ga h9) ml_L_250 rfl ⟨rfl, rfl, (by first | exact Nat.le_of_ble_eq_true rfl | (simp only [rmL_ways, rmL_bestWay]; omega) | (simp only [rmL_ways]; omega)), (by first | exact Nat.le_of_ble_eq_true rfl | (simp only [rmL_ways, rmL_bestWay]; omega) | (simp only [rmL_ways]; omega))⟩ rfl hl.1 rfl (by first | exact Nat.le_of_ble_eq_true rfl | (simp only [rmL_ways, rmL_bestWay]; omega) | (simp only [rmL_ways]; omega)) dL_ways_1 ⟨(by show _ ≤ K; omega), (by show _ ≤ 6 * K; omega)⟩ (fun H locs hW hS => ?_)
  obtain ⟨v2, e3, h⟩ := lt_out h
  rw [← e3]
  refine lv_istore_n (lv' := [(1, .int v2), (0, .ref (B + 0))]) hx hb dL_ways_4 rfl hl (by decide) rfl (fun ls hl => ?_)
  refine lv_iconst (v := 0) hx hb dL_ways_5 (by decide) ?_
  refine lv_istore_n (lv' := [(2, .int 0), (1, .int v2), (0, .ref (B + 0))]) hx hb dL_ways_6 rfl hl (by decide) rfl (fun ls hl => ?_)
  refine W.widen (k := 0) (n := 6 * 0) (by omega) (by omega) ?_
  refine fix2_ind (fun (x4 : Int32) (κ5 : Nat) => ∀ (H : Heap) (locs : List Loc) (ls : Array Slot), gZ s0 D T B X Z hs t H → va_S (gA B X) s.heap H locs → lv_has ls 12 [(0, .ref (B + 0)), (1, .int v2), (2, .int x4)] → W p l e (rmL_ways K) s m args below meth c H locs κ5 (6 * κ5) Q (F0 m 7 ls [])) ?_ N _ _ h _ _ _ hW hS (lv_sub hl [2, 1, 0] rfl)
  clear h hW hS hl
  intro self6 IH7 x4 κ5 h H locs ls hW hS hl
  refine lv_iload_n hx hb dL_ways_7 rfl (lv_at hl 2 rfl) ?_
  refine lv_iload_n hx hb dL_ways_8 rfl (lv_at hl 1 rfl) ?_
  refine lv_icmp_ge (tgt := 303) hx hb dL_ways_9 (by decide) (fun c8 => ?_) (fun c8 => ?_)
  · replace h := ite_t c8 h
    refine lv_aload_n hx hb dL_ways_303 rfl (lv_at hl 0 rfl) ?_
    refine lv_iload_n hx hb dL_ways_304 rfl (lv_at hl 1 rfl) ?_
    obtain ⟨g9, h⟩ := gd_out h
    refine gz_wr (As := [.ref (B + 0), .int v2]) F hk hC hml hS hW (mq_warmth F hX hN) mw_L_284 ⟨rfl, rfl, (by first | exact Nat.le_of_ble_eq_true rfl | (simp only [rmL_ways, rmL_bestWay]; omega) | (simp only [rmL_ways]; omega)), (by first | exact Nat.le_of_ble_eq_true rfl | (simp only [rmL_ways, rmL_bestWay]; omega) | (simp only [rmL_ways]; omega))⟩ rfl hl.1 rfl (by first | exact Nat.le_of_ble_eq_true rfl | (simp only [rmL_ways, rmL_bestWay]; omega) | (simp only [rmL_ways]; omega)) dL_ways_305 ⟨(by show _ ≤ K; omega), (by show _ ≤ 6 * K; omega)⟩ (fun H locs hW hS => ?_)
    refine W.widen (k := (κ5 + 1)) (n := 6 * (κ5 + 1)) (by omega) (by omega) ?_
    change W p l e _ s m args below meth c H locs _ _ Q (F0 m _ ls (.int (wL_warmth Z v2) :: _))
    refine lv_bipush (v := (-11)) hx hb dL_ways_308 (by decide) ?_
    obtain ⟨j12, hj14, h⟩ := jn2_o h
    have J13 : ∀ (y10 : Bool) (κ11 : Nat), j12 y10 κ11 = some r → ∀ (H : Heap) (locs : List Loc) (ls : Array Slot), gZ s0 D T B X Z hs t H → va_S (gA B X) s.heap H locs → lv_has ls 12 [] → W p l e (rmL_ways K) s m args below meth c H locs κ11 (6 * κ11) Q (F0 m 385 ls [.int (b2i y10)]) := by
      clear h hW hS hl
      intro y10 κ11 h H locs ls hW hS hl
      replace h := (hj14 y10 κ11).symm.trans h
      obtain ⟨g15, h⟩ := gd_out h
      cases h
      exact hend dL_ways_385 hW hS (by omega) (by omega)
    obtain ⟨j17, hj19, h⟩ := jn1_o h
    have J18 : ∀ (κ16 : Nat), j17 κ16 = some r → ∀ (H : Heap) (locs : List Loc) (ls : Array Slot), gZ s0 D T B X Z hs t H → va_S (gA B X) s.heap H locs → lv_has ls 12 [] → W p l e (rmL_ways K) s m args below meth c H locs κ16 (6 * κ16) Q (F0 m 384 ls []) := by
      clear h hW hS hl
      intro κ16 h H locs ls hW hS hl
      replace h := (hj19 κ16).symm.trans h
      refine lv_iconst (v := 0) hx hb dL_ways_384 (by decide) ?_
      refine W.widen (k := κ16) (n := 6 * κ16) (by omega) (by omega) ?_
      exact J13 _ _ h _ _ _ hW hS (lv_sub hl [] rfl)
    refine lv_icmp_ne (tgt := 384) hx hb dL_ways_310 (by decide) (fun c20 => ?_) (fun c20 => ?_)
    · replace h := ite_f c20 h
      refine W.widen (k := (κ5 + 1)) (n := 6 * (κ5 + 1)) (by omega) (by omega) ?_
      exact J18 _ h _ _ _ hW hS (lv_sub hl [] rfl)
    · replace h := ite_t c20 h
      refine lv_aload_n hx hb dL_ways_313 rfl (lv_at hl 0 rfl) ?_
      refine lv_iload_n hx hb dL_ways_314 rfl (lv_at hl 1 rfl) ?_
      refine lv_iconst (v := 0) hx hb dL_ways_315 (by decide) ?_
      obtain ⟨g21, h⟩ := gd_out h
      refine gz_wr (As := [.ref (B + 0), .int v2, .int 0]) F hk hC hml hS hW (mq_legMinutes F hX hN) mw_L_253 ⟨rfl, rfl, (by first | exact Nat.le_of_ble_eq_true rfl | (simp only [rmL_ways, rmL_bestWay]; omega) | (simp only [rmL_ways]; omega)), (by first | exact Nat.le_of_ble_eq_true rfl | (simp only [rmL_ways, rmL_bestWay]; omega) | (simp only [rmL_ways]; omega))⟩ rfl hl.1 rfl (by first | exact Nat.le_of_ble_eq_true rfl | (simp only [rmL_ways, rmL_bestWay]; omega) | (simp only [rmL_ways]; omega)) dL_ways_316 ⟨(by show _ ≤ K; omega), (by show _ ≤ 6 * K; omega)⟩ (fun H locs hW hS => ?_)
      refine W.widen (k := (κ5 + 2)) (n := 6 * (κ5 + 2)) (by omega) (by omega) ?_
      change W p l e _ s m args below meth c H locs _ _ Q (F0 m _ ls (.int (wL_legMinutes Z v2 0) :: _))
      refine lv_bipush (v := (-11)) hx hb dL_ways_319 (by decide) ?_
      refine lv_icmp_ne (tgt := 384) hx hb dL_ways_321 (by decide) (fun c22 => ?_) (fun c22 => ?_)
      · replace h := ite_f c22 h
        refine W.widen (k := (κ5 + 2)) (n := 6 * (κ5 + 2)) (by omega) (by omega) ?_
        exact J18 _ h _ _ _ hW hS (lv_sub hl [] rfl)
      · replace h := ite_t c22 h
        refine lv_aload_n hx hb dL_ways_324 rfl (lv_at hl 0 rfl) ?_
        refine lv_iconst (v := 0) hx hb dL_ways_325 (by decide) ?_
        refine lv_iconst (v := (-1)) hx hb dL_ways_326 (by decide) ?_
        obtain ⟨g23, h⟩ := gd_out h
        refine gz_wr (As := [.ref (B + 0), .int 0, .int (-1)]) F hk hC hml hS hW (mq_legWarmth F hX hN) mw_L_282 ⟨rfl, rfl, (by first | exact Nat.le_of_ble_eq_true rfl | (simp only [rmL_ways, rmL_bestWay]; omega) | (simp only [rmL_ways]; omega)), (by first | exact Nat.le_of_ble_eq_true rfl | (simp only [rmL_ways, rmL_bestWay]; omega) | (simp only [rmL_ways]; omega))⟩ rfl hl.1 rfl (by first | exact Nat.le_of_ble_eq_true rfl | (simp only [rmL_ways, rmL_bestWay]; omega) | (simp only [rmL_ways]; omega)) dL_ways_327 ⟨(by show _ ≤ K; omega), (by show _ ≤ 6 * K; omega)⟩ (fun H locs hW hS => ?_)
        refine W.widen (k := (κ5 + 3)) (n := 6 * (κ5 + 3)) (by omega) (by omega) ?_
        change W p l e _ s m args below meth c H locs _ _ Q (F0 m _ ls (.int (wL_legWarmth Z 0 (-1)) :: _))
        refine lv_bipush (v := (-11)) hx hb dL_ways_330 (by decide) ?_
        refine lv_icmp_ne (tgt := 384) hx hb dL_ways_332 (by decide) (fun c24 => ?_) (fun c24 => ?_)
        · replace h := ite_f c24 h
          refine W.widen (k := (κ5 + 3)) (n := 6 * (κ5 + 3)) (by omega) (by omega) ?_
          exact J18 _ h _ _ _ hW hS (lv_sub hl [] rfl)
        · replace h := ite_t c24 h
          refine lv_aload_n hx hb dL_ways_335 rfl (lv_at hl 0 rfl) ?_
          refine lv_iload_n hx hb dL_ways_336 rfl (lv_at hl 1 rfl) ?_
          refine lv_iconst (v := 0) hx hb dL_ways_337 (by decide) ?_
          obtain ⟨g25, h⟩ := gd_out h
          refine gz_wr (As := [.ref (B + 0), .int v2, .int 0]) F hk hC hml hS hW (mq_minutes F hX hN) mw_L_269 ⟨rfl, rfl, (by first | exact Nat.le_of_ble_eq_true rfl | (simp only [rmL_ways, rmL_bestWay]; omega) | (simp only [rmL_ways]; omega)), (by first | exact Nat.le_of_ble_eq_true rfl | (simp only [rmL_ways, rmL_bestWay]; omega) | (simp only [rmL_ways]; omega))⟩ rfl hl.1 rfl (by first | exact Nat.le_of_ble_eq_true rfl | (simp only [rmL_ways, rmL_bestWay]; omega) | (simp only [rmL_ways]; omega)) dL_ways_338 ⟨(by show _ ≤ K; omega), (by show _ ≤ 6 * K; omega)⟩ (fun H locs hW hS => ?_)
          refine W.widen (k := (κ5 + 5)) (n := 6 * (κ5 + 5)) (by omega) (by omega) ?_
          change W p l e _ s m args below meth c H locs _ _ Q (F0 m _ ls (.int (wL_minutes Z v2 0) :: _))
          refine lv_bipush (v := (-11)) hx hb dL_ways_341 (by decide) ?_
          refine lv_icmp_ne (tgt := 384) hx hb dL_ways_343 (by decide) (fun c26 => ?_) (fun c26 => ?_)
          · replace h := ite_f c26 h
            refine W.widen (k := (κ5 + 5)) (n := 6 * (κ5 + 5)) (by omega) (by omega) ?_
            exact J18 _ h _ _ _ hW hS (lv_sub hl [] rfl)
          · replace h := ite_t c26 h
            refine lv_aload_n hx hb dL_ways_346 rfl (lv_at hl 0 rfl) ?_
            refine lv_iconst (v := 0) hx hb dL_ways_347 (by decide) ?_
            refine lv_iload_n hx hb dL_ways_348 rfl (lv_at hl 1 rfl) ?_
            obtain ⟨g27, h⟩ := gd_out h
            refine gz_wr (As := [.ref (B + 0), .int 0, .int v2]) F hk hC hml hS hW (mq_byTable F hX hN) mw_L_271 ⟨rfl, rfl, (by first | exact Nat.le_of_ble_eq_true rfl | (simp only [rmL_ways, rmL_bestWay]; omega) | (simp only [rmL_ways]; omega)), (by first | exact Nat.le_of_ble_eq_true rfl | (simp only [rmL_ways, rmL_bestWay]; omega) | (simp only [rmL_ways]; omega))⟩ rfl hl.1 rfl (by first | exact Nat.le_of_ble_eq_true rfl | (simp only [rmL_ways, rmL_bestWay]; omega) | (simp only [rmL_ways]; omega)) dL_ways_349 ⟨(by show _ ≤ K; omega), (by show _ ≤ 6 * K; omega)⟩ (fun H locs hW hS => ?_)
            refine W.widen (k := (κ5 + 7)) (n := 6 * (κ5 + 7)) (by omega) (by omega) ?_
            change W p l e _ s m args below meth c H locs _ _ Q (F0 m _ ls (.int (wL_byTable Z 0 v2) :: _))
            refine lv_bipush (v := (-11)) hx hb dL_ways_352 (by decide) ?_
            refine lv_icmp_ne (tgt := 384) hx hb dL_ways_354 (by decide) (fun c28 => ?_) (fun c28 => ?_)
            · replace h := ite_f c28 h
              refine W.widen (k := (κ5 + 7)) (n := 6 * (κ5 + 7)) (by omega) (by omega) ?_
              exact J18 _ h _ _ _ hW hS (lv_sub hl [] rfl)
            · replace h := ite_t c28 h
              refine lv_aload_n hx hb dL_ways_357 rfl (lv_at hl 0 rfl) ?_
              refine lv_iload_n hx hb dL_ways_358 rfl (lv_at hl 1 rfl) ?_
              refine lv_iload_n hx hb dL_ways_359 rfl (lv_at hl 1 rfl) ?_
              obtain ⟨g29, h⟩ := gd_out h
              refine gz_wr (As := [.ref (B + 0), .int v2, .int v2]) F hk hC hml hS hW (mq_wayLegs F hX hN) mw_L_274 ⟨rfl, rfl, (by first | exact Nat.le_of_ble_eq_true rfl | (simp only [rmL_ways, rmL_bestWay]; omega) | (simp only [rmL_ways]; omega)), (by first | exact Nat.le_of_ble_eq_true rfl | (simp only [rmL_ways, rmL_bestWay]; omega) | (simp only [rmL_ways]; omega))⟩ rfl hl.1 rfl (by first | exact Nat.le_of_ble_eq_true rfl | (simp only [rmL_ways, rmL_bestWay]; omega) | (simp only [rmL_ways]; omega)) dL_ways_360 ⟨(by show _ ≤ K; omega), (by show _ ≤ 6 * K; omega)⟩ (fun H locs hW hS => ?_)
              refine W.widen (k := (κ5 + 9)) (n := 6 * (κ5 + 9)) (by omega) (by omega) ?_
              change W p l e _ s m args below meth c H locs _ _ Q (F0 m _ ls (.int (wL_wayLegs Z v2 v2) :: _))
              refine lv_bipush (v := (-11)) hx hb dL_ways_363 (by decide) ?_
              refine lv_icmp_ne (tgt := 384) hx hb dL_ways_365 (by decide) (fun c30 => ?_) (fun c30 => ?_)
              · replace h := ite_f c30 h
                refine W.widen (k := (κ5 + 9)) (n := 6 * (κ5 + 9)) (by omega) (by omega) ?_
                exact J18 _ h _ _ _ hW hS (lv_sub hl [] rfl)
              · replace h := ite_t c30 h
                refine lv_aload_n hx hb dL_ways_368 rfl (lv_at hl 0 rfl) ?_
                refine lv_iload_n hx hb dL_ways_369 rfl (lv_at hl 1 rfl) ?_
                refine lv_iconst (v := 0) hx hb dL_ways_370 (by decide) ?_
                refine lv_iconst (v := 0) hx hb dL_ways_371 (by decide) ?_
                obtain ⟨g31, h⟩ := gd_out h
                refine gz_wr (As := [.ref (B + 0), .int v2, .int 0, .int 0]) F hk hC hml hS hW (mq_wayRoom F hX hN) mw_L_279 ⟨rfl, rfl, (by first | exact Nat.le_of_ble_eq_true rfl | (simp only [rmL_ways, rmL_bestWay]; omega) | (simp only [rmL_ways]; omega)), (by first | exact Nat.le_of_ble_eq_true rfl | (simp only [rmL_ways, rmL_bestWay]; omega) | (simp only [rmL_ways]; omega))⟩ rfl hl.1 rfl (by first | exact Nat.le_of_ble_eq_true rfl | (simp only [rmL_ways, rmL_bestWay]; omega) | (simp only [rmL_ways]; omega)) dL_ways_372 ⟨(by show _ ≤ K; omega), (by show _ ≤ 6 * K; omega)⟩ (fun H locs hW hS => ?_)
                refine W.widen (k := (κ5 + 12)) (n := 6 * (κ5 + 12)) (by omega) (by omega) ?_
                change W p l e _ s m args below meth c H locs _ _ Q (F0 m _ ls (.int (wL_wayRoom Z v2 0 0) :: _))
                refine lv_bipush (v := (-11)) hx hb dL_ways_375 (by decide) ?_
                refine lv_icmp_ne (tgt := 384) hx hb dL_ways_377 (by decide) (fun c32 => ?_) (fun c32 => ?_)
                · replace h := ite_f c32 h
                  refine W.widen (k := (κ5 + 12)) (n := 6 * (κ5 + 12)) (by omega) (by omega) ?_
                  exact J18 _ h _ _ _ hW hS (lv_sub hl [] rfl)
                · replace h := ite_t c32 h
                  refine lv_iconst (v := 1) hx hb dL_ways_380 (by decide) ?_
                  refine lv_goto (tgt := 385) hx hb dL_ways_381 (by decide) ?_
                  refine W.widen (k := (κ5 + 12)) (n := 6 * (κ5 + 12)) (by omega) (by omega) ?_
                  exact J13 _ _ h _ _ _ hW hS (lv_sub hl [] rfl)
  · replace h := ite_f c8 h
    refine lv_iconst (v := 0) hx hb dL_ways_12 (by decide) ?_
    refine lv_istore_n (lv' := [(3, .int 0), (0, .ref (B + 0)), (1, .int v2), (2, .int x4)]) hx hb dL_ways_13 rfl hl (by decide) rfl (fun ls hl => ?_)
    refine W.widen (k := κ5) (n := 6 * κ5) (by omega) (by omega) ?_
    refine fix2_ind (fun (x33 : Int32) (κ34 : Nat) => ∀ (H : Heap) (locs : List Loc) (ls : Array Slot), gZ s0 D T B X Z hs t H → va_S (gA B X) s.heap H locs → lv_has ls 12 [(0, .ref (B + 0)), (1, .int v2), (2, .int x4), (3, .int x33)] → W p l e (rmL_ways K) s m args below meth c H locs κ34 (6 * κ34) Q (F0 m 14 ls [])) ?_ N _ _ h _ _ _ hW hS (lv_sub hl [1, 2, 3, 0] rfl)
    clear h hW hS hl
    intro self35 IH36 x33 κ34 h H locs ls hW hS hl
    refine lv_iload_n hx hb dL_ways_14 rfl (lv_at hl 3 rfl) ?_
    refine lv_iload_n hx hb dL_ways_15 rfl (lv_at hl 1 rfl) ?_
    refine lv_icmp_ge (tgt := 297) hx hb dL_ways_16 (by decide) (fun c37 => ?_) (fun c37 => ?_)
    · replace h := ite_t c37 h
      obtain ⟨v38, e39, h⟩ := lt_out h
      refine lv_iinc (v := v38) (lv' := [(2, .int v38), (0, .ref (B + 0)), (1, .int v2), (3, .int x33)]) hx hb dL_ways_297 hl (k := 2) rfl (by rw [e39]; rfl) (by decide) rfl (fun ls hl => ?_)
      refine lv_goto (tgt := 7) hx hb dL_ways_300 (by decide) ?_
      refine W.widen (k := κ34) (n := 6 * κ34) (by omega) (by omega) ?_
      exact IH7 _ _ h _ _ _ hW hS (lv_sub hl [1, 2, 0] rfl)
    · replace h := ite_f c37 h
      refine lv_aload_n hx hb dL_ways_19 rfl (lv_at hl 0 rfl) ?_
      refine lv_iload_n hx hb dL_ways_20 rfl (lv_at hl 2 rfl) ?_
      refine lv_iload_n hx hb dL_ways_21 rfl (lv_at hl 3 rfl) ?_
      refine lv_iconst (v := 0) hx hb dL_ways_22 (by decide) ?_
      obtain ⟨g40, h⟩ := gd_out h
      obtain ⟨r41, hcall, h⟩ := bd_out h
      refine gz_in (As := [.ref (B + 0), .int x4, .int x33, .int 0]) F hk hC hml hS hW (metL_bestWay F hX hN 8 hcall) ml_L_255 ⟨rfl, rfl, (by first | exact Nat.le_of_ble_eq_true rfl | (simp only [rmL_ways, rmL_bestWay]; omega) | (simp only [rmL_ways]; omega)), (by first | exact Nat.le_of_ble_eq_true rfl | (simp only [rmL_ways, rmL_bestWay]; omega) | (simp only [rmL_ways]; omega))⟩ rfl hl.1 rfl (by first | exact Nat.le_of_ble_eq_true rfl | (simp only [rmL_ways, rmL_bestWay]; omega) | (simp only [rmL_ways]; omega)) dL_ways_23 ⟨(by show _ ≤ K; omega), (by show _ ≤ 6 * K; omega)⟩ (fun H locs hW hS => ?_)
      refine W.widen (k := (κ34 + (ckW 7 x4 0))) (n := 6 * (κ34 + (ckW 7 x4 0))) (by omega) (by omega) ?_
      refine lv_lstore (lv' := [(4, .long r41), (0, .ref (B + 0)), (1, .int v2), (2, .int x4), (3, .int x33)]) hx hb dL_ways_26 hl (by decide) rfl (fun ls hl => ?_)
      refine lv_lload hx hb dL_ways_28 (lv_at hl 0 rfl) ?_
      refine lv_lconst (v := 0) hx hb dL_ways_30 (by decide) ?_
      refine W.lcmp hx hb dL_ways_31 ?_
      obtain ⟨j46, hj48, h⟩ := jn2_o h
      have J47 : ∀ (y44 : Int32) (κ45 : Nat), j46 y44 κ45 = some r → ∀ (H : Heap) (locs : List Loc) (ls : Array Slot), gZ s0 D T B X Z hs t H → va_S (gA B X) s.heap H locs → lv_has ls 12 [(0, .ref (B + 0)), (1, .int v2), (2, .int x4), (3, .int x33), (4, .long r41)] → W p l e (rmL_ways K) s m args below meth c H locs κ45 (6 * κ45) Q (F0 m 47 ls [.int y44]) := by
        clear h hW hS hl
        intro y44 κ45 h H locs ls hW hS hl
        replace h := (hj48 y44 κ45).symm.trans h
        refine lv_istore (lv' := [(6, .int y44), (0, .ref (B + 0)), (1, .int v2), (2, .int x4), (3, .int x33), (4, .long r41)]) hx hb dL_ways_47 hl (by decide) rfl (fun ls hl => ?_)
        refine lv_lload hx hb dL_ways_49 (lv_at hl 5 rfl) ?_
        refine lv_lconst (v := 0) hx hb dL_ways_51 (by decide) ?_
        refine W.lcmp hx hb dL_ways_52 ?_
        obtain ⟨j51, hj53, h⟩ := jn2_o h
        have J52 : ∀ (y49 : Int32) (κ50 : Nat), j51 y49 κ50 = some r → ∀ (H : Heap) (locs : List Loc) (ls : Array Slot), gZ s0 D T B X Z hs t H → va_S (gA B X) s.heap H locs → lv_has ls 12 [(0, .ref (B + 0)), (1, .int v2), (2, .int x4), (3, .int x33), (4, .long r41), (6, .int y44)] → W p l e (rmL_ways K) s m args below meth c H locs κ50 (6 * κ50) Q (F0 m 72 ls [.int y49]) := by
          clear h hW hS hl
          intro y49 κ50 h H locs ls hW hS hl
          replace h := (hj53 y49 κ50).symm.trans h
          refine lv_istore (lv' := [(7, .int y49), (0, .ref (B + 0)), (1, .int v2), (2, .int x4), (3, .int x33), (4, .long r41), (6, .int y44)]) hx hb dL_ways_72 hl (by decide) rfl (fun ls hl => ?_)
          refine lv_aload_n hx hb dL_ways_74 rfl (lv_at hl 1 rfl) ?_
          refine lv_iload_n hx hb dL_ways_75 rfl (lv_at hl 3 rfl) ?_
          refine lv_iload_n hx hb dL_ways_76 rfl (lv_at hl 4 rfl) ?_
          obtain ⟨g54, h⟩ := gd_out h
          refine gz_wr (As := [.ref (B + 0), .int x4, .int x33]) F hk hC hml hS hW (mq_minutes F hX hN) mw_L_269 ⟨rfl, rfl, (by first | exact Nat.le_of_ble_eq_true rfl | (simp only [rmL_ways, rmL_bestWay]; omega) | (simp only [rmL_ways]; omega)), (by first | exact Nat.le_of_ble_eq_true rfl | (simp only [rmL_ways, rmL_bestWay]; omega) | (simp only [rmL_ways]; omega))⟩ rfl hl.1 rfl (by first | exact Nat.le_of_ble_eq_true rfl | (simp only [rmL_ways, rmL_bestWay]; omega) | (simp only [rmL_ways]; omega)) dL_ways_77 ⟨(by show _ ≤ K; omega), (by show _ ≤ 6 * K; omega)⟩ (fun H locs hW hS => ?_)
          refine W.widen (k := (κ50 + 2)) (n := 6 * (κ50 + 2)) (by omega) (by omega) ?_
          change W p l e _ s m args below meth c H locs _ _ Q (F0 m _ ls (.int (wL_minutes Z x4 x33) :: _))
          refine lv_iload hx hb dL_ways_80 (lv_at hl 6 rfl) ?_
          obtain ⟨j56, hj58, h⟩ := jn1_o h
          have J57 : ∀ (κ55 : Nat), j56 κ55 = some r → ∀ (H : Heap) (locs : List Loc) (ls : Array Slot), gZ s0 D T B X Z hs t H → va_S (gA B X) s.heap H locs → lv_has ls 12 [] → W p l e (rmL_ways K) s m args below meth c H locs κ55 (6 * κ55) Q (F0 m 138 ls []) := by
            clear h hW hS hl
            intro κ55 h H locs ls hW hS hl
            replace h := (hj58 κ55).symm.trans h
            refine lv_iconst (v := 0) hx hb dL_ways_138 (by decide) ?_
            obtain ⟨g59, h⟩ := gd_out h
            cases h
            exact hend dL_ways_139 hW hS (by omega) (by omega)
          refine lv_icmp_ne (tgt := 138) hx hb dL_ways_82 (by decide) (fun c60 => ?_) (fun c60 => ?_)
          · replace h := ite_f c60 h
            refine W.widen (k := (κ50 + 2)) (n := 6 * (κ50 + 2)) (by omega) (by omega) ?_
            exact J57 _ h _ _ _ hW hS (lv_sub hl [] rfl)
          · replace h := ite_t c60 h
            refine lv_aload_n hx hb dL_ways_85 rfl (lv_at hl 1 rfl) ?_
            refine lv_iload_n hx hb dL_ways_86 rfl (lv_at hl 3 rfl) ?_
            refine lv_iload_n hx hb dL_ways_87 rfl (lv_at hl 4 rfl) ?_
            obtain ⟨g61, h⟩ := gd_out h
            refine gz_wr (As := [.ref (B + 0), .int x4, .int x33]) F hk hC hml hS hW (mq_byTable F hX hN) mw_L_271 ⟨rfl, rfl, (by first | exact Nat.le_of_ble_eq_true rfl | (simp only [rmL_ways, rmL_bestWay]; omega) | (simp only [rmL_ways]; omega)), (by first | exact Nat.le_of_ble_eq_true rfl | (simp only [rmL_ways, rmL_bestWay]; omega) | (simp only [rmL_ways]; omega))⟩ rfl hl.1 rfl (by first | exact Nat.le_of_ble_eq_true rfl | (simp only [rmL_ways, rmL_bestWay]; omega) | (simp only [rmL_ways]; omega)) dL_ways_88 ⟨(by show _ ≤ K; omega), (by show _ ≤ 6 * K; omega)⟩ (fun H locs hW hS => ?_)
            refine W.widen (k := (κ50 + 4)) (n := 6 * (κ50 + 4)) (by omega) (by omega) ?_
            change W p l e _ s m args below meth c H locs _ _ Q (F0 m _ ls (.int (wL_byTable Z x4 x33) :: _))
            refine lv_iload hx hb dL_ways_91 (lv_at hl 6 rfl) ?_
            refine lv_icmp_ne (tgt := 138) hx hb dL_ways_93 (by decide) (fun c62 => ?_) (fun c62 => ?_)
            · replace h := ite_f c62 h
              refine W.widen (k := (κ50 + 4)) (n := 6 * (κ50 + 4)) (by omega) (by omega) ?_
              exact J57 _ h _ _ _ hW hS (lv_sub hl [] rfl)
            · replace h := ite_t c62 h
              refine lv_aload_n hx hb dL_ways_96 rfl (lv_at hl 1 rfl) ?_
              refine lv_iload_n hx hb dL_ways_97 rfl (lv_at hl 3 rfl) ?_
              refine lv_iload_n hx hb dL_ways_98 rfl (lv_at hl 4 rfl) ?_
              obtain ⟨g63, h⟩ := gd_out h
              refine gz_wr (As := [.ref (B + 0), .int x4, .int x33]) F hk hC hml hS hW (mq_wayLegs F hX hN) mw_L_274 ⟨rfl, rfl, (by first | exact Nat.le_of_ble_eq_true rfl | (simp only [rmL_ways, rmL_bestWay]; omega) | (simp only [rmL_ways]; omega)), (by first | exact Nat.le_of_ble_eq_true rfl | (simp only [rmL_ways, rmL_bestWay]; omega) | (simp only [rmL_ways]; omega))⟩ rfl hl.1 rfl (by first | exact Nat.le_of_ble_eq_true rfl | (simp only [rmL_ways, rmL_bestWay]; omega) | (simp only [rmL_ways]; omega)) dL_ways_99 ⟨(by show _ ≤ K; omega), (by show _ ≤ 6 * K; omega)⟩ (fun H locs hW hS => ?_)
              refine W.widen (k := (κ50 + 6)) (n := 6 * (κ50 + 6)) (by omega) (by omega) ?_
              change W p l e _ s m args below meth c H locs _ _ Q (F0 m _ ls (.int (wL_wayLegs Z x4 x33) :: _))
              refine lv_iload hx hb dL_ways_102 (lv_at hl 0 rfl) ?_
              refine lv_icmp_ne (tgt := 138) hx hb dL_ways_104 (by decide) (fun c64 => ?_) (fun c64 => ?_)
              · replace h := ite_f c64 h
                refine W.widen (k := (κ50 + 6)) (n := 6 * (κ50 + 6)) (by omega) (by omega) ?_
                exact J57 _ h _ _ _ hW hS (lv_sub hl [] rfl)
              · replace h := ite_t c64 h
                refine lv_aload_n hx hb dL_ways_107 rfl (lv_at hl 1 rfl) ?_
                refine lv_iload_n hx hb dL_ways_108 rfl (lv_at hl 3 rfl) ?_
                refine lv_iload_n hx hb dL_ways_109 rfl (lv_at hl 4 rfl) ?_
                refine lv_iconst (v := 0) hx hb dL_ways_110 (by decide) ?_
                refine lv_iload hx hb dL_ways_111 (lv_at hl 0 rfl) ?_
                obtain ⟨g65, h⟩ := gd_out h
                refine gw_max hC (hml.trans hl.1.symm) lm_L_276 lb_max.1 lb_max.2.1 lb_max.2.2 (by first | exact Nat.le_of_ble_eq_true rfl | (simp only [rmL_ways, rmL_bestWay]; omega) | (simp only [rmL_ways]; omega)) (by first | exact Nat.le_of_ble_eq_true rfl | (simp only [rmL_ways, rmL_bestWay]; omega) | (simp only [rmL_ways]; omega)) (by show _ ≤ K; omega) (by show _ ≤ 6 * K; omega) dL_ways_113 ?_
                refine lv_iconst (v := 1) hx hb dL_ways_116 (by decide) ?_
                refine lv_iadd hx hb dL_ways_117 ?_
                obtain ⟨g66, h⟩ := gd_out h
                refine gz_wr (As := [.ref (B + 0), .int x4, .int x33, .int ((imax 0 y49) + 1)]) F hk hC hml hS hW (mq_wayRoom F hX hN) mw_L_279 ⟨rfl, rfl, (by first | exact Nat.le_of_ble_eq_true rfl | (simp only [rmL_ways, rmL_bestWay]; omega) | (simp only [rmL_ways]; omega)), (by first | exact Nat.le_of_ble_eq_true rfl | (simp only [rmL_ways, rmL_bestWay]; omega) | (simp only [rmL_ways]; omega))⟩ rfl hl.1 rfl (by first | exact Nat.le_of_ble_eq_true rfl | (simp only [rmL_ways, rmL_bestWay]; omega) | (simp only [rmL_ways]; omega)) dL_ways_118 ⟨(by show _ ≤ K; omega), (by show _ ≤ 6 * K; omega)⟩ (fun H locs hW hS => ?_)
                refine W.widen (k := (κ50 + 9)) (n := 6 * (κ50 + 9)) (by omega) (by omega) ?_
                change W p l e _ s m args below meth c H locs _ _ Q (F0 m _ ls (.int (wL_wayRoom Z x4 x33 ((imax 0 y49) + 1)) :: _))
                refine lv_bipush (v := (-13)) hx hb dL_ways_121 (by decide) ?_
                refine lv_icmp_ne (tgt := 138) hx hb dL_ways_123 (by decide) (fun c67 => ?_) (fun c67 => ?_)
                · replace h := ite_f c67 h
                  refine W.widen (k := (κ50 + 9)) (n := 6 * (κ50 + 9)) (by omega) (by omega) ?_
                  exact J57 _ h _ _ _ hW hS (lv_sub hl [] rfl)
                · replace h := ite_t c67 h
                  refine lv_aload_n hx hb dL_ways_126 rfl (lv_at hl 1 rfl) ?_
                  refine lv_iload_n hx hb dL_ways_127 rfl (lv_at hl 3 rfl) ?_
                  refine lv_iload_n hx hb dL_ways_128 rfl (lv_at hl 4 rfl) ?_
                  refine lv_iconst (v := (-1)) hx hb dL_ways_129 (by decide) ?_
                  obtain ⟨g68, h⟩ := gd_out h
                  refine gz_wr (As := [.ref (B + 0), .int x4, .int x33, .int (-1)]) F hk hC hml hS hW (mq_wayRoom F hX hN) mw_L_279 ⟨rfl, rfl, (by first | exact Nat.le_of_ble_eq_true rfl | (simp only [rmL_ways, rmL_bestWay]; omega) | (simp only [rmL_ways]; omega)), (by first | exact Nat.le_of_ble_eq_true rfl | (simp only [rmL_ways, rmL_bestWay]; omega) | (simp only [rmL_ways]; omega))⟩ rfl hl.1 rfl (by first | exact Nat.le_of_ble_eq_true rfl | (simp only [rmL_ways, rmL_bestWay]; omega) | (simp only [rmL_ways]; omega)) dL_ways_130 ⟨(by show _ ≤ K; omega), (by show _ ≤ 6 * K; omega)⟩ (fun H locs hW hS => ?_)
                  refine W.widen (k := (κ50 + 12)) (n := 6 * (κ50 + 12)) (by omega) (by omega) ?_
                  change W p l e _ s m args below meth c H locs _ _ Q (F0 m _ ls (.int (wL_wayRoom Z x4 x33 (-1)) :: _))
                  refine lv_bipush (v := (-13)) hx hb dL_ways_133 (by decide) ?_
                  refine lv_icmp_eq (tgt := 140) hx hb dL_ways_135 (by decide) (fun c69 => ?_) (fun c69 => ?_)
                  · replace h := ite_t c69 h
                    refine lv_lload hx hb dL_ways_140 (lv_at hl 5 rfl) ?_
                    refine lv_ldc2 (v := 1000000) hx hb hown (hts _ kc_L_261) dL_ways_142 ?_
                    refine lv_lrem hx hb dL_ways_145 (by decide) ?_
                    obtain ⟨v70, e71, h⟩ := lt_out h
                    rw [← e71]
                    refine lv_lstore (lv' := [(8, .long v70), (7, .int y49), (0, .ref (B + 0)), (1, .int v2), (2, .int x4), (3, .int x33), (4, .long r41), (6, .int y44)]) hx hb dL_ways_146 hl (by decide) rfl (fun ls hl => ?_)
                    refine lv_lload hx hb dL_ways_148 (lv_at hl 6 rfl) ?_
                    refine lv_lconst (v := 0) hx hb dL_ways_150 (by decide) ?_
                    refine W.lcmp hx hb dL_ways_151 ?_
                    obtain ⟨j74, hj76, h⟩ := jn2_o h
                    have J75 : ∀ (y72 : Bool) (κ73 : Nat), j74 y72 κ73 = some r → ∀ (H : Heap) (locs : List Loc) (ls : Array Slot), gZ s0 D T B X Z hs t H → va_S (gA B X) s.heap H locs → lv_has ls 12 [(0, .ref (B + 0)), (1, .int v2), (2, .int x4), (3, .int x33), (7, .int y49), (8, .long v70)] → W p l e (rmL_ways K) s m args below meth c H locs κ73 (6 * κ73) Q (F0 m 171 ls [.int (b2i y72)]) := by
                      clear h hW hS hl
                      intro y72 κ73 h H locs ls hW hS hl
                      replace h := (hj76 y72 κ73).symm.trans h
                      refine lv_istore (lv' := [(10, .int (b2i y72)), (0, .ref (B + 0)), (1, .int v2), (2, .int x4), (3, .int x33), (7, .int y49), (8, .long v70)]) hx hb dL_ways_171 hl (by decide) rfl (fun ls hl => ?_)
                      refine lv_iconst (v := 1) hx hb dL_ways_173 (by decide) ?_
                      refine lv_istore (lv' := [(11, .int 1), (10, .int (b2i y72)), (0, .ref (B + 0)), (1, .int v2), (2, .int x4), (3, .int x33), (7, .int y49), (8, .long v70)]) hx hb dL_ways_174 hl (by decide) rfl (fun ls hl => ?_)
                      refine W.widen (k := κ73) (n := 6 * κ73) (by omega) (by omega) ?_
                      refine fix4_ind (fun (x77 : Int64) (x78 : Bool) (x79 : Int32) (κ80 : Nat) => ∀ (H : Heap) (locs : List Loc) (ls : Array Slot), gZ s0 D T B X Z hs t H → va_S (gA B X) s.heap H locs → lv_has ls 12 [(0, .ref (B + 0)), (1, .int v2), (2, .int x4), (3, .int x33), (7, .int y49), (8, .long x77), (10, .int (b2i x78)), (11, .int x79)] → W p l e (rmL_ways K) s m args below meth c H locs κ80 (6 * κ80) Q (F0 m 176 ls [])) ?_ N _ _ _ _ h _ _ _ hW hS (lv_sub hl [2, 3, 4, 5, 6, 7, 1, 0] rfl)
                      clear h hW hS hl
                      intro self81 IH82 x77 x78 x79 κ80 h H locs ls hW hS hl
                      refine lv_iload hx hb dL_ways_176 (lv_at hl 7 rfl) ?_
                      refine lv_iload hx hb dL_ways_178 (lv_at hl 4 rfl) ?_
                      refine lv_icmp_gt (tgt := 234) hx hb dL_ways_180 (by decide) (fun c83 => ?_) (fun c83 => ?_)
                      · replace h := ite_t c83 h
                        refine lv_aload_n hx hb dL_ways_234 rfl (lv_at hl 0 rfl) ?_
                        refine lv_iload_n hx hb dL_ways_235 rfl (lv_at hl 2 rfl) ?_
                        refine lv_iload_n hx hb dL_ways_236 rfl (lv_at hl 3 rfl) ?_
                        obtain ⟨g84, h⟩ := gd_out h
                        refine gz_wr (As := [.ref (B + 0), .int x4, .int x33]) F hk hC hml hS hW (mq_legMinutes F hX hN) mw_L_253 ⟨rfl, rfl, (by first | exact Nat.le_of_ble_eq_true rfl | (simp only [rmL_ways, rmL_bestWay]; omega) | (simp only [rmL_ways]; omega)), (by first | exact Nat.le_of_ble_eq_true rfl | (simp only [rmL_ways, rmL_bestWay]; omega) | (simp only [rmL_ways]; omega))⟩ rfl hl.1 rfl (by first | exact Nat.le_of_ble_eq_true rfl | (simp only [rmL_ways, rmL_bestWay]; omega) | (simp only [rmL_ways]; omega)) dL_ways_237 ⟨(by show _ ≤ K; omega), (by show _ ≤ 6 * K; omega)⟩ (fun H locs hW hS => ?_)
                        refine W.widen (k := (κ80 + 1)) (n := 6 * (κ80 + 1)) (by omega) (by omega) ?_
                        change W p l e _ s m args below meth c H locs _ _ Q (F0 m _ ls (.int (wL_legMinutes Z x4 x33) :: _))
                        obtain ⟨j87, hj89, h⟩ := jn2_o h
                        have J88 : ∀ (y85 : Bool) (κ86 : Nat), j87 y85 κ86 = some r → ∀ (H : Heap) (locs : List Loc) (ls : Array Slot), gZ s0 D T B X Z hs t H → va_S (gA B X) s.heap H locs → lv_has ls 12 [(0, .ref (B + 0)), (1, .int v2), (2, .int x4), (3, .int x33), (10, .int (b2i x78))] → W p l e (rmL_ways K) s m args below meth c H locs κ86 (6 * κ86) Q (F0 m 248 ls [.int (b2i y85)]) := by
                          clear h hW hS hl
                          intro y85 κ86 h H locs ls hW hS hl
                          replace h := (hj89 y85 κ86).symm.trans h
                          refine lv_istore (lv' := [(11, .int (b2i y85)), (0, .ref (B + 0)), (1, .int v2), (2, .int x4), (3, .int x33), (10, .int (b2i x78))]) hx hb dL_ways_248 hl (by decide) rfl (fun ls hl => ?_)
                          refine lv_iload hx hb dL_ways_250 (lv_at hl 5 rfl) ?_
                          obtain ⟨j91, hj93, h⟩ := jn1_o h
                          have J92 : ∀ (κ90 : Nat), j91 κ90 = some r → ∀ (H : Heap) (locs : List Loc) (ls : Array Slot), gZ s0 D T B X Z hs t H → va_S (gA B X) s.heap H locs → lv_has ls 12 [] → W p l e (rmL_ways K) s m args below meth c H locs κ90 (6 * κ90) Q (F0 m 289 ls []) := by
                            clear h hW hS hl
                            intro κ90 h H locs ls hW hS hl
                            replace h := (hj93 κ90).symm.trans h
                            refine lv_iconst (v := 0) hx hb dL_ways_289 (by decide) ?_
                            obtain ⟨g94, h⟩ := gd_out h
                            cases h
                            exact hend dL_ways_290 hW hS (by omega) (by omega)
                          refine gw_if_eqZ (tgt := 289) hx hb dL_ways_252 (by decide) (fun c95 => ?_) (fun c95 => ?_)
                          · replace h := cond_f c95 h
                            refine W.widen (k := κ86) (n := 6 * κ86) (by omega) (by omega) ?_
                            exact J92 _ h _ _ _ hW hS (lv_sub hl [] rfl)
                          · replace h := cond_t c95 h
                            refine lv_iload hx hb dL_ways_255 (lv_at hl 0 rfl) ?_
                            refine lv_aload_n hx hb dL_ways_257 rfl (lv_at hl 1 rfl) ?_
                            refine lv_iload_n hx hb dL_ways_258 rfl (lv_at hl 3 rfl) ?_
                            refine lv_iload_n hx hb dL_ways_259 rfl (lv_at hl 4 rfl) ?_
                            obtain ⟨g96, h⟩ := gd_out h
                            refine gz_wr (As := [.ref (B + 0), .int x4, .int x33]) F hk hC hml hS hW (mq_legWarmth F hX hN) mw_L_282 ⟨rfl, rfl, (by first | exact Nat.le_of_ble_eq_true rfl | (simp only [rmL_ways, rmL_bestWay]; omega) | (simp only [rmL_ways]; omega)), (by first | exact Nat.le_of_ble_eq_true rfl | (simp only [rmL_ways, rmL_bestWay]; omega) | (simp only [rmL_ways]; omega))⟩ rfl hl.1 rfl (by first | exact Nat.le_of_ble_eq_true rfl | (simp only [rmL_ways, rmL_bestWay]; omega) | (simp only [rmL_ways]; omega)) dL_ways_260 ⟨(by show _ ≤ K; omega), (by show _ ≤ 6 * K; omega)⟩ (fun H locs hW hS => ?_)
                            refine W.widen (k := (κ86 + 1)) (n := 6 * (κ86 + 1)) (by omega) (by omega) ?_
                            change W p l e _ s m args below meth c H locs _ _ Q (F0 m _ ls (.int (wL_legWarmth Z x4 x33) :: _))
                            obtain ⟨j99, hj101, h⟩ := jn2_o h
                            have J100 : ∀ (y97 : Bool) (κ98 : Nat), j99 y97 κ98 = some r → ∀ (H : Heap) (locs : List Loc) (ls : Array Slot), gZ s0 D T B X Z hs t H → va_S (gA B X) s.heap H locs → lv_has ls 12 [(0, .ref (B + 0)), (1, .int v2), (2, .int x4), (3, .int x33)] → W p l e (rmL_ways K) s m args below meth c H locs κ98 (6 * κ98) Q (F0 m 271 ls [.int (b2i y97), .int (b2i y85)]) := by
                              clear h hW hS hl
                              intro y97 κ98 h H locs ls hW hS hl
                              replace h := (hj101 y97 κ98).symm.trans h
                              refine lv_icmp_ne (tgt := 289) hx hb dL_ways_271 (by decide) (fun c102 => ?_) (fun c102 => ?_)
                              · replace h := ite_f c102 h
                                refine W.widen (k := κ98) (n := 6 * κ98) (by omega) (by omega) ?_
                                exact J92 _ h _ _ _ hW hS (lv_sub hl [] rfl)
                              · replace h := ite_t c102 h
                                refine lv_aload_n hx hb dL_ways_274 rfl (lv_at hl 0 rfl) ?_
                                refine lv_iload_n hx hb dL_ways_275 rfl (lv_at hl 2 rfl) ?_
                                refine lv_iload_n hx hb dL_ways_276 rfl (lv_at hl 3 rfl) ?_
                                obtain ⟨g103, h⟩ := gd_out h
                                refine gz_wr (As := [.ref (B + 0), .int x4, .int x33]) F hk hC hml hS hW (mq_legMinutes F hX hN) mw_L_253 ⟨rfl, rfl, (by first | exact Nat.le_of_ble_eq_true rfl | (simp only [rmL_ways, rmL_bestWay]; omega) | (simp only [rmL_ways]; omega)), (by first | exact Nat.le_of_ble_eq_true rfl | (simp only [rmL_ways, rmL_bestWay]; omega) | (simp only [rmL_ways]; omega))⟩ rfl hl.1 rfl (by first | exact Nat.le_of_ble_eq_true rfl | (simp only [rmL_ways, rmL_bestWay]; omega) | (simp only [rmL_ways]; omega)) dL_ways_277 ⟨(by show _ ≤ K; omega), (by show _ ≤ 6 * K; omega)⟩ (fun H locs hW hS => ?_)
                                refine W.widen (k := (κ98 + 1)) (n := 6 * (κ98 + 1)) (by omega) (by omega) ?_
                                change W p l e _ s m args below meth c H locs _ _ Q (F0 m _ ls (.int (wL_legMinutes Z x4 x33) :: _))
                                refine lv_aload_n hx hb dL_ways_280 rfl (lv_at hl 0 rfl) ?_
                                refine lv_iload_n hx hb dL_ways_281 rfl (lv_at hl 3 rfl) ?_
                                refine lv_iload_n hx hb dL_ways_282 rfl (lv_at hl 2 rfl) ?_
                                obtain ⟨g104, h⟩ := gd_out h
                                refine gz_wr (As := [.ref (B + 0), .int x33, .int x4]) F hk hC hml hS hW (mq_legMinutes F hX hN) mw_L_253 ⟨rfl, rfl, (by first | exact Nat.le_of_ble_eq_true rfl | (simp only [rmL_ways, rmL_bestWay]; omega) | (simp only [rmL_ways]; omega)), (by first | exact Nat.le_of_ble_eq_true rfl | (simp only [rmL_ways, rmL_bestWay]; omega) | (simp only [rmL_ways]; omega))⟩ rfl hl.1 rfl (by first | exact Nat.le_of_ble_eq_true rfl | (simp only [rmL_ways, rmL_bestWay]; omega) | (simp only [rmL_ways]; omega)) dL_ways_283 ⟨(by show _ ≤ K; omega), (by show _ ≤ 6 * K; omega)⟩ (fun H locs hW hS => ?_)
                                refine W.widen (k := (κ98 + 2)) (n := 6 * (κ98 + 2)) (by omega) (by omega) ?_
                                change W p l e _ s m args below meth c H locs _ _ Q (F0 m _ ls (.int (wL_legMinutes Z x33 x4) :: _))
                                refine lv_icmp_eq (tgt := 291) hx hb dL_ways_286 (by decide) (fun c105 => ?_) (fun c105 => ?_)
                                · replace h := ite_t c105 h
                                  obtain ⟨v106, e107, h⟩ := lt_out h
                                  refine lv_iinc (v := v106) (lv' := [(3, .int v106), (0, .ref (B + 0)), (1, .int v2), (2, .int x4)]) hx hb dL_ways_291 hl (k := 3) rfl (by rw [e107]; rfl) (by decide) rfl (fun ls hl => ?_)
                                  refine lv_goto (tgt := 14) hx hb dL_ways_294 (by decide) ?_
                                  refine W.widen (k := (κ98 + 2)) (n := 6 * (κ98 + 2)) (by omega) (by omega) ?_
                                  exact IH36 _ _ h _ _ _ hW hS (lv_sub hl [1, 2, 3, 0] rfl)
                                · replace h := ite_f c105 h
                                  refine W.widen (k := (κ98 + 2)) (n := 6 * (κ98 + 2)) (by omega) (by omega) ?_
                                  exact J92 _ h _ _ _ hW hS (lv_sub hl [] rfl)
                            refine lv_if_lt (tgt := 270) hx hb dL_ways_263 (by decide) (fun c108 => ?_) (fun c108 => ?_)
                            · replace h := ite_t c108 h
                              refine lv_iconst (v := 0) hx hb dL_ways_270 (by decide) ?_
                              refine W.widen (k := (κ86 + 1)) (n := 6 * (κ86 + 1)) (by omega) (by omega) ?_
                              exact J100 _ _ h _ _ _ hW hS (lv_sub hl [1, 2, 3, 4] rfl)
                            · replace h := ite_f c108 h
                              refine lv_iconst (v := 1) hx hb dL_ways_266 (by decide) ?_
                              refine lv_goto (tgt := 271) hx hb dL_ways_267 (by decide) ?_
                              refine W.widen (k := (κ86 + 1)) (n := 6 * (κ86 + 1)) (by omega) (by omega) ?_
                              exact J100 _ _ h _ _ _ hW hS (lv_sub hl [1, 2, 3, 4] rfl)
                        refine lv_if_le (tgt := 247) hx hb dL_ways_240 (by decide) (fun c109 => ?_) (fun c109 => ?_)
                        · replace h := ite_t c109 h
                          refine lv_iconst (v := 0) hx hb dL_ways_247 (by decide) ?_
                          refine W.widen (k := (κ80 + 1)) (n := 6 * (κ80 + 1)) (by omega) (by omega) ?_
                          exact J88 _ _ h _ _ _ hW hS (lv_sub hl [0, 1, 2, 3, 6] rfl)
                        · replace h := ite_f c109 h
                          refine lv_iconst (v := 1) hx hb dL_ways_243 (by decide) ?_
                          refine lv_goto (tgt := 248) hx hb dL_ways_244 (by decide) ?_
                          refine W.widen (k := (κ80 + 1)) (n := 6 * (κ80 + 1)) (by omega) (by omega) ?_
                          exact J88 _ _ h _ _ _ hW hS (lv_sub hl [0, 1, 2, 3, 6] rfl)
                      · replace h := ite_f c83 h
                        refine lv_iload hx hb dL_ways_183 (lv_at hl 6 rfl) ?_
                        obtain ⟨j112, hj114, h⟩ := jn2_o h
                        have J113 : ∀ (y110 : Bool) (κ111 : Nat), j112 y110 κ111 = some r → ∀ (H : Heap) (locs : List Loc) (ls : Array Slot), gZ s0 D T B X Z hs t H → va_S (gA B X) s.heap H locs → lv_has ls 12 [(0, .ref (B + 0)), (1, .int v2), (2, .int x4), (3, .int x33), (7, .int y49), (8, .long x77), (11, .int x79)] → W p l e (rmL_ways K) s m args below meth c H locs κ111 (6 * κ111) Q (F0 m 214 ls [.int (b2i y110)]) := by
                          clear h hW hS hl
                          intro y110 κ111 h H locs ls hW hS hl
                          replace h := (hj114 y110 κ111).symm.trans h
                          refine lv_istore (lv' := [(10, .int (b2i y110)), (0, .ref (B + 0)), (1, .int v2), (2, .int x4), (3, .int x33), (7, .int y49), (8, .long x77), (11, .int x79)]) hx hb dL_ways_214 hl (by decide) rfl (fun ls hl => ?_)
                          refine lv_lload hx hb dL_ways_216 (lv_at hl 6 rfl) ?_
                          refine lv_ldc2 (v := 16807) hx hb hown (hts _ kc_L_265) dL_ways_218 ?_
                          refine lv_lrem hx hb dL_ways_221 (by decide) ?_
                          refine lv_ldc2 (v := 7) hx hb hown (hts _ kc_L_263) dL_ways_222 ?_
                          refine lv_lmul hx hb dL_ways_225 ?_
                          obtain ⟨v115, e116, h⟩ := lt_out h
                          rw [← e116]
                          refine lv_lstore (lv' := [(8, .long v115), (10, .int (b2i y110)), (0, .ref (B + 0)), (1, .int v2), (2, .int x4), (3, .int x33), (7, .int y49), (11, .int x79)]) hx hb dL_ways_226 hl (by decide) rfl (fun ls hl => ?_)
                          obtain ⟨v117, e118, h⟩ := lt_out h
                          refine lv_iinc (v := v117) (lv' := [(11, .int v117), (8, .long v115), (10, .int (b2i y110)), (0, .ref (B + 0)), (1, .int v2), (2, .int x4), (3, .int x33), (7, .int y49)]) hx hb dL_ways_228 hl (k := 7) rfl (by rw [e118]; rfl) (by decide) rfl (fun ls hl => ?_)
                          refine lv_goto (tgt := 176) hx hb dL_ways_231 (by decide) ?_
                          refine W.widen (k := κ111) (n := 6 * κ111) (by omega) (by omega) ?_
                          exact IH82 _ _ _ _ h _ _ _ hW hS (lv_sub hl [3, 4, 5, 6, 7, 1, 2, 0] rfl)
                        obtain ⟨j120, hj122, h⟩ := jn1_o h
                        have J121 : ∀ (κ119 : Nat), j120 κ119 = some r → ∀ (H : Heap) (locs : List Loc) (ls : Array Slot), gZ s0 D T B X Z hs t H → va_S (gA B X) s.heap H locs → lv_has ls 12 [(0, .ref (B + 0)), (1, .int v2), (2, .int x4), (3, .int x33), (7, .int y49), (8, .long x77), (11, .int x79)] → W p l e (rmL_ways K) s m args below meth c H locs κ119 (6 * κ119) Q (F0 m 213 ls []) := by
                          clear h hW hS hl
                          intro κ119 h H locs ls hW hS hl
                          replace h := (hj122 κ119).symm.trans h
                          refine lv_iconst (v := 0) hx hb dL_ways_213 (by decide) ?_
                          refine W.widen (k := κ119) (n := 6 * κ119) (by omega) (by omega) ?_
                          exact J113 _ _ h _ _ _ hW hS (lv_sub hl [0, 1, 2, 3, 4, 5, 6] rfl)
                        refine gw_if_eqZ (tgt := 213) hx hb dL_ways_185 (by decide) (fun c123 => ?_) (fun c123 => ?_)
                        · replace h := cond_f c123 h
                          refine W.widen (k := κ80) (n := 6 * κ80) (by omega) (by omega) ?_
                          exact J121 _ h _ _ _ hW hS (lv_sub hl [0, 1, 2, 3, 4, 5, 7] rfl)
                        · replace h := cond_t c123 h
                          refine lv_aload_n hx hb dL_ways_188 rfl (lv_at hl 0 rfl) ?_
                          refine lv_iload_n hx hb dL_ways_189 rfl (lv_at hl 2 rfl) ?_
                          refine lv_iload_n hx hb dL_ways_190 rfl (lv_at hl 3 rfl) ?_
                          refine lv_iload hx hb dL_ways_191 (lv_at hl 7 rfl) ?_
                          obtain ⟨g124, h⟩ := gd_out h
                          refine gz_wr (As := [.ref (B + 0), .int x4, .int x33, .int x79]) F hk hC hml hS hW (mq_wayRoom F hX hN) mw_L_279 ⟨rfl, rfl, (by first | exact Nat.le_of_ble_eq_true rfl | (simp only [rmL_ways, rmL_bestWay]; omega) | (simp only [rmL_ways]; omega)), (by first | exact Nat.le_of_ble_eq_true rfl | (simp only [rmL_ways, rmL_bestWay]; omega) | (simp only [rmL_ways]; omega))⟩ rfl hl.1 rfl (by first | exact Nat.le_of_ble_eq_true rfl | (simp only [rmL_ways, rmL_bestWay]; omega) | (simp only [rmL_ways]; omega)) dL_ways_193 ⟨(by show _ ≤ K; omega), (by show _ ≤ 6 * K; omega)⟩ (fun H locs hW hS => ?_)
                          refine W.widen (k := (κ80 + 3)) (n := 6 * (κ80 + 3)) (by omega) (by omega) ?_
                          change W p l e _ s m args below meth c H locs _ _ Q (F0 m _ ls (.int (wL_wayRoom Z x4 x33 x79) :: _))
                          refine lv_i2l hx hb dL_ways_196 rfl ?_
                          refine lv_lload hx hb dL_ways_197 (lv_at hl 5 rfl) ?_
                          refine lv_ldc2 (v := 16807) hx hb hown (hts _ kc_L_265) dL_ways_199 ?_
                          refine lv_ldiv hx hb dL_ways_202 (by decide) ?_
                          refine lv_lconst (v := 1) hx hb dL_ways_203 (by decide) ?_
                          refine lv_lsub hx hb dL_ways_204 ?_
                          refine W.lcmp hx hb dL_ways_205 ?_
                          refine lv_if_ne (tgt := 213) hx hb dL_ways_206 (by decide) (fun c125 => ?_) (fun c125 => ?_)
                          · replace h := ite_f c125 h
                            refine W.widen (k := (κ80 + 3)) (n := 6 * (κ80 + 3)) (by omega) (by omega) ?_
                            exact J121 _ h _ _ _ hW hS (lv_sub hl [0, 1, 2, 3, 4, 5, 7] rfl)
                          · replace h := ite_t c125 h
                            refine lv_iconst (v := 1) hx hb dL_ways_209 (by decide) ?_
                            refine lv_goto (tgt := 214) hx hb dL_ways_210 (by decide) ?_
                            refine W.widen (k := (κ80 + 3)) (n := 6 * (κ80 + 3)) (by omega) (by omega) ?_
                            exact J113 _ _ h _ _ _ hW hS (lv_sub hl [0, 1, 2, 3, 4, 5, 7] rfl)
                    obtain ⟨j127, hj129, h⟩ := jn1_o h
                    have J128 : ∀ (κ126 : Nat), j127 κ126 = some r → ∀ (H : Heap) (locs : List Loc) (ls : Array Slot), gZ s0 D T B X Z hs t H → va_S (gA B X) s.heap H locs → lv_has ls 12 [(0, .ref (B + 0)), (1, .int v2), (2, .int x4), (3, .int x33), (7, .int y49), (8, .long v70)] → W p l e (rmL_ways K) s m args below meth c H locs κ126 (6 * κ126) Q (F0 m 166 ls []) := by
                      clear h hW hS hl
                      intro κ126 h H locs ls hW hS hl
                      replace h := (hj129 κ126).symm.trans h
                      refine lv_iconst (v := 1) hx hb dL_ways_166 (by decide) ?_
                      refine lv_goto (tgt := 171) hx hb dL_ways_167 (by decide) ?_
                      refine W.widen (k := κ126) (n := 6 * κ126) (by omega) (by omega) ?_
                      exact J75 _ _ h _ _ _ hW hS (lv_sub hl [0, 1, 2, 3, 4, 5] rfl)
                    refine lv_if_lt (tgt := 166) hx hb dL_ways_152 (by decide) (fun c130 => ?_) (fun c130 => ?_)
                    · replace h := ite_t c130 h
                      refine W.widen (k := (κ50 + 12)) (n := 6 * (κ50 + 12)) (by omega) (by omega) ?_
                      exact J128 _ h _ _ _ hW hS (lv_sub hl [2, 3, 4, 5, 1, 0] rfl)
                    · replace h := ite_f c130 h
                      refine lv_aload_n hx hb dL_ways_155 rfl (lv_at hl 2 rfl) ?_
                      refine lv_iload_n hx hb dL_ways_156 rfl (lv_at hl 4 rfl) ?_
                      refine lv_iload_n hx hb dL_ways_157 rfl (lv_at hl 5 rfl) ?_
                      refine lv_iconst (v := 0) hx hb dL_ways_158 (by decide) ?_
                      obtain ⟨g131, h⟩ := gd_out h
                      refine gz_wr (As := [.ref (B + 0), .int x4, .int x33, .int 0]) F hk hC hml hS hW (mq_wayRoom F hX hN) mw_L_279 ⟨rfl, rfl, (by first | exact Nat.le_of_ble_eq_true rfl | (simp only [rmL_ways, rmL_bestWay]; omega) | (simp only [rmL_ways]; omega)), (by first | exact Nat.le_of_ble_eq_true rfl | (simp only [rmL_ways, rmL_bestWay]; omega) | (simp only [rmL_ways]; omega))⟩ rfl hl.1 rfl (by first | exact Nat.le_of_ble_eq_true rfl | (simp only [rmL_ways, rmL_bestWay]; omega) | (simp only [rmL_ways]; omega)) dL_ways_159 ⟨(by show _ ≤ K; omega), (by show _ ≤ 6 * K; omega)⟩ (fun H locs hW hS => ?_)
                      refine W.widen (k := (κ50 + 15)) (n := 6 * (κ50 + 15)) (by omega) (by omega) ?_
                      change W p l e _ s m args below meth c H locs _ _ Q (F0 m _ ls (.int (wL_wayRoom Z x4 x33 0) :: _))
                      refine lv_iload_n hx hb dL_ways_162 rfl (lv_at hl 4 rfl) ?_
                      refine lv_icmp_ne (tgt := 170) hx hb dL_ways_163 (by decide) (fun c132 => ?_) (fun c132 => ?_)
                      · replace h := ite_f c132 h
                        refine lv_iconst (v := 0) hx hb dL_ways_170 (by decide) ?_
                        refine W.widen (k := (κ50 + 15)) (n := 6 * (κ50 + 15)) (by omega) (by omega) ?_
                        exact J75 _ _ h _ _ _ hW hS (lv_sub hl [2, 3, 4, 5, 1, 0] rfl)
                      · replace h := ite_t c132 h
                        refine W.widen (k := (κ50 + 15)) (n := 6 * (κ50 + 15)) (by omega) (by omega) ?_
                        exact J128 _ h _ _ _ hW hS (lv_sub hl [2, 3, 4, 5, 1, 0] rfl)
                  · replace h := ite_f c69 h
                    refine W.widen (k := (κ50 + 12)) (n := 6 * (κ50 + 12)) (by omega) (by omega) ?_
                    exact J57 _ h _ _ _ hW hS (lv_sub hl [] rfl)
        refine lv_if_ge (tgt := 61) hx hb dL_ways_53 (by decide) (fun c133 => ?_) (fun c133 => ?_)
        · replace h := ite_t c133 h
          refine lv_lload hx hb dL_ways_61 (lv_at hl 5 rfl) ?_
          refine lv_ldc2 (v := 1000000) hx hb hown (hts _ kc_L_261) dL_ways_63 ?_
          refine lv_ldiv hx hb dL_ways_66 (by decide) ?_
          refine lv_ldc2 (v := 10) hx hb hown (hts _ kc_L_267) dL_ways_67 ?_
          refine lv_lrem hx hb dL_ways_70 (by decide) ?_
          refine lv_l2i hx hb dL_ways_71 rfl ?_
          refine W.widen (k := κ45) (n := 6 * κ45) (by omega) (by omega) ?_
          exact J52 _ _ h _ _ _ hW hS (lv_sub hl [1, 2, 3, 4, 5, 0] rfl)
        · replace h := ite_f c133 h
          refine lv_bipush (v := (-13)) hx hb dL_ways_56 (by decide) ?_
          refine lv_goto (tgt := 72) hx hb dL_ways_58 (by decide) ?_
          refine W.widen (k := κ45) (n := 6 * κ45) (by omega) (by omega) ?_
          exact J52 _ _ h _ _ _ hW hS (lv_sub hl [1, 2, 3, 4, 5, 0] rfl)
      refine lv_if_ge (tgt := 40) hx hb dL_ways_32 (by decide) (fun c134 => ?_) (fun c134 => ?_)
      · replace h := ite_t c134 h
        refine lv_lload hx hb dL_ways_40 (lv_at hl 0 rfl) ?_
        refine lv_ldc2 (v := 10000000) hx hb hown (hts _ kc_L_259) dL_ways_42 ?_
        refine lv_ldiv hx hb dL_ways_45 (by decide) ?_
        refine lv_l2i hx hb dL_ways_46 rfl ?_
        refine W.widen (k := (κ34 + (ckW 7 x4 0))) (n := 6 * (κ34 + (ckW 7 x4 0))) (by omega) (by omega) ?_
        exact J47 _ _ h _ _ _ hW hS (lv_sub hl [1, 2, 3, 4, 0] rfl)
      · replace h := ite_f c134 h
        refine lv_bipush (v := (-13)) hx hb dL_ways_35 (by decide) ?_
        refine lv_goto (tgt := 47) hx hb dL_ways_37 (by decide) ?_
        refine W.widen (k := (κ34 + (ckW 7 x4 0))) (n := 6 * (κ34 + (ckW 7 x4 0))) (by omega) (by omega) ?_
        exact J47 _ _ h _ _ _ hW hS (lv_sub hl [1, 2, 3, 4, 0] rfl)

