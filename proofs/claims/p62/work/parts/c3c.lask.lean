/-! Printed by program: the law's own methods that only ask. -/
theorem dL_couriers_0 : decode cL_couriers 0 = .ok (.aload_n 0, 1) := by decide +kernel
theorem dL_couriers_1 : decode cL_couriers 1 = .ok (.invokevirtual 295, 3) := by decide +kernel
theorem dL_couriers_4 : decode cL_couriers 4 = .ok (.istore_n 1, 1) := by decide +kernel
theorem dL_couriers_5 : decode cL_couriers 5 = .ok (.iconst 0, 1) := by decide +kernel
theorem dL_couriers_6 : decode cL_couriers 6 = .ok (.istore_n 2, 1) := by decide +kernel
theorem dL_couriers_7 : decode cL_couriers 7 = .ok (.iconst 0, 1) := by decide +kernel
theorem dL_couriers_8 : decode cL_couriers 8 = .ok (.istore_n 3, 1) := by decide +kernel
theorem dL_couriers_9 : decode cL_couriers 9 = .ok (.iconst 0, 1) := by decide +kernel
theorem dL_couriers_10 : decode cL_couriers 10 = .ok (.istore 4, 2) := by decide +kernel
theorem dL_couriers_12 : decode cL_couriers 12 = .ok (.iload 4, 2) := by decide +kernel
theorem dL_couriers_14 : decode cL_couriers 14 = .ok (.iload_n 1, 1) := by decide +kernel
theorem dL_couriers_15 : decode cL_couriers 15 = .ok (.if_icmp .ge 228, 3) := by decide +kernel
theorem dL_couriers_18 : decode cL_couriers 18 = .ok (.iload_n 2, 1) := by decide +kernel
theorem dL_couriers_19 : decode cL_couriers 19 = .ok (.aload_n 0, 1) := by decide +kernel
theorem dL_couriers_20 : decode cL_couriers 20 = .ok (.iload 4, 2) := by decide +kernel
theorem dL_couriers_22 : decode cL_couriers 22 = .ok (.aload_n 0, 1) := by decide +kernel
theorem dL_couriers_23 : decode cL_couriers 23 = .ok (.invokevirtual 342, 3) := by decide +kernel
theorem dL_couriers_26 : decode cL_couriers 26 = .ok (.invokevirtual 139, 3) := by decide +kernel
theorem dL_couriers_29 : decode cL_couriers 29 = .ok (.ifCond .eq 7, 3) := by decide +kernel
theorem dL_couriers_32 : decode cL_couriers 32 = .ok (.iconst 1, 1) := by decide +kernel
theorem dL_couriers_33 : decode cL_couriers 33 = .ok (.goto 4, 3) := by decide +kernel
theorem dL_couriers_36 : decode cL_couriers 36 = .ok (.iconst 0, 1) := by decide +kernel
theorem dL_couriers_37 : decode cL_couriers 37 = .ok (.iadd, 1) := by decide +kernel
theorem dL_couriers_38 : decode cL_couriers 38 = .ok (.istore_n 2, 1) := by decide +kernel
theorem dL_couriers_39 : decode cL_couriers 39 = .ok (.iload_n 3, 1) := by decide +kernel
theorem dL_couriers_40 : decode cL_couriers 40 = .ok (.aload_n 0, 1) := by decide +kernel
theorem dL_couriers_41 : decode cL_couriers 41 = .ok (.iload 4, 2) := by decide +kernel
theorem dL_couriers_43 : decode cL_couriers 43 = .ok (.invokevirtual 79, 3) := by decide +kernel
theorem dL_couriers_46 : decode cL_couriers 46 = .ok (.iadd, 1) := by decide +kernel
theorem dL_couriers_47 : decode cL_couriers 47 = .ok (.istore_n 3, 1) := by decide +kernel
theorem dL_couriers_48 : decode cL_couriers 48 = .ok (.aload_n 0, 1) := by decide +kernel
theorem dL_couriers_49 : decode cL_couriers 49 = .ok (.iload 4, 2) := by decide +kernel
theorem dL_couriers_51 : decode cL_couriers 51 = .ok (.invokevirtual 70, 3) := by decide +kernel
theorem dL_couriers_54 : decode cL_couriers 54 = .ok (.istore 5, 2) := by decide +kernel
theorem dL_couriers_56 : decode cL_couriers 56 = .ok (.iconst 0, 1) := by decide +kernel
theorem dL_couriers_57 : decode cL_couriers 57 = .ok (.istore 6, 2) := by decide +kernel
theorem dL_couriers_59 : decode cL_couriers 59 = .ok (.iload 6, 2) := by decide +kernel
theorem dL_couriers_61 : decode cL_couriers 61 = .ok (.aload_n 0, 1) := by decide +kernel
theorem dL_couriers_62 : decode cL_couriers 62 = .ok (.invokevirtual 250, 3) := by decide +kernel
theorem dL_couriers_65 : decode cL_couriers 65 = .ok (.if_icmp .ge 172, 3) := by decide +kernel
theorem dL_couriers_68 : decode cL_couriers 68 = .ok (.aload_n 0, 1) := by decide +kernel
theorem dL_couriers_69 : decode cL_couriers 69 = .ok (.iload 5, 2) := by decide +kernel
theorem dL_couriers_71 : decode cL_couriers 71 = .ok (.iload 6, 2) := by decide +kernel
theorem dL_couriers_73 : decode cL_couriers 73 = .ok (.invokestatic 274, 3) := by decide +kernel
theorem dL_couriers_76 : decode cL_couriers 76 = .ok (.istore 7, 2) := by decide +kernel
theorem dL_couriers_78 : decode cL_couriers 78 = .ok (.iconst 0, 1) := by decide +kernel
theorem dL_couriers_79 : decode cL_couriers 79 = .ok (.istore 8, 2) := by decide +kernel
theorem dL_couriers_81 : decode cL_couriers 81 = .ok (.iconst 0, 1) := by decide +kernel
theorem dL_couriers_82 : decode cL_couriers 82 = .ok (.istore 9, 2) := by decide +kernel
theorem dL_couriers_84 : decode cL_couriers 84 = .ok (.iload 9, 2) := by decide +kernel
theorem dL_couriers_86 : decode cL_couriers 86 = .ok (.iload 7, 2) := by decide +kernel
theorem dL_couriers_88 : decode cL_couriers 88 = .ok (.if_icmp .ge 49, 3) := by decide +kernel
theorem dL_couriers_91 : decode cL_couriers 91 = .ok (.iload 8, 2) := by decide +kernel
theorem dL_couriers_93 : decode cL_couriers 93 = .ok (.aload_n 0, 1) := by decide +kernel
theorem dL_couriers_94 : decode cL_couriers 94 = .ok (.aload_n 0, 1) := by decide +kernel
theorem dL_couriers_95 : decode cL_couriers 95 = .ok (.iload 5, 2) := by decide +kernel
theorem dL_couriers_97 : decode cL_couriers 97 = .ok (.iload 6, 2) := by decide +kernel
theorem dL_couriers_99 : decode cL_couriers 99 = .ok (.iload 9, 2) := by decide +kernel
theorem dL_couriers_101 : decode cL_couriers 101 = .ok (.invokevirtual 51, 3) := by decide +kernel
theorem dL_couriers_104 : decode cL_couriers 104 = .ok (.aload_n 0, 1) := by decide +kernel
theorem dL_couriers_105 : decode cL_couriers 105 = .ok (.iload 5, 2) := by decide +kernel
theorem dL_couriers_107 : decode cL_couriers 107 = .ok (.iload 6, 2) := by decide +kernel
theorem dL_couriers_109 : decode cL_couriers 109 = .ok (.iload 9, 2) := by decide +kernel
theorem dL_couriers_111 : decode cL_couriers 111 = .ok (.iconst 1, 1) := by decide +kernel
theorem dL_couriers_112 : decode cL_couriers 112 = .ok (.iadd, 1) := by decide +kernel
theorem dL_couriers_113 : decode cL_couriers 113 = .ok (.invokevirtual 51, 3) := by decide +kernel
theorem dL_couriers_116 : decode cL_couriers 116 = .ok (.invokevirtual 39, 3) := by decide +kernel
theorem dL_couriers_119 : decode cL_couriers 119 = .ok (.aload_n 0, 1) := by decide +kernel
theorem dL_couriers_120 : decode cL_couriers 120 = .ok (.iload 4, 2) := by decide +kernel
theorem dL_couriers_122 : decode cL_couriers 122 = .ok (.invokevirtual 73, 3) := by decide +kernel
theorem dL_couriers_125 : decode cL_couriers 125 = .ok (.invokestatic 336, 3) := by decide +kernel
theorem dL_couriers_128 : decode cL_couriers 128 = .ok (.iadd, 1) := by decide +kernel
theorem dL_couriers_129 : decode cL_couriers 129 = .ok (.istore 8, 2) := by decide +kernel
theorem dL_couriers_131 : decode cL_couriers 131 = .ok (.iinc 9 1, 3) := by decide +kernel
theorem dL_couriers_134 : decode cL_couriers 134 = .ok (.goto (-50), 3) := by decide +kernel
theorem dL_couriers_137 : decode cL_couriers 137 = .ok (.aload_n 0, 1) := by decide +kernel
theorem dL_couriers_138 : decode cL_couriers 138 = .ok (.iload 5, 2) := by decide +kernel
theorem dL_couriers_140 : decode cL_couriers 140 = .ok (.iload 6, 2) := by decide +kernel
theorem dL_couriers_142 : decode cL_couriers 142 = .ok (.aload_n 0, 1) := by decide +kernel
theorem dL_couriers_143 : decode cL_couriers 143 = .ok (.iload 4, 2) := by decide +kernel
theorem dL_couriers_145 : decode cL_couriers 145 = .ok (.invokevirtual 73, 3) := by decide +kernel
theorem dL_couriers_148 : decode cL_couriers 148 = .ok (.iconst 0, 1) := by decide +kernel
theorem dL_couriers_149 : decode cL_couriers 149 = .ok (.invokestatic 339, 3) := by decide +kernel
theorem dL_couriers_152 : decode cL_couriers 152 = .ok (.istore 9, 2) := by decide +kernel
theorem dL_couriers_154 : decode cL_couriers 154 = .ok (.iload 9, 2) := by decide +kernel
theorem dL_couriers_156 : decode cL_couriers 156 = .ok (.sipush 9999, 3) := by decide +kernel
theorem dL_couriers_159 : decode cL_couriers 159 = .ok (.if_icmp .lt 8, 3) := by decide +kernel
theorem dL_couriers_162 : decode cL_couriers 162 = .ok (.bipush (-13), 2) := by decide +kernel
theorem dL_couriers_164 : decode cL_couriers 164 = .ok (.goto 5, 3) := by decide +kernel
theorem dL_couriers_167 : decode cL_couriers 167 = .ok (.iload 9, 2) := by decide +kernel
theorem dL_couriers_169 : decode cL_couriers 169 = .ok (.istore 9, 2) := by decide +kernel
theorem dL_couriers_171 : decode cL_couriers 171 = .ok (.aload_n 0, 1) := by decide +kernel
theorem dL_couriers_172 : decode cL_couriers 172 = .ok (.iload 4, 2) := by decide +kernel
theorem dL_couriers_174 : decode cL_couriers 174 = .ok (.iload 6, 2) := by decide +kernel
theorem dL_couriers_176 : decode cL_couriers 176 = .ok (.invokestatic 345, 3) := by decide +kernel
theorem dL_couriers_179 : decode cL_couriers 179 = .ok (.iload 7, 2) := by decide +kernel
theorem dL_couriers_181 : decode cL_couriers 181 = .ok (.ifCond .ge 8, 3) := by decide +kernel
theorem dL_couriers_184 : decode cL_couriers 184 = .ok (.bipush (-13), 2) := by decide +kernel
theorem dL_couriers_186 : decode cL_couriers 186 = .ok (.goto 14, 3) := by decide +kernel
theorem dL_couriers_189 : decode cL_couriers 189 = .ok (.iload 8, 2) := by decide +kernel
theorem dL_couriers_191 : decode cL_couriers 191 = .ok (.aload_n 0, 1) := by decide +kernel
theorem dL_couriers_192 : decode cL_couriers 192 = .ok (.iload 4, 2) := by decide +kernel
theorem dL_couriers_194 : decode cL_couriers 194 = .ok (.invokevirtual 79, 3) := by decide +kernel
theorem dL_couriers_197 : decode cL_couriers 197 = .ok (.invokestatic 209, 3) := by decide +kernel
theorem dL_couriers_200 : decode cL_couriers 200 = .ok (.if_icmp .ne 29, 3) := by decide +kernel
theorem dL_couriers_203 : decode cL_couriers 203 = .ok (.aload_n 0, 1) := by decide +kernel
theorem dL_couriers_204 : decode cL_couriers 204 = .ok (.iload 4, 2) := by decide +kernel
theorem dL_couriers_206 : decode cL_couriers 206 = .ok (.iload 6, 2) := by decide +kernel
theorem dL_couriers_208 : decode cL_couriers 208 = .ok (.invokestatic 347, 3) := by decide +kernel
theorem dL_couriers_211 : decode cL_couriers 211 = .ok (.iload 9, 2) := by decide +kernel
theorem dL_couriers_213 : decode cL_couriers 213 = .ok (.if_icmp .ne 16, 3) := by decide +kernel
theorem dL_couriers_216 : decode cL_couriers 216 = .ok (.aload_n 0, 1) := by decide +kernel
theorem dL_couriers_217 : decode cL_couriers 217 = .ok (.iload 4, 2) := by decide +kernel
theorem dL_couriers_219 : decode cL_couriers 219 = .ok (.iload 6, 2) := by decide +kernel
theorem dL_couriers_221 : decode cL_couriers 221 = .ok (.invokestatic 349, 3) := by decide +kernel
theorem dL_couriers_224 : decode cL_couriers 224 = .ok (.iload 9, 2) := by decide +kernel
theorem dL_couriers_226 : decode cL_couriers 226 = .ok (.if_icmp .eq 5, 3) := by decide +kernel
theorem dL_couriers_229 : decode cL_couriers 229 = .ok (.iconst 0, 1) := by decide +kernel
theorem dL_couriers_230 : decode cL_couriers 230 = .ok (.ireturn, 1) := by decide +kernel
theorem dL_couriers_231 : decode cL_couriers 231 = .ok (.iinc 6 1, 3) := by decide +kernel
theorem dL_couriers_234 : decode cL_couriers 234 = .ok (.goto (-175), 3) := by decide +kernel
theorem dL_couriers_237 : decode cL_couriers 237 = .ok (.iinc 4 1, 3) := by decide +kernel
theorem dL_couriers_240 : decode cL_couriers 240 = .ok (.goto (-228), 3) := by decide +kernel
theorem dL_couriers_243 : decode cL_couriers 243 = .ok (.aload_n 0, 1) := by decide +kernel
theorem dL_couriers_244 : decode cL_couriers 244 = .ok (.invokevirtual 352, 3) := by decide +kernel
theorem dL_couriers_247 : decode cL_couriers 247 = .ok (.iload_n 3, 1) := by decide +kernel
theorem dL_couriers_248 : decode cL_couriers 248 = .ok (.i2d, 1) := by decide +kernel
theorem dL_couriers_249 : decode cL_couriers 249 = .ok (.iload_n 1, 1) := by decide +kernel
theorem dL_couriers_250 : decode cL_couriers 250 = .ok (.i2d, 1) := by decide +kernel
theorem dL_couriers_251 : decode cL_couriers 251 = .ok (.ddiv, 1) := by decide +kernel
theorem dL_couriers_252 : decode cL_couriers 252 = .ok (.dcmp .l, 1) := by decide +kernel
theorem dL_couriers_253 : decode cL_couriers 253 = .ok (.ifCond .ne 74, 3) := by decide +kernel
theorem dL_couriers_256 : decode cL_couriers 256 = .ok (.aload_n 0, 1) := by decide +kernel
theorem dL_couriers_257 : decode cL_couriers 257 = .ok (.invokevirtual 356, 3) := by decide +kernel
theorem dL_couriers_260 : decode cL_couriers 260 = .ok (.iload_n 2, 1) := by decide +kernel
theorem dL_couriers_261 : decode cL_couriers 261 = .ok (.i2f, 1) := by decide +kernel
theorem dL_couriers_262 : decode cL_couriers 262 = .ok (.iload_n 1, 1) := by decide +kernel
theorem dL_couriers_263 : decode cL_couriers 263 = .ok (.i2f, 1) := by decide +kernel
theorem dL_couriers_264 : decode cL_couriers 264 = .ok (.fdiv, 1) := by decide +kernel
theorem dL_couriers_265 : decode cL_couriers 265 = .ok (.fcmp .l, 1) := by decide +kernel
theorem dL_couriers_266 : decode cL_couriers 266 = .ok (.ifCond .ne 61, 3) := by decide +kernel
theorem dL_couriers_269 : decode cL_couriers 269 = .ok (.aload_n 0, 1) := by decide +kernel
theorem dL_couriers_270 : decode cL_couriers 270 = .ok (.invokevirtual 360, 3) := by decide +kernel
theorem dL_couriers_273 : decode cL_couriers 273 = .ok (.ifCond .eq 54, 3) := by decide +kernel
theorem dL_couriers_276 : decode cL_couriers 276 = .ok (.aload_n 0, 1) := by decide +kernel
theorem dL_couriers_277 : decode cL_couriers 277 = .ok (.iload_n 1, 1) := by decide +kernel
theorem dL_couriers_278 : decode cL_couriers 278 = .ok (.iconst 0, 1) := by decide +kernel
theorem dL_couriers_279 : decode cL_couriers 279 = .ok (.invokestatic 345, 3) := by decide +kernel
theorem dL_couriers_282 : decode cL_couriers 282 = .ok (.bipush (-11), 2) := by decide +kernel
theorem dL_couriers_284 : decode cL_couriers 284 = .ok (.if_icmp .ne 43, 3) := by decide +kernel
theorem dL_couriers_287 : decode cL_couriers 287 = .ok (.aload_n 0, 1) := by decide +kernel
theorem dL_couriers_288 : decode cL_couriers 288 = .ok (.iconst 0, 1) := by decide +kernel
theorem dL_couriers_289 : decode cL_couriers 289 = .ok (.aload_n 0, 1) := by decide +kernel
theorem dL_couriers_290 : decode cL_couriers 290 = .ok (.invokevirtual 250, 3) := by decide +kernel
theorem dL_couriers_293 : decode cL_couriers 293 = .ok (.invokestatic 345, 3) := by decide +kernel
theorem dL_couriers_296 : decode cL_couriers 296 = .ok (.bipush (-11), 2) := by decide +kernel
theorem dL_couriers_298 : decode cL_couriers 298 = .ok (.if_icmp .ne 29, 3) := by decide +kernel
theorem dL_couriers_301 : decode cL_couriers 301 = .ok (.aload_n 0, 1) := by decide +kernel
theorem dL_couriers_302 : decode cL_couriers 302 = .ok (.iload_n 1, 1) := by decide +kernel
theorem dL_couriers_303 : decode cL_couriers 303 = .ok (.iconst 0, 1) := by decide +kernel
theorem dL_couriers_304 : decode cL_couriers 304 = .ok (.invokestatic 347, 3) := by decide +kernel
theorem dL_couriers_307 : decode cL_couriers 307 = .ok (.bipush (-11), 2) := by decide +kernel
theorem dL_couriers_309 : decode cL_couriers 309 = .ok (.if_icmp .ne 18, 3) := by decide +kernel
theorem dL_couriers_312 : decode cL_couriers 312 = .ok (.aload_n 0, 1) := by decide +kernel
theorem dL_couriers_313 : decode cL_couriers 313 = .ok (.iconst 0, 1) := by decide +kernel
theorem dL_couriers_314 : decode cL_couriers 314 = .ok (.iconst (-1), 1) := by decide +kernel
theorem dL_couriers_315 : decode cL_couriers 315 = .ok (.invokestatic 349, 3) := by decide +kernel
theorem dL_couriers_318 : decode cL_couriers 318 = .ok (.bipush (-11), 2) := by decide +kernel
theorem dL_couriers_320 : decode cL_couriers 320 = .ok (.if_icmp .ne 7, 3) := by decide +kernel
theorem dL_couriers_323 : decode cL_couriers 323 = .ok (.iconst 1, 1) := by decide +kernel
theorem dL_couriers_324 : decode cL_couriers 324 = .ok (.goto 4, 3) := by decide +kernel
theorem dL_couriers_327 : decode cL_couriers 327 = .ok (.iconst 0, 1) := by decide +kernel
theorem dL_couriers_328 : decode cL_couriers 328 = .ok (.ireturn, 1) := by decide +kernel
noncomputable def fL_couriers (N : Nat) (Z : Nat → Int32) (K : Nat)  : Option Bool :=
  gd (0 ≤ K) <|
  lt (nI (eZ Z)) fun v2 =>
  fix4 (fun self8 (x4 : Int32) (x5 : Int32) (x6 : Int32) (κ7 : Nat) =>
  if v2 ≤ x6 then
  (gd ((κ7 + 1) ≤ K) <|
  (gR (aMean Z)).bind fun v12 =>
  gd ((FP.ddiv (FP.i2d x5) (FP.i2d v2)) &&& 0x7fffffffffffffff ≤ 0x7ff0000000000000) <|
  jn (fun (y15 : Bool) (κ16 : Nat) =>
  gd (κ16 ≤ K) <|
  some y15) fun j17 =>
  jn (fun (κ21 : Nat) =>
  j17 false κ21) fun j22 =>
  if (Op.cmpValue (FP.dcmp v12 (FP.ddiv (FP.i2d x5) (FP.i2d v2))) .l) = 0 then
  (gd ((κ7 + 2) ≤ K) <|
  (gR (aFrac Z)).bind fun v27 =>
  gd ((FP.fdiv (FP.i2f x4) (FP.i2f v2)) &&& 0x7fffffff ≤ 0x7f800000) <|
  if (Op.cmpValue (FP.fcmp v27 (FP.fdiv (FP.i2f x4) (FP.i2f v2))) .l) = 0 then
  (gd ((κ7 + 2) ≤ K) <|
  cond true
  (gd ((κ7 + 4) ≤ K) <|
  if (wL_meltIfSent Z v2 0) = (-11) then
  (gd ((κ7 + 4) ≤ K) <|
  gd ((κ7 + 6) ≤ K) <|
  if (wL_meltIfSent Z 0 (nI (nZ Z))) = (-11) then
  (gd ((κ7 + 8) ≤ K) <|
  if (wL_leastPassed Z v2 0) = (-11) then
  (gd ((κ7 + 10) ≤ K) <|
  if (wL_leastByRounds Z 0 (-1)) = (-11) then
  (j17 true (κ7 + 10))
  else (j22 (κ7 + 10)))
  else (j22 (κ7 + 8)))
  else (j22 (κ7 + 6)))
  else (j22 (κ7 + 4)))
  (j22 (κ7 + 2)))
  else (j22 (κ7 + 2)))
  else (j22 (κ7 + 1)))
  else (gd (κ7 ≤ K) <|
  gd ((κ7 + 1) ≤ K) <|
  (gR (aLent Z x6 (Z 2))).bind fun v44 =>
  jn (fun (y46 : Bool) (κ47 : Nat) =>
  lt (x4 + (b2i y46)) fun v51 =>
  gd ((κ47 + 1) ≤ K) <|
  (gR (aGrains Z x6)).bind fun v54 =>
  lt (x5 + v54) fun v56 =>
  gd ((κ47 + 2) ≤ K) <|
  (gR (aRoomOf Z x6)).bind fun v59 =>
  fix2 (fun self63 (x61 : Int32) (κ62 : Nat) =>
  gd (κ62 ≤ K) <|
  if (nI (nZ Z)) ≤ x61 then
  (lt (x6 + 1) fun v67 =>
  self8 v51 v56 v67 κ62)
  else (gd ((κ62 + 2) ≤ K) <|
  lt (wL_wayLegs Z v59 x61) fun v70 =>
  fix3 (fun self75 (x72 : Int32) (x73 : Int32) (κ74 : Nat) =>
  if v70 ≤ x73 then
  (gd ((κ74 + 1) ≤ K) <|
  (gR (aLimit Z x6)).bind fun v79 =>
  gd (((κ74 + 1) + (ckW 14 v59 0)) ≤ K) <|
  (fL_least N 8 Z v59 x61 v79 0).bind fun r82 =>
  jn (fun (y83 : Int32) (κ84 : Nat) =>
  gd ((κ84 + 2) ≤ K) <|
  jn (fun (y89 : Int32) (κ90 : Nat) =>
  jn (fun (κ94 : Nat) =>
  gd (κ94 ≤ K) <|
  some false) fun j95 =>
  if (wL_meltIfSent Z x6 x61) = y89 then
  (gd ((κ90 + 2) ≤ K) <|
  if (wL_leastPassed Z x6 x61) = y83 then
  (gd ((κ90 + 4) ≤ K) <|
  if (wL_leastByRounds Z x6 x61) = y83 then
  (lt (x61 + 1) fun v104 =>
  self63 v104 (κ90 + 4))
  else (j95 (κ90 + 4)))
  else (j95 (κ90 + 2)))
  else (j95 κ90)) fun j91 =>
  if 0 ≤ v70 then
  (gd ((κ84 + 3) ≤ K) <|
  (gR (aGrains Z x6)).bind fun v108 =>
  gd ((κ84 + 3) ≤ K) <|
  j91 (imin x72 v108) (κ84 + 3))
  else (j91 (-13) (κ84 + 2))) fun j85 =>
  if r82 < 9999 then
  (j85 r82 ((κ74 + 1) + (ckW 14 v59 0)))
  else (j85 (-13) ((κ74 + 1) + (ckW 14 v59 0))))
  else (gd ((κ74 + 3) ≤ K) <|
  (gR (aWay Z v59 x61 x73)).bind fun v113 =>
  gd ((κ74 + 6) ≤ K) <|
  (gR (aWay Z v59 x61 (x73 + 1))).bind fun v116 =>
  gd ((κ74 + 7) ≤ K) <|
  (gR (aLeg Z (hZ Z) v113 v116)).bind fun v119 =>
  gd ((κ74 + 8) ≤ K) <|
  (gR (aLimit Z x6)).bind fun v122 =>
  gd (((κ74 + 8) + 0) ≤ K) <|
  (fL_passedBy N Z 0 v119 v122).bind fun r125 =>
  lt (x72 + r125) fun v126 =>
  lt (x73 + 1) fun v128 =>
  self75 v126 v128 ((κ74 + 8) + 0))) N 0 0 (κ62 + 2))) N 0 (κ47 + 2)) fun j48 =>
  cond v44
  (j48 true (κ7 + 1))
  (j48 false (κ7 + 1)))) N 0 0 0 0
abbrev rmL_couriers (K : Nat) : Room := { frames := 24, cells := K, slots := 6 * K, locals := 1195 }
set_option maxHeartbeats 4000000 in
set_option maxRecDepth 100000 in
theorem metL_couriers {l : Launch} {s0 : State} {b B : Nat} {D : va_G} {T : Nat → ClassId} (F : FX l s0 b D T B) {X : Nat → Prop} (hX : ∀ o, o < 561 → ¬ X (B + o)) {N : Nat} (hN : 1200000000000 ≤ N) {Z : Nat → Int32} {hs : List (Nat → Int32)} {t : List Nat} {K : Nat}  {r : Bool} (h : fL_couriers N Z K  = some r) : gMet l yL_couriers cL_couriers 10 (some .boolean) (rmL_couriers K) [.ref (B + 0)] (gZ s0 D T B X Z hs t) (KC s0 X) (some (.int (b2i r))) (gZ s0 D T B X Z hs t) (gA B X) K (6 * K) := by
  refine gZ_of RL (by decide +kernel) rfl (Nat.le_of_ble_eq_true rfl) ?_
  intro p e s m args below meth c ls Q hx hb hlocks hml hown hts hW hk hl hS hend
  have hC := FX_C F hk hx hb hown hts
  have hl : lv_has ls 10 [(0, .ref (B + 0))] := hl
  unfold fL_couriers at h
  refine lv_aload_n hx hb dL_couriers_0 rfl (lv_at hl 0 rfl) ?_
  obtain ⟨g1, h⟩ := gd_out h
  refine gz_dv (As := []) (w := fun r => .int r) F hX hk hC hml hS hW (fun μ hP => z_exhibitCount (N := N) hP) (fun μ r h9 X9 hX9 => metX10_exhibitCount F hX9 is_Ga h9) ml_L_295 rfl ⟨rfl, rfl, (by first | exact Nat.le_of_ble_eq_true rfl | (simp only [rmL_couriers, rmL_least, rmL_passedBy]; omega) | (simp only [rmL_couriers]; omega)), (by first | exact Nat.le_of_ble_eq_true rfl | (simp only [rmL_couriers, rmL_least, rmL_passedBy]; omega) | (simp only [rmL_couriers]; omega))⟩ rfl hl.1 rfl (by first | exact Nat.le_of_ble_eq_true rfl | (simp only [rmL_couriers, rmL_least, rmL_passedBy]; omega) | (simp only [rmL_couriers]; omega)) dL_couriers_1 ⟨(by show _ ≤ K; omega), (by show _ ≤ 6 * K; omega)⟩ (fun H locs hW hS => ?_)
  obtain ⟨v2, e3, h⟩ := lt_out h
  rw [← e3]
  refine lv_istore_n (lv' := [(1, .int v2), (0, .ref (B + 0))]) hx hb dL_couriers_4 rfl hl (by decide) rfl (fun ls hl => ?_)
  refine lv_iconst (v := 0) hx hb dL_couriers_5 (by decide) ?_
  refine lv_istore_n (lv' := [(2, .int 0), (1, .int v2), (0, .ref (B + 0))]) hx hb dL_couriers_6 rfl hl (by decide) rfl (fun ls hl => ?_)
  refine lv_iconst (v := 0) hx hb dL_couriers_7 (by decide) ?_
  refine lv_istore_n (lv' := [(3, .int 0), (2, .int 0), (1, .int v2), (0, .ref (B + 0))]) hx hb dL_couriers_8 rfl hl (by decide) rfl (fun ls hl => ?_)
  refine lv_iconst (v := 0) hx hb dL_couriers_9 (by decide) ?_
  refine lv_istore (lv' := [(4, .int 0), (3, .int 0), (2, .int 0), (1, .int v2), (0, .ref (B + 0))]) hx hb dL_couriers_10 hl (by decide) rfl (fun ls hl => ?_)
  refine W.widen (k := 0) (n := 6 * 0) (by omega) (by omega) ?_
  refine fix4_ind (fun (x4 : Int32) (x5 : Int32) (x6 : Int32) (κ7 : Nat) => ∀ (H : Heap) (locs : List Loc) (ls : Array Slot), gZ s0 D T B X Z hs t H → va_S (gA B X) s.heap H locs → lv_has ls 10 [(0, .ref (B + 0)), (1, .int v2), (2, .int x4), (3, .int x5), (4, .int x6)] → W p l e (rmL_couriers K) s m args below meth c H locs κ7 (6 * κ7) Q (F0 m 12 ls [])) ?_ N _ _ _ _ h _ _ _ hW hS (lv_sub hl [4, 3, 2, 1, 0] rfl)
  clear h hW hS hl
  intro self8 IH9 x4 x5 x6 κ7 h H locs ls hW hS hl
  refine lv_iload hx hb dL_couriers_12 (lv_at hl 4 rfl) ?_
  refine lv_iload_n hx hb dL_couriers_14 rfl (lv_at hl 1 rfl) ?_
  refine lv_icmp_ge (tgt := 243) hx hb dL_couriers_15 (by decide) (fun c10 => ?_) (fun c10 => ?_)
  · replace h := ite_t c10 h
    refine lv_aload_n hx hb dL_couriers_243 rfl (lv_at hl 0 rfl) ?_
    obtain ⟨g11, h⟩ := gd_out h
    obtain ⟨v12, hv13, h⟩ := bd_out h
    refine gz_dx (As := []) (o := oD) (w := .double v12) F hX hk hC hml hS hW (fun μ hP => z_meanGrains (N := N) (by omega) hP) (fun μ r h9 X9 hX9 => metX10_meanGrains F hX9 is_Ga h9) (gR_o hv13) rfl ml_L_352 rfl ⟨rfl, rfl, (by first | exact Nat.le_of_ble_eq_true rfl | (simp only [rmL_couriers, rmL_least, rmL_passedBy]; omega) | (simp only [rmL_couriers]; omega)), (by first | exact Nat.le_of_ble_eq_true rfl | (simp only [rmL_couriers, rmL_least, rmL_passedBy]; omega) | (simp only [rmL_couriers]; omega))⟩ rfl hl.1 rfl (by first | exact Nat.le_of_ble_eq_true rfl | (simp only [rmL_couriers, rmL_least, rmL_passedBy]; omega) | (simp only [rmL_couriers]; omega)) dL_couriers_244 ⟨(by show _ ≤ K; omega), (by show _ ≤ 6 * K; omega)⟩ (fun H locs hW hS => ?_)
    refine W.widen (k := (κ7 + 1)) (n := 6 * (κ7 + 1)) (by omega) (by omega) ?_
    refine lv_iload_n hx hb dL_couriers_247 rfl (lv_at hl 3 rfl) ?_
    refine lv_i2d hx hb dL_couriers_248 ?_
    refine lv_iload_n hx hb dL_couriers_249 rfl (lv_at hl 1 rfl) ?_
    refine lv_i2d hx hb dL_couriers_250 ?_
    obtain ⟨c14, h⟩ := gd_out h
    refine lv_ddiv hx hb dL_couriers_251 c14 ?_
    refine lv_dcmp hx hb dL_couriers_252 ?_
    obtain ⟨j17, hj19, h⟩ := jn2_o h
    have J18 : ∀ (y15 : Bool) (κ16 : Nat), j17 y15 κ16 = some r → ∀ (H : Heap) (locs : List Loc) (ls : Array Slot), gZ s0 D T B X Z hs t H → va_S (gA B X) s.heap H locs → lv_has ls 10 [] → W p l e (rmL_couriers K) s m args below meth c H locs κ16 (6 * κ16) Q (F0 m 328 ls [.int (b2i y15)]) := by
      clear h hW hS hl
      intro y15 κ16 h H locs ls hW hS hl
      replace h := (hj19 y15 κ16).symm.trans h
      obtain ⟨g20, h⟩ := gd_out h
      cases h
      exact hend dL_couriers_328 hW hS (by omega) (by omega)
    obtain ⟨j22, hj24, h⟩ := jn1_o h
    have J23 : ∀ (κ21 : Nat), j22 κ21 = some r → ∀ (H : Heap) (locs : List Loc) (ls : Array Slot), gZ s0 D T B X Z hs t H → va_S (gA B X) s.heap H locs → lv_has ls 10 [] → W p l e (rmL_couriers K) s m args below meth c H locs κ21 (6 * κ21) Q (F0 m 327 ls []) := by
      clear h hW hS hl
      intro κ21 h H locs ls hW hS hl
      replace h := (hj24 κ21).symm.trans h
      refine lv_iconst (v := 0) hx hb dL_couriers_327 (by decide) ?_
      refine W.widen (k := κ21) (n := 6 * κ21) (by omega) (by omega) ?_
      exact J18 _ _ h _ _ _ hW hS (lv_sub hl [] rfl)
    refine lv_if_ne (tgt := 327) hx hb dL_couriers_253 (by decide) (fun c25 => ?_) (fun c25 => ?_)
    · replace h := ite_f c25 h
      refine W.widen (k := (κ7 + 1)) (n := 6 * (κ7 + 1)) (by omega) (by omega) ?_
      exact J23 _ h _ _ _ hW hS (lv_sub hl [] rfl)
    · replace h := ite_t c25 h
      refine lv_aload_n hx hb dL_couriers_256 rfl (lv_at hl 0 rfl) ?_
      obtain ⟨g26, h⟩ := gd_out h
      obtain ⟨v27, hv28, h⟩ := bd_out h
      refine gz_dx (As := []) (o := oF) (w := .float v27) F hX hk hC hml hS hW (fun μ hP => z_lentFraction (N := N) (by omega) hP) (fun μ r h9 X9 hX9 => metX10_lentFraction F hX9 is_Ga h9) (gR_o hv28) rfl ml_L_356 rfl ⟨rfl, rfl, (by first | exact Nat.le_of_ble_eq_true rfl | (simp only [rmL_couriers, rmL_least, rmL_passedBy]; omega) | (simp only [rmL_couriers]; omega)), (by first | exact Nat.le_of_ble_eq_true rfl | (simp only [rmL_couriers, rmL_least, rmL_passedBy]; omega) | (simp only [rmL_couriers]; omega))⟩ rfl hl.1 rfl (by first | exact Nat.le_of_ble_eq_true rfl | (simp only [rmL_couriers, rmL_least, rmL_passedBy]; omega) | (simp only [rmL_couriers]; omega)) dL_couriers_257 ⟨(by show _ ≤ K; omega), (by show _ ≤ 6 * K; omega)⟩ (fun H locs hW hS => ?_)
      refine W.widen (k := (κ7 + 2)) (n := 6 * (κ7 + 2)) (by omega) (by omega) ?_
      refine lv_iload_n hx hb dL_couriers_260 rfl (lv_at hl 2 rfl) ?_
      refine lv_i2f hx hb dL_couriers_261 ?_
      refine lv_iload_n hx hb dL_couriers_262 rfl (lv_at hl 1 rfl) ?_
      refine lv_i2f hx hb dL_couriers_263 ?_
      obtain ⟨c29, h⟩ := gd_out h
      refine lv_fdiv hx hb dL_couriers_264 c29 ?_
      refine lv_fcmp hx hb dL_couriers_265 ?_
      refine lv_if_ne (tgt := 327) hx hb dL_couriers_266 (by decide) (fun c30 => ?_) (fun c30 => ?_)
      · replace h := ite_f c30 h
        refine W.widen (k := (κ7 + 2)) (n := 6 * (κ7 + 2)) (by omega) (by omega) ?_
        exact J23 _ h _ _ _ hW hS (lv_sub hl [] rfl)
      · replace h := ite_t c30 h
        refine lv_aload_n hx hb dL_couriers_269 rfl (lv_at hl 0 rfl) ?_
        obtain ⟨g31, h⟩ := gd_out h
        refine gz_di (As := []) (A := true) (w := fun r => .int (b2i r)) F hX hk hC hml hS hW (fun μ hP => z_isConsistent (N := N) hN hP) (fun μ r h9 X9 hX9 => metX10_isConsistent F hX9 is_Ga h9) ml_L_360 rfl ⟨rfl, rfl, (by first | exact Nat.le_of_ble_eq_true rfl | (simp only [rmL_couriers, rmL_least, rmL_passedBy]; omega) | (simp only [rmL_couriers]; omega)), (by first | exact Nat.le_of_ble_eq_true rfl | (simp only [rmL_couriers, rmL_least, rmL_passedBy]; omega) | (simp only [rmL_couriers]; omega))⟩ rfl hl.1 rfl (by first | exact Nat.le_of_ble_eq_true rfl | (simp only [rmL_couriers, rmL_least, rmL_passedBy]; omega) | (simp only [rmL_couriers]; omega)) dL_couriers_270 ⟨(by show _ ≤ K; omega), (by show _ ≤ 6 * K; omega)⟩ (fun H locs hW hS => ?_)
        refine gw_if_eqZ (tgt := 327) hx hb dL_couriers_273 (by decide) (fun c32 => ?_) (fun c32 => ?_)
        · replace h := cond_f c32 h
          refine W.widen (k := (κ7 + 2)) (n := 6 * (κ7 + 2)) (by omega) (by omega) ?_
          exact J23 _ h _ _ _ hW hS (lv_sub hl [] rfl)
        · replace h := cond_t c32 h
          refine lv_aload_n hx hb dL_couriers_276 rfl (lv_at hl 0 rfl) ?_
          refine lv_iload_n hx hb dL_couriers_277 rfl (lv_at hl 1 rfl) ?_
          refine lv_iconst (v := 0) hx hb dL_couriers_278 (by decide) ?_
          obtain ⟨g33, h⟩ := gd_out h
          refine gz_wr (As := [.ref (B + 0), .int v2, .int 0]) F hk hC hml hS hW (mq_meltIfSent F hX hN) mw_L_345 ⟨rfl, rfl, (by first | exact Nat.le_of_ble_eq_true rfl | (simp only [rmL_couriers, rmL_least, rmL_passedBy]; omega) | (simp only [rmL_couriers]; omega)), (by first | exact Nat.le_of_ble_eq_true rfl | (simp only [rmL_couriers, rmL_least, rmL_passedBy]; omega) | (simp only [rmL_couriers]; omega))⟩ rfl hl.1 rfl (by first | exact Nat.le_of_ble_eq_true rfl | (simp only [rmL_couriers, rmL_least, rmL_passedBy]; omega) | (simp only [rmL_couriers]; omega)) dL_couriers_279 ⟨(by show _ ≤ K; omega), (by show _ ≤ 6 * K; omega)⟩ (fun H locs hW hS => ?_)
          refine W.widen (k := (κ7 + 4)) (n := 6 * (κ7 + 4)) (by omega) (by omega) ?_
          change W p l e _ s m args below meth c H locs _ _ Q (F0 m _ ls (.int (wL_meltIfSent Z v2 0) :: _))
          refine lv_bipush (v := (-11)) hx hb dL_couriers_282 (by decide) ?_
          refine lv_icmp_ne (tgt := 327) hx hb dL_couriers_284 (by decide) (fun c34 => ?_) (fun c34 => ?_)
          · replace h := ite_f c34 h
            refine W.widen (k := (κ7 + 4)) (n := 6 * (κ7 + 4)) (by omega) (by omega) ?_
            exact J23 _ h _ _ _ hW hS (lv_sub hl [] rfl)
          · replace h := ite_t c34 h
            refine lv_aload_n hx hb dL_couriers_287 rfl (lv_at hl 0 rfl) ?_
            refine lv_iconst (v := 0) hx hb dL_couriers_288 (by decide) ?_
            refine lv_aload_n hx hb dL_couriers_289 rfl (lv_at hl 0 rfl) ?_
            obtain ⟨g35, h⟩ := gd_out h
            refine gz_dv (As := []) (w := fun r => .int r) F hX hk hC hml hS hW (fun μ hP => z_roomCount (N := N) hP) (fun μ r h9 X9 hX9 => metX10_roomCount F hX9 is_Ga h9) ml_L_250 rfl ⟨rfl, rfl, (by first | exact Nat.le_of_ble_eq_true rfl | (simp only [rmL_couriers, rmL_least, rmL_passedBy]; omega) | (simp only [rmL_couriers]; omega)), (by first | exact Nat.le_of_ble_eq_true rfl | (simp only [rmL_couriers, rmL_least, rmL_passedBy]; omega) | (simp only [rmL_couriers]; omega))⟩ rfl hl.1 rfl (by first | exact Nat.le_of_ble_eq_true rfl | (simp only [rmL_couriers, rmL_least, rmL_passedBy]; omega) | (simp only [rmL_couriers]; omega)) dL_couriers_290 ⟨(by show _ ≤ K; omega), (by show _ ≤ 6 * K; omega)⟩ (fun H locs hW hS => ?_)
            obtain ⟨g36, h⟩ := gd_out h
            refine gz_wr (As := [.ref (B + 0), .int 0, .int (nI (nZ Z))]) F hk hC hml hS hW (mq_meltIfSent F hX hN) mw_L_345 ⟨rfl, rfl, (by first | exact Nat.le_of_ble_eq_true rfl | (simp only [rmL_couriers, rmL_least, rmL_passedBy]; omega) | (simp only [rmL_couriers]; omega)), (by first | exact Nat.le_of_ble_eq_true rfl | (simp only [rmL_couriers, rmL_least, rmL_passedBy]; omega) | (simp only [rmL_couriers]; omega))⟩ rfl hl.1 rfl (by first | exact Nat.le_of_ble_eq_true rfl | (simp only [rmL_couriers, rmL_least, rmL_passedBy]; omega) | (simp only [rmL_couriers]; omega)) dL_couriers_293 ⟨(by show _ ≤ K; omega), (by show _ ≤ 6 * K; omega)⟩ (fun H locs hW hS => ?_)
            refine W.widen (k := (κ7 + 6)) (n := 6 * (κ7 + 6)) (by omega) (by omega) ?_
            change W p l e _ s m args below meth c H locs _ _ Q (F0 m _ ls (.int (wL_meltIfSent Z 0 (nI (nZ Z))) :: _))
            refine lv_bipush (v := (-11)) hx hb dL_couriers_296 (by decide) ?_
            refine lv_icmp_ne (tgt := 327) hx hb dL_couriers_298 (by decide) (fun c37 => ?_) (fun c37 => ?_)
            · replace h := ite_f c37 h
              refine W.widen (k := (κ7 + 6)) (n := 6 * (κ7 + 6)) (by omega) (by omega) ?_
              exact J23 _ h _ _ _ hW hS (lv_sub hl [] rfl)
            · replace h := ite_t c37 h
              refine lv_aload_n hx hb dL_couriers_301 rfl (lv_at hl 0 rfl) ?_
              refine lv_iload_n hx hb dL_couriers_302 rfl (lv_at hl 1 rfl) ?_
              refine lv_iconst (v := 0) hx hb dL_couriers_303 (by decide) ?_
              obtain ⟨g38, h⟩ := gd_out h
              refine gz_wr (As := [.ref (B + 0), .int v2, .int 0]) F hk hC hml hS hW (mq_leastPassed F hX hN) mw_L_347 ⟨rfl, rfl, (by first | exact Nat.le_of_ble_eq_true rfl | (simp only [rmL_couriers, rmL_least, rmL_passedBy]; omega) | (simp only [rmL_couriers]; omega)), (by first | exact Nat.le_of_ble_eq_true rfl | (simp only [rmL_couriers, rmL_least, rmL_passedBy]; omega) | (simp only [rmL_couriers]; omega))⟩ rfl hl.1 rfl (by first | exact Nat.le_of_ble_eq_true rfl | (simp only [rmL_couriers, rmL_least, rmL_passedBy]; omega) | (simp only [rmL_couriers]; omega)) dL_couriers_304 ⟨(by show _ ≤ K; omega), (by show _ ≤ 6 * K; omega)⟩ (fun H locs hW hS => ?_)
              refine W.widen (k := (κ7 + 8)) (n := 6 * (κ7 + 8)) (by omega) (by omega) ?_
              change W p l e _ s m args below meth c H locs _ _ Q (F0 m _ ls (.int (wL_leastPassed Z v2 0) :: _))
              refine lv_bipush (v := (-11)) hx hb dL_couriers_307 (by decide) ?_
              refine lv_icmp_ne (tgt := 327) hx hb dL_couriers_309 (by decide) (fun c39 => ?_) (fun c39 => ?_)
              · replace h := ite_f c39 h
                refine W.widen (k := (κ7 + 8)) (n := 6 * (κ7 + 8)) (by omega) (by omega) ?_
                exact J23 _ h _ _ _ hW hS (lv_sub hl [] rfl)
              · replace h := ite_t c39 h
                refine lv_aload_n hx hb dL_couriers_312 rfl (lv_at hl 0 rfl) ?_
                refine lv_iconst (v := 0) hx hb dL_couriers_313 (by decide) ?_
                refine lv_iconst (v := (-1)) hx hb dL_couriers_314 (by decide) ?_
                obtain ⟨g40, h⟩ := gd_out h
                refine gz_wr (As := [.ref (B + 0), .int 0, .int (-1)]) F hk hC hml hS hW (mq_leastByRounds F hX hN) mw_L_349 ⟨rfl, rfl, (by first | exact Nat.le_of_ble_eq_true rfl | (simp only [rmL_couriers, rmL_least, rmL_passedBy]; omega) | (simp only [rmL_couriers]; omega)), (by first | exact Nat.le_of_ble_eq_true rfl | (simp only [rmL_couriers, rmL_least, rmL_passedBy]; omega) | (simp only [rmL_couriers]; omega))⟩ rfl hl.1 rfl (by first | exact Nat.le_of_ble_eq_true rfl | (simp only [rmL_couriers, rmL_least, rmL_passedBy]; omega) | (simp only [rmL_couriers]; omega)) dL_couriers_315 ⟨(by show _ ≤ K; omega), (by show _ ≤ 6 * K; omega)⟩ (fun H locs hW hS => ?_)
                refine W.widen (k := (κ7 + 10)) (n := 6 * (κ7 + 10)) (by omega) (by omega) ?_
                change W p l e _ s m args below meth c H locs _ _ Q (F0 m _ ls (.int (wL_leastByRounds Z 0 (-1)) :: _))
                refine lv_bipush (v := (-11)) hx hb dL_couriers_318 (by decide) ?_
                refine lv_icmp_ne (tgt := 327) hx hb dL_couriers_320 (by decide) (fun c41 => ?_) (fun c41 => ?_)
                · replace h := ite_f c41 h
                  refine W.widen (k := (κ7 + 10)) (n := 6 * (κ7 + 10)) (by omega) (by omega) ?_
                  exact J23 _ h _ _ _ hW hS (lv_sub hl [] rfl)
                · replace h := ite_t c41 h
                  refine lv_iconst (v := 1) hx hb dL_couriers_323 (by decide) ?_
                  refine lv_goto (tgt := 328) hx hb dL_couriers_324 (by decide) ?_
                  refine W.widen (k := (κ7 + 10)) (n := 6 * (κ7 + 10)) (by omega) (by omega) ?_
                  exact J18 _ _ h _ _ _ hW hS (lv_sub hl [] rfl)
  · replace h := ite_f c10 h
    refine lv_iload_n hx hb dL_couriers_18 rfl (lv_at hl 2 rfl) ?_
    refine lv_aload_n hx hb dL_couriers_19 rfl (lv_at hl 0 rfl) ?_
    refine lv_iload hx hb dL_couriers_20 (lv_at hl 4 rfl) ?_
    refine lv_aload_n hx hb dL_couriers_22 rfl (lv_at hl 0 rfl) ?_
    obtain ⟨g42, h⟩ := gd_out h
    refine gz_dv (As := []) (w := fun r => .int r) F hX hk hC hml hS hW (fun μ hP => z_day (N := N) hP) (fun μ r h9 X9 hX9 => metX10_day F hX9 is_Ga h9) ml_L_342 rfl ⟨rfl, rfl, (by first | exact Nat.le_of_ble_eq_true rfl | (simp only [rmL_couriers, rmL_least, rmL_passedBy]; omega) | (simp only [rmL_couriers]; omega)), (by first | exact Nat.le_of_ble_eq_true rfl | (simp only [rmL_couriers, rmL_least, rmL_passedBy]; omega) | (simp only [rmL_couriers]; omega))⟩ rfl hl.1 rfl (by first | exact Nat.le_of_ble_eq_true rfl | (simp only [rmL_couriers, rmL_least, rmL_passedBy]; omega) | (simp only [rmL_couriers]; omega)) dL_couriers_23 ⟨(by show _ ≤ K; omega), (by show _ ≤ 6 * K; omega)⟩ (fun H locs hW hS => ?_)
    obtain ⟨g43, h⟩ := gd_out h
    obtain ⟨v44, hv45, h⟩ := bd_out h
    refine gz_dx (As := [.int x6, .int (Z 2)]) (o := oZ) (w := .int (b2i v44)) F hX hk hC hml hS hW (fun μ hP => z_isLent (N := N) hP) (fun μ r h9 X9 hX9 => metX10_isLent F hX9 is_Ga h9) (gR_o hv45) rfl ml_L_139 rfl ⟨rfl, rfl, (by first | exact Nat.le_of_ble_eq_true rfl | (simp only [rmL_couriers, rmL_least, rmL_passedBy]; omega) | (simp only [rmL_couriers]; omega)), (by first | exact Nat.le_of_ble_eq_true rfl | (simp only [rmL_couriers, rmL_least, rmL_passedBy]; omega) | (simp only [rmL_couriers]; omega))⟩ rfl hl.1 rfl (by first | exact Nat.le_of_ble_eq_true rfl | (simp only [rmL_couriers, rmL_least, rmL_passedBy]; omega) | (simp only [rmL_couriers]; omega)) dL_couriers_26 ⟨(by show _ ≤ K; omega), (by show _ ≤ 6 * K; omega)⟩ (fun H locs hW hS => ?_)
    refine W.widen (k := (κ7 + 1)) (n := 6 * (κ7 + 1)) (by omega) (by omega) ?_
    obtain ⟨j48, hj50, h⟩ := jn2_o h
    have J49 : ∀ (y46 : Bool) (κ47 : Nat), j48 y46 κ47 = some r → ∀ (H : Heap) (locs : List Loc) (ls : Array Slot), gZ s0 D T B X Z hs t H → va_S (gA B X) s.heap H locs → lv_has ls 10 [(0, .ref (B + 0)), (1, .int v2), (3, .int x5), (4, .int x6)] → W p l e (rmL_couriers K) s m args below meth c H locs κ47 (6 * κ47) Q (F0 m 37 ls [.int (b2i y46), .int x4]) := by
      clear h hW hS hl
      intro y46 κ47 h H locs ls hW hS hl
      replace h := (hj50 y46 κ47).symm.trans h
      refine lv_iadd hx hb dL_couriers_37 ?_
      obtain ⟨v51, e52, h⟩ := lt_out h
      rw [← e52]
      refine lv_istore_n (lv' := [(2, .int v51), (0, .ref (B + 0)), (1, .int v2), (3, .int x5), (4, .int x6)]) hx hb dL_couriers_38 rfl hl (by decide) rfl (fun ls hl => ?_)
      refine lv_iload_n hx hb dL_couriers_39 rfl (lv_at hl 3 rfl) ?_
      refine lv_aload_n hx hb dL_couriers_40 rfl (lv_at hl 1 rfl) ?_
      refine lv_iload hx hb dL_couriers_41 (lv_at hl 4 rfl) ?_
      obtain ⟨g53, h⟩ := gd_out h
      obtain ⟨v54, hv55, h⟩ := bd_out h
      refine gz_dx (As := [.int x6]) (o := oI) (w := .int v54) F hX hk hC hml hS hW (fun μ hP => z_grains (N := N) (by omega) hP) (fun μ r h9 X9 hX9 => metX10_grains F hX9 is_Ga h9) (gR_o hv55) rfl ml_L_79 rfl ⟨rfl, rfl, (by first | exact Nat.le_of_ble_eq_true rfl | (simp only [rmL_couriers, rmL_least, rmL_passedBy]; omega) | (simp only [rmL_couriers]; omega)), (by first | exact Nat.le_of_ble_eq_true rfl | (simp only [rmL_couriers, rmL_least, rmL_passedBy]; omega) | (simp only [rmL_couriers]; omega))⟩ rfl hl.1 rfl (by first | exact Nat.le_of_ble_eq_true rfl | (simp only [rmL_couriers, rmL_least, rmL_passedBy]; omega) | (simp only [rmL_couriers]; omega)) dL_couriers_43 ⟨(by show _ ≤ K; omega), (by show _ ≤ 6 * K; omega)⟩ (fun H locs hW hS => ?_)
      refine W.widen (k := (κ47 + 1)) (n := 6 * (κ47 + 1)) (by omega) (by omega) ?_
      refine lv_iadd hx hb dL_couriers_46 ?_
      obtain ⟨v56, e57, h⟩ := lt_out h
      rw [← e57]
      refine lv_istore_n (lv' := [(3, .int v56), (2, .int v51), (0, .ref (B + 0)), (1, .int v2), (4, .int x6)]) hx hb dL_couriers_47 rfl hl (by decide) rfl (fun ls hl => ?_)
      refine lv_aload_n hx hb dL_couriers_48 rfl (lv_at hl 2 rfl) ?_
      refine lv_iload hx hb dL_couriers_49 (lv_at hl 4 rfl) ?_
      obtain ⟨g58, h⟩ := gd_out h
      obtain ⟨v59, hv60, h⟩ := bd_out h
      refine gz_dx (As := [.int x6]) (o := oI) (w := .int v59) F hX hk hC hml hS hW (fun μ hP => z_roomOf (N := N) hP) (fun μ r h9 X9 hX9 => metX10_roomOf F hX9 is_Ga h9) (gR_o hv60) rfl ml_L_70 rfl ⟨rfl, rfl, (by first | exact Nat.le_of_ble_eq_true rfl | (simp only [rmL_couriers, rmL_least, rmL_passedBy]; omega) | (simp only [rmL_couriers]; omega)), (by first | exact Nat.le_of_ble_eq_true rfl | (simp only [rmL_couriers, rmL_least, rmL_passedBy]; omega) | (simp only [rmL_couriers]; omega))⟩ rfl hl.1 rfl (by first | exact Nat.le_of_ble_eq_true rfl | (simp only [rmL_couriers, rmL_least, rmL_passedBy]; omega) | (simp only [rmL_couriers]; omega)) dL_couriers_51 ⟨(by show _ ≤ K; omega), (by show _ ≤ 6 * K; omega)⟩ (fun H locs hW hS => ?_)
      refine W.widen (k := (κ47 + 2)) (n := 6 * (κ47 + 2)) (by omega) (by omega) ?_
      refine lv_istore (lv' := [(5, .int v59), (3, .int v56), (2, .int v51), (0, .ref (B + 0)), (1, .int v2), (4, .int x6)]) hx hb dL_couriers_54 hl (by decide) rfl (fun ls hl => ?_)
      refine lv_iconst (v := 0) hx hb dL_couriers_56 (by decide) ?_
      refine lv_istore (lv' := [(6, .int 0), (5, .int v59), (3, .int v56), (2, .int v51), (0, .ref (B + 0)), (1, .int v2), (4, .int x6)]) hx hb dL_couriers_57 hl (by decide) rfl (fun ls hl => ?_)
      refine W.widen (k := (κ47 + 2)) (n := 6 * (κ47 + 2)) (by omega) (by omega) ?_
      refine fix2_ind (fun (x61 : Int32) (κ62 : Nat) => ∀ (H : Heap) (locs : List Loc) (ls : Array Slot), gZ s0 D T B X Z hs t H → va_S (gA B X) s.heap H locs → lv_has ls 10 [(0, .ref (B + 0)), (1, .int v2), (2, .int v51), (3, .int v56), (4, .int x6), (5, .int v59), (6, .int x61)] → W p l e (rmL_couriers K) s m args below meth c H locs κ62 (6 * κ62) Q (F0 m 59 ls [])) ?_ N _ _ h _ _ _ hW hS (lv_sub hl [4, 5, 3, 2, 6, 1, 0] rfl)
      clear h hW hS hl
      intro self63 IH64 x61 κ62 h H locs ls hW hS hl
      refine lv_iload hx hb dL_couriers_59 (lv_at hl 6 rfl) ?_
      refine lv_aload_n hx hb dL_couriers_61 rfl (lv_at hl 0 rfl) ?_
      obtain ⟨g65, h⟩ := gd_out h
      refine gz_dv (As := []) (w := fun r => .int r) F hX hk hC hml hS hW (fun μ hP => z_roomCount (N := N) hP) (fun μ r h9 X9 hX9 => metX10_roomCount F hX9 is_Ga h9) ml_L_250 rfl ⟨rfl, rfl, (by first | exact Nat.le_of_ble_eq_true rfl | (simp only [rmL_couriers, rmL_least, rmL_passedBy]; omega) | (simp only [rmL_couriers]; omega)), (by first | exact Nat.le_of_ble_eq_true rfl | (simp only [rmL_couriers, rmL_least, rmL_passedBy]; omega) | (simp only [rmL_couriers]; omega))⟩ rfl hl.1 rfl (by first | exact Nat.le_of_ble_eq_true rfl | (simp only [rmL_couriers, rmL_least, rmL_passedBy]; omega) | (simp only [rmL_couriers]; omega)) dL_couriers_62 ⟨(by show _ ≤ K; omega), (by show _ ≤ 6 * K; omega)⟩ (fun H locs hW hS => ?_)
      refine lv_icmp_ge (tgt := 237) hx hb dL_couriers_65 (by decide) (fun c66 => ?_) (fun c66 => ?_)
      · replace h := ite_t c66 h
        obtain ⟨v67, e68, h⟩ := lt_out h
        refine lv_iinc (v := v67) (lv' := [(4, .int v67), (0, .ref (B + 0)), (1, .int v2), (2, .int v51), (3, .int v56), (5, .int v59), (6, .int x61)]) hx hb dL_couriers_237 hl (k := 4) rfl (by rw [e68]; rfl) (by decide) rfl (fun ls hl => ?_)
        refine lv_goto (tgt := 12) hx hb dL_couriers_240 (by decide) ?_
        refine W.widen (k := κ62) (n := 6 * κ62) (by omega) (by omega) ?_
        exact IH9 _ _ _ _ h _ _ _ hW hS (lv_sub hl [1, 2, 3, 4, 0] rfl)
      · replace h := ite_f c66 h
        refine lv_aload_n hx hb dL_couriers_68 rfl (lv_at hl 0 rfl) ?_
        refine lv_iload hx hb dL_couriers_69 (lv_at hl 5 rfl) ?_
        refine lv_iload hx hb dL_couriers_71 (lv_at hl 6 rfl) ?_
        obtain ⟨g69, h⟩ := gd_out h
        refine gz_wr (As := [.ref (B + 0), .int v59, .int x61]) F hk hC hml hS hW (mq_wayLegs F hX hN) mw_L_274 ⟨rfl, rfl, (by first | exact Nat.le_of_ble_eq_true rfl | (simp only [rmL_couriers, rmL_least, rmL_passedBy]; omega) | (simp only [rmL_couriers]; omega)), (by first | exact Nat.le_of_ble_eq_true rfl | (simp only [rmL_couriers, rmL_least, rmL_passedBy]; omega) | (simp only [rmL_couriers]; omega))⟩ rfl hl.1 rfl (by first | exact Nat.le_of_ble_eq_true rfl | (simp only [rmL_couriers, rmL_least, rmL_passedBy]; omega) | (simp only [rmL_couriers]; omega)) dL_couriers_73 ⟨(by show _ ≤ K; omega), (by show _ ≤ 6 * K; omega)⟩ (fun H locs hW hS => ?_)
        refine W.widen (k := (κ62 + 2)) (n := 6 * (κ62 + 2)) (by omega) (by omega) ?_
        change W p l e _ s m args below meth c H locs _ _ Q (F0 m _ ls (.int (wL_wayLegs Z v59 x61) :: _))
        obtain ⟨v70, e71, h⟩ := lt_out h
        rw [← e71]
        refine lv_istore (lv' := [(7, .int v70), (0, .ref (B + 0)), (1, .int v2), (2, .int v51), (3, .int v56), (4, .int x6), (5, .int v59), (6, .int x61)]) hx hb dL_couriers_76 hl (by decide) rfl (fun ls hl => ?_)
        refine lv_iconst (v := 0) hx hb dL_couriers_78 (by decide) ?_
        refine lv_istore (lv' := [(8, .int 0), (7, .int v70), (0, .ref (B + 0)), (1, .int v2), (2, .int v51), (3, .int v56), (4, .int x6), (5, .int v59), (6, .int x61)]) hx hb dL_couriers_79 hl (by decide) rfl (fun ls hl => ?_)
        refine lv_iconst (v := 0) hx hb dL_couriers_81 (by decide) ?_
        refine lv_istore (lv' := [(9, .int 0), (8, .int 0), (7, .int v70), (0, .ref (B + 0)), (1, .int v2), (2, .int v51), (3, .int v56), (4, .int x6), (5, .int v59), (6, .int x61)]) hx hb dL_couriers_82 hl (by decide) rfl (fun ls hl => ?_)
        refine W.widen (k := (κ62 + 2)) (n := 6 * (κ62 + 2)) (by omega) (by omega) ?_
        refine fix3_ind (fun (x72 : Int32) (x73 : Int32) (κ74 : Nat) => ∀ (H : Heap) (locs : List Loc) (ls : Array Slot), gZ s0 D T B X Z hs t H → va_S (gA B X) s.heap H locs → lv_has ls 10 [(0, .ref (B + 0)), (1, .int v2), (2, .int v51), (3, .int v56), (4, .int x6), (5, .int v59), (6, .int x61), (7, .int v70), (8, .int x72), (9, .int x73)] → W p l e (rmL_couriers K) s m args below meth c H locs κ74 (6 * κ74) Q (F0 m 84 ls [])) ?_ N _ _ _ h _ _ _ hW hS (lv_sub hl [3, 4, 5, 6, 7, 8, 9, 2, 1, 0] rfl)
        clear h hW hS hl
        intro self75 IH76 x72 x73 κ74 h H locs ls hW hS hl
        refine lv_iload hx hb dL_couriers_84 (lv_at hl 9 rfl) ?_
        refine lv_iload hx hb dL_couriers_86 (lv_at hl 7 rfl) ?_
        refine lv_icmp_ge (tgt := 137) hx hb dL_couriers_88 (by decide) (fun c77 => ?_) (fun c77 => ?_)
        · replace h := ite_t c77 h
          refine lv_aload_n hx hb dL_couriers_137 rfl (lv_at hl 0 rfl) ?_
          refine lv_iload hx hb dL_couriers_138 (lv_at hl 5 rfl) ?_
          refine lv_iload hx hb dL_couriers_140 (lv_at hl 6 rfl) ?_
          refine lv_aload_n hx hb dL_couriers_142 rfl (lv_at hl 0 rfl) ?_
          refine lv_iload hx hb dL_couriers_143 (lv_at hl 4 rfl) ?_
          obtain ⟨g78, h⟩ := gd_out h
          obtain ⟨v79, hv80, h⟩ := bd_out h
          refine gz_dx (As := [.int x6]) (o := oI) (w := .int v79) F hX hk hC hml hS hW (fun μ hP => z_limit (N := N) hP) (fun μ r h9 X9 hX9 => metX10_limit F hX9 is_Ga h9) (gR_o hv80) rfl ml_L_73 rfl ⟨rfl, rfl, (by first | exact Nat.le_of_ble_eq_true rfl | (simp only [rmL_couriers, rmL_least, rmL_passedBy]; omega) | (simp only [rmL_couriers]; omega)), (by first | exact Nat.le_of_ble_eq_true rfl | (simp only [rmL_couriers, rmL_least, rmL_passedBy]; omega) | (simp only [rmL_couriers]; omega))⟩ rfl hl.1 rfl (by first | exact Nat.le_of_ble_eq_true rfl | (simp only [rmL_couriers, rmL_least, rmL_passedBy]; omega) | (simp only [rmL_couriers]; omega)) dL_couriers_145 ⟨(by show _ ≤ K; omega), (by show _ ≤ 6 * K; omega)⟩ (fun H locs hW hS => ?_)
          refine W.widen (k := (κ74 + 1)) (n := 6 * (κ74 + 1)) (by omega) (by omega) ?_
          refine lv_iconst (v := 0) hx hb dL_couriers_148 (by decide) ?_
          obtain ⟨g81, h⟩ := gd_out h
          obtain ⟨r82, hcall, h⟩ := bd_out h
          refine gz_in (As := [.ref (B + 0), .int v59, .int x61, .int v79, .int 0]) F hk hC hml hS hW (metL_least F hX hN 8 hcall) ml_L_339 ⟨rfl, rfl, (by first | exact Nat.le_of_ble_eq_true rfl | (simp only [rmL_couriers, rmL_least, rmL_passedBy]; omega) | (simp only [rmL_couriers]; omega)), (by first | exact Nat.le_of_ble_eq_true rfl | (simp only [rmL_couriers, rmL_least, rmL_passedBy]; omega) | (simp only [rmL_couriers]; omega))⟩ rfl hl.1 rfl (by first | exact Nat.le_of_ble_eq_true rfl | (simp only [rmL_couriers, rmL_least, rmL_passedBy]; omega) | (simp only [rmL_couriers]; omega)) dL_couriers_149 ⟨(by show _ ≤ K; omega), (by show _ ≤ 6 * K; omega)⟩ (fun H locs hW hS => ?_)
          refine W.widen (k := ((κ74 + 1) + (ckW 14 v59 0))) (n := 6 * ((κ74 + 1) + (ckW 14 v59 0))) (by omega) (by omega) ?_
          refine lv_istore (lv' := [(9, .int r82), (0, .ref (B + 0)), (1, .int v2), (2, .int v51), (3, .int v56), (4, .int x6), (5, .int v59), (6, .int x61), (7, .int v70), (8, .int x72)]) hx hb dL_couriers_152 hl (by decide) rfl (fun ls hl => ?_)
          refine lv_iload hx hb dL_couriers_154 (lv_at hl 0 rfl) ?_
          refine lv_sipush (v := 9999) hx hb dL_couriers_156 (by decide) ?_
          obtain ⟨j85, hj87, h⟩ := jn2_o h
          have J86 : ∀ (y83 : Int32) (κ84 : Nat), j85 y83 κ84 = some r → ∀ (H : Heap) (locs : List Loc) (ls : Array Slot), gZ s0 D T B X Z hs t H → va_S (gA B X) s.heap H locs → lv_has ls 10 [(0, .ref (B + 0)), (1, .int v2), (2, .int v51), (3, .int v56), (4, .int x6), (5, .int v59), (6, .int x61), (7, .int v70), (8, .int x72)] → W p l e (rmL_couriers K) s m args below meth c H locs κ84 (6 * κ84) Q (F0 m 169 ls [.int y83]) := by
            clear h hW hS hl
            intro y83 κ84 h H locs ls hW hS hl
            replace h := (hj87 y83 κ84).symm.trans h
            refine lv_istore (lv' := [(9, .int y83), (0, .ref (B + 0)), (1, .int v2), (2, .int v51), (3, .int v56), (4, .int x6), (5, .int v59), (6, .int x61), (7, .int v70), (8, .int x72)]) hx hb dL_couriers_169 hl (by decide) rfl (fun ls hl => ?_)
            refine lv_aload_n hx hb dL_couriers_171 rfl (lv_at hl 1 rfl) ?_
            refine lv_iload hx hb dL_couriers_172 (lv_at hl 5 rfl) ?_
            refine lv_iload hx hb dL_couriers_174 (lv_at hl 7 rfl) ?_
            obtain ⟨g88, h⟩ := gd_out h
            refine gz_wr (As := [.ref (B + 0), .int x6, .int x61]) F hk hC hml hS hW (mq_meltIfSent F hX hN) mw_L_345 ⟨rfl, rfl, (by first | exact Nat.le_of_ble_eq_true rfl | (simp only [rmL_couriers, rmL_least, rmL_passedBy]; omega) | (simp only [rmL_couriers]; omega)), (by first | exact Nat.le_of_ble_eq_true rfl | (simp only [rmL_couriers, rmL_least, rmL_passedBy]; omega) | (simp only [rmL_couriers]; omega))⟩ rfl hl.1 rfl (by first | exact Nat.le_of_ble_eq_true rfl | (simp only [rmL_couriers, rmL_least, rmL_passedBy]; omega) | (simp only [rmL_couriers]; omega)) dL_couriers_176 ⟨(by show _ ≤ K; omega), (by show _ ≤ 6 * K; omega)⟩ (fun H locs hW hS => ?_)
            refine W.widen (k := (κ84 + 2)) (n := 6 * (κ84 + 2)) (by omega) (by omega) ?_
            change W p l e _ s m args below meth c H locs _ _ Q (F0 m _ ls (.int (wL_meltIfSent Z x6 x61) :: _))
            refine lv_iload hx hb dL_couriers_179 (lv_at hl 8 rfl) ?_
            obtain ⟨j91, hj93, h⟩ := jn2_o h
            have J92 : ∀ (y89 : Int32) (κ90 : Nat), j91 y89 κ90 = some r → ∀ (H : Heap) (locs : List Loc) (ls : Array Slot), gZ s0 D T B X Z hs t H → va_S (gA B X) s.heap H locs → lv_has ls 10 [(0, .ref (B + 0)), (1, .int v2), (2, .int v51), (3, .int v56), (4, .int x6), (5, .int v59), (6, .int x61), (9, .int y83)] → W p l e (rmL_couriers K) s m args below meth c H locs κ90 (6 * κ90) Q (F0 m 200 ls [.int y89, .int (wL_meltIfSent Z x6 x61)]) := by
              clear h hW hS hl
              intro y89 κ90 h H locs ls hW hS hl
              replace h := (hj93 y89 κ90).symm.trans h
              obtain ⟨j95, hj97, h⟩ := jn1_o h
              have J96 : ∀ (κ94 : Nat), j95 κ94 = some r → ∀ (H : Heap) (locs : List Loc) (ls : Array Slot), gZ s0 D T B X Z hs t H → va_S (gA B X) s.heap H locs → lv_has ls 10 [] → W p l e (rmL_couriers K) s m args below meth c H locs κ94 (6 * κ94) Q (F0 m 229 ls []) := by
                clear h hW hS hl
                intro κ94 h H locs ls hW hS hl
                replace h := (hj97 κ94).symm.trans h
                refine lv_iconst (v := 0) hx hb dL_couriers_229 (by decide) ?_
                obtain ⟨g98, h⟩ := gd_out h
                cases h
                exact hend dL_couriers_230 hW hS (by omega) (by omega)
              refine lv_icmp_ne (tgt := 229) hx hb dL_couriers_200 (by decide) (fun c99 => ?_) (fun c99 => ?_)
              · replace h := ite_f c99 h
                refine W.widen (k := κ90) (n := 6 * κ90) (by omega) (by omega) ?_
                exact J96 _ h _ _ _ hW hS (lv_sub hl [] rfl)
              · replace h := ite_t c99 h
                refine lv_aload_n hx hb dL_couriers_203 rfl (lv_at hl 0 rfl) ?_
                refine lv_iload hx hb dL_couriers_204 (lv_at hl 4 rfl) ?_
                refine lv_iload hx hb dL_couriers_206 (lv_at hl 6 rfl) ?_
                obtain ⟨g100, h⟩ := gd_out h
                refine gz_wr (As := [.ref (B + 0), .int x6, .int x61]) F hk hC hml hS hW (mq_leastPassed F hX hN) mw_L_347 ⟨rfl, rfl, (by first | exact Nat.le_of_ble_eq_true rfl | (simp only [rmL_couriers, rmL_least, rmL_passedBy]; omega) | (simp only [rmL_couriers]; omega)), (by first | exact Nat.le_of_ble_eq_true rfl | (simp only [rmL_couriers, rmL_least, rmL_passedBy]; omega) | (simp only [rmL_couriers]; omega))⟩ rfl hl.1 rfl (by first | exact Nat.le_of_ble_eq_true rfl | (simp only [rmL_couriers, rmL_least, rmL_passedBy]; omega) | (simp only [rmL_couriers]; omega)) dL_couriers_208 ⟨(by show _ ≤ K; omega), (by show _ ≤ 6 * K; omega)⟩ (fun H locs hW hS => ?_)
                refine W.widen (k := (κ90 + 2)) (n := 6 * (κ90 + 2)) (by omega) (by omega) ?_
                change W p l e _ s m args below meth c H locs _ _ Q (F0 m _ ls (.int (wL_leastPassed Z x6 x61) :: _))
                refine lv_iload hx hb dL_couriers_211 (lv_at hl 7 rfl) ?_
                refine lv_icmp_ne (tgt := 229) hx hb dL_couriers_213 (by decide) (fun c101 => ?_) (fun c101 => ?_)
                · replace h := ite_f c101 h
                  refine W.widen (k := (κ90 + 2)) (n := 6 * (κ90 + 2)) (by omega) (by omega) ?_
                  exact J96 _ h _ _ _ hW hS (lv_sub hl [] rfl)
                · replace h := ite_t c101 h
                  refine lv_aload_n hx hb dL_couriers_216 rfl (lv_at hl 0 rfl) ?_
                  refine lv_iload hx hb dL_couriers_217 (lv_at hl 4 rfl) ?_
                  refine lv_iload hx hb dL_couriers_219 (lv_at hl 6 rfl) ?_
                  obtain ⟨g102, h⟩ := gd_out h
                  refine gz_wr (As := [.ref (B + 0), .int x6, .int x61]) F hk hC hml hS hW (mq_leastByRounds F hX hN) mw_L_349 ⟨rfl, rfl, (by first | exact Nat.le_of_ble_eq_true rfl | (simp only [rmL_couriers, rmL_least, rmL_passedBy]; omega) | (simp only [rmL_couriers]; omega)), (by first | exact Nat.le_of_ble_eq_true rfl | (simp only [rmL_couriers, rmL_least, rmL_passedBy]; omega) | (simp only [rmL_couriers]; omega))⟩ rfl hl.1 rfl (by first | exact Nat.le_of_ble_eq_true rfl | (simp only [rmL_couriers, rmL_least, rmL_passedBy]; omega) | (simp only [rmL_couriers]; omega)) dL_couriers_221 ⟨(by show _ ≤ K; omega), (by show _ ≤ 6 * K; omega)⟩ (fun H locs hW hS => ?_)
                  refine W.widen (k := (κ90 + 4)) (n := 6 * (κ90 + 4)) (by omega) (by omega) ?_
                  change W p l e _ s m args below meth c H locs _ _ Q (F0 m _ ls (.int (wL_leastByRounds Z x6 x61) :: _))
                  refine lv_iload hx hb dL_couriers_224 (lv_at hl 7 rfl) ?_
                  refine lv_icmp_eq (tgt := 231) hx hb dL_couriers_226 (by decide) (fun c103 => ?_) (fun c103 => ?_)
                  · replace h := ite_t c103 h
                    obtain ⟨v104, e105, h⟩ := lt_out h
                    refine lv_iinc (v := v104) (lv' := [(6, .int v104), (0, .ref (B + 0)), (1, .int v2), (2, .int v51), (3, .int v56), (4, .int x6), (5, .int v59), (9, .int y83)]) hx hb dL_couriers_231 hl (k := 6) rfl (by rw [e105]; rfl) (by decide) rfl (fun ls hl => ?_)
                    refine lv_goto (tgt := 59) hx hb dL_couriers_234 (by decide) ?_
                    refine W.widen (k := (κ90 + 4)) (n := 6 * (κ90 + 4)) (by omega) (by omega) ?_
                    exact IH64 _ _ h _ _ _ hW hS (lv_sub hl [1, 2, 3, 4, 5, 6, 0] rfl)
                  · replace h := ite_f c103 h
                    refine W.widen (k := (κ90 + 4)) (n := 6 * (κ90 + 4)) (by omega) (by omega) ?_
                    exact J96 _ h _ _ _ hW hS (lv_sub hl [] rfl)
            refine lv_if_ge (tgt := 189) hx hb dL_couriers_181 (by decide) (fun c106 => ?_) (fun c106 => ?_)
            · replace h := ite_t c106 h
              refine lv_iload hx hb dL_couriers_189 (lv_at hl 9 rfl) ?_
              refine lv_aload_n hx hb dL_couriers_191 rfl (lv_at hl 1 rfl) ?_
              refine lv_iload hx hb dL_couriers_192 (lv_at hl 5 rfl) ?_
              obtain ⟨g107, h⟩ := gd_out h
              obtain ⟨v108, hv109, h⟩ := bd_out h
              refine gz_dx (As := [.int x6]) (o := oI) (w := .int v108) F hX hk hC hml hS hW (fun μ hP => z_grains (N := N) (by omega) hP) (fun μ r h9 X9 hX9 => metX10_grains F hX9 is_Ga h9) (gR_o hv109) rfl ml_L_79 rfl ⟨rfl, rfl, (by first | exact Nat.le_of_ble_eq_true rfl | (simp only [rmL_couriers, rmL_least, rmL_passedBy]; omega) | (simp only [rmL_couriers]; omega)), (by first | exact Nat.le_of_ble_eq_true rfl | (simp only [rmL_couriers, rmL_least, rmL_passedBy]; omega) | (simp only [rmL_couriers]; omega))⟩ rfl hl.1 rfl (by first | exact Nat.le_of_ble_eq_true rfl | (simp only [rmL_couriers, rmL_least, rmL_passedBy]; omega) | (simp only [rmL_couriers]; omega)) dL_couriers_194 ⟨(by show _ ≤ K; omega), (by show _ ≤ 6 * K; omega)⟩ (fun H locs hW hS => ?_)
              refine W.widen (k := (κ84 + 3)) (n := 6 * (κ84 + 3)) (by omega) (by omega) ?_
              obtain ⟨g110, h⟩ := gd_out h
              refine gw_min hC (hml.trans hl.1.symm) lm_L_209 lb_min.1 lb_min.2.1 lb_min.2.2 (by first | exact Nat.le_of_ble_eq_true rfl | (simp only [rmL_couriers, rmL_least, rmL_passedBy]; omega) | (simp only [rmL_couriers]; omega)) (by first | exact Nat.le_of_ble_eq_true rfl | (simp only [rmL_couriers, rmL_least, rmL_passedBy]; omega) | (simp only [rmL_couriers]; omega)) (by show _ ≤ K; omega) (by show _ ≤ 6 * K; omega) dL_couriers_197 ?_
              refine W.widen (k := (κ84 + 3)) (n := 6 * (κ84 + 3)) (by omega) (by omega) ?_
              exact J92 _ _ h _ _ _ hW hS (lv_sub hl [1, 2, 3, 4, 5, 6, 7, 0] rfl)
            · replace h := ite_f c106 h
              refine lv_bipush (v := (-13)) hx hb dL_couriers_184 (by decide) ?_
              refine lv_goto (tgt := 200) hx hb dL_couriers_186 (by decide) ?_
              refine W.widen (k := (κ84 + 2)) (n := 6 * (κ84 + 2)) (by omega) (by omega) ?_
              exact J92 _ _ h _ _ _ hW hS (lv_sub hl [1, 2, 3, 4, 5, 6, 7, 0] rfl)
          refine lv_icmp_lt (tgt := 167) hx hb dL_couriers_159 (by decide) (fun c111 => ?_) (fun c111 => ?_)
          · replace h := ite_t c111 h
            refine lv_iload hx hb dL_couriers_167 (lv_at hl 0 rfl) ?_
            refine W.widen (k := ((κ74 + 1) + (ckW 14 v59 0))) (n := 6 * ((κ74 + 1) + (ckW 14 v59 0))) (by omega) (by omega) ?_
            exact J86 _ _ h _ _ _ hW hS (lv_sub hl [1, 2, 3, 4, 5, 6, 7, 8, 9] rfl)
          · replace h := ite_f c111 h
            refine lv_bipush (v := (-13)) hx hb dL_couriers_162 (by decide) ?_
            refine lv_goto (tgt := 169) hx hb dL_couriers_164 (by decide) ?_
            refine W.widen (k := ((κ74 + 1) + (ckW 14 v59 0))) (n := 6 * ((κ74 + 1) + (ckW 14 v59 0))) (by omega) (by omega) ?_
            exact J86 _ _ h _ _ _ hW hS (lv_sub hl [1, 2, 3, 4, 5, 6, 7, 8, 9] rfl)
        · replace h := ite_f c77 h
          refine lv_iload hx hb dL_couriers_91 (lv_at hl 8 rfl) ?_
          refine lv_aload_n hx hb dL_couriers_93 rfl (lv_at hl 0 rfl) ?_
          refine lv_aload_n hx hb dL_couriers_94 rfl (lv_at hl 0 rfl) ?_
          refine lv_iload hx hb dL_couriers_95 (lv_at hl 5 rfl) ?_
          refine lv_iload hx hb dL_couriers_97 (lv_at hl 6 rfl) ?_
          refine lv_iload hx hb dL_couriers_99 (lv_at hl 9 rfl) ?_
          obtain ⟨g112, h⟩ := gd_out h
          obtain ⟨v113, hv114, h⟩ := bd_out h
          refine gz_dx (As := [.int v59, .int x61, .int x73]) (o := oI) (w := .int v113) F hX hk hC hml hS hW (fun μ hP => z_wayRoom (N := N) (by omega) hP) (fun μ r h9 X9 hX9 => metX10_wayRoom F hX9 is_Ga h9) (gR_o hv114) rfl ml_L_51 rfl ⟨rfl, rfl, (by first | exact Nat.le_of_ble_eq_true rfl | (simp only [rmL_couriers, rmL_least, rmL_passedBy]; omega) | (simp only [rmL_couriers]; omega)), (by first | exact Nat.le_of_ble_eq_true rfl | (simp only [rmL_couriers, rmL_least, rmL_passedBy]; omega) | (simp only [rmL_couriers]; omega))⟩ rfl hl.1 rfl (by first | exact Nat.le_of_ble_eq_true rfl | (simp only [rmL_couriers, rmL_least, rmL_passedBy]; omega) | (simp only [rmL_couriers]; omega)) dL_couriers_101 ⟨(by show _ ≤ K; omega), (by show _ ≤ 6 * K; omega)⟩ (fun H locs hW hS => ?_)
          refine W.widen (k := (κ74 + 3)) (n := 6 * (κ74 + 3)) (by omega) (by omega) ?_
          refine lv_aload_n hx hb dL_couriers_104 rfl (lv_at hl 0 rfl) ?_
          refine lv_iload hx hb dL_couriers_105 (lv_at hl 5 rfl) ?_
          refine lv_iload hx hb dL_couriers_107 (lv_at hl 6 rfl) ?_
          refine lv_iload hx hb dL_couriers_109 (lv_at hl 9 rfl) ?_
          refine lv_iconst (v := 1) hx hb dL_couriers_111 (by decide) ?_
          refine lv_iadd hx hb dL_couriers_112 ?_
          obtain ⟨g115, h⟩ := gd_out h
          obtain ⟨v116, hv117, h⟩ := bd_out h
          refine gz_dx (As := [.int v59, .int x61, .int (x73 + 1)]) (o := oI) (w := .int v116) F hX hk hC hml hS hW (fun μ hP => z_wayRoom (N := N) (by omega) hP) (fun μ r h9 X9 hX9 => metX10_wayRoom F hX9 is_Ga h9) (gR_o hv117) rfl ml_L_51 rfl ⟨rfl, rfl, (by first | exact Nat.le_of_ble_eq_true rfl | (simp only [rmL_couriers, rmL_least, rmL_passedBy]; omega) | (simp only [rmL_couriers]; omega)), (by first | exact Nat.le_of_ble_eq_true rfl | (simp only [rmL_couriers, rmL_least, rmL_passedBy]; omega) | (simp only [rmL_couriers]; omega))⟩ rfl hl.1 rfl (by first | exact Nat.le_of_ble_eq_true rfl | (simp only [rmL_couriers, rmL_least, rmL_passedBy]; omega) | (simp only [rmL_couriers]; omega)) dL_couriers_113 ⟨(by show _ ≤ K; omega), (by show _ ≤ 6 * K; omega)⟩ (fun H locs hW hS => ?_)
          refine W.widen (k := (κ74 + 6)) (n := 6 * (κ74 + 6)) (by omega) (by omega) ?_
          obtain ⟨g118, h⟩ := gd_out h
          obtain ⟨v119, hv120, h⟩ := bd_out h
          refine gz_dx (As := [.int v113, .int v116]) (o := oI) (w := .int v119) F hX hk hC hml hS hW (fun μ hP => z_legWarmth (N := N) hP) (fun μ r h9 X9 hX9 => metX10_legWarmth F hX9 is_Ga h9) (gR_o hv120) rfl ml_L_39 rfl ⟨rfl, rfl, (by first | exact Nat.le_of_ble_eq_true rfl | (simp only [rmL_couriers, rmL_least, rmL_passedBy]; omega) | (simp only [rmL_couriers]; omega)), (by first | exact Nat.le_of_ble_eq_true rfl | (simp only [rmL_couriers, rmL_least, rmL_passedBy]; omega) | (simp only [rmL_couriers]; omega))⟩ rfl hl.1 rfl (by first | exact Nat.le_of_ble_eq_true rfl | (simp only [rmL_couriers, rmL_least, rmL_passedBy]; omega) | (simp only [rmL_couriers]; omega)) dL_couriers_116 ⟨(by show _ ≤ K; omega), (by show _ ≤ 6 * K; omega)⟩ (fun H locs hW hS => ?_)
          refine W.widen (k := (κ74 + 7)) (n := 6 * (κ74 + 7)) (by omega) (by omega) ?_
          refine lv_aload_n hx hb dL_couriers_119 rfl (lv_at hl 0 rfl) ?_
          refine lv_iload hx hb dL_couriers_120 (lv_at hl 4 rfl) ?_
          obtain ⟨g121, h⟩ := gd_out h
          obtain ⟨v122, hv123, h⟩ := bd_out h
          refine gz_dx (As := [.int x6]) (o := oI) (w := .int v122) F hX hk hC hml hS hW (fun μ hP => z_limit (N := N) hP) (fun μ r h9 X9 hX9 => metX10_limit F hX9 is_Ga h9) (gR_o hv123) rfl ml_L_73 rfl ⟨rfl, rfl, (by first | exact Nat.le_of_ble_eq_true rfl | (simp only [rmL_couriers, rmL_least, rmL_passedBy]; omega) | (simp only [rmL_couriers]; omega)), (by first | exact Nat.le_of_ble_eq_true rfl | (simp only [rmL_couriers, rmL_least, rmL_passedBy]; omega) | (simp only [rmL_couriers]; omega))⟩ rfl hl.1 rfl (by first | exact Nat.le_of_ble_eq_true rfl | (simp only [rmL_couriers, rmL_least, rmL_passedBy]; omega) | (simp only [rmL_couriers]; omega)) dL_couriers_122 ⟨(by show _ ≤ K; omega), (by show _ ≤ 6 * K; omega)⟩ (fun H locs hW hS => ?_)
          refine W.widen (k := (κ74 + 8)) (n := 6 * (κ74 + 8)) (by omega) (by omega) ?_
          obtain ⟨g124, h⟩ := gd_out h
          obtain ⟨r125, hcall, h⟩ := bd_out h
          refine gz_in (As := [.int v119, .int v122]) F hk hC hml hS hW (metL_passedBy F hX hN hcall) ml_L_336 ⟨rfl, rfl, (by first | exact Nat.le_of_ble_eq_true rfl | (simp only [rmL_couriers, rmL_least, rmL_passedBy]; omega) | (simp only [rmL_couriers]; omega)), (by first | exact Nat.le_of_ble_eq_true rfl | (simp only [rmL_couriers, rmL_least, rmL_passedBy]; omega) | (simp only [rmL_couriers]; omega))⟩ rfl hl.1 rfl (by first | exact Nat.le_of_ble_eq_true rfl | (simp only [rmL_couriers, rmL_least, rmL_passedBy]; omega) | (simp only [rmL_couriers]; omega)) dL_couriers_125 ⟨(by show _ ≤ K; omega), (by show _ ≤ 6 * K; omega)⟩ (fun H locs hW hS => ?_)
          refine W.widen (k := ((κ74 + 8) + 0)) (n := 6 * ((κ74 + 8) + 0)) (by omega) (by omega) ?_
          refine lv_iadd hx hb dL_couriers_128 ?_
          obtain ⟨v126, e127, h⟩ := lt_out h
          rw [← e127]
          refine lv_istore (lv' := [(8, .int v126), (0, .ref (B + 0)), (1, .int v2), (2, .int v51), (3, .int v56), (4, .int x6), (5, .int v59), (6, .int x61), (7, .int v70), (9, .int x73)]) hx hb dL_couriers_129 hl (by decide) rfl (fun ls hl => ?_)
          obtain ⟨v128, e129, h⟩ := lt_out h
          refine lv_iinc (v := v128) (lv' := [(9, .int v128), (8, .int v126), (0, .ref (B + 0)), (1, .int v2), (2, .int v51), (3, .int v56), (4, .int x6), (5, .int v59), (6, .int x61), (7, .int v70)]) hx hb dL_couriers_131 hl (k := 9) rfl (by rw [e129]; rfl) (by decide) rfl (fun ls hl => ?_)
          refine lv_goto (tgt := 84) hx hb dL_couriers_134 (by decide) ?_
          refine W.widen (k := ((κ74 + 8) + 0)) (n := 6 * ((κ74 + 8) + 0)) (by omega) (by omega) ?_
          exact IH76 _ _ _ h _ _ _ hW hS (lv_sub hl [2, 3, 4, 5, 6, 7, 8, 9, 1, 0] rfl)
    refine gw_if_eqZ (tgt := 36) hx hb dL_couriers_29 (by decide) (fun c130 => ?_) (fun c130 => ?_)
    · replace h := cond_f c130 h
      refine lv_iconst (v := 0) hx hb dL_couriers_36 (by decide) ?_
      refine W.widen (k := (κ7 + 1)) (n := 6 * (κ7 + 1)) (by omega) (by omega) ?_
      exact J49 _ _ h _ _ _ hW hS (lv_sub hl [0, 1, 3, 4] rfl)
    · replace h := cond_t c130 h
      refine lv_iconst (v := 1) hx hb dL_couriers_32 (by decide) ?_
      refine lv_goto (tgt := 37) hx hb dL_couriers_33 (by decide) ?_
      refine W.widen (k := (κ7 + 1)) (n := 6 * (κ7 + 1)) (by omega) (by omega) ?_
      exact J49 _ _ h _ _ _ hW hS (lv_sub hl [0, 1, 3, 4] rfl)

