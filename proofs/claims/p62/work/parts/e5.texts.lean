/-! Printed by program: the law's texts. -/
theorem dL_texts_0 : decode cL_texts 0 = .ok (.iconst 0, 1) := by decide +kernel
theorem dL_texts_1 : decode cL_texts 1 = .ok (.istore_n 1, 1) := by decide +kernel
theorem dL_texts_2 : decode cL_texts 2 = .ok (.iload_n 1, 1) := by decide +kernel
theorem dL_texts_3 : decode cL_texts 3 = .ok (.aload_n 0, 1) := by decide +kernel
theorem dL_texts_4 : decode cL_texts 4 = .ok (.invokevirtual 295, 3) := by decide +kernel
theorem dL_texts_7 : decode cL_texts 7 = .ok (.if_icmp .ge 93, 3) := by decide +kernel
theorem dL_texts_10 : decode cL_texts 10 = .ok (.ldc_w 380, 3) := by decide +kernel
theorem dL_texts_13 : decode cL_texts 13 = .ok (.astore_n 2, 1) := by decide +kernel
theorem dL_texts_14 : decode cL_texts 14 = .ok (.iconst 0, 1) := by decide +kernel
theorem dL_texts_15 : decode cL_texts 15 = .ok (.istore_n 3, 1) := by decide +kernel
theorem dL_texts_16 : decode cL_texts 16 = .ok (.iload_n 3, 1) := by decide +kernel
theorem dL_texts_17 : decode cL_texts 17 = .ok (.bipush 16, 2) := by decide +kernel
theorem dL_texts_19 : decode cL_texts 19 = .ok (.if_icmp .ge 60, 3) := by decide +kernel
theorem dL_texts_22 : decode cL_texts 22 = .ok (.new 382, 3) := by decide +kernel
theorem dL_texts_25 : decode cL_texts 25 = .ok (.dup, 1) := by decide +kernel
theorem dL_texts_26 : decode cL_texts 26 = .ok (.invokespecial 384, 3) := by decide +kernel
theorem dL_texts_29 : decode cL_texts 29 = .ok (.aload_n 2, 1) := by decide +kernel
theorem dL_texts_30 : decode cL_texts 30 = .ok (.invokevirtual 385, 3) := by decide +kernel
theorem dL_texts_33 : decode cL_texts 33 = .ok (.iload_n 3, 1) := by decide +kernel
theorem dL_texts_34 : decode cL_texts 34 = .ok (.ifCond .le 15, 3) := by decide +kernel
theorem dL_texts_37 : decode cL_texts 37 = .ok (.iload_n 3, 1) := by decide +kernel
theorem dL_texts_38 : decode cL_texts 38 = .ok (.iconst 4, 1) := by decide +kernel
theorem dL_texts_39 : decode cL_texts 39 = .ok (.irem, 1) := by decide +kernel
theorem dL_texts_40 : decode cL_texts 40 = .ok (.ifCond .ne 9, 3) := by decide +kernel
theorem dL_texts_43 : decode cL_texts 43 = .ok (.ldc_w 389, 3) := by decide +kernel
theorem dL_texts_46 : decode cL_texts 46 = .ok (.goto 6, 3) := by decide +kernel
theorem dL_texts_49 : decode cL_texts 49 = .ok (.ldc_w 380, 3) := by decide +kernel
theorem dL_texts_52 : decode cL_texts 52 = .ok (.invokevirtual 385, 3) := by decide +kernel
theorem dL_texts_55 : decode cL_texts 55 = .ok (.aload_n 0, 1) := by decide +kernel
theorem dL_texts_56 : decode cL_texts 56 = .ok (.iload_n 1, 1) := by decide +kernel
theorem dL_texts_57 : decode cL_texts 57 = .ok (.iload_n 3, 1) := by decide +kernel
theorem dL_texts_58 : decode cL_texts 58 = .ok (.iconst 4, 1) := by decide +kernel
theorem dL_texts_59 : decode cL_texts 59 = .ok (.irem, 1) := by decide +kernel
theorem dL_texts_60 : decode cL_texts 60 = .ok (.iload_n 3, 1) := by decide +kernel
theorem dL_texts_61 : decode cL_texts 61 = .ok (.iconst 4, 1) := by decide +kernel
theorem dL_texts_62 : decode cL_texts 62 = .ok (.idiv, 1) := by decide +kernel
theorem dL_texts_63 : decode cL_texts 63 = .ok (.invokevirtual 76, 3) := by decide +kernel
theorem dL_texts_66 : decode cL_texts 66 = .ok (.invokevirtual 391, 3) := by decide +kernel
theorem dL_texts_69 : decode cL_texts 69 = .ok (.invokevirtual 394, 3) := by decide +kernel
theorem dL_texts_72 : decode cL_texts 72 = .ok (.astore_n 2, 1) := by decide +kernel
theorem dL_texts_73 : decode cL_texts 73 = .ok (.iinc 3 1, 3) := by decide +kernel
theorem dL_texts_76 : decode cL_texts 76 = .ok (.goto (-60), 3) := by decide +kernel
theorem dL_texts_79 : decode cL_texts 79 = .ok (.aload_n 0, 1) := by decide +kernel
theorem dL_texts_80 : decode cL_texts 80 = .ok (.aload_n 0, 1) := by decide +kernel
theorem dL_texts_81 : decode cL_texts 81 = .ok (.iload_n 1, 1) := by decide +kernel
theorem dL_texts_82 : decode cL_texts 82 = .ok (.invokestatic 398, 3) := by decide +kernel
theorem dL_texts_85 : decode cL_texts 85 = .ok (.aload_n 2, 1) := by decide +kernel
theorem dL_texts_86 : decode cL_texts 86 = .ok (.invokestatic 400, 3) := by decide +kernel
theorem dL_texts_89 : decode cL_texts 89 = .ok (.ifCond .ne 5, 3) := by decide +kernel
theorem dL_texts_92 : decode cL_texts 92 = .ok (.iconst 0, 1) := by decide +kernel
theorem dL_texts_93 : decode cL_texts 93 = .ok (.ireturn, 1) := by decide +kernel
theorem dL_texts_94 : decode cL_texts 94 = .ok (.iinc 1 1, 3) := by decide +kernel
theorem dL_texts_97 : decode cL_texts 97 = .ok (.goto (-95), 3) := by decide +kernel
theorem dL_texts_100 : decode cL_texts 100 = .ok (.iconst 0, 1) := by decide +kernel
theorem dL_texts_101 : decode cL_texts 101 = .ok (.istore_n 1, 1) := by decide +kernel
theorem dL_texts_102 : decode cL_texts 102 = .ok (.iload_n 1, 1) := by decide +kernel
theorem dL_texts_103 : decode cL_texts 103 = .ok (.aload_n 0, 1) := by decide +kernel
theorem dL_texts_104 : decode cL_texts 104 = .ok (.invokevirtual 250, 3) := by decide +kernel
theorem dL_texts_107 : decode cL_texts 107 = .ok (.if_icmp .ge 129, 3) := by decide +kernel
theorem dL_texts_110 : decode cL_texts 110 = .ok (.aload_n 0, 1) := by decide +kernel
theorem dL_texts_111 : decode cL_texts 111 = .ok (.iconst 0, 1) := by decide +kernel
theorem dL_texts_112 : decode cL_texts 112 = .ok (.iload_n 1, 1) := by decide +kernel
theorem dL_texts_113 : decode cL_texts 113 = .ok (.invokestatic 274, 3) := by decide +kernel
theorem dL_texts_116 : decode cL_texts 116 = .ok (.istore_n 2, 1) := by decide +kernel
theorem dL_texts_117 : decode cL_texts 117 = .ok (.ldc_w 404, 3) := by decide +kernel
theorem dL_texts_120 : decode cL_texts 120 = .ok (.astore_n 3, 1) := by decide +kernel
theorem dL_texts_121 : decode cL_texts 121 = .ok (.iconst 1, 1) := by decide +kernel
theorem dL_texts_122 : decode cL_texts 122 = .ok (.istore 4, 2) := by decide +kernel
theorem dL_texts_124 : decode cL_texts 124 = .ok (.iload 4, 2) := by decide +kernel
theorem dL_texts_126 : decode cL_texts 126 = .ok (.iload_n 2, 1) := by decide +kernel
theorem dL_texts_127 : decode cL_texts 127 = .ok (.if_icmp .gt 41, 3) := by decide +kernel
theorem dL_texts_130 : decode cL_texts 130 = .ok (.new 382, 3) := by decide +kernel
theorem dL_texts_133 : decode cL_texts 133 = .ok (.dup, 1) := by decide +kernel
theorem dL_texts_134 : decode cL_texts 134 = .ok (.invokespecial 384, 3) := by decide +kernel
theorem dL_texts_137 : decode cL_texts 137 = .ok (.aload_n 3, 1) := by decide +kernel
theorem dL_texts_138 : decode cL_texts 138 = .ok (.invokevirtual 385, 3) := by decide +kernel
theorem dL_texts_141 : decode cL_texts 141 = .ok (.ldc_w 406, 3) := by decide +kernel
theorem dL_texts_144 : decode cL_texts 144 = .ok (.invokevirtual 385, 3) := by decide +kernel
theorem dL_texts_147 : decode cL_texts 147 = .ok (.aload_n 0, 1) := by decide +kernel
theorem dL_texts_148 : decode cL_texts 148 = .ok (.iconst 0, 1) := by decide +kernel
theorem dL_texts_149 : decode cL_texts 149 = .ok (.iload_n 1, 1) := by decide +kernel
theorem dL_texts_150 : decode cL_texts 150 = .ok (.iload 4, 2) := by decide +kernel
theorem dL_texts_152 : decode cL_texts 152 = .ok (.invokevirtual 51, 3) := by decide +kernel
theorem dL_texts_155 : decode cL_texts 155 = .ok (.invokevirtual 391, 3) := by decide +kernel
theorem dL_texts_158 : decode cL_texts 158 = .ok (.invokevirtual 394, 3) := by decide +kernel
theorem dL_texts_161 : decode cL_texts 161 = .ok (.astore_n 3, 1) := by decide +kernel
theorem dL_texts_162 : decode cL_texts 162 = .ok (.iinc 4 1, 3) := by decide +kernel
theorem dL_texts_165 : decode cL_texts 165 = .ok (.goto (-41), 3) := by decide +kernel
theorem dL_texts_168 : decode cL_texts 168 = .ok (.iload_n 2, 1) := by decide +kernel
theorem dL_texts_169 : decode cL_texts 169 = .ok (.ifCond .ge 17, 3) := by decide +kernel
theorem dL_texts_172 : decode cL_texts 172 = .ok (.aload_n 0, 1) := by decide +kernel
theorem dL_texts_173 : decode cL_texts 173 = .ok (.iconst 0, 1) := by decide +kernel
theorem dL_texts_174 : decode cL_texts 174 = .ok (.iload_n 1, 1) := by decide +kernel
theorem dL_texts_175 : decode cL_texts 175 = .ok (.invokestatic 408, 3) := by decide +kernel
theorem dL_texts_178 : decode cL_texts 178 = .ok (.bipush (-13), 2) := by decide +kernel
theorem dL_texts_180 : decode cL_texts 180 = .ok (.if_icmp .eq 50, 3) := by decide +kernel
theorem dL_texts_183 : decode cL_texts 183 = .ok (.goto 45, 3) := by decide +kernel
theorem dL_texts_186 : decode cL_texts 186 = .ok (.aload_n 0, 1) := by decide +kernel
theorem dL_texts_187 : decode cL_texts 187 = .ok (.aload_n 0, 1) := by decide +kernel
theorem dL_texts_188 : decode cL_texts 188 = .ok (.iconst 0, 1) := by decide +kernel
theorem dL_texts_189 : decode cL_texts 189 = .ok (.iload_n 1, 1) := by decide +kernel
theorem dL_texts_190 : decode cL_texts 190 = .ok (.invokestatic 408, 3) := by decide +kernel
theorem dL_texts_193 : decode cL_texts 193 = .ok (.new 382, 3) := by decide +kernel
theorem dL_texts_196 : decode cL_texts 196 = .ok (.dup, 1) := by decide +kernel
theorem dL_texts_197 : decode cL_texts 197 = .ok (.invokespecial 384, 3) := by decide +kernel
theorem dL_texts_200 : decode cL_texts 200 = .ok (.aload_n 3, 1) := by decide +kernel
theorem dL_texts_201 : decode cL_texts 201 = .ok (.invokevirtual 385, 3) := by decide +kernel
theorem dL_texts_204 : decode cL_texts 204 = .ok (.ldc_w 410, 3) := by decide +kernel
theorem dL_texts_207 : decode cL_texts 207 = .ok (.invokevirtual 385, 3) := by decide +kernel
theorem dL_texts_210 : decode cL_texts 210 = .ok (.aload_n 0, 1) := by decide +kernel
theorem dL_texts_211 : decode cL_texts 211 = .ok (.iconst 0, 1) := by decide +kernel
theorem dL_texts_212 : decode cL_texts 212 = .ok (.iload_n 1, 1) := by decide +kernel
theorem dL_texts_213 : decode cL_texts 213 = .ok (.invokevirtual 42, 3) := by decide +kernel
theorem dL_texts_216 : decode cL_texts 216 = .ok (.invokevirtual 391, 3) := by decide +kernel
theorem dL_texts_219 : decode cL_texts 219 = .ok (.invokevirtual 394, 3) := by decide +kernel
theorem dL_texts_222 : decode cL_texts 222 = .ok (.invokestatic 400, 3) := by decide +kernel
theorem dL_texts_225 : decode cL_texts 225 = .ok (.ifCond .ne 5, 3) := by decide +kernel
theorem dL_texts_228 : decode cL_texts 228 = .ok (.iconst 0, 1) := by decide +kernel
theorem dL_texts_229 : decode cL_texts 229 = .ok (.ireturn, 1) := by decide +kernel
theorem dL_texts_230 : decode cL_texts 230 = .ok (.iinc 1 1, 3) := by decide +kernel
theorem dL_texts_233 : decode cL_texts 233 = .ok (.goto (-131), 3) := by decide +kernel
theorem dL_texts_236 : decode cL_texts 236 = .ok (.aload_n 0, 1) := by decide +kernel
theorem dL_texts_237 : decode cL_texts 237 = .ok (.aload_n 0, 1) := by decide +kernel
theorem dL_texts_238 : decode cL_texts 238 = .ok (.invokevirtual 295, 3) := by decide +kernel
theorem dL_texts_241 : decode cL_texts 241 = .ok (.invokestatic 398, 3) := by decide +kernel
theorem dL_texts_244 : decode cL_texts 244 = .ok (.bipush (-11), 2) := by decide +kernel
theorem dL_texts_246 : decode cL_texts 246 = .ok (.if_icmp .ne 21, 3) := by decide +kernel
theorem dL_texts_249 : decode cL_texts 249 = .ok (.aload_n 0, 1) := by decide +kernel
theorem dL_texts_250 : decode cL_texts 250 = .ok (.iconst 0, 1) := by decide +kernel
theorem dL_texts_251 : decode cL_texts 251 = .ok (.aload_n 0, 1) := by decide +kernel
theorem dL_texts_252 : decode cL_texts 252 = .ok (.invokevirtual 250, 3) := by decide +kernel
theorem dL_texts_255 : decode cL_texts 255 = .ok (.invokestatic 408, 3) := by decide +kernel
theorem dL_texts_258 : decode cL_texts 258 = .ok (.bipush (-11), 2) := by decide +kernel
theorem dL_texts_260 : decode cL_texts 260 = .ok (.if_icmp .ne 7, 3) := by decide +kernel
theorem dL_texts_263 : decode cL_texts 263 = .ok (.iconst 1, 1) := by decide +kernel
theorem dL_texts_264 : decode cL_texts 264 = .ok (.goto 4, 3) := by decide +kernel
theorem dL_texts_267 : decode cL_texts 267 = .ok (.iconst 0, 1) := by decide +kernel
theorem dL_texts_268 : decode cL_texts 268 = .ok (.ireturn, 1) := by decide +kernel
noncomputable def fL_texts (N : Nat) (Z : Nat → Int32) (t : List Nat) (K : Nat)  : Option (Bool × List Nat) :=
  fix3 (fun self4 (x1 : Int32) (t2 : List Nat) (κ3 : Nat) =>
  gd (κ3 ≤ K) <|
  if (nI (eZ Z)) ≤ x1 then
  (fix3 (fun self12 (x9 : Int32) (t10 : List Nat) (κ11 : Nat) =>
  gd (κ11 ≤ K) <|
  if (nI (nZ Z)) ≤ x9 then
  (gd (κ11 ≤ K) <|
  gd ((κ11 + 1751) ≤ K) <|
  lt (wpA Z t10 (nI (eZ Z))).1 fun t20 =>
  jn (fun (y22 : Bool) (t23 : List Nat) (κ24 : Nat) =>
  gd (κ24 ≤ K) <|
  some (y22, t23)) fun j25 =>
  jn (fun (t29 : List Nat) (κ30 : Nat) =>
  j25 false t29 κ30) fun j31 =>
  if (wL_writePile Z t10 (nI (eZ Z))) = (-11) then
  (gd ((κ11 + 1751) ≤ K) <|
  gd ((κ11 + 2703) ≤ K) <|
  lt (wwA Z t20 0 (nI (nZ Z))).1 fun t38 =>
  if (wL_writeWay Z t20 0 (nI (nZ Z))) = (-11) then
  (j25 true t38 (κ11 + 2703))
  else (j31 t38 (κ11 + 2703)))
  else (j31 t20 (κ11 + 1751)))
  else (gd ((κ11 + 2) ≤ K) <|
  lt (wL_wayLegs Z 0 x9) fun v42 =>
  fix4 (fun self49 (x44 : Int32) (t45 : List Nat) (tx46 : List Nat) (κ48 : Nat) =>
  if v42 < x44 then
  (jn (fun (t52 : List Nat) (κ53 : Nat) =>
  lt (x9 + 1) fun v57 =>
  self12 v57 t52 κ53) fun j54 =>
  jn (fun (t59 : List Nat) (κ60 : Nat) =>
  gd (κ60 ≤ K) <|
  some (false, t59)) fun j61 =>
  if 0 ≤ v42 then
  (gd ((κ48 + 952) ≤ K) <|
  lt (wwA Z t45 0 x9).1 fun t67 =>
  gd ((κ48 + 956) ≤ K) <|
  gd ((κ48 + 1006) ≤ K) <|
  gd (([] ++ tx46).length ≤ 35) <|
  gd ((κ48 + 1056) ≤ K) <|
  gd ((([] ++ tx46) ++ (lTx 410)).length ≤ 35) <|
  gd ((κ48 + 1058) ≤ K) <|
  (gR (aMin Z 0 x9)).bind fun v76 =>
  gd ((κ48 + 1108) ≤ K) <|
  (dcN v76).bind fun ds79 =>
  gd (((([] ++ tx46) ++ (lTx 410)) ++ ds79).length ≤ 35) <|
  gd ((κ48 + 1159) ≤ K) <|
  gd ((κ48 + 1259) ≤ K) <|
  (fL_spells N t67 ((([] ++ tx46) ++ (lTx 410)) ++ ds79) 100 (wL_writeWay Z t45 0 x9)).bind fun r86 =>
  cond r86
  (j54 t67 (κ48 + 1259))
  (j61 t67 (κ48 + 1259)))
  else (gd ((κ48 + 952) ≤ K) <|
  lt (wwA Z t45 0 x9).1 fun t89 =>
  if (wL_writeWay Z t45 0 x9) = (-13) then
  (j54 t89 (κ48 + 952))
  else (j61 t89 (κ48 + 952))))
  else (gd ((κ48 + 4) ≤ K) <|
  gd ((κ48 + 54) ≤ K) <|
  gd (([] ++ tx46).length ≤ 35) <|
  gd ((κ48 + 104) ≤ K) <|
  gd ((([] ++ tx46) ++ (lTx 406)).length ≤ 35) <|
  gd ((κ48 + 107) ≤ K) <|
  (gR (aWay Z 0 x9 x44)).bind fun v99 =>
  gd ((κ48 + 157) ≤ K) <|
  (dcN v99).bind fun ds102 =>
  gd (((([] ++ tx46) ++ (lTx 406)) ++ ds102).length ≤ 35) <|
  gd ((κ48 + 208) ≤ K) <|
  lt (x44 + 1) fun v108 =>
  self49 v108 t45 ((([] ++ tx46) ++ (lTx 406)) ++ ds102) (κ48 + 208))) N 1 t10 (lTx 404) (κ11 + 2))) N 0 t2 κ3)
  else (fix4 (fun self115 (x110 : Int32) (t111 : List Nat) (tx112 : List Nat) (κ114 : Nat) =>
  if 16 ≤ x110 then
  (gd ((κ114 + 1751) ≤ K) <|
  lt (wpA Z t111 x1).1 fun t119 =>
  gd ((κ114 + 1851) ≤ K) <|
  (fL_spells N t119 tx112 100 (wL_writePile Z t111 x1)).bind fun r122 =>
  cond r122
  (lt (x1 + 1) fun v124 =>
  self4 v124 t119 (κ114 + 1851))
  (gd ((κ114 + 1851) ≤ K) <|
  some (false, t119)))
  else (gd ((κ114 + 4) ≤ K) <|
  gd ((κ114 + 54) ≤ K) <|
  gd (([] ++ tx112).length ≤ 35) <|
  jn (fun (t131 : List Nat) (κ132 : Nat) =>
  gd ((κ132 + 50) ≤ K) <|
  gd ((([] ++ tx112) ++ (lTx 380)).length ≤ 35) <|
  gd ((κ132 + 52) ≤ K) <|
  (gR (aGrainsAt Z x1 (x110 - x110 / 4 * 4) (x110 / 4))).bind fun v139 =>
  gd ((κ132 + 102) ≤ K) <|
  (dcN v139).bind fun ds142 =>
  gd (((([] ++ tx112) ++ (lTx 380)) ++ ds142).length ≤ 35) <|
  gd ((κ132 + 153) ≤ K) <|
  lt (x110 + 1) fun v148 =>
  self115 v148 t131 ((([] ++ tx112) ++ (lTx 380)) ++ ds142) (κ132 + 153)) fun j133 =>
  if x110 ≤ 0 then
  (j133 t111 (κ114 + 54))
  else (if (x110 - x110 / 4 * 4) = 0 then
  (gd ((κ114 + 104) ≤ K) <|
  gd ((([] ++ tx112) ++ (lTx 389)).length ≤ 35) <|
  gd ((κ114 + 106) ≤ K) <|
  (gR (aGrainsAt Z x1 (x110 - x110 / 4 * 4) (x110 / 4))).bind fun v155 =>
  gd ((κ114 + 156) ≤ K) <|
  (dcN v155).bind fun ds158 =>
  gd (((([] ++ tx112) ++ (lTx 389)) ++ ds158).length ≤ 35) <|
  gd ((κ114 + 207) ≤ K) <|
  lt (x110 + 1) fun v164 =>
  self115 v164 t111 ((([] ++ tx112) ++ (lTx 389)) ++ ds158) (κ114 + 207))
  else (j133 t111 (κ114 + 54))))) N 0 t2 (lTx 380) κ3)) N 0 t 0
abbrev rmL_texts (K : Nat) : Room := { frames := 12, cells := K, slots := 6 * K, locals := 306 }
set_option maxHeartbeats 4000000 in
set_option maxRecDepth 100000 in
theorem metL_texts {l : Launch} {s0 : State} {b B : Nat} {D : va_G} {T : Nat → ClassId} (F : FX l s0 b D T B) {X : Nat → Prop} (hX : ∀ o, o < 561 → ¬ X (B + o)) {N : Nat} (hN : 1200000000000 ≤ N) {Z : Nat → Int32} {hs : List (Nat → Int32)} {t : List Nat} {K : Nat}  {r : Bool × List Nat} (h : fL_texts N Z t K  = some r) : gMet l yL_texts cL_texts 5 (some .boolean) (rmL_texts K) [.ref (B + 0)] (gZ s0 D T B X Z hs t) (KC s0 X) (some (.int (b2i r.1))) (gZ s0 D T B X Z hs r.2) (gA B X) K (6 * K) := by
  refine gZ_of RL (by decide +kernel) rfl (Nat.le_of_ble_eq_true rfl) ?_
  intro p e s m args below meth c ls Q hx hb hlocks hml hown hts hW hk hl hS hend
  have hC := FX_C F hk hx hb hown hts
  have hl : lv_has ls 5 [(0, .ref (B + 0))] := hl
  unfold fL_texts at h
  refine lv_iconst (v := 0) hx hb dL_texts_0 (by decide) ?_
  refine lv_istore_n (lv' := [(1, .int 0), (0, .ref (B + 0))]) hx hb dL_texts_1 rfl hl (by decide) rfl (fun ls hl => ?_)
  refine W.widen (k := 0) (n := 6 * 0) (by omega) (by omega) ?_
  refine fix3_ind (fun (x1 : Int32) (t2 : List Nat) (κ3 : Nat) => ∀ (H : Heap) (locs : List Loc) (ls : Array Slot), gZ s0 D T B X Z hs t2 H → va_S (gA B X) s.heap H locs → lv_has ls 5 [(0, .ref (B + 0)), (1, .int x1)] → W p l e (rmL_texts K) s m args below meth c H locs κ3 (6 * κ3) Q (F0 m 2 ls [])) ?_ N _ _ _ h _ _ _ hW hS (lv_sub hl [1, 0] rfl)
  clear h hW hS hl
  intro self4 IH5 x1 t2 κ3 h H locs ls hW hS hl
  refine lv_iload_n hx hb dL_texts_2 rfl (lv_at hl 1 rfl) ?_
  refine lv_aload_n hx hb dL_texts_3 rfl (lv_at hl 0 rfl) ?_
  obtain ⟨g7, h⟩ := gd_out h
  refine gz_dv (As := []) (w := fun r => .int r) F hX hk hC hml hS hW (fun μ hP => z_exhibitCount (N := N) hP) (fun μ r h9 X9 hX9 => metX10_exhibitCount F hX9 is_Ga h9) ml_L_295 rfl ⟨rfl, rfl, (by first | exact Nat.le_of_ble_eq_true rfl | (simp only [rmL_texts, rmL_spells]; omega) | (simp only [rmL_texts]; omega)), (by first | exact Nat.le_of_ble_eq_true rfl | (simp only [rmL_texts, rmL_spells]; omega) | (simp only [rmL_texts]; omega))⟩ rfl hl.1 rfl (by first | exact Nat.le_of_ble_eq_true rfl | (simp only [rmL_texts, rmL_spells]; omega) | (simp only [rmL_texts]; omega)) dL_texts_4 ⟨(by show _ ≤ K; omega), (by show _ ≤ 6 * K; omega)⟩ (fun H locs hW hS => ?_)
  refine lv_icmp_ge (tgt := 100) hx hb dL_texts_7 (by decide) (fun c8 => ?_) (fun c8 => ?_)
  · replace h := ite_t c8 h
    refine lv_iconst (v := 0) hx hb dL_texts_100 (by decide) ?_
    refine lv_istore_n (lv' := [(1, .int 0), (0, .ref (B + 0))]) hx hb dL_texts_101 rfl hl (by decide) rfl (fun ls hl => ?_)
    refine W.widen (k := κ3) (n := 6 * κ3) (by omega) (by omega) ?_
    refine fix3_ind (fun (x9 : Int32) (t10 : List Nat) (κ11 : Nat) => ∀ (H : Heap) (locs : List Loc) (ls : Array Slot), gZ s0 D T B X Z hs t10 H → va_S (gA B X) s.heap H locs → lv_has ls 5 [(0, .ref (B + 0)), (1, .int x9)] → W p l e (rmL_texts K) s m args below meth c H locs κ11 (6 * κ11) Q (F0 m 102 ls [])) ?_ N _ _ _ h _ _ _ hW hS (lv_sub hl [1, 0] rfl)
    clear h hW hS hl
    intro self12 IH13 x9 t10 κ11 h H locs ls hW hS hl
    refine lv_iload_n hx hb dL_texts_102 rfl (lv_at hl 1 rfl) ?_
    refine lv_aload_n hx hb dL_texts_103 rfl (lv_at hl 0 rfl) ?_
    obtain ⟨g15, h⟩ := gd_out h
    refine gz_dv (As := []) (w := fun r => .int r) F hX hk hC hml hS hW (fun μ hP => z_roomCount (N := N) hP) (fun μ r h9 X9 hX9 => metX10_roomCount F hX9 is_Ga h9) ml_L_250 rfl ⟨rfl, rfl, (by first | exact Nat.le_of_ble_eq_true rfl | (simp only [rmL_texts, rmL_spells]; omega) | (simp only [rmL_texts]; omega)), (by first | exact Nat.le_of_ble_eq_true rfl | (simp only [rmL_texts, rmL_spells]; omega) | (simp only [rmL_texts]; omega))⟩ rfl hl.1 rfl (by first | exact Nat.le_of_ble_eq_true rfl | (simp only [rmL_texts, rmL_spells]; omega) | (simp only [rmL_texts]; omega)) dL_texts_104 ⟨(by show _ ≤ K; omega), (by show _ ≤ 6 * K; omega)⟩ (fun H locs hW hS => ?_)
    refine lv_icmp_ge (tgt := 236) hx hb dL_texts_107 (by decide) (fun c16 => ?_) (fun c16 => ?_)
    · replace h := ite_t c16 h
      refine lv_aload_n hx hb dL_texts_236 rfl (lv_at hl 0 rfl) ?_
      refine lv_aload_n hx hb dL_texts_237 rfl (lv_at hl 0 rfl) ?_
      obtain ⟨g18, h⟩ := gd_out h
      refine gz_dv (As := []) (w := fun r => .int r) F hX hk hC hml hS hW (fun μ hP => z_exhibitCount (N := N) hP) (fun μ r h9 X9 hX9 => metX10_exhibitCount F hX9 is_Ga h9) ml_L_295 rfl ⟨rfl, rfl, (by first | exact Nat.le_of_ble_eq_true rfl | (simp only [rmL_texts, rmL_spells]; omega) | (simp only [rmL_texts]; omega)), (by first | exact Nat.le_of_ble_eq_true rfl | (simp only [rmL_texts, rmL_spells]; omega) | (simp only [rmL_texts]; omega))⟩ rfl hl.1 rfl (by first | exact Nat.le_of_ble_eq_true rfl | (simp only [rmL_texts, rmL_spells]; omega) | (simp only [rmL_texts]; omega)) dL_texts_238 ⟨(by show _ ≤ K; omega), (by show _ ≤ 6 * K; omega)⟩ (fun H locs hW hS => ?_)
      obtain ⟨g19, h⟩ := gd_out h
      obtain ⟨t20, e21, h⟩ := lt_out h
      refine gz_wrS (As := [.ref (B + 0), .int (nI (eZ Z))]) F hk hC hml hS hW (mq_writePile F hX hN) mw_L_398 ⟨rfl, rfl, (by first | exact Nat.le_of_ble_eq_true rfl | (simp only [rmL_texts, rmL_spells]; omega) | (simp only [rmL_texts]; omega)), (by first | exact Nat.le_of_ble_eq_true rfl | (simp only [rmL_texts, rmL_spells]; omega) | (simp only [rmL_texts]; omega))⟩ rfl hl.1 rfl (by first | exact Nat.le_of_ble_eq_true rfl | (simp only [rmL_texts, rmL_spells]; omega) | (simp only [rmL_texts]; omega)) dL_texts_241 ⟨(by show _ ≤ K; omega), (by show _ ≤ 6 * K; omega)⟩ (fun Z2 hs2 t9 out H locs hq hW hS => ?_)
      obtain ⟨rfl, rfl, rfl, rfl⟩ := hq
      refine W.widen (k := (κ11 + 1751)) (n := 6 * (κ11 + 1751)) (by omega) (by omega) ?_
      rw [← e21] at hW
      change W p l e _ s m args below meth c H locs _ _ Q (F0 m _ ls (.int (wL_writePile Z t10 (nI (eZ Z))) :: _))
      refine lv_bipush (v := (-11)) hx hb dL_texts_244 (by decide) ?_
      obtain ⟨j25, hj27, h⟩ := jn3_o h
      have J26 : ∀ (y22 : Bool) (t23 : List Nat) (κ24 : Nat), j25 y22 t23 κ24 = some r → ∀ (H : Heap) (locs : List Loc) (ls : Array Slot), gZ s0 D T B X Z hs t23 H → va_S (gA B X) s.heap H locs → lv_has ls 5 [] → W p l e (rmL_texts K) s m args below meth c H locs κ24 (6 * κ24) Q (F0 m 268 ls [.int (b2i y22)]) := by
        clear h hW hS hl
        intro y22 t23 κ24 h H locs ls hW hS hl
        replace h := (hj27 y22 t23 κ24).symm.trans h
        obtain ⟨g28, h⟩ := gd_out h
        cases h
        exact hend dL_texts_268 hW hS (by omega) (by omega)
      obtain ⟨j31, hj33, h⟩ := jn2_o h
      have J32 : ∀ (t29 : List Nat) (κ30 : Nat), j31 t29 κ30 = some r → ∀ (H : Heap) (locs : List Loc) (ls : Array Slot), gZ s0 D T B X Z hs t29 H → va_S (gA B X) s.heap H locs → lv_has ls 5 [] → W p l e (rmL_texts K) s m args below meth c H locs κ30 (6 * κ30) Q (F0 m 267 ls []) := by
        clear h hW hS hl
        intro t29 κ30 h H locs ls hW hS hl
        replace h := (hj33 t29 κ30).symm.trans h
        refine lv_iconst (v := 0) hx hb dL_texts_267 (by decide) ?_
        refine W.widen (k := κ30) (n := 6 * κ30) (by omega) (by omega) ?_
        exact J26 _ _ _ h _ _ _ hW hS (lv_sub hl [] rfl)
      refine lv_icmp_ne (tgt := 267) hx hb dL_texts_246 (by decide) (fun c34 => ?_) (fun c34 => ?_)
      · replace h := ite_f c34 h
        refine W.widen (k := (κ11 + 1751)) (n := 6 * (κ11 + 1751)) (by omega) (by omega) ?_
        exact J32 _ _ h _ _ _ hW hS (lv_sub hl [] rfl)
      · replace h := ite_t c34 h
        refine lv_aload_n hx hb dL_texts_249 rfl (lv_at hl 0 rfl) ?_
        refine lv_iconst (v := 0) hx hb dL_texts_250 (by decide) ?_
        refine lv_aload_n hx hb dL_texts_251 rfl (lv_at hl 0 rfl) ?_
        obtain ⟨g36, h⟩ := gd_out h
        refine gz_dv (As := []) (w := fun r => .int r) F hX hk hC hml hS hW (fun μ hP => z_roomCount (N := N) hP) (fun μ r h9 X9 hX9 => metX10_roomCount F hX9 is_Ga h9) ml_L_250 rfl ⟨rfl, rfl, (by first | exact Nat.le_of_ble_eq_true rfl | (simp only [rmL_texts, rmL_spells]; omega) | (simp only [rmL_texts]; omega)), (by first | exact Nat.le_of_ble_eq_true rfl | (simp only [rmL_texts, rmL_spells]; omega) | (simp only [rmL_texts]; omega))⟩ rfl hl.1 rfl (by first | exact Nat.le_of_ble_eq_true rfl | (simp only [rmL_texts, rmL_spells]; omega) | (simp only [rmL_texts]; omega)) dL_texts_252 ⟨(by show _ ≤ K; omega), (by show _ ≤ 6 * K; omega)⟩ (fun H locs hW hS => ?_)
        obtain ⟨g37, h⟩ := gd_out h
        obtain ⟨t38, e39, h⟩ := lt_out h
        refine gz_wrS (As := [.ref (B + 0), .int 0, .int (nI (nZ Z))]) F hk hC hml hS hW (mq_writeWay F hX hN) mw_L_408 ⟨rfl, rfl, (by first | exact Nat.le_of_ble_eq_true rfl | (simp only [rmL_texts, rmL_spells]; omega) | (simp only [rmL_texts]; omega)), (by first | exact Nat.le_of_ble_eq_true rfl | (simp only [rmL_texts, rmL_spells]; omega) | (simp only [rmL_texts]; omega))⟩ rfl hl.1 rfl (by first | exact Nat.le_of_ble_eq_true rfl | (simp only [rmL_texts, rmL_spells]; omega) | (simp only [rmL_texts]; omega)) dL_texts_255 ⟨(by show _ ≤ K; omega), (by show _ ≤ 6 * K; omega)⟩ (fun Z2 hs2 t9 out H locs hq hW hS => ?_)
        obtain ⟨rfl, rfl, rfl, rfl⟩ := hq
        refine W.widen (k := (κ11 + 2703)) (n := 6 * (κ11 + 2703)) (by omega) (by omega) ?_
        rw [← e39] at hW
        change W p l e _ s m args below meth c H locs _ _ Q (F0 m _ ls (.int (wL_writeWay Z t20 0 (nI (nZ Z))) :: _))
        refine lv_bipush (v := (-11)) hx hb dL_texts_258 (by decide) ?_
        refine lv_icmp_ne (tgt := 267) hx hb dL_texts_260 (by decide) (fun c40 => ?_) (fun c40 => ?_)
        · replace h := ite_f c40 h
          refine W.widen (k := (κ11 + 2703)) (n := 6 * (κ11 + 2703)) (by omega) (by omega) ?_
          exact J32 _ _ h _ _ _ hW hS (lv_sub hl [] rfl)
        · replace h := ite_t c40 h
          refine lv_iconst (v := 1) hx hb dL_texts_263 (by decide) ?_
          refine lv_goto (tgt := 268) hx hb dL_texts_264 (by decide) ?_
          refine W.widen (k := (κ11 + 2703)) (n := 6 * (κ11 + 2703)) (by omega) (by omega) ?_
          exact J26 _ _ _ h _ _ _ hW hS (lv_sub hl [] rfl)
    · replace h := ite_f c16 h
      refine lv_aload_n hx hb dL_texts_110 rfl (lv_at hl 0 rfl) ?_
      refine lv_iconst (v := 0) hx hb dL_texts_111 (by decide) ?_
      refine lv_iload_n hx hb dL_texts_112 rfl (lv_at hl 1 rfl) ?_
      obtain ⟨g41, h⟩ := gd_out h
      refine gz_wr (As := [.ref (B + 0), .int 0, .int x9]) F hk hC hml hS hW (mq_wayLegs F hX hN) mw_L_274 ⟨rfl, rfl, (by first | exact Nat.le_of_ble_eq_true rfl | (simp only [rmL_texts, rmL_spells]; omega) | (simp only [rmL_texts]; omega)), (by first | exact Nat.le_of_ble_eq_true rfl | (simp only [rmL_texts, rmL_spells]; omega) | (simp only [rmL_texts]; omega))⟩ rfl hl.1 rfl (by first | exact Nat.le_of_ble_eq_true rfl | (simp only [rmL_texts, rmL_spells]; omega) | (simp only [rmL_texts]; omega)) dL_texts_113 ⟨(by show _ ≤ K; omega), (by show _ ≤ 6 * K; omega)⟩ (fun H locs hW hS => ?_)
      refine W.widen (k := (κ11 + 2)) (n := 6 * (κ11 + 2)) (by omega) (by omega) ?_
      change W p l e _ s m args below meth c H locs _ _ Q (F0 m _ ls (.int (wL_wayLegs Z 0 x9) :: _))
      obtain ⟨v42, e43, h⟩ := lt_out h
      rw [← e43]
      refine lv_istore_n (lv' := [(2, .int v42), (0, .ref (B + 0)), (1, .int x9)]) hx hb dL_texts_116 rfl hl (by decide) rfl (fun ls hl => ?_)
      refine g_ldcL F hk hC ls_L_404 (by unfold lS; decide) dL_texts_117 ?_
      replace hW := gTS_of F hk hS (k := 404) (by unfold lS; decide) hW
      refine lv_astore_n (lv' := [(3, .ref (lsa s0 404)), (2, .int v42), (0, .ref (B + 0)), (1, .int x9)]) hx hb dL_texts_120 rfl hl (by decide) rfl (fun ls hl => ?_)
      refine lv_iconst (v := 1) hx hb dL_texts_121 (by decide) ?_
      refine lv_istore (lv' := [(4, .int 1), (3, .ref (lsa s0 404)), (2, .int v42), (0, .ref (B + 0)), (1, .int x9)]) hx hb dL_texts_122 hl (by decide) rfl (fun ls hl => ?_)
      refine W.widen (k := (κ11 + 2)) (n := 6 * (κ11 + 2)) (by omega) (by omega) ?_
      refine fix4_ind (fun (x44 : Int32) (t45 : List Nat) (tx46 : List Nat) (κ48 : Nat) => ∀ (a47 : Nat) (H : Heap) (locs : List Loc) (ls : Array Slot), gTS s0 D T B X Z hs t45 s a47 tx46 H → va_S (gA B X) s.heap H locs → lv_has ls 5 [(0, .ref (B + 0)), (1, .int x9), (2, .int v42), (3, .ref a47), (4, .int x44)] → W p l e (rmL_texts K) s m args below meth c H locs κ48 (6 * κ48) Q (F0 m 124 ls [])) ?_ N _ _ _ _ h _ _ _ _ hW hS (lv_sub hl [3, 4, 2, 1, 0] rfl)
      clear h hW hS hl
      intro self49 IH50 x44 t45 tx46 κ48 h a47 H locs ls hW hS hl
      refine lv_iload hx hb dL_texts_124 (lv_at hl 4 rfl) ?_
      refine lv_iload_n hx hb dL_texts_126 rfl (lv_at hl 2 rfl) ?_
      refine lv_icmp_gt (tgt := 168) hx hb dL_texts_127 (by decide) (fun c51 => ?_) (fun c51 => ?_)
      · replace h := ite_t c51 h
        refine lv_iload_n hx hb dL_texts_168 rfl (lv_at hl 2 rfl) ?_
        obtain ⟨j54, hj56, h⟩ := jn2_o h
        have J55 : ∀ (t52 : List Nat) (κ53 : Nat), j54 t52 κ53 = some r → ∀ (H : Heap) (locs : List Loc) (ls : Array Slot), gZ s0 D T B X Z hs t52 H → va_S (gA B X) s.heap H locs → lv_has ls 5 [(0, .ref (B + 0)), (1, .int x9)] → W p l e (rmL_texts K) s m args below meth c H locs κ53 (6 * κ53) Q (F0 m 230 ls []) := by
          clear h hW hS hl
          intro t52 κ53 h H locs ls hW hS hl
          replace h := (hj56 t52 κ53).symm.trans h
          obtain ⟨v57, e58, h⟩ := lt_out h
          refine lv_iinc (v := v57) (lv' := [(1, .int v57), (0, .ref (B + 0))]) hx hb dL_texts_230 hl (k := 1) rfl (by rw [e58]; rfl) (by decide) rfl (fun ls hl => ?_)
          refine lv_goto (tgt := 102) hx hb dL_texts_233 (by decide) ?_
          refine W.widen (k := κ53) (n := 6 * κ53) (by omega) (by omega) ?_
          exact IH13 _ _ _ h _ _ _ hW hS (lv_sub hl [1, 0] rfl)
        obtain ⟨j61, hj63, h⟩ := jn2_o h
        have J62 : ∀ (t59 : List Nat) (κ60 : Nat), j61 t59 κ60 = some r → ∀ (H : Heap) (locs : List Loc) (ls : Array Slot), gZ s0 D T B X Z hs t59 H → va_S (gA B X) s.heap H locs → lv_has ls 5 [] → W p l e (rmL_texts K) s m args below meth c H locs κ60 (6 * κ60) Q (F0 m 228 ls []) := by
          clear h hW hS hl
          intro t59 κ60 h H locs ls hW hS hl
          replace h := (hj63 t59 κ60).symm.trans h
          refine lv_iconst (v := 0) hx hb dL_texts_228 (by decide) ?_
          obtain ⟨g64, h⟩ := gd_out h
          cases h
          exact hend dL_texts_229 hW hS (by omega) (by omega)
        refine lv_if_ge (tgt := 186) hx hb dL_texts_169 (by decide) (fun c65 => ?_) (fun c65 => ?_)
        · replace h := ite_t c65 h
          refine lv_aload_n hx hb dL_texts_186 rfl (lv_at hl 0 rfl) ?_
          refine lv_aload_n hx hb dL_texts_187 rfl (lv_at hl 0 rfl) ?_
          refine lv_iconst (v := 0) hx hb dL_texts_188 (by decide) ?_
          refine lv_iload_n hx hb dL_texts_189 rfl (lv_at hl 1 rfl) ?_
          obtain ⟨g66, h⟩ := gd_out h
          obtain ⟨t67, e68, h⟩ := lt_out h
          refine tr_wr (As := [.ref (B + 0), .int 0, .int x9]) F hX hk hC hml hS hW (fun X1 hX1 => mq_writeWay F hX1 hN) mw_L_408 ⟨rfl, rfl, (by first | exact Nat.le_of_ble_eq_true rfl | (simp only [rmL_texts, rmL_spells]; omega) | (simp only [rmL_texts]; omega)), (by first | exact Nat.le_of_ble_eq_true rfl | (simp only [rmL_texts, rmL_spells]; omega) | (simp only [rmL_texts]; omega))⟩ rfl hl.1 rfl (by first | exact Nat.le_of_ble_eq_true rfl | (simp only [rmL_texts, rmL_spells]; omega) | (simp only [rmL_texts]; omega)) dL_texts_190 ⟨(by show _ ≤ K; omega), (by show _ ≤ 6 * K; omega)⟩ (fun Z2 hs2 t9 out H locs hq hW hS => ?_)
          obtain ⟨rfl, rfl, rfl, rfl⟩ := hq
          refine W.widen (k := (κ48 + 952)) (n := 6 * (κ48 + 952)) (by omega) (by omega) ?_
          rw [← e68] at hW
          change W p l e _ s m args below meth c H locs _ _ Q (F0 m _ ls (.int (wL_writeWay Z t45 0 x9) :: _))
          obtain ⟨g69, h⟩ := gd_out h
          refine tr_new F hk hC hml hS hW cl_L_382 ml_L_384 ⟨rfl, rfl, (by first | exact Nat.le_of_ble_eq_true rfl | (simp only [rmL_texts, rmL_spells]; omega) | (simp only [rmL_texts]; omega)), (by first | exact Nat.le_of_ble_eq_true rfl | (simp only [rmL_texts, rmL_spells]; omega) | (simp only [rmL_texts]; omega))⟩ hl.1 (by first | exact Nat.le_of_ble_eq_true rfl | (simp only [rmL_texts, rmL_spells]; omega) | (simp only [rmL_texts]; omega)) dL_texts_193 dL_texts_196 dL_texts_197 ⟨(by show _ ≤ K; omega), (by show _ ≤ 6 * K; omega)⟩ (fun q70 H locs hW hS => ?_)
          refine W.widen (k := (κ48 + 956)) (n := 6 * (κ48 + 956)) (by omega) (by omega) ?_
          refine lv_aload_n hx hb dL_texts_200 rfl (lv_at hl 3 rfl) ?_
          obtain ⟨g71, h⟩ := gd_out h
          obtain ⟨g72, h⟩ := gd_out h
          refine tr_appT F hk hC hml hS hW g72 ml_L_385 ⟨rfl, rfl, (by first | exact Nat.le_of_ble_eq_true rfl | (simp only [rmL_texts, rmL_spells]; omega) | (simp only [rmL_texts]; omega)), (by first | exact Nat.le_of_ble_eq_true rfl | (simp only [rmL_texts, rmL_spells]; omega) | (simp only [rmL_texts]; omega))⟩ hl.1 (by first | exact Nat.le_of_ble_eq_true rfl | (simp only [rmL_texts, rmL_spells]; omega) | (simp only [rmL_texts]; omega)) dL_texts_201 ⟨(by show _ ≤ K; omega), (by show _ ≤ 6 * K; omega)⟩ (fun H locs hW hS => ?_)
          refine W.widen (k := (κ48 + 1006)) (n := 6 * (κ48 + 1006)) (by omega) (by omega) ?_
          refine g_ldcL F hk hC ls_L_410 (by unfold lS; decide) dL_texts_204 ?_
          obtain ⟨g73, h⟩ := gd_out h
          obtain ⟨g74, h⟩ := gd_out h
          refine tr_appK F hk hC hml hS hW (by unfold lS; decide) g74 ml_L_385 ⟨rfl, rfl, (by first | exact Nat.le_of_ble_eq_true rfl | (simp only [rmL_texts, rmL_spells]; omega) | (simp only [rmL_texts]; omega)), (by first | exact Nat.le_of_ble_eq_true rfl | (simp only [rmL_texts, rmL_spells]; omega) | (simp only [rmL_texts]; omega))⟩ hl.1 (by first | exact Nat.le_of_ble_eq_true rfl | (simp only [rmL_texts, rmL_spells]; omega) | (simp only [rmL_texts]; omega)) dL_texts_207 ⟨(by show _ ≤ K; omega), (by show _ ≤ 6 * K; omega)⟩ (fun H locs hW hS => ?_)
          refine W.widen (k := (κ48 + 1056)) (n := 6 * (κ48 + 1056)) (by omega) (by omega) ?_
          refine lv_aload_n hx hb dL_texts_210 rfl (lv_at hl 0 rfl) ?_
          refine lv_iconst (v := 0) hx hb dL_texts_211 (by decide) ?_
          refine lv_iload_n hx hb dL_texts_212 rfl (lv_at hl 1 rfl) ?_
          obtain ⟨g75, h⟩ := gd_out h
          obtain ⟨v76, hv77, h⟩ := bd_out h
          refine tr_dx (As := [.int 0, .int x9]) (o := oI) (w := .int v76) hX F hk hC hml hS hW (fun μ hP => z_minutes (N := N) (by omega) hP) (fun μ r h9 X9 hX9 => metX10_minutes F hX9 is_Ga h9) (gR_o hv77) rfl ml_L_42 rfl ⟨rfl, rfl, (by first | exact Nat.le_of_ble_eq_true rfl | (simp only [rmL_texts, rmL_spells]; omega) | (simp only [rmL_texts]; omega)), (by first | exact Nat.le_of_ble_eq_true rfl | (simp only [rmL_texts, rmL_spells]; omega) | (simp only [rmL_texts]; omega))⟩ rfl hl.1 rfl (by first | exact Nat.le_of_ble_eq_true rfl | (simp only [rmL_texts, rmL_spells]; omega) | (simp only [rmL_texts]; omega)) dL_texts_213 ⟨(by show _ ≤ K; omega), (by show _ ≤ 6 * K; omega)⟩ (fun H locs hW hS => ?_)
          refine W.widen (k := (κ48 + 1058)) (n := 6 * (κ48 + 1058)) (by omega) (by omega) ?_
          obtain ⟨g78, h⟩ := gd_out h
          obtain ⟨ds79, hd80, h⟩ := bd_out h
          obtain ⟨g81, h⟩ := gd_out h
          refine tr_num (N := N) F hk hC hml hS hW (dcN_ok (by omega) _ _ hd80) g81 ml_L_391 ⟨rfl, rfl, (by first | exact Nat.le_of_ble_eq_true rfl | (simp only [rmL_texts, rmL_spells]; omega) | (simp only [rmL_texts]; omega)), (by first | exact Nat.le_of_ble_eq_true rfl | (simp only [rmL_texts, rmL_spells]; omega) | (simp only [rmL_texts]; omega))⟩ hl.1 (by first | exact Nat.le_of_ble_eq_true rfl | (simp only [rmL_texts, rmL_spells]; omega) | (simp only [rmL_texts]; omega)) dL_texts_216 ⟨(by show _ ≤ K; omega), (by show _ ≤ 6 * K; omega)⟩ (fun H locs hW hS => ?_)
          refine W.widen (k := (κ48 + 1108)) (n := 6 * (κ48 + 1108)) (by omega) (by omega) ?_
          obtain ⟨g82, h⟩ := gd_out h
          refine tr_str F hk hC hml hS hW ml_L_394 ⟨rfl, rfl, (by first | exact Nat.le_of_ble_eq_true rfl | (simp only [rmL_texts, rmL_spells]; omega) | (simp only [rmL_texts]; omega)), (by first | exact Nat.le_of_ble_eq_true rfl | (simp only [rmL_texts, rmL_spells]; omega) | (simp only [rmL_texts]; omega))⟩ hl.1 (by first | exact Nat.le_of_ble_eq_true rfl | (simp only [rmL_texts, rmL_spells]; omega) | (simp only [rmL_texts]; omega)) dL_texts_219 ⟨(by show _ ≤ K; omega), (by show _ ≤ 6 * K; omega)⟩ (fun a83 H locs hW hS => ?_)
          refine W.widen (k := (κ48 + 1159)) (n := 6 * (κ48 + 1159)) (by omega) (by omega) ?_
          replace hl := lv_sub hl [0, 1, 2, 4] rfl
          replace hl : lv_has ls 5 [(0, .ref (B + 0)), (1, .int x9), (2, .int v42), (4, .int x44)] := hl
          obtain ⟨g85, h⟩ := gd_out h
          obtain ⟨r86, hcall, h⟩ := bd_out h
          refine tr_in (As := [.ref (B + 0), .int (wL_writeWay Z t45 0 x9), .ref a83]) (Wq := fun X9 => gZ s0 D T B X9 Z hs t67) F hX hk hC hml hS hW (fun X1 hX1 => metL_spells F hX1 hN hcall) (fun X1 H1 h1 h2 => gZ_cg h2 h1) ml_L_400 ⟨rfl, rfl, (by first | exact Nat.le_of_ble_eq_true rfl | (simp only [rmL_texts, rmL_spells]; omega) | (simp only [rmL_texts]; omega)), (by first | exact Nat.le_of_ble_eq_true rfl | (simp only [rmL_texts, rmL_spells]; omega) | (simp only [rmL_texts]; omega))⟩ rfl hl.1 rfl (by first | exact Nat.le_of_ble_eq_true rfl | (simp only [rmL_texts, rmL_spells]; omega) | (simp only [rmL_texts]; omega)) dL_texts_222 ⟨(by show _ ≤ K; omega), (by show _ ≤ 6 * K; omega)⟩ (fun H locs hW hS => ?_)
          refine W.widen (k := (κ48 + 1259)) (n := 6 * (κ48 + 1259)) (by omega) (by omega) ?_
          refine gw_if_neZ (tgt := 230) hx hb dL_texts_225 (by decide) (fun c87 => ?_) (fun c87 => ?_)
          · replace h := cond_t c87 h
            refine W.widen (k := (κ48 + 1259)) (n := 6 * (κ48 + 1259)) (by omega) (by omega) ?_
            exact J55 _ _ h _ _ _ hW hS (lv_sub hl [0, 1] rfl)
          · replace h := cond_f c87 h
            refine W.widen (k := (κ48 + 1259)) (n := 6 * (κ48 + 1259)) (by omega) (by omega) ?_
            exact J62 _ _ h _ _ _ hW hS (lv_sub hl [] rfl)
        · replace h := ite_f c65 h
          refine lv_aload_n hx hb dL_texts_172 rfl (lv_at hl 0 rfl) ?_
          refine lv_iconst (v := 0) hx hb dL_texts_173 (by decide) ?_
          refine lv_iload_n hx hb dL_texts_174 rfl (lv_at hl 1 rfl) ?_
          obtain ⟨g88, h⟩ := gd_out h
          obtain ⟨t89, e90, h⟩ := lt_out h
          refine tr_wr (As := [.ref (B + 0), .int 0, .int x9]) F hX hk hC hml hS hW (fun X1 hX1 => mq_writeWay F hX1 hN) mw_L_408 ⟨rfl, rfl, (by first | exact Nat.le_of_ble_eq_true rfl | (simp only [rmL_texts, rmL_spells]; omega) | (simp only [rmL_texts]; omega)), (by first | exact Nat.le_of_ble_eq_true rfl | (simp only [rmL_texts, rmL_spells]; omega) | (simp only [rmL_texts]; omega))⟩ rfl hl.1 rfl (by first | exact Nat.le_of_ble_eq_true rfl | (simp only [rmL_texts, rmL_spells]; omega) | (simp only [rmL_texts]; omega)) dL_texts_175 ⟨(by show _ ≤ K; omega), (by show _ ≤ 6 * K; omega)⟩ (fun Z2 hs2 t9 out H locs hq hW hS => ?_)
          obtain ⟨rfl, rfl, rfl, rfl⟩ := hq
          refine W.widen (k := (κ48 + 952)) (n := 6 * (κ48 + 952)) (by omega) (by omega) ?_
          rw [← e90] at hW
          change W p l e _ s m args below meth c H locs _ _ Q (F0 m _ ls (.int (wL_writeWay Z t45 0 x9) :: _))
          refine lv_bipush (v := (-13)) hx hb dL_texts_178 (by decide) ?_
          refine lv_icmp_eq (tgt := 230) hx hb dL_texts_180 (by decide) (fun c91 => ?_) (fun c91 => ?_)
          · replace h := ite_t c91 h
            replace hW := gTS_out hW
            refine W.widen (k := (κ48 + 952)) (n := 6 * (κ48 + 952)) (by omega) (by omega) ?_
            exact J55 _ _ h _ _ _ hW hS (lv_sub hl [0, 1] rfl)
          · replace h := ite_f c91 h
            refine lv_goto (tgt := 228) hx hb dL_texts_183 (by decide) ?_
            replace hW := gTS_out hW
            refine W.widen (k := (κ48 + 952)) (n := 6 * (κ48 + 952)) (by omega) (by omega) ?_
            exact J62 _ _ h _ _ _ hW hS (lv_sub hl [] rfl)
      · replace h := ite_f c51 h
        obtain ⟨g92, h⟩ := gd_out h
        refine tr_new F hk hC hml hS hW cl_L_382 ml_L_384 ⟨rfl, rfl, (by first | exact Nat.le_of_ble_eq_true rfl | (simp only [rmL_texts, rmL_spells]; omega) | (simp only [rmL_texts]; omega)), (by first | exact Nat.le_of_ble_eq_true rfl | (simp only [rmL_texts, rmL_spells]; omega) | (simp only [rmL_texts]; omega))⟩ hl.1 (by first | exact Nat.le_of_ble_eq_true rfl | (simp only [rmL_texts, rmL_spells]; omega) | (simp only [rmL_texts]; omega)) dL_texts_130 dL_texts_133 dL_texts_134 ⟨(by show _ ≤ K; omega), (by show _ ≤ 6 * K; omega)⟩ (fun q93 H locs hW hS => ?_)
        refine W.widen (k := (κ48 + 4)) (n := 6 * (κ48 + 4)) (by omega) (by omega) ?_
        refine lv_aload_n hx hb dL_texts_137 rfl (lv_at hl 3 rfl) ?_
        obtain ⟨g94, h⟩ := gd_out h
        obtain ⟨g95, h⟩ := gd_out h
        refine tr_appT F hk hC hml hS hW g95 ml_L_385 ⟨rfl, rfl, (by first | exact Nat.le_of_ble_eq_true rfl | (simp only [rmL_texts, rmL_spells]; omega) | (simp only [rmL_texts]; omega)), (by first | exact Nat.le_of_ble_eq_true rfl | (simp only [rmL_texts, rmL_spells]; omega) | (simp only [rmL_texts]; omega))⟩ hl.1 (by first | exact Nat.le_of_ble_eq_true rfl | (simp only [rmL_texts, rmL_spells]; omega) | (simp only [rmL_texts]; omega)) dL_texts_138 ⟨(by show _ ≤ K; omega), (by show _ ≤ 6 * K; omega)⟩ (fun H locs hW hS => ?_)
        refine W.widen (k := (κ48 + 54)) (n := 6 * (κ48 + 54)) (by omega) (by omega) ?_
        refine g_ldcL F hk hC ls_L_406 (by unfold lS; decide) dL_texts_141 ?_
        obtain ⟨g96, h⟩ := gd_out h
        obtain ⟨g97, h⟩ := gd_out h
        refine tr_appK F hk hC hml hS hW (by unfold lS; decide) g97 ml_L_385 ⟨rfl, rfl, (by first | exact Nat.le_of_ble_eq_true rfl | (simp only [rmL_texts, rmL_spells]; omega) | (simp only [rmL_texts]; omega)), (by first | exact Nat.le_of_ble_eq_true rfl | (simp only [rmL_texts, rmL_spells]; omega) | (simp only [rmL_texts]; omega))⟩ hl.1 (by first | exact Nat.le_of_ble_eq_true rfl | (simp only [rmL_texts, rmL_spells]; omega) | (simp only [rmL_texts]; omega)) dL_texts_144 ⟨(by show _ ≤ K; omega), (by show _ ≤ 6 * K; omega)⟩ (fun H locs hW hS => ?_)
        refine W.widen (k := (κ48 + 104)) (n := 6 * (κ48 + 104)) (by omega) (by omega) ?_
        refine lv_aload_n hx hb dL_texts_147 rfl (lv_at hl 0 rfl) ?_
        refine lv_iconst (v := 0) hx hb dL_texts_148 (by decide) ?_
        refine lv_iload_n hx hb dL_texts_149 rfl (lv_at hl 1 rfl) ?_
        refine lv_iload hx hb dL_texts_150 (lv_at hl 4 rfl) ?_
        obtain ⟨g98, h⟩ := gd_out h
        obtain ⟨v99, hv100, h⟩ := bd_out h
        refine tr_dx (As := [.int 0, .int x9, .int x44]) (o := oI) (w := .int v99) hX F hk hC hml hS hW (fun μ hP => z_wayRoom (N := N) (by omega) hP) (fun μ r h9 X9 hX9 => metX10_wayRoom F hX9 is_Ga h9) (gR_o hv100) rfl ml_L_51 rfl ⟨rfl, rfl, (by first | exact Nat.le_of_ble_eq_true rfl | (simp only [rmL_texts, rmL_spells]; omega) | (simp only [rmL_texts]; omega)), (by first | exact Nat.le_of_ble_eq_true rfl | (simp only [rmL_texts, rmL_spells]; omega) | (simp only [rmL_texts]; omega))⟩ rfl hl.1 rfl (by first | exact Nat.le_of_ble_eq_true rfl | (simp only [rmL_texts, rmL_spells]; omega) | (simp only [rmL_texts]; omega)) dL_texts_152 ⟨(by show _ ≤ K; omega), (by show _ ≤ 6 * K; omega)⟩ (fun H locs hW hS => ?_)
        refine W.widen (k := (κ48 + 107)) (n := 6 * (κ48 + 107)) (by omega) (by omega) ?_
        obtain ⟨g101, h⟩ := gd_out h
        obtain ⟨ds102, hd103, h⟩ := bd_out h
        obtain ⟨g104, h⟩ := gd_out h
        refine tr_num (N := N) F hk hC hml hS hW (dcN_ok (by omega) _ _ hd103) g104 ml_L_391 ⟨rfl, rfl, (by first | exact Nat.le_of_ble_eq_true rfl | (simp only [rmL_texts, rmL_spells]; omega) | (simp only [rmL_texts]; omega)), (by first | exact Nat.le_of_ble_eq_true rfl | (simp only [rmL_texts, rmL_spells]; omega) | (simp only [rmL_texts]; omega))⟩ hl.1 (by first | exact Nat.le_of_ble_eq_true rfl | (simp only [rmL_texts, rmL_spells]; omega) | (simp only [rmL_texts]; omega)) dL_texts_155 ⟨(by show _ ≤ K; omega), (by show _ ≤ 6 * K; omega)⟩ (fun H locs hW hS => ?_)
        refine W.widen (k := (κ48 + 157)) (n := 6 * (κ48 + 157)) (by omega) (by omega) ?_
        obtain ⟨g105, h⟩ := gd_out h
        refine tr_str F hk hC hml hS hW ml_L_394 ⟨rfl, rfl, (by first | exact Nat.le_of_ble_eq_true rfl | (simp only [rmL_texts, rmL_spells]; omega) | (simp only [rmL_texts]; omega)), (by first | exact Nat.le_of_ble_eq_true rfl | (simp only [rmL_texts, rmL_spells]; omega) | (simp only [rmL_texts]; omega))⟩ hl.1 (by first | exact Nat.le_of_ble_eq_true rfl | (simp only [rmL_texts, rmL_spells]; omega) | (simp only [rmL_texts]; omega)) dL_texts_158 ⟨(by show _ ≤ K; omega), (by show _ ≤ 6 * K; omega)⟩ (fun a106 H locs hW hS => ?_)
        refine W.widen (k := (κ48 + 208)) (n := 6 * (κ48 + 208)) (by omega) (by omega) ?_
        replace hl := lv_sub hl [0, 1, 2, 4] rfl
        replace hl : lv_has ls 5 [(0, .ref (B + 0)), (1, .int x9), (2, .int v42), (4, .int x44)] := hl
        refine lv_astore_n (lv' := [(3, .ref a106), (0, .ref (B + 0)), (1, .int x9), (2, .int v42), (4, .int x44)]) hx hb dL_texts_161 rfl hl (by decide) rfl (fun ls hl => ?_)
        obtain ⟨v108, e109, h⟩ := lt_out h
        refine lv_iinc (v := v108) (lv' := [(4, .int v108), (3, .ref a106), (0, .ref (B + 0)), (1, .int x9), (2, .int v42)]) hx hb dL_texts_162 hl (k := 4) rfl (by rw [e109]; rfl) (by decide) rfl (fun ls hl => ?_)
        refine lv_goto (tgt := 124) hx hb dL_texts_165 (by decide) ?_
        refine W.widen (k := (κ48 + 208)) (n := 6 * (κ48 + 208)) (by omega) (by omega) ?_
        exact IH50 _ _ _ _ h _ _ _ _ hW hS (lv_sub hl [2, 3, 4, 1, 0] rfl)
  · replace h := ite_f c8 h
    refine g_ldcL F hk hC ls_L_380 (by unfold lS; decide) dL_texts_10 ?_
    replace hW := gTS_of F hk hS (k := 380) (by unfold lS; decide) hW
    refine lv_astore_n (lv' := [(2, .ref (lsa s0 380)), (0, .ref (B + 0)), (1, .int x1)]) hx hb dL_texts_13 rfl hl (by decide) rfl (fun ls hl => ?_)
    refine lv_iconst (v := 0) hx hb dL_texts_14 (by decide) ?_
    refine lv_istore_n (lv' := [(3, .int 0), (2, .ref (lsa s0 380)), (0, .ref (B + 0)), (1, .int x1)]) hx hb dL_texts_15 rfl hl (by decide) rfl (fun ls hl => ?_)
    refine W.widen (k := κ3) (n := 6 * κ3) (by omega) (by omega) ?_
    refine fix4_ind (fun (x110 : Int32) (t111 : List Nat) (tx112 : List Nat) (κ114 : Nat) => ∀ (a113 : Nat) (H : Heap) (locs : List Loc) (ls : Array Slot), gTS s0 D T B X Z hs t111 s a113 tx112 H → va_S (gA B X) s.heap H locs → lv_has ls 5 [(0, .ref (B + 0)), (1, .int x1), (2, .ref a113), (3, .int x110)] → W p l e (rmL_texts K) s m args below meth c H locs κ114 (6 * κ114) Q (F0 m 16 ls [])) ?_ N _ _ _ _ h _ _ _ _ hW hS (lv_sub hl [2, 3, 1, 0] rfl)
    clear h hW hS hl
    intro self115 IH116 x110 t111 tx112 κ114 h a113 H locs ls hW hS hl
    refine lv_iload_n hx hb dL_texts_16 rfl (lv_at hl 3 rfl) ?_
    refine lv_bipush (v := 16) hx hb dL_texts_17 (by decide) ?_
    refine lv_icmp_ge (tgt := 79) hx hb dL_texts_19 (by decide) (fun c117 => ?_) (fun c117 => ?_)
    · replace h := ite_t c117 h
      refine lv_aload_n hx hb dL_texts_79 rfl (lv_at hl 0 rfl) ?_
      refine lv_aload_n hx hb dL_texts_80 rfl (lv_at hl 0 rfl) ?_
      refine lv_iload_n hx hb dL_texts_81 rfl (lv_at hl 1 rfl) ?_
      obtain ⟨g118, h⟩ := gd_out h
      obtain ⟨t119, e120, h⟩ := lt_out h
      refine tr_wr (As := [.ref (B + 0), .int x1]) F hX hk hC hml hS hW (fun X1 hX1 => mq_writePile F hX1 hN) mw_L_398 ⟨rfl, rfl, (by first | exact Nat.le_of_ble_eq_true rfl | (simp only [rmL_texts, rmL_spells]; omega) | (simp only [rmL_texts]; omega)), (by first | exact Nat.le_of_ble_eq_true rfl | (simp only [rmL_texts, rmL_spells]; omega) | (simp only [rmL_texts]; omega))⟩ rfl hl.1 rfl (by first | exact Nat.le_of_ble_eq_true rfl | (simp only [rmL_texts, rmL_spells]; omega) | (simp only [rmL_texts]; omega)) dL_texts_82 ⟨(by show _ ≤ K; omega), (by show _ ≤ 6 * K; omega)⟩ (fun Z2 hs2 t9 out H locs hq hW hS => ?_)
      obtain ⟨rfl, rfl, rfl, rfl⟩ := hq
      refine W.widen (k := (κ114 + 1751)) (n := 6 * (κ114 + 1751)) (by omega) (by omega) ?_
      rw [← e120] at hW
      change W p l e _ s m args below meth c H locs _ _ Q (F0 m _ ls (.int (wL_writePile Z t111 x1) :: _))
      refine lv_aload_n hx hb dL_texts_85 rfl (lv_at hl 2 rfl) ?_
      obtain ⟨g121, h⟩ := gd_out h
      obtain ⟨r122, hcall, h⟩ := bd_out h
      refine tr_in (As := [.ref (B + 0), .int (wL_writePile Z t111 x1), .ref a113]) (Wq := fun X9 => gZ s0 D T B X9 Z hs t119) F hX hk hC hml hS hW (fun X1 hX1 => metL_spells F hX1 hN hcall) (fun X1 H1 h1 h2 => gZ_cg h2 h1) ml_L_400 ⟨rfl, rfl, (by first | exact Nat.le_of_ble_eq_true rfl | (simp only [rmL_texts, rmL_spells]; omega) | (simp only [rmL_texts]; omega)), (by first | exact Nat.le_of_ble_eq_true rfl | (simp only [rmL_texts, rmL_spells]; omega) | (simp only [rmL_texts]; omega))⟩ rfl hl.1 rfl (by first | exact Nat.le_of_ble_eq_true rfl | (simp only [rmL_texts, rmL_spells]; omega) | (simp only [rmL_texts]; omega)) dL_texts_86 ⟨(by show _ ≤ K; omega), (by show _ ≤ 6 * K; omega)⟩ (fun H locs hW hS => ?_)
      refine W.widen (k := (κ114 + 1851)) (n := 6 * (κ114 + 1851)) (by omega) (by omega) ?_
      replace hl := lv_sub hl [0, 1, 3] rfl
      replace hl : lv_has ls 5 [(0, .ref (B + 0)), (1, .int x1), (3, .int x110)] := hl
      refine gw_if_neZ (tgt := 94) hx hb dL_texts_89 (by decide) (fun c123 => ?_) (fun c123 => ?_)
      · replace h := cond_t c123 h
        obtain ⟨v124, e125, h⟩ := lt_out h
        refine lv_iinc (v := v124) (lv' := [(1, .int v124), (0, .ref (B + 0)), (3, .int x110)]) hx hb dL_texts_94 hl (k := 1) rfl (by rw [e125]; rfl) (by decide) rfl (fun ls hl => ?_)
        refine lv_goto (tgt := 2) hx hb dL_texts_97 (by decide) ?_
        refine W.widen (k := (κ114 + 1851)) (n := 6 * (κ114 + 1851)) (by omega) (by omega) ?_
        exact IH5 _ _ _ h _ _ _ hW hS (lv_sub hl [1, 0] rfl)
      · replace h := cond_f c123 h
        refine lv_iconst (v := 0) hx hb dL_texts_92 (by decide) ?_
        obtain ⟨g126, h⟩ := gd_out h
        cases h
        exact hend dL_texts_93 hW hS (by omega) (by omega)
    · replace h := ite_f c117 h
      obtain ⟨g127, h⟩ := gd_out h
      refine tr_new F hk hC hml hS hW cl_L_382 ml_L_384 ⟨rfl, rfl, (by first | exact Nat.le_of_ble_eq_true rfl | (simp only [rmL_texts, rmL_spells]; omega) | (simp only [rmL_texts]; omega)), (by first | exact Nat.le_of_ble_eq_true rfl | (simp only [rmL_texts, rmL_spells]; omega) | (simp only [rmL_texts]; omega))⟩ hl.1 (by first | exact Nat.le_of_ble_eq_true rfl | (simp only [rmL_texts, rmL_spells]; omega) | (simp only [rmL_texts]; omega)) dL_texts_22 dL_texts_25 dL_texts_26 ⟨(by show _ ≤ K; omega), (by show _ ≤ 6 * K; omega)⟩ (fun q128 H locs hW hS => ?_)
      refine W.widen (k := (κ114 + 4)) (n := 6 * (κ114 + 4)) (by omega) (by omega) ?_
      refine lv_aload_n hx hb dL_texts_29 rfl (lv_at hl 2 rfl) ?_
      obtain ⟨g129, h⟩ := gd_out h
      obtain ⟨g130, h⟩ := gd_out h
      refine tr_appT F hk hC hml hS hW g130 ml_L_385 ⟨rfl, rfl, (by first | exact Nat.le_of_ble_eq_true rfl | (simp only [rmL_texts, rmL_spells]; omega) | (simp only [rmL_texts]; omega)), (by first | exact Nat.le_of_ble_eq_true rfl | (simp only [rmL_texts, rmL_spells]; omega) | (simp only [rmL_texts]; omega))⟩ hl.1 (by first | exact Nat.le_of_ble_eq_true rfl | (simp only [rmL_texts, rmL_spells]; omega) | (simp only [rmL_texts]; omega)) dL_texts_30 ⟨(by show _ ≤ K; omega), (by show _ ≤ 6 * K; omega)⟩ (fun H locs hW hS => ?_)
      refine W.widen (k := (κ114 + 54)) (n := 6 * (κ114 + 54)) (by omega) (by omega) ?_
      refine lv_iload_n hx hb dL_texts_33 rfl (lv_at hl 3 rfl) ?_
      obtain ⟨j133, hj135, h⟩ := jn2_o h
      have J134 : ∀ (t131 : List Nat) (κ132 : Nat), j133 t131 κ132 = some r → ∀ (H : Heap) (locs : List Loc) (ls : Array Slot), gTB s0 D T B X Z hs t131 s a113 tx112 q128 ([] ++ tx112) H → va_S (gA B X) s.heap H locs → lv_has ls 5 [(0, .ref (B + 0)), (1, .int x1), (3, .int x110)] → W p l e (rmL_texts K) s m args below meth c H locs κ132 (6 * κ132) Q (F0 m 49 ls [.ref q128]) := by
        clear h hW hS hl
        intro t131 κ132 h H locs ls hW hS hl
        replace h := (hj135 t131 κ132).symm.trans h
        refine g_ldcL F hk hC ls_L_380 (by unfold lS; decide) dL_texts_49 ?_
        obtain ⟨g136, h⟩ := gd_out h
        obtain ⟨g137, h⟩ := gd_out h
        refine tr_appK F hk hC hml hS hW (by unfold lS; decide) g137 ml_L_385 ⟨rfl, rfl, (by first | exact Nat.le_of_ble_eq_true rfl | (simp only [rmL_texts, rmL_spells]; omega) | (simp only [rmL_texts]; omega)), (by first | exact Nat.le_of_ble_eq_true rfl | (simp only [rmL_texts, rmL_spells]; omega) | (simp only [rmL_texts]; omega))⟩ hl.1 (by first | exact Nat.le_of_ble_eq_true rfl | (simp only [rmL_texts, rmL_spells]; omega) | (simp only [rmL_texts]; omega)) dL_texts_52 ⟨(by show _ ≤ K; omega), (by show _ ≤ 6 * K; omega)⟩ (fun H locs hW hS => ?_)
        refine W.widen (k := (κ132 + 50)) (n := 6 * (κ132 + 50)) (by omega) (by omega) ?_
        refine lv_aload_n hx hb dL_texts_55 rfl (lv_at hl 0 rfl) ?_
        refine lv_iload_n hx hb dL_texts_56 rfl (lv_at hl 1 rfl) ?_
        refine lv_iload_n hx hb dL_texts_57 rfl (lv_at hl 2 rfl) ?_
        refine lv_iconst (v := 4) hx hb dL_texts_58 (by decide) ?_
        refine lv_irem hx hb dL_texts_59 (by decide) ?_
        refine lv_iload_n hx hb dL_texts_60 rfl (lv_at hl 2 rfl) ?_
        refine lv_iconst (v := 4) hx hb dL_texts_61 (by decide) ?_
        refine lv_idiv hx hb dL_texts_62 (by decide) ?_
        obtain ⟨g138, h⟩ := gd_out h
        obtain ⟨v139, hv140, h⟩ := bd_out h
        refine tr_dx (As := [.int x1, .int (x110 - x110 / 4 * 4), .int (x110 / 4)]) (o := oI) (w := .int v139) hX F hk hC hml hS hW (fun μ hP => z_grainsAt (N := N) hP) (fun μ r h9 X9 hX9 => metX10_grainsAt F hX9 is_Ga h9) (gR_o hv140) rfl ml_L_76 rfl ⟨rfl, rfl, (by first | exact Nat.le_of_ble_eq_true rfl | (simp only [rmL_texts, rmL_spells]; omega) | (simp only [rmL_texts]; omega)), (by first | exact Nat.le_of_ble_eq_true rfl | (simp only [rmL_texts, rmL_spells]; omega) | (simp only [rmL_texts]; omega))⟩ rfl hl.1 rfl (by first | exact Nat.le_of_ble_eq_true rfl | (simp only [rmL_texts, rmL_spells]; omega) | (simp only [rmL_texts]; omega)) dL_texts_63 ⟨(by show _ ≤ K; omega), (by show _ ≤ 6 * K; omega)⟩ (fun H locs hW hS => ?_)
        refine W.widen (k := (κ132 + 52)) (n := 6 * (κ132 + 52)) (by omega) (by omega) ?_
        obtain ⟨g141, h⟩ := gd_out h
        obtain ⟨ds142, hd143, h⟩ := bd_out h
        obtain ⟨g144, h⟩ := gd_out h
        refine tr_num (N := N) F hk hC hml hS hW (dcN_ok (by omega) _ _ hd143) g144 ml_L_391 ⟨rfl, rfl, (by first | exact Nat.le_of_ble_eq_true rfl | (simp only [rmL_texts, rmL_spells]; omega) | (simp only [rmL_texts]; omega)), (by first | exact Nat.le_of_ble_eq_true rfl | (simp only [rmL_texts, rmL_spells]; omega) | (simp only [rmL_texts]; omega))⟩ hl.1 (by first | exact Nat.le_of_ble_eq_true rfl | (simp only [rmL_texts, rmL_spells]; omega) | (simp only [rmL_texts]; omega)) dL_texts_66 ⟨(by show _ ≤ K; omega), (by show _ ≤ 6 * K; omega)⟩ (fun H locs hW hS => ?_)
        refine W.widen (k := (κ132 + 102)) (n := 6 * (κ132 + 102)) (by omega) (by omega) ?_
        obtain ⟨g145, h⟩ := gd_out h
        refine tr_str F hk hC hml hS hW ml_L_394 ⟨rfl, rfl, (by first | exact Nat.le_of_ble_eq_true rfl | (simp only [rmL_texts, rmL_spells]; omega) | (simp only [rmL_texts]; omega)), (by first | exact Nat.le_of_ble_eq_true rfl | (simp only [rmL_texts, rmL_spells]; omega) | (simp only [rmL_texts]; omega))⟩ hl.1 (by first | exact Nat.le_of_ble_eq_true rfl | (simp only [rmL_texts, rmL_spells]; omega) | (simp only [rmL_texts]; omega)) dL_texts_69 ⟨(by show _ ≤ K; omega), (by show _ ≤ 6 * K; omega)⟩ (fun a146 H locs hW hS => ?_)
        refine W.widen (k := (κ132 + 153)) (n := 6 * (κ132 + 153)) (by omega) (by omega) ?_
        refine lv_astore_n (lv' := [(2, .ref a146), (0, .ref (B + 0)), (1, .int x1), (3, .int x110)]) hx hb dL_texts_72 rfl hl (by decide) rfl (fun ls hl => ?_)
        obtain ⟨v148, e149, h⟩ := lt_out h
        refine lv_iinc (v := v148) (lv' := [(3, .int v148), (2, .ref a146), (0, .ref (B + 0)), (1, .int x1)]) hx hb dL_texts_73 hl (k := 3) rfl (by rw [e149]; rfl) (by decide) rfl (fun ls hl => ?_)
        refine lv_goto (tgt := 16) hx hb dL_texts_76 (by decide) ?_
        refine W.widen (k := (κ132 + 153)) (n := 6 * (κ132 + 153)) (by omega) (by omega) ?_
        exact IH116 _ _ _ _ h _ _ _ _ hW hS (lv_sub hl [2, 3, 1, 0] rfl)
      refine lv_if_le (tgt := 49) hx hb dL_texts_34 (by decide) (fun c150 => ?_) (fun c150 => ?_)
      · replace h := ite_t c150 h
        refine W.widen (k := (κ114 + 54)) (n := 6 * (κ114 + 54)) (by omega) (by omega) ?_
        exact J134 _ _ h _ _ _ hW hS (lv_sub hl [0, 1, 3] rfl)
      · replace h := ite_f c150 h
        refine lv_iload_n hx hb dL_texts_37 rfl (lv_at hl 3 rfl) ?_
        refine lv_iconst (v := 4) hx hb dL_texts_38 (by decide) ?_
        refine lv_irem hx hb dL_texts_39 (by decide) ?_
        refine lv_if_ne (tgt := 49) hx hb dL_texts_40 (by decide) (fun c151 => ?_) (fun c151 => ?_)
        · replace h := ite_f c151 h
          refine W.widen (k := (κ114 + 54)) (n := 6 * (κ114 + 54)) (by omega) (by omega) ?_
          exact J134 _ _ h _ _ _ hW hS (lv_sub hl [0, 1, 3] rfl)
        · replace h := ite_t c151 h
          refine g_ldcL F hk hC ls_L_389 (by unfold lS; decide) dL_texts_43 ?_
          refine lv_goto (tgt := 52) hx hb dL_texts_46 (by decide) ?_
          obtain ⟨g152, h⟩ := gd_out h
          obtain ⟨g153, h⟩ := gd_out h
          refine tr_appK F hk hC hml hS hW (by unfold lS; decide) g153 ml_L_385 ⟨rfl, rfl, (by first | exact Nat.le_of_ble_eq_true rfl | (simp only [rmL_texts, rmL_spells]; omega) | (simp only [rmL_texts]; omega)), (by first | exact Nat.le_of_ble_eq_true rfl | (simp only [rmL_texts, rmL_spells]; omega) | (simp only [rmL_texts]; omega))⟩ hl.1 (by first | exact Nat.le_of_ble_eq_true rfl | (simp only [rmL_texts, rmL_spells]; omega) | (simp only [rmL_texts]; omega)) dL_texts_52 ⟨(by show _ ≤ K; omega), (by show _ ≤ 6 * K; omega)⟩ (fun H locs hW hS => ?_)
          refine W.widen (k := (κ114 + 104)) (n := 6 * (κ114 + 104)) (by omega) (by omega) ?_
          refine lv_aload_n hx hb dL_texts_55 rfl (lv_at hl 0 rfl) ?_
          refine lv_iload_n hx hb dL_texts_56 rfl (lv_at hl 1 rfl) ?_
          refine lv_iload_n hx hb dL_texts_57 rfl (lv_at hl 3 rfl) ?_
          refine lv_iconst (v := 4) hx hb dL_texts_58 (by decide) ?_
          refine lv_irem hx hb dL_texts_59 (by decide) ?_
          refine lv_iload_n hx hb dL_texts_60 rfl (lv_at hl 3 rfl) ?_
          refine lv_iconst (v := 4) hx hb dL_texts_61 (by decide) ?_
          refine lv_idiv hx hb dL_texts_62 (by decide) ?_
          obtain ⟨g154, h⟩ := gd_out h
          obtain ⟨v155, hv156, h⟩ := bd_out h
          refine tr_dx (As := [.int x1, .int (x110 - x110 / 4 * 4), .int (x110 / 4)]) (o := oI) (w := .int v155) hX F hk hC hml hS hW (fun μ hP => z_grainsAt (N := N) hP) (fun μ r h9 X9 hX9 => metX10_grainsAt F hX9 is_Ga h9) (gR_o hv156) rfl ml_L_76 rfl ⟨rfl, rfl, (by first | exact Nat.le_of_ble_eq_true rfl | (simp only [rmL_texts, rmL_spells]; omega) | (simp only [rmL_texts]; omega)), (by first | exact Nat.le_of_ble_eq_true rfl | (simp only [rmL_texts, rmL_spells]; omega) | (simp only [rmL_texts]; omega))⟩ rfl hl.1 rfl (by first | exact Nat.le_of_ble_eq_true rfl | (simp only [rmL_texts, rmL_spells]; omega) | (simp only [rmL_texts]; omega)) dL_texts_63 ⟨(by show _ ≤ K; omega), (by show _ ≤ 6 * K; omega)⟩ (fun H locs hW hS => ?_)
          refine W.widen (k := (κ114 + 106)) (n := 6 * (κ114 + 106)) (by omega) (by omega) ?_
          obtain ⟨g157, h⟩ := gd_out h
          obtain ⟨ds158, hd159, h⟩ := bd_out h
          obtain ⟨g160, h⟩ := gd_out h
          refine tr_num (N := N) F hk hC hml hS hW (dcN_ok (by omega) _ _ hd159) g160 ml_L_391 ⟨rfl, rfl, (by first | exact Nat.le_of_ble_eq_true rfl | (simp only [rmL_texts, rmL_spells]; omega) | (simp only [rmL_texts]; omega)), (by first | exact Nat.le_of_ble_eq_true rfl | (simp only [rmL_texts, rmL_spells]; omega) | (simp only [rmL_texts]; omega))⟩ hl.1 (by first | exact Nat.le_of_ble_eq_true rfl | (simp only [rmL_texts, rmL_spells]; omega) | (simp only [rmL_texts]; omega)) dL_texts_66 ⟨(by show _ ≤ K; omega), (by show _ ≤ 6 * K; omega)⟩ (fun H locs hW hS => ?_)
          refine W.widen (k := (κ114 + 156)) (n := 6 * (κ114 + 156)) (by omega) (by omega) ?_
          obtain ⟨g161, h⟩ := gd_out h
          refine tr_str F hk hC hml hS hW ml_L_394 ⟨rfl, rfl, (by first | exact Nat.le_of_ble_eq_true rfl | (simp only [rmL_texts, rmL_spells]; omega) | (simp only [rmL_texts]; omega)), (by first | exact Nat.le_of_ble_eq_true rfl | (simp only [rmL_texts, rmL_spells]; omega) | (simp only [rmL_texts]; omega))⟩ hl.1 (by first | exact Nat.le_of_ble_eq_true rfl | (simp only [rmL_texts, rmL_spells]; omega) | (simp only [rmL_texts]; omega)) dL_texts_69 ⟨(by show _ ≤ K; omega), (by show _ ≤ 6 * K; omega)⟩ (fun a162 H locs hW hS => ?_)
          refine W.widen (k := (κ114 + 207)) (n := 6 * (κ114 + 207)) (by omega) (by omega) ?_
          replace hl := lv_sub hl [0, 1, 3] rfl
          replace hl : lv_has ls 5 [(0, .ref (B + 0)), (1, .int x1), (3, .int x110)] := hl
          refine lv_astore_n (lv' := [(2, .ref a162), (0, .ref (B + 0)), (1, .int x1), (3, .int x110)]) hx hb dL_texts_72 rfl hl (by decide) rfl (fun ls hl => ?_)
          obtain ⟨v164, e165, h⟩ := lt_out h
          refine lv_iinc (v := v164) (lv' := [(3, .int v164), (2, .ref a162), (0, .ref (B + 0)), (1, .int x1)]) hx hb dL_texts_73 hl (k := 3) rfl (by rw [e165]; rfl) (by decide) rfl (fun ls hl => ?_)
          refine lv_goto (tgt := 16) hx hb dL_texts_76 (by decide) ?_
          refine W.widen (k := (κ114 + 207)) (n := 6 * (κ114 + 207)) (by omega) (by omega) ?_
          exact IH116 _ _ _ _ h _ _ _ _ hW hS (lv_sub hl [2, 3, 1, 0] rfl)

