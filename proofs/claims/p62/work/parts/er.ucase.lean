/-! Printed by program: `undone`, case by case. -/
abbrev rmL_undone : Room := { frames := 20, cells := 30000, slots := 180000, locals := 600 }
/-- a change, told in one number: refused, or done -/
def UR (Z : Nat → Int32) (hs : List (Nat → Int32)) (x : Int32) (Z2 : Nat → Int32) (hs2 : List (Nat → Int32)) : Prop := (x < 0 ∧ Z2 = Z ∧ hs2 = hs) ∨ (¬ x < 0 ∧ hs2 = hsP hs Z)
section UD
variable {p : Program} {l : Launch} {e : Env} {s : State} {m : MethodId} {args : Array Value} {below : List Frame} {meth : Method} {c : Code} {Q : State → Prop} {D : va_G} {T : Nat → ClassId} {X : Nat → Prop} {b B q N dn i κ : Nat} {s0 : State} {Z : Nat → Int32} {hs : List (Nat → Int32)} {t : List Nat} {f : Nat → Int64} {H : Heap} {locs : List Loc} {ls : Array Slot}
set_option maxHeartbeats 2000000 in
set_option maxRecDepth 100000 in
theorem u_108 (F : FX l s0 b D T B) (hX : ∀ o, o < 561 → ¬ X (B + o)) (hN : 1200000000000 ≤ N) (hx : p.tables.exec = Jvm.exec) (hb : c.code = cL_undone) (hml : c.maxLocals = 8) (hk : KC s0 X s) (hC : gC p c cL_undone s m args RL D vwCl (tysG T)) (hκ : κ + 600 ≤ 30000) (hj : ∀ (x : Int32) (Z2 : Nat → Int32) (hs2 : List (Nat → Int32)) (H : Heap) (locs : List Loc) (ls : Array Slot), UR Z hs x Z2 hs2 → gZJ s0 D T B X Z2 hs2 t q f H → va_S (gA B X) s.heap H locs → lv_has ls 8 [(7, .int x), (0, .ref b), (1, .ref (B + 0)), (2, .ref q), (3, .int (nI dn)), (4, .int (nI i))] → W p l e rmL_undone s m args below meth c H locs (κ + 600) (6 * (κ + 600)) Q (F0 m 477 ls [])) (hW : gZJ s0 D T B X Z hs t q f H) (hS : va_S (gA B X) s.heap H locs) {x6 : Int32} (hl : lv_has ls 8 [(0, .ref b), (1, .ref (B + 0)), (2, .ref q), (3, .int (nI dn)), (4, .int (nI i)), (6, .int x6)]) : W p l e rmL_undone s m args below meth c H locs κ (6 * κ) Q (F0 m 108 ls []) := by
  refine lv_iload hx hb dL_undone_108 (lv_at hl 5 rfl) ?_
  refine lv_iconst (v := 2) hx hb dL_undone_110 (by decide) ?_
  refine lv_irem hx hb dL_undone_111 (by decide) ?_
  refine lv_if_ne (tgt := 129) hx hb dL_undone_112 (by decide) (fun _ => ?_) (fun _ => ?_)
  · refine lv_aload_n hx hb dL_undone_129 rfl (lv_at hl 1 rfl) ?_
    refine lv_iload hx hb dL_undone_130 (lv_at hl 5 rfl) ?_
    refine lv_iconst (v := 1) hx hb dL_undone_132 (by decide) ?_
    refine lv_iushr hx hb dL_undone_133 rfl ?_
    refine lv_bipush (v := 7) hx hb dL_undone_134 (by decide) ?_
    refine lv_irem hx hb dL_undone_136 (by decide) ?_
    refine lv_iload hx hb dL_undone_137 (lv_at hl 5 rfl) ?_
    refine lv_iconst (v := 4) hx hb dL_undone_139 (by decide) ?_
    refine lv_iushr hx hb dL_undone_140 rfl ?_
    refine lv_bipush (v := 11) hx hb dL_undone_141 (by decide) ?_
    refine lv_irem hx hb dL_undone_143 (by decide) ?_
    have hsi := (gZ_si hW.1).1
    refine gj_wrS (As := [.ref (B + 0), .int ((((x6 : Int32).toUInt32 >>> ((1 : Int32).toUInt32 &&& Int32.toUInt32 31)).toInt32) - (((x6 : Int32).toUInt32 >>> ((1 : Int32).toUInt32 &&& Int32.toUInt32 31)).toInt32) / 7 * 7), .int ((((x6 : Int32).toUInt32 >>> ((4 : Int32).toUInt32 &&& Int32.toUInt32 31)).toInt32) - (((x6 : Int32).toUInt32 >>> ((4 : Int32).toUInt32 &&& Int32.toUInt32 31)).toInt32) / 11 * 11)]) F hX hk hC hml hS hW (fun hX9 => mv_addExhibit F hX9 hN hsi) mw_L_204 ⟨rfl, rfl, (Nat.le_of_ble_eq_true rfl), (Nat.le_of_ble_eq_true rfl)⟩ rfl hl.1 rfl (Nat.le_of_ble_eq_true rfl) dL_undone_144 ⟨(by show _ ≤ 30000; omega), (by show _ ≤ 180000; omega)⟩ (fun Z2 hs2 t9 out H locs hS2 hW hS => ?_)
    have hR := (rr_addExhibit hsi hS2 (gZJ_out hW)).1.hist.2
    have e9 := hS2.1
    rw [e9] at hW
    generalize wr _ out = x at hR ⊢
    clear hS2
    refine lv_istore (lv' := [(7, .int x), (0, .ref b), (1, .ref (B + 0)), (2, .ref q), (3, .int (nI dn)), (4, .int (nI i)), (6, .int x6)]) hx hb dL_undone_147 hl (by decide) rfl (fun ls hl => ?_)
    refine lv_goto (tgt := 477) hx hb dL_undone_149 (by decide) ?_
    refine W.widen (k := κ + 600) (n := 6 * (κ + 600)) (by omega) (by omega) ?_
    exact hj x _ _ _ _ _ hR hW hS (lv_sub hl [0, 1, 2, 3, 4, 5] rfl)
  · refine lv_aload_n hx hb dL_undone_115 rfl (lv_at hl 1 rfl) ?_
    refine lv_iload hx hb dL_undone_116 (lv_at hl 5 rfl) ?_
    refine lv_iconst (v := 1) hx hb dL_undone_118 (by decide) ?_
    refine lv_iushr hx hb dL_undone_119 rfl ?_
    refine lv_bipush (v := 11) hx hb dL_undone_120 (by decide) ?_
    refine lv_irem hx hb dL_undone_122 (by decide) ?_
    have hsi := (gZ_si hW.1).1
    refine gj_wrS (As := [.ref (B + 0), .int ((((x6 : Int32).toUInt32 >>> ((1 : Int32).toUInt32 &&& Int32.toUInt32 31)).toInt32) - (((x6 : Int32).toUInt32 >>> ((1 : Int32).toUInt32 &&& Int32.toUInt32 31)).toInt32) / 11 * 11)]) F hX hk hC hml hS hW (fun hX9 => mv_addRoom F hX9 hN hsi) mw_L_198 ⟨rfl, rfl, (Nat.le_of_ble_eq_true rfl), (Nat.le_of_ble_eq_true rfl)⟩ rfl hl.1 rfl (Nat.le_of_ble_eq_true rfl) dL_undone_123 ⟨(by show _ ≤ 30000; omega), (by show _ ≤ 180000; omega)⟩ (fun Z2 hs2 t9 out H locs hS2 hW hS => ?_)
    have hR := (rr_addRoom hsi hS2 (gZJ_out hW)).1.hist.2
    have e9 := hS2.1
    rw [e9] at hW
    generalize wr _ out = x at hR ⊢
    clear hS2
    refine lv_goto (tgt := 147) hx hb dL_undone_126 (by decide) ?_
    refine lv_istore (lv' := [(7, .int x), (0, .ref b), (1, .ref (B + 0)), (2, .ref q), (3, .int (nI dn)), (4, .int (nI i)), (6, .int x6)]) hx hb dL_undone_147 hl (by decide) rfl (fun ls hl => ?_)
    refine lv_goto (tgt := 477) hx hb dL_undone_149 (by decide) ?_
    refine W.widen (k := κ + 600) (n := 6 * (κ + 600)) (by omega) (by omega) ?_
    exact hj x _ _ _ _ _ hR hW hS (lv_sub hl [0, 1, 2, 3, 4, 5] rfl)
set_option maxHeartbeats 2000000 in
set_option maxRecDepth 100000 in
theorem u_152 (F : FX l s0 b D T B) (hX : ∀ o, o < 561 → ¬ X (B + o)) (hN : 1200000000000 ≤ N) (hx : p.tables.exec = Jvm.exec) (hb : c.code = cL_undone) (hml : c.maxLocals = 8) (hk : KC s0 X s) (hC : gC p c cL_undone s m args RL D vwCl (tysG T)) (hκ : κ + 600 ≤ 30000) (hj : ∀ (x : Int32) (Z2 : Nat → Int32) (hs2 : List (Nat → Int32)) (H : Heap) (locs : List Loc) (ls : Array Slot), UR Z hs x Z2 hs2 → gZJ s0 D T B X Z2 hs2 t q f H → va_S (gA B X) s.heap H locs → lv_has ls 8 [(7, .int x), (0, .ref b), (1, .ref (B + 0)), (2, .ref q), (3, .int (nI dn)), (4, .int (nI i))] → W p l e rmL_undone s m args below meth c H locs (κ + 600) (6 * (κ + 600)) Q (F0 m 477 ls [])) (hW : gZJ s0 D T B X Z hs t q f H) (hS : va_S (gA B X) s.heap H locs) {x6 : Int32} (hl : lv_has ls 8 [(0, .ref b), (1, .ref (B + 0)), (2, .ref q), (3, .int (nI dn)), (4, .int (nI i)), (6, .int x6)]) : W p l e rmL_undone s m args below meth c H locs κ (6 * κ) Q (F0 m 152 ls []) := by
  refine lv_iload hx hb dL_undone_152 (lv_at hl 5 rfl) ?_
  refine lv_iconst (v := 2) hx hb dL_undone_154 (by decide) ?_
  refine lv_irem hx hb dL_undone_155 (by decide) ?_
  refine lv_if_ne (tgt := 180) hx hb dL_undone_156 (by decide) (fun _ => ?_) (fun _ => ?_)
  · refine lv_aload_n hx hb dL_undone_180 rfl (lv_at hl 1 rfl) ?_
    refine lv_iload hx hb dL_undone_181 (lv_at hl 5 rfl) ?_
    refine lv_iconst (v := 1) hx hb dL_undone_183 (by decide) ?_
    refine lv_iushr hx hb dL_undone_184 rfl ?_
    refine lv_bipush (v := 6) hx hb dL_undone_185 (by decide) ?_
    refine lv_irem hx hb dL_undone_187 (by decide) ?_
    refine lv_iload hx hb dL_undone_188 (lv_at hl 5 rfl) ?_
    refine lv_iconst (v := 4) hx hb dL_undone_190 (by decide) ?_
    refine lv_iushr hx hb dL_undone_191 rfl ?_
    refine lv_bipush (v := 11) hx hb dL_undone_192 (by decide) ?_
    refine lv_irem hx hb dL_undone_194 (by decide) ?_
    have hsi := (gZ_si hW.1).1
    refine gj_wrS (As := [.ref (B + 0), .int ((((x6 : Int32).toUInt32 >>> ((1 : Int32).toUInt32 &&& Int32.toUInt32 31)).toInt32) - (((x6 : Int32).toUInt32 >>> ((1 : Int32).toUInt32 &&& Int32.toUInt32 31)).toInt32) / 6 * 6), .int ((((x6 : Int32).toUInt32 >>> ((4 : Int32).toUInt32 &&& Int32.toUInt32 31)).toInt32) - (((x6 : Int32).toUInt32 >>> ((4 : Int32).toUInt32 &&& Int32.toUInt32 31)).toInt32) / 11 * 11)]) F hX hk hC hml hS hW (fun hX9 => mv_setLimit F hX9 hN hsi) mw_L_439 ⟨rfl, rfl, (Nat.le_of_ble_eq_true rfl), (Nat.le_of_ble_eq_true rfl)⟩ rfl hl.1 rfl (Nat.le_of_ble_eq_true rfl) dL_undone_195 ⟨(by show _ ≤ 30000; omega), (by show _ ≤ 180000; omega)⟩ (fun Z2 hs2 t9 out H locs hS2 hW hS => ?_)
    have hR := (rr_setLimit (a1 := 0) (a2 := 0) hsi hS2 (gZJ_out hW)).1.hist.2
    have e9 := hS2.1
    rw [e9] at hW
    generalize wr _ out = x at hR ⊢
    clear hS2
    refine lv_istore (lv' := [(7, .int x), (0, .ref b), (1, .ref (B + 0)), (2, .ref q), (3, .int (nI dn)), (4, .int (nI i)), (6, .int x6)]) hx hb dL_undone_198 hl (by decide) rfl (fun ls hl => ?_)
    refine lv_goto (tgt := 477) hx hb dL_undone_200 (by decide) ?_
    refine W.widen (k := κ + 600) (n := 6 * (κ + 600)) (by omega) (by omega) ?_
    exact hj x _ _ _ _ _ hR hW hS (lv_sub hl [0, 1, 2, 3, 4, 5] rfl)
  · refine lv_aload_n hx hb dL_undone_159 rfl (lv_at hl 1 rfl) ?_
    refine lv_iload hx hb dL_undone_160 (lv_at hl 5 rfl) ?_
    refine lv_iconst (v := 1) hx hb dL_undone_162 (by decide) ?_
    refine lv_iushr hx hb dL_undone_163 rfl ?_
    refine lv_bipush (v := 7) hx hb dL_undone_164 (by decide) ?_
    refine lv_irem hx hb dL_undone_166 (by decide) ?_
    refine lv_iload hx hb dL_undone_167 (lv_at hl 5 rfl) ?_
    refine lv_iconst (v := 4) hx hb dL_undone_169 (by decide) ?_
    refine lv_iushr hx hb dL_undone_170 rfl ?_
    refine lv_bipush (v := 11) hx hb dL_undone_171 (by decide) ?_
    refine lv_irem hx hb dL_undone_173 (by decide) ?_
    have hsi := (gZ_si hW.1).1
    refine gj_wrS (As := [.ref (B + 0), .int ((((x6 : Int32).toUInt32 >>> ((1 : Int32).toUInt32 &&& Int32.toUInt32 31)).toInt32) - (((x6 : Int32).toUInt32 >>> ((1 : Int32).toUInt32 &&& Int32.toUInt32 31)).toInt32) / 7 * 7), .int ((((x6 : Int32).toUInt32 >>> ((4 : Int32).toUInt32 &&& Int32.toUInt32 31)).toInt32) - (((x6 : Int32).toUInt32 >>> ((4 : Int32).toUInt32 &&& Int32.toUInt32 31)).toInt32) / 11 * 11)]) F hX hk hC hml hS hW (fun hX9 => mv_setWarmth F hX9 hN hsi) mw_L_437 ⟨rfl, rfl, (Nat.le_of_ble_eq_true rfl), (Nat.le_of_ble_eq_true rfl)⟩ rfl hl.1 rfl (Nat.le_of_ble_eq_true rfl) dL_undone_174 ⟨(by show _ ≤ 30000; omega), (by show _ ≤ 180000; omega)⟩ (fun Z2 hs2 t9 out H locs hS2 hW hS => ?_)
    have hR := (rr_setWarmth (a1 := 0) (a2 := 0) hsi hS2 (gZJ_out hW)).1.hist.2
    have e9 := hS2.1
    rw [e9] at hW
    generalize wr _ out = x at hR ⊢
    clear hS2
    refine lv_goto (tgt := 198) hx hb dL_undone_177 (by decide) ?_
    refine lv_istore (lv' := [(7, .int x), (0, .ref b), (1, .ref (B + 0)), (2, .ref q), (3, .int (nI dn)), (4, .int (nI i)), (6, .int x6)]) hx hb dL_undone_198 hl (by decide) rfl (fun ls hl => ?_)
    refine lv_goto (tgt := 477) hx hb dL_undone_200 (by decide) ?_
    refine W.widen (k := κ + 600) (n := 6 * (κ + 600)) (by omega) (by omega) ?_
    exact hj x _ _ _ _ _ hR hW hS (lv_sub hl [0, 1, 2, 3, 4, 5] rfl)
set_option maxHeartbeats 2000000 in
set_option maxRecDepth 100000 in
theorem u_203 (F : FX l s0 b D T B) (hX : ∀ o, o < 561 → ¬ X (B + o)) (hN : 1200000000000 ≤ N) (hx : p.tables.exec = Jvm.exec) (hb : c.code = cL_undone) (hml : c.maxLocals = 8) (hk : KC s0 X s) (hC : gC p c cL_undone s m args RL D vwCl (tysG T)) (hκ : κ + 600 ≤ 30000) (hj : ∀ (x : Int32) (Z2 : Nat → Int32) (hs2 : List (Nat → Int32)) (H : Heap) (locs : List Loc) (ls : Array Slot), UR Z hs x Z2 hs2 → gZJ s0 D T B X Z2 hs2 t q f H → va_S (gA B X) s.heap H locs → lv_has ls 8 [(7, .int x), (0, .ref b), (1, .ref (B + 0)), (2, .ref q), (3, .int (nI dn)), (4, .int (nI i))] → W p l e rmL_undone s m args below meth c H locs (κ + 600) (6 * (κ + 600)) Q (F0 m 477 ls [])) (hW : gZJ s0 D T B X Z hs t q f H) (hS : va_S (gA B X) s.heap H locs) {x6 : Int32} (hl : lv_has ls 8 [(0, .ref b), (1, .ref (B + 0)), (2, .ref q), (3, .int (nI dn)), (4, .int (nI i)), (6, .int x6)]) : W p l e rmL_undone s m args below meth c H locs κ (6 * κ) Q (F0 m 203 ls []) := by
  refine lv_aload_n hx hb dL_undone_203 rfl (lv_at hl 1 rfl) ?_
  refine lv_iload hx hb dL_undone_204 (lv_at hl 5 rfl) ?_
  refine lv_bipush (v := 7) hx hb dL_undone_206 (by decide) ?_
  refine lv_irem hx hb dL_undone_208 (by decide) ?_
  refine lv_iload hx hb dL_undone_209 (lv_at hl 5 rfl) ?_
  refine lv_iconst (v := 3) hx hb dL_undone_211 (by decide) ?_
  refine lv_iushr hx hb dL_undone_212 rfl ?_
  refine lv_bipush (v := 7) hx hb dL_undone_213 (by decide) ?_
  refine lv_irem hx hb dL_undone_215 (by decide) ?_
  refine lv_iload hx hb dL_undone_216 (lv_at hl 5 rfl) ?_
  refine lv_bipush (v := 6) hx hb dL_undone_218 (by decide) ?_
  refine lv_iushr hx hb dL_undone_220 rfl ?_
  refine lv_bipush (v := 101) hx hb dL_undone_221 (by decide) ?_
  refine lv_irem hx hb dL_undone_223 (by decide) ?_
  refine lv_iload hx hb dL_undone_224 (lv_at hl 5 rfl) ?_
  refine lv_bipush (v := 13) hx hb dL_undone_226 (by decide) ?_
  refine lv_iushr hx hb dL_undone_228 rfl ?_
  refine lv_bipush (v := 11) hx hb dL_undone_229 (by decide) ?_
  refine lv_irem hx hb dL_undone_231 (by decide) ?_
  have hsi := (gZ_si hW.1).1
  refine gj_wrS (As := [.ref (B + 0), .int (x6 - x6 / 7 * 7), .int ((((x6 : Int32).toUInt32 >>> ((3 : Int32).toUInt32 &&& Int32.toUInt32 31)).toInt32) - (((x6 : Int32).toUInt32 >>> ((3 : Int32).toUInt32 &&& Int32.toUInt32 31)).toInt32) / 7 * 7), .int ((((x6 : Int32).toUInt32 >>> ((6 : Int32).toUInt32 &&& Int32.toUInt32 31)).toInt32) - (((x6 : Int32).toUInt32 >>> ((6 : Int32).toUInt32 &&& Int32.toUInt32 31)).toInt32) / 101 * 101), .int ((((x6 : Int32).toUInt32 >>> ((13 : Int32).toUInt32 &&& Int32.toUInt32 31)).toInt32) - (((x6 : Int32).toUInt32 >>> ((13 : Int32).toUInt32 &&& Int32.toUInt32 31)).toInt32) / 11 * 11)]) F hX hk hC hml hS hW (fun hX9 => mv_setLeg F hX9 hN hsi) mw_L_201 ⟨rfl, rfl, (Nat.le_of_ble_eq_true rfl), (Nat.le_of_ble_eq_true rfl)⟩ rfl hl.1 rfl (Nat.le_of_ble_eq_true rfl) dL_undone_232 ⟨(by show _ ≤ 30000; omega), (by show _ ≤ 180000; omega)⟩ (fun Z2 hs2 t9 out H locs hS2 hW hS => ?_)
  have hR := (rr_setLeg hsi hS2 (gZJ_out hW)).1.hist.2
  have e9 := hS2.1
  rw [e9] at hW
  generalize wr _ out = x at hR ⊢
  clear hS2
  refine lv_istore (lv' := [(7, .int x), (0, .ref b), (1, .ref (B + 0)), (2, .ref q), (3, .int (nI dn)), (4, .int (nI i)), (6, .int x6)]) hx hb dL_undone_235 hl (by decide) rfl (fun ls hl => ?_)
  refine lv_goto (tgt := 477) hx hb dL_undone_237 (by decide) ?_
  refine W.widen (k := κ + 600) (n := 6 * (κ + 600)) (by omega) (by omega) ?_
  exact hj x _ _ _ _ _ hR hW hS (lv_sub hl [0, 1, 2, 3, 4, 5] rfl)
set_option maxHeartbeats 2000000 in
set_option maxRecDepth 100000 in
theorem u_240 (F : FX l s0 b D T B) (hX : ∀ o, o < 561 → ¬ X (B + o)) (hN : 1200000000000 ≤ N) (hx : p.tables.exec = Jvm.exec) (hb : c.code = cL_undone) (hml : c.maxLocals = 8) (hk : KC s0 X s) (hC : gC p c cL_undone s m args RL D vwCl (tysG T)) (hκ : κ + 600 ≤ 30000) (hj : ∀ (x : Int32) (Z2 : Nat → Int32) (hs2 : List (Nat → Int32)) (H : Heap) (locs : List Loc) (ls : Array Slot), UR Z hs x Z2 hs2 → gZJ s0 D T B X Z2 hs2 t q f H → va_S (gA B X) s.heap H locs → lv_has ls 8 [(7, .int x), (0, .ref b), (1, .ref (B + 0)), (2, .ref q), (3, .int (nI dn)), (4, .int (nI i))] → W p l e rmL_undone s m args below meth c H locs (κ + 600) (6 * (κ + 600)) Q (F0 m 477 ls [])) (hW : gZJ s0 D T B X Z hs t q f H) (hS : va_S (gA B X) s.heap H locs) {x6 : Int32} (hl : lv_has ls 8 [(0, .ref b), (1, .ref (B + 0)), (2, .ref q), (3, .int (nI dn)), (4, .int (nI i)), (6, .int x6)]) : W p l e rmL_undone s m args below meth c H locs κ (6 * κ) Q (F0 m 240 ls []) := by
  refine lv_aload_n hx hb dL_undone_240 rfl (lv_at hl 1 rfl) ?_
  refine lv_iload hx hb dL_undone_241 (lv_at hl 5 rfl) ?_
  refine lv_bipush (v := 7) hx hb dL_undone_243 (by decide) ?_
  refine lv_irem hx hb dL_undone_245 (by decide) ?_
  refine lv_iload hx hb dL_undone_246 (lv_at hl 5 rfl) ?_
  refine lv_iconst (v := 3) hx hb dL_undone_248 (by decide) ?_
  refine lv_iushr hx hb dL_undone_249 rfl ?_
  refine lv_bipush (v := 7) hx hb dL_undone_250 (by decide) ?_
  refine lv_irem hx hb dL_undone_252 (by decide) ?_
  have hsi := (gZ_si hW.1).1
  refine gj_wrS (As := [.ref (B + 0), .int (x6 - x6 / 7 * 7), .int ((((x6 : Int32).toUInt32 >>> ((3 : Int32).toUInt32 &&& Int32.toUInt32 31)).toInt32) - (((x6 : Int32).toUInt32 >>> ((3 : Int32).toUInt32 &&& Int32.toUInt32 31)).toInt32) / 7 * 7)]) F hX hk hC hml hS hW (fun hX9 => mv_removeLeg F hX9 hN hsi) mw_L_441 ⟨rfl, rfl, (Nat.le_of_ble_eq_true rfl), (Nat.le_of_ble_eq_true rfl)⟩ rfl hl.1 rfl (Nat.le_of_ble_eq_true rfl) dL_undone_253 ⟨(by show _ ≤ 30000; omega), (by show _ ≤ 180000; omega)⟩ (fun Z2 hs2 t9 out H locs hS2 hW hS => ?_)
  have hR := (rr_removeLeg hsi hS2 (gZJ_out hW)).1.hist.2
  have e9 := hS2.1
  rw [e9] at hW
  generalize wr _ out = x at hR ⊢
  clear hS2
  refine lv_istore (lv' := [(7, .int x), (0, .ref b), (1, .ref (B + 0)), (2, .ref q), (3, .int (nI dn)), (4, .int (nI i)), (6, .int x6)]) hx hb dL_undone_256 hl (by decide) rfl (fun ls hl => ?_)
  refine lv_goto (tgt := 477) hx hb dL_undone_258 (by decide) ?_
  refine W.widen (k := κ + 600) (n := 6 * (κ + 600)) (by omega) (by omega) ?_
  exact hj x _ _ _ _ _ hR hW hS (lv_sub hl [0, 1, 2, 3, 4, 5] rfl)
set_option maxHeartbeats 2000000 in
set_option maxRecDepth 100000 in
theorem u_261 (F : FX l s0 b D T B) (hX : ∀ o, o < 561 → ¬ X (B + o)) (hN : 1200000000000 ≤ N) (hx : p.tables.exec = Jvm.exec) (hb : c.code = cL_undone) (hml : c.maxLocals = 8) (hk : KC s0 X s) (hC : gC p c cL_undone s m args RL D vwCl (tysG T)) (hκ : κ + 600 ≤ 30000) (hj : ∀ (x : Int32) (Z2 : Nat → Int32) (hs2 : List (Nat → Int32)) (H : Heap) (locs : List Loc) (ls : Array Slot), UR Z hs x Z2 hs2 → gZJ s0 D T B X Z2 hs2 t q f H → va_S (gA B X) s.heap H locs → lv_has ls 8 [(7, .int x), (0, .ref b), (1, .ref (B + 0)), (2, .ref q), (3, .int (nI dn)), (4, .int (nI i))] → W p l e rmL_undone s m args below meth c H locs (κ + 600) (6 * (κ + 600)) Q (F0 m 477 ls [])) (hW : gZJ s0 D T B X Z hs t q f H) (hS : va_S (gA B X) s.heap H locs) {x6 : Int32} (hl : lv_has ls 8 [(0, .ref b), (1, .ref (B + 0)), (2, .ref q), (3, .int (nI dn)), (4, .int (nI i)), (6, .int x6)]) : W p l e rmL_undone s m args below meth c H locs κ (6 * κ) Q (F0 m 261 ls []) := by
  refine lv_aload_n hx hb dL_undone_261 rfl (lv_at hl 1 rfl) ?_
  refine lv_iload hx hb dL_undone_262 (lv_at hl 5 rfl) ?_
  refine lv_bipush (v := 6) hx hb dL_undone_264 (by decide) ?_
  refine lv_irem hx hb dL_undone_266 (by decide) ?_
  refine lv_iload hx hb dL_undone_267 (lv_at hl 5 rfl) ?_
  refine lv_iconst (v := 3) hx hb dL_undone_269 (by decide) ?_
  refine lv_iushr hx hb dL_undone_270 rfl ?_
  refine lv_iconst (v := 5) hx hb dL_undone_271 (by decide) ?_
  refine lv_irem hx hb dL_undone_272 (by decide) ?_
  refine lv_iload hx hb dL_undone_273 (lv_at hl 5 rfl) ?_
  refine lv_bipush (v := 6) hx hb dL_undone_275 (by decide) ?_
  refine lv_iushr hx hb dL_undone_277 rfl ?_
  refine lv_iconst (v := 5) hx hb dL_undone_278 (by decide) ?_
  refine lv_irem hx hb dL_undone_279 (by decide) ?_
  refine lv_iload hx hb dL_undone_280 (lv_at hl 5 rfl) ?_
  refine lv_bipush (v := 9) hx hb dL_undone_282 (by decide) ?_
  refine lv_iushr hx hb dL_undone_284 rfl ?_
  refine lv_bipush (v := 42) hx hb dL_undone_285 (by decide) ?_
  refine lv_irem hx hb dL_undone_287 (by decide) ?_
  have hsi := (gZ_si hW.1).1
  refine gj_wrS (As := [.ref (B + 0), .int (x6 - x6 / 6 * 6), .int ((((x6 : Int32).toUInt32 >>> ((3 : Int32).toUInt32 &&& Int32.toUInt32 31)).toInt32) - (((x6 : Int32).toUInt32 >>> ((3 : Int32).toUInt32 &&& Int32.toUInt32 31)).toInt32) / 5 * 5), .int ((((x6 : Int32).toUInt32 >>> ((6 : Int32).toUInt32 &&& Int32.toUInt32 31)).toInt32) - (((x6 : Int32).toUInt32 >>> ((6 : Int32).toUInt32 &&& Int32.toUInt32 31)).toInt32) / 5 * 5), .int ((((x6 : Int32).toUInt32 >>> ((9 : Int32).toUInt32 &&& Int32.toUInt32 31)).toInt32) - (((x6 : Int32).toUInt32 >>> ((9 : Int32).toUInt32 &&& Int32.toUInt32 31)).toInt32) / 42 * 42)]) F hX hk hC hml hS hW (fun hX9 => mv_drop F hX9 hN hsi) mw_L_207 ⟨rfl, rfl, (Nat.le_of_ble_eq_true rfl), (Nat.le_of_ble_eq_true rfl)⟩ rfl hl.1 rfl (Nat.le_of_ble_eq_true rfl) dL_undone_288 ⟨(by show _ ≤ 30000; omega), (by show _ ≤ 180000; omega)⟩ (fun Z2 hs2 t9 out H locs hS2 hW hS => ?_)
  have hR := (rr_drop hsi hS2 (gZJ_out hW)).1.hist.2
  have e9 := hS2.1
  rw [e9] at hW
  generalize wr _ out = x at hR ⊢
  clear hS2
  refine lv_istore (lv' := [(7, .int x), (0, .ref b), (1, .ref (B + 0)), (2, .ref q), (3, .int (nI dn)), (4, .int (nI i)), (6, .int x6)]) hx hb dL_undone_291 hl (by decide) rfl (fun ls hl => ?_)
  refine lv_goto (tgt := 477) hx hb dL_undone_293 (by decide) ?_
  refine W.widen (k := κ + 600) (n := 6 * (κ + 600)) (by omega) (by omega) ?_
  exact hj x _ _ _ _ _ hR hW hS (lv_sub hl [0, 1, 2, 3, 4, 5] rfl)
set_option maxHeartbeats 2000000 in
set_option maxRecDepth 100000 in
theorem u_296 (F : FX l s0 b D T B) (hX : ∀ o, o < 561 → ¬ X (B + o)) (hN : 1200000000000 ≤ N) (hx : p.tables.exec = Jvm.exec) (hb : c.code = cL_undone) (hml : c.maxLocals = 8) (hk : KC s0 X s) (hC : gC p c cL_undone s m args RL D vwCl (tysG T)) (hκ : κ + 600 ≤ 30000) (hj : ∀ (x : Int32) (Z2 : Nat → Int32) (hs2 : List (Nat → Int32)) (H : Heap) (locs : List Loc) (ls : Array Slot), UR Z hs x Z2 hs2 → gZJ s0 D T B X Z2 hs2 t q f H → va_S (gA B X) s.heap H locs → lv_has ls 8 [(7, .int x), (0, .ref b), (1, .ref (B + 0)), (2, .ref q), (3, .int (nI dn)), (4, .int (nI i))] → W p l e rmL_undone s m args below meth c H locs (κ + 600) (6 * (κ + 600)) Q (F0 m 477 ls [])) (hW : gZJ s0 D T B X Z hs t q f H) (hS : va_S (gA B X) s.heap H locs) {x6 : Int32} (hl : lv_has ls 8 [(0, .ref b), (1, .ref (B + 0)), (2, .ref q), (3, .int (nI dn)), (4, .int (nI i)), (6, .int x6)]) : W p l e rmL_undone s m args below meth c H locs κ (6 * κ) Q (F0 m 296 ls []) := by
  refine lv_aload_n hx hb dL_undone_296 rfl (lv_at hl 1 rfl) ?_
  refine lv_iload hx hb dL_undone_297 (lv_at hl 5 rfl) ?_
  refine lv_bipush (v := 6) hx hb dL_undone_299 (by decide) ?_
  refine lv_irem hx hb dL_undone_301 (by decide) ?_
  refine lv_iload hx hb dL_undone_302 (lv_at hl 5 rfl) ?_
  refine lv_iconst (v := 3) hx hb dL_undone_304 (by decide) ?_
  refine lv_iushr hx hb dL_undone_305 rfl ?_
  refine lv_bipush (v := 7) hx hb dL_undone_306 (by decide) ?_
  refine lv_irem hx hb dL_undone_308 (by decide) ?_
  have hsi := (gZ_si hW.1).1
  refine gj_wrS (As := [.ref (B + 0), .int (x6 - x6 / 6 * 6), .int ((((x6 : Int32).toUInt32 >>> ((3 : Int32).toUInt32 &&& Int32.toUInt32 31)).toInt32) - (((x6 : Int32).toUInt32 >>> ((3 : Int32).toUInt32 &&& Int32.toUInt32 31)).toInt32) / 7 * 7)]) F hX hk hC hml hS hW (fun hX9 => mv_send F hX9 hN hsi) mw_L_222 ⟨rfl, rfl, (Nat.le_of_ble_eq_true rfl), (Nat.le_of_ble_eq_true rfl)⟩ rfl hl.1 rfl (Nat.le_of_ble_eq_true rfl) dL_undone_309 ⟨(by show _ ≤ 30000; omega), (by show _ ≤ 180000; omega)⟩ (fun Z2 hs2 t9 out H locs hS2 hW hS => ?_)
  have hR := (rr_send hsi hS2 (gZJ_out hW)).1.hist.2
  have e9 := hS2.1
  rw [e9] at hW
  generalize wr _ out = x at hR ⊢
  clear hS2
  refine lv_istore (lv' := [(7, .int x), (0, .ref b), (1, .ref (B + 0)), (2, .ref q), (3, .int (nI dn)), (4, .int (nI i)), (6, .int x6)]) hx hb dL_undone_312 hl (by decide) rfl (fun ls hl => ?_)
  refine lv_goto (tgt := 477) hx hb dL_undone_314 (by decide) ?_
  refine W.widen (k := κ + 600) (n := 6 * (κ + 600)) (by omega) (by omega) ?_
  exact hj x _ _ _ _ _ hR hW hS (lv_sub hl [0, 1, 2, 3, 4, 5] rfl)
set_option maxHeartbeats 2000000 in
set_option maxRecDepth 100000 in
theorem u_317 (F : FX l s0 b D T B) (hX : ∀ o, o < 561 → ¬ X (B + o)) (hN : 1200000000000 ≤ N) (hx : p.tables.exec = Jvm.exec) (hb : c.code = cL_undone) (hml : c.maxLocals = 8) (hk : KC s0 X s) (hC : gC p c cL_undone s m args RL D vwCl (tysG T)) (hκ : κ + 600 ≤ 30000) (hj : ∀ (x : Int32) (Z2 : Nat → Int32) (hs2 : List (Nat → Int32)) (H : Heap) (locs : List Loc) (ls : Array Slot), UR Z hs x Z2 hs2 → gZJ s0 D T B X Z2 hs2 t q f H → va_S (gA B X) s.heap H locs → lv_has ls 8 [(7, .int x), (0, .ref b), (1, .ref (B + 0)), (2, .ref q), (3, .int (nI dn)), (4, .int (nI i))] → W p l e rmL_undone s m args below meth c H locs (κ + 600) (6 * (κ + 600)) Q (F0 m 477 ls [])) (hW : gZJ s0 D T B X Z hs t q f H) (hS : va_S (gA B X) s.heap H locs) {x6 : Int32} (hl : lv_has ls 8 [(0, .ref b), (1, .ref (B + 0)), (2, .ref q), (3, .int (nI dn)), (4, .int (nI i)), (6, .int x6)]) : W p l e rmL_undone s m args below meth c H locs κ (6 * κ) Q (F0 m 317 ls []) := by
  refine lv_aload_n hx hb dL_undone_317 rfl (lv_at hl 1 rfl) ?_
  refine lv_iload hx hb dL_undone_318 (lv_at hl 5 rfl) ?_
  refine lv_bipush (v := 6) hx hb dL_undone_320 (by decide) ?_
  refine lv_irem hx hb dL_undone_322 (by decide) ?_
  refine lv_iload hx hb dL_undone_323 (lv_at hl 5 rfl) ?_
  refine lv_iconst (v := 3) hx hb dL_undone_325 (by decide) ?_
  refine lv_iushr hx hb dL_undone_326 rfl ?_
  refine lv_bipush (v := 30) hx hb dL_undone_327 (by decide) ?_
  refine lv_irem hx hb dL_undone_329 (by decide) ?_
  refine lv_iload hx hb dL_undone_330 (lv_at hl 5 rfl) ?_
  refine lv_bipush (v := 8) hx hb dL_undone_332 (by decide) ?_
  refine lv_iushr hx hb dL_undone_334 rfl ?_
  refine lv_bipush (v := 102) hx hb dL_undone_335 (by decide) ?_
  refine lv_irem hx hb dL_undone_337 (by decide) ?_
  refine lv_iload hx hb dL_undone_338 (lv_at hl 5 rfl) ?_
  refine lv_bipush (v := 14) hx hb dL_undone_340 (by decide) ?_
  refine lv_iushr hx hb dL_undone_342 rfl ?_
  refine lv_bipush (v := 101) hx hb dL_undone_343 (by decide) ?_
  refine lv_irem hx hb dL_undone_345 (by decide) ?_
  have hsi := (gZ_si hW.1).1
  refine gj_wrS (As := [.ref (B + 0), .int (x6 - x6 / 6 * 6), .int ((((x6 : Int32).toUInt32 >>> ((3 : Int32).toUInt32 &&& Int32.toUInt32 31)).toInt32) - (((x6 : Int32).toUInt32 >>> ((3 : Int32).toUInt32 &&& Int32.toUInt32 31)).toInt32) / 30 * 30), .int ((((x6 : Int32).toUInt32 >>> ((8 : Int32).toUInt32 &&& Int32.toUInt32 31)).toInt32) - (((x6 : Int32).toUInt32 >>> ((8 : Int32).toUInt32 &&& Int32.toUInt32 31)).toInt32) / 102 * 102), .int ((((x6 : Int32).toUInt32 >>> ((14 : Int32).toUInt32 &&& Int32.toUInt32 31)).toInt32) - (((x6 : Int32).toUInt32 >>> ((14 : Int32).toUInt32 &&& Int32.toUInt32 31)).toInt32) / 101 * 101)]) F hX hk hC hml hS hW (fun hX9 => mv_ask F hX9 hN hsi) mw_L_214 ⟨rfl, rfl, (Nat.le_of_ble_eq_true rfl), (Nat.le_of_ble_eq_true rfl)⟩ rfl hl.1 rfl (Nat.le_of_ble_eq_true rfl) dL_undone_346 ⟨(by show _ ≤ 30000; omega), (by show _ ≤ 180000; omega)⟩ (fun Z2 hs2 t9 out H locs hS2 hW hS => ?_)
  have hR := (rr_ask hsi hS2 (gZJ_out hW)).1.hist.2
  have e9 := hS2.1
  rw [e9] at hW
  generalize wr _ out = x at hR ⊢
  clear hS2
  refine lv_istore (lv' := [(7, .int x), (0, .ref b), (1, .ref (B + 0)), (2, .ref q), (3, .int (nI dn)), (4, .int (nI i)), (6, .int x6)]) hx hb dL_undone_349 hl (by decide) rfl (fun ls hl => ?_)
  refine lv_goto (tgt := 477) hx hb dL_undone_351 (by decide) ?_
  refine W.widen (k := κ + 600) (n := 6 * (κ + 600)) (by omega) (by omega) ?_
  exact hj x _ _ _ _ _ hR hW hS (lv_sub hl [0, 1, 2, 3, 4, 5] rfl)
set_option maxHeartbeats 2000000 in
set_option maxRecDepth 100000 in
theorem u_354 (F : FX l s0 b D T B) (hX : ∀ o, o < 561 → ¬ X (B + o)) (hN : 1200000000000 ≤ N) (hx : p.tables.exec = Jvm.exec) (hb : c.code = cL_undone) (hml : c.maxLocals = 8) (hk : KC s0 X s) (hC : gC p c cL_undone s m args RL D vwCl (tysG T)) (hκ : κ + 600 ≤ 30000) (hj : ∀ (x : Int32) (Z2 : Nat → Int32) (hs2 : List (Nat → Int32)) (H : Heap) (locs : List Loc) (ls : Array Slot), UR Z hs x Z2 hs2 → gZJ s0 D T B X Z2 hs2 t q f H → va_S (gA B X) s.heap H locs → lv_has ls 8 [(7, .int x), (0, .ref b), (1, .ref (B + 0)), (2, .ref q), (3, .int (nI dn)), (4, .int (nI i))] → W p l e rmL_undone s m args below meth c H locs (κ + 600) (6 * (κ + 600)) Q (F0 m 477 ls [])) (hW : gZJ s0 D T B X Z hs t q f H) (hS : va_S (gA B X) s.heap H locs) {x6 : Int32} (hl : lv_has ls 8 [(0, .ref b), (1, .ref (B + 0)), (2, .ref q), (3, .int (nI dn)), (4, .int (nI i)), (6, .int x6)]) : W p l e rmL_undone s m args below meth c H locs κ (6 * κ) Q (F0 m 354 ls []) := by
  refine lv_aload_n hx hb dL_undone_354 rfl (lv_at hl 1 rfl) ?_
  refine lv_iload hx hb dL_undone_355 (lv_at hl 5 rfl) ?_
  refine lv_bipush (v := 6) hx hb dL_undone_357 (by decide) ?_
  refine lv_irem hx hb dL_undone_359 (by decide) ?_
  have hsi := (gZ_si hW.1).1
  refine gj_wrS (As := [.ref (B + 0), .int (x6 - x6 / 6 * 6)]) F hX hk hC hml hS hW (fun hX9 => mv_take F hX9 hN hsi) mw_L_216 ⟨rfl, rfl, (Nat.le_of_ble_eq_true rfl), (Nat.le_of_ble_eq_true rfl)⟩ rfl hl.1 rfl (Nat.le_of_ble_eq_true rfl) dL_undone_360 ⟨(by show _ ≤ 30000; omega), (by show _ ≤ 180000; omega)⟩ (fun Z2 hs2 t9 out H locs hS2 hW hS => ?_)
  have hR := (rr_take hsi hS2 (gZJ_out hW)).1.hist.2
  have e9 := hS2.1
  rw [e9] at hW
  generalize wr _ out = x at hR ⊢
  clear hS2
  refine lv_istore (lv' := [(7, .int x), (0, .ref b), (1, .ref (B + 0)), (2, .ref q), (3, .int (nI dn)), (4, .int (nI i)), (6, .int x6)]) hx hb dL_undone_363 hl (by decide) rfl (fun ls hl => ?_)
  refine lv_goto (tgt := 477) hx hb dL_undone_365 (by decide) ?_
  refine W.widen (k := κ + 600) (n := 6 * (κ + 600)) (by omega) (by omega) ?_
  exact hj x _ _ _ _ _ hR hW hS (lv_sub hl [0, 1, 2, 3, 4, 5] rfl)
set_option maxHeartbeats 2000000 in
set_option maxRecDepth 100000 in
theorem u_368 (F : FX l s0 b D T B) (hX : ∀ o, o < 561 → ¬ X (B + o)) (hN : 1200000000000 ≤ N) (hx : p.tables.exec = Jvm.exec) (hb : c.code = cL_undone) (hml : c.maxLocals = 8) (hk : KC s0 X s) (hC : gC p c cL_undone s m args RL D vwCl (tysG T)) (hκ : κ + 600 ≤ 30000) (hj : ∀ (x : Int32) (Z2 : Nat → Int32) (hs2 : List (Nat → Int32)) (H : Heap) (locs : List Loc) (ls : Array Slot), UR Z hs x Z2 hs2 → gZJ s0 D T B X Z2 hs2 t q f H → va_S (gA B X) s.heap H locs → lv_has ls 8 [(7, .int x), (0, .ref b), (1, .ref (B + 0)), (2, .ref q), (3, .int (nI dn)), (4, .int (nI i))] → W p l e rmL_undone s m args below meth c H locs (κ + 600) (6 * (κ + 600)) Q (F0 m 477 ls [])) (hW : gZJ s0 D T B X Z hs t q f H) (hS : va_S (gA B X) s.heap H locs) {x6 : Int32} (hl : lv_has ls 8 [(0, .ref b), (1, .ref (B + 0)), (2, .ref q), (3, .int (nI dn)), (4, .int (nI i)), (6, .int x6)]) : W p l e rmL_undone s m args below meth c H locs κ (6 * κ) Q (F0 m 368 ls []) := by
  refine lv_aload_n hx hb dL_undone_368 rfl (lv_at hl 1 rfl) ?_
  refine lv_iload hx hb dL_undone_369 (lv_at hl 5 rfl) ?_
  refine lv_bipush (v := 101) hx hb dL_undone_371 (by decide) ?_
  refine lv_irem hx hb dL_undone_373 (by decide) ?_
  have hsi := (gZ_si hW.1).1
  refine gj_wrS (As := [.ref (B + 0), .int (x6 - x6 / 101 * 101)]) F hX hk hC hml hS hW (fun hX9 => mv_pass F hX9 hN hsi) mw_L_219 ⟨rfl, rfl, (Nat.le_of_ble_eq_true rfl), (Nat.le_of_ble_eq_true rfl)⟩ rfl hl.1 rfl (Nat.le_of_ble_eq_true rfl) dL_undone_374 ⟨(by show _ ≤ 30000; omega), (by show _ ≤ 180000; omega)⟩ (fun Z2 hs2 t9 out H locs hS2 hW hS => ?_)
  have hR := (rr_pass hsi hS2 (gZJ_out hW)).1.hist.2
  have e9 := hS2.1
  rw [e9] at hW
  generalize wr _ out = x at hR ⊢
  clear hS2
  refine lv_istore (lv' := [(7, .int x), (0, .ref b), (1, .ref (B + 0)), (2, .ref q), (3, .int (nI dn)), (4, .int (nI i)), (6, .int x6)]) hx hb dL_undone_377 hl (by decide) rfl (fun ls hl => ?_)
  refine lv_goto (tgt := 477) hx hb dL_undone_379 (by decide) ?_
  refine W.widen (k := κ + 600) (n := 6 * (κ + 600)) (by omega) (by omega) ?_
  exact hj x _ _ _ _ _ hR hW hS (lv_sub hl [0, 1, 2, 3, 4, 5] rfl)
set_option maxHeartbeats 2000000 in
set_option maxRecDepth 100000 in
theorem u_382 (F : FX l s0 b D T B) (hX : ∀ o, o < 561 → ¬ X (B + o)) (hN : 1200000000000 ≤ N) (hx : p.tables.exec = Jvm.exec) (hb : c.code = cL_undone) (hml : c.maxLocals = 8) (hk : KC s0 X s) (hC : gC p c cL_undone s m args RL D vwCl (tysG T)) (hκ : κ + 600 ≤ 30000) (hj : ∀ (x : Int32) (Z2 : Nat → Int32) (hs2 : List (Nat → Int32)) (H : Heap) (locs : List Loc) (ls : Array Slot), UR Z hs x Z2 hs2 → gZJ s0 D T B X Z2 hs2 t q f H → va_S (gA B X) s.heap H locs → lv_has ls 8 [(7, .int x), (0, .ref b), (1, .ref (B + 0)), (2, .ref q), (3, .int (nI dn)), (4, .int (nI i))] → W p l e rmL_undone s m args below meth c H locs (κ + 600) (6 * (κ + 600)) Q (F0 m 477 ls [])) (hW : gZJ s0 D T B X Z hs t q f H) (hS : va_S (gA B X) s.heap H locs) {e6 : Nat} (he6 : e6 < 2 ^ 31) (hl : lv_has ls 8 [(0, .ref b), (1, .ref (B + 0)), (2, .ref q), (3, .int (nI dn)), (4, .int (nI i)), (6, .int (nI e6))]) : W p l e rmL_undone s m args below meth c H locs κ (6 * κ) Q (F0 m 382 ls []) := by
  refine lv_aload_n hx hb dL_undone_382 rfl (lv_at hl 1 rfl) ?_
  refine tj_new F hk hC hml hS (gJS_of hW) cl_L_382 ml_L_384 ⟨rfl, rfl, (Nat.le_of_ble_eq_true rfl), (Nat.le_of_ble_eq_true rfl)⟩ hl.1 (Nat.le_of_ble_eq_true rfl) dL_undone_383 dL_undone_386 dL_undone_387 ⟨(by show _ ≤ 30000; omega), (by show _ ≤ 180000; omega)⟩ (fun a9 H locs hWb hS => ?_)
  obtain ⟨u0, hu0, eu0⟩ : ∃ u : List Nat, u.length ≤ 0 ∧ u = [] := ⟨[], by decide, rfl⟩
  rw [← eu0] at hWb
  refine g_ldcL F hk hC ls_L_443 (by unfold lS; decide) dL_undone_390 ?_
  have hz0 : (u0 ++ lTx 443).length ≤ 5 := by rw [List.length_append, show (lTx 443).length = 5 from by decide]; omega
  refine tj_appK F hk hC hml hS hWb (by unfold lS; decide) (Nat.le_trans hz0 (by decide)) ml_L_385 ⟨rfl, rfl, (Nat.le_of_ble_eq_true rfl), (Nat.le_of_ble_eq_true rfl)⟩ hl.1 (Nat.le_of_ble_eq_true rfl) dL_undone_393 ⟨(by show _ ≤ 30000; omega), (by show _ ≤ 180000; omega)⟩ (fun H locs hWb hS => ?_)
  generalize u0 ++ lTx 443 = u1 at hz0 hWb
  clear hu0
  have hu1 := hz0
  clear hz0
  refine lv_iload hx hb dL_undone_396 (lv_at hl 5 rfl) ?_
  refine lv_iconst (v := 5) hx hb dL_undone_398 (by decide) ?_
  refine lv_irem hx hb dL_undone_399 (by decide) ?_
  rw [rm8 (q := 5) 5 he6 (by decide) (by decide) rfl]
  obtain ⟨k1, hk1, ek1⟩ : ∃ k, k < 5 ∧ e6 % 5 = k := ⟨_, Nat.mod_lt _ (by decide), rfl⟩
  rw [ek1]
  clear ek1
  have hz1 : (u1 ++ dsN k1).length ≤ 6 := by rw [List.length_append]; have := dsN_len1 k1 (by omega); omega
  refine tj_num (N := N) F hk hC hml hS hWb (dcN_ok (by omega) _ _ (dcN_nI (v := k1) (by omega))) (Nat.le_trans hz1 (by decide)) ml_L_391 ⟨rfl, rfl, (Nat.le_of_ble_eq_true rfl), (Nat.le_of_ble_eq_true rfl)⟩ hl.1 (Nat.le_of_ble_eq_true rfl) dL_undone_400 ⟨(by show _ ≤ 30000; omega), (by show _ ≤ 180000; omega)⟩ (fun H locs hWb hS => ?_)
  generalize u1 ++ dsN k1 = u2 at hz1 hWb
  clear hu1
  have hu2 := hz1
  clear hz1
  refine g_ldcL F hk hC ls_L_445 (by unfold lS; decide) dL_undone_403 ?_
  have hz2 : (u2 ++ lTx 445).length ≤ 11 := by rw [List.length_append, show (lTx 445).length = 5 from by decide]; omega
  refine tj_appK F hk hC hml hS hWb (by unfold lS; decide) (Nat.le_trans hz2 (by decide)) ml_L_385 ⟨rfl, rfl, (Nat.le_of_ble_eq_true rfl), (Nat.le_of_ble_eq_true rfl)⟩ hl.1 (Nat.le_of_ble_eq_true rfl) dL_undone_406 ⟨(by show _ ≤ 30000; omega), (by show _ ≤ 180000; omega)⟩ (fun H locs hWb hS => ?_)
  generalize u2 ++ lTx 445 = u3 at hz2 hWb
  clear hu2
  have hu3 := hz2
  clear hz2
  refine lv_iload hx hb dL_undone_409 (lv_at hl 5 rfl) ?_
  refine lv_iconst (v := 3) hx hb dL_undone_411 (by decide) ?_
  refine lv_iushr hx hb dL_undone_412 rfl ?_
  refine lv_bipush (v := 41) hx hb dL_undone_413 (by decide) ?_
  refine lv_irem hx hb dL_undone_415 (by decide) ?_
  rw [sh8 (k := 3) (q := 3) he6 (by decide) rfl, rm8 (q := 41) 41 (shr 3 he6) (by decide) (by decide) rfl]
  obtain ⟨k3, hk3, ek3⟩ : ∃ k, k < 41 ∧ e6 / 2 ^ 3 % 41 = k := ⟨_, Nat.mod_lt _ (by decide), rfl⟩
  rw [ek3]
  clear ek3
  have hz3 : (u3 ++ dsN k3).length ≤ 14 := by rw [List.length_append]; have := dsN_len k3 (by omega); omega
  refine tj_num (N := N) F hk hC hml hS hWb (dcN_ok (by omega) _ _ (dcN_nI (v := k3) (by omega))) (Nat.le_trans hz3 (by decide)) ml_L_391 ⟨rfl, rfl, (Nat.le_of_ble_eq_true rfl), (Nat.le_of_ble_eq_true rfl)⟩ hl.1 (Nat.le_of_ble_eq_true rfl) dL_undone_416 ⟨(by show _ ≤ 30000; omega), (by show _ ≤ 180000; omega)⟩ (fun H locs hWb hS => ?_)
  generalize u3 ++ dsN k3 = u4 at hz3 hWb
  clear hu3
  have hu4 := hz3
  clear hz3
  refine g_ldcL F hk hC ls_L_447 (by unfold lS; decide) dL_undone_419 ?_
  have hz4 : (u4 ++ lTx 447).length ≤ 19 := by rw [List.length_append, show (lTx 447).length = 5 from by decide]; omega
  refine tj_appK F hk hC hml hS hWb (by unfold lS; decide) (Nat.le_trans hz4 (by decide)) ml_L_385 ⟨rfl, rfl, (Nat.le_of_ble_eq_true rfl), (Nat.le_of_ble_eq_true rfl)⟩ hl.1 (Nat.le_of_ble_eq_true rfl) dL_undone_422 ⟨(by show _ ≤ 30000; omega), (by show _ ≤ 180000; omega)⟩ (fun H locs hWb hS => ?_)
  generalize u4 ++ lTx 447 = u5 at hz4 hWb
  clear hu4
  have hu5 := hz4
  clear hz4
  refine lv_iload hx hb dL_undone_425 (lv_at hl 5 rfl) ?_
  refine lv_bipush (v := 9) hx hb dL_undone_427 (by decide) ?_
  refine lv_iushr hx hb dL_undone_429 rfl ?_
  refine lv_bipush (v := 9) hx hb dL_undone_430 (by decide) ?_
  refine lv_irem hx hb dL_undone_432 (by decide) ?_
  rw [sh8 (k := 9) (q := 9) he6 (by decide) rfl, rm8 (q := 9) 9 (shr 9 he6) (by decide) (by decide) rfl]
  obtain ⟨k5, hk5, ek5⟩ : ∃ k, k < 9 ∧ e6 / 2 ^ 9 % 9 = k := ⟨_, Nat.mod_lt _ (by decide), rfl⟩
  rw [ek5]
  clear ek5
  have hz5 : (u5 ++ dsN k5).length ≤ 20 := by rw [List.length_append]; have := dsN_len1 k5 (by omega); omega
  refine tj_num (N := N) F hk hC hml hS hWb (dcN_ok (by omega) _ _ (dcN_nI (v := k5) (by omega))) (Nat.le_trans hz5 (by decide)) ml_L_391 ⟨rfl, rfl, (Nat.le_of_ble_eq_true rfl), (Nat.le_of_ble_eq_true rfl)⟩ hl.1 (Nat.le_of_ble_eq_true rfl) dL_undone_433 ⟨(by show _ ≤ 30000; omega), (by show _ ≤ 180000; omega)⟩ (fun H locs hWb hS => ?_)
  generalize u5 ++ dsN k5 = u6 at hz5 hWb
  clear hu5
  have hu6 := hz5
  clear hz5
  refine g_ldcL F hk hC ls_L_449 (by unfold lS; decide) dL_undone_436 ?_
  have hz6 : (u6 ++ lTx 449).length ≤ 26 := by rw [List.length_append, show (lTx 449).length = 6 from by decide]; omega
  refine tj_appK F hk hC hml hS hWb (by unfold lS; decide) (Nat.le_trans hz6 (by decide)) ml_L_385 ⟨rfl, rfl, (Nat.le_of_ble_eq_true rfl), (Nat.le_of_ble_eq_true rfl)⟩ hl.1 (Nat.le_of_ble_eq_true rfl) dL_undone_439 ⟨(by show _ ≤ 30000; omega), (by show _ ≤ 180000; omega)⟩ (fun H locs hWb hS => ?_)
  generalize u6 ++ lTx 449 = u7 at hz6 hWb
  clear hu6
  have hu7 := hz6
  clear hz6
  refine lv_iload hx hb dL_undone_442 (lv_at hl 5 rfl) ?_
  refine lv_bipush (v := 13) hx hb dL_undone_444 (by decide) ?_
  refine lv_iushr hx hb dL_undone_446 rfl ?_
  refine lv_iconst (v := 5) hx hb dL_undone_447 (by decide) ?_
  refine lv_irem hx hb dL_undone_448 (by decide) ?_
  rw [sh8 (k := 13) (q := 13) he6 (by decide) rfl, rm8 (q := 5) 5 (shr 13 he6) (by decide) (by decide) rfl]
  obtain ⟨k7, hk7, ek7⟩ : ∃ k, k < 5 ∧ e6 / 2 ^ 13 % 5 = k := ⟨_, Nat.mod_lt _ (by decide), rfl⟩
  rw [ek7]
  clear ek7
  have hz7 : (u7 ++ dsN k7).length ≤ 27 := by rw [List.length_append]; have := dsN_len1 k7 (by omega); omega
  refine tj_num (N := N) F hk hC hml hS hWb (dcN_ok (by omega) _ _ (dcN_nI (v := k7) (by omega))) (Nat.le_trans hz7 (by decide)) ml_L_391 ⟨rfl, rfl, (Nat.le_of_ble_eq_true rfl), (Nat.le_of_ble_eq_true rfl)⟩ hl.1 (Nat.le_of_ble_eq_true rfl) dL_undone_449 ⟨(by show _ ≤ 30000; omega), (by show _ ≤ 180000; omega)⟩ (fun H locs hWb hS => ?_)
  generalize u7 ++ dsN k7 = u8 at hz7 hWb
  clear hu7
  have hu8 := hz7
  clear hz7
  refine g_ldcL F hk hC ls_L_406 (by unfold lS; decide) dL_undone_452 ?_
  have hz8 : (u8 ++ lTx 406).length ≤ 28 := by rw [List.length_append, show (lTx 406).length = 1 from by decide]; omega
  refine tj_appK F hk hC hml hS hWb (by unfold lS; decide) (Nat.le_trans hz8 (by decide)) ml_L_385 ⟨rfl, rfl, (Nat.le_of_ble_eq_true rfl), (Nat.le_of_ble_eq_true rfl)⟩ hl.1 (Nat.le_of_ble_eq_true rfl) dL_undone_455 ⟨(by show _ ≤ 30000; omega), (by show _ ≤ 180000; omega)⟩ (fun H locs hWb hS => ?_)
  generalize u8 ++ lTx 406 = u9 at hz8 hWb
  clear hu8
  have hu9 := hz8
  clear hz8
  refine lv_iload hx hb dL_undone_458 (lv_at hl 5 rfl) ?_
  refine lv_bipush (v := 16) hx hb dL_undone_460 (by decide) ?_
  refine lv_iushr hx hb dL_undone_462 rfl ?_
  refine lv_bipush (v := 6) hx hb dL_undone_463 (by decide) ?_
  refine lv_irem hx hb dL_undone_465 (by decide) ?_
  rw [sh8 (k := 16) (q := 16) he6 (by decide) rfl, rm8 (q := 6) 6 (shr 16 he6) (by decide) (by decide) rfl]
  obtain ⟨k9, hk9, ek9⟩ : ∃ k, k < 6 ∧ e6 / 2 ^ 16 % 6 = k := ⟨_, Nat.mod_lt _ (by decide), rfl⟩
  rw [ek9]
  clear ek9
  have hz9 : (u9 ++ dsN k9).length ≤ 29 := by rw [List.length_append]; have := dsN_len1 k9 (by omega); omega
  refine tj_num (N := N) F hk hC hml hS hWb (dcN_ok (by omega) _ _ (dcN_nI (v := k9) (by omega))) (Nat.le_trans hz9 (by decide)) ml_L_391 ⟨rfl, rfl, (Nat.le_of_ble_eq_true rfl), (Nat.le_of_ble_eq_true rfl)⟩ hl.1 (Nat.le_of_ble_eq_true rfl) dL_undone_466 ⟨(by show _ ≤ 30000; omega), (by show _ ≤ 180000; omega)⟩ (fun H locs hWb hS => ?_)
  generalize u9 ++ dsN k9 = u10 at hz9 hWb
  clear hu9
  have hu10 := hz9
  clear hz9
  refine tj_str F hk hC hml hS hWb ml_L_394 ⟨rfl, rfl, (Nat.le_of_ble_eq_true rfl), (Nat.le_of_ble_eq_true rfl)⟩ hl.1 (Nat.le_of_ble_eq_true rfl) dL_undone_469 ⟨(by show _ ≤ 30000; omega), (by show _ ≤ 180000; omega)⟩ (fun a8 H locs hWt hS => ?_)
  refine tj_exec (As := [.ref (B + 0), .ref a8]) F hX hk hC hml hS hW.2.1 hWt (fun X1 hX1 => metL_execute F hX1 hN (K := 40) (by omega)) ml_L_451 ⟨rfl, rfl, (Nat.le_of_ble_eq_true rfl), (Nat.le_of_ble_eq_true rfl)⟩ rfl hl.1 rfl (Nat.le_of_ble_eq_true rfl) dL_undone_472 ⟨(by show _ ≤ 30000; omega), (by show _ ≤ 180000; omega)⟩ (fun x Z2 hs2 H locs hR hW hS => ?_)
  replace hR := hR.hist.2
  refine lv_istore (lv' := [(7, .int x), (0, .ref b), (1, .ref (B + 0)), (2, .ref q), (3, .int (nI dn)), (4, .int (nI i)), (6, .int (nI e6))]) hx hb dL_undone_475 hl (by decide) rfl (fun ls hl => ?_)
  refine W.widen (k := κ + 600) (n := 6 * (κ + 600)) (by omega) (by omega) ?_
  exact hj x _ _ _ _ _ hR hW hS (lv_sub hl [0, 1, 2, 3, 4, 5] rfl)
set_option maxHeartbeats 2000000 in
set_option maxRecDepth 100000 in
theorem u_43 (F : FX l s0 b D T B) (hX : ∀ o, o < 561 → ¬ X (B + o)) (hN : 1200000000000 ≤ N) (hx : p.tables.exec = Jvm.exec) (hb : c.code = cL_undone) (hml : c.maxLocals = 8) (hk : KC s0 X s) (hC : gC p c cL_undone s m args RL D vwCl (tysG T)) (hκ : κ + 600 ≤ 30000) (hj : ∀ (x : Int32) (Z2 : Nat → Int32) (hs2 : List (Nat → Int32)) (H : Heap) (locs : List Loc) (ls : Array Slot), UR Z hs x Z2 hs2 → gZJ s0 D T B X Z2 hs2 t q f H → va_S (gA B X) s.heap H locs → lv_has ls 8 [(7, .int x), (0, .ref b), (1, .ref (B + 0)), (2, .ref q), (3, .int (nI dn)), (4, .int (nI i))] → W p l e rmL_undone s m args below meth c H locs (κ + 600) (6 * (κ + 600)) Q (F0 m 477 ls [])) (hW : gZJ s0 D T B X Z hs t q f H) (hS : va_S (gA B X) s.heap H locs) {c5 e6 : Nat} (hc5 : c5 < 2 ^ 31) (he6 : e6 < 2 ^ 31) (hl : lv_has ls 8 [(0, .ref b), (1, .ref (B + 0)), (2, .ref q), (3, .int (nI dn)), (4, .int (nI i)), (6, .int (nI e6)), (5, .int (nI c5))]) : W p l e rmL_undone s m args below meth c H locs κ (6 * κ) Q (F0 m 43 ls []) := by
  refine lv_iload hx hb dL_undone_43 (lv_at hl 6 rfl) ?_
  refine lv_bipush (v := 13) hx hb dL_undone_45 (by decide) ?_
  refine lv_irem hx hb dL_undone_47 (by decide) ?_
  rw [rm8 (q := 13) 13 hc5 (by decide) (by decide) rfl]
  obtain ⟨k, hk9, ek⟩ : ∃ k, k < 13 ∧ c5 % 13 = k := ⟨_, Nat.mod_lt _ (by decide), rfl⟩
  rw [ek]
  clear ek
  replace hl := lv_sub hl [0, 1, 2, 3, 4, 5] rfl
  rcases (show k = 0 ∨ k = 1 ∨ k = 2 ∨ k = 3 ∨ k = 4 ∨ k = 5 ∨ k = 6 ∨ k = 7 ∨ k = 8 ∨ k = 9 ∨ k = 10 ∨ k = 11 ∨ k = 12 by omega) with rfl | rfl | rfl | rfl | rfl | rfl | rfl | rfl | rfl | rfl | rfl | rfl | rfl
  · exact lv_tableIn (tgt := 108) (off := 60) hx hb dL_undone_48 (by decide +kernel) (by decide +kernel) (by decide +kernel) (by decide) (u_108 F hX hN hx hb hml hk hC hκ hj hW hS hl)
  · exact lv_tableIn (tgt := 152) (off := 104) hx hb dL_undone_48 (by decide +kernel) (by decide +kernel) (by decide +kernel) (by decide) (u_152 F hX hN hx hb hml hk hC hκ hj hW hS hl)
  · exact lv_tableIn (tgt := 203) (off := 155) hx hb dL_undone_48 (by decide +kernel) (by decide +kernel) (by decide +kernel) (by decide) (u_203 F hX hN hx hb hml hk hC hκ hj hW hS hl)
  · exact lv_tableIn (tgt := 240) (off := 192) hx hb dL_undone_48 (by decide +kernel) (by decide +kernel) (by decide +kernel) (by decide) (u_240 F hX hN hx hb hml hk hC hκ hj hW hS hl)
  · exact lv_tableIn (tgt := 261) (off := 213) hx hb dL_undone_48 (by decide +kernel) (by decide +kernel) (by decide +kernel) (by decide) (u_261 F hX hN hx hb hml hk hC hκ hj hW hS hl)
  · exact lv_tableIn (tgt := 261) (off := 213) hx hb dL_undone_48 (by decide +kernel) (by decide +kernel) (by decide +kernel) (by decide) (u_261 F hX hN hx hb hml hk hC hκ hj hW hS hl)
  · exact lv_tableIn (tgt := 296) (off := 248) hx hb dL_undone_48 (by decide +kernel) (by decide +kernel) (by decide +kernel) (by decide) (u_296 F hX hN hx hb hml hk hC hκ hj hW hS hl)
  · exact lv_tableIn (tgt := 296) (off := 248) hx hb dL_undone_48 (by decide +kernel) (by decide +kernel) (by decide +kernel) (by decide) (u_296 F hX hN hx hb hml hk hC hκ hj hW hS hl)
  · exact lv_tableIn (tgt := 317) (off := 269) hx hb dL_undone_48 (by decide +kernel) (by decide +kernel) (by decide +kernel) (by decide) (u_317 F hX hN hx hb hml hk hC hκ hj hW hS hl)
  · exact lv_tableIn (tgt := 354) (off := 306) hx hb dL_undone_48 (by decide +kernel) (by decide +kernel) (by decide +kernel) (by decide) (u_354 F hX hN hx hb hml hk hC hκ hj hW hS hl)
  · exact lv_tableIn (tgt := 368) (off := 320) hx hb dL_undone_48 (by decide +kernel) (by decide +kernel) (by decide +kernel) (by decide) (u_368 F hX hN hx hb hml hk hC hκ hj hW hS hl)
  · exact lv_tableOut (tgt := 382) hx hb dL_undone_48 (Or.inr (by decide +kernel)) (by decide) (u_382 F hX hN hx hb hml hk hC hκ hj hW hS he6 hl)
  · exact lv_tableOut (tgt := 382) hx hb dL_undone_48 (Or.inr (by decide +kernel)) (by decide) (u_382 F hX hN hx hb hml hk hC hκ hj hW hS he6 hl)
end UD
