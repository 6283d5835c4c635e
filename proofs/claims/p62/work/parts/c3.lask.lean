/-! Printed by program: the law's own methods that only ask. -/
/-- how many of the six rooms a set leaves out; what a search that still has so many rooms asks for -/
def rem6 (g : Int32) : Nat := sm 6 (fun j => if g >>> nI j &&& 1 = 0 then 1 else 0)
def ckF (c : Nat) : Nat → Nat
  | 0 => c
  | k + 1 => c + (k + 1) * ckF c k
def ckW (c : Nat) (from_ gone : Int32) : Nat := ckF c (rem6 (gone ||| (1 <<< (from_ &&& 31))))
theorem dL_passedBy_0 : decode cL_passedBy 0 = .ok (.iload_n 0, 1) := by decide +kernel
theorem dL_passedBy_1 : decode cL_passedBy 1 = .ok (.iload_n 1, 1) := by decide +kernel
theorem dL_passedBy_2 : decode cL_passedBy 2 = .ok (.if_icmp .le 9, 3) := by decide +kernel
theorem dL_passedBy_5 : decode cL_passedBy 5 = .ok (.iload_n 0, 1) := by decide +kernel
theorem dL_passedBy_6 : decode cL_passedBy 6 = .ok (.iload_n 1, 1) := by decide +kernel
theorem dL_passedBy_7 : decode cL_passedBy 7 = .ok (.isub, 1) := by decide +kernel
theorem dL_passedBy_8 : decode cL_passedBy 8 = .ok (.goto 4, 3) := by decide +kernel
theorem dL_passedBy_11 : decode cL_passedBy 11 = .ok (.iconst 0, 1) := by decide +kernel
theorem dL_passedBy_12 : decode cL_passedBy 12 = .ok (.ireturn, 1) := by decide +kernel
noncomputable def fL_passedBy (N : Nat) (Z : Nat → Int32) (K : Nat) (a0 : Int32) (a1 : Int32) : Option Int32 :=
  jn (fun (y1 : Int32) (κ2 : Nat) =>
  gd (κ2 ≤ K) <|
  some y1) fun j3 =>
  if a0 ≤ a1 then
  (j3 0 0)
  else (j3 (a0 - a1) 0)
abbrev rmL_passedBy (K : Nat) : Room := { frames := 2, cells := K, slots := 6 * K, locals := 60 }
set_option maxHeartbeats 4000000 in
set_option maxRecDepth 100000 in
theorem metL_passedBy {l : Launch} {s0 : State} {b B : Nat} {D : va_G} {T : Nat → ClassId} (F : FX l s0 b D T B) {X : Nat → Prop} (hX : ∀ o, o < 561 → ¬ X (B + o)) {N : Nat} (hN : 1200000000000 ≤ N) {Z : Nat → Int32} {hs : List (Nat → Int32)} {t : List Nat} {K : Nat} {a0 : Int32} {a1 : Int32} {r : Int32} (h : fL_passedBy N Z K a0 a1 = some r) : gMet l yL_passedBy cL_passedBy 2 (some .int) (rmL_passedBy K) [.int a0, .int a1] (gZ s0 D T B X Z hs t) (KC s0 X) (some (.int r)) (gZ s0 D T B X Z hs t) (gA B X) K (6 * K) := by
  refine gI_of RL (by decide +kernel) rfl (Nat.le_of_ble_eq_true rfl) ?_
  intro p e s m args below meth c ls Q hx hb hlocks hml hown hts hW hk hl hS hend
  have hC := FX_C F hk hx hb hown hts
  have hl : lv_has ls 2 [(0, .int a0), (1, .int a1)] := hl
  unfold fL_passedBy at h
  refine lv_iload_n hx hb dL_passedBy_0 rfl (lv_at hl 0 rfl) ?_
  refine lv_iload_n hx hb dL_passedBy_1 rfl (lv_at hl 1 rfl) ?_
  obtain ⟨j3, hj5, h⟩ := jn2_o h
  have J4 : ∀ (y1 : Int32) (κ2 : Nat), j3 y1 κ2 = some r → ∀ (H : Heap) (locs : List Loc) (ls : Array Slot), gZ s0 D T B X Z hs t H → va_S (gA B X) s.heap H locs → lv_has ls 2 [] → W p l e (rmL_passedBy K) s m args below meth c H locs κ2 (6 * κ2) Q (F0 m 12 ls [.int y1]) := by
    clear h hW hS hl
    intro y1 κ2 h H locs ls hW hS hl
    replace h := (hj5 y1 κ2).symm.trans h
    obtain ⟨g6, h⟩ := gd_out h
    cases h
    exact hend dL_passedBy_12 hW hS (by omega) (by omega)
  refine lv_icmp_le (tgt := 11) hx hb dL_passedBy_2 (by decide) (fun c7 => ?_) (fun c7 => ?_)
  · replace h := ite_t c7 h
    refine lv_iconst (v := 0) hx hb dL_passedBy_11 (by decide) ?_
    refine W.widen (k := 0) (n := 6 * 0) (by omega) (by omega) ?_
    exact J4 _ _ h _ _ _ hW hS (lv_sub hl [] rfl)
  · replace h := ite_f c7 h
    refine lv_iload_n hx hb dL_passedBy_5 rfl (lv_at hl 0 rfl) ?_
    refine lv_iload_n hx hb dL_passedBy_6 rfl (lv_at hl 1 rfl) ?_
    refine lv_isub hx hb dL_passedBy_7 ?_
    refine lv_goto (tgt := 12) hx hb dL_passedBy_8 (by decide) ?_
    refine W.widen (k := 0) (n := 6 * 0) (by omega) (by omega) ?_
    exact J4 _ _ h _ _ _ hW hS (lv_sub hl [] rfl)

theorem dL_bestWay_0 : decode cL_bestWay 0 = .ok (.iload_n 1, 1) := by decide +kernel
theorem dL_bestWay_1 : decode cL_bestWay 1 = .ok (.iload_n 2, 1) := by decide +kernel
theorem dL_bestWay_2 : decode cL_bestWay 2 = .ok (.if_icmp .ne 7, 3) := by decide +kernel
theorem dL_bestWay_5 : decode cL_bestWay 5 = .ok (.lconst 0, 1) := by decide +kernel
theorem dL_bestWay_6 : decode cL_bestWay 6 = .ok (.goto 6, 3) := by decide +kernel
theorem dL_bestWay_9 : decode cL_bestWay 9 = .ok (.ldc2_w 248, 3) := by decide +kernel
theorem dL_bestWay_12 : decode cL_bestWay 12 = .ok (.lstore 4, 2) := by decide +kernel
theorem dL_bestWay_14 : decode cL_bestWay 14 = .ok (.iconst 0, 1) := by decide +kernel
theorem dL_bestWay_15 : decode cL_bestWay 15 = .ok (.istore 6, 2) := by decide +kernel
theorem dL_bestWay_17 : decode cL_bestWay 17 = .ok (.iload 6, 2) := by decide +kernel
theorem dL_bestWay_19 : decode cL_bestWay 19 = .ok (.aload_n 0, 1) := by decide +kernel
theorem dL_bestWay_20 : decode cL_bestWay 20 = .ok (.invokevirtual 250, 3) := by decide +kernel
theorem dL_bestWay_23 : decode cL_bestWay 23 = .ok (.if_icmp .ge 167, 3) := by decide +kernel
theorem dL_bestWay_26 : decode cL_bestWay 26 = .ok (.iload_n 1, 1) := by decide +kernel
theorem dL_bestWay_27 : decode cL_bestWay 27 = .ok (.iload_n 2, 1) := by decide +kernel
theorem dL_bestWay_28 : decode cL_bestWay 28 = .ok (.if_icmp .eq 162, 3) := by decide +kernel
theorem dL_bestWay_31 : decode cL_bestWay 31 = .ok (.aload_n 0, 1) := by decide +kernel
theorem dL_bestWay_32 : decode cL_bestWay 32 = .ok (.iload_n 1, 1) := by decide +kernel
theorem dL_bestWay_33 : decode cL_bestWay 33 = .ok (.iload 6, 2) := by decide +kernel
theorem dL_bestWay_35 : decode cL_bestWay 35 = .ok (.invokestatic 253, 3) := by decide +kernel
theorem dL_bestWay_38 : decode cL_bestWay 38 = .ok (.istore 7, 2) := by decide +kernel
theorem dL_bestWay_40 : decode cL_bestWay 40 = .ok (.iload 7, 2) := by decide +kernel
theorem dL_bestWay_42 : decode cL_bestWay 42 = .ok (.ifCond .le 142, 3) := by decide +kernel
theorem dL_bestWay_45 : decode cL_bestWay 45 = .ok (.iload_n 3, 1) := by decide +kernel
theorem dL_bestWay_46 : decode cL_bestWay 46 = .ok (.iload 6, 2) := by decide +kernel
theorem dL_bestWay_48 : decode cL_bestWay 48 = .ok (.ishr, 1) := by decide +kernel
theorem dL_bestWay_49 : decode cL_bestWay 49 = .ok (.iconst 1, 1) := by decide +kernel
theorem dL_bestWay_50 : decode cL_bestWay 50 = .ok (.iand, 1) := by decide +kernel
theorem dL_bestWay_51 : decode cL_bestWay 51 = .ok (.ifCond .ne 133, 3) := by decide +kernel
theorem dL_bestWay_54 : decode cL_bestWay 54 = .ok (.aload_n 0, 1) := by decide +kernel
theorem dL_bestWay_55 : decode cL_bestWay 55 = .ok (.iload 6, 2) := by decide +kernel
theorem dL_bestWay_57 : decode cL_bestWay 57 = .ok (.iload_n 2, 1) := by decide +kernel
theorem dL_bestWay_58 : decode cL_bestWay 58 = .ok (.iload_n 3, 1) := by decide +kernel
theorem dL_bestWay_59 : decode cL_bestWay 59 = .ok (.iconst 1, 1) := by decide +kernel
theorem dL_bestWay_60 : decode cL_bestWay 60 = .ok (.iload_n 1, 1) := by decide +kernel
theorem dL_bestWay_61 : decode cL_bestWay 61 = .ok (.ishl, 1) := by decide +kernel
theorem dL_bestWay_62 : decode cL_bestWay 62 = .ok (.ior, 1) := by decide +kernel
theorem dL_bestWay_63 : decode cL_bestWay 63 = .ok (.invokestatic 255, 3) := by decide +kernel
theorem dL_bestWay_66 : decode cL_bestWay 66 = .ok (.lstore 8, 2) := by decide +kernel
theorem dL_bestWay_68 : decode cL_bestWay 68 = .ok (.lload 8, 2) := by decide +kernel
theorem dL_bestWay_70 : decode cL_bestWay 70 = .ok (.lconst 0, 1) := by decide +kernel
theorem dL_bestWay_71 : decode cL_bestWay 71 = .ok (.lcmp, 1) := by decide +kernel
theorem dL_bestWay_72 : decode cL_bestWay 72 = .ok (.ifCond .ge 9, 3) := by decide +kernel
theorem dL_bestWay_75 : decode cL_bestWay 75 = .ok (.ldc2_w 248, 3) := by decide +kernel
theorem dL_bestWay_78 : decode cL_bestWay 78 = .ok (.goto 17, 3) := by decide +kernel
theorem dL_bestWay_81 : decode cL_bestWay 81 = .ok (.lload 8, 2) := by decide +kernel
theorem dL_bestWay_83 : decode cL_bestWay 83 = .ok (.ldc2_w 259, 3) := by decide +kernel
theorem dL_bestWay_86 : decode cL_bestWay 86 = .ok (.iload 7, 2) := by decide +kernel
theorem dL_bestWay_88 : decode cL_bestWay 88 = .ok (.i2l, 1) := by decide +kernel
theorem dL_bestWay_89 : decode cL_bestWay 89 = .ok (.lmul, 1) := by decide +kernel
theorem dL_bestWay_90 : decode cL_bestWay 90 = .ok (.ladd, 1) := by decide +kernel
theorem dL_bestWay_91 : decode cL_bestWay 91 = .ok (.ldc2_w 261, 3) := by decide +kernel
theorem dL_bestWay_94 : decode cL_bestWay 94 = .ok (.ladd, 1) := by decide +kernel
theorem dL_bestWay_95 : decode cL_bestWay 95 = .ok (.lstore 10, 2) := by decide +kernel
theorem dL_bestWay_97 : decode cL_bestWay 97 = .ok (.lload 8, 2) := by decide +kernel
theorem dL_bestWay_99 : decode cL_bestWay 99 = .ok (.lconst 0, 1) := by decide +kernel
theorem dL_bestWay_100 : decode cL_bestWay 100 = .ok (.lcmp, 1) := by decide +kernel
theorem dL_bestWay_101 : decode cL_bestWay 101 = .ok (.ifCond .ge 7, 3) := by decide +kernel
theorem dL_bestWay_104 : decode cL_bestWay 104 = .ok (.lconst 0, 1) := by decide +kernel
theorem dL_bestWay_105 : decode cL_bestWay 105 = .ok (.goto 9, 3) := by decide +kernel
theorem dL_bestWay_108 : decode cL_bestWay 108 = .ok (.lload 10, 2) := by decide +kernel
theorem dL_bestWay_110 : decode cL_bestWay 110 = .ok (.ldc2_w 261, 3) := by decide +kernel
theorem dL_bestWay_113 : decode cL_bestWay 113 = .ok (.lrem, 1) := by decide +kernel
theorem dL_bestWay_114 : decode cL_bestWay 114 = .ok (.lstore 12, 2) := by decide +kernel
theorem dL_bestWay_116 : decode cL_bestWay 116 = .ok (.lload 8, 2) := by decide +kernel
theorem dL_bestWay_118 : decode cL_bestWay 118 = .ok (.lconst 0, 1) := by decide +kernel
theorem dL_bestWay_119 : decode cL_bestWay 119 = .ok (.lcmp, 1) := by decide +kernel
theorem dL_bestWay_120 : decode cL_bestWay 120 = .ok (.ifCond .ge 9, 3) := by decide +kernel
theorem dL_bestWay_123 : decode cL_bestWay 123 = .ok (.ldc2_w 248, 3) := by decide +kernel
theorem dL_bestWay_126 : decode cL_bestWay 126 = .ok (.goto 25, 3) := by decide +kernel
theorem dL_bestWay_129 : decode cL_bestWay 129 = .ok (.lload 10, 2) := by decide +kernel
theorem dL_bestWay_131 : decode cL_bestWay 131 = .ok (.lload 12, 2) := by decide +kernel
theorem dL_bestWay_133 : decode cL_bestWay 133 = .ok (.lsub, 1) := by decide +kernel
theorem dL_bestWay_134 : decode cL_bestWay 134 = .ok (.lload 12, 2) := by decide +kernel
theorem dL_bestWay_136 : decode cL_bestWay 136 = .ok (.ldc2_w 263, 3) := by decide +kernel
theorem dL_bestWay_139 : decode cL_bestWay 139 = .ok (.ldiv, 1) := by decide +kernel
theorem dL_bestWay_140 : decode cL_bestWay 140 = .ok (.ladd, 1) := by decide +kernel
theorem dL_bestWay_141 : decode cL_bestWay 141 = .ok (.iload 6, 2) := by decide +kernel
theorem dL_bestWay_143 : decode cL_bestWay 143 = .ok (.i2l, 1) := by decide +kernel
theorem dL_bestWay_144 : decode cL_bestWay 144 = .ok (.lconst 1, 1) := by decide +kernel
theorem dL_bestWay_145 : decode cL_bestWay 145 = .ok (.ladd, 1) := by decide +kernel
theorem dL_bestWay_146 : decode cL_bestWay 146 = .ok (.ldc2_w 265, 3) := by decide +kernel
theorem dL_bestWay_149 : decode cL_bestWay 149 = .ok (.lmul, 1) := by decide +kernel
theorem dL_bestWay_150 : decode cL_bestWay 150 = .ok (.ladd, 1) := by decide +kernel
theorem dL_bestWay_151 : decode cL_bestWay 151 = .ok (.lstore 10, 2) := by decide +kernel
theorem dL_bestWay_153 : decode cL_bestWay 153 = .ok (.lload 10, 2) := by decide +kernel
theorem dL_bestWay_155 : decode cL_bestWay 155 = .ok (.lconst 0, 1) := by decide +kernel
theorem dL_bestWay_156 : decode cL_bestWay 156 = .ok (.lcmp, 1) := by decide +kernel
theorem dL_bestWay_157 : decode cL_bestWay 157 = .ok (.ifCond .lt 23, 3) := by decide +kernel
theorem dL_bestWay_160 : decode cL_bestWay 160 = .ok (.lload 4, 2) := by decide +kernel
theorem dL_bestWay_162 : decode cL_bestWay 162 = .ok (.lconst 0, 1) := by decide +kernel
theorem dL_bestWay_163 : decode cL_bestWay 163 = .ok (.lcmp, 1) := by decide +kernel
theorem dL_bestWay_164 : decode cL_bestWay 164 = .ok (.ifCond .lt 11, 3) := by decide +kernel
theorem dL_bestWay_167 : decode cL_bestWay 167 = .ok (.lload 10, 2) := by decide +kernel
theorem dL_bestWay_169 : decode cL_bestWay 169 = .ok (.lload 4, 2) := by decide +kernel
theorem dL_bestWay_171 : decode cL_bestWay 171 = .ok (.lcmp, 1) := by decide +kernel
theorem dL_bestWay_172 : decode cL_bestWay 172 = .ok (.ifCond .ge 8, 3) := by decide +kernel
theorem dL_bestWay_175 : decode cL_bestWay 175 = .ok (.lload 10, 2) := by decide +kernel
theorem dL_bestWay_177 : decode cL_bestWay 177 = .ok (.goto 5, 3) := by decide +kernel
theorem dL_bestWay_180 : decode cL_bestWay 180 = .ok (.lload 4, 2) := by decide +kernel
theorem dL_bestWay_182 : decode cL_bestWay 182 = .ok (.lstore 4, 2) := by decide +kernel
theorem dL_bestWay_184 : decode cL_bestWay 184 = .ok (.iinc 6 1, 3) := by decide +kernel
theorem dL_bestWay_187 : decode cL_bestWay 187 = .ok (.goto (-170), 3) := by decide +kernel
theorem dL_bestWay_190 : decode cL_bestWay 190 = .ok (.lload 4, 2) := by decide +kernel
theorem dL_bestWay_192 : decode cL_bestWay 192 = .ok (.lreturn, 1) := by decide +kernel
noncomputable def fL_bestWay (N : Nat) : Nat → (Nat → Int32) → Int32 → Int32 → Int32 → Option Int64
  | 0, _, _, _, _ => none
  | n + 1, Z, a1, a2, a3 =>
  jn (fun (y1 : Int64) (κ2 : Nat) =>
  fix3 (fun self11 (x8 : Int64) (x9 : Int32) (κ10 : Nat) =>
  gd (κ10 ≤ (ckW 7 a1 a3)) <|
  jn (fun (κ14 : Nat) =>
  gd (κ14 ≤ (ckW 7 a1 a3)) <|
  some x8) fun j15 =>
  if (nI (nZ Z)) ≤ x9 then
  (j15 κ10)
  else (if a1 = a2 then
  (j15 κ10)
  else (gd ((κ10 + 1) ≤ (ckW 7 a1 a3)) <|
  lt (wL_legMinutes Z a1 x9) fun v22 =>
  jn (fun (y24 : Int64) (κ25 : Nat) =>
  lt (x9 + 1) fun v29 =>
  self11 y24 v29 κ25) fun j26 =>
  if v22 ≤ 0 then
  (j26 x8 (κ10 + 1))
  else (if ((a3 >>> (x9 &&& 31)) &&& 1) = 0 then
  (gd (((κ10 + 1) + (ckW 7 x9 (a3 ||| (1 <<< (a1 &&& 31))))) ≤ (ckW 7 a1 a3)) <|
  (fL_bestWay N n Z x9 a2 (a3 ||| (1 <<< (a1 &&& 31)))).bind fun r34 =>
  jn (fun (y37 : Int64) (κ38 : Nat) =>
  jn (fun (y44 : Int64) (κ45 : Nat) =>
  jn (fun (y51 : Int64) (κ52 : Nat) =>
  jn (fun (y58 : Int64) (κ59 : Nat) =>
  j26 y58 κ59) fun j60 =>
  jn (fun (κ65 : Nat) =>
  j60 x8 κ65) fun j66 =>
  if (lg_cmp y51 (0 : Int64)) < 0 then
  (j66 κ52)
  else (jn (fun (κ70 : Nat) =>
  j60 y51 κ70) fun j71 =>
  if (lg_cmp x8 (0 : Int64)) < 0 then
  (j71 κ52)
  else (if 0 ≤ (lg_cmp y51 x8) then
  (j66 κ52)
  else (j71 κ52)))) fun j53 =>
  if 0 ≤ (lg_cmp r34 (0 : Int64)) then
  (j53 (((y37 - y44) + (y44 / (7 : Int64))) + (((Int32.toInt64 x9) + (1 : Int64)) * (16807 : Int64))) κ45)
  else (j53 (-1 : Int64) κ45)) fun j46 =>
  if 0 ≤ (lg_cmp r34 (0 : Int64)) then
  (j46 (y37 - y37 / (1000000 : Int64) * (1000000 : Int64)) κ38)
  else (j46 (0 : Int64) κ38)) fun j39 =>
  if 0 ≤ (lg_cmp r34 (0 : Int64)) then
  (j39 ((r34 + ((10000000 : Int64) * (Int32.toInt64 v22))) + (1000000 : Int64)) ((κ10 + 1) + (ckW 7 x9 (a3 ||| (1 <<< (a1 &&& 31))))))
  else (j39 (-1 : Int64) ((κ10 + 1) + (ckW 7 x9 (a3 ||| (1 <<< (a1 &&& 31)))))))
  else (j26 x8 (κ10 + 1)))))) N y1 0 κ2) fun j3 =>
  if a1 = a2 then
  (j3 (0 : Int64) 0)
  else (j3 (-1 : Int64) 0)
abbrev rmL_bestWay (n K : Nat) : Room := { frames := n + 9, cells := K, slots := 6 * K, locals := 60 * n + 185 }
set_option maxHeartbeats 4000000 in
set_option maxRecDepth 100000 in
theorem metL_bestWay {l : Launch} {s0 : State} {b B : Nat} {D : va_G} {T : Nat → ClassId} (F : FX l s0 b D T B) {X : Nat → Prop} (hX : ∀ o, o < 561 → ¬ X (B + o)) {N : Nat} (hN : 1200000000000 ≤ N) {Z : Nat → Int32} {hs : List (Nat → Int32)} {t : List Nat} : ∀ (n : Nat) {a1 : Int32} {a2 : Int32} {a3 : Int32} {r : Int64} (h : fL_bestWay N n Z a1 a2 a3 = some r), gMet l yL_bestWay cL_bestWay 14 (some .long) (rmL_bestWay n (ckW 7 a1 a3)) [.ref (B + 0), .int a1, .int a2, .int a3] (gZ s0 D T B X Z hs t) (KC s0 X) (some (.long r)) (gZ s0 D T B X Z hs t) (gA B X) (ckW 7 a1 a3) (6 * (ckW 7 a1 a3)) := by
  intro n
  induction n with
  | zero =>
    intro a1 a2 a3 r h
    cases h
  | succ n ih =>
    intro a1 a2 a3 r h
    refine gJ_of RL (by decide +kernel) rfl (by first | exact Nat.le_of_ble_eq_true rfl | (simp only [rmL_bestWay, rmL_bestWay]; omega) | (simp only [rmL_bestWay]; omega)) ?_
    intro p e s m args below meth c ls Q hx hb hlocks hml hown hts hW hk hl hS hend
    have hC := FX_C F hk hx hb hown hts
    have hl : lv_has ls 14 [(0, .ref (B + 0)), (1, .int a1), (2, .int a2), (3, .int a3)] := hl
    unfold fL_bestWay at h
    refine lv_iload_n hx hb dL_bestWay_0 rfl (lv_at hl 1 rfl) ?_
    refine lv_iload_n hx hb dL_bestWay_1 rfl (lv_at hl 2 rfl) ?_
    obtain ⟨j3, hj5, h⟩ := jn2_o h
    have J4 : ∀ (y1 : Int64) (κ2 : Nat), j3 y1 κ2 = some r → ∀ (H : Heap) (locs : List Loc) (ls : Array Slot), gZ s0 D T B X Z hs t H → va_S (gA B X) s.heap H locs → lv_has ls 14 [(0, .ref (B + 0)), (1, .int a1), (2, .int a2), (3, .int a3)] → W p l e (rmL_bestWay (n + 1) (ckW 7 a1 a3)) s m args below meth c H locs κ2 (6 * κ2) Q (F0 m 12 ls [.long y1]) := by
      clear h hW hS hl
      intro y1 κ2 h H locs ls hW hS hl
      replace h := (hj5 y1 κ2).symm.trans h
      refine lv_lstore (lv' := [(4, .long y1), (0, .ref (B + 0)), (1, .int a1), (2, .int a2), (3, .int a3)]) hx hb dL_bestWay_12 hl (by decide) rfl (fun ls hl => ?_)
      refine lv_iconst (v := 0) hx hb dL_bestWay_14 (by decide) ?_
      refine lv_istore (lv' := [(6, .int 0), (4, .long y1), (0, .ref (B + 0)), (1, .int a1), (2, .int a2), (3, .int a3)]) hx hb dL_bestWay_15 hl (by decide) rfl (fun ls hl => ?_)
      refine W.widen (k := κ2) (n := 6 * κ2) (by omega) (by omega) ?_
      refine fix3_ind (fun (x8 : Int64) (x9 : Int32) (κ10 : Nat) => ∀ (H : Heap) (locs : List Loc) (ls : Array Slot), gZ s0 D T B X Z hs t H → va_S (gA B X) s.heap H locs → lv_has ls 14 [(0, .ref (B + 0)), (1, .int a1), (2, .int a2), (3, .int a3), (4, .long x8), (6, .int x9)] → W p l e (rmL_bestWay (n + 1) (ckW 7 a1 a3)) s m args below meth c H locs κ10 (6 * κ10) Q (F0 m 17 ls [])) ?_ N _ _ _ h _ _ _ hW hS (lv_sub hl [2, 3, 4, 5, 1, 0] rfl)
      clear h hW hS hl
      intro self11 IH12 x8 x9 κ10 h H locs ls hW hS hl
      refine lv_iload hx hb dL_bestWay_17 (lv_at hl 5 rfl) ?_
      refine lv_aload_n hx hb dL_bestWay_19 rfl (lv_at hl 0 rfl) ?_
      obtain ⟨g13, h⟩ := gd_out h
      refine gz_dv (As := []) (w := fun r => .int r) F hX hk hC hml hS hW (fun μ hP => z_roomCount (N := N) hP) (fun μ r h9 X9 hX9 => metX10_roomCount F hX9 is_Ga h9) ml_L_250 rfl ⟨rfl, rfl, (by first | exact Nat.le_of_ble_eq_true rfl | (simp only [rmL_bestWay, rmL_bestWay]; omega) | (simp only [rmL_bestWay]; omega)), (by first | exact Nat.le_of_ble_eq_true rfl | (simp only [rmL_bestWay, rmL_bestWay]; omega) | (simp only [rmL_bestWay]; omega))⟩ rfl hl.1 rfl (by first | exact Nat.le_of_ble_eq_true rfl | (simp only [rmL_bestWay, rmL_bestWay]; omega) | (simp only [rmL_bestWay]; omega)) dL_bestWay_20 ⟨(by show _ ≤ (ckW 7 a1 a3); omega), (by show _ ≤ 6 * (ckW 7 a1 a3); omega)⟩ (fun H locs hW hS => ?_)
      obtain ⟨j15, hj17, h⟩ := jn1_o h
      have J16 : ∀ (κ14 : Nat), j15 κ14 = some r → ∀ (H : Heap) (locs : List Loc) (ls : Array Slot), gZ s0 D T B X Z hs t H → va_S (gA B X) s.heap H locs → lv_has ls 14 [(4, .long x8)] → W p l e (rmL_bestWay (n + 1) (ckW 7 a1 a3)) s m args below meth c H locs κ14 (6 * κ14) Q (F0 m 190 ls []) := by
        clear h hW hS hl
        intro κ14 h H locs ls hW hS hl
        replace h := (hj17 κ14).symm.trans h
        refine lv_lload hx hb dL_bestWay_190 (lv_at hl 0 rfl) ?_
        obtain ⟨g18, h⟩ := gd_out h
        cases h
        exact hend dL_bestWay_192 hW hS (by omega) (by omega)
      refine lv_icmp_ge (tgt := 190) hx hb dL_bestWay_23 (by decide) (fun c19 => ?_) (fun c19 => ?_)
      · replace h := ite_t c19 h
        refine W.widen (k := κ10) (n := 6 * κ10) (by omega) (by omega) ?_
        exact J16 _ h _ _ _ hW hS (lv_sub hl [4] rfl)
      · replace h := ite_f c19 h
        refine lv_iload_n hx hb dL_bestWay_26 rfl (lv_at hl 1 rfl) ?_
        refine lv_iload_n hx hb dL_bestWay_27 rfl (lv_at hl 2 rfl) ?_
        refine lv_icmp_eq (tgt := 190) hx hb dL_bestWay_28 (by decide) (fun c20 => ?_) (fun c20 => ?_)
        · replace h := ite_t c20 h
          refine W.widen (k := κ10) (n := 6 * κ10) (by omega) (by omega) ?_
          exact J16 _ h _ _ _ hW hS (lv_sub hl [4] rfl)
        · replace h := ite_f c20 h
          refine lv_aload_n hx hb dL_bestWay_31 rfl (lv_at hl 0 rfl) ?_
          refine lv_iload_n hx hb dL_bestWay_32 rfl (lv_at hl 1 rfl) ?_
          refine lv_iload hx hb dL_bestWay_33 (lv_at hl 5 rfl) ?_
          obtain ⟨g21, h⟩ := gd_out h
          refine gz_wr (As := [.ref (B + 0), .int a1, .int x9]) F hk hC hml hS hW (mq_legMinutes F hX hN) mw_L_253 ⟨rfl, rfl, (by first | exact Nat.le_of_ble_eq_true rfl | (simp only [rmL_bestWay, rmL_bestWay]; omega) | (simp only [rmL_bestWay]; omega)), (by first | exact Nat.le_of_ble_eq_true rfl | (simp only [rmL_bestWay, rmL_bestWay]; omega) | (simp only [rmL_bestWay]; omega))⟩ rfl hl.1 rfl (by first | exact Nat.le_of_ble_eq_true rfl | (simp only [rmL_bestWay, rmL_bestWay]; omega) | (simp only [rmL_bestWay]; omega)) dL_bestWay_35 ⟨(by show _ ≤ (ckW 7 a1 a3); omega), (by show _ ≤ 6 * (ckW 7 a1 a3); omega)⟩ (fun H locs hW hS => ?_)
          refine W.widen (k := (κ10 + 1)) (n := 6 * (κ10 + 1)) (by omega) (by omega) ?_
          change W p l e _ s m args below meth c H locs _ _ Q (F0 m _ ls (.int (wL_legMinutes Z a1 x9) :: _))
          obtain ⟨v22, e23, h⟩ := lt_out h
          rw [← e23]
          refine lv_istore (lv' := [(7, .int v22), (0, .ref (B + 0)), (1, .int a1), (2, .int a2), (3, .int a3), (4, .long x8), (6, .int x9)]) hx hb dL_bestWay_38 hl (by decide) rfl (fun ls hl => ?_)
          refine lv_iload hx hb dL_bestWay_40 (lv_at hl 0 rfl) ?_
          obtain ⟨j26, hj28, h⟩ := jn2_o h
          have J27 : ∀ (y24 : Int64) (κ25 : Nat), j26 y24 κ25 = some r → ∀ (H : Heap) (locs : List Loc) (ls : Array Slot), gZ s0 D T B X Z hs t H → va_S (gA B X) s.heap H locs → lv_has ls 14 [(0, .ref (B + 0)), (1, .int a1), (2, .int a2), (3, .int a3), (4, .long y24), (6, .int x9)] → W p l e (rmL_bestWay (n + 1) (ckW 7 a1 a3)) s m args below meth c H locs κ25 (6 * κ25) Q (F0 m 184 ls []) := by
            clear h hW hS hl
            intro y24 κ25 h H locs ls hW hS hl
            replace h := (hj28 y24 κ25).symm.trans h
            obtain ⟨v29, e30, h⟩ := lt_out h
            refine lv_iinc (v := v29) (lv' := [(6, .int v29), (0, .ref (B + 0)), (1, .int a1), (2, .int a2), (3, .int a3), (4, .long y24)]) hx hb dL_bestWay_184 hl (k := 5) rfl (by rw [e30]; rfl) (by decide) rfl (fun ls hl => ?_)
            refine lv_goto (tgt := 17) hx hb dL_bestWay_187 (by decide) ?_
            refine W.widen (k := κ25) (n := 6 * κ25) (by omega) (by omega) ?_
            exact IH12 _ _ _ h _ _ _ hW hS (lv_sub hl [1, 2, 3, 4, 5, 0] rfl)
          refine lv_if_le (tgt := 184) hx hb dL_bestWay_42 (by decide) (fun c31 => ?_) (fun c31 => ?_)
          · replace h := ite_t c31 h
            refine W.widen (k := (κ10 + 1)) (n := 6 * (κ10 + 1)) (by omega) (by omega) ?_
            exact J27 _ _ h _ _ _ hW hS (lv_sub hl [1, 2, 3, 4, 5, 6] rfl)
          · replace h := ite_f c31 h
            refine lv_iload_n hx hb dL_bestWay_45 rfl (lv_at hl 4 rfl) ?_
            refine lv_iload hx hb dL_bestWay_46 (lv_at hl 6 rfl) ?_
            refine lv_ishr hx hb dL_bestWay_48 ?_
            refine lv_iconst (v := 1) hx hb dL_bestWay_49 (by decide) ?_
            refine lv_iand hx hb dL_bestWay_50 ?_
            refine lv_if_ne (tgt := 184) hx hb dL_bestWay_51 (by decide) (fun c32 => ?_) (fun c32 => ?_)
            · replace h := ite_f c32 h
              refine W.widen (k := (κ10 + 1)) (n := 6 * (κ10 + 1)) (by omega) (by omega) ?_
              exact J27 _ _ h _ _ _ hW hS (lv_sub hl [1, 2, 3, 4, 5, 6] rfl)
            · replace h := ite_t c32 h
              refine lv_aload_n hx hb dL_bestWay_54 rfl (lv_at hl 1 rfl) ?_
              refine lv_iload hx hb dL_bestWay_55 (lv_at hl 6 rfl) ?_
              refine lv_iload_n hx hb dL_bestWay_57 rfl (lv_at hl 3 rfl) ?_
              refine lv_iload_n hx hb dL_bestWay_58 rfl (lv_at hl 4 rfl) ?_
              refine lv_iconst (v := 1) hx hb dL_bestWay_59 (by decide) ?_
              refine lv_iload_n hx hb dL_bestWay_60 rfl (lv_at hl 2 rfl) ?_
              refine lv_ishl hx hb dL_bestWay_61 ?_
              refine lv_ior hx hb dL_bestWay_62 ?_
              obtain ⟨g33, h⟩ := gd_out h
              obtain ⟨r34, hcall, h⟩ := bd_out h
              refine gz_in (As := [.ref (B + 0), .int x9, .int a2, .int (a3 ||| (1 <<< (a1 &&& 31)))]) F hk hC hml hS hW (ih hcall) ml_L_255 ⟨rfl, rfl, (by first | exact Nat.le_of_ble_eq_true rfl | (simp only [rmL_bestWay, rmL_bestWay]; omega) | (simp only [rmL_bestWay]; omega)), (by first | exact Nat.le_of_ble_eq_true rfl | (simp only [rmL_bestWay, rmL_bestWay]; omega) | (simp only [rmL_bestWay]; omega))⟩ rfl hl.1 rfl (by first | exact Nat.le_of_ble_eq_true rfl | (simp only [rmL_bestWay, rmL_bestWay]; omega) | (simp only [rmL_bestWay]; omega)) dL_bestWay_63 ⟨(by show _ ≤ (ckW 7 a1 a3); omega), (by show _ ≤ 6 * (ckW 7 a1 a3); omega)⟩ (fun H locs hW hS => ?_)
              refine W.widen (k := ((κ10 + 1) + (ckW 7 x9 (a3 ||| (1 <<< (a1 &&& 31)))))) (n := 6 * ((κ10 + 1) + (ckW 7 x9 (a3 ||| (1 <<< (a1 &&& 31)))))) (by omega) (by omega) ?_
              refine lv_lstore (lv' := [(8, .long r34), (7, .int v22), (0, .ref (B + 0)), (1, .int a1), (2, .int a2), (3, .int a3), (4, .long x8), (6, .int x9)]) hx hb dL_bestWay_66 hl (by decide) rfl (fun ls hl => ?_)
              refine lv_lload hx hb dL_bestWay_68 (lv_at hl 0 rfl) ?_
              refine lv_lconst (v := 0) hx hb dL_bestWay_70 (by decide) ?_
              refine W.lcmp hx hb dL_bestWay_71 ?_
              obtain ⟨j39, hj41, h⟩ := jn2_o h
              have J40 : ∀ (y37 : Int64) (κ38 : Nat), j39 y37 κ38 = some r → ∀ (H : Heap) (locs : List Loc) (ls : Array Slot), gZ s0 D T B X Z hs t H → va_S (gA B X) s.heap H locs → lv_has ls 14 [(0, .ref (B + 0)), (1, .int a1), (2, .int a2), (3, .int a3), (4, .long x8), (6, .int x9), (8, .long r34)] → W p l e (rmL_bestWay (n + 1) (ckW 7 a1 a3)) s m args below meth c H locs κ38 (6 * κ38) Q (F0 m 95 ls [.long y37]) := by
                clear h hW hS hl
                intro y37 κ38 h H locs ls hW hS hl
                replace h := (hj41 y37 κ38).symm.trans h
                refine lv_lstore (lv' := [(10, .long y37), (0, .ref (B + 0)), (1, .int a1), (2, .int a2), (3, .int a3), (4, .long x8), (6, .int x9), (8, .long r34)]) hx hb dL_bestWay_95 hl (by decide) rfl (fun ls hl => ?_)
                refine lv_lload hx hb dL_bestWay_97 (lv_at hl 7 rfl) ?_
                refine lv_lconst (v := 0) hx hb dL_bestWay_99 (by decide) ?_
                refine W.lcmp hx hb dL_bestWay_100 ?_
                obtain ⟨j46, hj48, h⟩ := jn2_o h
                have J47 : ∀ (y44 : Int64) (κ45 : Nat), j46 y44 κ45 = some r → ∀ (H : Heap) (locs : List Loc) (ls : Array Slot), gZ s0 D T B X Z hs t H → va_S (gA B X) s.heap H locs → lv_has ls 14 [(0, .ref (B + 0)), (1, .int a1), (2, .int a2), (3, .int a3), (4, .long x8), (6, .int x9), (8, .long r34), (10, .long y37)] → W p l e (rmL_bestWay (n + 1) (ckW 7 a1 a3)) s m args below meth c H locs κ45 (6 * κ45) Q (F0 m 114 ls [.long y44]) := by
                  clear h hW hS hl
                  intro y44 κ45 h H locs ls hW hS hl
                  replace h := (hj48 y44 κ45).symm.trans h
                  refine lv_lstore (lv' := [(12, .long y44), (0, .ref (B + 0)), (1, .int a1), (2, .int a2), (3, .int a3), (4, .long x8), (6, .int x9), (8, .long r34), (10, .long y37)]) hx hb dL_bestWay_114 hl (by decide) rfl (fun ls hl => ?_)
                  refine lv_lload hx hb dL_bestWay_116 (lv_at hl 7 rfl) ?_
                  refine lv_lconst (v := 0) hx hb dL_bestWay_118 (by decide) ?_
                  refine W.lcmp hx hb dL_bestWay_119 ?_
                  obtain ⟨j53, hj55, h⟩ := jn2_o h
                  have J54 : ∀ (y51 : Int64) (κ52 : Nat), j53 y51 κ52 = some r → ∀ (H : Heap) (locs : List Loc) (ls : Array Slot), gZ s0 D T B X Z hs t H → va_S (gA B X) s.heap H locs → lv_has ls 14 [(0, .ref (B + 0)), (1, .int a1), (2, .int a2), (3, .int a3), (4, .long x8), (6, .int x9)] → W p l e (rmL_bestWay (n + 1) (ckW 7 a1 a3)) s m args below meth c H locs κ52 (6 * κ52) Q (F0 m 151 ls [.long y51]) := by
                    clear h hW hS hl
                    intro y51 κ52 h H locs ls hW hS hl
                    replace h := (hj55 y51 κ52).symm.trans h
                    refine lv_lstore (lv' := [(10, .long y51), (0, .ref (B + 0)), (1, .int a1), (2, .int a2), (3, .int a3), (4, .long x8), (6, .int x9)]) hx hb dL_bestWay_151 hl (by decide) rfl (fun ls hl => ?_)
                    refine lv_lload hx hb dL_bestWay_153 (lv_at hl 0 rfl) ?_
                    refine lv_lconst (v := 0) hx hb dL_bestWay_155 (by decide) ?_
                    refine W.lcmp hx hb dL_bestWay_156 ?_
                    obtain ⟨j60, hj62, h⟩ := jn2_o h
                    have J61 : ∀ (y58 : Int64) (κ59 : Nat), j60 y58 κ59 = some r → ∀ (H : Heap) (locs : List Loc) (ls : Array Slot), gZ s0 D T B X Z hs t H → va_S (gA B X) s.heap H locs → lv_has ls 14 [(0, .ref (B + 0)), (1, .int a1), (2, .int a2), (3, .int a3), (6, .int x9)] → W p l e (rmL_bestWay (n + 1) (ckW 7 a1 a3)) s m args below meth c H locs κ59 (6 * κ59) Q (F0 m 182 ls [.long y58]) := by
                      clear h hW hS hl
                      intro y58 κ59 h H locs ls hW hS hl
                      replace h := (hj62 y58 κ59).symm.trans h
                      refine lv_lstore (lv' := [(4, .long y58), (0, .ref (B + 0)), (1, .int a1), (2, .int a2), (3, .int a3), (6, .int x9)]) hx hb dL_bestWay_182 hl (by decide) rfl (fun ls hl => ?_)
                      refine W.widen (k := κ59) (n := 6 * κ59) (by omega) (by omega) ?_
                      exact J27 _ _ h _ _ _ hW hS (lv_sub hl [1, 2, 3, 4, 0, 5] rfl)
                    obtain ⟨j66, hj68, h⟩ := jn1_o h
                    have J67 : ∀ (κ65 : Nat), j66 κ65 = some r → ∀ (H : Heap) (locs : List Loc) (ls : Array Slot), gZ s0 D T B X Z hs t H → va_S (gA B X) s.heap H locs → lv_has ls 14 [(0, .ref (B + 0)), (1, .int a1), (2, .int a2), (3, .int a3), (4, .long x8), (6, .int x9)] → W p l e (rmL_bestWay (n + 1) (ckW 7 a1 a3)) s m args below meth c H locs κ65 (6 * κ65) Q (F0 m 180 ls []) := by
                      clear h hW hS hl
                      intro κ65 h H locs ls hW hS hl
                      replace h := (hj68 κ65).symm.trans h
                      refine lv_lload hx hb dL_bestWay_180 (lv_at hl 4 rfl) ?_
                      refine W.widen (k := κ65) (n := 6 * κ65) (by omega) (by omega) ?_
                      exact J61 _ _ h _ _ _ hW hS (lv_sub hl [0, 1, 2, 3, 5] rfl)
                    refine lv_if_lt (tgt := 180) hx hb dL_bestWay_157 (by decide) (fun c69 => ?_) (fun c69 => ?_)
                    · replace h := ite_t c69 h
                      refine W.widen (k := κ52) (n := 6 * κ52) (by omega) (by omega) ?_
                      exact J67 _ h _ _ _ hW hS (lv_sub hl [1, 2, 3, 4, 5, 6] rfl)
                    · replace h := ite_f c69 h
                      refine lv_lload hx hb dL_bestWay_160 (lv_at hl 5 rfl) ?_
                      refine lv_lconst (v := 0) hx hb dL_bestWay_162 (by decide) ?_
                      refine W.lcmp hx hb dL_bestWay_163 ?_
                      obtain ⟨j71, hj73, h⟩ := jn1_o h
                      have J72 : ∀ (κ70 : Nat), j71 κ70 = some r → ∀ (H : Heap) (locs : List Loc) (ls : Array Slot), gZ s0 D T B X Z hs t H → va_S (gA B X) s.heap H locs → lv_has ls 14 [(0, .ref (B + 0)), (1, .int a1), (2, .int a2), (3, .int a3), (6, .int x9), (10, .long y51)] → W p l e (rmL_bestWay (n + 1) (ckW 7 a1 a3)) s m args below meth c H locs κ70 (6 * κ70) Q (F0 m 175 ls []) := by
                        clear h hW hS hl
                        intro κ70 h H locs ls hW hS hl
                        replace h := (hj73 κ70).symm.trans h
                        refine lv_lload hx hb dL_bestWay_175 (lv_at hl 5 rfl) ?_
                        refine lv_goto (tgt := 182) hx hb dL_bestWay_177 (by decide) ?_
                        refine W.widen (k := κ70) (n := 6 * κ70) (by omega) (by omega) ?_
                        exact J61 _ _ h _ _ _ hW hS (lv_sub hl [0, 1, 2, 3, 4] rfl)
                      refine lv_if_lt (tgt := 175) hx hb dL_bestWay_164 (by decide) (fun c74 => ?_) (fun c74 => ?_)
                      · replace h := ite_t c74 h
                        refine W.widen (k := κ52) (n := 6 * κ52) (by omega) (by omega) ?_
                        exact J72 _ h _ _ _ hW hS (lv_sub hl [1, 2, 3, 4, 6, 0] rfl)
                      · replace h := ite_f c74 h
                        refine lv_lload hx hb dL_bestWay_167 (lv_at hl 0 rfl) ?_
                        refine lv_lload hx hb dL_bestWay_169 (lv_at hl 5 rfl) ?_
                        refine W.lcmp hx hb dL_bestWay_171 ?_
                        refine lv_if_ge (tgt := 180) hx hb dL_bestWay_172 (by decide) (fun c75 => ?_) (fun c75 => ?_)
                        · replace h := ite_t c75 h
                          refine W.widen (k := κ52) (n := 6 * κ52) (by omega) (by omega) ?_
                          exact J67 _ h _ _ _ hW hS (lv_sub hl [1, 2, 3, 4, 5, 6] rfl)
                        · replace h := ite_f c75 h
                          refine W.widen (k := κ52) (n := 6 * κ52) (by omega) (by omega) ?_
                          exact J72 _ h _ _ _ hW hS (lv_sub hl [1, 2, 3, 4, 6, 0] rfl)
                  refine lv_if_ge (tgt := 129) hx hb dL_bestWay_120 (by decide) (fun c76 => ?_) (fun c76 => ?_)
                  · replace h := ite_t c76 h
                    refine lv_lload hx hb dL_bestWay_129 (lv_at hl 8 rfl) ?_
                    refine lv_lload hx hb dL_bestWay_131 (lv_at hl 0 rfl) ?_
                    refine lv_lsub hx hb dL_bestWay_133 ?_
                    refine lv_lload hx hb dL_bestWay_134 (lv_at hl 0 rfl) ?_
                    refine lv_ldc2 (v := 7) hx hb hown (hts _ kc_L_263) dL_bestWay_136 ?_
                    refine lv_ldiv hx hb dL_bestWay_139 (by decide) ?_
                    refine lv_ladd hx hb dL_bestWay_140 ?_
                    refine lv_iload hx hb dL_bestWay_141 (lv_at hl 6 rfl) ?_
                    refine lv_i2l hx hb dL_bestWay_143 rfl ?_
                    refine lv_lconst (v := 1) hx hb dL_bestWay_144 (by decide) ?_
                    refine lv_ladd hx hb dL_bestWay_145 ?_
                    refine lv_ldc2 (v := 16807) hx hb hown (hts _ kc_L_265) dL_bestWay_146 ?_
                    refine lv_lmul hx hb dL_bestWay_149 ?_
                    refine lv_ladd hx hb dL_bestWay_150 ?_
                    refine W.widen (k := κ45) (n := 6 * κ45) (by omega) (by omega) ?_
                    exact J54 _ _ h _ _ _ hW hS (lv_sub hl [1, 2, 3, 4, 5, 6] rfl)
                  · replace h := ite_f c76 h
                    refine lv_ldc2 (v := -1) hx hb hown (hts _ kc_L_248) dL_bestWay_123 ?_
                    refine lv_goto (tgt := 151) hx hb dL_bestWay_126 (by decide) ?_
                    refine W.widen (k := κ45) (n := 6 * κ45) (by omega) (by omega) ?_
                    exact J54 _ _ h _ _ _ hW hS (lv_sub hl [1, 2, 3, 4, 5, 6] rfl)
                refine lv_if_ge (tgt := 108) hx hb dL_bestWay_101 (by decide) (fun c77 => ?_) (fun c77 => ?_)
                · replace h := ite_t c77 h
                  refine lv_lload hx hb dL_bestWay_108 (lv_at hl 0 rfl) ?_
                  refine lv_ldc2 (v := 1000000) hx hb hown (hts _ kc_L_261) dL_bestWay_110 ?_
                  refine lv_lrem hx hb dL_bestWay_113 (by decide) ?_
                  refine W.widen (k := κ38) (n := 6 * κ38) (by omega) (by omega) ?_
                  exact J47 _ _ h _ _ _ hW hS (lv_sub hl [1, 2, 3, 4, 5, 6, 7, 0] rfl)
                · replace h := ite_f c77 h
                  refine lv_lconst (v := 0) hx hb dL_bestWay_104 (by decide) ?_
                  refine lv_goto (tgt := 114) hx hb dL_bestWay_105 (by decide) ?_
                  refine W.widen (k := κ38) (n := 6 * κ38) (by omega) (by omega) ?_
                  exact J47 _ _ h _ _ _ hW hS (lv_sub hl [1, 2, 3, 4, 5, 6, 7, 0] rfl)
              refine lv_if_ge (tgt := 81) hx hb dL_bestWay_72 (by decide) (fun c78 => ?_) (fun c78 => ?_)
              · replace h := ite_t c78 h
                refine lv_lload hx hb dL_bestWay_81 (lv_at hl 0 rfl) ?_
                refine lv_ldc2 (v := 10000000) hx hb hown (hts _ kc_L_259) dL_bestWay_83 ?_
                refine lv_iload hx hb dL_bestWay_86 (lv_at hl 1 rfl) ?_
                refine lv_i2l hx hb dL_bestWay_88 rfl ?_
                refine lv_lmul hx hb dL_bestWay_89 ?_
                refine lv_ladd hx hb dL_bestWay_90 ?_
                refine lv_ldc2 (v := 1000000) hx hb hown (hts _ kc_L_261) dL_bestWay_91 ?_
                refine lv_ladd hx hb dL_bestWay_94 ?_
                refine W.widen (k := ((κ10 + 1) + (ckW 7 x9 (a3 ||| (1 <<< (a1 &&& 31)))))) (n := 6 * ((κ10 + 1) + (ckW 7 x9 (a3 ||| (1 <<< (a1 &&& 31)))))) (by omega) (by omega) ?_
                exact J40 _ _ h _ _ _ hW hS (lv_sub hl [2, 3, 4, 5, 6, 7, 0] rfl)
              · replace h := ite_f c78 h
                refine lv_ldc2 (v := -1) hx hb hown (hts _ kc_L_248) dL_bestWay_75 ?_
                refine lv_goto (tgt := 95) hx hb dL_bestWay_78 (by decide) ?_
                refine W.widen (k := ((κ10 + 1) + (ckW 7 x9 (a3 ||| (1 <<< (a1 &&& 31)))))) (n := 6 * ((κ10 + 1) + (ckW 7 x9 (a3 ||| (1 <<< (a1 &&& 31)))))) (by omega) (by omega) ?_
                exact J40 _ _ h _ _ _ hW hS (lv_sub hl [2, 3, 4, 5, 6, 7, 0] rfl)
    refine lv_icmp_ne (tgt := 9) hx hb dL_bestWay_2 (by decide) (fun c79 => ?_) (fun c79 => ?_)
    · replace h := ite_f c79 h
      refine lv_ldc2 (v := -1) hx hb hown (hts _ kc_L_248) dL_bestWay_9 ?_
      refine W.widen (k := 0) (n := 6 * 0) (by omega) (by omega) ?_
      exact J4 _ _ h _ _ _ hW hS (lv_sub hl [0, 1, 2, 3] rfl)
    · replace h := ite_t c79 h
      refine lv_lconst (v := 0) hx hb dL_bestWay_5 (by decide) ?_
      refine lv_goto (tgt := 12) hx hb dL_bestWay_6 (by decide) ?_
      refine W.widen (k := 0) (n := 6 * 0) (by omega) (by omega) ?_
      exact J4 _ _ h _ _ _ hW hS (lv_sub hl [0, 1, 2, 3] rfl)

