/-! Printed by program: the law's own methods that only ask. -/
theorem dL_least_0 : decode cL_least 0 = .ok (.iload_n 1, 1) := by decide +kernel
theorem dL_least_1 : decode cL_least 1 = .ok (.iload_n 2, 1) := by decide +kernel
theorem dL_least_2 : decode cL_least 2 = .ok (.if_icmp .ne 7, 3) := by decide +kernel
theorem dL_least_5 : decode cL_least 5 = .ok (.iconst 0, 1) := by decide +kernel
theorem dL_least_6 : decode cL_least 6 = .ok (.goto 6, 3) := by decide +kernel
theorem dL_least_9 : decode cL_least 9 = .ok (.sipush 9999, 3) := by decide +kernel
theorem dL_least_12 : decode cL_least 12 = .ok (.istore 5, 2) := by decide +kernel
theorem dL_least_14 : decode cL_least 14 = .ok (.iconst 0, 1) := by decide +kernel
theorem dL_least_15 : decode cL_least 15 = .ok (.istore 6, 2) := by decide +kernel
theorem dL_least_17 : decode cL_least 17 = .ok (.iload 6, 2) := by decide +kernel
theorem dL_least_19 : decode cL_least 19 = .ok (.aload_n 0, 1) := by decide +kernel
theorem dL_least_20 : decode cL_least 20 = .ok (.invokevirtual 250, 3) := by decide +kernel
theorem dL_least_23 : decode cL_least 23 = .ok (.if_icmp .ge 84, 3) := by decide +kernel
theorem dL_least_26 : decode cL_least 26 = .ok (.iload_n 1, 1) := by decide +kernel
theorem dL_least_27 : decode cL_least 27 = .ok (.iload_n 2, 1) := by decide +kernel
theorem dL_least_28 : decode cL_least 28 = .ok (.if_icmp .eq 79, 3) := by decide +kernel
theorem dL_least_31 : decode cL_least 31 = .ok (.aload_n 0, 1) := by decide +kernel
theorem dL_least_32 : decode cL_least 32 = .ok (.iload_n 1, 1) := by decide +kernel
theorem dL_least_33 : decode cL_least 33 = .ok (.iload 6, 2) := by decide +kernel
theorem dL_least_35 : decode cL_least 35 = .ok (.invokestatic 253, 3) := by decide +kernel
theorem dL_least_38 : decode cL_least 38 = .ok (.ifCond .le 17, 3) := by decide +kernel
theorem dL_least_41 : decode cL_least 41 = .ok (.iload 4, 2) := by decide +kernel
theorem dL_least_43 : decode cL_least 43 = .ok (.iload 6, 2) := by decide +kernel
theorem dL_least_45 : decode cL_least 45 = .ok (.ishr, 1) := by decide +kernel
theorem dL_least_46 : decode cL_least 46 = .ok (.iconst 1, 1) := by decide +kernel
theorem dL_least_47 : decode cL_least 47 = .ok (.iand, 1) := by decide +kernel
theorem dL_least_48 : decode cL_least 48 = .ok (.ifCond .ne 7, 3) := by decide +kernel
theorem dL_least_51 : decode cL_least 51 = .ok (.iconst 1, 1) := by decide +kernel
theorem dL_least_52 : decode cL_least 52 = .ok (.goto 4, 3) := by decide +kernel
theorem dL_least_55 : decode cL_least 55 = .ok (.iconst 0, 1) := by decide +kernel
theorem dL_least_56 : decode cL_least 56 = .ok (.istore 7, 2) := by decide +kernel
theorem dL_least_58 : decode cL_least 58 = .ok (.iload 7, 2) := by decide +kernel
theorem dL_least_60 : decode cL_least 60 = .ok (.ifCond .eq 37, 3) := by decide +kernel
theorem dL_least_63 : decode cL_least 63 = .ok (.iload 5, 2) := by decide +kernel
theorem dL_least_65 : decode cL_least 65 = .ok (.aload_n 0, 1) := by decide +kernel
theorem dL_least_66 : decode cL_least 66 = .ok (.iload_n 1, 1) := by decide +kernel
theorem dL_least_67 : decode cL_least 67 = .ok (.iload 6, 2) := by decide +kernel
theorem dL_least_69 : decode cL_least 69 = .ok (.invokestatic 282, 3) := by decide +kernel
theorem dL_least_72 : decode cL_least 72 = .ok (.iload_n 3, 1) := by decide +kernel
theorem dL_least_73 : decode cL_least 73 = .ok (.invokestatic 336, 3) := by decide +kernel
theorem dL_least_76 : decode cL_least 76 = .ok (.aload_n 0, 1) := by decide +kernel
theorem dL_least_77 : decode cL_least 77 = .ok (.iload 6, 2) := by decide +kernel
theorem dL_least_79 : decode cL_least 79 = .ok (.iload_n 2, 1) := by decide +kernel
theorem dL_least_80 : decode cL_least 80 = .ok (.iload_n 3, 1) := by decide +kernel
theorem dL_least_81 : decode cL_least 81 = .ok (.iload 4, 2) := by decide +kernel
theorem dL_least_83 : decode cL_least 83 = .ok (.iconst 1, 1) := by decide +kernel
theorem dL_least_84 : decode cL_least 84 = .ok (.iload_n 1, 1) := by decide +kernel
theorem dL_least_85 : decode cL_least 85 = .ok (.ishl, 1) := by decide +kernel
theorem dL_least_86 : decode cL_least 86 = .ok (.ior, 1) := by decide +kernel
theorem dL_least_87 : decode cL_least 87 = .ok (.invokestatic 339, 3) := by decide +kernel
theorem dL_least_90 : decode cL_least 90 = .ok (.iadd, 1) := by decide +kernel
theorem dL_least_91 : decode cL_least 91 = .ok (.invokestatic 209, 3) := by decide +kernel
theorem dL_least_94 : decode cL_least 94 = .ok (.goto 5, 3) := by decide +kernel
theorem dL_least_97 : decode cL_least 97 = .ok (.iload 5, 2) := by decide +kernel
theorem dL_least_99 : decode cL_least 99 = .ok (.istore 5, 2) := by decide +kernel
theorem dL_least_101 : decode cL_least 101 = .ok (.iinc 6 1, 3) := by decide +kernel
theorem dL_least_104 : decode cL_least 104 = .ok (.goto (-87), 3) := by decide +kernel
theorem dL_least_107 : decode cL_least 107 = .ok (.iload 5, 2) := by decide +kernel
theorem dL_least_109 : decode cL_least 109 = .ok (.ireturn, 1) := by decide +kernel
noncomputable def fL_least (N : Nat) : Nat → (Nat → Int32) → Int32 → Int32 → Int32 → Int32 → Option Int32
  | 0, _, _, _, _, _ => none
  | n + 1, Z, a1, a2, a3, a4 =>
  jn (fun (y1 : Int32) (κ2 : Nat) =>
  fix3 (fun self9 (x6 : Int32) (x7 : Int32) (κ8 : Nat) =>
  gd (κ8 ≤ (ckW 14 a1 a4)) <|
  jn (fun (κ12 : Nat) =>
  gd (κ12 ≤ (ckW 14 a1 a4)) <|
  some x6) fun j13 =>
  if (nI (nZ Z)) ≤ x7 then
  (j13 κ8)
  else (if a1 = a2 then
  (j13 κ8)
  else (gd ((κ8 + 1) ≤ (ckW 14 a1 a4)) <|
  jn (fun (y20 : Bool) (κ21 : Nat) =>
  jn (fun (y25 : Int32) (κ26 : Nat) =>
  lt (x7 + 1) fun v30 =>
  self9 y25 v30 κ26) fun j27 =>
  cond y20
  (gd ((κ21 + 1) ≤ (ckW 14 a1 a4)) <|
  gd (((κ21 + 1) + 0) ≤ (ckW 14 a1 a4)) <|
  (fL_passedBy N Z 0 (wL_legWarmth Z a1 x7) a3).bind fun r35 =>
  gd ((((κ21 + 1) + 0) + (ckW 14 x7 (a4 ||| (1 <<< (a1 &&& 31))))) ≤ (ckW 14 a1 a4)) <|
  (fL_least N n Z x7 a2 a3 (a4 ||| (1 <<< (a1 &&& 31)))).bind fun r37 =>
  gd ((((κ21 + 1) + 0) + (ckW 14 x7 (a4 ||| (1 <<< (a1 &&& 31))))) ≤ (ckW 14 a1 a4)) <|
  j27 (imin x6 (r35 + r37)) (((κ21 + 1) + 0) + (ckW 14 x7 (a4 ||| (1 <<< (a1 &&& 31))))))
  (j27 x6 κ21)) fun j22 =>
  jn (fun (κ39 : Nat) =>
  j22 false κ39) fun j40 =>
  if (wL_legMinutes Z a1 x7) ≤ 0 then
  (j40 (κ8 + 1))
  else (if ((a4 >>> (x7 &&& 31)) &&& 1) = 0 then
  (j22 true (κ8 + 1))
  else (j40 (κ8 + 1)))))) N y1 0 κ2) fun j3 =>
  if a1 = a2 then
  (j3 0 0)
  else (j3 9999 0)
abbrev rmL_least (n K : Nat) : Room := { frames := n + 9, cells := K, slots := 6 * K, locals := 60 * n + 185 }
set_option maxHeartbeats 4000000 in
set_option maxRecDepth 100000 in
theorem metL_least {l : Launch} {s0 : State} {b B : Nat} {D : va_G} {T : Nat → ClassId} (F : FX l s0 b D T B) {X : Nat → Prop} (hX : ∀ o, o < 561 → ¬ X (B + o)) {N : Nat} (hN : 1200000000000 ≤ N) {Z : Nat → Int32} {hs : List (Nat → Int32)} {t : List Nat} : ∀ (n : Nat) {a1 : Int32} {a2 : Int32} {a3 : Int32} {a4 : Int32} {r : Int32} (h : fL_least N n Z a1 a2 a3 a4 = some r), gMet l yL_least cL_least 8 (some .int) (rmL_least n (ckW 14 a1 a4)) [.ref (B + 0), .int a1, .int a2, .int a3, .int a4] (gZ s0 D T B X Z hs t) (KC s0 X) (some (.int r)) (gZ s0 D T B X Z hs t) (gA B X) (ckW 14 a1 a4) (6 * (ckW 14 a1 a4)) := by
  intro n
  induction n with
  | zero =>
    intro a1 a2 a3 a4 r h
    cases h
  | succ n ih =>
    intro a1 a2 a3 a4 r h
    refine gI_of RL (by decide +kernel) rfl (by first | exact Nat.le_of_ble_eq_true rfl | (simp only [rmL_least, rmL_least, rmL_passedBy]; omega) | (simp only [rmL_least]; omega)) ?_
    intro p e s m args below meth c ls Q hx hb hlocks hml hown hts hW hk hl hS hend
    have hC := FX_C F hk hx hb hown hts
    have hl : lv_has ls 8 [(0, .ref (B + 0)), (1, .int a1), (2, .int a2), (3, .int a3), (4, .int a4)] := hl
    unfold fL_least at h
    refine lv_iload_n hx hb dL_least_0 rfl (lv_at hl 1 rfl) ?_
    refine lv_iload_n hx hb dL_least_1 rfl (lv_at hl 2 rfl) ?_
    obtain ⟨j3, hj5, h⟩ := jn2_o h
    have J4 : ∀ (y1 : Int32) (κ2 : Nat), j3 y1 κ2 = some r → ∀ (H : Heap) (locs : List Loc) (ls : Array Slot), gZ s0 D T B X Z hs t H → va_S (gA B X) s.heap H locs → lv_has ls 8 [(0, .ref (B + 0)), (1, .int a1), (2, .int a2), (3, .int a3), (4, .int a4)] → W p l e (rmL_least (n + 1) (ckW 14 a1 a4)) s m args below meth c H locs κ2 (6 * κ2) Q (F0 m 12 ls [.int y1]) := by
      clear h hW hS hl
      intro y1 κ2 h H locs ls hW hS hl
      replace h := (hj5 y1 κ2).symm.trans h
      refine lv_istore (lv' := [(5, .int y1), (0, .ref (B + 0)), (1, .int a1), (2, .int a2), (3, .int a3), (4, .int a4)]) hx hb dL_least_12 hl (by decide) rfl (fun ls hl => ?_)
      refine lv_iconst (v := 0) hx hb dL_least_14 (by decide) ?_
      refine lv_istore (lv' := [(6, .int 0), (5, .int y1), (0, .ref (B + 0)), (1, .int a1), (2, .int a2), (3, .int a3), (4, .int a4)]) hx hb dL_least_15 hl (by decide) rfl (fun ls hl => ?_)
      refine W.widen (k := κ2) (n := 6 * κ2) (by omega) (by omega) ?_
      refine fix3_ind (fun (x6 : Int32) (x7 : Int32) (κ8 : Nat) => ∀ (H : Heap) (locs : List Loc) (ls : Array Slot), gZ s0 D T B X Z hs t H → va_S (gA B X) s.heap H locs → lv_has ls 8 [(0, .ref (B + 0)), (1, .int a1), (2, .int a2), (3, .int a3), (4, .int a4), (5, .int x6), (6, .int x7)] → W p l e (rmL_least (n + 1) (ckW 14 a1 a4)) s m args below meth c H locs κ8 (6 * κ8) Q (F0 m 17 ls [])) ?_ N _ _ _ h _ _ _ hW hS (lv_sub hl [2, 3, 4, 5, 6, 1, 0] rfl)
      clear h hW hS hl
      intro self9 IH10 x6 x7 κ8 h H locs ls hW hS hl
      refine lv_iload hx hb dL_least_17 (lv_at hl 6 rfl) ?_
      refine lv_aload_n hx hb dL_least_19 rfl (lv_at hl 0 rfl) ?_
      obtain ⟨g11, h⟩ := gd_out h
      refine gz_dv (As := []) (w := fun r => .int r) F hX hk hC hml hS hW (fun μ hP => z_roomCount (N := N) hP) (fun μ r h9 X9 hX9 => metX10_roomCount F hX9 is_Ga h9) ml_L_250 rfl ⟨rfl, rfl, (by first | exact Nat.le_of_ble_eq_true rfl | (simp only [rmL_least, rmL_least, rmL_passedBy]; omega) | (simp only [rmL_least]; omega)), (by first | exact Nat.le_of_ble_eq_true rfl | (simp only [rmL_least, rmL_least, rmL_passedBy]; omega) | (simp only [rmL_least]; omega))⟩ rfl hl.1 rfl (by first | exact Nat.le_of_ble_eq_true rfl | (simp only [rmL_least, rmL_least, rmL_passedBy]; omega) | (simp only [rmL_least]; omega)) dL_least_20 ⟨(by show _ ≤ (ckW 14 a1 a4); omega), (by show _ ≤ 6 * (ckW 14 a1 a4); omega)⟩ (fun H locs hW hS => ?_)
      obtain ⟨j13, hj15, h⟩ := jn1_o h
      have J14 : ∀ (κ12 : Nat), j13 κ12 = some r → ∀ (H : Heap) (locs : List Loc) (ls : Array Slot), gZ s0 D T B X Z hs t H → va_S (gA B X) s.heap H locs → lv_has ls 8 [(5, .int x6)] → W p l e (rmL_least (n + 1) (ckW 14 a1 a4)) s m args below meth c H locs κ12 (6 * κ12) Q (F0 m 107 ls []) := by
        clear h hW hS hl
        intro κ12 h H locs ls hW hS hl
        replace h := (hj15 κ12).symm.trans h
        refine lv_iload hx hb dL_least_107 (lv_at hl 0 rfl) ?_
        obtain ⟨g16, h⟩ := gd_out h
        cases h
        exact hend dL_least_109 hW hS (by omega) (by omega)
      refine lv_icmp_ge (tgt := 107) hx hb dL_least_23 (by decide) (fun c17 => ?_) (fun c17 => ?_)
      · replace h := ite_t c17 h
        refine W.widen (k := κ8) (n := 6 * κ8) (by omega) (by omega) ?_
        exact J14 _ h _ _ _ hW hS (lv_sub hl [5] rfl)
      · replace h := ite_f c17 h
        refine lv_iload_n hx hb dL_least_26 rfl (lv_at hl 1 rfl) ?_
        refine lv_iload_n hx hb dL_least_27 rfl (lv_at hl 2 rfl) ?_
        refine lv_icmp_eq (tgt := 107) hx hb dL_least_28 (by decide) (fun c18 => ?_) (fun c18 => ?_)
        · replace h := ite_t c18 h
          refine W.widen (k := κ8) (n := 6 * κ8) (by omega) (by omega) ?_
          exact J14 _ h _ _ _ hW hS (lv_sub hl [5] rfl)
        · replace h := ite_f c18 h
          refine lv_aload_n hx hb dL_least_31 rfl (lv_at hl 0 rfl) ?_
          refine lv_iload_n hx hb dL_least_32 rfl (lv_at hl 1 rfl) ?_
          refine lv_iload hx hb dL_least_33 (lv_at hl 6 rfl) ?_
          obtain ⟨g19, h⟩ := gd_out h
          refine gz_wr (As := [.ref (B + 0), .int a1, .int x7]) F hk hC hml hS hW (mq_legMinutes F hX hN) mw_L_253 ⟨rfl, rfl, (by first | exact Nat.le_of_ble_eq_true rfl | (simp only [rmL_least, rmL_least, rmL_passedBy]; omega) | (simp only [rmL_least]; omega)), (by first | exact Nat.le_of_ble_eq_true rfl | (simp only [rmL_least, rmL_least, rmL_passedBy]; omega) | (simp only [rmL_least]; omega))⟩ rfl hl.1 rfl (by first | exact Nat.le_of_ble_eq_true rfl | (simp only [rmL_least, rmL_least, rmL_passedBy]; omega) | (simp only [rmL_least]; omega)) dL_least_35 ⟨(by show _ ≤ (ckW 14 a1 a4); omega), (by show _ ≤ 6 * (ckW 14 a1 a4); omega)⟩ (fun H locs hW hS => ?_)
          refine W.widen (k := (κ8 + 1)) (n := 6 * (κ8 + 1)) (by omega) (by omega) ?_
          change W p l e _ s m args below meth c H locs _ _ Q (F0 m _ ls (.int (wL_legMinutes Z a1 x7) :: _))
          obtain ⟨j22, hj24, h⟩ := jn2_o h
          have J23 : ∀ (y20 : Bool) (κ21 : Nat), j22 y20 κ21 = some r → ∀ (H : Heap) (locs : List Loc) (ls : Array Slot), gZ s0 D T B X Z hs t H → va_S (gA B X) s.heap H locs → lv_has ls 8 [(0, .ref (B + 0)), (1, .int a1), (2, .int a2), (3, .int a3), (4, .int a4), (5, .int x6), (6, .int x7)] → W p l e (rmL_least (n + 1) (ckW 14 a1 a4)) s m args below meth c H locs κ21 (6 * κ21) Q (F0 m 56 ls [.int (b2i y20)]) := by
            clear h hW hS hl
            intro y20 κ21 h H locs ls hW hS hl
            replace h := (hj24 y20 κ21).symm.trans h
            refine lv_istore (lv' := [(7, .int (b2i y20)), (0, .ref (B + 0)), (1, .int a1), (2, .int a2), (3, .int a3), (4, .int a4), (5, .int x6), (6, .int x7)]) hx hb dL_least_56 hl (by decide) rfl (fun ls hl => ?_)
            refine lv_iload hx hb dL_least_58 (lv_at hl 0 rfl) ?_
            obtain ⟨j27, hj29, h⟩ := jn2_o h
            have J28 : ∀ (y25 : Int32) (κ26 : Nat), j27 y25 κ26 = some r → ∀ (H : Heap) (locs : List Loc) (ls : Array Slot), gZ s0 D T B X Z hs t H → va_S (gA B X) s.heap H locs → lv_has ls 8 [(0, .ref (B + 0)), (1, .int a1), (2, .int a2), (3, .int a3), (4, .int a4), (6, .int x7)] → W p l e (rmL_least (n + 1) (ckW 14 a1 a4)) s m args below meth c H locs κ26 (6 * κ26) Q (F0 m 99 ls [.int y25]) := by
              clear h hW hS hl
              intro y25 κ26 h H locs ls hW hS hl
              replace h := (hj29 y25 κ26).symm.trans h
              refine lv_istore (lv' := [(5, .int y25), (0, .ref (B + 0)), (1, .int a1), (2, .int a2), (3, .int a3), (4, .int a4), (6, .int x7)]) hx hb dL_least_99 hl (by decide) rfl (fun ls hl => ?_)
              obtain ⟨v30, e31, h⟩ := lt_out h
              refine lv_iinc (v := v30) (lv' := [(6, .int v30), (5, .int y25), (0, .ref (B + 0)), (1, .int a1), (2, .int a2), (3, .int a3), (4, .int a4)]) hx hb dL_least_101 hl (k := 6) rfl (by rw [e31]; rfl) (by decide) rfl (fun ls hl => ?_)
              refine lv_goto (tgt := 17) hx hb dL_least_104 (by decide) ?_
              refine W.widen (k := κ26) (n := 6 * κ26) (by omega) (by omega) ?_
              exact IH10 _ _ _ h _ _ _ hW hS (lv_sub hl [2, 3, 4, 5, 6, 1, 0] rfl)
            refine gw_if_eqZ (tgt := 97) hx hb dL_least_60 (by decide) (fun c32 => ?_) (fun c32 => ?_)
            · replace h := cond_f c32 h
              refine lv_iload hx hb dL_least_97 (lv_at hl 6 rfl) ?_
              refine W.widen (k := κ21) (n := 6 * κ21) (by omega) (by omega) ?_
              exact J28 _ _ h _ _ _ hW hS (lv_sub hl [1, 2, 3, 4, 5, 7] rfl)
            · replace h := cond_t c32 h
              refine lv_iload hx hb dL_least_63 (lv_at hl 6 rfl) ?_
              refine lv_aload_n hx hb dL_least_65 rfl (lv_at hl 1 rfl) ?_
              refine lv_iload_n hx hb dL_least_66 rfl (lv_at hl 2 rfl) ?_
              refine lv_iload hx hb dL_least_67 (lv_at hl 7 rfl) ?_
              obtain ⟨g33, h⟩ := gd_out h
              refine gz_wr (As := [.ref (B + 0), .int a1, .int x7]) F hk hC hml hS hW (mq_legWarmth F hX hN) mw_L_282 ⟨rfl, rfl, (by first | exact Nat.le_of_ble_eq_true rfl | (simp only [rmL_least, rmL_least, rmL_passedBy]; omega) | (simp only [rmL_least]; omega)), (by first | exact Nat.le_of_ble_eq_true rfl | (simp only [rmL_least, rmL_least, rmL_passedBy]; omega) | (simp only [rmL_least]; omega))⟩ rfl hl.1 rfl (by first | exact Nat.le_of_ble_eq_true rfl | (simp only [rmL_least, rmL_least, rmL_passedBy]; omega) | (simp only [rmL_least]; omega)) dL_least_69 ⟨(by show _ ≤ (ckW 14 a1 a4); omega), (by show _ ≤ 6 * (ckW 14 a1 a4); omega)⟩ (fun H locs hW hS => ?_)
              refine W.widen (k := (κ21 + 1)) (n := 6 * (κ21 + 1)) (by omega) (by omega) ?_
              change W p l e _ s m args below meth c H locs _ _ Q (F0 m _ ls (.int (wL_legWarmth Z a1 x7) :: _))
              refine lv_iload_n hx hb dL_least_72 rfl (lv_at hl 4 rfl) ?_
              obtain ⟨g34, h⟩ := gd_out h
              obtain ⟨r35, hcall, h⟩ := bd_out h
              refine gz_in (As := [.int (wL_legWarmth Z a1 x7), .int a3]) F hk hC hml hS hW (metL_passedBy F hX hN hcall) ml_L_336 ⟨rfl, rfl, (by first | exact Nat.le_of_ble_eq_true rfl | (simp only [rmL_least, rmL_least, rmL_passedBy]; omega) | (simp only [rmL_least]; omega)), (by first | exact Nat.le_of_ble_eq_true rfl | (simp only [rmL_least, rmL_least, rmL_passedBy]; omega) | (simp only [rmL_least]; omega))⟩ rfl hl.1 rfl (by first | exact Nat.le_of_ble_eq_true rfl | (simp only [rmL_least, rmL_least, rmL_passedBy]; omega) | (simp only [rmL_least]; omega)) dL_least_73 ⟨(by show _ ≤ (ckW 14 a1 a4); omega), (by show _ ≤ 6 * (ckW 14 a1 a4); omega)⟩ (fun H locs hW hS => ?_)
              refine W.widen (k := ((κ21 + 1) + 0)) (n := 6 * ((κ21 + 1) + 0)) (by omega) (by omega) ?_
              refine lv_aload_n hx hb dL_least_76 rfl (lv_at hl 1 rfl) ?_
              refine lv_iload hx hb dL_least_77 (lv_at hl 7 rfl) ?_
              refine lv_iload_n hx hb dL_least_79 rfl (lv_at hl 3 rfl) ?_
              refine lv_iload_n hx hb dL_least_80 rfl (lv_at hl 4 rfl) ?_
              refine lv_iload hx hb dL_least_81 (lv_at hl 5 rfl) ?_
              refine lv_iconst (v := 1) hx hb dL_least_83 (by decide) ?_
              refine lv_iload_n hx hb dL_least_84 rfl (lv_at hl 2 rfl) ?_
              refine lv_ishl hx hb dL_least_85 ?_
              refine lv_ior hx hb dL_least_86 ?_
              obtain ⟨g36, h⟩ := gd_out h
              obtain ⟨r37, hcall, h⟩ := bd_out h
              refine gz_in (As := [.ref (B + 0), .int x7, .int a2, .int a3, .int (a4 ||| (1 <<< (a1 &&& 31)))]) F hk hC hml hS hW (ih hcall) ml_L_339 ⟨rfl, rfl, (by first | exact Nat.le_of_ble_eq_true rfl | (simp only [rmL_least, rmL_least, rmL_passedBy]; omega) | (simp only [rmL_least]; omega)), (by first | exact Nat.le_of_ble_eq_true rfl | (simp only [rmL_least, rmL_least, rmL_passedBy]; omega) | (simp only [rmL_least]; omega))⟩ rfl hl.1 rfl (by first | exact Nat.le_of_ble_eq_true rfl | (simp only [rmL_least, rmL_least, rmL_passedBy]; omega) | (simp only [rmL_least]; omega)) dL_least_87 ⟨(by show _ ≤ (ckW 14 a1 a4); omega), (by show _ ≤ 6 * (ckW 14 a1 a4); omega)⟩ (fun H locs hW hS => ?_)
              refine W.widen (k := (((κ21 + 1) + 0) + (ckW 14 x7 (a4 ||| (1 <<< (a1 &&& 31)))))) (n := 6 * (((κ21 + 1) + 0) + (ckW 14 x7 (a4 ||| (1 <<< (a1 &&& 31)))))) (by omega) (by omega) ?_
              refine lv_iadd hx hb dL_least_90 ?_
              obtain ⟨g38, h⟩ := gd_out h
              refine gw_min hC (hml.trans hl.1.symm) lm_L_209 lb_min.1 lb_min.2.1 lb_min.2.2 (by first | exact Nat.le_of_ble_eq_true rfl | (simp only [rmL_least, rmL_least, rmL_passedBy]; omega) | (simp only [rmL_least]; omega)) (by first | exact Nat.le_of_ble_eq_true rfl | (simp only [rmL_least, rmL_least, rmL_passedBy]; omega) | (simp only [rmL_least]; omega)) (by show _ ≤ (ckW 14 a1 a4); omega) (by show _ ≤ 6 * (ckW 14 a1 a4); omega) dL_least_91 ?_
              refine lv_goto (tgt := 99) hx hb dL_least_94 (by decide) ?_
              refine W.widen (k := (((κ21 + 1) + 0) + (ckW 14 x7 (a4 ||| (1 <<< (a1 &&& 31)))))) (n := 6 * (((κ21 + 1) + 0) + (ckW 14 x7 (a4 ||| (1 <<< (a1 &&& 31)))))) (by omega) (by omega) ?_
              exact J28 _ _ h _ _ _ hW hS (lv_sub hl [1, 2, 3, 4, 5, 7] rfl)
          obtain ⟨j40, hj42, h⟩ := jn1_o h
          have J41 : ∀ (κ39 : Nat), j40 κ39 = some r → ∀ (H : Heap) (locs : List Loc) (ls : Array Slot), gZ s0 D T B X Z hs t H → va_S (gA B X) s.heap H locs → lv_has ls 8 [(0, .ref (B + 0)), (1, .int a1), (2, .int a2), (3, .int a3), (4, .int a4), (5, .int x6), (6, .int x7)] → W p l e (rmL_least (n + 1) (ckW 14 a1 a4)) s m args below meth c H locs κ39 (6 * κ39) Q (F0 m 55 ls []) := by
            clear h hW hS hl
            intro κ39 h H locs ls hW hS hl
            replace h := (hj42 κ39).symm.trans h
            refine lv_iconst (v := 0) hx hb dL_least_55 (by decide) ?_
            refine W.widen (k := κ39) (n := 6 * κ39) (by omega) (by omega) ?_
            exact J23 _ _ h _ _ _ hW hS (lv_sub hl [0, 1, 2, 3, 4, 5, 6] rfl)
          refine lv_if_le (tgt := 55) hx hb dL_least_38 (by decide) (fun c43 => ?_) (fun c43 => ?_)
          · replace h := ite_t c43 h
            refine W.widen (k := (κ8 + 1)) (n := 6 * (κ8 + 1)) (by omega) (by omega) ?_
            exact J41 _ h _ _ _ hW hS (lv_sub hl [0, 1, 2, 3, 4, 5, 6] rfl)
          · replace h := ite_f c43 h
            refine lv_iload hx hb dL_least_41 (lv_at hl 4 rfl) ?_
            refine lv_iload hx hb dL_least_43 (lv_at hl 6 rfl) ?_
            refine lv_ishr hx hb dL_least_45 ?_
            refine lv_iconst (v := 1) hx hb dL_least_46 (by decide) ?_
            refine lv_iand hx hb dL_least_47 ?_
            refine lv_if_ne (tgt := 55) hx hb dL_least_48 (by decide) (fun c44 => ?_) (fun c44 => ?_)
            · replace h := ite_f c44 h
              refine W.widen (k := (κ8 + 1)) (n := 6 * (κ8 + 1)) (by omega) (by omega) ?_
              exact J41 _ h _ _ _ hW hS (lv_sub hl [0, 1, 2, 3, 4, 5, 6] rfl)
            · replace h := ite_t c44 h
              refine lv_iconst (v := 1) hx hb dL_least_51 (by decide) ?_
              refine lv_goto (tgt := 56) hx hb dL_least_52 (by decide) ?_
              refine W.widen (k := (κ8 + 1)) (n := 6 * (κ8 + 1)) (by omega) (by omega) ?_
              exact J23 _ _ h _ _ _ hW hS (lv_sub hl [0, 1, 2, 3, 4, 5, 6] rfl)
    refine lv_icmp_ne (tgt := 9) hx hb dL_least_2 (by decide) (fun c45 => ?_) (fun c45 => ?_)
    · replace h := ite_f c45 h
      refine lv_sipush (v := 9999) hx hb dL_least_9 (by decide) ?_
      refine W.widen (k := 0) (n := 6 * 0) (by omega) (by omega) ?_
      exact J4 _ _ h _ _ _ hW hS (lv_sub hl [0, 1, 2, 3, 4] rfl)
    · replace h := ite_t c45 h
      refine lv_iconst (v := 0) hx hb dL_least_5 (by decide) ?_
      refine lv_goto (tgt := 12) hx hb dL_least_6 (by decide) ?_
      refine W.widen (k := 0) (n := 6 * 0) (by omega) (by omega) ?_
      exact J4 _ _ h _ _ _ hW hS (lv_sub hl [0, 1, 2, 3, 4] rfl)

