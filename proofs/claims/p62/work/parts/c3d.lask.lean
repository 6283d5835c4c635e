/-! Printed by program: the law's own methods that only ask. -/
theorem dL_loans_0 : decode cL_loans 0 = .ok (.aload_n 0, 1) := by decide +kernel
theorem dL_loans_1 : decode cL_loans 1 = .ok (.invokevirtual 295, 3) := by decide +kernel
theorem dL_loans_4 : decode cL_loans 4 = .ok (.istore_n 1, 1) := by decide +kernel
theorem dL_loans_5 : decode cL_loans 5 = .ok (.iconst 0, 1) := by decide +kernel
theorem dL_loans_6 : decode cL_loans 6 = .ok (.istore_n 2, 1) := by decide +kernel
theorem dL_loans_7 : decode cL_loans 7 = .ok (.iload_n 2, 1) := by decide +kernel
theorem dL_loans_8 : decode cL_loans 8 = .ok (.iload_n 1, 1) := by decide +kernel
theorem dL_loans_9 : decode cL_loans 9 = .ok (.if_icmp .ge 85, 3) := by decide +kernel
theorem dL_loans_12 : decode cL_loans 12 = .ok (.aload_n 0, 1) := by decide +kernel
theorem dL_loans_13 : decode cL_loans 13 = .ok (.iload_n 2, 1) := by decide +kernel
theorem dL_loans_14 : decode cL_loans 14 = .ok (.invokestatic 364, 3) := by decide +kernel
theorem dL_loans_17 : decode cL_loans 17 = .ok (.aload_n 0, 1) := by decide +kernel
theorem dL_loans_18 : decode cL_loans 18 = .ok (.iload_n 2, 1) := by decide +kernel
theorem dL_loans_19 : decode cL_loans 19 = .ok (.invokestatic 366, 3) := by decide +kernel
theorem dL_loans_22 : decode cL_loans 22 = .ok (.if_icmp .ne 64, 3) := by decide +kernel
theorem dL_loans_25 : decode cL_loans 25 = .ok (.aload_n 0, 1) := by decide +kernel
theorem dL_loans_26 : decode cL_loans 26 = .ok (.iload_n 2, 1) := by decide +kernel
theorem dL_loans_27 : decode cL_loans 27 = .ok (.invokestatic 369, 3) := by decide +kernel
theorem dL_loans_30 : decode cL_loans 30 = .ok (.ifCond .lt 56, 3) := by decide +kernel
theorem dL_loans_33 : decode cL_loans 33 = .ok (.aload_n 0, 1) := by decide +kernel
theorem dL_loans_34 : decode cL_loans 34 = .ok (.iload_n 2, 1) := by decide +kernel
theorem dL_loans_35 : decode cL_loans 35 = .ok (.invokestatic 369, 3) := by decide +kernel
theorem dL_loans_38 : decode cL_loans 38 = .ok (.bipush 8, 2) := by decide +kernel
theorem dL_loans_40 : decode cL_loans 40 = .ok (.if_icmp .gt 46, 3) := by decide +kernel
theorem dL_loans_43 : decode cL_loans 43 = .ok (.aload_n 0, 1) := by decide +kernel
theorem dL_loans_44 : decode cL_loans 44 = .ok (.iload_n 2, 1) := by decide +kernel
theorem dL_loans_45 : decode cL_loans 45 = .ok (.invokestatic 372, 3) := by decide +kernel
theorem dL_loans_48 : decode cL_loans 48 = .ok (.ifCond .lt 38, 3) := by decide +kernel
theorem dL_loans_51 : decode cL_loans 51 = .ok (.aload_n 0, 1) := by decide +kernel
theorem dL_loans_52 : decode cL_loans 52 = .ok (.iload_n 2, 1) := by decide +kernel
theorem dL_loans_53 : decode cL_loans 53 = .ok (.invokestatic 364, 3) := by decide +kernel
theorem dL_loans_56 : decode cL_loans 56 = .ok (.ifCond .le 11, 3) := by decide +kernel
theorem dL_loans_59 : decode cL_loans 59 = .ok (.aload_n 0, 1) := by decide +kernel
theorem dL_loans_60 : decode cL_loans 60 = .ok (.iload_n 2, 1) := by decide +kernel
theorem dL_loans_61 : decode cL_loans 61 = .ok (.invokestatic 369, 3) := by decide +kernel
theorem dL_loans_64 : decode cL_loans 64 = .ok (.ifCond .eq 22, 3) := by decide +kernel
theorem dL_loans_67 : decode cL_loans 67 = .ok (.aload_n 0, 1) := by decide +kernel
theorem dL_loans_68 : decode cL_loans 68 = .ok (.iload_n 2, 1) := by decide +kernel
theorem dL_loans_69 : decode cL_loans 69 = .ok (.iconst (-1), 1) := by decide +kernel
theorem dL_loans_70 : decode cL_loans 70 = .ok (.invokestatic 375, 3) := by decide +kernel
theorem dL_loans_73 : decode cL_loans 73 = .ok (.ifCond .ne 13, 3) := by decide +kernel
theorem dL_loans_76 : decode cL_loans 76 = .ok (.aload_n 0, 1) := by decide +kernel
theorem dL_loans_77 : decode cL_loans 77 = .ok (.iload_n 2, 1) := by decide +kernel
theorem dL_loans_78 : decode cL_loans 78 = .ok (.bipush 100, 2) := by decide +kernel
theorem dL_loans_80 : decode cL_loans 80 = .ok (.invokestatic 375, 3) := by decide +kernel
theorem dL_loans_83 : decode cL_loans 83 = .ok (.ifCond .eq 5, 3) := by decide +kernel
theorem dL_loans_86 : decode cL_loans 86 = .ok (.iconst 0, 1) := by decide +kernel
theorem dL_loans_87 : decode cL_loans 87 = .ok (.ireturn, 1) := by decide +kernel
theorem dL_loans_88 : decode cL_loans 88 = .ok (.iinc 2 1, 3) := by decide +kernel
theorem dL_loans_91 : decode cL_loans 91 = .ok (.goto (-84), 3) := by decide +kernel
theorem dL_loans_94 : decode cL_loans 94 = .ok (.aload_n 0, 1) := by decide +kernel
theorem dL_loans_95 : decode cL_loans 95 = .ok (.iload_n 1, 1) := by decide +kernel
theorem dL_loans_96 : decode cL_loans 96 = .ok (.invokestatic 369, 3) := by decide +kernel
theorem dL_loans_99 : decode cL_loans 99 = .ok (.bipush (-11), 2) := by decide +kernel
theorem dL_loans_101 : decode cL_loans 101 = .ok (.if_icmp .ne 48, 3) := by decide +kernel
theorem dL_loans_104 : decode cL_loans 104 = .ok (.aload_n 0, 1) := by decide +kernel
theorem dL_loans_105 : decode cL_loans 105 = .ok (.iload_n 1, 1) := by decide +kernel
theorem dL_loans_106 : decode cL_loans 106 = .ok (.invokestatic 372, 3) := by decide +kernel
theorem dL_loans_109 : decode cL_loans 109 = .ok (.bipush (-11), 2) := by decide +kernel
theorem dL_loans_111 : decode cL_loans 111 = .ok (.if_icmp .ne 38, 3) := by decide +kernel
theorem dL_loans_114 : decode cL_loans 114 = .ok (.aload_n 0, 1) := by decide +kernel
theorem dL_loans_115 : decode cL_loans 115 = .ok (.iload_n 1, 1) := by decide +kernel
theorem dL_loans_116 : decode cL_loans 116 = .ok (.invokestatic 364, 3) := by decide +kernel
theorem dL_loans_119 : decode cL_loans 119 = .ok (.bipush (-11), 2) := by decide +kernel
theorem dL_loans_121 : decode cL_loans 121 = .ok (.if_icmp .ne 28, 3) := by decide +kernel
theorem dL_loans_124 : decode cL_loans 124 = .ok (.aload_n 0, 1) := by decide +kernel
theorem dL_loans_125 : decode cL_loans 125 = .ok (.iconst (-1), 1) := by decide +kernel
theorem dL_loans_126 : decode cL_loans 126 = .ok (.invokestatic 366, 3) := by decide +kernel
theorem dL_loans_129 : decode cL_loans 129 = .ok (.bipush (-11), 2) := by decide +kernel
theorem dL_loans_131 : decode cL_loans 131 = .ok (.if_icmp .ne 18, 3) := by decide +kernel
theorem dL_loans_134 : decode cL_loans 134 = .ok (.aload_n 0, 1) := by decide +kernel
theorem dL_loans_135 : decode cL_loans 135 = .ok (.iload_n 1, 1) := by decide +kernel
theorem dL_loans_136 : decode cL_loans 136 = .ok (.iconst 0, 1) := by decide +kernel
theorem dL_loans_137 : decode cL_loans 137 = .ok (.invokestatic 375, 3) := by decide +kernel
theorem dL_loans_140 : decode cL_loans 140 = .ok (.bipush (-11), 2) := by decide +kernel
theorem dL_loans_142 : decode cL_loans 142 = .ok (.if_icmp .ne 7, 3) := by decide +kernel
theorem dL_loans_145 : decode cL_loans 145 = .ok (.iconst 1, 1) := by decide +kernel
theorem dL_loans_146 : decode cL_loans 146 = .ok (.goto 4, 3) := by decide +kernel
theorem dL_loans_149 : decode cL_loans 149 = .ok (.iconst 0, 1) := by decide +kernel
theorem dL_loans_150 : decode cL_loans 150 = .ok (.ireturn, 1) := by decide +kernel
noncomputable def fL_loans (N : Nat) (Z : Nat → Int32) (K : Nat)  : Option Bool :=
  gd (0 ≤ K) <|
  lt (nI (eZ Z)) fun v2 =>
  fix2 (fun self6 (x4 : Int32) (κ5 : Nat) =>
  if v2 ≤ x4 then
  (gd ((κ5 + 1) ≤ K) <|
  jn (fun (y10 : Bool) (κ11 : Nat) =>
  gd (κ11 ≤ K) <|
  some y10) fun j12 =>
  jn (fun (κ16 : Nat) =>
  j12 false κ16) fun j17 =>
  if (wL_asked Z v2) = (-11) then
  (gd ((κ5 + 2) ≤ K) <|
  if (wL_taken Z v2) = (-11) then
  (gd ((κ5 + 3) ≤ K) <|
  if (wL_bestFees Z v2) = (-11) then
  (gd ((κ5 + 4) ≤ K) <|
  if (wL_byTrials Z (-1)) = (-11) then
  (gd ((κ5 + 5) ≤ K) <|
  if (wL_isLent Z v2 0) = (-11) then
  (j12 true (κ5 + 5))
  else (j17 (κ5 + 5)))
  else (j17 (κ5 + 4)))
  else (j17 (κ5 + 3)))
  else (j17 (κ5 + 2)))
  else (j17 (κ5 + 1)))
  else (gd ((κ5 + 1) ≤ K) <|
  gd ((κ5 + 2) ≤ K) <|
  jn (fun (κ31 : Nat) =>
  gd (κ31 ≤ K) <|
  some false) fun j32 =>
  if (wL_bestFees Z x4) = (wL_byTrials Z x4) then
  (gd ((κ5 + 3) ≤ K) <|
  if (wL_asked Z x4) < 0 then
  (j32 (κ5 + 3))
  else (gd ((κ5 + 4) ≤ K) <|
  if 8 < (wL_asked Z x4) then
  (j32 (κ5 + 4))
  else (gd ((κ5 + 5) ≤ K) <|
  if (wL_taken Z x4) < 0 then
  (j32 (κ5 + 5))
  else (gd ((κ5 + 6) ≤ K) <|
  jn (fun (κ44 : Nat) =>
  gd ((κ44 + 1) ≤ K) <|
  if (wL_isLent Z x4 (-1)) = 0 then
  (gd ((κ44 + 2) ≤ K) <|
  if (wL_isLent Z x4 100) = 0 then
  (lt (x4 + 1) fun v52 =>
  self6 v52 (κ44 + 2))
  else (j32 (κ44 + 2)))
  else (j32 (κ44 + 1))) fun j45 =>
  if (wL_bestFees Z x4) ≤ 0 then
  (j45 (κ5 + 6))
  else (gd ((κ5 + 7) ≤ K) <|
  if (wL_asked Z x4) = 0 then
  (j32 (κ5 + 7))
  else (j45 (κ5 + 7)))))))
  else (j32 (κ5 + 2)))) N 0 0
abbrev rmL_loans (K : Nat) : Room := { frames := 9, cells := K, slots := 6 * K, locals := 197 }
set_option maxHeartbeats 4000000 in
set_option maxRecDepth 100000 in
theorem metL_loans {l : Launch} {s0 : State} {b B : Nat} {D : va_G} {T : Nat → ClassId} (F : FX l s0 b D T B) {X : Nat → Prop} (hX : ∀ o, o < 561 → ¬ X (B + o)) {N : Nat} (hN : 1200000000000 ≤ N) {Z : Nat → Int32} {hs : List (Nat → Int32)} {t : List Nat} {K : Nat}  {r : Bool} (h : fL_loans N Z K  = some r) : gMet l yL_loans cL_loans 3 (some .boolean) (rmL_loans K) [.ref (B + 0)] (gZ s0 D T B X Z hs t) (KC s0 X) (some (.int (b2i r))) (gZ s0 D T B X Z hs t) (gA B X) K (6 * K) := by
  refine gZ_of RL (by decide +kernel) rfl (Nat.le_of_ble_eq_true rfl) ?_
  intro p e s m args below meth c ls Q hx hb hlocks hml hown hts hW hk hl hS hend
  have hC := FX_C F hk hx hb hown hts
  have hl : lv_has ls 3 [(0, .ref (B + 0))] := hl
  unfold fL_loans at h
  refine lv_aload_n hx hb dL_loans_0 rfl (lv_at hl 0 rfl) ?_
  obtain ⟨g1, h⟩ := gd_out h
  refine gz_dv (As := []) (w := fun r => .int r) F hX hk hC hml hS hW (fun μ hP => z_exhibitCount (N := N) hP) (fun μ r h9 X9 hX9 => metX10_exhibitCount F hX9 is_Ga h9) ml_L_295 rfl ⟨rfl, rfl, (by first | exact Nat.le_of_ble_eq_true rfl | (simp only [rmL_loans]; omega) | (simp only [rmL_loans]; omega)), (by first | exact Nat.le_of_ble_eq_true rfl | (simp only [rmL_loans]; omega) | (simp only [rmL_loans]; omega))⟩ rfl hl.1 rfl (by first | exact Nat.le_of_ble_eq_true rfl | (simp only [rmL_loans]; omega) | (simp only [rmL_loans]; omega)) dL_loans_1 ⟨(by show _ ≤ K; omega), (by show _ ≤ 6 * K; omega)⟩ (fun H locs hW hS => ?_)
  obtain ⟨v2, e3, h⟩ := lt_out h
  rw [← e3]
  refine lv_istore_n (lv' := [(1, .int v2), (0, .ref (B + 0))]) hx hb dL_loans_4 rfl hl (by decide) rfl (fun ls hl => ?_)
  refine lv_iconst (v := 0) hx hb dL_loans_5 (by decide) ?_
  refine lv_istore_n (lv' := [(2, .int 0), (1, .int v2), (0, .ref (B + 0))]) hx hb dL_loans_6 rfl hl (by decide) rfl (fun ls hl => ?_)
  refine W.widen (k := 0) (n := 6 * 0) (by omega) (by omega) ?_
  refine fix2_ind (fun (x4 : Int32) (κ5 : Nat) => ∀ (H : Heap) (locs : List Loc) (ls : Array Slot), gZ s0 D T B X Z hs t H → va_S (gA B X) s.heap H locs → lv_has ls 3 [(0, .ref (B + 0)), (1, .int v2), (2, .int x4)] → W p l e (rmL_loans K) s m args below meth c H locs κ5 (6 * κ5) Q (F0 m 7 ls [])) ?_ N _ _ h _ _ _ hW hS (lv_sub hl [2, 1, 0] rfl)
  clear h hW hS hl
  intro self6 IH7 x4 κ5 h H locs ls hW hS hl
  refine lv_iload_n hx hb dL_loans_7 rfl (lv_at hl 2 rfl) ?_
  refine lv_iload_n hx hb dL_loans_8 rfl (lv_at hl 1 rfl) ?_
  refine lv_icmp_ge (tgt := 94) hx hb dL_loans_9 (by decide) (fun c8 => ?_) (fun c8 => ?_)
  · replace h := ite_t c8 h
    refine lv_aload_n hx hb dL_loans_94 rfl (lv_at hl 0 rfl) ?_
    refine lv_iload_n hx hb dL_loans_95 rfl (lv_at hl 1 rfl) ?_
    obtain ⟨g9, h⟩ := gd_out h
    refine gz_wr (As := [.ref (B + 0), .int v2]) F hk hC hml hS hW (mq_asked F hX hN) mw_L_369 ⟨rfl, rfl, (by first | exact Nat.le_of_ble_eq_true rfl | (simp only [rmL_loans]; omega) | (simp only [rmL_loans]; omega)), (by first | exact Nat.le_of_ble_eq_true rfl | (simp only [rmL_loans]; omega) | (simp only [rmL_loans]; omega))⟩ rfl hl.1 rfl (by first | exact Nat.le_of_ble_eq_true rfl | (simp only [rmL_loans]; omega) | (simp only [rmL_loans]; omega)) dL_loans_96 ⟨(by show _ ≤ K; omega), (by show _ ≤ 6 * K; omega)⟩ (fun H locs hW hS => ?_)
    refine W.widen (k := (κ5 + 1)) (n := 6 * (κ5 + 1)) (by omega) (by omega) ?_
    change W p l e _ s m args below meth c H locs _ _ Q (F0 m _ ls (.int (wL_asked Z v2) :: _))
    refine lv_bipush (v := (-11)) hx hb dL_loans_99 (by decide) ?_
    obtain ⟨j12, hj14, h⟩ := jn2_o h
    have J13 : ∀ (y10 : Bool) (κ11 : Nat), j12 y10 κ11 = some r → ∀ (H : Heap) (locs : List Loc) (ls : Array Slot), gZ s0 D T B X Z hs t H → va_S (gA B X) s.heap H locs → lv_has ls 3 [] → W p l e (rmL_loans K) s m args below meth c H locs κ11 (6 * κ11) Q (F0 m 150 ls [.int (b2i y10)]) := by
      clear h hW hS hl
      intro y10 κ11 h H locs ls hW hS hl
      replace h := (hj14 y10 κ11).symm.trans h
      obtain ⟨g15, h⟩ := gd_out h
      cases h
      exact hend dL_loans_150 hW hS (by omega) (by omega)
    obtain ⟨j17, hj19, h⟩ := jn1_o h
    have J18 : ∀ (κ16 : Nat), j17 κ16 = some r → ∀ (H : Heap) (locs : List Loc) (ls : Array Slot), gZ s0 D T B X Z hs t H → va_S (gA B X) s.heap H locs → lv_has ls 3 [] → W p l e (rmL_loans K) s m args below meth c H locs κ16 (6 * κ16) Q (F0 m 149 ls []) := by
      clear h hW hS hl
      intro κ16 h H locs ls hW hS hl
      replace h := (hj19 κ16).symm.trans h
      refine lv_iconst (v := 0) hx hb dL_loans_149 (by decide) ?_
      refine W.widen (k := κ16) (n := 6 * κ16) (by omega) (by omega) ?_
      exact J13 _ _ h _ _ _ hW hS (lv_sub hl [] rfl)
    refine lv_icmp_ne (tgt := 149) hx hb dL_loans_101 (by decide) (fun c20 => ?_) (fun c20 => ?_)
    · replace h := ite_f c20 h
      refine W.widen (k := (κ5 + 1)) (n := 6 * (κ5 + 1)) (by omega) (by omega) ?_
      exact J18 _ h _ _ _ hW hS (lv_sub hl [] rfl)
    · replace h := ite_t c20 h
      refine lv_aload_n hx hb dL_loans_104 rfl (lv_at hl 0 rfl) ?_
      refine lv_iload_n hx hb dL_loans_105 rfl (lv_at hl 1 rfl) ?_
      obtain ⟨g21, h⟩ := gd_out h
      refine gz_wr (As := [.ref (B + 0), .int v2]) F hk hC hml hS hW (mq_taken F hX hN) mw_L_372 ⟨rfl, rfl, (by first | exact Nat.le_of_ble_eq_true rfl | (simp only [rmL_loans]; omega) | (simp only [rmL_loans]; omega)), (by first | exact Nat.le_of_ble_eq_true rfl | (simp only [rmL_loans]; omega) | (simp only [rmL_loans]; omega))⟩ rfl hl.1 rfl (by first | exact Nat.le_of_ble_eq_true rfl | (simp only [rmL_loans]; omega) | (simp only [rmL_loans]; omega)) dL_loans_106 ⟨(by show _ ≤ K; omega), (by show _ ≤ 6 * K; omega)⟩ (fun H locs hW hS => ?_)
      refine W.widen (k := (κ5 + 2)) (n := 6 * (κ5 + 2)) (by omega) (by omega) ?_
      change W p l e _ s m args below meth c H locs _ _ Q (F0 m _ ls (.int (wL_taken Z v2) :: _))
      refine lv_bipush (v := (-11)) hx hb dL_loans_109 (by decide) ?_
      refine lv_icmp_ne (tgt := 149) hx hb dL_loans_111 (by decide) (fun c22 => ?_) (fun c22 => ?_)
      · replace h := ite_f c22 h
        refine W.widen (k := (κ5 + 2)) (n := 6 * (κ5 + 2)) (by omega) (by omega) ?_
        exact J18 _ h _ _ _ hW hS (lv_sub hl [] rfl)
      · replace h := ite_t c22 h
        refine lv_aload_n hx hb dL_loans_114 rfl (lv_at hl 0 rfl) ?_
        refine lv_iload_n hx hb dL_loans_115 rfl (lv_at hl 1 rfl) ?_
        obtain ⟨g23, h⟩ := gd_out h
        refine gz_wr (As := [.ref (B + 0), .int v2]) F hk hC hml hS hW (mq_bestFees F hX hN) mw_L_364 ⟨rfl, rfl, (by first | exact Nat.le_of_ble_eq_true rfl | (simp only [rmL_loans]; omega) | (simp only [rmL_loans]; omega)), (by first | exact Nat.le_of_ble_eq_true rfl | (simp only [rmL_loans]; omega) | (simp only [rmL_loans]; omega))⟩ rfl hl.1 rfl (by first | exact Nat.le_of_ble_eq_true rfl | (simp only [rmL_loans]; omega) | (simp only [rmL_loans]; omega)) dL_loans_116 ⟨(by show _ ≤ K; omega), (by show _ ≤ 6 * K; omega)⟩ (fun H locs hW hS => ?_)
        refine W.widen (k := (κ5 + 3)) (n := 6 * (κ5 + 3)) (by omega) (by omega) ?_
        change W p l e _ s m args below meth c H locs _ _ Q (F0 m _ ls (.int (wL_bestFees Z v2) :: _))
        refine lv_bipush (v := (-11)) hx hb dL_loans_119 (by decide) ?_
        refine lv_icmp_ne (tgt := 149) hx hb dL_loans_121 (by decide) (fun c24 => ?_) (fun c24 => ?_)
        · replace h := ite_f c24 h
          refine W.widen (k := (κ5 + 3)) (n := 6 * (κ5 + 3)) (by omega) (by omega) ?_
          exact J18 _ h _ _ _ hW hS (lv_sub hl [] rfl)
        · replace h := ite_t c24 h
          refine lv_aload_n hx hb dL_loans_124 rfl (lv_at hl 0 rfl) ?_
          refine lv_iconst (v := (-1)) hx hb dL_loans_125 (by decide) ?_
          obtain ⟨g25, h⟩ := gd_out h
          refine gz_wr (As := [.ref (B + 0), .int (-1)]) F hk hC hml hS hW (mq_byTrials F hX hN) mw_L_366 ⟨rfl, rfl, (by first | exact Nat.le_of_ble_eq_true rfl | (simp only [rmL_loans]; omega) | (simp only [rmL_loans]; omega)), (by first | exact Nat.le_of_ble_eq_true rfl | (simp only [rmL_loans]; omega) | (simp only [rmL_loans]; omega))⟩ rfl hl.1 rfl (by first | exact Nat.le_of_ble_eq_true rfl | (simp only [rmL_loans]; omega) | (simp only [rmL_loans]; omega)) dL_loans_126 ⟨(by show _ ≤ K; omega), (by show _ ≤ 6 * K; omega)⟩ (fun H locs hW hS => ?_)
          refine W.widen (k := (κ5 + 4)) (n := 6 * (κ5 + 4)) (by omega) (by omega) ?_
          change W p l e _ s m args below meth c H locs _ _ Q (F0 m _ ls (.int (wL_byTrials Z (-1)) :: _))
          refine lv_bipush (v := (-11)) hx hb dL_loans_129 (by decide) ?_
          refine lv_icmp_ne (tgt := 149) hx hb dL_loans_131 (by decide) (fun c26 => ?_) (fun c26 => ?_)
          · replace h := ite_f c26 h
            refine W.widen (k := (κ5 + 4)) (n := 6 * (κ5 + 4)) (by omega) (by omega) ?_
            exact J18 _ h _ _ _ hW hS (lv_sub hl [] rfl)
          · replace h := ite_t c26 h
            refine lv_aload_n hx hb dL_loans_134 rfl (lv_at hl 0 rfl) ?_
            refine lv_iload_n hx hb dL_loans_135 rfl (lv_at hl 1 rfl) ?_
            refine lv_iconst (v := 0) hx hb dL_loans_136 (by decide) ?_
            obtain ⟨g27, h⟩ := gd_out h
            refine gz_wr (As := [.ref (B + 0), .int v2, .int 0]) F hk hC hml hS hW (mq_isLent F hX hN) mw_L_375 ⟨rfl, rfl, (by first | exact Nat.le_of_ble_eq_true rfl | (simp only [rmL_loans]; omega) | (simp only [rmL_loans]; omega)), (by first | exact Nat.le_of_ble_eq_true rfl | (simp only [rmL_loans]; omega) | (simp only [rmL_loans]; omega))⟩ rfl hl.1 rfl (by first | exact Nat.le_of_ble_eq_true rfl | (simp only [rmL_loans]; omega) | (simp only [rmL_loans]; omega)) dL_loans_137 ⟨(by show _ ≤ K; omega), (by show _ ≤ 6 * K; omega)⟩ (fun H locs hW hS => ?_)
            refine W.widen (k := (κ5 + 5)) (n := 6 * (κ5 + 5)) (by omega) (by omega) ?_
            change W p l e _ s m args below meth c H locs _ _ Q (F0 m _ ls (.int (wL_isLent Z v2 0) :: _))
            refine lv_bipush (v := (-11)) hx hb dL_loans_140 (by decide) ?_
            refine lv_icmp_ne (tgt := 149) hx hb dL_loans_142 (by decide) (fun c28 => ?_) (fun c28 => ?_)
            · replace h := ite_f c28 h
              refine W.widen (k := (κ5 + 5)) (n := 6 * (κ5 + 5)) (by omega) (by omega) ?_
              exact J18 _ h _ _ _ hW hS (lv_sub hl [] rfl)
            · replace h := ite_t c28 h
              refine lv_iconst (v := 1) hx hb dL_loans_145 (by decide) ?_
              refine lv_goto (tgt := 150) hx hb dL_loans_146 (by decide) ?_
              refine W.widen (k := (κ5 + 5)) (n := 6 * (κ5 + 5)) (by omega) (by omega) ?_
              exact J13 _ _ h _ _ _ hW hS (lv_sub hl [] rfl)
  · replace h := ite_f c8 h
    refine lv_aload_n hx hb dL_loans_12 rfl (lv_at hl 0 rfl) ?_
    refine lv_iload_n hx hb dL_loans_13 rfl (lv_at hl 2 rfl) ?_
    obtain ⟨g29, h⟩ := gd_out h
    refine gz_wr (As := [.ref (B + 0), .int x4]) F hk hC hml hS hW (mq_bestFees F hX hN) mw_L_364 ⟨rfl, rfl, (by first | exact Nat.le_of_ble_eq_true rfl | (simp only [rmL_loans]; omega) | (simp only [rmL_loans]; omega)), (by first | exact Nat.le_of_ble_eq_true rfl | (simp only [rmL_loans]; omega) | (simp only [rmL_loans]; omega))⟩ rfl hl.1 rfl (by first | exact Nat.le_of_ble_eq_true rfl | (simp only [rmL_loans]; omega) | (simp only [rmL_loans]; omega)) dL_loans_14 ⟨(by show _ ≤ K; omega), (by show _ ≤ 6 * K; omega)⟩ (fun H locs hW hS => ?_)
    refine W.widen (k := (κ5 + 1)) (n := 6 * (κ5 + 1)) (by omega) (by omega) ?_
    change W p l e _ s m args below meth c H locs _ _ Q (F0 m _ ls (.int (wL_bestFees Z x4) :: _))
    refine lv_aload_n hx hb dL_loans_17 rfl (lv_at hl 0 rfl) ?_
    refine lv_iload_n hx hb dL_loans_18 rfl (lv_at hl 2 rfl) ?_
    obtain ⟨g30, h⟩ := gd_out h
    refine gz_wr (As := [.ref (B + 0), .int x4]) F hk hC hml hS hW (mq_byTrials F hX hN) mw_L_366 ⟨rfl, rfl, (by first | exact Nat.le_of_ble_eq_true rfl | (simp only [rmL_loans]; omega) | (simp only [rmL_loans]; omega)), (by first | exact Nat.le_of_ble_eq_true rfl | (simp only [rmL_loans]; omega) | (simp only [rmL_loans]; omega))⟩ rfl hl.1 rfl (by first | exact Nat.le_of_ble_eq_true rfl | (simp only [rmL_loans]; omega) | (simp only [rmL_loans]; omega)) dL_loans_19 ⟨(by show _ ≤ K; omega), (by show _ ≤ 6 * K; omega)⟩ (fun H locs hW hS => ?_)
    refine W.widen (k := (κ5 + 2)) (n := 6 * (κ5 + 2)) (by omega) (by omega) ?_
    change W p l e _ s m args below meth c H locs _ _ Q (F0 m _ ls (.int (wL_byTrials Z x4) :: _))
    obtain ⟨j32, hj34, h⟩ := jn1_o h
    have J33 : ∀ (κ31 : Nat), j32 κ31 = some r → ∀ (H : Heap) (locs : List Loc) (ls : Array Slot), gZ s0 D T B X Z hs t H → va_S (gA B X) s.heap H locs → lv_has ls 3 [] → W p l e (rmL_loans K) s m args below meth c H locs κ31 (6 * κ31) Q (F0 m 86 ls []) := by
      clear h hW hS hl
      intro κ31 h H locs ls hW hS hl
      replace h := (hj34 κ31).symm.trans h
      refine lv_iconst (v := 0) hx hb dL_loans_86 (by decide) ?_
      obtain ⟨g35, h⟩ := gd_out h
      cases h
      exact hend dL_loans_87 hW hS (by omega) (by omega)
    refine lv_icmp_ne (tgt := 86) hx hb dL_loans_22 (by decide) (fun c36 => ?_) (fun c36 => ?_)
    · replace h := ite_f c36 h
      refine W.widen (k := (κ5 + 2)) (n := 6 * (κ5 + 2)) (by omega) (by omega) ?_
      exact J33 _ h _ _ _ hW hS (lv_sub hl [] rfl)
    · replace h := ite_t c36 h
      refine lv_aload_n hx hb dL_loans_25 rfl (lv_at hl 0 rfl) ?_
      refine lv_iload_n hx hb dL_loans_26 rfl (lv_at hl 2 rfl) ?_
      obtain ⟨g37, h⟩ := gd_out h
      refine gz_wr (As := [.ref (B + 0), .int x4]) F hk hC hml hS hW (mq_asked F hX hN) mw_L_369 ⟨rfl, rfl, (by first | exact Nat.le_of_ble_eq_true rfl | (simp only [rmL_loans]; omega) | (simp only [rmL_loans]; omega)), (by first | exact Nat.le_of_ble_eq_true rfl | (simp only [rmL_loans]; omega) | (simp only [rmL_loans]; omega))⟩ rfl hl.1 rfl (by first | exact Nat.le_of_ble_eq_true rfl | (simp only [rmL_loans]; omega) | (simp only [rmL_loans]; omega)) dL_loans_27 ⟨(by show _ ≤ K; omega), (by show _ ≤ 6 * K; omega)⟩ (fun H locs hW hS => ?_)
      refine W.widen (k := (κ5 + 3)) (n := 6 * (κ5 + 3)) (by omega) (by omega) ?_
      change W p l e _ s m args below meth c H locs _ _ Q (F0 m _ ls (.int (wL_asked Z x4) :: _))
      refine lv_if_lt (tgt := 86) hx hb dL_loans_30 (by decide) (fun c38 => ?_) (fun c38 => ?_)
      · replace h := ite_t c38 h
        refine W.widen (k := (κ5 + 3)) (n := 6 * (κ5 + 3)) (by omega) (by omega) ?_
        exact J33 _ h _ _ _ hW hS (lv_sub hl [] rfl)
      · replace h := ite_f c38 h
        refine lv_aload_n hx hb dL_loans_33 rfl (lv_at hl 0 rfl) ?_
        refine lv_iload_n hx hb dL_loans_34 rfl (lv_at hl 2 rfl) ?_
        obtain ⟨g39, h⟩ := gd_out h
        refine gz_wr (As := [.ref (B + 0), .int x4]) F hk hC hml hS hW (mq_asked F hX hN) mw_L_369 ⟨rfl, rfl, (by first | exact Nat.le_of_ble_eq_true rfl | (simp only [rmL_loans]; omega) | (simp only [rmL_loans]; omega)), (by first | exact Nat.le_of_ble_eq_true rfl | (simp only [rmL_loans]; omega) | (simp only [rmL_loans]; omega))⟩ rfl hl.1 rfl (by first | exact Nat.le_of_ble_eq_true rfl | (simp only [rmL_loans]; omega) | (simp only [rmL_loans]; omega)) dL_loans_35 ⟨(by show _ ≤ K; omega), (by show _ ≤ 6 * K; omega)⟩ (fun H locs hW hS => ?_)
        refine W.widen (k := (κ5 + 4)) (n := 6 * (κ5 + 4)) (by omega) (by omega) ?_
        change W p l e _ s m args below meth c H locs _ _ Q (F0 m _ ls (.int (wL_asked Z x4) :: _))
        refine lv_bipush (v := 8) hx hb dL_loans_38 (by decide) ?_
        refine lv_icmp_gt (tgt := 86) hx hb dL_loans_40 (by decide) (fun c40 => ?_) (fun c40 => ?_)
        · replace h := ite_t c40 h
          refine W.widen (k := (κ5 + 4)) (n := 6 * (κ5 + 4)) (by omega) (by omega) ?_
          exact J33 _ h _ _ _ hW hS (lv_sub hl [] rfl)
        · replace h := ite_f c40 h
          refine lv_aload_n hx hb dL_loans_43 rfl (lv_at hl 0 rfl) ?_
          refine lv_iload_n hx hb dL_loans_44 rfl (lv_at hl 2 rfl) ?_
          obtain ⟨g41, h⟩ := gd_out h
          refine gz_wr (As := [.ref (B + 0), .int x4]) F hk hC hml hS hW (mq_taken F hX hN) mw_L_372 ⟨rfl, rfl, (by first | exact Nat.le_of_ble_eq_true rfl | (simp only [rmL_loans]; omega) | (simp only [rmL_loans]; omega)), (by first | exact Nat.le_of_ble_eq_true rfl | (simp only [rmL_loans]; omega) | (simp only [rmL_loans]; omega))⟩ rfl hl.1 rfl (by first | exact Nat.le_of_ble_eq_true rfl | (simp only [rmL_loans]; omega) | (simp only [rmL_loans]; omega)) dL_loans_45 ⟨(by show _ ≤ K; omega), (by show _ ≤ 6 * K; omega)⟩ (fun H locs hW hS => ?_)
          refine W.widen (k := (κ5 + 5)) (n := 6 * (κ5 + 5)) (by omega) (by omega) ?_
          change W p l e _ s m args below meth c H locs _ _ Q (F0 m _ ls (.int (wL_taken Z x4) :: _))
          refine lv_if_lt (tgt := 86) hx hb dL_loans_48 (by decide) (fun c42 => ?_) (fun c42 => ?_)
          · replace h := ite_t c42 h
            refine W.widen (k := (κ5 + 5)) (n := 6 * (κ5 + 5)) (by omega) (by omega) ?_
            exact J33 _ h _ _ _ hW hS (lv_sub hl [] rfl)
          · replace h := ite_f c42 h
            refine lv_aload_n hx hb dL_loans_51 rfl (lv_at hl 0 rfl) ?_
            refine lv_iload_n hx hb dL_loans_52 rfl (lv_at hl 2 rfl) ?_
            obtain ⟨g43, h⟩ := gd_out h
            refine gz_wr (As := [.ref (B + 0), .int x4]) F hk hC hml hS hW (mq_bestFees F hX hN) mw_L_364 ⟨rfl, rfl, (by first | exact Nat.le_of_ble_eq_true rfl | (simp only [rmL_loans]; omega) | (simp only [rmL_loans]; omega)), (by first | exact Nat.le_of_ble_eq_true rfl | (simp only [rmL_loans]; omega) | (simp only [rmL_loans]; omega))⟩ rfl hl.1 rfl (by first | exact Nat.le_of_ble_eq_true rfl | (simp only [rmL_loans]; omega) | (simp only [rmL_loans]; omega)) dL_loans_53 ⟨(by show _ ≤ K; omega), (by show _ ≤ 6 * K; omega)⟩ (fun H locs hW hS => ?_)
            refine W.widen (k := (κ5 + 6)) (n := 6 * (κ5 + 6)) (by omega) (by omega) ?_
            change W p l e _ s m args below meth c H locs _ _ Q (F0 m _ ls (.int (wL_bestFees Z x4) :: _))
            obtain ⟨j45, hj47, h⟩ := jn1_o h
            have J46 : ∀ (κ44 : Nat), j45 κ44 = some r → ∀ (H : Heap) (locs : List Loc) (ls : Array Slot), gZ s0 D T B X Z hs t H → va_S (gA B X) s.heap H locs → lv_has ls 3 [(0, .ref (B + 0)), (1, .int v2), (2, .int x4)] → W p l e (rmL_loans K) s m args below meth c H locs κ44 (6 * κ44) Q (F0 m 67 ls []) := by
              clear h hW hS hl
              intro κ44 h H locs ls hW hS hl
              replace h := (hj47 κ44).symm.trans h
              refine lv_aload_n hx hb dL_loans_67 rfl (lv_at hl 0 rfl) ?_
              refine lv_iload_n hx hb dL_loans_68 rfl (lv_at hl 2 rfl) ?_
              refine lv_iconst (v := (-1)) hx hb dL_loans_69 (by decide) ?_
              obtain ⟨g48, h⟩ := gd_out h
              refine gz_wr (As := [.ref (B + 0), .int x4, .int (-1)]) F hk hC hml hS hW (mq_isLent F hX hN) mw_L_375 ⟨rfl, rfl, (by first | exact Nat.le_of_ble_eq_true rfl | (simp only [rmL_loans]; omega) | (simp only [rmL_loans]; omega)), (by first | exact Nat.le_of_ble_eq_true rfl | (simp only [rmL_loans]; omega) | (simp only [rmL_loans]; omega))⟩ rfl hl.1 rfl (by first | exact Nat.le_of_ble_eq_true rfl | (simp only [rmL_loans]; omega) | (simp only [rmL_loans]; omega)) dL_loans_70 ⟨(by show _ ≤ K; omega), (by show _ ≤ 6 * K; omega)⟩ (fun H locs hW hS => ?_)
              refine W.widen (k := (κ44 + 1)) (n := 6 * (κ44 + 1)) (by omega) (by omega) ?_
              change W p l e _ s m args below meth c H locs _ _ Q (F0 m _ ls (.int (wL_isLent Z x4 (-1)) :: _))
              refine lv_if_ne (tgt := 86) hx hb dL_loans_73 (by decide) (fun c49 => ?_) (fun c49 => ?_)
              · replace h := ite_f c49 h
                refine W.widen (k := (κ44 + 1)) (n := 6 * (κ44 + 1)) (by omega) (by omega) ?_
                exact J33 _ h _ _ _ hW hS (lv_sub hl [] rfl)
              · replace h := ite_t c49 h
                refine lv_aload_n hx hb dL_loans_76 rfl (lv_at hl 0 rfl) ?_
                refine lv_iload_n hx hb dL_loans_77 rfl (lv_at hl 2 rfl) ?_
                refine lv_bipush (v := 100) hx hb dL_loans_78 (by decide) ?_
                obtain ⟨g50, h⟩ := gd_out h
                refine gz_wr (As := [.ref (B + 0), .int x4, .int 100]) F hk hC hml hS hW (mq_isLent F hX hN) mw_L_375 ⟨rfl, rfl, (by first | exact Nat.le_of_ble_eq_true rfl | (simp only [rmL_loans]; omega) | (simp only [rmL_loans]; omega)), (by first | exact Nat.le_of_ble_eq_true rfl | (simp only [rmL_loans]; omega) | (simp only [rmL_loans]; omega))⟩ rfl hl.1 rfl (by first | exact Nat.le_of_ble_eq_true rfl | (simp only [rmL_loans]; omega) | (simp only [rmL_loans]; omega)) dL_loans_80 ⟨(by show _ ≤ K; omega), (by show _ ≤ 6 * K; omega)⟩ (fun H locs hW hS => ?_)
                refine W.widen (k := (κ44 + 2)) (n := 6 * (κ44 + 2)) (by omega) (by omega) ?_
                change W p l e _ s m args below meth c H locs _ _ Q (F0 m _ ls (.int (wL_isLent Z x4 100) :: _))
                refine lv_if_eq (tgt := 88) hx hb dL_loans_83 (by decide) (fun c51 => ?_) (fun c51 => ?_)
                · replace h := ite_t c51 h
                  obtain ⟨v52, e53, h⟩ := lt_out h
                  refine lv_iinc (v := v52) (lv' := [(2, .int v52), (0, .ref (B + 0)), (1, .int v2)]) hx hb dL_loans_88 hl (k := 2) rfl (by rw [e53]; rfl) (by decide) rfl (fun ls hl => ?_)
                  refine lv_goto (tgt := 7) hx hb dL_loans_91 (by decide) ?_
                  refine W.widen (k := (κ44 + 2)) (n := 6 * (κ44 + 2)) (by omega) (by omega) ?_
                  exact IH7 _ _ h _ _ _ hW hS (lv_sub hl [1, 2, 0] rfl)
                · replace h := ite_f c51 h
                  refine W.widen (k := (κ44 + 2)) (n := 6 * (κ44 + 2)) (by omega) (by omega) ?_
                  exact J33 _ h _ _ _ hW hS (lv_sub hl [] rfl)
            refine lv_if_le (tgt := 67) hx hb dL_loans_56 (by decide) (fun c54 => ?_) (fun c54 => ?_)
            · replace h := ite_t c54 h
              refine W.widen (k := (κ5 + 6)) (n := 6 * (κ5 + 6)) (by omega) (by omega) ?_
              exact J46 _ h _ _ _ hW hS (lv_sub hl [0, 1, 2] rfl)
            · replace h := ite_f c54 h
              refine lv_aload_n hx hb dL_loans_59 rfl (lv_at hl 0 rfl) ?_
              refine lv_iload_n hx hb dL_loans_60 rfl (lv_at hl 2 rfl) ?_
              obtain ⟨g55, h⟩ := gd_out h
              refine gz_wr (As := [.ref (B + 0), .int x4]) F hk hC hml hS hW (mq_asked F hX hN) mw_L_369 ⟨rfl, rfl, (by first | exact Nat.le_of_ble_eq_true rfl | (simp only [rmL_loans]; omega) | (simp only [rmL_loans]; omega)), (by first | exact Nat.le_of_ble_eq_true rfl | (simp only [rmL_loans]; omega) | (simp only [rmL_loans]; omega))⟩ rfl hl.1 rfl (by first | exact Nat.le_of_ble_eq_true rfl | (simp only [rmL_loans]; omega) | (simp only [rmL_loans]; omega)) dL_loans_61 ⟨(by show _ ≤ K; omega), (by show _ ≤ 6 * K; omega)⟩ (fun H locs hW hS => ?_)
              refine W.widen (k := (κ5 + 7)) (n := 6 * (κ5 + 7)) (by omega) (by omega) ?_
              change W p l e _ s m args below meth c H locs _ _ Q (F0 m _ ls (.int (wL_asked Z x4) :: _))
              refine lv_if_eq (tgt := 86) hx hb dL_loans_64 (by decide) (fun c56 => ?_) (fun c56 => ?_)
              · replace h := ite_t c56 h
                refine W.widen (k := (κ5 + 7)) (n := 6 * (κ5 + 7)) (by omega) (by omega) ?_
                exact J33 _ h _ _ _ hW hS (lv_sub hl [] rfl)
              · replace h := ite_f c56 h
                refine W.widen (k := (κ5 + 7)) (n := 6 * (κ5 + 7)) (by omega) (by omega) ?_
                exact J46 _ h _ _ _ hW hS (lv_sub hl [0, 1, 2] rfl)

theorem dL_sum_0 : decode cL_sum 0 = .ok (.ldc2_w 263, 3) := by decide +kernel
theorem dL_sum_3 : decode cL_sum 3 = .ok (.aload_n 0, 1) := by decide +kernel
theorem dL_sum_4 : decode cL_sum 4 = .ok (.invokevirtual 342, 3) := by decide +kernel
theorem dL_sum_7 : decode cL_sum 7 = .ok (.i2l, 1) := by decide +kernel
theorem dL_sum_8 : decode cL_sum 8 = .ok (.ladd, 1) := by decide +kernel
theorem dL_sum_9 : decode cL_sum 9 = .ok (.lstore_n 1, 1) := by decide +kernel
theorem dL_sum_10 : decode cL_sum 10 = .ok (.ldc2_w 412, 3) := by decide +kernel
theorem dL_sum_13 : decode cL_sum 13 = .ok (.lload_n 1, 1) := by decide +kernel
theorem dL_sum_14 : decode cL_sum 14 = .ok (.lmul, 1) := by decide +kernel
theorem dL_sum_15 : decode cL_sum 15 = .ok (.aload_n 0, 1) := by decide +kernel
theorem dL_sum_16 : decode cL_sum 16 = .ok (.invokevirtual 414, 3) := by decide +kernel
theorem dL_sum_19 : decode cL_sum 19 = .ok (.i2l, 1) := by decide +kernel
theorem dL_sum_20 : decode cL_sum 20 = .ok (.ladd, 1) := by decide +kernel
theorem dL_sum_21 : decode cL_sum 21 = .ok (.lstore_n 1, 1) := by decide +kernel
theorem dL_sum_22 : decode cL_sum 22 = .ok (.iconst 0, 1) := by decide +kernel
theorem dL_sum_23 : decode cL_sum 23 = .ok (.istore_n 3, 1) := by decide +kernel
theorem dL_sum_24 : decode cL_sum 24 = .ok (.iload_n 3, 1) := by decide +kernel
theorem dL_sum_25 : decode cL_sum 25 = .ok (.aload_n 0, 1) := by decide +kernel
theorem dL_sum_26 : decode cL_sum 26 = .ok (.invokevirtual 250, 3) := by decide +kernel
theorem dL_sum_29 : decode cL_sum 29 = .ok (.if_icmp .ge 64, 3) := by decide +kernel
theorem dL_sum_32 : decode cL_sum 32 = .ok (.ldc2_w 417, 3) := by decide +kernel
theorem dL_sum_35 : decode cL_sum 35 = .ok (.lload_n 1, 1) := by decide +kernel
theorem dL_sum_36 : decode cL_sum 36 = .ok (.lmul, 1) := by decide +kernel
theorem dL_sum_37 : decode cL_sum 37 = .ok (.aload_n 0, 1) := by decide +kernel
theorem dL_sum_38 : decode cL_sum 38 = .ok (.iload_n 3, 1) := by decide +kernel
theorem dL_sum_39 : decode cL_sum 39 = .ok (.invokevirtual 33, 3) := by decide +kernel
theorem dL_sum_42 : decode cL_sum 42 = .ok (.i2l, 1) := by decide +kernel
theorem dL_sum_43 : decode cL_sum 43 = .ok (.ladd, 1) := by decide +kernel
theorem dL_sum_44 : decode cL_sum 44 = .ok (.lstore_n 1, 1) := by decide +kernel
theorem dL_sum_45 : decode cL_sum 45 = .ok (.iconst 0, 1) := by decide +kernel
theorem dL_sum_46 : decode cL_sum 46 = .ok (.istore 4, 2) := by decide +kernel
theorem dL_sum_48 : decode cL_sum 48 = .ok (.iload 4, 2) := by decide +kernel
theorem dL_sum_50 : decode cL_sum 50 = .ok (.iload_n 3, 1) := by decide +kernel
theorem dL_sum_51 : decode cL_sum 51 = .ok (.if_icmp .ge 36, 3) := by decide +kernel
theorem dL_sum_54 : decode cL_sum 54 = .ok (.ldc2_w 419, 3) := by decide +kernel
theorem dL_sum_57 : decode cL_sum 57 = .ok (.lload_n 1, 1) := by decide +kernel
theorem dL_sum_58 : decode cL_sum 58 = .ok (.lmul, 1) := by decide +kernel
theorem dL_sum_59 : decode cL_sum 59 = .ok (.bipush 20, 2) := by decide +kernel
theorem dL_sum_61 : decode cL_sum 61 = .ok (.aload_n 0, 1) := by decide +kernel
theorem dL_sum_62 : decode cL_sum 62 = .ok (.iload_n 3, 1) := by decide +kernel
theorem dL_sum_63 : decode cL_sum 63 = .ok (.iload 4, 2) := by decide +kernel
theorem dL_sum_65 : decode cL_sum 65 = .ok (.invokestatic 253, 3) := by decide +kernel
theorem dL_sum_68 : decode cL_sum 68 = .ok (.imul, 1) := by decide +kernel
theorem dL_sum_69 : decode cL_sum 69 = .ok (.i2l, 1) := by decide +kernel
theorem dL_sum_70 : decode cL_sum 70 = .ok (.ladd, 1) := by decide +kernel
theorem dL_sum_71 : decode cL_sum 71 = .ok (.aload_n 0, 1) := by decide +kernel
theorem dL_sum_72 : decode cL_sum 72 = .ok (.iload_n 3, 1) := by decide +kernel
theorem dL_sum_73 : decode cL_sum 73 = .ok (.iload 4, 2) := by decide +kernel
theorem dL_sum_75 : decode cL_sum 75 = .ok (.invokestatic 282, 3) := by decide +kernel
theorem dL_sum_78 : decode cL_sum 78 = .ok (.i2l, 1) := by decide +kernel
theorem dL_sum_79 : decode cL_sum 79 = .ok (.ladd, 1) := by decide +kernel
theorem dL_sum_80 : decode cL_sum 80 = .ok (.lstore_n 1, 1) := by decide +kernel
theorem dL_sum_81 : decode cL_sum 81 = .ok (.iinc 4 1, 3) := by decide +kernel
theorem dL_sum_84 : decode cL_sum 84 = .ok (.goto (-36), 3) := by decide +kernel
theorem dL_sum_87 : decode cL_sum 87 = .ok (.iinc 3 1, 3) := by decide +kernel
theorem dL_sum_90 : decode cL_sum 90 = .ok (.goto (-66), 3) := by decide +kernel
theorem dL_sum_93 : decode cL_sum 93 = .ok (.iconst 0, 1) := by decide +kernel
theorem dL_sum_94 : decode cL_sum 94 = .ok (.istore_n 3, 1) := by decide +kernel
theorem dL_sum_95 : decode cL_sum 95 = .ok (.iload_n 3, 1) := by decide +kernel
theorem dL_sum_96 : decode cL_sum 96 = .ok (.aload_n 0, 1) := by decide +kernel
theorem dL_sum_97 : decode cL_sum 97 = .ok (.invokevirtual 295, 3) := by decide +kernel
theorem dL_sum_100 : decode cL_sum 100 = .ok (.if_icmp .ge 166, 3) := by decide +kernel
theorem dL_sum_103 : decode cL_sum 103 = .ok (.ldc2_w 421, 3) := by decide +kernel
theorem dL_sum_106 : decode cL_sum 106 = .ok (.lload_n 1, 1) := by decide +kernel
theorem dL_sum_107 : decode cL_sum 107 = .ok (.lmul, 1) := by decide +kernel
theorem dL_sum_108 : decode cL_sum 108 = .ok (.bipush 10, 2) := by decide +kernel
theorem dL_sum_110 : decode cL_sum 110 = .ok (.aload_n 0, 1) := by decide +kernel
theorem dL_sum_111 : decode cL_sum 111 = .ok (.iload_n 3, 1) := by decide +kernel
theorem dL_sum_112 : decode cL_sum 112 = .ok (.invokevirtual 70, 3) := by decide +kernel
theorem dL_sum_115 : decode cL_sum 115 = .ok (.imul, 1) := by decide +kernel
theorem dL_sum_116 : decode cL_sum 116 = .ok (.i2l, 1) := by decide +kernel
theorem dL_sum_117 : decode cL_sum 117 = .ok (.ladd, 1) := by decide +kernel
theorem dL_sum_118 : decode cL_sum 118 = .ok (.aload_n 0, 1) := by decide +kernel
theorem dL_sum_119 : decode cL_sum 119 = .ok (.iload_n 3, 1) := by decide +kernel
theorem dL_sum_120 : decode cL_sum 120 = .ok (.invokevirtual 73, 3) := by decide +kernel
theorem dL_sum_123 : decode cL_sum 123 = .ok (.i2l, 1) := by decide +kernel
theorem dL_sum_124 : decode cL_sum 124 = .ok (.ladd, 1) := by decide +kernel
theorem dL_sum_125 : decode cL_sum 125 = .ok (.lstore_n 1, 1) := by decide +kernel
theorem dL_sum_126 : decode cL_sum 126 = .ok (.ldc2_w 423, 3) := by decide +kernel
theorem dL_sum_129 : decode cL_sum 129 = .ok (.lload_n 1, 1) := by decide +kernel
theorem dL_sum_130 : decode cL_sum 130 = .ok (.lmul, 1) := by decide +kernel
theorem dL_sum_131 : decode cL_sum 131 = .ok (.sipush 1000, 3) := by decide +kernel
theorem dL_sum_134 : decode cL_sum 134 = .ok (.aload_n 0, 1) := by decide +kernel
theorem dL_sum_135 : decode cL_sum 135 = .ok (.iload_n 3, 1) := by decide +kernel
theorem dL_sum_136 : decode cL_sum 136 = .ok (.invokevirtual 95, 3) := by decide +kernel
theorem dL_sum_139 : decode cL_sum 139 = .ok (.imul, 1) := by decide +kernel
theorem dL_sum_140 : decode cL_sum 140 = .ok (.i2l, 1) := by decide +kernel
theorem dL_sum_141 : decode cL_sum 141 = .ok (.ladd, 1) := by decide +kernel
theorem dL_sum_142 : decode cL_sum 142 = .ok (.aload_n 0, 1) := by decide +kernel
theorem dL_sum_143 : decode cL_sum 143 = .ok (.iload_n 3, 1) := by decide +kernel
theorem dL_sum_144 : decode cL_sum 144 = .ok (.invokevirtual 101, 3) := by decide +kernel
theorem dL_sum_147 : decode cL_sum 147 = .ok (.i2l, 1) := by decide +kernel
theorem dL_sum_148 : decode cL_sum 148 = .ok (.ladd, 1) := by decide +kernel
theorem dL_sum_149 : decode cL_sum 149 = .ok (.lstore_n 1, 1) := by decide +kernel
theorem dL_sum_150 : decode cL_sum 150 = .ok (.ldc2_w 425, 3) := by decide +kernel
theorem dL_sum_153 : decode cL_sum 153 = .ok (.lload_n 1, 1) := by decide +kernel
theorem dL_sum_154 : decode cL_sum 154 = .ok (.lmul, 1) := by decide +kernel
theorem dL_sum_155 : decode cL_sum 155 = .ok (.sipush 1000, 3) := by decide +kernel
theorem dL_sum_158 : decode cL_sum 158 = .ok (.aload_n 0, 1) := by decide +kernel
theorem dL_sum_159 : decode cL_sum 159 = .ok (.iload_n 3, 1) := by decide +kernel
theorem dL_sum_160 : decode cL_sum 160 = .ok (.invokevirtual 133, 3) := by decide +kernel
theorem dL_sum_163 : decode cL_sum 163 = .ok (.imul, 1) := by decide +kernel
theorem dL_sum_164 : decode cL_sum 164 = .ok (.i2l, 1) := by decide +kernel
theorem dL_sum_165 : decode cL_sum 165 = .ok (.ladd, 1) := by decide +kernel
theorem dL_sum_166 : decode cL_sum 166 = .ok (.bipush 10, 2) := by decide +kernel
theorem dL_sum_168 : decode cL_sum 168 = .ok (.aload_n 0, 1) := by decide +kernel
theorem dL_sum_169 : decode cL_sum 169 = .ok (.iload_n 3, 1) := by decide +kernel
theorem dL_sum_170 : decode cL_sum 170 = .ok (.invokevirtual 127, 3) := by decide +kernel
theorem dL_sum_173 : decode cL_sum 173 = .ok (.imul, 1) := by decide +kernel
theorem dL_sum_174 : decode cL_sum 174 = .ok (.i2l, 1) := by decide +kernel
theorem dL_sum_175 : decode cL_sum 175 = .ok (.ladd, 1) := by decide +kernel
theorem dL_sum_176 : decode cL_sum 176 = .ok (.aload_n 0, 1) := by decide +kernel
theorem dL_sum_177 : decode cL_sum 177 = .ok (.iload_n 3, 1) := by decide +kernel
theorem dL_sum_178 : decode cL_sum 178 = .ok (.invokevirtual 130, 3) := by decide +kernel
theorem dL_sum_181 : decode cL_sum 181 = .ok (.i2l, 1) := by decide +kernel
theorem dL_sum_182 : decode cL_sum 182 = .ok (.ladd, 1) := by decide +kernel
theorem dL_sum_183 : decode cL_sum 183 = .ok (.lstore_n 1, 1) := by decide +kernel
theorem dL_sum_184 : decode cL_sum 184 = .ok (.iconst 0, 1) := by decide +kernel
theorem dL_sum_185 : decode cL_sum 185 = .ok (.istore 4, 2) := by decide +kernel
theorem dL_sum_187 : decode cL_sum 187 = .ok (.iload 4, 2) := by decide +kernel
theorem dL_sum_189 : decode cL_sum 189 = .ok (.bipush 16, 2) := by decide +kernel
theorem dL_sum_191 : decode cL_sum 191 = .ok (.if_icmp .ge 30, 3) := by decide +kernel
theorem dL_sum_194 : decode cL_sum 194 = .ok (.ldc2_w 427, 3) := by decide +kernel
theorem dL_sum_197 : decode cL_sum 197 = .ok (.lload_n 1, 1) := by decide +kernel
theorem dL_sum_198 : decode cL_sum 198 = .ok (.lmul, 1) := by decide +kernel
theorem dL_sum_199 : decode cL_sum 199 = .ok (.aload_n 0, 1) := by decide +kernel
theorem dL_sum_200 : decode cL_sum 200 = .ok (.iload_n 3, 1) := by decide +kernel
theorem dL_sum_201 : decode cL_sum 201 = .ok (.iload 4, 2) := by decide +kernel
theorem dL_sum_203 : decode cL_sum 203 = .ok (.iconst 4, 1) := by decide +kernel
theorem dL_sum_204 : decode cL_sum 204 = .ok (.irem, 1) := by decide +kernel
theorem dL_sum_205 : decode cL_sum 205 = .ok (.iload 4, 2) := by decide +kernel
theorem dL_sum_207 : decode cL_sum 207 = .ok (.iconst 4, 1) := by decide +kernel
theorem dL_sum_208 : decode cL_sum 208 = .ok (.idiv, 1) := by decide +kernel
theorem dL_sum_209 : decode cL_sum 209 = .ok (.invokevirtual 76, 3) := by decide +kernel
theorem dL_sum_212 : decode cL_sum 212 = .ok (.i2l, 1) := by decide +kernel
theorem dL_sum_213 : decode cL_sum 213 = .ok (.ladd, 1) := by decide +kernel
theorem dL_sum_214 : decode cL_sum 214 = .ok (.lstore_n 1, 1) := by decide +kernel
theorem dL_sum_215 : decode cL_sum 215 = .ok (.iinc 4 1, 3) := by decide +kernel
theorem dL_sum_218 : decode cL_sum 218 = .ok (.goto (-31), 3) := by decide +kernel
theorem dL_sum_221 : decode cL_sum 221 = .ok (.iconst 0, 1) := by decide +kernel
theorem dL_sum_222 : decode cL_sum 222 = .ok (.istore 4, 2) := by decide +kernel
theorem dL_sum_224 : decode cL_sum 224 = .ok (.iload 4, 2) := by decide +kernel
theorem dL_sum_226 : decode cL_sum 226 = .ok (.bipush 100, 2) := by decide +kernel
theorem dL_sum_228 : decode cL_sum 228 = .ok (.if_icmp .ge 32, 3) := by decide +kernel
theorem dL_sum_231 : decode cL_sum 231 = .ok (.ldc2_w 429, 3) := by decide +kernel
theorem dL_sum_234 : decode cL_sum 234 = .ok (.lload_n 1, 1) := by decide +kernel
theorem dL_sum_235 : decode cL_sum 235 = .ok (.lmul, 1) := by decide +kernel
theorem dL_sum_236 : decode cL_sum 236 = .ok (.aload_n 0, 1) := by decide +kernel
theorem dL_sum_237 : decode cL_sum 237 = .ok (.iload_n 3, 1) := by decide +kernel
theorem dL_sum_238 : decode cL_sum 238 = .ok (.iload 4, 2) := by decide +kernel
theorem dL_sum_240 : decode cL_sum 240 = .ok (.invokevirtual 139, 3) := by decide +kernel
theorem dL_sum_243 : decode cL_sum 243 = .ok (.ifCond .eq 7, 3) := by decide +kernel
theorem dL_sum_246 : decode cL_sum 246 = .ok (.iconst 1, 1) := by decide +kernel
theorem dL_sum_247 : decode cL_sum 247 = .ok (.goto 4, 3) := by decide +kernel
theorem dL_sum_250 : decode cL_sum 250 = .ok (.iconst 0, 1) := by decide +kernel
theorem dL_sum_251 : decode cL_sum 251 = .ok (.i2l, 1) := by decide +kernel
theorem dL_sum_252 : decode cL_sum 252 = .ok (.ladd, 1) := by decide +kernel
theorem dL_sum_253 : decode cL_sum 253 = .ok (.lstore_n 1, 1) := by decide +kernel
theorem dL_sum_254 : decode cL_sum 254 = .ok (.iinc 4 1, 3) := by decide +kernel
theorem dL_sum_257 : decode cL_sum 257 = .ok (.goto (-33), 3) := by decide +kernel
theorem dL_sum_260 : decode cL_sum 260 = .ok (.iinc 3 1, 3) := by decide +kernel
theorem dL_sum_263 : decode cL_sum 263 = .ok (.goto (-168), 3) := by decide +kernel
theorem dL_sum_266 : decode cL_sum 266 = .ok (.ldc2_w 431, 3) := by decide +kernel
theorem dL_sum_269 : decode cL_sum 269 = .ok (.lload_n 1, 1) := by decide +kernel
theorem dL_sum_270 : decode cL_sum 270 = .ok (.lmul, 1) := by decide +kernel
theorem dL_sum_271 : decode cL_sum 271 = .ok (.bipush 10, 2) := by decide +kernel
theorem dL_sum_273 : decode cL_sum 273 = .ok (.aload_n 0, 1) := by decide +kernel
theorem dL_sum_274 : decode cL_sum 274 = .ok (.invokevirtual 250, 3) := by decide +kernel
theorem dL_sum_277 : decode cL_sum 277 = .ok (.imul, 1) := by decide +kernel
theorem dL_sum_278 : decode cL_sum 278 = .ok (.i2l, 1) := by decide +kernel
theorem dL_sum_279 : decode cL_sum 279 = .ok (.ladd, 1) := by decide +kernel
theorem dL_sum_280 : decode cL_sum 280 = .ok (.aload_n 0, 1) := by decide +kernel
theorem dL_sum_281 : decode cL_sum 281 = .ok (.invokevirtual 295, 3) := by decide +kernel
theorem dL_sum_284 : decode cL_sum 284 = .ok (.i2l, 1) := by decide +kernel
theorem dL_sum_285 : decode cL_sum 285 = .ok (.ladd, 1) := by decide +kernel
theorem dL_sum_286 : decode cL_sum 286 = .ok (.lreturn, 1) := by decide +kernel
noncomputable def fL_sum (N : Nat) (Z : Nat → Int32) (K : Nat)  : Option Int64 :=
  gd (0 ≤ K) <|
  lt ((7 : Int64) + (Int32.toInt64 (Z 2))) fun v2 =>
  gd (0 ≤ K) <|
  lt (((31 : Int64) * v2) + (Int32.toInt64 (Z 3))) fun v5 =>
  fix3 (fun self10 (x7 : Int64) (x8 : Int32) (κ9 : Nat) =>
  gd (κ9 ≤ K) <|
  if (nI (nZ Z)) ≤ x8 then
  (fix3 (fun self17 (x14 : Int64) (x15 : Int32) (κ16 : Nat) =>
  gd (κ16 ≤ K) <|
  if (nI (eZ Z)) ≤ x15 then
  (gd (κ16 ≤ K) <|
  gd (κ16 ≤ K) <|
  gd (κ16 ≤ K) <|
  some ((((59 : Int64) * x14) + (Int32.toInt64 (10 * (nI (nZ Z))))) + (Int32.toInt64 (nI (eZ Z)))))
  else (gd ((κ16 + 1) ≤ K) <|
  (gR (aRoomOf Z x15)).bind fun v25 =>
  gd ((κ16 + 2) ≤ K) <|
  (gR (aLimit Z x15)).bind fun v28 =>
  lt ((((43 : Int64) * x14) + (Int32.toInt64 (10 * v25))) + (Int32.toInt64 v28)) fun v30 =>
  gd ((κ16 + 3) ≤ K) <|
  (gR (aDropped Z x15)).bind fun v33 =>
  gd ((κ16 + 4) ≤ K) <|
  (gR (aMelted Z x15)).bind fun v36 =>
  lt ((((47 : Int64) * v30) + (Int32.toInt64 (1000 * v33))) + (Int32.toInt64 v36)) fun v38 =>
  gd ((κ16 + 5) ≤ K) <|
  (gR (aFees Z x15)).bind fun v41 =>
  gd ((κ16 + 6) ≤ K) <|
  (gR (aAsked Z x15)).bind fun v44 =>
  gd ((κ16 + 7) ≤ K) <|
  (gR (aTaken Z x15)).bind fun v47 =>
  lt (((((53 : Int64) * v38) + (Int32.toInt64 (1000 * v41))) + (Int32.toInt64 (10 * v44))) + (Int32.toInt64 v47)) fun v49 =>
  fix3 (fun self54 (x51 : Int64) (x52 : Int32) (κ53 : Nat) =>
  if 16 ≤ x52 then
  (fix3 (fun self60 (x57 : Int64) (x58 : Int32) (κ59 : Nat) =>
  if 100 ≤ x58 then
  (lt (x15 + 1) fun v63 =>
  self17 x57 v63 κ59)
  else (gd ((κ59 + 1) ≤ K) <|
  (gR (aLent Z x15 x58)).bind fun v66 =>
  jn (fun (y68 : Bool) (κ69 : Nat) =>
  lt (((3 : Int64) * x57) + (Int32.toInt64 (b2i y68))) fun v73 =>
  lt (x58 + 1) fun v75 =>
  self60 v73 v75 κ69) fun j70 =>
  cond v66
  (j70 true (κ59 + 1))
  (j70 false (κ59 + 1)))) N x51 0 κ53)
  else (gd ((κ53 + 2) ≤ K) <|
  (gR (aGrainsAt Z x15 (x52 - x52 / 4 * 4) (x52 / 4))).bind fun v79 =>
  lt (((5 : Int64) * x51) + (Int32.toInt64 v79)) fun v81 =>
  lt (x52 + 1) fun v83 =>
  self54 v81 v83 (κ53 + 2))) N v49 0 (κ16 + 7))) N x7 0 κ9)
  else (gd ((κ9 + 1) ≤ K) <|
  (gR (aWarmth Z x8)).bind fun v86 =>
  lt (((37 : Int64) * x7) + (Int32.toInt64 v86)) fun v88 =>
  fix3 (fun self93 (x90 : Int64) (x91 : Int32) (κ92 : Nat) =>
  if x8 ≤ x91 then
  (lt (x8 + 1) fun v96 =>
  self10 x90 v96 κ92)
  else (gd ((κ92 + 1) ≤ K) <|
  gd ((κ92 + 2) ≤ K) <|
  lt ((((41 : Int64) * x90) + (Int32.toInt64 (20 * (wL_legMinutes Z x8 x91)))) + (Int32.toInt64 (wL_legWarmth Z x8 x91))) fun v100 =>
  lt (x91 + 1) fun v102 =>
  self93 v100 v102 (κ92 + 2))) N v88 0 (κ9 + 1))) N v5 0 0
abbrev rmL_sum (K : Nat) : Room := { frames := 9, cells := K, slots := 6 * K, locals := 185 }
set_option maxHeartbeats 4000000 in
set_option maxRecDepth 100000 in
theorem metL_sum {l : Launch} {s0 : State} {b B : Nat} {D : va_G} {T : Nat → ClassId} (F : FX l s0 b D T B) {X : Nat → Prop} (hX : ∀ o, o < 561 → ¬ X (B + o)) {N : Nat} (hN : 1200000000000 ≤ N) {Z : Nat → Int32} {hs : List (Nat → Int32)} {t : List Nat} {K : Nat}  {r : Int64} (h : fL_sum N Z K  = some r) : gMet l yL_sum cL_sum 5 (some .long) (rmL_sum K) [.ref (B + 0)] (gZ s0 D T B X Z hs t) (KC s0 X) (some (.long r)) (gZ s0 D T B X Z hs t) (gA B X) K (6 * K) := by
  refine gJ_of RL (by decide +kernel) rfl (Nat.le_of_ble_eq_true rfl) ?_
  intro p e s m args below meth c ls Q hx hb hlocks hml hown hts hW hk hl hS hend
  have hC := FX_C F hk hx hb hown hts
  have hl : lv_has ls 5 [(0, .ref (B + 0))] := hl
  unfold fL_sum at h
  refine lv_ldc2 (v := 7) hx hb hown (hts _ kc_L_263) dL_sum_0 ?_
  refine lv_aload_n hx hb dL_sum_3 rfl (lv_at hl 0 rfl) ?_
  obtain ⟨g1, h⟩ := gd_out h
  refine gz_dv (As := []) (w := fun r => .int r) F hX hk hC hml hS hW (fun μ hP => z_day (N := N) hP) (fun μ r h9 X9 hX9 => metX10_day F hX9 is_Ga h9) ml_L_342 rfl ⟨rfl, rfl, (by first | exact Nat.le_of_ble_eq_true rfl | (simp only [rmL_sum]; omega) | (simp only [rmL_sum]; omega)), (by first | exact Nat.le_of_ble_eq_true rfl | (simp only [rmL_sum]; omega) | (simp only [rmL_sum]; omega))⟩ rfl hl.1 rfl (by first | exact Nat.le_of_ble_eq_true rfl | (simp only [rmL_sum]; omega) | (simp only [rmL_sum]; omega)) dL_sum_4 ⟨(by show _ ≤ K; omega), (by show _ ≤ 6 * K; omega)⟩ (fun H locs hW hS => ?_)
  refine lv_i2l hx hb dL_sum_7 rfl ?_
  refine lv_ladd hx hb dL_sum_8 ?_
  obtain ⟨v2, e3, h⟩ := lt_out h
  rw [← e3]
  refine lv_lstore_n (lv' := [(1, .long v2), (0, .ref (B + 0))]) hx hb dL_sum_9 rfl hl (by decide) rfl (fun ls hl => ?_)
  refine lv_ldc2 (v := 31) hx hb hown (hts _ kc_L_412) dL_sum_10 ?_
  refine lv_lload_n hx hb dL_sum_13 rfl (lv_at hl 0 rfl) ?_
  refine lv_lmul hx hb dL_sum_14 ?_
  refine lv_aload_n hx hb dL_sum_15 rfl (lv_at hl 1 rfl) ?_
  obtain ⟨g4, h⟩ := gd_out h
  refine gz_dv (As := []) (w := fun r => .int r) F hX hk hC hml hS hW (fun μ hP => z_income (N := N) hP) (fun μ r h9 X9 hX9 => metX10_income F hX9 is_Ga h9) ml_L_414 rfl ⟨rfl, rfl, (by first | exact Nat.le_of_ble_eq_true rfl | (simp only [rmL_sum]; omega) | (simp only [rmL_sum]; omega)), (by first | exact Nat.le_of_ble_eq_true rfl | (simp only [rmL_sum]; omega) | (simp only [rmL_sum]; omega))⟩ rfl hl.1 rfl (by first | exact Nat.le_of_ble_eq_true rfl | (simp only [rmL_sum]; omega) | (simp only [rmL_sum]; omega)) dL_sum_16 ⟨(by show _ ≤ K; omega), (by show _ ≤ 6 * K; omega)⟩ (fun H locs hW hS => ?_)
  refine lv_i2l hx hb dL_sum_19 rfl ?_
  refine lv_ladd hx hb dL_sum_20 ?_
  obtain ⟨v5, e6, h⟩ := lt_out h
  rw [← e6]
  refine lv_lstore_n (lv' := [(1, .long v5), (0, .ref (B + 0))]) hx hb dL_sum_21 rfl hl (by decide) rfl (fun ls hl => ?_)
  refine lv_iconst (v := 0) hx hb dL_sum_22 (by decide) ?_
  refine lv_istore_n (lv' := [(3, .int 0), (1, .long v5), (0, .ref (B + 0))]) hx hb dL_sum_23 rfl hl (by decide) rfl (fun ls hl => ?_)
  refine W.widen (k := 0) (n := 6 * 0) (by omega) (by omega) ?_
  refine fix3_ind (fun (x7 : Int64) (x8 : Int32) (κ9 : Nat) => ∀ (H : Heap) (locs : List Loc) (ls : Array Slot), gZ s0 D T B X Z hs t H → va_S (gA B X) s.heap H locs → lv_has ls 5 [(0, .ref (B + 0)), (1, .long x7), (3, .int x8)] → W p l e (rmL_sum K) s m args below meth c H locs κ9 (6 * κ9) Q (F0 m 24 ls [])) ?_ N _ _ _ h _ _ _ hW hS (lv_sub hl [2, 1, 0] rfl)
  clear h hW hS hl
  intro self10 IH11 x7 x8 κ9 h H locs ls hW hS hl
  refine lv_iload_n hx hb dL_sum_24 rfl (lv_at hl 2 rfl) ?_
  refine lv_aload_n hx hb dL_sum_25 rfl (lv_at hl 0 rfl) ?_
  obtain ⟨g12, h⟩ := gd_out h
  refine gz_dv (As := []) (w := fun r => .int r) F hX hk hC hml hS hW (fun μ hP => z_roomCount (N := N) hP) (fun μ r h9 X9 hX9 => metX10_roomCount F hX9 is_Ga h9) ml_L_250 rfl ⟨rfl, rfl, (by first | exact Nat.le_of_ble_eq_true rfl | (simp only [rmL_sum]; omega) | (simp only [rmL_sum]; omega)), (by first | exact Nat.le_of_ble_eq_true rfl | (simp only [rmL_sum]; omega) | (simp only [rmL_sum]; omega))⟩ rfl hl.1 rfl (by first | exact Nat.le_of_ble_eq_true rfl | (simp only [rmL_sum]; omega) | (simp only [rmL_sum]; omega)) dL_sum_26 ⟨(by show _ ≤ K; omega), (by show _ ≤ 6 * K; omega)⟩ (fun H locs hW hS => ?_)
  refine lv_icmp_ge (tgt := 93) hx hb dL_sum_29 (by decide) (fun c13 => ?_) (fun c13 => ?_)
  · replace h := ite_t c13 h
    refine lv_iconst (v := 0) hx hb dL_sum_93 (by decide) ?_
    refine lv_istore_n (lv' := [(3, .int 0), (0, .ref (B + 0)), (1, .long x7)]) hx hb dL_sum_94 rfl hl (by decide) rfl (fun ls hl => ?_)
    refine W.widen (k := κ9) (n := 6 * κ9) (by omega) (by omega) ?_
    refine fix3_ind (fun (x14 : Int64) (x15 : Int32) (κ16 : Nat) => ∀ (H : Heap) (locs : List Loc) (ls : Array Slot), gZ s0 D T B X Z hs t H → va_S (gA B X) s.heap H locs → lv_has ls 5 [(0, .ref (B + 0)), (1, .long x14), (3, .int x15)] → W p l e (rmL_sum K) s m args below meth c H locs κ16 (6 * κ16) Q (F0 m 95 ls [])) ?_ N _ _ _ h _ _ _ hW hS (lv_sub hl [1, 2, 0] rfl)
    clear h hW hS hl
    intro self17 IH18 x14 x15 κ16 h H locs ls hW hS hl
    refine lv_iload_n hx hb dL_sum_95 rfl (lv_at hl 2 rfl) ?_
    refine lv_aload_n hx hb dL_sum_96 rfl (lv_at hl 0 rfl) ?_
    obtain ⟨g19, h⟩ := gd_out h
    refine gz_dv (As := []) (w := fun r => .int r) F hX hk hC hml hS hW (fun μ hP => z_exhibitCount (N := N) hP) (fun μ r h9 X9 hX9 => metX10_exhibitCount F hX9 is_Ga h9) ml_L_295 rfl ⟨rfl, rfl, (by first | exact Nat.le_of_ble_eq_true rfl | (simp only [rmL_sum]; omega) | (simp only [rmL_sum]; omega)), (by first | exact Nat.le_of_ble_eq_true rfl | (simp only [rmL_sum]; omega) | (simp only [rmL_sum]; omega))⟩ rfl hl.1 rfl (by first | exact Nat.le_of_ble_eq_true rfl | (simp only [rmL_sum]; omega) | (simp only [rmL_sum]; omega)) dL_sum_97 ⟨(by show _ ≤ K; omega), (by show _ ≤ 6 * K; omega)⟩ (fun H locs hW hS => ?_)
    refine lv_icmp_ge (tgt := 266) hx hb dL_sum_100 (by decide) (fun c20 => ?_) (fun c20 => ?_)
    · replace h := ite_t c20 h
      refine lv_ldc2 (v := 59) hx hb hown (hts _ kc_L_431) dL_sum_266 ?_
      refine lv_lload_n hx hb dL_sum_269 rfl (lv_at hl 1 rfl) ?_
      refine lv_lmul hx hb dL_sum_270 ?_
      refine lv_bipush (v := 10) hx hb dL_sum_271 (by decide) ?_
      refine lv_aload_n hx hb dL_sum_273 rfl (lv_at hl 0 rfl) ?_
      obtain ⟨g21, h⟩ := gd_out h
      refine gz_dv (As := []) (w := fun r => .int r) F hX hk hC hml hS hW (fun μ hP => z_roomCount (N := N) hP) (fun μ r h9 X9 hX9 => metX10_roomCount F hX9 is_Ga h9) ml_L_250 rfl ⟨rfl, rfl, (by first | exact Nat.le_of_ble_eq_true rfl | (simp only [rmL_sum]; omega) | (simp only [rmL_sum]; omega)), (by first | exact Nat.le_of_ble_eq_true rfl | (simp only [rmL_sum]; omega) | (simp only [rmL_sum]; omega))⟩ rfl hl.1 rfl (by first | exact Nat.le_of_ble_eq_true rfl | (simp only [rmL_sum]; omega) | (simp only [rmL_sum]; omega)) dL_sum_274 ⟨(by show _ ≤ K; omega), (by show _ ≤ 6 * K; omega)⟩ (fun H locs hW hS => ?_)
      refine lv_imul hx hb dL_sum_277 ?_
      refine lv_i2l hx hb dL_sum_278 rfl ?_
      refine lv_ladd hx hb dL_sum_279 ?_
      refine lv_aload_n hx hb dL_sum_280 rfl (lv_at hl 0 rfl) ?_
      obtain ⟨g22, h⟩ := gd_out h
      refine gz_dv (As := []) (w := fun r => .int r) F hX hk hC hml hS hW (fun μ hP => z_exhibitCount (N := N) hP) (fun μ r h9 X9 hX9 => metX10_exhibitCount F hX9 is_Ga h9) ml_L_295 rfl ⟨rfl, rfl, (by first | exact Nat.le_of_ble_eq_true rfl | (simp only [rmL_sum]; omega) | (simp only [rmL_sum]; omega)), (by first | exact Nat.le_of_ble_eq_true rfl | (simp only [rmL_sum]; omega) | (simp only [rmL_sum]; omega))⟩ rfl hl.1 rfl (by first | exact Nat.le_of_ble_eq_true rfl | (simp only [rmL_sum]; omega) | (simp only [rmL_sum]; omega)) dL_sum_281 ⟨(by show _ ≤ K; omega), (by show _ ≤ 6 * K; omega)⟩ (fun H locs hW hS => ?_)
      refine lv_i2l hx hb dL_sum_284 rfl ?_
      refine lv_ladd hx hb dL_sum_285 ?_
      obtain ⟨g23, h⟩ := gd_out h
      cases h
      exact hend dL_sum_286 hW hS (by omega) (by omega)
    · replace h := ite_f c20 h
      refine lv_ldc2 (v := 43) hx hb hown (hts _ kc_L_421) dL_sum_103 ?_
      refine lv_lload_n hx hb dL_sum_106 rfl (lv_at hl 1 rfl) ?_
      refine lv_lmul hx hb dL_sum_107 ?_
      refine lv_bipush (v := 10) hx hb dL_sum_108 (by decide) ?_
      refine lv_aload_n hx hb dL_sum_110 rfl (lv_at hl 0 rfl) ?_
      refine lv_iload_n hx hb dL_sum_111 rfl (lv_at hl 2 rfl) ?_
      obtain ⟨g24, h⟩ := gd_out h
      obtain ⟨v25, hv26, h⟩ := bd_out h
      refine gz_dx (As := [.int x15]) (o := oI) (w := .int v25) F hX hk hC hml hS hW (fun μ hP => z_roomOf (N := N) hP) (fun μ r h9 X9 hX9 => metX10_roomOf F hX9 is_Ga h9) (gR_o hv26) rfl ml_L_70 rfl ⟨rfl, rfl, (by first | exact Nat.le_of_ble_eq_true rfl | (simp only [rmL_sum]; omega) | (simp only [rmL_sum]; omega)), (by first | exact Nat.le_of_ble_eq_true rfl | (simp only [rmL_sum]; omega) | (simp only [rmL_sum]; omega))⟩ rfl hl.1 rfl (by first | exact Nat.le_of_ble_eq_true rfl | (simp only [rmL_sum]; omega) | (simp only [rmL_sum]; omega)) dL_sum_112 ⟨(by show _ ≤ K; omega), (by show _ ≤ 6 * K; omega)⟩ (fun H locs hW hS => ?_)
      refine W.widen (k := (κ16 + 1)) (n := 6 * (κ16 + 1)) (by omega) (by omega) ?_
      refine lv_imul hx hb dL_sum_115 ?_
      refine lv_i2l hx hb dL_sum_116 rfl ?_
      refine lv_ladd hx hb dL_sum_117 ?_
      refine lv_aload_n hx hb dL_sum_118 rfl (lv_at hl 0 rfl) ?_
      refine lv_iload_n hx hb dL_sum_119 rfl (lv_at hl 2 rfl) ?_
      obtain ⟨g27, h⟩ := gd_out h
      obtain ⟨v28, hv29, h⟩ := bd_out h
      refine gz_dx (As := [.int x15]) (o := oI) (w := .int v28) F hX hk hC hml hS hW (fun μ hP => z_limit (N := N) hP) (fun μ r h9 X9 hX9 => metX10_limit F hX9 is_Ga h9) (gR_o hv29) rfl ml_L_73 rfl ⟨rfl, rfl, (by first | exact Nat.le_of_ble_eq_true rfl | (simp only [rmL_sum]; omega) | (simp only [rmL_sum]; omega)), (by first | exact Nat.le_of_ble_eq_true rfl | (simp only [rmL_sum]; omega) | (simp only [rmL_sum]; omega))⟩ rfl hl.1 rfl (by first | exact Nat.le_of_ble_eq_true rfl | (simp only [rmL_sum]; omega) | (simp only [rmL_sum]; omega)) dL_sum_120 ⟨(by show _ ≤ K; omega), (by show _ ≤ 6 * K; omega)⟩ (fun H locs hW hS => ?_)
      refine W.widen (k := (κ16 + 2)) (n := 6 * (κ16 + 2)) (by omega) (by omega) ?_
      refine lv_i2l hx hb dL_sum_123 rfl ?_
      refine lv_ladd hx hb dL_sum_124 ?_
      obtain ⟨v30, e31, h⟩ := lt_out h
      rw [← e31]
      refine lv_lstore_n (lv' := [(1, .long v30), (0, .ref (B + 0)), (3, .int x15)]) hx hb dL_sum_125 rfl hl (by decide) rfl (fun ls hl => ?_)
      refine lv_ldc2 (v := 47) hx hb hown (hts _ kc_L_423) dL_sum_126 ?_
      refine lv_lload_n hx hb dL_sum_129 rfl (lv_at hl 0 rfl) ?_
      refine lv_lmul hx hb dL_sum_130 ?_
      refine lv_sipush (v := 1000) hx hb dL_sum_131 (by decide) ?_
      refine lv_aload_n hx hb dL_sum_134 rfl (lv_at hl 1 rfl) ?_
      refine lv_iload_n hx hb dL_sum_135 rfl (lv_at hl 2 rfl) ?_
      obtain ⟨g32, h⟩ := gd_out h
      obtain ⟨v33, hv34, h⟩ := bd_out h
      refine gz_dx (As := [.int x15]) (o := oI) (w := .int v33) F hX hk hC hml hS hW (fun μ hP => z_dropped (N := N) hP) (fun μ r h9 X9 hX9 => metX10_dropped F hX9 is_Ga h9) (gR_o hv34) rfl ml_L_95 rfl ⟨rfl, rfl, (by first | exact Nat.le_of_ble_eq_true rfl | (simp only [rmL_sum]; omega) | (simp only [rmL_sum]; omega)), (by first | exact Nat.le_of_ble_eq_true rfl | (simp only [rmL_sum]; omega) | (simp only [rmL_sum]; omega))⟩ rfl hl.1 rfl (by first | exact Nat.le_of_ble_eq_true rfl | (simp only [rmL_sum]; omega) | (simp only [rmL_sum]; omega)) dL_sum_136 ⟨(by show _ ≤ K; omega), (by show _ ≤ 6 * K; omega)⟩ (fun H locs hW hS => ?_)
      refine W.widen (k := (κ16 + 3)) (n := 6 * (κ16 + 3)) (by omega) (by omega) ?_
      refine lv_imul hx hb dL_sum_139 ?_
      refine lv_i2l hx hb dL_sum_140 rfl ?_
      refine lv_ladd hx hb dL_sum_141 ?_
      refine lv_aload_n hx hb dL_sum_142 rfl (lv_at hl 1 rfl) ?_
      refine lv_iload_n hx hb dL_sum_143 rfl (lv_at hl 2 rfl) ?_
      obtain ⟨g35, h⟩ := gd_out h
      obtain ⟨v36, hv37, h⟩ := bd_out h
      refine gz_dx (As := [.int x15]) (o := oI) (w := .int v36) F hX hk hC hml hS hW (fun μ hP => z_melted (N := N) hP) (fun μ r h9 X9 hX9 => metX10_melted F hX9 is_Ga h9) (gR_o hv37) rfl ml_L_101 rfl ⟨rfl, rfl, (by first | exact Nat.le_of_ble_eq_true rfl | (simp only [rmL_sum]; omega) | (simp only [rmL_sum]; omega)), (by first | exact Nat.le_of_ble_eq_true rfl | (simp only [rmL_sum]; omega) | (simp only [rmL_sum]; omega))⟩ rfl hl.1 rfl (by first | exact Nat.le_of_ble_eq_true rfl | (simp only [rmL_sum]; omega) | (simp only [rmL_sum]; omega)) dL_sum_144 ⟨(by show _ ≤ K; omega), (by show _ ≤ 6 * K; omega)⟩ (fun H locs hW hS => ?_)
      refine W.widen (k := (κ16 + 4)) (n := 6 * (κ16 + 4)) (by omega) (by omega) ?_
      refine lv_i2l hx hb dL_sum_147 rfl ?_
      refine lv_ladd hx hb dL_sum_148 ?_
      obtain ⟨v38, e39, h⟩ := lt_out h
      rw [← e39]
      refine lv_lstore_n (lv' := [(1, .long v38), (0, .ref (B + 0)), (3, .int x15)]) hx hb dL_sum_149 rfl hl (by decide) rfl (fun ls hl => ?_)
      refine lv_ldc2 (v := 53) hx hb hown (hts _ kc_L_425) dL_sum_150 ?_
      refine lv_lload_n hx hb dL_sum_153 rfl (lv_at hl 0 rfl) ?_
      refine lv_lmul hx hb dL_sum_154 ?_
      refine lv_sipush (v := 1000) hx hb dL_sum_155 (by decide) ?_
      refine lv_aload_n hx hb dL_sum_158 rfl (lv_at hl 1 rfl) ?_
      refine lv_iload_n hx hb dL_sum_159 rfl (lv_at hl 2 rfl) ?_
      obtain ⟨g40, h⟩ := gd_out h
      obtain ⟨v41, hv42, h⟩ := bd_out h
      refine gz_dx (As := [.int x15]) (o := oI) (w := .int v41) F hX hk hC hml hS hW (fun μ hP => z_bestFees (N := N) (by omega) hP) (fun μ r h9 X9 hX9 => metX10_bestFees F hX9 is_Ga h9) (gR_o hv42) rfl ml_L_133 rfl ⟨rfl, rfl, (by first | exact Nat.le_of_ble_eq_true rfl | (simp only [rmL_sum]; omega) | (simp only [rmL_sum]; omega)), (by first | exact Nat.le_of_ble_eq_true rfl | (simp only [rmL_sum]; omega) | (simp only [rmL_sum]; omega))⟩ rfl hl.1 rfl (by first | exact Nat.le_of_ble_eq_true rfl | (simp only [rmL_sum]; omega) | (simp only [rmL_sum]; omega)) dL_sum_160 ⟨(by show _ ≤ K; omega), (by show _ ≤ 6 * K; omega)⟩ (fun H locs hW hS => ?_)
      refine W.widen (k := (κ16 + 5)) (n := 6 * (κ16 + 5)) (by omega) (by omega) ?_
      refine lv_imul hx hb dL_sum_163 ?_
      refine lv_i2l hx hb dL_sum_164 rfl ?_
      refine lv_ladd hx hb dL_sum_165 ?_
      refine lv_bipush (v := 10) hx hb dL_sum_166 (by decide) ?_
      refine lv_aload_n hx hb dL_sum_168 rfl (lv_at hl 1 rfl) ?_
      refine lv_iload_n hx hb dL_sum_169 rfl (lv_at hl 2 rfl) ?_
      obtain ⟨g43, h⟩ := gd_out h
      obtain ⟨v44, hv45, h⟩ := bd_out h
      refine gz_dx (As := [.int x15]) (o := oI) (w := .int v44) F hX hk hC hml hS hW (fun μ hP => z_askedCount (N := N) hP) (fun μ r h9 X9 hX9 => metX10_askedCount F hX9 is_Ga h9) (gR_o hv45) rfl ml_L_127 rfl ⟨rfl, rfl, (by first | exact Nat.le_of_ble_eq_true rfl | (simp only [rmL_sum]; omega) | (simp only [rmL_sum]; omega)), (by first | exact Nat.le_of_ble_eq_true rfl | (simp only [rmL_sum]; omega) | (simp only [rmL_sum]; omega))⟩ rfl hl.1 rfl (by first | exact Nat.le_of_ble_eq_true rfl | (simp only [rmL_sum]; omega) | (simp only [rmL_sum]; omega)) dL_sum_170 ⟨(by show _ ≤ K; omega), (by show _ ≤ 6 * K; omega)⟩ (fun H locs hW hS => ?_)
      refine W.widen (k := (κ16 + 6)) (n := 6 * (κ16 + 6)) (by omega) (by omega) ?_
      refine lv_imul hx hb dL_sum_173 ?_
      refine lv_i2l hx hb dL_sum_174 rfl ?_
      refine lv_ladd hx hb dL_sum_175 ?_
      refine lv_aload_n hx hb dL_sum_176 rfl (lv_at hl 1 rfl) ?_
      refine lv_iload_n hx hb dL_sum_177 rfl (lv_at hl 2 rfl) ?_
      obtain ⟨g46, h⟩ := gd_out h
      obtain ⟨v47, hv48, h⟩ := bd_out h
      refine gz_dx (As := [.int x15]) (o := oI) (w := .int v47) F hX hk hC hml hS hW (fun μ hP => z_takenCount (N := N) hP) (fun μ r h9 X9 hX9 => metX10_takenCount F hX9 is_Ga h9) (gR_o hv48) rfl ml_L_130 rfl ⟨rfl, rfl, (by first | exact Nat.le_of_ble_eq_true rfl | (simp only [rmL_sum]; omega) | (simp only [rmL_sum]; omega)), (by first | exact Nat.le_of_ble_eq_true rfl | (simp only [rmL_sum]; omega) | (simp only [rmL_sum]; omega))⟩ rfl hl.1 rfl (by first | exact Nat.le_of_ble_eq_true rfl | (simp only [rmL_sum]; omega) | (simp only [rmL_sum]; omega)) dL_sum_178 ⟨(by show _ ≤ K; omega), (by show _ ≤ 6 * K; omega)⟩ (fun H locs hW hS => ?_)
      refine W.widen (k := (κ16 + 7)) (n := 6 * (κ16 + 7)) (by omega) (by omega) ?_
      refine lv_i2l hx hb dL_sum_181 rfl ?_
      refine lv_ladd hx hb dL_sum_182 ?_
      obtain ⟨v49, e50, h⟩ := lt_out h
      rw [← e50]
      refine lv_lstore_n (lv' := [(1, .long v49), (0, .ref (B + 0)), (3, .int x15)]) hx hb dL_sum_183 rfl hl (by decide) rfl (fun ls hl => ?_)
      refine lv_iconst (v := 0) hx hb dL_sum_184 (by decide) ?_
      refine lv_istore (lv' := [(4, .int 0), (1, .long v49), (0, .ref (B + 0)), (3, .int x15)]) hx hb dL_sum_185 hl (by decide) rfl (fun ls hl => ?_)
      refine W.widen (k := (κ16 + 7)) (n := 6 * (κ16 + 7)) (by omega) (by omega) ?_
      refine fix3_ind (fun (x51 : Int64) (x52 : Int32) (κ53 : Nat) => ∀ (H : Heap) (locs : List Loc) (ls : Array Slot), gZ s0 D T B X Z hs t H → va_S (gA B X) s.heap H locs → lv_has ls 5 [(0, .ref (B + 0)), (1, .long x51), (3, .int x15), (4, .int x52)] → W p l e (rmL_sum K) s m args below meth c H locs κ53 (6 * κ53) Q (F0 m 187 ls [])) ?_ N _ _ _ h _ _ _ hW hS (lv_sub hl [2, 1, 3, 0] rfl)
      clear h hW hS hl
      intro self54 IH55 x51 x52 κ53 h H locs ls hW hS hl
      refine lv_iload hx hb dL_sum_187 (lv_at hl 3 rfl) ?_
      refine lv_bipush (v := 16) hx hb dL_sum_189 (by decide) ?_
      refine lv_icmp_ge (tgt := 221) hx hb dL_sum_191 (by decide) (fun c56 => ?_) (fun c56 => ?_)
      · replace h := ite_t c56 h
        refine lv_iconst (v := 0) hx hb dL_sum_221 (by decide) ?_
        refine lv_istore (lv' := [(4, .int 0), (0, .ref (B + 0)), (1, .long x51), (3, .int x15)]) hx hb dL_sum_222 hl (by decide) rfl (fun ls hl => ?_)
        refine W.widen (k := κ53) (n := 6 * κ53) (by omega) (by omega) ?_
        refine fix3_ind (fun (x57 : Int64) (x58 : Int32) (κ59 : Nat) => ∀ (H : Heap) (locs : List Loc) (ls : Array Slot), gZ s0 D T B X Z hs t H → va_S (gA B X) s.heap H locs → lv_has ls 5 [(0, .ref (B + 0)), (1, .long x57), (3, .int x15), (4, .int x58)] → W p l e (rmL_sum K) s m args below meth c H locs κ59 (6 * κ59) Q (F0 m 224 ls [])) ?_ N _ _ _ h _ _ _ hW hS (lv_sub hl [1, 2, 3, 0] rfl)
        clear h hW hS hl
        intro self60 IH61 x57 x58 κ59 h H locs ls hW hS hl
        refine lv_iload hx hb dL_sum_224 (lv_at hl 3 rfl) ?_
        refine lv_bipush (v := 100) hx hb dL_sum_226 (by decide) ?_
        refine lv_icmp_ge (tgt := 260) hx hb dL_sum_228 (by decide) (fun c62 => ?_) (fun c62 => ?_)
        · replace h := ite_t c62 h
          obtain ⟨v63, e64, h⟩ := lt_out h
          refine lv_iinc (v := v63) (lv' := [(3, .int v63), (0, .ref (B + 0)), (1, .long x57), (4, .int x58)]) hx hb dL_sum_260 hl (k := 2) rfl (by rw [e64]; rfl) (by decide) rfl (fun ls hl => ?_)
          refine lv_goto (tgt := 95) hx hb dL_sum_263 (by decide) ?_
          refine W.widen (k := κ59) (n := 6 * κ59) (by omega) (by omega) ?_
          exact IH18 _ _ _ h _ _ _ hW hS (lv_sub hl [1, 2, 0] rfl)
        · replace h := ite_f c62 h
          refine lv_ldc2 (v := 3) hx hb hown (hts _ kc_L_429) dL_sum_231 ?_
          refine lv_lload_n hx hb dL_sum_234 rfl (lv_at hl 1 rfl) ?_
          refine lv_lmul hx hb dL_sum_235 ?_
          refine lv_aload_n hx hb dL_sum_236 rfl (lv_at hl 0 rfl) ?_
          refine lv_iload_n hx hb dL_sum_237 rfl (lv_at hl 2 rfl) ?_
          refine lv_iload hx hb dL_sum_238 (lv_at hl 3 rfl) ?_
          obtain ⟨g65, h⟩ := gd_out h
          obtain ⟨v66, hv67, h⟩ := bd_out h
          refine gz_dx (As := [.int x15, .int x58]) (o := oZ) (w := .int (b2i v66)) F hX hk hC hml hS hW (fun μ hP => z_isLent (N := N) hP) (fun μ r h9 X9 hX9 => metX10_isLent F hX9 is_Ga h9) (gR_o hv67) rfl ml_L_139 rfl ⟨rfl, rfl, (by first | exact Nat.le_of_ble_eq_true rfl | (simp only [rmL_sum]; omega) | (simp only [rmL_sum]; omega)), (by first | exact Nat.le_of_ble_eq_true rfl | (simp only [rmL_sum]; omega) | (simp only [rmL_sum]; omega))⟩ rfl hl.1 rfl (by first | exact Nat.le_of_ble_eq_true rfl | (simp only [rmL_sum]; omega) | (simp only [rmL_sum]; omega)) dL_sum_240 ⟨(by show _ ≤ K; omega), (by show _ ≤ 6 * K; omega)⟩ (fun H locs hW hS => ?_)
          refine W.widen (k := (κ59 + 1)) (n := 6 * (κ59 + 1)) (by omega) (by omega) ?_
          obtain ⟨j70, hj72, h⟩ := jn2_o h
          have J71 : ∀ (y68 : Bool) (κ69 : Nat), j70 y68 κ69 = some r → ∀ (H : Heap) (locs : List Loc) (ls : Array Slot), gZ s0 D T B X Z hs t H → va_S (gA B X) s.heap H locs → lv_has ls 5 [(0, .ref (B + 0)), (3, .int x15), (4, .int x58)] → W p l e (rmL_sum K) s m args below meth c H locs κ69 (6 * κ69) Q (F0 m 251 ls [.int (b2i y68), .long ((3 : Int64) * x57)]) := by
            clear h hW hS hl
            intro y68 κ69 h H locs ls hW hS hl
            replace h := (hj72 y68 κ69).symm.trans h
            refine lv_i2l hx hb dL_sum_251 rfl ?_
            refine lv_ladd hx hb dL_sum_252 ?_
            obtain ⟨v73, e74, h⟩ := lt_out h
            rw [← e74]
            refine lv_lstore_n (lv' := [(1, .long v73), (0, .ref (B + 0)), (3, .int x15), (4, .int x58)]) hx hb dL_sum_253 rfl hl (by decide) rfl (fun ls hl => ?_)
            obtain ⟨v75, e76, h⟩ := lt_out h
            refine lv_iinc (v := v75) (lv' := [(4, .int v75), (1, .long v73), (0, .ref (B + 0)), (3, .int x15)]) hx hb dL_sum_254 hl (k := 3) rfl (by rw [e76]; rfl) (by decide) rfl (fun ls hl => ?_)
            refine lv_goto (tgt := 224) hx hb dL_sum_257 (by decide) ?_
            refine W.widen (k := κ69) (n := 6 * κ69) (by omega) (by omega) ?_
            exact IH61 _ _ _ h _ _ _ hW hS (lv_sub hl [2, 1, 3, 0] rfl)
          refine gw_if_eqZ (tgt := 250) hx hb dL_sum_243 (by decide) (fun c77 => ?_) (fun c77 => ?_)
          · replace h := cond_f c77 h
            refine lv_iconst (v := 0) hx hb dL_sum_250 (by decide) ?_
            refine W.widen (k := (κ59 + 1)) (n := 6 * (κ59 + 1)) (by omega) (by omega) ?_
            exact J71 _ _ h _ _ _ hW hS (lv_sub hl [0, 2, 3] rfl)
          · replace h := cond_t c77 h
            refine lv_iconst (v := 1) hx hb dL_sum_246 (by decide) ?_
            refine lv_goto (tgt := 251) hx hb dL_sum_247 (by decide) ?_
            refine W.widen (k := (κ59 + 1)) (n := 6 * (κ59 + 1)) (by omega) (by omega) ?_
            exact J71 _ _ h _ _ _ hW hS (lv_sub hl [0, 2, 3] rfl)
      · replace h := ite_f c56 h
        refine lv_ldc2 (v := 5) hx hb hown (hts _ kc_L_427) dL_sum_194 ?_
        refine lv_lload_n hx hb dL_sum_197 rfl (lv_at hl 1 rfl) ?_
        refine lv_lmul hx hb dL_sum_198 ?_
        refine lv_aload_n hx hb dL_sum_199 rfl (lv_at hl 0 rfl) ?_
        refine lv_iload_n hx hb dL_sum_200 rfl (lv_at hl 2 rfl) ?_
        refine lv_iload hx hb dL_sum_201 (lv_at hl 3 rfl) ?_
        refine lv_iconst (v := 4) hx hb dL_sum_203 (by decide) ?_
        refine lv_irem hx hb dL_sum_204 (by decide) ?_
        refine lv_iload hx hb dL_sum_205 (lv_at hl 3 rfl) ?_
        refine lv_iconst (v := 4) hx hb dL_sum_207 (by decide) ?_
        refine lv_idiv hx hb dL_sum_208 (by decide) ?_
        obtain ⟨g78, h⟩ := gd_out h
        obtain ⟨v79, hv80, h⟩ := bd_out h
        refine gz_dx (As := [.int x15, .int (x52 - x52 / 4 * 4), .int (x52 / 4)]) (o := oI) (w := .int v79) F hX hk hC hml hS hW (fun μ hP => z_grainsAt (N := N) hP) (fun μ r h9 X9 hX9 => metX10_grainsAt F hX9 is_Ga h9) (gR_o hv80) rfl ml_L_76 rfl ⟨rfl, rfl, (by first | exact Nat.le_of_ble_eq_true rfl | (simp only [rmL_sum]; omega) | (simp only [rmL_sum]; omega)), (by first | exact Nat.le_of_ble_eq_true rfl | (simp only [rmL_sum]; omega) | (simp only [rmL_sum]; omega))⟩ rfl hl.1 rfl (by first | exact Nat.le_of_ble_eq_true rfl | (simp only [rmL_sum]; omega) | (simp only [rmL_sum]; omega)) dL_sum_209 ⟨(by show _ ≤ K; omega), (by show _ ≤ 6 * K; omega)⟩ (fun H locs hW hS => ?_)
        refine W.widen (k := (κ53 + 2)) (n := 6 * (κ53 + 2)) (by omega) (by omega) ?_
        refine lv_i2l hx hb dL_sum_212 rfl ?_
        refine lv_ladd hx hb dL_sum_213 ?_
        obtain ⟨v81, e82, h⟩ := lt_out h
        rw [← e82]
        refine lv_lstore_n (lv' := [(1, .long v81), (0, .ref (B + 0)), (3, .int x15), (4, .int x52)]) hx hb dL_sum_214 rfl hl (by decide) rfl (fun ls hl => ?_)
        obtain ⟨v83, e84, h⟩ := lt_out h
        refine lv_iinc (v := v83) (lv' := [(4, .int v83), (1, .long v81), (0, .ref (B + 0)), (3, .int x15)]) hx hb dL_sum_215 hl (k := 3) rfl (by rw [e84]; rfl) (by decide) rfl (fun ls hl => ?_)
        refine lv_goto (tgt := 187) hx hb dL_sum_218 (by decide) ?_
        refine W.widen (k := (κ53 + 2)) (n := 6 * (κ53 + 2)) (by omega) (by omega) ?_
        exact IH55 _ _ _ h _ _ _ hW hS (lv_sub hl [2, 1, 3, 0] rfl)
  · replace h := ite_f c13 h
    refine lv_ldc2 (v := 37) hx hb hown (hts _ kc_L_417) dL_sum_32 ?_
    refine lv_lload_n hx hb dL_sum_35 rfl (lv_at hl 1 rfl) ?_
    refine lv_lmul hx hb dL_sum_36 ?_
    refine lv_aload_n hx hb dL_sum_37 rfl (lv_at hl 0 rfl) ?_
    refine lv_iload_n hx hb dL_sum_38 rfl (lv_at hl 2 rfl) ?_
    obtain ⟨g85, h⟩ := gd_out h
    obtain ⟨v86, hv87, h⟩ := bd_out h
    refine gz_dx (As := [.int x8]) (o := oI) (w := .int v86) F hX hk hC hml hS hW (fun μ hP => z_warmth (N := N) hP) (fun μ r h9 X9 hX9 => metX10_warmth F hX9 is_Ga h9) (gR_o hv87) rfl ml_L_33 rfl ⟨rfl, rfl, (by first | exact Nat.le_of_ble_eq_true rfl | (simp only [rmL_sum]; omega) | (simp only [rmL_sum]; omega)), (by first | exact Nat.le_of_ble_eq_true rfl | (simp only [rmL_sum]; omega) | (simp only [rmL_sum]; omega))⟩ rfl hl.1 rfl (by first | exact Nat.le_of_ble_eq_true rfl | (simp only [rmL_sum]; omega) | (simp only [rmL_sum]; omega)) dL_sum_39 ⟨(by show _ ≤ K; omega), (by show _ ≤ 6 * K; omega)⟩ (fun H locs hW hS => ?_)
    refine W.widen (k := (κ9 + 1)) (n := 6 * (κ9 + 1)) (by omega) (by omega) ?_
    refine lv_i2l hx hb dL_sum_42 rfl ?_
    refine lv_ladd hx hb dL_sum_43 ?_
    obtain ⟨v88, e89, h⟩ := lt_out h
    rw [← e89]
    refine lv_lstore_n (lv' := [(1, .long v88), (0, .ref (B + 0)), (3, .int x8)]) hx hb dL_sum_44 rfl hl (by decide) rfl (fun ls hl => ?_)
    refine lv_iconst (v := 0) hx hb dL_sum_45 (by decide) ?_
    refine lv_istore (lv' := [(4, .int 0), (1, .long v88), (0, .ref (B + 0)), (3, .int x8)]) hx hb dL_sum_46 hl (by decide) rfl (fun ls hl => ?_)
    refine W.widen (k := (κ9 + 1)) (n := 6 * (κ9 + 1)) (by omega) (by omega) ?_
    refine fix3_ind (fun (x90 : Int64) (x91 : Int32) (κ92 : Nat) => ∀ (H : Heap) (locs : List Loc) (ls : Array Slot), gZ s0 D T B X Z hs t H → va_S (gA B X) s.heap H locs → lv_has ls 5 [(0, .ref (B + 0)), (1, .long x90), (3, .int x8), (4, .int x91)] → W p l e (rmL_sum K) s m args below meth c H locs κ92 (6 * κ92) Q (F0 m 48 ls [])) ?_ N _ _ _ h _ _ _ hW hS (lv_sub hl [2, 1, 3, 0] rfl)
    clear h hW hS hl
    intro self93 IH94 x90 x91 κ92 h H locs ls hW hS hl
    refine lv_iload hx hb dL_sum_48 (lv_at hl 3 rfl) ?_
    refine lv_iload_n hx hb dL_sum_50 rfl (lv_at hl 2 rfl) ?_
    refine lv_icmp_ge (tgt := 87) hx hb dL_sum_51 (by decide) (fun c95 => ?_) (fun c95 => ?_)
    · replace h := ite_t c95 h
      obtain ⟨v96, e97, h⟩ := lt_out h
      refine lv_iinc (v := v96) (lv' := [(3, .int v96), (0, .ref (B + 0)), (1, .long x90), (4, .int x91)]) hx hb dL_sum_87 hl (k := 2) rfl (by rw [e97]; rfl) (by decide) rfl (fun ls hl => ?_)
      refine lv_goto (tgt := 24) hx hb dL_sum_90 (by decide) ?_
      refine W.widen (k := κ92) (n := 6 * κ92) (by omega) (by omega) ?_
      exact IH11 _ _ _ h _ _ _ hW hS (lv_sub hl [1, 2, 0] rfl)
    · replace h := ite_f c95 h
      refine lv_ldc2 (v := 41) hx hb hown (hts _ kc_L_419) dL_sum_54 ?_
      refine lv_lload_n hx hb dL_sum_57 rfl (lv_at hl 1 rfl) ?_
      refine lv_lmul hx hb dL_sum_58 ?_
      refine lv_bipush (v := 20) hx hb dL_sum_59 (by decide) ?_
      refine lv_aload_n hx hb dL_sum_61 rfl (lv_at hl 0 rfl) ?_
      refine lv_iload_n hx hb dL_sum_62 rfl (lv_at hl 2 rfl) ?_
      refine lv_iload hx hb dL_sum_63 (lv_at hl 3 rfl) ?_
      obtain ⟨g98, h⟩ := gd_out h
      refine gz_wr (As := [.ref (B + 0), .int x8, .int x91]) F hk hC hml hS hW (mq_legMinutes F hX hN) mw_L_253 ⟨rfl, rfl, (by first | exact Nat.le_of_ble_eq_true rfl | (simp only [rmL_sum]; omega) | (simp only [rmL_sum]; omega)), (by first | exact Nat.le_of_ble_eq_true rfl | (simp only [rmL_sum]; omega) | (simp only [rmL_sum]; omega))⟩ rfl hl.1 rfl (by first | exact Nat.le_of_ble_eq_true rfl | (simp only [rmL_sum]; omega) | (simp only [rmL_sum]; omega)) dL_sum_65 ⟨(by show _ ≤ K; omega), (by show _ ≤ 6 * K; omega)⟩ (fun H locs hW hS => ?_)
      refine W.widen (k := (κ92 + 1)) (n := 6 * (κ92 + 1)) (by omega) (by omega) ?_
      change W p l e _ s m args below meth c H locs _ _ Q (F0 m _ ls (.int (wL_legMinutes Z x8 x91) :: _))
      refine lv_imul hx hb dL_sum_68 ?_
      refine lv_i2l hx hb dL_sum_69 rfl ?_
      refine lv_ladd hx hb dL_sum_70 ?_
      refine lv_aload_n hx hb dL_sum_71 rfl (lv_at hl 0 rfl) ?_
      refine lv_iload_n hx hb dL_sum_72 rfl (lv_at hl 2 rfl) ?_
      refine lv_iload hx hb dL_sum_73 (lv_at hl 3 rfl) ?_
      obtain ⟨g99, h⟩ := gd_out h
      refine gz_wr (As := [.ref (B + 0), .int x8, .int x91]) F hk hC hml hS hW (mq_legWarmth F hX hN) mw_L_282 ⟨rfl, rfl, (by first | exact Nat.le_of_ble_eq_true rfl | (simp only [rmL_sum]; omega) | (simp only [rmL_sum]; omega)), (by first | exact Nat.le_of_ble_eq_true rfl | (simp only [rmL_sum]; omega) | (simp only [rmL_sum]; omega))⟩ rfl hl.1 rfl (by first | exact Nat.le_of_ble_eq_true rfl | (simp only [rmL_sum]; omega) | (simp only [rmL_sum]; omega)) dL_sum_75 ⟨(by show _ ≤ K; omega), (by show _ ≤ 6 * K; omega)⟩ (fun H locs hW hS => ?_)
      refine W.widen (k := (κ92 + 2)) (n := 6 * (κ92 + 2)) (by omega) (by omega) ?_
      change W p l e _ s m args below meth c H locs _ _ Q (F0 m _ ls (.int (wL_legWarmth Z x8 x91) :: _))
      refine lv_i2l hx hb dL_sum_78 rfl ?_
      refine lv_ladd hx hb dL_sum_79 ?_
      obtain ⟨v100, e101, h⟩ := lt_out h
      rw [← e101]
      refine lv_lstore_n (lv' := [(1, .long v100), (0, .ref (B + 0)), (3, .int x8), (4, .int x91)]) hx hb dL_sum_80 rfl hl (by decide) rfl (fun ls hl => ?_)
      obtain ⟨v102, e103, h⟩ := lt_out h
      refine lv_iinc (v := v102) (lv' := [(4, .int v102), (1, .long v100), (0, .ref (B + 0)), (3, .int x8)]) hx hb dL_sum_81 hl (k := 3) rfl (by rw [e103]; rfl) (by decide) rfl (fun ls hl => ?_)
      refine lv_goto (tgt := 48) hx hb dL_sum_84 (by decide) ?_
      refine W.widen (k := (κ92 + 2)) (n := 6 * (κ92 + 2)) (by omega) (by omega) ?_
      exact IH94 _ _ _ h _ _ _ hW hS (lv_sub hl [2, 1, 3, 0] rfl)

