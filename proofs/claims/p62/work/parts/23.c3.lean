/-! Printed by program: bit counts, the best choice, slopes by recursion, consistency. -/
theorem kc_J6_265 : Cond.constant RJ6 265 1431655765 ∈ WG := wg_t 725 (by decide +kernel) (by decide +kernel)
theorem kc_J6_266 : Cond.constant RJ6 266 858993459 ∈ WG := wg_t 726 (by decide +kernel) (by decide +kernel)
theorem kc_J6_267 : Cond.constant RJ6 267 252645135 ∈ WG := wg_t 727 (by decide +kernel) (by decide +kernel)
theorem dJ6_bitCount_0f7a4_0 : decode cJ6_bitCount_0f7a4 0 = .ok (.iload_n 0, 1) := by decide +kernel
theorem dJ6_bitCount_0f7a4_1 : decode cJ6_bitCount_0f7a4 1 = .ok (.iload_n 0, 1) := by decide +kernel
theorem dJ6_bitCount_0f7a4_2 : decode cJ6_bitCount_0f7a4 2 = .ok (.iconst 1, 1) := by decide +kernel
theorem dJ6_bitCount_0f7a4_3 : decode cJ6_bitCount_0f7a4 3 = .ok (.iushr, 1) := by decide +kernel
theorem dJ6_bitCount_0f7a4_4 : decode cJ6_bitCount_0f7a4 4 = .ok (.ldc_w 265, 3) := by decide +kernel
theorem dJ6_bitCount_0f7a4_7 : decode cJ6_bitCount_0f7a4 7 = .ok (.iand, 1) := by decide +kernel
theorem dJ6_bitCount_0f7a4_8 : decode cJ6_bitCount_0f7a4 8 = .ok (.isub, 1) := by decide +kernel
theorem dJ6_bitCount_0f7a4_9 : decode cJ6_bitCount_0f7a4 9 = .ok (.istore_n 0, 1) := by decide +kernel
theorem dJ6_bitCount_0f7a4_10 : decode cJ6_bitCount_0f7a4 10 = .ok (.iload_n 0, 1) := by decide +kernel
theorem dJ6_bitCount_0f7a4_11 : decode cJ6_bitCount_0f7a4 11 = .ok (.ldc_w 266, 3) := by decide +kernel
theorem dJ6_bitCount_0f7a4_14 : decode cJ6_bitCount_0f7a4 14 = .ok (.iand, 1) := by decide +kernel
theorem dJ6_bitCount_0f7a4_15 : decode cJ6_bitCount_0f7a4 15 = .ok (.iload_n 0, 1) := by decide +kernel
theorem dJ6_bitCount_0f7a4_16 : decode cJ6_bitCount_0f7a4 16 = .ok (.iconst 2, 1) := by decide +kernel
theorem dJ6_bitCount_0f7a4_17 : decode cJ6_bitCount_0f7a4 17 = .ok (.iushr, 1) := by decide +kernel
theorem dJ6_bitCount_0f7a4_18 : decode cJ6_bitCount_0f7a4 18 = .ok (.ldc_w 266, 3) := by decide +kernel
theorem dJ6_bitCount_0f7a4_21 : decode cJ6_bitCount_0f7a4 21 = .ok (.iand, 1) := by decide +kernel
theorem dJ6_bitCount_0f7a4_22 : decode cJ6_bitCount_0f7a4 22 = .ok (.iadd, 1) := by decide +kernel
theorem dJ6_bitCount_0f7a4_23 : decode cJ6_bitCount_0f7a4 23 = .ok (.istore_n 0, 1) := by decide +kernel
theorem dJ6_bitCount_0f7a4_24 : decode cJ6_bitCount_0f7a4 24 = .ok (.iload_n 0, 1) := by decide +kernel
theorem dJ6_bitCount_0f7a4_25 : decode cJ6_bitCount_0f7a4 25 = .ok (.iload_n 0, 1) := by decide +kernel
theorem dJ6_bitCount_0f7a4_26 : decode cJ6_bitCount_0f7a4 26 = .ok (.iconst 4, 1) := by decide +kernel
theorem dJ6_bitCount_0f7a4_27 : decode cJ6_bitCount_0f7a4 27 = .ok (.iushr, 1) := by decide +kernel
theorem dJ6_bitCount_0f7a4_28 : decode cJ6_bitCount_0f7a4 28 = .ok (.iadd, 1) := by decide +kernel
theorem dJ6_bitCount_0f7a4_29 : decode cJ6_bitCount_0f7a4 29 = .ok (.ldc_w 267, 3) := by decide +kernel
theorem dJ6_bitCount_0f7a4_32 : decode cJ6_bitCount_0f7a4 32 = .ok (.iand, 1) := by decide +kernel
theorem dJ6_bitCount_0f7a4_33 : decode cJ6_bitCount_0f7a4 33 = .ok (.istore_n 0, 1) := by decide +kernel
theorem dJ6_bitCount_0f7a4_34 : decode cJ6_bitCount_0f7a4 34 = .ok (.iload_n 0, 1) := by decide +kernel
theorem dJ6_bitCount_0f7a4_35 : decode cJ6_bitCount_0f7a4 35 = .ok (.iload_n 0, 1) := by decide +kernel
theorem dJ6_bitCount_0f7a4_36 : decode cJ6_bitCount_0f7a4 36 = .ok (.bipush 8, 2) := by decide +kernel
theorem dJ6_bitCount_0f7a4_38 : decode cJ6_bitCount_0f7a4 38 = .ok (.iushr, 1) := by decide +kernel
theorem dJ6_bitCount_0f7a4_39 : decode cJ6_bitCount_0f7a4 39 = .ok (.iadd, 1) := by decide +kernel
theorem dJ6_bitCount_0f7a4_40 : decode cJ6_bitCount_0f7a4 40 = .ok (.istore_n 0, 1) := by decide +kernel
theorem dJ6_bitCount_0f7a4_41 : decode cJ6_bitCount_0f7a4 41 = .ok (.iload_n 0, 1) := by decide +kernel
theorem dJ6_bitCount_0f7a4_42 : decode cJ6_bitCount_0f7a4 42 = .ok (.iload_n 0, 1) := by decide +kernel
theorem dJ6_bitCount_0f7a4_43 : decode cJ6_bitCount_0f7a4 43 = .ok (.bipush 16, 2) := by decide +kernel
theorem dJ6_bitCount_0f7a4_45 : decode cJ6_bitCount_0f7a4 45 = .ok (.iushr, 1) := by decide +kernel
theorem dJ6_bitCount_0f7a4_46 : decode cJ6_bitCount_0f7a4 46 = .ok (.iadd, 1) := by decide +kernel
theorem dJ6_bitCount_0f7a4_47 : decode cJ6_bitCount_0f7a4 47 = .ok (.istore_n 0, 1) := by decide +kernel
theorem dJ6_bitCount_0f7a4_48 : decode cJ6_bitCount_0f7a4 48 = .ok (.iload_n 0, 1) := by decide +kernel
theorem dJ6_bitCount_0f7a4_49 : decode cJ6_bitCount_0f7a4 49 = .ok (.bipush 63, 2) := by decide +kernel
theorem dJ6_bitCount_0f7a4_51 : decode cJ6_bitCount_0f7a4 51 = .ok (.iand, 1) := by decide +kernel
theorem dJ6_bitCount_0f7a4_52 : decode cJ6_bitCount_0f7a4 52 = .ok (.ireturn, 1) := by decide +kernel
abbrev rmJ6_bitCount_0f7a4 : Room := { frames := 2, cells := 0, slots := 0, locals := 60 }
set_option maxHeartbeats 4000000 in
set_option maxRecDepth 100000 in
theorem metJ6_bitCount_0f7a4 {l : Launch} {s0 : State} {b B : Nat} {D : va_G} {T : Nat → ClassId} (F : FX l s0 b D T B) {X : Nat → Prop} (hX : ∀ o, o < 560 → ¬ X (B + o)) {N : Nat} {μ : Mem} {a0 : Int32} {r : Int32}  (h : fJ6_bitCount_0f7a4 N μ a0 = some r) : gMet l yJ6_bitCount_0f7a4 cJ6_bitCount_0f7a4 1 (some .int) rmJ6_bitCount_0f7a4 [.int a0] (gWC s0 D T B μ) (KC s0 X) (some (.int r)) (gWC s0 D T B μ) (gA B X) 0 0 := by
  refine gI_of RJ6 (by decide +kernel) rfl (Nat.le_of_ble_eq_true rfl) ?_
  intro p e s m args below meth c ls Q hx hb hlocks hml hown hts hW hk hl hS hend
  have hC := FX_C F hk hx hb hown hts
  have hA := gA_all hX
  have hl : lv_has ls 1 [(0, .int a0)] := hl
  unfold fJ6_bitCount_0f7a4 at h
  refine lv_iload_n hx hb dJ6_bitCount_0f7a4_0 rfl (lv_at hl 0 rfl) ?_
  refine lv_iload_n hx hb dJ6_bitCount_0f7a4_1 rfl (lv_at hl 0 rfl) ?_
  refine lv_iconst (v := 1) hx hb dJ6_bitCount_0f7a4_2 (by decide) ?_
  refine lv_iushr hx hb dJ6_bitCount_0f7a4_3 rfl ?_
  refine lv_ldcw (v := 1431655765) hx hb hown (hts _ kc_J6_265) dJ6_bitCount_0f7a4_4 ?_
  refine lv_iand hx hb dJ6_bitCount_0f7a4_7 ?_
  refine lv_isub hx hb dJ6_bitCount_0f7a4_8 ?_
  obtain ⟨v1, e2, h⟩ := lt_out h
  rw [← e2]
  refine lv_istore_n (lv' := [(0, .int v1)]) hx hb dJ6_bitCount_0f7a4_9 rfl hl (by decide) rfl (fun ls hl => ?_)
  refine lv_iload_n hx hb dJ6_bitCount_0f7a4_10 rfl (lv_at hl 0 rfl) ?_
  refine lv_ldcw (v := 858993459) hx hb hown (hts _ kc_J6_266) dJ6_bitCount_0f7a4_11 ?_
  refine lv_iand hx hb dJ6_bitCount_0f7a4_14 ?_
  refine lv_iload_n hx hb dJ6_bitCount_0f7a4_15 rfl (lv_at hl 0 rfl) ?_
  refine lv_iconst (v := 2) hx hb dJ6_bitCount_0f7a4_16 (by decide) ?_
  refine lv_iushr hx hb dJ6_bitCount_0f7a4_17 rfl ?_
  refine lv_ldcw (v := 858993459) hx hb hown (hts _ kc_J6_266) dJ6_bitCount_0f7a4_18 ?_
  refine lv_iand hx hb dJ6_bitCount_0f7a4_21 ?_
  refine lv_iadd hx hb dJ6_bitCount_0f7a4_22 ?_
  obtain ⟨v3, e4, h⟩ := lt_out h
  rw [← e4]
  refine lv_istore_n (lv' := [(0, .int v3)]) hx hb dJ6_bitCount_0f7a4_23 rfl hl (by decide) rfl (fun ls hl => ?_)
  refine lv_iload_n hx hb dJ6_bitCount_0f7a4_24 rfl (lv_at hl 0 rfl) ?_
  refine lv_iload_n hx hb dJ6_bitCount_0f7a4_25 rfl (lv_at hl 0 rfl) ?_
  refine lv_iconst (v := 4) hx hb dJ6_bitCount_0f7a4_26 (by decide) ?_
  refine lv_iushr hx hb dJ6_bitCount_0f7a4_27 rfl ?_
  refine lv_iadd hx hb dJ6_bitCount_0f7a4_28 ?_
  refine lv_ldcw (v := 252645135) hx hb hown (hts _ kc_J6_267) dJ6_bitCount_0f7a4_29 ?_
  refine lv_iand hx hb dJ6_bitCount_0f7a4_32 ?_
  obtain ⟨v5, e6, h⟩ := lt_out h
  rw [← e6]
  refine lv_istore_n (lv' := [(0, .int v5)]) hx hb dJ6_bitCount_0f7a4_33 rfl hl (by decide) rfl (fun ls hl => ?_)
  refine lv_iload_n hx hb dJ6_bitCount_0f7a4_34 rfl (lv_at hl 0 rfl) ?_
  refine lv_iload_n hx hb dJ6_bitCount_0f7a4_35 rfl (lv_at hl 0 rfl) ?_
  refine lv_bipush (v := 8) hx hb dJ6_bitCount_0f7a4_36 (by decide) ?_
  refine lv_iushr hx hb dJ6_bitCount_0f7a4_38 rfl ?_
  refine lv_iadd hx hb dJ6_bitCount_0f7a4_39 ?_
  obtain ⟨v7, e8, h⟩ := lt_out h
  rw [← e8]
  refine lv_istore_n (lv' := [(0, .int v7)]) hx hb dJ6_bitCount_0f7a4_40 rfl hl (by decide) rfl (fun ls hl => ?_)
  refine lv_iload_n hx hb dJ6_bitCount_0f7a4_41 rfl (lv_at hl 0 rfl) ?_
  refine lv_iload_n hx hb dJ6_bitCount_0f7a4_42 rfl (lv_at hl 0 rfl) ?_
  refine lv_bipush (v := 16) hx hb dJ6_bitCount_0f7a4_43 (by decide) ?_
  refine lv_iushr hx hb dJ6_bitCount_0f7a4_45 rfl ?_
  refine lv_iadd hx hb dJ6_bitCount_0f7a4_46 ?_
  obtain ⟨v9, e10, h⟩ := lt_out h
  rw [← e10]
  refine lv_istore_n (lv' := [(0, .int v9)]) hx hb dJ6_bitCount_0f7a4_47 rfl hl (by decide) rfl (fun ls hl => ?_)
  refine lv_iload_n hx hb dJ6_bitCount_0f7a4_48 rfl (lv_at hl 0 rfl) ?_
  refine lv_bipush (v := 63) hx hb dJ6_bitCount_0f7a4_49 (by decide) ?_
  refine lv_iand hx hb dJ6_bitCount_0f7a4_51 ?_
  cases h
  exact hend dJ6_bitCount_0f7a4_52 hW hS (Nat.le_of_ble_eq_true rfl) (Nat.le_of_ble_eq_true rfl)

theorem dX1_isBetter_0 : decode cX1_isBetter 0 = .ok (.aload_n 0, 1) := by decide +kernel
theorem dX1_isBetter_1 : decode cX1_isBetter 1 = .ok (.iload_n 1, 1) := by decide +kernel
theorem dX1_isBetter_2 : decode cX1_isBetter 2 = .ok (.invokevirtual 87, 3) := by decide +kernel
theorem dX1_isBetter_5 : decode cX1_isBetter 5 = .ok (.aload_n 0, 1) := by decide +kernel
theorem dX1_isBetter_6 : decode cX1_isBetter 6 = .ok (.iload_n 2, 1) := by decide +kernel
theorem dX1_isBetter_7 : decode cX1_isBetter 7 = .ok (.invokevirtual 87, 3) := by decide +kernel
theorem dX1_isBetter_10 : decode cX1_isBetter 10 = .ok (.isub, 1) := by decide +kernel
theorem dX1_isBetter_11 : decode cX1_isBetter 11 = .ok (.istore_n 3, 1) := by decide +kernel
theorem dX1_isBetter_12 : decode cX1_isBetter 12 = .ok (.iload_n 3, 1) := by decide +kernel
theorem dX1_isBetter_13 : decode cX1_isBetter 13 = .ok (.ifCond .eq 13, 3) := by decide +kernel
theorem dX1_isBetter_16 : decode cX1_isBetter 16 = .ok (.iload_n 3, 1) := by decide +kernel
theorem dX1_isBetter_17 : decode cX1_isBetter 17 = .ok (.ifCond .le 7, 3) := by decide +kernel
theorem dX1_isBetter_20 : decode cX1_isBetter 20 = .ok (.iconst 1, 1) := by decide +kernel
theorem dX1_isBetter_21 : decode cX1_isBetter 21 = .ok (.goto 4, 3) := by decide +kernel
theorem dX1_isBetter_24 : decode cX1_isBetter 24 = .ok (.iconst 0, 1) := by decide +kernel
theorem dX1_isBetter_25 : decode cX1_isBetter 25 = .ok (.ireturn, 1) := by decide +kernel
theorem dX1_isBetter_26 : decode cX1_isBetter 26 = .ok (.iload_n 1, 1) := by decide +kernel
theorem dX1_isBetter_27 : decode cX1_isBetter 27 = .ok (.invokestatic 91, 3) := by decide +kernel
theorem dX1_isBetter_30 : decode cX1_isBetter 30 = .ok (.iload_n 2, 1) := by decide +kernel
theorem dX1_isBetter_31 : decode cX1_isBetter 31 = .ok (.invokestatic 91, 3) := by decide +kernel
theorem dX1_isBetter_34 : decode cX1_isBetter 34 = .ok (.isub, 1) := by decide +kernel
theorem dX1_isBetter_35 : decode cX1_isBetter 35 = .ok (.istore 4, 2) := by decide +kernel
theorem dX1_isBetter_37 : decode cX1_isBetter 37 = .ok (.iload 4, 2) := by decide +kernel
theorem dX1_isBetter_39 : decode cX1_isBetter 39 = .ok (.ifCond .eq 14, 3) := by decide +kernel
theorem dX1_isBetter_42 : decode cX1_isBetter 42 = .ok (.iload 4, 2) := by decide +kernel
theorem dX1_isBetter_44 : decode cX1_isBetter 44 = .ok (.ifCond .ge 7, 3) := by decide +kernel
theorem dX1_isBetter_47 : decode cX1_isBetter 47 = .ok (.iconst 1, 1) := by decide +kernel
theorem dX1_isBetter_48 : decode cX1_isBetter 48 = .ok (.goto 4, 3) := by decide +kernel
theorem dX1_isBetter_51 : decode cX1_isBetter 51 = .ok (.iconst 0, 1) := by decide +kernel
theorem dX1_isBetter_52 : decode cX1_isBetter 52 = .ok (.ireturn, 1) := by decide +kernel
theorem dX1_isBetter_53 : decode cX1_isBetter 53 = .ok (.iload_n 1, 1) := by decide +kernel
theorem dX1_isBetter_54 : decode cX1_isBetter 54 = .ok (.iload_n 2, 1) := by decide +kernel
theorem dX1_isBetter_55 : decode cX1_isBetter 55 = .ok (.ixor, 1) := by decide +kernel
theorem dX1_isBetter_56 : decode cX1_isBetter 56 = .ok (.istore 5, 2) := by decide +kernel
theorem dX1_isBetter_58 : decode cX1_isBetter 58 = .ok (.iload 5, 2) := by decide +kernel
theorem dX1_isBetter_60 : decode cX1_isBetter 60 = .ok (.iload 5, 2) := by decide +kernel
theorem dX1_isBetter_62 : decode cX1_isBetter 62 = .ok (.ineg, 1) := by decide +kernel
theorem dX1_isBetter_63 : decode cX1_isBetter 63 = .ok (.iand, 1) := by decide +kernel
theorem dX1_isBetter_64 : decode cX1_isBetter 64 = .ok (.istore 6, 2) := by decide +kernel
theorem dX1_isBetter_66 : decode cX1_isBetter 66 = .ok (.iload_n 1, 1) := by decide +kernel
theorem dX1_isBetter_67 : decode cX1_isBetter 67 = .ok (.iload 6, 2) := by decide +kernel
theorem dX1_isBetter_69 : decode cX1_isBetter 69 = .ok (.iand, 1) := by decide +kernel
theorem dX1_isBetter_70 : decode cX1_isBetter 70 = .ok (.ifCond .eq 7, 3) := by decide +kernel
theorem dX1_isBetter_73 : decode cX1_isBetter 73 = .ok (.iconst 1, 1) := by decide +kernel
theorem dX1_isBetter_74 : decode cX1_isBetter 74 = .ok (.goto 4, 3) := by decide +kernel
theorem dX1_isBetter_77 : decode cX1_isBetter 77 = .ok (.iconst 0, 1) := by decide +kernel
theorem dX1_isBetter_78 : decode cX1_isBetter 78 = .ok (.ireturn, 1) := by decide +kernel
abbrev rmX1_isBetter : Room := { frames := 4, cells := 0, slots := 0, locals := 104 }
set_option maxHeartbeats 4000000 in
set_option maxRecDepth 100000 in
theorem metX1_isBetter {l : Launch} {s0 : State} {b B : Nat} {D : va_G} {T : Nat → ClassId} (F : FX l s0 b D T B) {X : Nat → Prop} (hX : ∀ o, o < 560 → ¬ X (B + o)) {N : Nat} {μ : Mem} {a0 : Nat} {a1 : Int32} {a2 : Int32} {r : Bool} (k0 : IsEx a0) (h : fX1_isBetter N μ a0 a1 a2 = some r) : gMet l yX1_isBetter cX1_isBetter 7 (some .boolean) rmX1_isBetter [.ref (B + a0), .int a1, .int a2] (gWC s0 D T B μ) (KC s0 X) (some (.int (b2i r))) (gWC s0 D T B μ) (gA B X) 0 0 := by
  refine gZ_of RX1 (by decide +kernel) rfl (Nat.le_of_ble_eq_true rfl) ?_
  intro p e s m args below meth c ls Q hx hb hlocks hml hown hts hW hk hl hS hend
  have hC := FX_C F hk hx hb hown hts
  have hA := gA_all hX
  have hl : lv_has ls 7 [(0, .ref (B + a0)), (1, .int a1), (2, .int a2)] := hl
  unfold fX1_isBetter at h
  refine lv_aload_n hx hb dX1_isBetter_0 rfl (lv_at hl 0 rfl) ?_
  refine lv_iload_n hx hb dX1_isBetter_1 rfl (lv_at hl 1 rfl) ?_
  obtain ⟨r1, hcall, h⟩ := bd_out h
  refine g0_callV (As := [.int a1]) hC hml hS hW (KC_at hk hS F.2.2.2.2) KC_blind (metX1_feesOf F hX k0 hcall) ml_X1_87 (gw_recv hC hW k0.1 (k0.2.1 (gfm s0) T B (μ a0)) rfl) ⟨rfl, rfl, (Nat.le_of_ble_eq_true rfl), (Nat.le_of_ble_eq_true rfl)⟩ rfl hl.1 rfl (Nat.le_of_ble_eq_true rfl) dX1_isBetter_2 ⟨(Nat.le_of_ble_eq_true rfl), (Nat.le_of_ble_eq_true rfl)⟩ (fun H locs hW hS => ?_)
  refine lv_aload_n hx hb dX1_isBetter_5 rfl (lv_at hl 0 rfl) ?_
  refine lv_iload_n hx hb dX1_isBetter_6 rfl (lv_at hl 2 rfl) ?_
  obtain ⟨r2, hcall, h⟩ := bd_out h
  refine g0_callV (As := [.int a2]) hC hml hS hW (KC_at hk hS F.2.2.2.2) KC_blind (metX1_feesOf F hX k0 hcall) ml_X1_87 (gw_recv hC hW k0.1 (k0.2.1 (gfm s0) T B (μ a0)) rfl) ⟨rfl, rfl, (Nat.le_of_ble_eq_true rfl), (Nat.le_of_ble_eq_true rfl)⟩ rfl hl.1 rfl (Nat.le_of_ble_eq_true rfl) dX1_isBetter_7 ⟨(Nat.le_of_ble_eq_true rfl), (Nat.le_of_ble_eq_true rfl)⟩ (fun H locs hW hS => ?_)
  refine lv_isub hx hb dX1_isBetter_10 ?_
  obtain ⟨v3, e4, h⟩ := lt_out h
  rw [← e4]
  refine lv_istore_n (lv' := [(3, .int v3), (0, .ref (B + a0)), (1, .int a1), (2, .int a2)]) hx hb dX1_isBetter_11 rfl hl (by decide) rfl (fun ls hl => ?_)
  refine lv_iload_n hx hb dX1_isBetter_12 rfl (lv_at hl 0 rfl) ?_
  refine lv_if_eq (tgt := 26) hx hb dX1_isBetter_13 (by decide) (fun c5 => ?_) (fun c5 => ?_)
  · replace h := ite_t c5 h
    refine lv_iload_n hx hb dX1_isBetter_26 rfl (lv_at hl 2 rfl) ?_
    obtain ⟨r6, hcall, h⟩ := bd_out h
    refine g0_callS (As := [.int a1]) hC hml hS hW (KC_at hk hS F.2.2.2.2) KC_blind (metJ6_bitCount_0f7a4 F hX  hcall) ml_X1_91 ⟨rfl, rfl, (Nat.le_of_ble_eq_true rfl), (Nat.le_of_ble_eq_true rfl)⟩ rfl hl.1 rfl (Nat.le_of_ble_eq_true rfl) dX1_isBetter_27 ⟨(Nat.le_of_ble_eq_true rfl), (Nat.le_of_ble_eq_true rfl)⟩ (fun H locs hW hS => ?_)
    refine lv_iload_n hx hb dX1_isBetter_30 rfl (lv_at hl 3 rfl) ?_
    obtain ⟨r7, hcall, h⟩ := bd_out h
    refine g0_callS (As := [.int a2]) hC hml hS hW (KC_at hk hS F.2.2.2.2) KC_blind (metJ6_bitCount_0f7a4 F hX  hcall) ml_X1_91 ⟨rfl, rfl, (Nat.le_of_ble_eq_true rfl), (Nat.le_of_ble_eq_true rfl)⟩ rfl hl.1 rfl (Nat.le_of_ble_eq_true rfl) dX1_isBetter_31 ⟨(Nat.le_of_ble_eq_true rfl), (Nat.le_of_ble_eq_true rfl)⟩ (fun H locs hW hS => ?_)
    refine lv_isub hx hb dX1_isBetter_34 ?_
    obtain ⟨v8, e9, h⟩ := lt_out h
    rw [← e9]
    refine lv_istore (lv' := [(4, .int v8), (3, .int v3), (0, .ref (B + a0)), (1, .int a1), (2, .int a2)]) hx hb dX1_isBetter_35 hl (by decide) rfl (fun ls hl => ?_)
    refine lv_iload hx hb dX1_isBetter_37 (lv_at hl 0 rfl) ?_
    refine lv_if_eq (tgt := 53) hx hb dX1_isBetter_39 (by decide) (fun c10 => ?_) (fun c10 => ?_)
    · replace h := ite_t c10 h
      refine lv_iload_n hx hb dX1_isBetter_53 rfl (lv_at hl 3 rfl) ?_
      refine lv_iload_n hx hb dX1_isBetter_54 rfl (lv_at hl 4 rfl) ?_
      refine lv_ixor hx hb dX1_isBetter_55 ?_
      obtain ⟨v11, e12, h⟩ := lt_out h
      rw [← e12]
      refine lv_istore (lv' := [(5, .int v11), (4, .int v8), (3, .int v3), (0, .ref (B + a0)), (1, .int a1), (2, .int a2)]) hx hb dX1_isBetter_56 hl (by decide) rfl (fun ls hl => ?_)
      refine lv_iload hx hb dX1_isBetter_58 (lv_at hl 0 rfl) ?_
      refine lv_iload hx hb dX1_isBetter_60 (lv_at hl 0 rfl) ?_
      refine lv_ineg hx hb dX1_isBetter_62 ?_
      refine lv_iand hx hb dX1_isBetter_63 ?_
      obtain ⟨v13, e14, h⟩ := lt_out h
      rw [← e14]
      refine lv_istore (lv' := [(6, .int v13), (5, .int v11), (4, .int v8), (3, .int v3), (0, .ref (B + a0)), (1, .int a1), (2, .int a2)]) hx hb dX1_isBetter_64 hl (by decide) rfl (fun ls hl => ?_)
      refine lv_iload_n hx hb dX1_isBetter_66 rfl (lv_at hl 5 rfl) ?_
      refine lv_iload hx hb dX1_isBetter_67 (lv_at hl 0 rfl) ?_
      refine lv_iand hx hb dX1_isBetter_69 ?_
      obtain ⟨j16, hj18, h⟩ := jn1_o h
      have J17 : ∀ (y15 : Bool), j16 y15 = some r → ∀ (H : Heap) (locs : List Loc) (ls : Array Slot), gWC s0 D T B μ H → va_S (gA B X) s.heap H locs → lv_has ls 7 [] → W p l e rmX1_isBetter s m args below meth c H locs 0 0 Q (F0 m 78 ls [.int (b2i y15)]) := by
        clear h hW hS hl
        intro y15 h H locs ls hW hS hl
        replace h := (hj18 y15).symm.trans h
        cases h
        exact hend dX1_isBetter_78 hW hS (Nat.le_of_ble_eq_true rfl) (Nat.le_of_ble_eq_true rfl)
      refine lv_if_eq (tgt := 77) hx hb dX1_isBetter_70 (by decide) (fun c19 => ?_) (fun c19 => ?_)
      · replace h := ite_t c19 h
        refine lv_iconst (v := 0) hx hb dX1_isBetter_77 (by decide) ?_
        exact J17 _ h _ _ _ hW hS (lv_sub hl [] rfl)
      · replace h := ite_f c19 h
        refine lv_iconst (v := 1) hx hb dX1_isBetter_73 (by decide) ?_
        refine lv_goto (tgt := 78) hx hb dX1_isBetter_74 (by decide) ?_
        exact J17 _ h _ _ _ hW hS (lv_sub hl [] rfl)
    · replace h := ite_f c10 h
      refine lv_iload hx hb dX1_isBetter_42 (lv_at hl 0 rfl) ?_
      obtain ⟨j21, hj23, h⟩ := jn1_o h
      have J22 : ∀ (y20 : Bool), j21 y20 = some r → ∀ (H : Heap) (locs : List Loc) (ls : Array Slot), gWC s0 D T B μ H → va_S (gA B X) s.heap H locs → lv_has ls 7 [] → W p l e rmX1_isBetter s m args below meth c H locs 0 0 Q (F0 m 52 ls [.int (b2i y20)]) := by
        clear h hW hS hl
        intro y20 h H locs ls hW hS hl
        replace h := (hj23 y20).symm.trans h
        cases h
        exact hend dX1_isBetter_52 hW hS (Nat.le_of_ble_eq_true rfl) (Nat.le_of_ble_eq_true rfl)
      refine lv_if_ge (tgt := 51) hx hb dX1_isBetter_44 (by decide) (fun c24 => ?_) (fun c24 => ?_)
      · replace h := ite_t c24 h
        refine lv_iconst (v := 0) hx hb dX1_isBetter_51 (by decide) ?_
        exact J22 _ h _ _ _ hW hS (lv_sub hl [] rfl)
      · replace h := ite_f c24 h
        refine lv_iconst (v := 1) hx hb dX1_isBetter_47 (by decide) ?_
        refine lv_goto (tgt := 52) hx hb dX1_isBetter_48 (by decide) ?_
        exact J22 _ h _ _ _ hW hS (lv_sub hl [] rfl)
  · replace h := ite_f c5 h
    refine lv_iload_n hx hb dX1_isBetter_16 rfl (lv_at hl 0 rfl) ?_
    obtain ⟨j26, hj28, h⟩ := jn1_o h
    have J27 : ∀ (y25 : Bool), j26 y25 = some r → ∀ (H : Heap) (locs : List Loc) (ls : Array Slot), gWC s0 D T B μ H → va_S (gA B X) s.heap H locs → lv_has ls 7 [] → W p l e rmX1_isBetter s m args below meth c H locs 0 0 Q (F0 m 25 ls [.int (b2i y25)]) := by
      clear h hW hS hl
      intro y25 h H locs ls hW hS hl
      replace h := (hj28 y25).symm.trans h
      cases h
      exact hend dX1_isBetter_25 hW hS (Nat.le_of_ble_eq_true rfl) (Nat.le_of_ble_eq_true rfl)
    refine lv_if_le (tgt := 24) hx hb dX1_isBetter_17 (by decide) (fun c29 => ?_) (fun c29 => ?_)
    · replace h := ite_t c29 h
      refine lv_iconst (v := 0) hx hb dX1_isBetter_24 (by decide) ?_
      exact J27 _ h _ _ _ hW hS (lv_sub hl [] rfl)
    · replace h := ite_f c29 h
      refine lv_iconst (v := 1) hx hb dX1_isBetter_20 (by decide) ?_
      refine lv_goto (tgt := 25) hx hb dX1_isBetter_21 (by decide) ?_
      exact J27 _ h _ _ _ hW hS (lv_sub hl [] rfl)

theorem dX1_bestChoice_0 : decode cX1_bestChoice 0 = .ok (.aload_n 0, 1) := by decide +kernel
theorem dX1_bestChoice_1 : decode cX1_bestChoice 1 = .ok (.invokevirtual 73, 3) := by decide +kernel
theorem dX1_bestChoice_4 : decode cX1_bestChoice 4 = .ok (.istore_n 1, 1) := by decide +kernel
theorem dX1_bestChoice_5 : decode cX1_bestChoice 5 = .ok (.iconst 0, 1) := by decide +kernel
theorem dX1_bestChoice_6 : decode cX1_bestChoice 6 = .ok (.istore_n 2, 1) := by decide +kernel
theorem dX1_bestChoice_7 : decode cX1_bestChoice 7 = .ok (.iconst 1, 1) := by decide +kernel
theorem dX1_bestChoice_8 : decode cX1_bestChoice 8 = .ok (.istore_n 3, 1) := by decide +kernel
theorem dX1_bestChoice_9 : decode cX1_bestChoice 9 = .ok (.iload_n 3, 1) := by decide +kernel
theorem dX1_bestChoice_10 : decode cX1_bestChoice 10 = .ok (.iconst 1, 1) := by decide +kernel
theorem dX1_bestChoice_11 : decode cX1_bestChoice 11 = .ok (.aload_n 0, 1) := by decide +kernel
theorem dX1_bestChoice_12 : decode cX1_bestChoice 12 = .ok (.getfield 49, 3) := by decide +kernel
theorem dX1_bestChoice_15 : decode cX1_bestChoice 15 = .ok (.ishl, 1) := by decide +kernel
theorem dX1_bestChoice_16 : decode cX1_bestChoice 16 = .ok (.if_icmp .ge 34, 3) := by decide +kernel
theorem dX1_bestChoice_19 : decode cX1_bestChoice 19 = .ok (.iload_n 3, 1) := by decide +kernel
theorem dX1_bestChoice_20 : decode cX1_bestChoice 20 = .ok (.iload_n 1, 1) := by decide +kernel
theorem dX1_bestChoice_21 : decode cX1_bestChoice 21 = .ok (.iand, 1) := by decide +kernel
theorem dX1_bestChoice_22 : decode cX1_bestChoice 22 = .ok (.ifCond .ne 22, 3) := by decide +kernel
theorem dX1_bestChoice_25 : decode cX1_bestChoice 25 = .ok (.aload_n 0, 1) := by decide +kernel
theorem dX1_bestChoice_26 : decode cX1_bestChoice 26 = .ok (.iload_n 3, 1) := by decide +kernel
theorem dX1_bestChoice_27 : decode cX1_bestChoice 27 = .ok (.invokevirtual 77, 3) := by decide +kernel
theorem dX1_bestChoice_30 : decode cX1_bestChoice 30 = .ok (.ifCond .eq 14, 3) := by decide +kernel
theorem dX1_bestChoice_33 : decode cX1_bestChoice 33 = .ok (.aload_n 0, 1) := by decide +kernel
theorem dX1_bestChoice_34 : decode cX1_bestChoice 34 = .ok (.iload_n 3, 1) := by decide +kernel
theorem dX1_bestChoice_35 : decode cX1_bestChoice 35 = .ok (.iload_n 2, 1) := by decide +kernel
theorem dX1_bestChoice_36 : decode cX1_bestChoice 36 = .ok (.invokevirtual 81, 3) := by decide +kernel
theorem dX1_bestChoice_39 : decode cX1_bestChoice 39 = .ok (.ifCond .eq 5, 3) := by decide +kernel
theorem dX1_bestChoice_42 : decode cX1_bestChoice 42 = .ok (.iload_n 3, 1) := by decide +kernel
theorem dX1_bestChoice_43 : decode cX1_bestChoice 43 = .ok (.istore_n 2, 1) := by decide +kernel
theorem dX1_bestChoice_44 : decode cX1_bestChoice 44 = .ok (.iinc 3 1, 3) := by decide +kernel
theorem dX1_bestChoice_47 : decode cX1_bestChoice 47 = .ok (.goto (-38), 3) := by decide +kernel
theorem dX1_bestChoice_50 : decode cX1_bestChoice 50 = .ok (.iload_n 2, 1) := by decide +kernel
theorem dX1_bestChoice_51 : decode cX1_bestChoice 51 = .ok (.ireturn, 1) := by decide +kernel
abbrev rmX1_bestChoice : Room := { frames := 5, cells := 0, slots := 0, locals := 130 }
set_option maxHeartbeats 4000000 in
set_option maxRecDepth 100000 in
theorem metX1_bestChoice {l : Launch} {s0 : State} {b B : Nat} {D : va_G} {T : Nat → ClassId} (F : FX l s0 b D T B) {X : Nat → Prop} (hX : ∀ o, o < 560 → ¬ X (B + o)) {N : Nat} {μ : Mem} {a0 : Nat} {r : Int32} (k0 : IsEx a0) (h : fX1_bestChoice N μ a0 = some r) : gMet l yX1_bestChoice cX1_bestChoice 4 (some .int) rmX1_bestChoice [.ref (B + a0)] (gWC s0 D T B μ) (KC s0 X) (some (.int r)) (gWC s0 D T B μ) (gA B X) 0 0 := by
  refine gI_of RX1 (by decide +kernel) rfl (Nat.le_of_ble_eq_true rfl) ?_
  intro p e s m args below meth c ls Q hx hb hlocks hml hown hts hW hk hl hS hend
  have hC := FX_C F hk hx hb hown hts
  have hA := gA_all hX
  have hl : lv_has ls 4 [(0, .ref (B + a0))] := hl
  unfold fX1_bestChoice at h
  refine lv_aload_n hx hb dX1_bestChoice_0 rfl (lv_at hl 0 rfl) ?_
  obtain ⟨r1, hcall, h⟩ := bd_out h
  refine g0_callV (As := []) hC hml hS hW (KC_at hk hS F.2.2.2.2) KC_blind (metX1_hinderedLoans F hX k0 hcall) ml_X1_73 (gw_recv hC hW k0.1 (k0.2.1 (gfm s0) T B (μ a0)) rfl) ⟨rfl, rfl, (Nat.le_of_ble_eq_true rfl), (Nat.le_of_ble_eq_true rfl)⟩ rfl hl.1 rfl (Nat.le_of_ble_eq_true rfl) dX1_bestChoice_1 ⟨(Nat.le_of_ble_eq_true rfl), (Nat.le_of_ble_eq_true rfl)⟩ (fun H locs hW hS => ?_)
  refine lv_istore_n (lv' := [(1, .int r1), (0, .ref (B + a0))]) hx hb dX1_bestChoice_4 rfl hl (by decide) rfl (fun ls hl => ?_)
  refine lv_iconst (v := 0) hx hb dX1_bestChoice_5 (by decide) ?_
  refine lv_istore_n (lv' := [(2, .int 0), (1, .int r1), (0, .ref (B + a0))]) hx hb dX1_bestChoice_6 rfl hl (by decide) rfl (fun ls hl => ?_)
  refine lv_iconst (v := 1) hx hb dX1_bestChoice_7 (by decide) ?_
  refine lv_istore_n (lv' := [(3, .int 1), (2, .int 0), (1, .int r1), (0, .ref (B + a0))]) hx hb dX1_bestChoice_8 rfl hl (by decide) rfl (fun ls hl => ?_)
  refine fix2_ind (fun (x2 : Int32) (x3 : Int32) => ∀ (H : Heap) (locs : List Loc) (ls : Array Slot), gWC s0 D T B μ H → va_S (gA B X) s.heap H locs → lv_has ls 4 [(0, .ref (B + a0)), (1, .int r1), (2, .int x2), (3, .int x3)] → W p l e rmX1_bestChoice s m args below meth c H locs 0 0 Q (F0 m 9 ls [])) ?_ N _ _ h _ _ _ hW hS (lv_sub hl [3, 2, 1, 0] rfl)
  clear h hW hS hl
  intro self4 IH5 x2 x3 h H locs ls hW hS hl
  refine lv_iload_n hx hb dX1_bestChoice_9 rfl (lv_at hl 3 rfl) ?_
  refine lv_iconst (v := 1) hx hb dX1_bestChoice_10 (by decide) ?_
  refine lv_aload_n hx hb dX1_bestChoice_11 rfl (lv_at hl 0 rfl) ?_
  refine gw_get (v := .int (μ a0 6)) hC hW fl_X1_49.1 k0.1 (k0.2.1 (gfm s0) T B (μ a0)) rfl dX1_bestChoice_12 ?_
  refine lv_ishl hx hb dX1_bestChoice_15 ?_
  refine lv_icmp_ge (tgt := 50) hx hb dX1_bestChoice_16 (by decide) (fun c6 => ?_) (fun c6 => ?_)
  · replace h := ite_t c6 h
    refine lv_iload_n hx hb dX1_bestChoice_50 rfl (lv_at hl 2 rfl) ?_
    cases h
    exact hend dX1_bestChoice_51 hW hS (Nat.le_of_ble_eq_true rfl) (Nat.le_of_ble_eq_true rfl)
  · replace h := ite_f c6 h
    refine lv_iload_n hx hb dX1_bestChoice_19 rfl (lv_at hl 3 rfl) ?_
    refine lv_iload_n hx hb dX1_bestChoice_20 rfl (lv_at hl 1 rfl) ?_
    refine lv_iand hx hb dX1_bestChoice_21 ?_
    obtain ⟨j8, hj10, h⟩ := jn1_o h
    have J9 : ∀ (y7 : Int32), j8 y7 = some r → ∀ (H : Heap) (locs : List Loc) (ls : Array Slot), gWC s0 D T B μ H → va_S (gA B X) s.heap H locs → lv_has ls 4 [(0, .ref (B + a0)), (1, .int r1), (2, .int y7), (3, .int x3)] → W p l e rmX1_bestChoice s m args below meth c H locs 0 0 Q (F0 m 44 ls []) := by
      clear h hW hS hl
      intro y7 h H locs ls hW hS hl
      replace h := (hj10 y7).symm.trans h
      obtain ⟨v11, e12, h⟩ := lt_out h
      refine lv_iinc (v := v11) (lv' := [(3, .int v11), (0, .ref (B + a0)), (1, .int r1), (2, .int y7)]) hx hb dX1_bestChoice_44 hl (k := 3) rfl (by rw [e12]; rfl) (by decide) rfl (fun ls hl => ?_)
      refine lv_goto (tgt := 9) hx hb dX1_bestChoice_47 (by decide) ?_
      exact IH5 _ _ h _ _ _ hW hS (lv_sub hl [1, 2, 3, 0] rfl)
    refine lv_if_ne (tgt := 44) hx hb dX1_bestChoice_22 (by decide) (fun c13 => ?_) (fun c13 => ?_)
    · replace h := ite_f c13 h
      exact J9 _ h _ _ _ hW hS (lv_sub hl [0, 1, 2, 3] rfl)
    · replace h := ite_t c13 h
      refine lv_aload_n hx hb dX1_bestChoice_25 rfl (lv_at hl 0 rfl) ?_
      refine lv_iload_n hx hb dX1_bestChoice_26 rfl (lv_at hl 3 rfl) ?_
      obtain ⟨r14, hcall, h⟩ := bd_out h
      refine g0_callV (As := [.int x3]) hC hml hS hW (KC_at hk hS F.2.2.2.2) KC_blind (metX1_isApart F hX k0 hcall) ml_X1_77 (gw_recv hC hW k0.1 (k0.2.1 (gfm s0) T B (μ a0)) rfl) ⟨rfl, rfl, (Nat.le_of_ble_eq_true rfl), (Nat.le_of_ble_eq_true rfl)⟩ rfl hl.1 rfl (Nat.le_of_ble_eq_true rfl) dX1_bestChoice_27 ⟨(Nat.le_of_ble_eq_true rfl), (Nat.le_of_ble_eq_true rfl)⟩ (fun H locs hW hS => ?_)
      refine gw_if_eqZ (tgt := 44) hx hb dX1_bestChoice_30 (by decide) (fun c15 => ?_) (fun c15 => ?_)
      · replace h := cond_f c15 h
        exact J9 _ h _ _ _ hW hS (lv_sub hl [0, 1, 2, 3] rfl)
      · replace h := cond_t c15 h
        refine lv_aload_n hx hb dX1_bestChoice_33 rfl (lv_at hl 0 rfl) ?_
        refine lv_iload_n hx hb dX1_bestChoice_34 rfl (lv_at hl 3 rfl) ?_
        refine lv_iload_n hx hb dX1_bestChoice_35 rfl (lv_at hl 2 rfl) ?_
        obtain ⟨r16, hcall, h⟩ := bd_out h
        refine g0_callV (As := [.int x3, .int x2]) hC hml hS hW (KC_at hk hS F.2.2.2.2) KC_blind (metX1_isBetter F hX k0 hcall) ml_X1_81 (gw_recv hC hW k0.1 (k0.2.1 (gfm s0) T B (μ a0)) rfl) ⟨rfl, rfl, (Nat.le_of_ble_eq_true rfl), (Nat.le_of_ble_eq_true rfl)⟩ rfl hl.1 rfl (Nat.le_of_ble_eq_true rfl) dX1_bestChoice_36 ⟨(Nat.le_of_ble_eq_true rfl), (Nat.le_of_ble_eq_true rfl)⟩ (fun H locs hW hS => ?_)
        refine gw_if_eqZ (tgt := 44) hx hb dX1_bestChoice_39 (by decide) (fun c17 => ?_) (fun c17 => ?_)
        · replace h := cond_f c17 h
          exact J9 _ h _ _ _ hW hS (lv_sub hl [0, 1, 2, 3] rfl)
        · replace h := cond_t c17 h
          refine lv_iload_n hx hb dX1_bestChoice_42 rfl (lv_at hl 3 rfl) ?_
          refine lv_istore_n (lv' := [(2, .int x3), (0, .ref (B + a0)), (1, .int r1), (3, .int x3)]) hx hb dX1_bestChoice_43 rfl hl (by decide) rfl (fun ls hl => ?_)
          exact J9 _ h _ _ _ hW hS (lv_sub hl [1, 2, 0, 3] rfl)

theorem dX8_lend_0 : decode cX8_lend 0 = .ok (.aload_n 0, 1) := by decide +kernel
theorem dX8_lend_1 : decode cX8_lend 1 = .ok (.getfield 25, 3) := by decide +kernel
theorem dX8_lend_4 : decode cX8_lend 4 = .ok (.iload_n 1, 1) := by decide +kernel
theorem dX8_lend_5 : decode cX8_lend 5 = .ok (.aaload, 1) := by decide +kernel
theorem dX8_lend_6 : decode cX8_lend 6 = .ok (.astore_n 2, 1) := by decide +kernel
theorem dX8_lend_7 : decode cX8_lend 7 = .ok (.aload_n 2, 1) := by decide +kernel
theorem dX8_lend_8 : decode cX8_lend 8 = .ok (.invokevirtual 94, 3) := by decide +kernel
theorem dX8_lend_11 : decode cX8_lend 11 = .ok (.istore_n 3, 1) := by decide +kernel
theorem dX8_lend_12 : decode cX8_lend 12 = .ok (.aload_n 2, 1) := by decide +kernel
theorem dX8_lend_13 : decode cX8_lend 13 = .ok (.iload_n 3, 1) := by decide +kernel
theorem dX8_lend_14 : decode cX8_lend 14 = .ok (.invokevirtual 97, 3) := by decide +kernel
theorem dX8_lend_17 : decode cX8_lend 17 = .ok (.istore 4, 2) := by decide +kernel
theorem dX8_lend_19 : decode cX8_lend 19 = .ok (.aload_n 2, 1) := by decide +kernel
theorem dX8_lend_20 : decode cX8_lend 20 = .ok (.iload_n 3, 1) := by decide +kernel
theorem dX8_lend_21 : decode cX8_lend 21 = .ok (.invokevirtual 100, 3) := by decide +kernel
theorem dX8_lend_24 : decode cX8_lend 24 = .ok (.aload_n 0, 1) := by decide +kernel
theorem dX8_lend_25 : decode cX8_lend 25 = .ok (.dup, 1) := by decide +kernel
theorem dX8_lend_26 : decode cX8_lend 26 = .ok (.getfield 50, 3) := by decide +kernel
theorem dX8_lend_29 : decode cX8_lend 29 = .ok (.iload 4, 2) := by decide +kernel
theorem dX8_lend_31 : decode cX8_lend 31 = .ok (.iadd, 1) := by decide +kernel
theorem dX8_lend_32 : decode cX8_lend 32 = .ok (.putfield 50, 3) := by decide +kernel
theorem dX8_lend_35 : decode cX8_lend 35 = .ok (.iload 4, 2) := by decide +kernel
theorem dX8_lend_37 : decode cX8_lend 37 = .ok (.ireturn, 1) := by decide +kernel
abbrev rmX8_lend : Room := { frames := 6, cells := 0, slots := 0, locals := 153 }
set_option maxHeartbeats 4000000 in
set_option maxRecDepth 100000 in
theorem metX8_lend {l : Launch} {s0 : State} {b B : Nat} {D : va_G} {T : Nat → ClassId} (F : FX l s0 b D T B) {X : Nat → Prop} (hX : ∀ o, o < 560 → ¬ X (B + o)) {N : Nat} {μ : Mem} {a0 : Nat} {a1 : Int32} {r : Mem × Int32} (k0 : IsSt a0) (h : fX8_lend N μ a0 a1 = some r) : gMet l yX8_lend cX8_lend 5 (some .int) rmX8_lend [.ref (B + a0), .int a1] (gWC s0 D T B μ) (KC s0 X) (some (.int r.2)) (gWC s0 D T B r.1) (gA B X) 0 0 := by
  refine gI_of RX8 (by decide +kernel) rfl (Nat.le_of_ble_eq_true rfl) ?_
  intro p e s m args below meth c ls Q hx hb hlocks hml hown hts hW hk hl hS hend
  have hC := FX_C F hk hx hb hown hts
  have hA := gA_all hX
  have hl : lv_has ls 5 [(0, .ref (B + a0)), (1, .int a1)] := hl
  unfold fX8_lend at h
  refine lv_aload_n hx hb dX8_lend_0 rfl (lv_at hl 0 rfl) ?_
  refine gw_get (v := .ref (B + (a0 + 16))) hC hW fl_X8_25 k0.1 (k0.2.1 (gfm s0) T B (μ a0)) rfl dX8_lend_1 ?_
  refine lv_iload_n hx hb dX8_lend_4 rfl (lv_at hl 1 rfl) ?_
  obtain ⟨q1, e2, hq3, hi4, h⟩ := ar_o h
  refine gq_aald hC hW k0.2.2.2.2.2.1 (k0.2.2.2.2.2.2.1 (gfm s0) T B (μ (a0 + 16))) (t0 := 5) rfl rfl e2 hi4 dX8_lend_5 ?_
  refine lv_astore_n (lv' := [(2, .ref (B + ((a0 + 16) + 1 + 6 * q1))), (0, .ref (B + a0)), (1, .int a1)]) hx hb dX8_lend_6 rfl hl (by decide) rfl (fun ls hl => ?_)
  refine lv_aload_n hx hb dX8_lend_7 rfl (lv_at hl 0 rfl) ?_
  obtain ⟨r5, hcall, h⟩ := bd_out h
  refine g0_callV (As := []) hC hml hS hW (KC_at hk hS F.2.2.2.2) KC_blind (metX1_bestChoice F hX (k0.2.2.2.2.2.2.2 q1 hq3) hcall) ml_X8_94 (gw_recv hC hW (k0.2.2.2.2.2.2.2 q1 hq3).1 ((k0.2.2.2.2.2.2.2 q1 hq3).2.1 (gfm s0) T B (μ ((a0 + 16) + 1 + 6 * q1))) rfl) ⟨rfl, rfl, (Nat.le_of_ble_eq_true rfl), (Nat.le_of_ble_eq_true rfl)⟩ rfl hl.1 rfl (Nat.le_of_ble_eq_true rfl) dX8_lend_8 ⟨(Nat.le_of_ble_eq_true rfl), (Nat.le_of_ble_eq_true rfl)⟩ (fun H locs hW hS => ?_)
  refine lv_istore_n (lv' := [(3, .int r5), (2, .ref (B + ((a0 + 16) + 1 + 6 * q1))), (0, .ref (B + a0)), (1, .int a1)]) hx hb dX8_lend_11 rfl hl (by decide) rfl (fun ls hl => ?_)
  refine lv_aload_n hx hb dX8_lend_12 rfl (lv_at hl 1 rfl) ?_
  refine lv_iload_n hx hb dX8_lend_13 rfl (lv_at hl 0 rfl) ?_
  obtain ⟨r6, hcall, h⟩ := bd_out h
  refine g0_callV (As := [.int r5]) hC hml hS hW (KC_at hk hS F.2.2.2.2) KC_blind (metX1_feesOf F hX (k0.2.2.2.2.2.2.2 q1 hq3) hcall) ml_X8_97 (gw_recv hC hW (k0.2.2.2.2.2.2.2 q1 hq3).1 ((k0.2.2.2.2.2.2.2 q1 hq3).2.1 (gfm s0) T B (μ ((a0 + 16) + 1 + 6 * q1))) rfl) ⟨rfl, rfl, (Nat.le_of_ble_eq_true rfl), (Nat.le_of_ble_eq_true rfl)⟩ rfl hl.1 rfl (Nat.le_of_ble_eq_true rfl) dX8_lend_14 ⟨(Nat.le_of_ble_eq_true rfl), (Nat.le_of_ble_eq_true rfl)⟩ (fun H locs hW hS => ?_)
  refine lv_istore (lv' := [(4, .int r6), (3, .int r5), (2, .ref (B + ((a0 + 16) + 1 + 6 * q1))), (0, .ref (B + a0)), (1, .int a1)]) hx hb dX8_lend_17 hl (by decide) rfl (fun ls hl => ?_)
  refine lv_aload_n hx hb dX8_lend_19 rfl (lv_at hl 2 rfl) ?_
  refine lv_iload_n hx hb dX8_lend_20 rfl (lv_at hl 1 rfl) ?_
  obtain ⟨r7, hcall, h⟩ := bd_out h
  refine g0_callV (As := [.int r5]) hC hml hS hW (KC_at hk hS F.2.2.2.2) KC_blind (metX1_takeLoans F hX (k0.2.2.2.2.2.2.2 q1 hq3) hcall) ml_X8_100 (gw_recv hC hW (k0.2.2.2.2.2.2.2 q1 hq3).1 ((k0.2.2.2.2.2.2.2 q1 hq3).2.1 (gfm s0) T B (μ ((a0 + 16) + 1 + 6 * q1))) rfl) ⟨rfl, rfl, (Nat.le_of_ble_eq_true rfl), (Nat.le_of_ble_eq_true rfl)⟩ rfl hl.1 rfl (Nat.le_of_ble_eq_true rfl) dX8_lend_21 ⟨(Nat.le_of_ble_eq_true rfl), (Nat.le_of_ble_eq_true rfl)⟩ (fun H locs hW hS => ?_)
  refine lv_aload_n hx hb dX8_lend_24 rfl (lv_at hl 3 rfl) ?_
  refine lv_dup hx hb dX8_lend_25 rfl ?_
  refine gw_get (v := .int (r7 a0 7)) hC hW fl_X8_50.1 k0.1 (k0.2.1 (gfm s0) T B (r7 a0)) rfl dX8_lend_26 ?_
  refine lv_iload hx hb dX8_lend_29 (lv_at hl 0 rfl) ?_
  refine lv_iadd hx hb dX8_lend_31 ?_
  obtain ⟨μ8, e9, h⟩ := lt_out h
  refine gq_put hC hS hW hA fl_X8_50 k0.1 (k0.2.1 (gfm s0) T B) (Nat.le_of_ble_eq_true rfl) rfl rfl rfl e9 dX8_lend_32 (fun H locs hW hS => ?_)
  refine lv_iload hx hb dX8_lend_35 (lv_at hl 0 rfl) ?_
  cases h
  exact hend dX8_lend_37 hW hS (Nat.le_of_ble_eq_true rfl) (Nat.le_of_ble_eq_true rfl)

theorem dX10_bestFeesByTrials_0 : decode cX10_bestFeesByTrials 0 = .ok (.aload_n 0, 1) := by decide +kernel
theorem dX10_bestFeesByTrials_1 : decode cX10_bestFeesByTrials 1 = .ok (.iload_n 1, 1) := by decide +kernel
theorem dX10_bestFeesByTrials_2 : decode cX10_bestFeesByTrials 2 = .ok (.invokevirtual 155, 3) := by decide +kernel
theorem dX10_bestFeesByTrials_5 : decode cX10_bestFeesByTrials 5 = .ok (.astore_n 2, 1) := by decide +kernel
theorem dX10_bestFeesByTrials_6 : decode cX10_bestFeesByTrials 6 = .ok (.aload_n 2, 1) := by decide +kernel
theorem dX10_bestFeesByTrials_7 : decode cX10_bestFeesByTrials 7 = .ok (.aload_n 2, 1) := by decide +kernel
theorem dX10_bestFeesByTrials_8 : decode cX10_bestFeesByTrials 8 = .ok (.invokevirtual 286, 3) := by decide +kernel
theorem dX10_bestFeesByTrials_11 : decode cX10_bestFeesByTrials 11 = .ok (.invokevirtual 290, 3) := by decide +kernel
theorem dX10_bestFeesByTrials_14 : decode cX10_bestFeesByTrials 14 = .ok (.ireturn, 1) := by decide +kernel
abbrev rmX10_bestFeesByTrials : Room := { frames := 7, cells := 1, slots := 6, locals := 153 }
set_option maxHeartbeats 4000000 in
set_option maxRecDepth 100000 in
theorem metX10_bestFeesByTrials {l : Launch} {s0 : State} {b B : Nat} {D : va_G} {T : Nat → ClassId} (F : FX l s0 b D T B) {X : Nat → Prop} (hX : ∀ o, o < 560 → ¬ X (B + o)) {N : Nat} {μ : Mem} {a0 : Nat} {a1 : Int32} {r : Mem × (Nat ⊕ Int32)} (k0 : IsGa a0) (h : fX10_bestFeesByTrials N μ a0 a1 = some r) : gXMet l yX10_bestFeesByTrials cX10_bestFeesByTrials 3 (some .int) rmX10_bestFeesByTrials [.ref (B + a0), .int a1] (gWC s0 D T B μ) (KC s0 X) (oI r.2) (gWC s0 D T B r.1) (gA B X) 1 6 := by
  refine gXI_of RX10 (by decide +kernel) rfl (Nat.le_of_ble_eq_true rfl) ?_
  intro p e s m args below meth c ls Q hx hb hlocks hml hown hts hW hk hl hS hE
  obtain ⟨hend, hthr, htb, hQ⟩ := hE
  have hC := FX_C F hk hx hb hown hts
  have hA := gA_all hX
  have hl : lv_has ls 3 [(0, .ref (B + a0)), (1, .int a1)] := hl
  unfold fX10_bestFeesByTrials at h
  refine lv_aload_n hx hb dX10_bestFeesByTrials_0 rfl (lv_at hl 0 rfl) ?_
  refine lv_iload_n hx hb dX10_bestFeesByTrials_1 rfl (lv_at hl 1 rfl) ?_
  rcases tb_out h with ⟨μ2, n4, hcall, h9⟩ | ⟨μ2, r3, hcall, h⟩
  · cases h9
    exact gx_callV (As := [.int a1]) hC hml hS hW (KC_at hk hS F.2.2.2.2) KC_blind (metX10_existing F hX k0 hcall) ml_X10_155 (gw_recv hC hW k0.1 (k0.2.2.1 (gfm s0) T B (μ a0)) rfl) ⟨rfl, rfl, (Nat.le_of_ble_eq_true rfl), (Nat.le_of_ble_eq_true rfl)⟩ rfl hl.1 rfl (Nat.le_of_ble_eq_true rfl) dX10_bestFeesByTrials_2 ⟨(Nat.le_of_ble_eq_true rfl), (Nat.le_of_ble_eq_true rfl)⟩ (fun v9 ho => by cases ho) (fun k9 ho H locs q9 ce9 hW hS hce hvm hcl => by cases ho; exact hthr _ rfl hW hS hce hvm hcl (Nat.le_of_ble_eq_true rfl) (Nat.le_of_ble_eq_true rfl))
  refine gx_callV (As := [.int a1]) hC hml hS hW (KC_at hk hS F.2.2.2.2) KC_blind (metX10_existing F hX k0 hcall) ml_X10_155 (gw_recv hC hW k0.1 (k0.2.2.1 (gfm s0) T B (μ a0)) rfl) ⟨rfl, rfl, (Nat.le_of_ble_eq_true rfl), (Nat.le_of_ble_eq_true rfl)⟩ rfl hl.1 rfl (Nat.le_of_ble_eq_true rfl) dX10_bestFeesByTrials_2 ⟨(Nat.le_of_ble_eq_true rfl), (Nat.le_of_ble_eq_true rfl)⟩ (fun v9 ho H locs hW hS => ?_) (fun k9 ho => by cases ho)
  cases ho
  refine W.widen (k := 1) (n := 6) (Nat.le_of_ble_eq_true rfl) (Nat.le_of_ble_eq_true rfl) ?_
  have kr5 := kdX10_existing k0 hcall
  refine lv_astore_n (lv' := [(2, .ref (B + r3)), (0, .ref (B + a0)), (1, .int a1)]) hx hb dX10_bestFeesByTrials_5 rfl hl (by decide) rfl (fun ls hl => ?_)
  refine lv_aload_n hx hb dX10_bestFeesByTrials_6 rfl (lv_at hl 0 rfl) ?_
  refine lv_aload_n hx hb dX10_bestFeesByTrials_7 rfl (lv_at hl 0 rfl) ?_
  obtain ⟨r6, hcall, h⟩ := bd_out h
  refine g0_callV (As := []) hC hml hS hW (KC_at hk hS F.2.2.2.2) KC_blind (metX1_bestChoice F hX kr5 hcall) ml_X10_286 (gw_recv hC hW kr5.1 (kr5.2.1 (gfm s0) T B (μ2 r3)) rfl) ⟨rfl, rfl, (Nat.le_of_ble_eq_true rfl), (Nat.le_of_ble_eq_true rfl)⟩ rfl hl.1 rfl (Nat.le_of_ble_eq_true rfl) dX10_bestFeesByTrials_8 ⟨(Nat.le_of_ble_eq_true rfl), (Nat.le_of_ble_eq_true rfl)⟩ (fun H locs hW hS => ?_)
  obtain ⟨r7, hcall, h⟩ := bd_out h
  refine g0_callV (As := [.int r6]) hC hml hS hW (KC_at hk hS F.2.2.2.2) KC_blind (metX1_feesOf F hX kr5 hcall) ml_X10_290 (gw_recv hC hW kr5.1 (kr5.2.1 (gfm s0) T B (μ2 r3)) rfl) ⟨rfl, rfl, (Nat.le_of_ble_eq_true rfl), (Nat.le_of_ble_eq_true rfl)⟩ rfl hl.1 rfl (Nat.le_of_ble_eq_true rfl) dX10_bestFeesByTrials_11 ⟨(Nat.le_of_ble_eq_true rfl), (Nat.le_of_ble_eq_true rfl)⟩ (fun H locs hW hS => ?_)
  cases h
  exact hend _ rfl dX10_bestFeesByTrials_14 hW hS (Nat.le_of_ble_eq_true rfl) (Nat.le_of_ble_eq_true rfl)

theorem dX10_takeBest_0 : decode cX10_takeBest 0 = .ok (.aload_n 0, 1) := by decide +kernel
theorem dX10_takeBest_1 : decode cX10_takeBest 1 = .ok (.iload_n 1, 1) := by decide +kernel
theorem dX10_takeBest_2 : decode cX10_takeBest 2 = .ok (.invokevirtual 270, 3) := by decide +kernel
theorem dX10_takeBest_5 : decode cX10_takeBest 5 = .ok (.invokestatic 72, 3) := by decide +kernel
theorem dX10_takeBest_8 : decode cX10_takeBest 8 = .ok (.aload_n 0, 1) := by decide +kernel
theorem dX10_takeBest_9 : decode cX10_takeBest 9 = .ok (.invokevirtual 76, 3) := by decide +kernel
theorem dX10_takeBest_12 : decode cX10_takeBest 12 = .ok (.aload_n 0, 1) := by decide +kernel
theorem dX10_takeBest_13 : decode cX10_takeBest 13 = .ok (.getfield 12, 3) := by decide +kernel
theorem dX10_takeBest_16 : decode cX10_takeBest 16 = .ok (.iload_n 1, 1) := by decide +kernel
theorem dX10_takeBest_17 : decode cX10_takeBest 17 = .ok (.invokevirtual 273, 3) := by decide +kernel
theorem dX10_takeBest_20 : decode cX10_takeBest 20 = .ok (.ireturn, 1) := by decide +kernel
abbrev rmX10_takeBest : Room := { frames := 7, cells := 1, slots := 6, locals := 177 }
set_option maxHeartbeats 4000000 in
set_option maxRecDepth 100000 in
theorem metX10_takeBest {l : Launch} {s0 : State} {b B : Nat} {D : va_G} {T : Nat → ClassId} (F : FX l s0 b D T B) {X : Nat → Prop} (hX : ∀ o, o < 560 → ¬ X (B + o)) {N : Nat} {μ : Mem} {a0 : Nat} {a1 : Int32} {r : Mem × (Nat ⊕ Int32)} (k0 : IsGa a0) (h : fX10_takeBest N μ a0 a1 = some r) : gXMet l yX10_takeBest cX10_takeBest 2 (some .int) rmX10_takeBest [.ref (B + a0), .int a1] (gWC s0 D T B μ) (KC s0 X) (oI r.2) (gWC s0 D T B r.1) (gA B X) 1 6 := by
  refine gXI_of RX10 (by decide +kernel) rfl (Nat.le_of_ble_eq_true rfl) ?_
  intro p e s m args below meth c ls Q hx hb hlocks hml hown hts hW hk hl hS hE
  obtain ⟨hend, hthr, htb, hQ⟩ := hE
  have hC := FX_C F hk hx hb hown hts
  have hA := gA_all hX
  have hl : lv_has ls 2 [(0, .ref (B + a0)), (1, .int a1)] := hl
  unfold fX10_takeBest at h
  refine lv_aload_n hx hb dX10_takeBest_0 rfl (lv_at hl 0 rfl) ?_
  refine lv_iload_n hx hb dX10_takeBest_1 rfl (lv_at hl 1 rfl) ?_
  obtain ⟨r1, hcall, h⟩ := bd_out h
  refine g0_callV (As := [.int a1]) hC hml hS hW (KC_at hk hS F.2.2.2.2) KC_blind (metX10_takeFault F hX k0 hcall) ml_X10_270 (gw_recv hC hW k0.1 (k0.2.2.1 (gfm s0) T B (μ a0)) rfl) ⟨rfl, rfl, (Nat.le_of_ble_eq_true rfl), (Nat.le_of_ble_eq_true rfl)⟩ rfl hl.1 rfl (Nat.le_of_ble_eq_true rfl) dX10_takeBest_2 ⟨(Nat.le_of_ble_eq_true rfl), (Nat.le_of_ble_eq_true rfl)⟩ (fun H locs hW hS => ?_)
  rcases tb_out h with ⟨μ3, n5, hcall, h9⟩ | ⟨μ3, r4, hcall, h⟩
  · cases h9
    exact gx_callS (As := [.ref (gfa s0 r1)]) hC hml hS hW (KC_at hk hS F.2.2.2.2) KC_blind (metX10_stopIf F hX  hcall) ml_X10_72 ⟨rfl, rfl, (Nat.le_of_ble_eq_true rfl), (Nat.le_of_ble_eq_true rfl)⟩ rfl hl.1 rfl (Nat.le_of_ble_eq_true rfl) dX10_takeBest_5 ⟨(Nat.le_of_ble_eq_true rfl), (Nat.le_of_ble_eq_true rfl)⟩ (fun v9 ho => by cases ho) (fun k9 ho H locs q9 ce9 hW hS hce hvm hcl => by cases ho; exact hthr _ rfl hW hS hce hvm hcl (Nat.le_of_ble_eq_true rfl) (Nat.le_of_ble_eq_true rfl))
  refine gx_callS (As := [.ref (gfa s0 r1)]) hC hml hS hW (KC_at hk hS F.2.2.2.2) KC_blind (metX10_stopIf F hX  hcall) ml_X10_72 ⟨rfl, rfl, (Nat.le_of_ble_eq_true rfl), (Nat.le_of_ble_eq_true rfl)⟩ rfl hl.1 rfl (Nat.le_of_ble_eq_true rfl) dX10_takeBest_5 ⟨(Nat.le_of_ble_eq_true rfl), (Nat.le_of_ble_eq_true rfl)⟩ (fun v9 ho H locs hW hS => ?_) (fun k9 ho => by cases ho)
  cases ho
  refine W.widen (k := 1) (n := 6) (Nat.le_of_ble_eq_true rfl) (Nat.le_of_ble_eq_true rfl) ?_
  refine lv_aload_n hx hb dX10_takeBest_8 rfl (lv_at hl 0 rfl) ?_
  obtain ⟨r6, hcall, h⟩ := bd_out h
  refine g0_callV (As := []) hC hml hS hW (KC_at hk hS F.2.2.2.2) KC_blind (metX10_remember F hX k0 hcall) ml_X10_76 (gw_recv hC hW k0.1 (k0.2.2.1 (gfm s0) T B (μ3 a0)) rfl) ⟨rfl, rfl, (Nat.le_of_ble_eq_true rfl), (Nat.le_of_ble_eq_true rfl)⟩ rfl hl.1 rfl (Nat.le_of_ble_eq_true rfl) dX10_takeBest_9 ⟨(Nat.le_of_ble_eq_true rfl), (Nat.le_of_ble_eq_true rfl)⟩ (fun H locs hW hS => ?_)
  refine lv_aload_n hx hb dX10_takeBest_12 rfl (lv_at hl 0 rfl) ?_
  refine gw_get (v := .ref (B + 1)) hC hW fl_X10_12 k0.1 (k0.2.2.1 (gfm s0) T B (r6 a0)) rfl dX10_takeBest_13 ?_
  refine lv_iload_n hx hb dX10_takeBest_16 rfl (lv_at hl 1 rfl) ?_
  obtain ⟨r7, hcall, h⟩ := bd_out h
  refine g0_callV (As := [.int a1]) hC hml hS hW (KC_at hk hS F.2.2.2.2) KC_blind (metX8_lend F hX k0.2.2.2.1 hcall) ml_X10_273 (gw_recv hC hW k0.2.2.2.1.1 (k0.2.2.2.1.2.1 (gfm s0) T B (r6 1)) rfl) ⟨rfl, rfl, (Nat.le_of_ble_eq_true rfl), (Nat.le_of_ble_eq_true rfl)⟩ rfl hl.1 rfl (Nat.le_of_ble_eq_true rfl) dX10_takeBest_17 ⟨(Nat.le_of_ble_eq_true rfl), (Nat.le_of_ble_eq_true rfl)⟩ (fun H locs hW hS => ?_)
  cases h
  exact hend _ rfl dX10_takeBest_20 hW hS (Nat.le_of_ble_eq_true rfl) (Nat.le_of_ble_eq_true rfl)

theorem dX6_slopeFrom_0 : decode cX6_slopeFrom 0 = .ok (.iload_n 2, 1) := by decide +kernel
theorem dX6_slopeFrom_1 : decode cX6_slopeFrom 1 = .ok (.bipush 16, 2) := by decide +kernel
theorem dX6_slopeFrom_3 : decode cX6_slopeFrom 3 = .ok (.if_icmp .lt 5, 3) := by decide +kernel
theorem dX6_slopeFrom_6 : decode cX6_slopeFrom 6 = .ok (.iconst 1, 1) := by decide +kernel
theorem dX6_slopeFrom_7 : decode cX6_slopeFrom 7 = .ok (.ireturn, 1) := by decide +kernel
theorem dX6_slopeFrom_8 : decode cX6_slopeFrom 8 = .ok (.iconst 0, 1) := by decide +kernel
theorem dX6_slopeFrom_9 : decode cX6_slopeFrom 9 = .ok (.istore_n 3, 1) := by decide +kernel
theorem dX6_slopeFrom_10 : decode cX6_slopeFrom 10 = .ok (.iconst 0, 1) := by decide +kernel
theorem dX6_slopeFrom_11 : decode cX6_slopeFrom 11 = .ok (.istore 4, 2) := by decide +kernel
theorem dX6_slopeFrom_13 : decode cX6_slopeFrom 13 = .ok (.iload 4, 2) := by decide +kernel
theorem dX6_slopeFrom_15 : decode cX6_slopeFrom 15 = .ok (.iconst 4, 1) := by decide +kernel
theorem dX6_slopeFrom_16 : decode cX6_slopeFrom 16 = .ok (.if_icmp .ge 47, 3) := by decide +kernel
theorem dX6_slopeFrom_19 : decode cX6_slopeFrom 19 = .ok (.iload_n 1, 1) := by decide +kernel
theorem dX6_slopeFrom_20 : decode cX6_slopeFrom 20 = .ok (.iload 4, 2) := by decide +kernel
theorem dX6_slopeFrom_22 : decode cX6_slopeFrom 22 = .ok (.invokestatic 50, 3) := by decide +kernel
theorem dX6_slopeFrom_25 : decode cX6_slopeFrom 25 = .ok (.istore 5, 2) := by decide +kernel
theorem dX6_slopeFrom_27 : decode cX6_slopeFrom 27 = .ok (.iload 5, 2) := by decide +kernel
theorem dX6_slopeFrom_29 : decode cX6_slopeFrom 29 = .ok (.iconst (-1), 1) := by decide +kernel
theorem dX6_slopeFrom_30 : decode cX6_slopeFrom 30 = .ok (.if_icmp .eq 27, 3) := by decide +kernel
theorem dX6_slopeFrom_33 : decode cX6_slopeFrom 33 = .ok (.aload_n 0, 1) := by decide +kernel
theorem dX6_slopeFrom_34 : decode cX6_slopeFrom 34 = .ok (.iload 5, 2) := by decide +kernel
theorem dX6_slopeFrom_36 : decode cX6_slopeFrom 36 = .ok (.iaload, 1) := by decide +kernel
theorem dX6_slopeFrom_37 : decode cX6_slopeFrom 37 = .ok (.aload_n 0, 1) := by decide +kernel
theorem dX6_slopeFrom_38 : decode cX6_slopeFrom 38 = .ok (.iload_n 1, 1) := by decide +kernel
theorem dX6_slopeFrom_39 : decode cX6_slopeFrom 39 = .ok (.iaload, 1) := by decide +kernel
theorem dX6_slopeFrom_40 : decode cX6_slopeFrom 40 = .ok (.if_icmp .ge 17, 3) := by decide +kernel
theorem dX6_slopeFrom_43 : decode cX6_slopeFrom 43 = .ok (.iload_n 3, 1) := by decide +kernel
theorem dX6_slopeFrom_44 : decode cX6_slopeFrom 44 = .ok (.aload_n 0, 1) := by decide +kernel
theorem dX6_slopeFrom_45 : decode cX6_slopeFrom 45 = .ok (.iload 5, 2) := by decide +kernel
theorem dX6_slopeFrom_47 : decode cX6_slopeFrom 47 = .ok (.iload_n 2, 1) := by decide +kernel
theorem dX6_slopeFrom_48 : decode cX6_slopeFrom 48 = .ok (.iconst 1, 1) := by decide +kernel
theorem dX6_slopeFrom_49 : decode cX6_slopeFrom 49 = .ok (.iadd, 1) := by decide +kernel
theorem dX6_slopeFrom_50 : decode cX6_slopeFrom 50 = .ok (.invokestatic 69, 3) := by decide +kernel
theorem dX6_slopeFrom_53 : decode cX6_slopeFrom 53 = .ok (.invokestatic 73, 3) := by decide +kernel
theorem dX6_slopeFrom_56 : decode cX6_slopeFrom 56 = .ok (.istore_n 3, 1) := by decide +kernel
theorem dX6_slopeFrom_57 : decode cX6_slopeFrom 57 = .ok (.iinc 4 1, 3) := by decide +kernel
theorem dX6_slopeFrom_60 : decode cX6_slopeFrom 60 = .ok (.goto (-47), 3) := by decide +kernel
theorem dX6_slopeFrom_63 : decode cX6_slopeFrom 63 = .ok (.iload_n 3, 1) := by decide +kernel
theorem dX6_slopeFrom_64 : decode cX6_slopeFrom 64 = .ok (.iconst 1, 1) := by decide +kernel
theorem dX6_slopeFrom_65 : decode cX6_slopeFrom 65 = .ok (.iadd, 1) := by decide +kernel
theorem dX6_slopeFrom_66 : decode cX6_slopeFrom 66 = .ok (.ireturn, 1) := by decide +kernel
abbrev rmX6_slopeFrom (n : Nat) : Room := { frames := n + 3, cells := 0, slots := 0, locals := 60 * n + 83 }
set_option maxHeartbeats 4000000 in
set_option maxRecDepth 100000 in
theorem metX6_slopeFrom {l : Launch} {s0 : State} {b B : Nat} {D : va_G} {T : Nat → ClassId} (F : FX l s0 b D T B) {X : Nat → Prop} (hX : ∀ o, o < 560 → ¬ X (B + o)) {N : Nat} : ∀ (n : Nat) {μ : Mem} {a0 : Nat} {a1 : Int32} {a2 : Int32} {r : Int32} (k0 : (IA 16) a0) (h : fX6_slopeFrom N n μ a0 a1 a2 = some r), gMet l yX6_slopeFrom cX6_slopeFrom 6 (some .int) (rmX6_slopeFrom n) [.ref (B + a0), .int a1, .int a2] (gWC s0 D T B μ) (KC s0 X) (some (.int r)) (gWC s0 D T B μ) (gA B X) 0 0 := by
  intro n
  induction n with
  | zero =>
    intro μ a0 a1 a2 r k0 h
    cases h
  | succ n ih =>
    intro μ a0 a1 a2 r k0 h
    refine gI_of RX6 (by decide +kernel) rfl (by first | exact Nat.le_of_ble_eq_true rfl | (simp only [rmX6_slopeFrom, rmX6_beside]; omega) | (simp only [rmX6_slopeFrom]; omega)) ?_
    intro p e s m args below meth c ls Q hx hb hlocks hml hown hts hW hk hl hS hend
    have hC := FX_C F hk hx hb hown hts
    have hA := gA_all hX
    have hl : lv_has ls 6 [(0, .ref (B + a0)), (1, .int a1), (2, .int a2)] := hl
    unfold fX6_slopeFrom at h
    refine lv_iload_n hx hb dX6_slopeFrom_0 rfl (lv_at hl 2 rfl) ?_
    refine lv_bipush (v := 16) hx hb dX6_slopeFrom_1 (by decide) ?_
    refine lv_icmp_lt (tgt := 8) hx hb dX6_slopeFrom_3 (by decide) (fun c1 => ?_) (fun c1 => ?_)
    · replace h := ite_t c1 h
      refine lv_iconst (v := 0) hx hb dX6_slopeFrom_8 (by decide) ?_
      refine lv_istore_n (lv' := [(3, .int 0), (0, .ref (B + a0)), (1, .int a1), (2, .int a2)]) hx hb dX6_slopeFrom_9 rfl hl (by decide) rfl (fun ls hl => ?_)
      refine lv_iconst (v := 0) hx hb dX6_slopeFrom_10 (by decide) ?_
      refine lv_istore (lv' := [(4, .int 0), (3, .int 0), (0, .ref (B + a0)), (1, .int a1), (2, .int a2)]) hx hb dX6_slopeFrom_11 hl (by decide) rfl (fun ls hl => ?_)
      refine fix2_ind (fun (x2 : Int32) (x3 : Int32) => ∀ (H : Heap) (locs : List Loc) (ls : Array Slot), gWC s0 D T B μ H → va_S (gA B X) s.heap H locs → lv_has ls 6 [(0, .ref (B + a0)), (1, .int a1), (2, .int a2), (3, .int x2), (4, .int x3)] → W p l e (rmX6_slopeFrom (n + 1)) s m args below meth c H locs 0 0 Q (F0 m 13 ls [])) ?_ N _ _ h _ _ _ hW hS (lv_sub hl [2, 3, 4, 1, 0] rfl)
      clear h hW hS hl
      intro self4 IH5 x2 x3 h H locs ls hW hS hl
      refine lv_iload hx hb dX6_slopeFrom_13 (lv_at hl 4 rfl) ?_
      refine lv_iconst (v := 4) hx hb dX6_slopeFrom_15 (by decide) ?_
      refine lv_icmp_ge (tgt := 63) hx hb dX6_slopeFrom_16 (by decide) (fun c6 => ?_) (fun c6 => ?_)
      · replace h := ite_t c6 h
        refine lv_iload_n hx hb dX6_slopeFrom_63 rfl (lv_at hl 3 rfl) ?_
        refine lv_iconst (v := 1) hx hb dX6_slopeFrom_64 (by decide) ?_
        refine lv_iadd hx hb dX6_slopeFrom_65 ?_
        cases h
        exact hend dX6_slopeFrom_66 hW hS (by first | exact Nat.le_of_ble_eq_true rfl | (simp only [rmX6_slopeFrom, rmX6_beside]; omega) | (simp only [rmX6_slopeFrom]; omega)) (by first | exact Nat.le_of_ble_eq_true rfl | (simp only [rmX6_slopeFrom, rmX6_beside]; omega) | (simp only [rmX6_slopeFrom]; omega))
      · replace h := ite_f c6 h
        refine lv_iload_n hx hb dX6_slopeFrom_19 rfl (lv_at hl 1 rfl) ?_
        refine lv_iload hx hb dX6_slopeFrom_20 (lv_at hl 4 rfl) ?_
        obtain ⟨r7, hcall, h⟩ := bd_out h
        refine g0_callS (As := [.int a1, .int x3]) hC hml hS hW (KC_at hk hS F.2.2.2.2) KC_blind (metX6_beside F hX  hcall) ml_X6_50 ⟨rfl, rfl, (by first | exact Nat.le_of_ble_eq_true rfl | (simp only [rmX6_slopeFrom, rmX6_beside]; omega) | (simp only [rmX6_slopeFrom]; omega)), (by first | exact Nat.le_of_ble_eq_true rfl | (simp only [rmX6_slopeFrom, rmX6_beside]; omega) | (simp only [rmX6_slopeFrom]; omega))⟩ rfl hl.1 rfl (by first | exact Nat.le_of_ble_eq_true rfl | (simp only [rmX6_slopeFrom, rmX6_beside]; omega) | (simp only [rmX6_slopeFrom]; omega)) dX6_slopeFrom_22 ⟨(by first | exact Nat.le_of_ble_eq_true rfl | (simp only [rmX6_slopeFrom, rmX6_beside]; omega) | (simp only [rmX6_slopeFrom]; omega)), (by first | exact Nat.le_of_ble_eq_true rfl | (simp only [rmX6_slopeFrom, rmX6_beside]; omega) | (simp only [rmX6_slopeFrom]; omega))⟩ (fun H locs hW hS => ?_)
        refine lv_istore (lv' := [(5, .int r7), (0, .ref (B + a0)), (1, .int a1), (2, .int a2), (3, .int x2), (4, .int x3)]) hx hb dX6_slopeFrom_25 hl (by decide) rfl (fun ls hl => ?_)
        refine lv_iload hx hb dX6_slopeFrom_27 (lv_at hl 0 rfl) ?_
        refine lv_iconst (v := (-1)) hx hb dX6_slopeFrom_29 (by decide) ?_
        obtain ⟨j9, hj11, h⟩ := jn1_o h
        have J10 : ∀ (y8 : Int32), j9 y8 = some r → ∀ (H : Heap) (locs : List Loc) (ls : Array Slot), gWC s0 D T B μ H → va_S (gA B X) s.heap H locs → lv_has ls 6 [(0, .ref (B + a0)), (1, .int a1), (2, .int a2), (3, .int y8), (4, .int x3)] → W p l e (rmX6_slopeFrom (n + 1)) s m args below meth c H locs 0 0 Q (F0 m 57 ls []) := by
          clear h hW hS hl
          intro y8 h H locs ls hW hS hl
          replace h := (hj11 y8).symm.trans h
          obtain ⟨v12, e13, h⟩ := lt_out h
          refine lv_iinc (v := v12) (lv' := [(4, .int v12), (0, .ref (B + a0)), (1, .int a1), (2, .int a2), (3, .int y8)]) hx hb dX6_slopeFrom_57 hl (k := 4) rfl (by rw [e13]; rfl) (by decide) rfl (fun ls hl => ?_)
          refine lv_goto (tgt := 13) hx hb dX6_slopeFrom_60 (by decide) ?_
          exact IH5 _ _ h _ _ _ hW hS (lv_sub hl [1, 2, 3, 4, 0] rfl)
        refine lv_icmp_eq (tgt := 57) hx hb dX6_slopeFrom_30 (by decide) (fun c14 => ?_) (fun c14 => ?_)
        · replace h := ite_t c14 h
          exact J10 _ h _ _ _ hW hS (lv_sub hl [1, 2, 3, 4, 5] rfl)
        · replace h := ite_f c14 h
          refine lv_aload_n hx hb dX6_slopeFrom_33 rfl (lv_at hl 1 rfl) ?_
          refine lv_iload hx hb dX6_slopeFrom_34 (lv_at hl 0 rfl) ?_
          obtain ⟨v15, e16, hi17, h⟩ := ag_o h
          refine gq_iald hC hW k0.1 (k0.2 (gfm s0) T B (μ a0)) (t0 := 0) rfl e16 hi17 dX6_slopeFrom_36 ?_
          refine lv_aload_n hx hb dX6_slopeFrom_37 rfl (lv_at hl 1 rfl) ?_
          refine lv_iload_n hx hb dX6_slopeFrom_38 rfl (lv_at hl 2 rfl) ?_
          obtain ⟨v18, e19, hi20, h⟩ := ag_o h
          refine gq_iald hC hW k0.1 (k0.2 (gfm s0) T B (μ a0)) (t0 := 0) rfl e19 hi20 dX6_slopeFrom_39 ?_
          refine lv_icmp_ge (tgt := 57) hx hb dX6_slopeFrom_40 (by decide) (fun c21 => ?_) (fun c21 => ?_)
          · replace h := ite_t c21 h
            exact J10 _ h _ _ _ hW hS (lv_sub hl [1, 2, 3, 4, 5] rfl)
          · replace h := ite_f c21 h
            refine lv_iload_n hx hb dX6_slopeFrom_43 rfl (lv_at hl 4 rfl) ?_
            refine lv_aload_n hx hb dX6_slopeFrom_44 rfl (lv_at hl 1 rfl) ?_
            refine lv_iload hx hb dX6_slopeFrom_45 (lv_at hl 0 rfl) ?_
            refine lv_iload_n hx hb dX6_slopeFrom_47 rfl (lv_at hl 3 rfl) ?_
            refine lv_iconst (v := 1) hx hb dX6_slopeFrom_48 (by decide) ?_
            refine lv_iadd hx hb dX6_slopeFrom_49 ?_
            obtain ⟨r22, hcall, h⟩ := bd_out h
            refine g0_callS (As := [.ref (B + a0), .int r7, .int (a2 + 1)]) hC hml hS hW (KC_at hk hS F.2.2.2.2) KC_blind (ih k0 hcall) ml_X6_69 ⟨rfl, rfl, (by first | exact Nat.le_of_ble_eq_true rfl | (simp only [rmX6_slopeFrom, rmX6_beside]; omega) | (simp only [rmX6_slopeFrom]; omega)), (by first | exact Nat.le_of_ble_eq_true rfl | (simp only [rmX6_slopeFrom, rmX6_beside]; omega) | (simp only [rmX6_slopeFrom]; omega))⟩ rfl hl.1 rfl (by first | exact Nat.le_of_ble_eq_true rfl | (simp only [rmX6_slopeFrom, rmX6_beside]; omega) | (simp only [rmX6_slopeFrom]; omega)) dX6_slopeFrom_50 ⟨(by first | exact Nat.le_of_ble_eq_true rfl | (simp only [rmX6_slopeFrom, rmX6_beside]; omega) | (simp only [rmX6_slopeFrom]; omega)), (by first | exact Nat.le_of_ble_eq_true rfl | (simp only [rmX6_slopeFrom, rmX6_beside]; omega) | (simp only [rmX6_slopeFrom]; omega))⟩ (fun H locs hW hS => ?_)
            refine gw_max hC (hml.trans hl.1.symm) lm_X6_73 lb_max.1 lb_max.2.1 lb_max.2.2 (by first | exact Nat.le_of_ble_eq_true rfl | (simp only [rmX6_slopeFrom, rmX6_beside]; omega) | (simp only [rmX6_slopeFrom]; omega)) (by first | exact Nat.le_of_ble_eq_true rfl | (simp only [rmX6_slopeFrom, rmX6_beside]; omega) | (simp only [rmX6_slopeFrom]; omega)) (by first | exact Nat.le_of_ble_eq_true rfl | (simp only [rmX6_slopeFrom, rmX6_beside]; omega) | (simp only [rmX6_slopeFrom]; omega)) (by first | exact Nat.le_of_ble_eq_true rfl | (simp only [rmX6_slopeFrom, rmX6_beside]; omega) | (simp only [rmX6_slopeFrom]; omega)) dX6_slopeFrom_53 ?_
            obtain ⟨v23, e24, h⟩ := lt_out h
            rw [← e24]
            refine lv_istore_n (lv' := [(3, .int v23), (5, .int r7), (0, .ref (B + a0)), (1, .int a1), (2, .int a2), (4, .int x3)]) hx hb dX6_slopeFrom_56 rfl hl (by decide) rfl (fun ls hl => ?_)
            exact J10 _ h _ _ _ hW hS (lv_sub hl [2, 3, 4, 0, 5] rfl)
    · replace h := ite_f c1 h
      refine lv_iconst (v := 1) hx hb dX6_slopeFrom_6 (by decide) ?_
      cases h
      exact hend dX6_slopeFrom_7 hW hS (by first | exact Nat.le_of_ble_eq_true rfl | (simp only [rmX6_slopeFrom, rmX6_beside]; omega) | (simp only [rmX6_slopeFrom]; omega)) (by first | exact Nat.le_of_ble_eq_true rfl | (simp only [rmX6_slopeFrom, rmX6_beside]; omega) | (simp only [rmX6_slopeFrom]; omega))

theorem dX6_slopeByRecursion_0 : decode cX6_slopeByRecursion 0 = .ok (.iconst 0, 1) := by decide +kernel
theorem dX6_slopeByRecursion_1 : decode cX6_slopeByRecursion 1 = .ok (.istore_n 1, 1) := by decide +kernel
theorem dX6_slopeByRecursion_2 : decode cX6_slopeByRecursion 2 = .ok (.iconst 0, 1) := by decide +kernel
theorem dX6_slopeByRecursion_3 : decode cX6_slopeByRecursion 3 = .ok (.istore_n 2, 1) := by decide +kernel
theorem dX6_slopeByRecursion_4 : decode cX6_slopeByRecursion 4 = .ok (.iload_n 2, 1) := by decide +kernel
theorem dX6_slopeByRecursion_5 : decode cX6_slopeByRecursion 5 = .ok (.bipush 16, 2) := by decide +kernel
theorem dX6_slopeByRecursion_7 : decode cX6_slopeByRecursion 7 = .ok (.if_icmp .ge 20, 3) := by decide +kernel
theorem dX6_slopeByRecursion_10 : decode cX6_slopeByRecursion 10 = .ok (.iload_n 1, 1) := by decide +kernel
theorem dX6_slopeByRecursion_11 : decode cX6_slopeByRecursion 11 = .ok (.aload_n 0, 1) := by decide +kernel
theorem dX6_slopeByRecursion_12 : decode cX6_slopeByRecursion 12 = .ok (.iload_n 2, 1) := by decide +kernel
theorem dX6_slopeByRecursion_13 : decode cX6_slopeByRecursion 13 = .ok (.iconst 1, 1) := by decide +kernel
theorem dX6_slopeByRecursion_14 : decode cX6_slopeByRecursion 14 = .ok (.invokestatic 69, 3) := by decide +kernel
theorem dX6_slopeByRecursion_17 : decode cX6_slopeByRecursion 17 = .ok (.invokestatic 73, 3) := by decide +kernel
theorem dX6_slopeByRecursion_20 : decode cX6_slopeByRecursion 20 = .ok (.istore_n 1, 1) := by decide +kernel
theorem dX6_slopeByRecursion_21 : decode cX6_slopeByRecursion 21 = .ok (.iinc 2 1, 3) := by decide +kernel
theorem dX6_slopeByRecursion_24 : decode cX6_slopeByRecursion 24 = .ok (.goto (-20), 3) := by decide +kernel
theorem dX6_slopeByRecursion_27 : decode cX6_slopeByRecursion 27 = .ok (.iload_n 1, 1) := by decide +kernel
theorem dX6_slopeByRecursion_28 : decode cX6_slopeByRecursion 28 = .ok (.ireturn, 1) := by decide +kernel
abbrev rmX6_slopeByRecursion : Room := { frames := 21, cells := 0, slots := 0, locals := 1128 }
set_option maxHeartbeats 4000000 in
set_option maxRecDepth 100000 in
theorem metX6_slopeByRecursion {l : Launch} {s0 : State} {b B : Nat} {D : va_G} {T : Nat → ClassId} (F : FX l s0 b D T B) {X : Nat → Prop} (hX : ∀ o, o < 560 → ¬ X (B + o)) {N : Nat} {μ : Mem} {a0 : Nat} {r : Int32} (k0 : (IA 16) a0) (h : fX6_slopeByRecursion N μ a0 = some r) : gMet l yX6_slopeByRecursion cX6_slopeByRecursion 3 (some .int) rmX6_slopeByRecursion [.ref (B + a0)] (gWC s0 D T B μ) (KC s0 X) (some (.int r)) (gWC s0 D T B μ) (gA B X) 0 0 := by
  refine gI_of RX6 (by decide +kernel) rfl (Nat.le_of_ble_eq_true rfl) ?_
  intro p e s m args below meth c ls Q hx hb hlocks hml hown hts hW hk hl hS hend
  have hC := FX_C F hk hx hb hown hts
  have hA := gA_all hX
  have hl : lv_has ls 3 [(0, .ref (B + a0))] := hl
  unfold fX6_slopeByRecursion at h
  refine lv_iconst (v := 0) hx hb dX6_slopeByRecursion_0 (by decide) ?_
  refine lv_istore_n (lv' := [(1, .int 0), (0, .ref (B + a0))]) hx hb dX6_slopeByRecursion_1 rfl hl (by decide) rfl (fun ls hl => ?_)
  refine lv_iconst (v := 0) hx hb dX6_slopeByRecursion_2 (by decide) ?_
  refine lv_istore_n (lv' := [(2, .int 0), (1, .int 0), (0, .ref (B + a0))]) hx hb dX6_slopeByRecursion_3 rfl hl (by decide) rfl (fun ls hl => ?_)
  refine fix2_ind (fun (x1 : Int32) (x2 : Int32) => ∀ (H : Heap) (locs : List Loc) (ls : Array Slot), gWC s0 D T B μ H → va_S (gA B X) s.heap H locs → lv_has ls 3 [(0, .ref (B + a0)), (1, .int x1), (2, .int x2)] → W p l e rmX6_slopeByRecursion s m args below meth c H locs 0 0 Q (F0 m 4 ls [])) ?_ N _ _ h _ _ _ hW hS (lv_sub hl [2, 1, 0] rfl)
  clear h hW hS hl
  intro self3 IH4 x1 x2 h H locs ls hW hS hl
  refine lv_iload_n hx hb dX6_slopeByRecursion_4 rfl (lv_at hl 2 rfl) ?_
  refine lv_bipush (v := 16) hx hb dX6_slopeByRecursion_5 (by decide) ?_
  refine lv_icmp_ge (tgt := 27) hx hb dX6_slopeByRecursion_7 (by decide) (fun c5 => ?_) (fun c5 => ?_)
  · replace h := ite_t c5 h
    refine lv_iload_n hx hb dX6_slopeByRecursion_27 rfl (lv_at hl 1 rfl) ?_
    cases h
    exact hend dX6_slopeByRecursion_28 hW hS (Nat.le_of_ble_eq_true rfl) (Nat.le_of_ble_eq_true rfl)
  · replace h := ite_f c5 h
    refine lv_iload_n hx hb dX6_slopeByRecursion_10 rfl (lv_at hl 1 rfl) ?_
    refine lv_aload_n hx hb dX6_slopeByRecursion_11 rfl (lv_at hl 0 rfl) ?_
    refine lv_iload_n hx hb dX6_slopeByRecursion_12 rfl (lv_at hl 2 rfl) ?_
    refine lv_iconst (v := 1) hx hb dX6_slopeByRecursion_13 (by decide) ?_
    obtain ⟨r6, hcall, h⟩ := bd_out h
    refine g0_callS (As := [.ref (B + a0), .int x2, .int 1]) hC hml hS hW (KC_at hk hS F.2.2.2.2) KC_blind (metX6_slopeFrom F hX 17 k0 hcall) ml_X6_69 ⟨rfl, rfl, (Nat.le_of_ble_eq_true rfl), (Nat.le_of_ble_eq_true rfl)⟩ rfl hl.1 rfl (Nat.le_of_ble_eq_true rfl) dX6_slopeByRecursion_14 ⟨(Nat.le_of_ble_eq_true rfl), (Nat.le_of_ble_eq_true rfl)⟩ (fun H locs hW hS => ?_)
    refine gw_max hC (hml.trans hl.1.symm) lm_X6_73 lb_max.1 lb_max.2.1 lb_max.2.2 (Nat.le_of_ble_eq_true rfl) (Nat.le_of_ble_eq_true rfl) (Nat.le_of_ble_eq_true rfl) (Nat.le_of_ble_eq_true rfl) dX6_slopeByRecursion_17 ?_
    obtain ⟨v7, e8, h⟩ := lt_out h
    rw [← e8]
    refine lv_istore_n (lv' := [(1, .int v7), (0, .ref (B + a0)), (2, .int x2)]) hx hb dX6_slopeByRecursion_20 rfl hl (by decide) rfl (fun ls hl => ?_)
    obtain ⟨v9, e10, h⟩ := lt_out h
    refine lv_iinc (v := v9) (lv' := [(2, .int v9), (1, .int v7), (0, .ref (B + a0))]) hx hb dX6_slopeByRecursion_21 hl (k := 2) rfl (by rw [e10]; rfl) (by decide) rfl (fun ls hl => ?_)
    refine lv_goto (tgt := 4) hx hb dX6_slopeByRecursion_24 (by decide) ?_
    exact IH4 _ _ h _ _ _ hW hS (lv_sub hl [2, 1, 0] rfl)

theorem dX10_longestSlope_0 : decode cX10_longestSlope 0 = .ok (.aload_n 0, 1) := by decide +kernel
theorem dX10_longestSlope_1 : decode cX10_longestSlope 1 = .ok (.iload_n 1, 1) := by decide +kernel
theorem dX10_longestSlope_2 : decode cX10_longestSlope 2 = .ok (.invokevirtual 155, 3) := by decide +kernel
theorem dX10_longestSlope_5 : decode cX10_longestSlope 5 = .ok (.getfield 201, 3) := by decide +kernel
theorem dX10_longestSlope_8 : decode cX10_longestSlope 8 = .ok (.invokestatic 214, 3) := by decide +kernel
theorem dX10_longestSlope_11 : decode cX10_longestSlope 11 = .ok (.ireturn, 1) := by decide +kernel
abbrev rmX10_longestSlope : Room := { frames := 22, cells := 1, slots := 6, locals := 1150 }
set_option maxHeartbeats 4000000 in
set_option maxRecDepth 100000 in
theorem metX10_longestSlope {l : Launch} {s0 : State} {b B : Nat} {D : va_G} {T : Nat → ClassId} (F : FX l s0 b D T B) {X : Nat → Prop} (hX : ∀ o, o < 560 → ¬ X (B + o)) {N : Nat} {μ : Mem} {a0 : Nat} {a1 : Int32} {r : Mem × (Nat ⊕ Int32)} (k0 : IsGa a0) (h : fX10_longestSlope N μ a0 a1 = some r) : gXMet l yX10_longestSlope cX10_longestSlope 2 (some .int) rmX10_longestSlope [.ref (B + a0), .int a1] (gWC s0 D T B μ) (KC s0 X) (oI r.2) (gWC s0 D T B r.1) (gA B X) 1 6 := by
  refine gXI_of RX10 (by decide +kernel) rfl (Nat.le_of_ble_eq_true rfl) ?_
  intro p e s m args below meth c ls Q hx hb hlocks hml hown hts hW hk hl hS hE
  obtain ⟨hend, hthr, htb, hQ⟩ := hE
  have hC := FX_C F hk hx hb hown hts
  have hA := gA_all hX
  have hl : lv_has ls 2 [(0, .ref (B + a0)), (1, .int a1)] := hl
  unfold fX10_longestSlope at h
  refine lv_aload_n hx hb dX10_longestSlope_0 rfl (lv_at hl 0 rfl) ?_
  refine lv_iload_n hx hb dX10_longestSlope_1 rfl (lv_at hl 1 rfl) ?_
  rcases tb_out h with ⟨μ2, n4, hcall, h9⟩ | ⟨μ2, r3, hcall, h⟩
  · cases h9
    exact gx_callV (As := [.int a1]) hC hml hS hW (KC_at hk hS F.2.2.2.2) KC_blind (metX10_existing F hX k0 hcall) ml_X10_155 (gw_recv hC hW k0.1 (k0.2.2.1 (gfm s0) T B (μ a0)) rfl) ⟨rfl, rfl, (Nat.le_of_ble_eq_true rfl), (Nat.le_of_ble_eq_true rfl)⟩ rfl hl.1 rfl (Nat.le_of_ble_eq_true rfl) dX10_longestSlope_2 ⟨(Nat.le_of_ble_eq_true rfl), (Nat.le_of_ble_eq_true rfl)⟩ (fun v9 ho => by cases ho) (fun k9 ho H locs q9 ce9 hW hS hce hvm hcl => by cases ho; exact hthr _ rfl hW hS hce hvm hcl (Nat.le_of_ble_eq_true rfl) (Nat.le_of_ble_eq_true rfl))
  refine gx_callV (As := [.int a1]) hC hml hS hW (KC_at hk hS F.2.2.2.2) KC_blind (metX10_existing F hX k0 hcall) ml_X10_155 (gw_recv hC hW k0.1 (k0.2.2.1 (gfm s0) T B (μ a0)) rfl) ⟨rfl, rfl, (Nat.le_of_ble_eq_true rfl), (Nat.le_of_ble_eq_true rfl)⟩ rfl hl.1 rfl (Nat.le_of_ble_eq_true rfl) dX10_longestSlope_2 ⟨(Nat.le_of_ble_eq_true rfl), (Nat.le_of_ble_eq_true rfl)⟩ (fun v9 ho H locs hW hS => ?_) (fun k9 ho => by cases ho)
  cases ho
  refine W.widen (k := 1) (n := 6) (Nat.le_of_ble_eq_true rfl) (Nat.le_of_ble_eq_true rfl) ?_
  have kr5 := kdX10_existing k0 hcall
  refine gw_get (v := .ref (B + (r3 + 1))) hC hW fl_X10_201 kr5.1 (kr5.2.1 (gfm s0) T B (μ2 r3)) rfl dX10_longestSlope_5 ?_
  obtain ⟨r6, hcall, h⟩ := bd_out h
  refine g0_callS (As := [.ref (B + (r3 + 1))]) hC hml hS hW (KC_at hk hS F.2.2.2.2) KC_blind (metX6_slopeByRecursion F hX kr5.2.2.1 hcall) ml_X10_214 ⟨rfl, rfl, (Nat.le_of_ble_eq_true rfl), (Nat.le_of_ble_eq_true rfl)⟩ rfl hl.1 rfl (Nat.le_of_ble_eq_true rfl) dX10_longestSlope_8 ⟨(Nat.le_of_ble_eq_true rfl), (Nat.le_of_ble_eq_true rfl)⟩ (fun H locs hW hS => ?_)
  cases h
  exact hend _ rfl dX10_longestSlope_11 hW hS (Nat.le_of_ble_eq_true rfl) (Nat.le_of_ble_eq_true rfl)

theorem dX10_pileAgrees_0 : decode cX10_pileAgrees 0 = .ok (.aload_n 1, 1) := by decide +kernel
theorem dX10_pileAgrees_1 : decode cX10_pileAgrees 1 = .ok (.getfield 201, 3) := by decide +kernel
theorem dX10_pileAgrees_4 : decode cX10_pileAgrees 4 = .ok (.invokestatic 204, 3) := by decide +kernel
theorem dX10_pileAgrees_7 : decode cX10_pileAgrees 7 = .ok (.aload_n 1, 1) := by decide +kernel
theorem dX10_pileAgrees_8 : decode cX10_pileAgrees 8 = .ok (.getfield 223, 3) := by decide +kernel
theorem dX10_pileAgrees_11 : decode cX10_pileAgrees 11 = .ok (.iadd, 1) := by decide +kernel
theorem dX10_pileAgrees_12 : decode cX10_pileAgrees 12 = .ok (.aload_n 1, 1) := by decide +kernel
theorem dX10_pileAgrees_13 : decode cX10_pileAgrees 13 = .ok (.getfield 226, 3) := by decide +kernel
theorem dX10_pileAgrees_16 : decode cX10_pileAgrees 16 = .ok (.iadd, 1) := by decide +kernel
theorem dX10_pileAgrees_17 : decode cX10_pileAgrees 17 = .ok (.istore_n 2, 1) := by decide +kernel
theorem dX10_pileAgrees_18 : decode cX10_pileAgrees 18 = .ok (.aload_n 1, 1) := by decide +kernel
theorem dX10_pileAgrees_19 : decode cX10_pileAgrees 19 = .ok (.getfield 220, 3) := by decide +kernel
theorem dX10_pileAgrees_22 : decode cX10_pileAgrees 22 = .ok (.iload_n 2, 1) := by decide +kernel
theorem dX10_pileAgrees_23 : decode cX10_pileAgrees 23 = .ok (.if_icmp .ne 53, 3) := by decide +kernel
theorem dX10_pileAgrees_26 : decode cX10_pileAgrees 26 = .ok (.aload_n 0, 1) := by decide +kernel
theorem dX10_pileAgrees_27 : decode cX10_pileAgrees 27 = .ok (.getfield 36, 3) := by decide +kernel
theorem dX10_pileAgrees_30 : decode cX10_pileAgrees 30 = .ok (.aload_n 1, 1) := by decide +kernel
theorem dX10_pileAgrees_31 : decode cX10_pileAgrees 31 = .ok (.getfield 201, 3) := by decide +kernel
theorem dX10_pileAgrees_34 : decode cX10_pileAgrees 34 = .ok (.invokevirtual 207, 3) := by decide +kernel
theorem dX10_pileAgrees_37 : decode cX10_pileAgrees 37 = .ok (.aload_n 0, 1) := by decide +kernel
theorem dX10_pileAgrees_38 : decode cX10_pileAgrees 38 = .ok (.getfield 36, 3) := by decide +kernel
theorem dX10_pileAgrees_41 : decode cX10_pileAgrees 41 = .ok (.aload_n 1, 1) := by decide +kernel
theorem dX10_pileAgrees_42 : decode cX10_pileAgrees 42 = .ok (.getfield 201, 3) := by decide +kernel
theorem dX10_pileAgrees_45 : decode cX10_pileAgrees 45 = .ok (.invokevirtual 211, 3) := by decide +kernel
theorem dX10_pileAgrees_48 : decode cX10_pileAgrees 48 = .ok (.if_icmp .ne 28, 3) := by decide +kernel
theorem dX10_pileAgrees_51 : decode cX10_pileAgrees 51 = .ok (.aload_n 1, 1) := by decide +kernel
theorem dX10_pileAgrees_52 : decode cX10_pileAgrees 52 = .ok (.getfield 201, 3) := by decide +kernel
theorem dX10_pileAgrees_55 : decode cX10_pileAgrees 55 = .ok (.invokestatic 214, 3) := by decide +kernel
theorem dX10_pileAgrees_58 : decode cX10_pileAgrees 58 = .ok (.aload_n 0, 1) := by decide +kernel
theorem dX10_pileAgrees_59 : decode cX10_pileAgrees 59 = .ok (.getfield 36, 3) := by decide +kernel
theorem dX10_pileAgrees_62 : decode cX10_pileAgrees 62 = .ok (.aload_n 1, 1) := by decide +kernel
theorem dX10_pileAgrees_63 : decode cX10_pileAgrees 63 = .ok (.getfield 201, 3) := by decide +kernel
theorem dX10_pileAgrees_66 : decode cX10_pileAgrees 66 = .ok (.invokevirtual 217, 3) := by decide +kernel
theorem dX10_pileAgrees_69 : decode cX10_pileAgrees 69 = .ok (.if_icmp .ne 7, 3) := by decide +kernel
theorem dX10_pileAgrees_72 : decode cX10_pileAgrees 72 = .ok (.iconst 1, 1) := by decide +kernel
theorem dX10_pileAgrees_73 : decode cX10_pileAgrees 73 = .ok (.goto 4, 3) := by decide +kernel
theorem dX10_pileAgrees_76 : decode cX10_pileAgrees 76 = .ok (.iconst 0, 1) := by decide +kernel
theorem dX10_pileAgrees_77 : decode cX10_pileAgrees 77 = .ok (.ireturn, 1) := by decide +kernel
abbrev rmX10_pileAgrees : Room := { frames := 22, cells := 0, slots := 0, locals := 1150 }
set_option maxHeartbeats 4000000 in
set_option maxRecDepth 100000 in
theorem metX10_pileAgrees {l : Launch} {s0 : State} {b B : Nat} {D : va_G} {T : Nat → ClassId} (F : FX l s0 b D T B) {X : Nat → Prop} (hX : ∀ o, o < 560 → ¬ X (B + o)) {N : Nat} {μ : Mem} {a0 : Nat} {a1 : Nat} {r : Mem × Bool} (k0 : IsGa a0) (k1 : IsEx a1) (h : fX10_pileAgrees N μ a0 a1 = some r) : gMet l yX10_pileAgrees cX10_pileAgrees 3 (some .boolean) rmX10_pileAgrees [.ref (B + a0), .ref (B + a1)] (gWC s0 D T B μ) (KC s0 X) (some (.int (b2i r.2))) (gWC s0 D T B r.1) (gA B X) 0 0 := by
  refine gZ_of RX10 (by decide +kernel) rfl (Nat.le_of_ble_eq_true rfl) ?_
  intro p e s m args below meth c ls Q hx hb hlocks hml hown hts hW hk hl hS hend
  have hC := FX_C F hk hx hb hown hts
  have hA := gA_all hX
  have hl : lv_has ls 3 [(0, .ref (B + a0)), (1, .ref (B + a1))] := hl
  unfold fX10_pileAgrees at h
  refine lv_aload_n hx hb dX10_pileAgrees_0 rfl (lv_at hl 1 rfl) ?_
  refine gw_get (v := .ref (B + (a1 + 1))) hC hW fl_X10_201 k1.1 (k1.2.1 (gfm s0) T B (μ a1)) rfl dX10_pileAgrees_1 ?_
  obtain ⟨r1, hcall, h⟩ := bd_out h
  refine g0_callS (As := [.ref (B + (a1 + 1))]) hC hml hS hW (KC_at hk hS F.2.2.2.2) KC_blind (metX6_countGrains F hX k1.2.2.1 hcall) ml_X10_204 ⟨rfl, rfl, (Nat.le_of_ble_eq_true rfl), (Nat.le_of_ble_eq_true rfl)⟩ rfl hl.1 rfl (Nat.le_of_ble_eq_true rfl) dX10_pileAgrees_4 ⟨(Nat.le_of_ble_eq_true rfl), (Nat.le_of_ble_eq_true rfl)⟩ (fun H locs hW hS => ?_)
  refine lv_aload_n hx hb dX10_pileAgrees_7 rfl (lv_at hl 1 rfl) ?_
  refine gw_get (v := .int (μ a1 4)) hC hW fl_X10_223.1 k1.1 (k1.2.1 (gfm s0) T B (μ a1)) rfl dX10_pileAgrees_8 ?_
  refine lv_iadd hx hb dX10_pileAgrees_11 ?_
  refine lv_aload_n hx hb dX10_pileAgrees_12 rfl (lv_at hl 1 rfl) ?_
  refine gw_get (v := .int (μ a1 5)) hC hW fl_X10_226.1 k1.1 (k1.2.1 (gfm s0) T B (μ a1)) rfl dX10_pileAgrees_13 ?_
  refine lv_iadd hx hb dX10_pileAgrees_16 ?_
  obtain ⟨v2, e3, h⟩ := lt_out h
  rw [← e3]
  refine lv_istore_n (lv' := [(2, .int v2), (0, .ref (B + a0)), (1, .ref (B + a1))]) hx hb dX10_pileAgrees_17 rfl hl (by decide) rfl (fun ls hl => ?_)
  refine lv_aload_n hx hb dX10_pileAgrees_18 rfl (lv_at hl 2 rfl) ?_
  refine gw_get (v := .int (μ a1 3)) hC hW fl_X10_220.1 k1.1 (k1.2.1 (gfm s0) T B (μ a1)) rfl dX10_pileAgrees_19 ?_
  refine lv_iload_n hx hb dX10_pileAgrees_22 rfl (lv_at hl 0 rfl) ?_
  obtain ⟨j6, hj8, h⟩ := jn2_o h
  have J7 : ∀ (y4 : Bool) (μ5 : Mem), j6 y4 μ5 = some r → ∀ (H : Heap) (locs : List Loc) (ls : Array Slot), gWC s0 D T B μ5 H → va_S (gA B X) s.heap H locs → lv_has ls 3 [] → W p l e rmX10_pileAgrees s m args below meth c H locs 0 0 Q (F0 m 77 ls [.int (b2i y4)]) := by
    clear h hW hS hl
    intro y4 μ5 h H locs ls hW hS hl
    replace h := (hj8 y4 μ5).symm.trans h
    cases h
    exact hend dX10_pileAgrees_77 hW hS (Nat.le_of_ble_eq_true rfl) (Nat.le_of_ble_eq_true rfl)
  obtain ⟨j10, hj12, h⟩ := jn1_o h
  have J11 : ∀ (μ9 : Mem), j10 μ9 = some r → ∀ (H : Heap) (locs : List Loc) (ls : Array Slot), gWC s0 D T B μ9 H → va_S (gA B X) s.heap H locs → lv_has ls 3 [] → W p l e rmX10_pileAgrees s m args below meth c H locs 0 0 Q (F0 m 76 ls []) := by
    clear h hW hS hl
    intro μ9 h H locs ls hW hS hl
    replace h := (hj12 μ9).symm.trans h
    refine lv_iconst (v := 0) hx hb dX10_pileAgrees_76 (by decide) ?_
    exact J7 _ _ h _ _ _ hW hS (lv_sub hl [] rfl)
  refine lv_icmp_ne (tgt := 76) hx hb dX10_pileAgrees_23 (by decide) (fun c13 => ?_) (fun c13 => ?_)
  · replace h := ite_f c13 h
    exact J11 _ h _ _ _ hW hS (lv_sub hl [] rfl)
  · replace h := ite_t c13 h
    refine lv_aload_n hx hb dX10_pileAgrees_26 rfl (lv_at hl 1 rfl) ?_
    refine gw_get (v := .ref (B + 538)) hC hW fl_X10_36 k0.1 (k0.2.2.1 (gfm s0) T B (μ a0)) rfl dX10_pileAgrees_27 ?_
    refine lv_aload_n hx hb dX10_pileAgrees_30 rfl (lv_at hl 2 rfl) ?_
    refine gw_get (v := .ref (B + (a1 + 1))) hC hW fl_X10_201 k1.1 (k1.2.1 (gfm s0) T B (μ a1)) rfl dX10_pileAgrees_31 ?_
    obtain ⟨r14, hcall, h⟩ := bd_out h
    refine g0_callV (As := [.ref (B + (a1 + 1))]) hC hml hS hW (KC_at hk hS F.2.2.2.2) KC_blind (metX6_burnsWhole F hX k0.2.2.2.2.2.2.2.1 k1.2.2.1 hcall) ml_X10_207 (gw_recv hC hW k0.2.2.2.2.2.2.2.1.1 (k0.2.2.2.2.2.2.2.1.2.1 (gfm s0) T B (μ 538)) rfl) ⟨rfl, rfl, (Nat.le_of_ble_eq_true rfl), (Nat.le_of_ble_eq_true rfl)⟩ rfl hl.1 rfl (Nat.le_of_ble_eq_true rfl) dX10_pileAgrees_34 ⟨(Nat.le_of_ble_eq_true rfl), (Nat.le_of_ble_eq_true rfl)⟩ (fun H locs hW hS => ?_)
    refine lv_aload_n hx hb dX10_pileAgrees_37 rfl (lv_at hl 1 rfl) ?_
    refine gw_get (v := .ref (B + 538)) hC hW fl_X10_36 k0.1 (k0.2.2.1 (gfm s0) T B (r14.1 a0)) rfl dX10_pileAgrees_38 ?_
    refine lv_aload_n hx hb dX10_pileAgrees_41 rfl (lv_at hl 2 rfl) ?_
    refine gw_get (v := .ref (B + (a1 + 1))) hC hW fl_X10_201 k1.1 (k1.2.1 (gfm s0) T B (r14.1 a1)) rfl dX10_pileAgrees_42 ?_
    obtain ⟨r15, hcall, h⟩ := bd_out h
    refine g0_callV (As := [.ref (B + (a1 + 1))]) hC hml hS hW (KC_at hk hS F.2.2.2.2) KC_blind (metX6_topplesOnceEach F hX k0.2.2.2.2.2.2.2.1 k1.2.2.1 hcall) ml_X10_211 (gw_recv hC hW k0.2.2.2.2.2.2.2.1.1 (k0.2.2.2.2.2.2.2.1.2.1 (gfm s0) T B (r14.1 538)) rfl) ⟨rfl, rfl, (Nat.le_of_ble_eq_true rfl), (Nat.le_of_ble_eq_true rfl)⟩ rfl hl.1 rfl (Nat.le_of_ble_eq_true rfl) dX10_pileAgrees_45 ⟨(Nat.le_of_ble_eq_true rfl), (Nat.le_of_ble_eq_true rfl)⟩ (fun H locs hW hS => ?_)
    refine lv_icmp_ne (tgt := 76) hx hb dX10_pileAgrees_48 (by decide) (fun c16 => ?_) (fun c16 => ?_)
    · replace h := ite_f c16 h
      exact J11 _ h _ _ _ hW hS (lv_sub hl [] rfl)
    · replace h := ite_t c16 h
      refine lv_aload_n hx hb dX10_pileAgrees_51 rfl (lv_at hl 2 rfl) ?_
      refine gw_get (v := .ref (B + (a1 + 1))) hC hW fl_X10_201 k1.1 (k1.2.1 (gfm s0) T B (r15.1 a1)) rfl dX10_pileAgrees_52 ?_
      obtain ⟨r17, hcall, h⟩ := bd_out h
      refine g0_callS (As := [.ref (B + (a1 + 1))]) hC hml hS hW (KC_at hk hS F.2.2.2.2) KC_blind (metX6_slopeByRecursion F hX k1.2.2.1 hcall) ml_X10_214 ⟨rfl, rfl, (Nat.le_of_ble_eq_true rfl), (Nat.le_of_ble_eq_true rfl)⟩ rfl hl.1 rfl (Nat.le_of_ble_eq_true rfl) dX10_pileAgrees_55 ⟨(Nat.le_of_ble_eq_true rfl), (Nat.le_of_ble_eq_true rfl)⟩ (fun H locs hW hS => ?_)
      refine lv_aload_n hx hb dX10_pileAgrees_58 rfl (lv_at hl 1 rfl) ?_
      refine gw_get (v := .ref (B + 538)) hC hW fl_X10_36 k0.1 (k0.2.2.1 (gfm s0) T B (r15.1 a0)) rfl dX10_pileAgrees_59 ?_
      refine lv_aload_n hx hb dX10_pileAgrees_62 rfl (lv_at hl 2 rfl) ?_
      refine gw_get (v := .ref (B + (a1 + 1))) hC hW fl_X10_201 k1.1 (k1.2.1 (gfm s0) T B (r15.1 a1)) rfl dX10_pileAgrees_63 ?_
      obtain ⟨r18, hcall, h⟩ := bd_out h
      refine g0_callV (As := [.ref (B + (a1 + 1))]) hC hml hS hW (KC_at hk hS F.2.2.2.2) KC_blind (metX6_slopeFromFewest F hX k0.2.2.2.2.2.2.2.1 k1.2.2.1 hcall) ml_X10_217 (gw_recv hC hW k0.2.2.2.2.2.2.2.1.1 (k0.2.2.2.2.2.2.2.1.2.1 (gfm s0) T B (r15.1 538)) rfl) ⟨rfl, rfl, (Nat.le_of_ble_eq_true rfl), (Nat.le_of_ble_eq_true rfl)⟩ rfl hl.1 rfl (Nat.le_of_ble_eq_true rfl) dX10_pileAgrees_66 ⟨(Nat.le_of_ble_eq_true rfl), (Nat.le_of_ble_eq_true rfl)⟩ (fun H locs hW hS => ?_)
      refine lv_icmp_ne (tgt := 76) hx hb dX10_pileAgrees_69 (by decide) (fun c19 => ?_) (fun c19 => ?_)
      · replace h := ite_f c19 h
        exact J11 _ h _ _ _ hW hS (lv_sub hl [] rfl)
      · replace h := ite_t c19 h
        refine lv_iconst (v := 1) hx hb dX10_pileAgrees_72 (by decide) ?_
        refine lv_goto (tgt := 77) hx hb dX10_pileAgrees_73 (by decide) ?_
        exact J7 _ _ h _ _ _ hW hS (lv_sub hl [] rfl)

theorem dX10_isConsistent_0 : decode cX10_isConsistent 0 = .ok (.iconst 1, 1) := by decide +kernel
theorem dX10_isConsistent_1 : decode cX10_isConsistent 1 = .ok (.istore_n 1, 1) := by decide +kernel
theorem dX10_isConsistent_2 : decode cX10_isConsistent 2 = .ok (.iconst 0, 1) := by decide +kernel
theorem dX10_isConsistent_3 : decode cX10_isConsistent 3 = .ok (.istore_n 2, 1) := by decide +kernel
theorem dX10_isConsistent_4 : decode cX10_isConsistent 4 = .ok (.iload_n 2, 1) := by decide +kernel
theorem dX10_isConsistent_5 : decode cX10_isConsistent 5 = .ok (.aload_n 0, 1) := by decide +kernel
theorem dX10_isConsistent_6 : decode cX10_isConsistent 6 = .ok (.getfield 12, 3) := by decide +kernel
theorem dX10_isConsistent_9 : decode cX10_isConsistent 9 = .ok (.getfield 192, 3) := by decide +kernel
theorem dX10_isConsistent_12 : decode cX10_isConsistent 12 = .ok (.if_icmp .ge 64, 3) := by decide +kernel
theorem dX10_isConsistent_15 : decode cX10_isConsistent 15 = .ok (.aload_n 0, 1) := by decide +kernel
theorem dX10_isConsistent_16 : decode cX10_isConsistent 16 = .ok (.getfield 12, 3) := by decide +kernel
theorem dX10_isConsistent_19 : decode cX10_isConsistent 19 = .ok (.getfield 167, 3) := by decide +kernel
theorem dX10_isConsistent_22 : decode cX10_isConsistent 22 = .ok (.iload_n 2, 1) := by decide +kernel
theorem dX10_isConsistent_23 : decode cX10_isConsistent 23 = .ok (.aaload, 1) := by decide +kernel
theorem dX10_isConsistent_24 : decode cX10_isConsistent 24 = .ok (.astore_n 3, 1) := by decide +kernel
theorem dX10_isConsistent_25 : decode cX10_isConsistent 25 = .ok (.iload_n 1, 1) := by decide +kernel
theorem dX10_isConsistent_26 : decode cX10_isConsistent 26 = .ok (.ifCond .eq 42, 3) := by decide +kernel
theorem dX10_isConsistent_29 : decode cX10_isConsistent 29 = .ok (.aload_n 0, 1) := by decide +kernel
theorem dX10_isConsistent_30 : decode cX10_isConsistent 30 = .ok (.aload_n 3, 1) := by decide +kernel
theorem dX10_isConsistent_31 : decode cX10_isConsistent 31 = .ok (.invokevirtual 340, 3) := by decide +kernel
theorem dX10_isConsistent_34 : decode cX10_isConsistent 34 = .ok (.ifCond .eq 34, 3) := by decide +kernel
theorem dX10_isConsistent_37 : decode cX10_isConsistent 37 = .ok (.aload_n 0, 1) := by decide +kernel
theorem dX10_isConsistent_38 : decode cX10_isConsistent 38 = .ok (.aload_n 3, 1) := by decide +kernel
theorem dX10_isConsistent_39 : decode cX10_isConsistent 39 = .ok (.invokevirtual 344, 3) := by decide +kernel
theorem dX10_isConsistent_42 : decode cX10_isConsistent 42 = .ok (.ifCond .eq 26, 3) := by decide +kernel
theorem dX10_isConsistent_45 : decode cX10_isConsistent 45 = .ok (.aload_n 0, 1) := by decide +kernel
theorem dX10_isConsistent_46 : decode cX10_isConsistent 46 = .ok (.getfield 43, 3) := by decide +kernel
theorem dX10_isConsistent_49 : decode cX10_isConsistent 49 = .ok (.aload_n 3, 1) := by decide +kernel
theorem dX10_isConsistent_50 : decode cX10_isConsistent 50 = .ok (.invokevirtual 282, 3) := by decide +kernel
theorem dX10_isConsistent_53 : decode cX10_isConsistent 53 = .ok (.aload_n 3, 1) := by decide +kernel
theorem dX10_isConsistent_54 : decode cX10_isConsistent 54 = .ok (.aload_n 3, 1) := by decide +kernel
theorem dX10_isConsistent_55 : decode cX10_isConsistent 55 = .ok (.invokevirtual 286, 3) := by decide +kernel
theorem dX10_isConsistent_58 : decode cX10_isConsistent 58 = .ok (.invokevirtual 290, 3) := by decide +kernel
theorem dX10_isConsistent_61 : decode cX10_isConsistent 61 = .ok (.if_icmp .ne 7, 3) := by decide +kernel
theorem dX10_isConsistent_64 : decode cX10_isConsistent 64 = .ok (.iconst 1, 1) := by decide +kernel
theorem dX10_isConsistent_65 : decode cX10_isConsistent 65 = .ok (.goto 4, 3) := by decide +kernel
theorem dX10_isConsistent_68 : decode cX10_isConsistent 68 = .ok (.iconst 0, 1) := by decide +kernel
theorem dX10_isConsistent_69 : decode cX10_isConsistent 69 = .ok (.istore_n 1, 1) := by decide +kernel
theorem dX10_isConsistent_70 : decode cX10_isConsistent 70 = .ok (.iinc 2 1, 3) := by decide +kernel
theorem dX10_isConsistent_73 : decode cX10_isConsistent 73 = .ok (.goto (-69), 3) := by decide +kernel
theorem dX10_isConsistent_76 : decode cX10_isConsistent 76 = .ok (.iload_n 1, 1) := by decide +kernel
theorem dX10_isConsistent_77 : decode cX10_isConsistent 77 = .ok (.ifCond .eq 14, 3) := by decide +kernel
theorem dX10_isConsistent_80 : decode cX10_isConsistent 80 = .ok (.aload_n 0, 1) := by decide +kernel
theorem dX10_isConsistent_81 : decode cX10_isConsistent 81 = .ok (.invokevirtual 347, 3) := by decide +kernel
theorem dX10_isConsistent_84 : decode cX10_isConsistent 84 = .ok (.ifCond .eq 7, 3) := by decide +kernel
theorem dX10_isConsistent_87 : decode cX10_isConsistent 87 = .ok (.iconst 1, 1) := by decide +kernel
theorem dX10_isConsistent_88 : decode cX10_isConsistent 88 = .ok (.goto 4, 3) := by decide +kernel
theorem dX10_isConsistent_91 : decode cX10_isConsistent 91 = .ok (.iconst 0, 1) := by decide +kernel
theorem dX10_isConsistent_92 : decode cX10_isConsistent 92 = .ok (.ireturn, 1) := by decide +kernel
abbrev rmX10_isConsistent : Room := { frames := 23, cells := 0, slots := 0, locals := 1172 }
set_option maxHeartbeats 4000000 in
set_option maxRecDepth 100000 in
theorem metX10_isConsistent {l : Launch} {s0 : State} {b B : Nat} {D : va_G} {T : Nat → ClassId} (F : FX l s0 b D T B) {X : Nat → Prop} (hX : ∀ o, o < 560 → ¬ X (B + o)) {N : Nat} {μ : Mem} {a0 : Nat} {r : Mem × Bool} (k0 : IsGa a0) (h : fX10_isConsistent N μ a0 = some r) : gMet l yX10_isConsistent cX10_isConsistent 4 (some .boolean) rmX10_isConsistent [.ref (B + a0)] (gWC s0 D T B μ) (KC s0 X) (some (.int (b2i r.2))) (gWC s0 D T B r.1) (gA B X) 0 0 := by
  refine gZ_of RX10 (by decide +kernel) rfl (Nat.le_of_ble_eq_true rfl) ?_
  intro p e s m args below meth c ls Q hx hb hlocks hml hown hts hW hk hl hS hend
  have hC := FX_C F hk hx hb hown hts
  have hA := gA_all hX
  have hl : lv_has ls 4 [(0, .ref (B + a0))] := hl
  unfold fX10_isConsistent at h
  refine lv_iconst (v := 1) hx hb dX10_isConsistent_0 (by decide) ?_
  refine lv_istore_n (lv' := [(1, .int 1), (0, .ref (B + a0))]) hx hb dX10_isConsistent_1 rfl hl (by decide) rfl (fun ls hl => ?_)
  refine lv_iconst (v := 0) hx hb dX10_isConsistent_2 (by decide) ?_
  refine lv_istore_n (lv' := [(2, .int 0), (1, .int 1), (0, .ref (B + a0))]) hx hb dX10_isConsistent_3 rfl hl (by decide) rfl (fun ls hl => ?_)
  refine fix3_ind (fun (x1 : Bool) (x2 : Int32) (μ3 : Mem) => ∀ (H : Heap) (locs : List Loc) (ls : Array Slot), gWC s0 D T B μ3 H → va_S (gA B X) s.heap H locs → lv_has ls 4 [(0, .ref (B + a0)), (1, .int (b2i x1)), (2, .int x2)] → W p l e rmX10_isConsistent s m args below meth c H locs 0 0 Q (F0 m 4 ls [])) ?_ N _ _ _ h _ _ _ hW hS (lv_sub hl [2, 1, 0] rfl)
  clear h hW hS hl
  intro self4 IH5 x1 x2 μ3 h H locs ls hW hS hl
  refine lv_iload_n hx hb dX10_isConsistent_4 rfl (lv_at hl 2 rfl) ?_
  refine lv_aload_n hx hb dX10_isConsistent_5 rfl (lv_at hl 0 rfl) ?_
  refine gw_get (v := .ref (B + 1)) hC hW fl_X10_12 k0.1 (k0.2.2.1 (gfm s0) T B (μ3 a0)) rfl dX10_isConsistent_6 ?_
  refine gw_get (v := .int (μ3 1 4)) hC hW fl_X10_192.1 k0.2.2.2.1.1 (k0.2.2.2.1.2.1 (gfm s0) T B (μ3 1)) rfl dX10_isConsistent_9 ?_
  refine lv_icmp_ge (tgt := 76) hx hb dX10_isConsistent_12 (by decide) (fun c6 => ?_) (fun c6 => ?_)
  · replace h := ite_t c6 h
    refine lv_iload_n hx hb dX10_isConsistent_76 rfl (lv_at hl 1 rfl) ?_
    obtain ⟨j9, hj11, h⟩ := jn2_o h
    have J10 : ∀ (y7 : Bool) (μ8 : Mem), j9 y7 μ8 = some r → ∀ (H : Heap) (locs : List Loc) (ls : Array Slot), gWC s0 D T B μ8 H → va_S (gA B X) s.heap H locs → lv_has ls 4 [] → W p l e rmX10_isConsistent s m args below meth c H locs 0 0 Q (F0 m 92 ls [.int (b2i y7)]) := by
      clear h hW hS hl
      intro y7 μ8 h H locs ls hW hS hl
      replace h := (hj11 y7 μ8).symm.trans h
      cases h
      exact hend dX10_isConsistent_92 hW hS (Nat.le_of_ble_eq_true rfl) (Nat.le_of_ble_eq_true rfl)
    obtain ⟨j13, hj15, h⟩ := jn1_o h
    have J14 : ∀ (μ12 : Mem), j13 μ12 = some r → ∀ (H : Heap) (locs : List Loc) (ls : Array Slot), gWC s0 D T B μ12 H → va_S (gA B X) s.heap H locs → lv_has ls 4 [] → W p l e rmX10_isConsistent s m args below meth c H locs 0 0 Q (F0 m 91 ls []) := by
      clear h hW hS hl
      intro μ12 h H locs ls hW hS hl
      replace h := (hj15 μ12).symm.trans h
      refine lv_iconst (v := 0) hx hb dX10_isConsistent_91 (by decide) ?_
      exact J10 _ _ h _ _ _ hW hS (lv_sub hl [] rfl)
    refine gw_if_eqZ (tgt := 91) hx hb dX10_isConsistent_77 (by decide) (fun c16 => ?_) (fun c16 => ?_)
    · replace h := cond_f c16 h
      exact J14 _ h _ _ _ hW hS (lv_sub hl [] rfl)
    · replace h := cond_t c16 h
      refine lv_aload_n hx hb dX10_isConsistent_80 rfl (lv_at hl 0 rfl) ?_
      obtain ⟨r17, hcall, h⟩ := bd_out h
      refine g0_callV (As := []) hC hml hS hW (KC_at hk hS F.2.2.2.2) KC_blind (metX10_minutesAgree F hX k0 hcall) ml_X10_347 (gw_recv hC hW k0.1 (k0.2.2.1 (gfm s0) T B (μ3 a0)) rfl) ⟨rfl, rfl, (Nat.le_of_ble_eq_true rfl), (Nat.le_of_ble_eq_true rfl)⟩ rfl hl.1 rfl (Nat.le_of_ble_eq_true rfl) dX10_isConsistent_81 ⟨(Nat.le_of_ble_eq_true rfl), (Nat.le_of_ble_eq_true rfl)⟩ (fun H locs hW hS => ?_)
      refine gw_if_eqZ (tgt := 91) hx hb dX10_isConsistent_84 (by decide) (fun c18 => ?_) (fun c18 => ?_)
      · replace h := cond_f c18 h
        exact J14 _ h _ _ _ hW hS (lv_sub hl [] rfl)
      · replace h := cond_t c18 h
        refine lv_iconst (v := 1) hx hb dX10_isConsistent_87 (by decide) ?_
        refine lv_goto (tgt := 92) hx hb dX10_isConsistent_88 (by decide) ?_
        exact J10 _ _ h _ _ _ hW hS (lv_sub hl [] rfl)
  · replace h := ite_f c6 h
    refine lv_aload_n hx hb dX10_isConsistent_15 rfl (lv_at hl 0 rfl) ?_
    refine gw_get (v := .ref (B + 1)) hC hW fl_X10_12 k0.1 (k0.2.2.1 (gfm s0) T B (μ3 a0)) rfl dX10_isConsistent_16 ?_
    refine gw_get (v := .ref (B + (1 + 16))) hC hW fl_X10_167 k0.2.2.2.1.1 (k0.2.2.2.1.2.1 (gfm s0) T B (μ3 1)) rfl dX10_isConsistent_19 ?_
    refine lv_iload_n hx hb dX10_isConsistent_22 rfl (lv_at hl 2 rfl) ?_
    obtain ⟨q19, e20, hq21, hi22, h⟩ := ar_o h
    refine gq_aald hC hW k0.2.2.2.1.2.2.2.2.2.1 (k0.2.2.2.1.2.2.2.2.2.2.1 (gfm s0) T B (μ3 (1 + 16))) (t0 := 5) rfl rfl e20 hi22 dX10_isConsistent_23 ?_
    refine lv_astore_n (lv' := [(3, .ref (B + ((1 + 16) + 1 + 6 * q19))), (0, .ref (B + a0)), (1, .int (b2i x1)), (2, .int x2)]) hx hb dX10_isConsistent_24 rfl hl (by decide) rfl (fun ls hl => ?_)
    refine lv_iload_n hx hb dX10_isConsistent_25 rfl (lv_at hl 2 rfl) ?_
    obtain ⟨j25, hj27, h⟩ := jn2_o h
    have J26 : ∀ (y23 : Bool) (μ24 : Mem), j25 y23 μ24 = some r → ∀ (H : Heap) (locs : List Loc) (ls : Array Slot), gWC s0 D T B μ24 H → va_S (gA B X) s.heap H locs → lv_has ls 4 [(0, .ref (B + a0)), (2, .int x2)] → W p l e rmX10_isConsistent s m args below meth c H locs 0 0 Q (F0 m 69 ls [.int (b2i y23)]) := by
      clear h hW hS hl
      intro y23 μ24 h H locs ls hW hS hl
      replace h := (hj27 y23 μ24).symm.trans h
      refine lv_istore_n (lv' := [(1, .int (b2i y23)), (0, .ref (B + a0)), (2, .int x2)]) hx hb dX10_isConsistent_69 rfl hl (by decide) rfl (fun ls hl => ?_)
      obtain ⟨v28, e29, h⟩ := lt_out h
      refine lv_iinc (v := v28) (lv' := [(2, .int v28), (1, .int (b2i y23)), (0, .ref (B + a0))]) hx hb dX10_isConsistent_70 hl (k := 2) rfl (by rw [e29]; rfl) (by decide) rfl (fun ls hl => ?_)
      refine lv_goto (tgt := 4) hx hb dX10_isConsistent_73 (by decide) ?_
      exact IH5 _ _ _ h _ _ _ hW hS (lv_sub hl [2, 1, 0] rfl)
    obtain ⟨j31, hj33, h⟩ := jn1_o h
    have J32 : ∀ (μ30 : Mem), j31 μ30 = some r → ∀ (H : Heap) (locs : List Loc) (ls : Array Slot), gWC s0 D T B μ30 H → va_S (gA B X) s.heap H locs → lv_has ls 4 [(0, .ref (B + a0)), (2, .int x2)] → W p l e rmX10_isConsistent s m args below meth c H locs 0 0 Q (F0 m 68 ls []) := by
      clear h hW hS hl
      intro μ30 h H locs ls hW hS hl
      replace h := (hj33 μ30).symm.trans h
      refine lv_iconst (v := 0) hx hb dX10_isConsistent_68 (by decide) ?_
      exact J26 _ _ h _ _ _ hW hS (lv_sub hl [0, 1] rfl)
    refine gw_if_eqZ (tgt := 68) hx hb dX10_isConsistent_26 (by decide) (fun c34 => ?_) (fun c34 => ?_)
    · replace h := cond_f c34 h
      exact J32 _ h _ _ _ hW hS (lv_sub hl [1, 3] rfl)
    · replace h := cond_t c34 h
      refine lv_aload_n hx hb dX10_isConsistent_29 rfl (lv_at hl 1 rfl) ?_
      refine lv_aload_n hx hb dX10_isConsistent_30 rfl (lv_at hl 0 rfl) ?_
      obtain ⟨r35, hcall, h⟩ := bd_out h
      refine g0_callV (As := [.ref (B + ((1 + 16) + 1 + 6 * q19))]) hC hml hS hW (KC_at hk hS F.2.2.2.2) KC_blind (metX10_pileAgrees F hX k0 (k0.2.2.2.1.2.2.2.2.2.2.2 q19 hq21) hcall) ml_X10_340 (gw_recv hC hW k0.1 (k0.2.2.1 (gfm s0) T B (μ3 a0)) rfl) ⟨rfl, rfl, (Nat.le_of_ble_eq_true rfl), (Nat.le_of_ble_eq_true rfl)⟩ rfl hl.1 rfl (Nat.le_of_ble_eq_true rfl) dX10_isConsistent_31 ⟨(Nat.le_of_ble_eq_true rfl), (Nat.le_of_ble_eq_true rfl)⟩ (fun H locs hW hS => ?_)
      refine gw_if_eqZ (tgt := 68) hx hb dX10_isConsistent_34 (by decide) (fun c36 => ?_) (fun c36 => ?_)
      · replace h := cond_f c36 h
        exact J32 _ h _ _ _ hW hS (lv_sub hl [1, 3] rfl)
      · replace h := cond_t c36 h
        refine lv_aload_n hx hb dX10_isConsistent_37 rfl (lv_at hl 1 rfl) ?_
        refine lv_aload_n hx hb dX10_isConsistent_38 rfl (lv_at hl 0 rfl) ?_
        obtain ⟨r37, hcall, h⟩ := bd_out h
        refine g0_callV (As := [.ref (B + ((1 + 16) + 1 + 6 * q19))]) hC hml hS hW (KC_at hk hS F.2.2.2.2) KC_blind (metX10_leastPassedAgrees F hX k0 (k0.2.2.2.1.2.2.2.2.2.2.2 q19 hq21) hcall) ml_X10_344 (gw_recv hC hW k0.1 (k0.2.2.1 (gfm s0) T B (r35.1 a0)) rfl) ⟨rfl, rfl, (Nat.le_of_ble_eq_true rfl), (Nat.le_of_ble_eq_true rfl)⟩ rfl hl.1 rfl (Nat.le_of_ble_eq_true rfl) dX10_isConsistent_39 ⟨(Nat.le_of_ble_eq_true rfl), (Nat.le_of_ble_eq_true rfl)⟩ (fun H locs hW hS => ?_)
        refine gw_if_eqZ (tgt := 68) hx hb dX10_isConsistent_42 (by decide) (fun c38 => ?_) (fun c38 => ?_)
        · replace h := cond_f c38 h
          exact J32 _ h _ _ _ hW hS (lv_sub hl [1, 3] rfl)
        · replace h := cond_t c38 h
          refine lv_aload_n hx hb dX10_isConsistent_45 rfl (lv_at hl 1 rfl) ?_
          refine gw_get (v := .ref (B + 543)) hC hW fl_X10_43 k0.1 (k0.2.2.1 (gfm s0) T B (r37.1 a0)) rfl dX10_isConsistent_46 ?_
          refine lv_aload_n hx hb dX10_isConsistent_49 rfl (lv_at hl 0 rfl) ?_
          obtain ⟨r39, hcall, h⟩ := bd_out h
          refine g0_callV (As := [.ref (B + ((1 + 16) + 1 + 6 * q19))]) hC hml hS hW (KC_at hk hS F.2.2.2.2) KC_blind (metX5_feesByLastDays F hX k0.2.2.2.2.2.2.2.2.1 (k0.2.2.2.1.2.2.2.2.2.2.2 q19 hq21) hcall) ml_X10_282 (gw_recv hC hW k0.2.2.2.2.2.2.2.2.1.1 (k0.2.2.2.2.2.2.2.2.1.2.1 (gfm s0) T B (r37.1 543)) rfl) ⟨rfl, rfl, (Nat.le_of_ble_eq_true rfl), (Nat.le_of_ble_eq_true rfl)⟩ rfl hl.1 rfl (Nat.le_of_ble_eq_true rfl) dX10_isConsistent_50 ⟨(Nat.le_of_ble_eq_true rfl), (Nat.le_of_ble_eq_true rfl)⟩ (fun H locs hW hS => ?_)
          refine lv_aload_n hx hb dX10_isConsistent_53 rfl (lv_at hl 0 rfl) ?_
          refine lv_aload_n hx hb dX10_isConsistent_54 rfl (lv_at hl 0 rfl) ?_
          obtain ⟨r40, hcall, h⟩ := bd_out h
          refine g0_callV (As := []) hC hml hS hW (KC_at hk hS F.2.2.2.2) KC_blind (metX1_bestChoice F hX (k0.2.2.2.1.2.2.2.2.2.2.2 q19 hq21) hcall) ml_X10_286 (gw_recv hC hW (k0.2.2.2.1.2.2.2.2.2.2.2 q19 hq21).1 ((k0.2.2.2.1.2.2.2.2.2.2.2 q19 hq21).2.1 (gfm s0) T B (r39.1 ((1 + 16) + 1 + 6 * q19))) rfl) ⟨rfl, rfl, (Nat.le_of_ble_eq_true rfl), (Nat.le_of_ble_eq_true rfl)⟩ rfl hl.1 rfl (Nat.le_of_ble_eq_true rfl) dX10_isConsistent_55 ⟨(Nat.le_of_ble_eq_true rfl), (Nat.le_of_ble_eq_true rfl)⟩ (fun H locs hW hS => ?_)
          obtain ⟨r41, hcall, h⟩ := bd_out h
          refine g0_callV (As := [.int r40]) hC hml hS hW (KC_at hk hS F.2.2.2.2) KC_blind (metX1_feesOf F hX (k0.2.2.2.1.2.2.2.2.2.2.2 q19 hq21) hcall) ml_X10_290 (gw_recv hC hW (k0.2.2.2.1.2.2.2.2.2.2.2 q19 hq21).1 ((k0.2.2.2.1.2.2.2.2.2.2.2 q19 hq21).2.1 (gfm s0) T B (r39.1 ((1 + 16) + 1 + 6 * q19))) rfl) ⟨rfl, rfl, (Nat.le_of_ble_eq_true rfl), (Nat.le_of_ble_eq_true rfl)⟩ rfl hl.1 rfl (Nat.le_of_ble_eq_true rfl) dX10_isConsistent_58 ⟨(Nat.le_of_ble_eq_true rfl), (Nat.le_of_ble_eq_true rfl)⟩ (fun H locs hW hS => ?_)
          refine lv_icmp_ne (tgt := 68) hx hb dX10_isConsistent_61 (by decide) (fun c42 => ?_) (fun c42 => ?_)
          · replace h := ite_f c42 h
            exact J32 _ h _ _ _ hW hS (lv_sub hl [1, 3] rfl)
          · replace h := ite_t c42 h
            refine lv_iconst (v := 1) hx hb dX10_isConsistent_64 (by decide) ?_
            refine lv_goto (tgt := 69) hx hb dX10_isConsistent_65 (by decide) ?_
            exact J26 _ _ h _ _ _ hW hS (lv_sub hl [1, 3] rfl)
