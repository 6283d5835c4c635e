/-! Printed by program out of the decode rows: what each method of the class does, and its contract. -/
theorem dX1_copyFrom_0 : decode cX1_copyFrom 0 = .ok (.aload_n 0, 1) := by decide +kernel
theorem dX1_copyFrom_1 : decode cX1_copyFrom 1 = .ok (.aload_n 1, 1) := by decide +kernel
theorem dX1_copyFrom_2 : decode cX1_copyFrom 2 = .ok (.getfield 27, 3) := by decide +kernel
theorem dX1_copyFrom_5 : decode cX1_copyFrom 5 = .ok (.putfield 27, 3) := by decide +kernel
theorem dX1_copyFrom_8 : decode cX1_copyFrom 8 = .ok (.aload_n 0, 1) := by decide +kernel
theorem dX1_copyFrom_9 : decode cX1_copyFrom 9 = .ok (.aload_n 1, 1) := by decide +kernel
theorem dX1_copyFrom_10 : decode cX1_copyFrom 10 = .ok (.getfield 31, 3) := by decide +kernel
theorem dX1_copyFrom_13 : decode cX1_copyFrom 13 = .ok (.putfield 31, 3) := by decide +kernel
theorem dX1_copyFrom_16 : decode cX1_copyFrom 16 = .ok (.aload_n 1, 1) := by decide +kernel
theorem dX1_copyFrom_17 : decode cX1_copyFrom 17 = .ok (.getfield 9, 3) := by decide +kernel
theorem dX1_copyFrom_20 : decode cX1_copyFrom 20 = .ok (.iconst 0, 1) := by decide +kernel
theorem dX1_copyFrom_21 : decode cX1_copyFrom 21 = .ok (.aload_n 0, 1) := by decide +kernel
theorem dX1_copyFrom_22 : decode cX1_copyFrom 22 = .ok (.getfield 9, 3) := by decide +kernel
theorem dX1_copyFrom_25 : decode cX1_copyFrom 25 = .ok (.iconst 0, 1) := by decide +kernel
theorem dX1_copyFrom_26 : decode cX1_copyFrom 26 = .ok (.bipush 16, 2) := by decide +kernel
theorem dX1_copyFrom_28 : decode cX1_copyFrom 28 = .ok (.invokestatic 34, 3) := by decide +kernel
theorem dX1_copyFrom_31 : decode cX1_copyFrom 31 = .ok (.aload_n 0, 1) := by decide +kernel
theorem dX1_copyFrom_32 : decode cX1_copyFrom 32 = .ok (.aload_n 1, 1) := by decide +kernel
theorem dX1_copyFrom_33 : decode cX1_copyFrom 33 = .ok (.getfield 40, 3) := by decide +kernel
theorem dX1_copyFrom_36 : decode cX1_copyFrom 36 = .ok (.putfield 40, 3) := by decide +kernel
theorem dX1_copyFrom_39 : decode cX1_copyFrom 39 = .ok (.aload_n 0, 1) := by decide +kernel
theorem dX1_copyFrom_40 : decode cX1_copyFrom 40 = .ok (.aload_n 1, 1) := by decide +kernel
theorem dX1_copyFrom_41 : decode cX1_copyFrom 41 = .ok (.getfield 43, 3) := by decide +kernel
theorem dX1_copyFrom_44 : decode cX1_copyFrom 44 = .ok (.putfield 43, 3) := by decide +kernel
theorem dX1_copyFrom_47 : decode cX1_copyFrom 47 = .ok (.aload_n 0, 1) := by decide +kernel
theorem dX1_copyFrom_48 : decode cX1_copyFrom 48 = .ok (.aload_n 1, 1) := by decide +kernel
theorem dX1_copyFrom_49 : decode cX1_copyFrom 49 = .ok (.getfield 46, 3) := by decide +kernel
theorem dX1_copyFrom_52 : decode cX1_copyFrom 52 = .ok (.putfield 46, 3) := by decide +kernel
theorem dX1_copyFrom_55 : decode cX1_copyFrom 55 = .ok (.aload_n 0, 1) := by decide +kernel
theorem dX1_copyFrom_56 : decode cX1_copyFrom 56 = .ok (.aload_n 1, 1) := by decide +kernel
theorem dX1_copyFrom_57 : decode cX1_copyFrom 57 = .ok (.getfield 49, 3) := by decide +kernel
theorem dX1_copyFrom_60 : decode cX1_copyFrom 60 = .ok (.putfield 49, 3) := by decide +kernel
theorem dX1_copyFrom_63 : decode cX1_copyFrom 63 = .ok (.aload_n 1, 1) := by decide +kernel
theorem dX1_copyFrom_64 : decode cX1_copyFrom 64 = .ok (.getfield 15, 3) := by decide +kernel
theorem dX1_copyFrom_67 : decode cX1_copyFrom 67 = .ok (.iconst 0, 1) := by decide +kernel
theorem dX1_copyFrom_68 : decode cX1_copyFrom 68 = .ok (.aload_n 0, 1) := by decide +kernel
theorem dX1_copyFrom_69 : decode cX1_copyFrom 69 = .ok (.getfield 15, 3) := by decide +kernel
theorem dX1_copyFrom_72 : decode cX1_copyFrom 72 = .ok (.iconst 0, 1) := by decide +kernel
theorem dX1_copyFrom_73 : decode cX1_copyFrom 73 = .ok (.bipush 8, 2) := by decide +kernel
theorem dX1_copyFrom_75 : decode cX1_copyFrom 75 = .ok (.invokestatic 34, 3) := by decide +kernel
theorem dX1_copyFrom_78 : decode cX1_copyFrom 78 = .ok (.aload_n 1, 1) := by decide +kernel
theorem dX1_copyFrom_79 : decode cX1_copyFrom 79 = .ok (.getfield 18, 3) := by decide +kernel
theorem dX1_copyFrom_82 : decode cX1_copyFrom 82 = .ok (.iconst 0, 1) := by decide +kernel
theorem dX1_copyFrom_83 : decode cX1_copyFrom 83 = .ok (.aload_n 0, 1) := by decide +kernel
theorem dX1_copyFrom_84 : decode cX1_copyFrom 84 = .ok (.getfield 18, 3) := by decide +kernel
theorem dX1_copyFrom_87 : decode cX1_copyFrom 87 = .ok (.iconst 0, 1) := by decide +kernel
theorem dX1_copyFrom_88 : decode cX1_copyFrom 88 = .ok (.bipush 8, 2) := by decide +kernel
theorem dX1_copyFrom_90 : decode cX1_copyFrom 90 = .ok (.invokestatic 34, 3) := by decide +kernel
theorem dX1_copyFrom_93 : decode cX1_copyFrom 93 = .ok (.aload_n 1, 1) := by decide +kernel
theorem dX1_copyFrom_94 : decode cX1_copyFrom 94 = .ok (.getfield 21, 3) := by decide +kernel
theorem dX1_copyFrom_97 : decode cX1_copyFrom 97 = .ok (.iconst 0, 1) := by decide +kernel
theorem dX1_copyFrom_98 : decode cX1_copyFrom 98 = .ok (.aload_n 0, 1) := by decide +kernel
theorem dX1_copyFrom_99 : decode cX1_copyFrom 99 = .ok (.getfield 21, 3) := by decide +kernel
theorem dX1_copyFrom_102 : decode cX1_copyFrom 102 = .ok (.iconst 0, 1) := by decide +kernel
theorem dX1_copyFrom_103 : decode cX1_copyFrom 103 = .ok (.bipush 8, 2) := by decide +kernel
theorem dX1_copyFrom_105 : decode cX1_copyFrom 105 = .ok (.invokestatic 34, 3) := by decide +kernel
theorem dX1_copyFrom_108 : decode cX1_copyFrom 108 = .ok (.aload_n 0, 1) := by decide +kernel
theorem dX1_copyFrom_109 : decode cX1_copyFrom 109 = .ok (.aload_n 1, 1) := by decide +kernel
theorem dX1_copyFrom_110 : decode cX1_copyFrom 110 = .ok (.getfield 52, 3) := by decide +kernel
theorem dX1_copyFrom_113 : decode cX1_copyFrom 113 = .ok (.putfield 52, 3) := by decide +kernel
theorem dX1_copyFrom_116 : decode cX1_copyFrom 116 = .ok (.aload_n 1, 1) := by decide +kernel
theorem dX1_copyFrom_117 : decode cX1_copyFrom 117 = .ok (.getfield 24, 3) := by decide +kernel
theorem dX1_copyFrom_120 : decode cX1_copyFrom 120 = .ok (.iconst 0, 1) := by decide +kernel
theorem dX1_copyFrom_121 : decode cX1_copyFrom 121 = .ok (.aload_n 0, 1) := by decide +kernel
theorem dX1_copyFrom_122 : decode cX1_copyFrom 122 = .ok (.getfield 24, 3) := by decide +kernel
theorem dX1_copyFrom_125 : decode cX1_copyFrom 125 = .ok (.iconst 0, 1) := by decide +kernel
theorem dX1_copyFrom_126 : decode cX1_copyFrom 126 = .ok (.bipush 100, 2) := by decide +kernel
theorem dX1_copyFrom_128 : decode cX1_copyFrom 128 = .ok (.invokestatic 34, 3) := by decide +kernel
theorem dX1_copyFrom_131 : decode cX1_copyFrom 131 = .ok (.return_, 1) := by decide +kernel
abbrev rmX1_copyFrom : Room := { frames := 2, cells := 0, slots := 0, locals := 60 }
set_option maxHeartbeats 4000000 in
set_option maxRecDepth 100000 in
theorem metX1_copyFrom {l : Launch} {s0 : State} {b B : Nat} {D : va_G} {T : Nat → ClassId} (F : FX l s0 b D T B) {X : Nat → Prop} (hX : ∀ o, o < 560 → ¬ X (B + o)) {N : Nat} {μ : Mem} {a0 : Nat} {a1 : Nat} {r : Mem} (k0 : IsEx a0) (k1 : IsEx a1) (h : fX1_copyFrom N μ a0 a1 = some r) : gMet l yX1_copyFrom cX1_copyFrom 2 none rmX1_copyFrom [.ref (B + a0), .ref (B + a1)] (gWC s0 D T B μ) (KC s0 X) none (gWC s0 D T B r) (gA B X) 0 0 := by
  refine gV_of RX1 (by decide +kernel) rfl (Nat.le_of_ble_eq_true rfl) ?_
  intro p e s m args below meth c ls Q hx hb hlocks hml hown hts hW hk hl hS hend
  have hC := FX_C F hk hx hb hown hts
  have hA := gA_all hX
  have hl : lv_has ls 2 [(0, .ref (B + a0)), (1, .ref (B + a1))] := hl
  unfold fX1_copyFrom at h
  refine lv_aload_n hx hb dX1_copyFrom_0 rfl (lv_at hl 0 rfl) ?_
  refine lv_aload_n hx hb dX1_copyFrom_1 rfl (lv_at hl 1 rfl) ?_
  refine gw_get (v := .int (μ a1 0)) hC hW fl_X1_27.1 k1.1 (k1.2.1 (gfm s0) T B (μ a1)) rfl dX1_copyFrom_2 ?_
  obtain ⟨μ1, e2, h⟩ := lt_out h
  refine gq_put hC hS hW hA fl_X1_27 k0.1 (k0.2.1 (gfm s0) T B) (Nat.le_of_ble_eq_true rfl) rfl rfl rfl e2 dX1_copyFrom_5 (fun H locs hW hS => ?_)
  refine lv_aload_n hx hb dX1_copyFrom_8 rfl (lv_at hl 0 rfl) ?_
  refine lv_aload_n hx hb dX1_copyFrom_9 rfl (lv_at hl 1 rfl) ?_
  refine gw_get (v := .int (μ1 a1 1)) hC hW fl_X1_31.1 k1.1 (k1.2.1 (gfm s0) T B (μ1 a1)) rfl dX1_copyFrom_10 ?_
  obtain ⟨μ3, e4, h⟩ := lt_out h
  refine gq_put hC hS hW hA fl_X1_31 k0.1 (k0.2.1 (gfm s0) T B) (Nat.le_of_ble_eq_true rfl) rfl rfl rfl e4 dX1_copyFrom_13 (fun H locs hW hS => ?_)
  refine lv_aload_n hx hb dX1_copyFrom_16 rfl (lv_at hl 1 rfl) ?_
  refine gw_get (v := .ref (B + (a1 + 1))) hC hW fl_X1_9 k1.1 (k1.2.1 (gfm s0) T B (μ3 a1)) rfl dX1_copyFrom_17 ?_
  refine lv_iconst (v := 0) hx hb dX1_copyFrom_20 (by decide) ?_
  refine lv_aload_n hx hb dX1_copyFrom_21 rfl (lv_at hl 0 rfl) ?_
  refine gw_get (v := .ref (B + (a0 + 1))) hC hW fl_X1_9 k0.1 (k0.2.1 (gfm s0) T B (μ3 a0)) rfl dX1_copyFrom_22 ?_
  refine lv_iconst (v := 0) hx hb dX1_copyFrom_25 (by decide) ?_
  refine lv_bipush (v := 16) hx hb dX1_copyFrom_26 (by decide) ?_
  obtain ⟨μ5, e6, hc7, h⟩ := acp_o h
  refine gw_copy hC (hml.trans hl.1.symm) lm_X1_34 lb_copy.1 lb_copy.2.1 lb_copy.2.2 hS hW hA k1.2.2.1.1 k0.2.2.1.1 (k1.2.2.1.2 (gfm s0) T B) (k0.2.2.1.2 (gfm s0) T B) (t0 := 0) rfl e6 hc7 (Nat.le_of_ble_eq_true rfl) (Nat.le_of_ble_eq_true rfl) dX1_copyFrom_28 (fun H locs hW hS => ?_)
  refine lv_aload_n hx hb dX1_copyFrom_31 rfl (lv_at hl 0 rfl) ?_
  refine lv_aload_n hx hb dX1_copyFrom_32 rfl (lv_at hl 1 rfl) ?_
  refine gw_get (v := .int (μ5 a1 3)) hC hW fl_X1_40.1 k1.1 (k1.2.1 (gfm s0) T B (μ5 a1)) rfl dX1_copyFrom_33 ?_
  obtain ⟨μ8, e9, h⟩ := lt_out h
  refine gq_put hC hS hW hA fl_X1_40 k0.1 (k0.2.1 (gfm s0) T B) (Nat.le_of_ble_eq_true rfl) rfl rfl rfl e9 dX1_copyFrom_36 (fun H locs hW hS => ?_)
  refine lv_aload_n hx hb dX1_copyFrom_39 rfl (lv_at hl 0 rfl) ?_
  refine lv_aload_n hx hb dX1_copyFrom_40 rfl (lv_at hl 1 rfl) ?_
  refine gw_get (v := .int (μ8 a1 4)) hC hW fl_X1_43.1 k1.1 (k1.2.1 (gfm s0) T B (μ8 a1)) rfl dX1_copyFrom_41 ?_
  obtain ⟨μ10, e11, h⟩ := lt_out h
  refine gq_put hC hS hW hA fl_X1_43 k0.1 (k0.2.1 (gfm s0) T B) (Nat.le_of_ble_eq_true rfl) rfl rfl rfl e11 dX1_copyFrom_44 (fun H locs hW hS => ?_)
  refine lv_aload_n hx hb dX1_copyFrom_47 rfl (lv_at hl 0 rfl) ?_
  refine lv_aload_n hx hb dX1_copyFrom_48 rfl (lv_at hl 1 rfl) ?_
  refine gw_get (v := .int (μ10 a1 5)) hC hW fl_X1_46.1 k1.1 (k1.2.1 (gfm s0) T B (μ10 a1)) rfl dX1_copyFrom_49 ?_
  obtain ⟨μ12, e13, h⟩ := lt_out h
  refine gq_put hC hS hW hA fl_X1_46 k0.1 (k0.2.1 (gfm s0) T B) (Nat.le_of_ble_eq_true rfl) rfl rfl rfl e13 dX1_copyFrom_52 (fun H locs hW hS => ?_)
  refine lv_aload_n hx hb dX1_copyFrom_55 rfl (lv_at hl 0 rfl) ?_
  refine lv_aload_n hx hb dX1_copyFrom_56 rfl (lv_at hl 1 rfl) ?_
  refine gw_get (v := .int (μ12 a1 6)) hC hW fl_X1_49.1 k1.1 (k1.2.1 (gfm s0) T B (μ12 a1)) rfl dX1_copyFrom_57 ?_
  obtain ⟨μ14, e15, h⟩ := lt_out h
  refine gq_put hC hS hW hA fl_X1_49 k0.1 (k0.2.1 (gfm s0) T B) (Nat.le_of_ble_eq_true rfl) rfl rfl rfl e15 dX1_copyFrom_60 (fun H locs hW hS => ?_)
  refine lv_aload_n hx hb dX1_copyFrom_63 rfl (lv_at hl 1 rfl) ?_
  refine gw_get (v := .ref (B + (a1 + 2))) hC hW fl_X1_15 k1.1 (k1.2.1 (gfm s0) T B (μ14 a1)) rfl dX1_copyFrom_64 ?_
  refine lv_iconst (v := 0) hx hb dX1_copyFrom_67 (by decide) ?_
  refine lv_aload_n hx hb dX1_copyFrom_68 rfl (lv_at hl 0 rfl) ?_
  refine gw_get (v := .ref (B + (a0 + 2))) hC hW fl_X1_15 k0.1 (k0.2.1 (gfm s0) T B (μ14 a0)) rfl dX1_copyFrom_69 ?_
  refine lv_iconst (v := 0) hx hb dX1_copyFrom_72 (by decide) ?_
  refine lv_bipush (v := 8) hx hb dX1_copyFrom_73 (by decide) ?_
  obtain ⟨μ16, e17, hc18, h⟩ := acp_o h
  refine gw_copy hC (hml.trans hl.1.symm) lm_X1_34 lb_copy.1 lb_copy.2.1 lb_copy.2.2 hS hW hA k1.2.2.2.1.1 k0.2.2.2.1.1 (k1.2.2.2.1.2 (gfm s0) T B) (k0.2.2.2.1.2 (gfm s0) T B) (t0 := 0) rfl e17 hc18 (Nat.le_of_ble_eq_true rfl) (Nat.le_of_ble_eq_true rfl) dX1_copyFrom_75 (fun H locs hW hS => ?_)
  refine lv_aload_n hx hb dX1_copyFrom_78 rfl (lv_at hl 1 rfl) ?_
  refine gw_get (v := .ref (B + (a1 + 3))) hC hW fl_X1_18 k1.1 (k1.2.1 (gfm s0) T B (μ16 a1)) rfl dX1_copyFrom_79 ?_
  refine lv_iconst (v := 0) hx hb dX1_copyFrom_82 (by decide) ?_
  refine lv_aload_n hx hb dX1_copyFrom_83 rfl (lv_at hl 0 rfl) ?_
  refine gw_get (v := .ref (B + (a0 + 3))) hC hW fl_X1_18 k0.1 (k0.2.1 (gfm s0) T B (μ16 a0)) rfl dX1_copyFrom_84 ?_
  refine lv_iconst (v := 0) hx hb dX1_copyFrom_87 (by decide) ?_
  refine lv_bipush (v := 8) hx hb dX1_copyFrom_88 (by decide) ?_
  obtain ⟨μ19, e20, hc21, h⟩ := acp_o h
  refine gw_copy hC (hml.trans hl.1.symm) lm_X1_34 lb_copy.1 lb_copy.2.1 lb_copy.2.2 hS hW hA k1.2.2.2.2.1.1 k0.2.2.2.2.1.1 (k1.2.2.2.2.1.2 (gfm s0) T B) (k0.2.2.2.2.1.2 (gfm s0) T B) (t0 := 0) rfl e20 hc21 (Nat.le_of_ble_eq_true rfl) (Nat.le_of_ble_eq_true rfl) dX1_copyFrom_90 (fun H locs hW hS => ?_)
  refine lv_aload_n hx hb dX1_copyFrom_93 rfl (lv_at hl 1 rfl) ?_
  refine gw_get (v := .ref (B + (a1 + 4))) hC hW fl_X1_21 k1.1 (k1.2.1 (gfm s0) T B (μ19 a1)) rfl dX1_copyFrom_94 ?_
  refine lv_iconst (v := 0) hx hb dX1_copyFrom_97 (by decide) ?_
  refine lv_aload_n hx hb dX1_copyFrom_98 rfl (lv_at hl 0 rfl) ?_
  refine gw_get (v := .ref (B + (a0 + 4))) hC hW fl_X1_21 k0.1 (k0.2.1 (gfm s0) T B (μ19 a0)) rfl dX1_copyFrom_99 ?_
  refine lv_iconst (v := 0) hx hb dX1_copyFrom_102 (by decide) ?_
  refine lv_bipush (v := 8) hx hb dX1_copyFrom_103 (by decide) ?_
  obtain ⟨μ22, e23, hc24, h⟩ := acp_o h
  refine gw_copy hC (hml.trans hl.1.symm) lm_X1_34 lb_copy.1 lb_copy.2.1 lb_copy.2.2 hS hW hA k1.2.2.2.2.2.1.1 k0.2.2.2.2.2.1.1 (k1.2.2.2.2.2.1.2 (gfm s0) T B) (k0.2.2.2.2.2.1.2 (gfm s0) T B) (t0 := 0) rfl e23 hc24 (Nat.le_of_ble_eq_true rfl) (Nat.le_of_ble_eq_true rfl) dX1_copyFrom_105 (fun H locs hW hS => ?_)
  refine lv_aload_n hx hb dX1_copyFrom_108 rfl (lv_at hl 0 rfl) ?_
  refine lv_aload_n hx hb dX1_copyFrom_109 rfl (lv_at hl 1 rfl) ?_
  refine gw_get (v := .int (μ22 a1 10)) hC hW fl_X1_52.1 k1.1 (k1.2.1 (gfm s0) T B (μ22 a1)) rfl dX1_copyFrom_110 ?_
  obtain ⟨μ25, e26, h⟩ := lt_out h
  refine gq_put hC hS hW hA fl_X1_52 k0.1 (k0.2.1 (gfm s0) T B) (Nat.le_of_ble_eq_true rfl) rfl rfl rfl e26 dX1_copyFrom_113 (fun H locs hW hS => ?_)
  refine lv_aload_n hx hb dX1_copyFrom_116 rfl (lv_at hl 1 rfl) ?_
  refine gw_get (v := .ref (B + (a1 + 5))) hC hW fl_X1_24 k1.1 (k1.2.1 (gfm s0) T B (μ25 a1)) rfl dX1_copyFrom_117 ?_
  refine lv_iconst (v := 0) hx hb dX1_copyFrom_120 (by decide) ?_
  refine lv_aload_n hx hb dX1_copyFrom_121 rfl (lv_at hl 0 rfl) ?_
  refine gw_get (v := .ref (B + (a0 + 5))) hC hW fl_X1_24 k0.1 (k0.2.1 (gfm s0) T B (μ25 a0)) rfl dX1_copyFrom_122 ?_
  refine lv_iconst (v := 0) hx hb dX1_copyFrom_125 (by decide) ?_
  refine lv_bipush (v := 100) hx hb dX1_copyFrom_126 (by decide) ?_
  obtain ⟨μ27, e28, hc29, h⟩ := acp_o h
  refine gw_copy hC (hml.trans hl.1.symm) lm_X1_34 lb_copy.1 lb_copy.2.1 lb_copy.2.2 hS hW hA k1.2.2.2.2.2.2.1 k0.2.2.2.2.2.2.1 (k1.2.2.2.2.2.2.2 (gfm s0) T B) (k0.2.2.2.2.2.2.2 (gfm s0) T B) (t0 := 0) rfl e28 hc29 (Nat.le_of_ble_eq_true rfl) (Nat.le_of_ble_eq_true rfl) dX1_copyFrom_128 (fun H locs hW hS => ?_)
  cases h
  exact hend dX1_copyFrom_131 hW hS (Nat.le_of_ble_eq_true rfl) (Nat.le_of_ble_eq_true rfl)

theorem dX6_highestPlace_0 : decode cX6_highestPlace 0 = .ok (.iconst 0, 1) := by decide +kernel
theorem dX6_highestPlace_1 : decode cX6_highestPlace 1 = .ok (.istore_n 1, 1) := by decide +kernel
theorem dX6_highestPlace_2 : decode cX6_highestPlace 2 = .ok (.iconst 1, 1) := by decide +kernel
theorem dX6_highestPlace_3 : decode cX6_highestPlace 3 = .ok (.istore_n 2, 1) := by decide +kernel
theorem dX6_highestPlace_4 : decode cX6_highestPlace 4 = .ok (.iload_n 2, 1) := by decide +kernel
theorem dX6_highestPlace_5 : decode cX6_highestPlace 5 = .ok (.bipush 16, 2) := by decide +kernel
theorem dX6_highestPlace_7 : decode cX6_highestPlace 7 = .ok (.if_icmp .ge 20, 3) := by decide +kernel
theorem dX6_highestPlace_10 : decode cX6_highestPlace 10 = .ok (.aload_n 0, 1) := by decide +kernel
theorem dX6_highestPlace_11 : decode cX6_highestPlace 11 = .ok (.iload_n 2, 1) := by decide +kernel
theorem dX6_highestPlace_12 : decode cX6_highestPlace 12 = .ok (.iaload, 1) := by decide +kernel
theorem dX6_highestPlace_13 : decode cX6_highestPlace 13 = .ok (.aload_n 0, 1) := by decide +kernel
theorem dX6_highestPlace_14 : decode cX6_highestPlace 14 = .ok (.iload_n 1, 1) := by decide +kernel
theorem dX6_highestPlace_15 : decode cX6_highestPlace 15 = .ok (.iaload, 1) := by decide +kernel
theorem dX6_highestPlace_16 : decode cX6_highestPlace 16 = .ok (.if_icmp .le 5, 3) := by decide +kernel
theorem dX6_highestPlace_19 : decode cX6_highestPlace 19 = .ok (.iload_n 2, 1) := by decide +kernel
theorem dX6_highestPlace_20 : decode cX6_highestPlace 20 = .ok (.istore_n 1, 1) := by decide +kernel
theorem dX6_highestPlace_21 : decode cX6_highestPlace 21 = .ok (.iinc 2 1, 3) := by decide +kernel
theorem dX6_highestPlace_24 : decode cX6_highestPlace 24 = .ok (.goto (-20), 3) := by decide +kernel
theorem dX6_highestPlace_27 : decode cX6_highestPlace 27 = .ok (.iload_n 1, 1) := by decide +kernel
theorem dX6_highestPlace_28 : decode cX6_highestPlace 28 = .ok (.ireturn, 1) := by decide +kernel
abbrev rmX6_highestPlace : Room := { frames := 2, cells := 0, slots := 0, locals := 60 }
set_option maxHeartbeats 4000000 in
set_option maxRecDepth 100000 in
theorem metX6_highestPlace {l : Launch} {s0 : State} {b B : Nat} {D : va_G} {T : Nat → ClassId} (F : FX l s0 b D T B) {X : Nat → Prop} (hX : ∀ o, o < 560 → ¬ X (B + o)) {N : Nat} {μ : Mem} {a0 : Nat} {r : Int32} (k0 : (IA 16) a0) (h : fX6_highestPlace N μ a0 = some r) : gMet l yX6_highestPlace cX6_highestPlace 3 (some .int) rmX6_highestPlace [.ref (B + a0)] (gWC s0 D T B μ) (KC s0 X) (some (.int r)) (gWC s0 D T B μ) (gA B X) 0 0 := by
  refine gI_of RX6 (by decide +kernel) rfl (Nat.le_of_ble_eq_true rfl) ?_
  intro p e s m args below meth c ls Q hx hb hlocks hml hown hts hW hk hl hS hend
  have hC := FX_C F hk hx hb hown hts
  have hA := gA_all hX
  have hl : lv_has ls 3 [(0, .ref (B + a0))] := hl
  unfold fX6_highestPlace at h
  refine lv_iconst (v := 0) hx hb dX6_highestPlace_0 (by decide) ?_
  refine lv_istore_n (lv' := [(1, .int 0), (0, .ref (B + a0))]) hx hb dX6_highestPlace_1 rfl hl (by decide) rfl (fun ls hl => ?_)
  refine lv_iconst (v := 1) hx hb dX6_highestPlace_2 (by decide) ?_
  refine lv_istore_n (lv' := [(2, .int 1), (1, .int 0), (0, .ref (B + a0))]) hx hb dX6_highestPlace_3 rfl hl (by decide) rfl (fun ls hl => ?_)
  refine fix2_ind (fun (x1 : Int32) (x2 : Int32) => ∀ (H : Heap) (locs : List Loc) (ls : Array Slot), gWC s0 D T B μ H → va_S (gA B X) s.heap H locs → lv_has ls 3 [(0, .ref (B + a0)), (1, .int x1), (2, .int x2)] → W p l e rmX6_highestPlace s m args below meth c H locs 0 0 Q (F0 m 4 ls [])) ?_ N _ _ h _ _ _ hW hS (lv_sub hl [2, 1, 0] rfl)
  clear h hW hS hl
  intro self3 IH4 x1 x2 h H locs ls hW hS hl
  refine lv_iload_n hx hb dX6_highestPlace_4 rfl (lv_at hl 2 rfl) ?_
  refine lv_bipush (v := 16) hx hb dX6_highestPlace_5 (by decide) ?_
  refine lv_icmp_ge (tgt := 27) hx hb dX6_highestPlace_7 (by decide) (fun c5 => ?_) (fun c5 => ?_)
  · replace h := ite_t c5 h
    refine lv_iload_n hx hb dX6_highestPlace_27 rfl (lv_at hl 1 rfl) ?_
    cases h
    exact hend dX6_highestPlace_28 hW hS (Nat.le_of_ble_eq_true rfl) (Nat.le_of_ble_eq_true rfl)
  · replace h := ite_f c5 h
    refine lv_aload_n hx hb dX6_highestPlace_10 rfl (lv_at hl 0 rfl) ?_
    refine lv_iload_n hx hb dX6_highestPlace_11 rfl (lv_at hl 2 rfl) ?_
    obtain ⟨v6, e7, hi8, h⟩ := ag_o h
    refine gq_iald hC hW k0.1 (k0.2 (gfm s0) T B (μ a0)) (t0 := 0) rfl e7 hi8 dX6_highestPlace_12 ?_
    refine lv_aload_n hx hb dX6_highestPlace_13 rfl (lv_at hl 0 rfl) ?_
    refine lv_iload_n hx hb dX6_highestPlace_14 rfl (lv_at hl 1 rfl) ?_
    obtain ⟨v9, e10, hi11, h⟩ := ag_o h
    refine gq_iald hC hW k0.1 (k0.2 (gfm s0) T B (μ a0)) (t0 := 0) rfl e10 hi11 dX6_highestPlace_15 ?_
    obtain ⟨j13, hj15, h⟩ := jn1_o h
    have J14 : ∀ (y12 : Int32), j13 y12 = some r → ∀ (H : Heap) (locs : List Loc) (ls : Array Slot), gWC s0 D T B μ H → va_S (gA B X) s.heap H locs → lv_has ls 3 [(0, .ref (B + a0)), (1, .int y12), (2, .int x2)] → W p l e rmX6_highestPlace s m args below meth c H locs 0 0 Q (F0 m 21 ls []) := by
      clear h hW hS hl
      intro y12 h H locs ls hW hS hl
      replace h := (hj15 y12).symm.trans h
      obtain ⟨v16, e17, h⟩ := lt_out h
      refine lv_iinc (v := v16) (lv' := [(2, .int v16), (0, .ref (B + a0)), (1, .int y12)]) hx hb dX6_highestPlace_21 hl (k := 2) rfl (by rw [e17]; rfl) (by decide) rfl (fun ls hl => ?_)
      refine lv_goto (tgt := 4) hx hb dX6_highestPlace_24 (by decide) ?_
      exact IH4 _ _ h _ _ _ hW hS (lv_sub hl [1, 2, 0] rfl)
    refine lv_icmp_le (tgt := 21) hx hb dX6_highestPlace_16 (by decide) (fun c18 => ?_) (fun c18 => ?_)
    · replace h := ite_t c18 h
      exact J14 _ h _ _ _ hW hS (lv_sub hl [0, 1, 2] rfl)
    · replace h := ite_f c18 h
      refine lv_iload_n hx hb dX6_highestPlace_19 rfl (lv_at hl 2 rfl) ?_
      refine lv_istore_n (lv' := [(1, .int x2), (0, .ref (B + a0)), (2, .int x2)]) hx hb dX6_highestPlace_20 rfl hl (by decide) rfl (fun ls hl => ?_)
      exact J14 _ h _ _ _ hW hS (lv_sub hl [1, 0, 2] rfl)

theorem dX1_melt_0 : decode cX1_melt 0 = .ok (.iconst 0, 1) := by decide +kernel
theorem dX1_melt_1 : decode cX1_melt 1 = .ok (.istore_n 2, 1) := by decide +kernel
theorem dX1_melt_2 : decode cX1_melt 2 = .ok (.iconst 0, 1) := by decide +kernel
theorem dX1_melt_3 : decode cX1_melt 3 = .ok (.istore_n 3, 1) := by decide +kernel
theorem dX1_melt_4 : decode cX1_melt 4 = .ok (.iload_n 3, 1) := by decide +kernel
theorem dX1_melt_5 : decode cX1_melt 5 = .ok (.iload_n 1, 1) := by decide +kernel
theorem dX1_melt_6 : decode cX1_melt 6 = .ok (.if_icmp .ge 45, 3) := by decide +kernel
theorem dX1_melt_9 : decode cX1_melt 9 = .ok (.aload_n 0, 1) := by decide +kernel
theorem dX1_melt_10 : decode cX1_melt 10 = .ok (.getfield 9, 3) := by decide +kernel
theorem dX1_melt_13 : decode cX1_melt 13 = .ok (.invokestatic 55, 3) := by decide +kernel
theorem dX1_melt_16 : decode cX1_melt 16 = .ok (.istore 4, 2) := by decide +kernel
theorem dX1_melt_18 : decode cX1_melt 18 = .ok (.aload_n 0, 1) := by decide +kernel
theorem dX1_melt_19 : decode cX1_melt 19 = .ok (.getfield 9, 3) := by decide +kernel
theorem dX1_melt_22 : decode cX1_melt 22 = .ok (.iload 4, 2) := by decide +kernel
theorem dX1_melt_24 : decode cX1_melt 24 = .ok (.iaload, 1) := by decide +kernel
theorem dX1_melt_25 : decode cX1_melt 25 = .ok (.ifCond .ne 6, 3) := by decide +kernel
theorem dX1_melt_28 : decode cX1_melt 28 = .ok (.goto 23, 3) := by decide +kernel
theorem dX1_melt_31 : decode cX1_melt 31 = .ok (.aload_n 0, 1) := by decide +kernel
theorem dX1_melt_32 : decode cX1_melt 32 = .ok (.getfield 9, 3) := by decide +kernel
theorem dX1_melt_35 : decode cX1_melt 35 = .ok (.iload 4, 2) := by decide +kernel
theorem dX1_melt_37 : decode cX1_melt 37 = .ok (.dup2, 1) := by decide +kernel
theorem dX1_melt_38 : decode cX1_melt 38 = .ok (.iaload, 1) := by decide +kernel
theorem dX1_melt_39 : decode cX1_melt 39 = .ok (.iconst 1, 1) := by decide +kernel
theorem dX1_melt_40 : decode cX1_melt 40 = .ok (.isub, 1) := by decide +kernel
theorem dX1_melt_41 : decode cX1_melt 41 = .ok (.iastore, 1) := by decide +kernel
theorem dX1_melt_42 : decode cX1_melt 42 = .ok (.iinc 2 1, 3) := by decide +kernel
theorem dX1_melt_45 : decode cX1_melt 45 = .ok (.iinc 3 1, 3) := by decide +kernel
theorem dX1_melt_48 : decode cX1_melt 48 = .ok (.goto (-44), 3) := by decide +kernel
theorem dX1_melt_51 : decode cX1_melt 51 = .ok (.aload_n 0, 1) := by decide +kernel
theorem dX1_melt_52 : decode cX1_melt 52 = .ok (.dup, 1) := by decide +kernel
theorem dX1_melt_53 : decode cX1_melt 53 = .ok (.getfield 46, 3) := by decide +kernel
theorem dX1_melt_56 : decode cX1_melt 56 = .ok (.iload_n 2, 1) := by decide +kernel
theorem dX1_melt_57 : decode cX1_melt 57 = .ok (.iadd, 1) := by decide +kernel
theorem dX1_melt_58 : decode cX1_melt 58 = .ok (.putfield 46, 3) := by decide +kernel
theorem dX1_melt_61 : decode cX1_melt 61 = .ok (.iload_n 2, 1) := by decide +kernel
theorem dX1_melt_62 : decode cX1_melt 62 = .ok (.ireturn, 1) := by decide +kernel
abbrev rmX1_melt : Room := { frames := 3, cells := 0, slots := 0, locals := 82 }
set_option maxHeartbeats 4000000 in
set_option maxRecDepth 100000 in
theorem metX1_melt {l : Launch} {s0 : State} {b B : Nat} {D : va_G} {T : Nat → ClassId} (F : FX l s0 b D T B) {X : Nat → Prop} (hX : ∀ o, o < 560 → ¬ X (B + o)) {N : Nat} {μ : Mem} {a0 : Nat} {a1 : Int32} {r : Mem × Int32} (k0 : IsEx a0) (h : fX1_melt N μ a0 a1 = some r) : gMet l yX1_melt cX1_melt 5 (some .int) rmX1_melt [.ref (B + a0), .int a1] (gWC s0 D T B μ) (KC s0 X) (some (.int r.2)) (gWC s0 D T B r.1) (gA B X) 0 0 := by
  refine gI_of RX1 (by decide +kernel) rfl (Nat.le_of_ble_eq_true rfl) ?_
  intro p e s m args below meth c ls Q hx hb hlocks hml hown hts hW hk hl hS hend
  have hC := FX_C F hk hx hb hown hts
  have hA := gA_all hX
  have hl : lv_has ls 5 [(0, .ref (B + a0)), (1, .int a1)] := hl
  unfold fX1_melt at h
  refine lv_iconst (v := 0) hx hb dX1_melt_0 (by decide) ?_
  refine lv_istore_n (lv' := [(2, .int 0), (0, .ref (B + a0)), (1, .int a1)]) hx hb dX1_melt_1 rfl hl (by decide) rfl (fun ls hl => ?_)
  refine lv_iconst (v := 0) hx hb dX1_melt_2 (by decide) ?_
  refine lv_istore_n (lv' := [(3, .int 0), (2, .int 0), (0, .ref (B + a0)), (1, .int a1)]) hx hb dX1_melt_3 rfl hl (by decide) rfl (fun ls hl => ?_)
  refine fix3_ind (fun (x1 : Int32) (x2 : Int32) (μ3 : Mem) => ∀ (H : Heap) (locs : List Loc) (ls : Array Slot), gWC s0 D T B μ3 H → va_S (gA B X) s.heap H locs → lv_has ls 5 [(0, .ref (B + a0)), (1, .int a1), (2, .int x1), (3, .int x2)] → W p l e rmX1_melt s m args below meth c H locs 0 0 Q (F0 m 4 ls [])) ?_ N _ _ _ h _ _ _ hW hS (lv_sub hl [2, 3, 1, 0] rfl)
  clear h hW hS hl
  intro self4 IH5 x1 x2 μ3 h H locs ls hW hS hl
  refine lv_iload_n hx hb dX1_melt_4 rfl (lv_at hl 3 rfl) ?_
  refine lv_iload_n hx hb dX1_melt_5 rfl (lv_at hl 1 rfl) ?_
  obtain ⟨j7, hj9, h⟩ := jn1_o h
  have J8 : ∀ (u6 : Unit), j7 u6 = some r → ∀ (H : Heap) (locs : List Loc) (ls : Array Slot), gWC s0 D T B μ3 H → va_S (gA B X) s.heap H locs → lv_has ls 5 [(0, .ref (B + a0)), (2, .int x1)] → W p l e rmX1_melt s m args below meth c H locs 0 0 Q (F0 m 51 ls []) := by
    clear h hW hS hl
    intro u6 h H locs ls hW hS hl
    replace h := (hj9 u6).symm.trans h
    refine lv_aload_n hx hb dX1_melt_51 rfl (lv_at hl 0 rfl) ?_
    refine lv_dup hx hb dX1_melt_52 rfl ?_
    refine gw_get (v := .int (μ3 a0 5)) hC hW fl_X1_46.1 k0.1 (k0.2.1 (gfm s0) T B (μ3 a0)) rfl dX1_melt_53 ?_
    refine lv_iload_n hx hb dX1_melt_56 rfl (lv_at hl 1 rfl) ?_
    refine lv_iadd hx hb dX1_melt_57 ?_
    obtain ⟨μ10, e11, h⟩ := lt_out h
    refine gq_put hC hS hW hA fl_X1_46 k0.1 (k0.2.1 (gfm s0) T B) (Nat.le_of_ble_eq_true rfl) rfl rfl rfl e11 dX1_melt_58 (fun H locs hW hS => ?_)
    refine lv_iload_n hx hb dX1_melt_61 rfl (lv_at hl 1 rfl) ?_
    cases h
    exact hend dX1_melt_62 hW hS (Nat.le_of_ble_eq_true rfl) (Nat.le_of_ble_eq_true rfl)
  refine lv_icmp_ge (tgt := 51) hx hb dX1_melt_6 (by decide) (fun c12 => ?_) (fun c12 => ?_)
  · replace h := ite_t c12 h
    exact J8 _ h _ _ _ hW hS (lv_sub hl [0, 2] rfl)
  · replace h := ite_f c12 h
    refine lv_aload_n hx hb dX1_melt_9 rfl (lv_at hl 0 rfl) ?_
    refine gw_get (v := .ref (B + (a0 + 1))) hC hW fl_X1_9 k0.1 (k0.2.1 (gfm s0) T B (μ3 a0)) rfl dX1_melt_10 ?_
    obtain ⟨r13, hcall, h⟩ := bd_out h
    refine g0_callS (As := [.ref (B + (a0 + 1))]) hC hml hS hW (KC_at hk hS F.2.2.2.2) KC_blind (metX6_highestPlace F hX k0.2.2.1 hcall) ml_X1_55 ⟨rfl, rfl, (Nat.le_of_ble_eq_true rfl), (Nat.le_of_ble_eq_true rfl)⟩ rfl hl.1 rfl (Nat.le_of_ble_eq_true rfl) dX1_melt_13 ⟨(Nat.le_of_ble_eq_true rfl), (Nat.le_of_ble_eq_true rfl)⟩ (fun H locs hW hS => ?_)
    refine lv_istore (lv' := [(4, .int r13), (0, .ref (B + a0)), (1, .int a1), (2, .int x1), (3, .int x2)]) hx hb dX1_melt_16 hl (by decide) rfl (fun ls hl => ?_)
    refine lv_aload_n hx hb dX1_melt_18 rfl (lv_at hl 1 rfl) ?_
    refine gw_get (v := .ref (B + (a0 + 1))) hC hW fl_X1_9 k0.1 (k0.2.1 (gfm s0) T B (μ3 a0)) rfl dX1_melt_19 ?_
    refine lv_iload hx hb dX1_melt_22 (lv_at hl 0 rfl) ?_
    obtain ⟨v14, e15, hi16, h⟩ := ag_o h
    refine gq_iald hC hW k0.2.2.1.1 (k0.2.2.1.2 (gfm s0) T B (μ3 (a0 + 1))) (t0 := 0) rfl e15 hi16 dX1_melt_24 ?_
    refine lv_if_ne (tgt := 31) hx hb dX1_melt_25 (by decide) (fun c17 => ?_) (fun c17 => ?_)
    · replace h := ite_f c17 h
      refine lv_aload_n hx hb dX1_melt_31 rfl (lv_at hl 1 rfl) ?_
      refine gw_get (v := .ref (B + (a0 + 1))) hC hW fl_X1_9 k0.1 (k0.2.1 (gfm s0) T B (μ3 a0)) rfl dX1_melt_32 ?_
      refine lv_iload hx hb dX1_melt_35 (lv_at hl 0 rfl) ?_
      refine lv_dup2_11 hx hb dX1_melt_37 rfl rfl ?_
      obtain ⟨v18, e19, hi20, h⟩ := ag_o h
      refine gq_iald hC hW k0.2.2.1.1 (k0.2.2.1.2 (gfm s0) T B (μ3 (a0 + 1))) (t0 := 0) rfl e19 hi20 dX1_melt_38 ?_
      refine lv_iconst (v := 1) hx hb dX1_melt_39 (by decide) ?_
      refine lv_isub hx hb dX1_melt_40 ?_
      obtain ⟨μ21, e22, hi23, h⟩ := aw_o h
      refine gq_iast hC hS hW hA k0.2.2.1.1 (k0.2.2.1.2 (gfm s0) T B) (t0 := 0) rfl e22 hi23 dX1_melt_41 (fun H locs hW hS => ?_)
      obtain ⟨v24, e25, h⟩ := lt_out h
      refine lv_iinc (v := v24) (lv' := [(2, .int v24), (4, .int r13), (0, .ref (B + a0)), (1, .int a1), (3, .int x2)]) hx hb dX1_melt_42 hl (k := 3) rfl (by rw [e25]; rfl) (by decide) rfl (fun ls hl => ?_)
      obtain ⟨v26, e27, h⟩ := lt_out h
      refine lv_iinc (v := v26) (lv' := [(3, .int v26), (2, .int v24), (4, .int r13), (0, .ref (B + a0)), (1, .int a1)]) hx hb dX1_melt_45 hl (k := 4) rfl (by rw [e27]; rfl) (by decide) rfl (fun ls hl => ?_)
      refine lv_goto (tgt := 4) hx hb dX1_melt_48 (by decide) ?_
      exact IH5 _ _ _ h _ _ _ hW hS (lv_sub hl [3, 4, 1, 0] rfl)
    · replace h := ite_t c17 h
      refine lv_goto (tgt := 51) hx hb dX1_melt_28 (by decide) ?_
      exact J8 _ h _ _ _ hW hS (lv_sub hl [1, 3] rfl)

theorem dX10_isFrom_0 : decode cX10_isFrom 0 = .ok (.iload_n 1, 1) := by decide +kernel
theorem dX10_isFrom_1 : decode cX10_isFrom 1 = .ok (.iload_n 0, 1) := by decide +kernel
theorem dX10_isFrom_2 : decode cX10_isFrom 2 = .ok (.if_icmp .lt 12, 3) := by decide +kernel
theorem dX10_isFrom_5 : decode cX10_isFrom 5 = .ok (.iload_n 1, 1) := by decide +kernel
theorem dX10_isFrom_6 : decode cX10_isFrom 6 = .ok (.iload_n 2, 1) := by decide +kernel
theorem dX10_isFrom_7 : decode cX10_isFrom 7 = .ok (.if_icmp .gt 7, 3) := by decide +kernel
theorem dX10_isFrom_10 : decode cX10_isFrom 10 = .ok (.iconst 1, 1) := by decide +kernel
theorem dX10_isFrom_11 : decode cX10_isFrom 11 = .ok (.goto 4, 3) := by decide +kernel
theorem dX10_isFrom_14 : decode cX10_isFrom 14 = .ok (.iconst 0, 1) := by decide +kernel
theorem dX10_isFrom_15 : decode cX10_isFrom 15 = .ok (.ireturn, 1) := by decide +kernel
abbrev rmX10_isFrom : Room := { frames := 2, cells := 0, slots := 0, locals := 60 }
set_option maxHeartbeats 4000000 in
set_option maxRecDepth 100000 in
theorem metX10_isFrom {l : Launch} {s0 : State} {b B : Nat} {D : va_G} {T : Nat → ClassId} (F : FX l s0 b D T B) {X : Nat → Prop} (hX : ∀ o, o < 560 → ¬ X (B + o)) {N : Nat} {μ : Mem} {a0 : Int32} {a1 : Int32} {a2 : Int32} {r : Bool}  (h : fX10_isFrom N μ a0 a1 a2 = some r) : gMet l yX10_isFrom cX10_isFrom 3 (some .boolean) rmX10_isFrom [.int a0, .int a1, .int a2] (gWC s0 D T B μ) (KC s0 X) (some (.int (b2i r))) (gWC s0 D T B μ) (gA B X) 0 0 := by
  refine gZ_of RX10 (by decide +kernel) rfl (Nat.le_of_ble_eq_true rfl) ?_
  intro p e s m args below meth c ls Q hx hb hlocks hml hown hts hW hk hl hS hend
  have hC := FX_C F hk hx hb hown hts
  have hA := gA_all hX
  have hl : lv_has ls 3 [(0, .int a0), (1, .int a1), (2, .int a2)] := hl
  unfold fX10_isFrom at h
  refine lv_iload_n hx hb dX10_isFrom_0 rfl (lv_at hl 1 rfl) ?_
  refine lv_iload_n hx hb dX10_isFrom_1 rfl (lv_at hl 0 rfl) ?_
  obtain ⟨j2, hj4, h⟩ := jn1_o h
  have J3 : ∀ (y1 : Bool), j2 y1 = some r → ∀ (H : Heap) (locs : List Loc) (ls : Array Slot), gWC s0 D T B μ H → va_S (gA B X) s.heap H locs → lv_has ls 3 [] → W p l e rmX10_isFrom s m args below meth c H locs 0 0 Q (F0 m 15 ls [.int (b2i y1)]) := by
    clear h hW hS hl
    intro y1 h H locs ls hW hS hl
    replace h := (hj4 y1).symm.trans h
    cases h
    exact hend dX10_isFrom_15 hW hS (Nat.le_of_ble_eq_true rfl) (Nat.le_of_ble_eq_true rfl)
  obtain ⟨j6, hj8, h⟩ := jn1_o h
  have J7 : ∀ (u5 : Unit), j6 u5 = some r → ∀ (H : Heap) (locs : List Loc) (ls : Array Slot), gWC s0 D T B μ H → va_S (gA B X) s.heap H locs → lv_has ls 3 [] → W p l e rmX10_isFrom s m args below meth c H locs 0 0 Q (F0 m 14 ls []) := by
    clear h hW hS hl
    intro u5 h H locs ls hW hS hl
    replace h := (hj8 u5).symm.trans h
    refine lv_iconst (v := 0) hx hb dX10_isFrom_14 (by decide) ?_
    exact J3 _ h _ _ _ hW hS (lv_sub hl [] rfl)
  refine lv_icmp_lt (tgt := 14) hx hb dX10_isFrom_2 (by decide) (fun c9 => ?_) (fun c9 => ?_)
  · replace h := ite_t c9 h
    exact J7 _ h _ _ _ hW hS (lv_sub hl [] rfl)
  · replace h := ite_f c9 h
    refine lv_iload_n hx hb dX10_isFrom_5 rfl (lv_at hl 1 rfl) ?_
    refine lv_iload_n hx hb dX10_isFrom_6 rfl (lv_at hl 2 rfl) ?_
    refine lv_icmp_gt (tgt := 14) hx hb dX10_isFrom_7 (by decide) (fun c10 => ?_) (fun c10 => ?_)
    · replace h := ite_t c10 h
      exact J7 _ h _ _ _ hW hS (lv_sub hl [] rfl)
    · replace h := ite_f c10 h
      refine lv_iconst (v := 1) hx hb dX10_isFrom_10 (by decide) ?_
      refine lv_goto (tgt := 15) hx hb dX10_isFrom_11 (by decide) ?_
      exact J3 _ h _ _ _ hW hS (lv_sub hl [] rfl)

theorem dX1_loanEndOn_0 : decode cX1_loanEndOn 0 = .ok (.iconst 0, 1) := by decide +kernel
theorem dX1_loanEndOn_1 : decode cX1_loanEndOn 1 = .ok (.iload_n 1, 1) := by decide +kernel
theorem dX1_loanEndOn_2 : decode cX1_loanEndOn 2 = .ok (.bipush 99, 2) := by decide +kernel
theorem dX1_loanEndOn_4 : decode cX1_loanEndOn 4 = .ok (.invokestatic 61, 3) := by decide +kernel
theorem dX1_loanEndOn_7 : decode cX1_loanEndOn 7 = .ok (.ifCond .eq 14, 3) := by decide +kernel
theorem dX1_loanEndOn_10 : decode cX1_loanEndOn 10 = .ok (.aload_n 0, 1) := by decide +kernel
theorem dX1_loanEndOn_11 : decode cX1_loanEndOn 11 = .ok (.getfield 24, 3) := by decide +kernel
theorem dX1_loanEndOn_14 : decode cX1_loanEndOn 14 = .ok (.iload_n 1, 1) := by decide +kernel
theorem dX1_loanEndOn_15 : decode cX1_loanEndOn 15 = .ok (.iaload, 1) := by decide +kernel
theorem dX1_loanEndOn_16 : decode cX1_loanEndOn 16 = .ok (.iconst 1, 1) := by decide +kernel
theorem dX1_loanEndOn_17 : decode cX1_loanEndOn 17 = .ok (.isub, 1) := by decide +kernel
theorem dX1_loanEndOn_18 : decode cX1_loanEndOn 18 = .ok (.goto 4, 3) := by decide +kernel
theorem dX1_loanEndOn_21 : decode cX1_loanEndOn 21 = .ok (.iconst (-1), 1) := by decide +kernel
theorem dX1_loanEndOn_22 : decode cX1_loanEndOn 22 = .ok (.ireturn, 1) := by decide +kernel
abbrev rmX1_loanEndOn : Room := { frames := 3, cells := 0, slots := 0, locals := 82 }
set_option maxHeartbeats 4000000 in
set_option maxRecDepth 100000 in
theorem metX1_loanEndOn {l : Launch} {s0 : State} {b B : Nat} {D : va_G} {T : Nat → ClassId} (F : FX l s0 b D T B) {X : Nat → Prop} (hX : ∀ o, o < 560 → ¬ X (B + o)) {N : Nat} {μ : Mem} {a0 : Nat} {a1 : Int32} {r : Int32} (k0 : IsEx a0) (h : fX1_loanEndOn N μ a0 a1 = some r) : gMet l yX1_loanEndOn cX1_loanEndOn 2 (some .int) rmX1_loanEndOn [.ref (B + a0), .int a1] (gWC s0 D T B μ) (KC s0 X) (some (.int r)) (gWC s0 D T B μ) (gA B X) 0 0 := by
  refine gI_of RX1 (by decide +kernel) rfl (Nat.le_of_ble_eq_true rfl) ?_
  intro p e s m args below meth c ls Q hx hb hlocks hml hown hts hW hk hl hS hend
  have hC := FX_C F hk hx hb hown hts
  have hA := gA_all hX
  have hl : lv_has ls 2 [(0, .ref (B + a0)), (1, .int a1)] := hl
  unfold fX1_loanEndOn at h
  refine lv_iconst (v := 0) hx hb dX1_loanEndOn_0 (by decide) ?_
  refine lv_iload_n hx hb dX1_loanEndOn_1 rfl (lv_at hl 1 rfl) ?_
  refine lv_bipush (v := 99) hx hb dX1_loanEndOn_2 (by decide) ?_
  obtain ⟨r1, hcall, h⟩ := bd_out h
  refine g0_callSN (As := [.int 0, .int a1, .int 99]) hC hml hS hW (KC_at hk hS F.2.2.2.2) KC_blind (metX10_isFrom F hX  hcall) nw_X1_61 (FX_N F hk _ nl_X1_61) ⟨rfl, rfl, (Nat.le_of_ble_eq_true rfl), (Nat.le_of_ble_eq_true rfl)⟩ rfl hl.1 rfl (Nat.le_of_ble_eq_true rfl) dX1_loanEndOn_4 ⟨(Nat.le_of_ble_eq_true rfl), (Nat.le_of_ble_eq_true rfl)⟩ (fun H locs hW hS => ?_)
  obtain ⟨j3, hj5, h⟩ := jn1_o h
  have J4 : ∀ (y2 : Int32), j3 y2 = some r → ∀ (H : Heap) (locs : List Loc) (ls : Array Slot), gWC s0 D T B μ H → va_S (gA B X) s.heap H locs → lv_has ls 2 [] → W p l e rmX1_loanEndOn s m args below meth c H locs 0 0 Q (F0 m 22 ls [.int y2]) := by
    clear h hW hS hl
    intro y2 h H locs ls hW hS hl
    replace h := (hj5 y2).symm.trans h
    cases h
    exact hend dX1_loanEndOn_22 hW hS (Nat.le_of_ble_eq_true rfl) (Nat.le_of_ble_eq_true rfl)
  refine gw_if_eqZ (tgt := 21) hx hb dX1_loanEndOn_7 (by decide) (fun c6 => ?_) (fun c6 => ?_)
  · replace h := cond_f c6 h
    refine lv_iconst (v := (-1)) hx hb dX1_loanEndOn_21 (by decide) ?_
    exact J4 _ h _ _ _ hW hS (lv_sub hl [] rfl)
  · replace h := cond_t c6 h
    refine lv_aload_n hx hb dX1_loanEndOn_10 rfl (lv_at hl 0 rfl) ?_
    refine gw_get (v := .ref (B + (a0 + 5))) hC hW fl_X1_24 k0.1 (k0.2.1 (gfm s0) T B (μ a0)) rfl dX1_loanEndOn_11 ?_
    refine lv_iload_n hx hb dX1_loanEndOn_14 rfl (lv_at hl 1 rfl) ?_
    obtain ⟨v7, e8, hi9, h⟩ := ag_o h
    refine gq_iald hC hW k0.2.2.2.2.2.2.1 (k0.2.2.2.2.2.2.2 (gfm s0) T B (μ (a0 + 5))) (t0 := 0) rfl e8 hi9 dX1_loanEndOn_15 ?_
    refine lv_iconst (v := 1) hx hb dX1_loanEndOn_16 (by decide) ?_
    refine lv_isub hx hb dX1_loanEndOn_17 ?_
    refine lv_goto (tgt := 22) hx hb dX1_loanEndOn_18 (by decide) ?_
    exact J4 _ h _ _ _ hW hS (lv_sub hl [] rfl)

theorem dX1_noteLoan_0 : decode cX1_noteLoan 0 = .ok (.aload_n 0, 1) := by decide +kernel
theorem dX1_noteLoan_1 : decode cX1_noteLoan 1 = .ok (.getfield 15, 3) := by decide +kernel
theorem dX1_noteLoan_4 : decode cX1_noteLoan 4 = .ok (.aload_n 0, 1) := by decide +kernel
theorem dX1_noteLoan_5 : decode cX1_noteLoan 5 = .ok (.getfield 49, 3) := by decide +kernel
theorem dX1_noteLoan_8 : decode cX1_noteLoan 8 = .ok (.iload_n 1, 1) := by decide +kernel
theorem dX1_noteLoan_9 : decode cX1_noteLoan 9 = .ok (.iastore, 1) := by decide +kernel
theorem dX1_noteLoan_10 : decode cX1_noteLoan 10 = .ok (.aload_n 0, 1) := by decide +kernel
theorem dX1_noteLoan_11 : decode cX1_noteLoan 11 = .ok (.getfield 18, 3) := by decide +kernel
theorem dX1_noteLoan_14 : decode cX1_noteLoan 14 = .ok (.aload_n 0, 1) := by decide +kernel
theorem dX1_noteLoan_15 : decode cX1_noteLoan 15 = .ok (.getfield 49, 3) := by decide +kernel
theorem dX1_noteLoan_18 : decode cX1_noteLoan 18 = .ok (.iload_n 2, 1) := by decide +kernel
theorem dX1_noteLoan_19 : decode cX1_noteLoan 19 = .ok (.iastore, 1) := by decide +kernel
theorem dX1_noteLoan_20 : decode cX1_noteLoan 20 = .ok (.aload_n 0, 1) := by decide +kernel
theorem dX1_noteLoan_21 : decode cX1_noteLoan 21 = .ok (.getfield 21, 3) := by decide +kernel
theorem dX1_noteLoan_24 : decode cX1_noteLoan 24 = .ok (.aload_n 0, 1) := by decide +kernel
theorem dX1_noteLoan_25 : decode cX1_noteLoan 25 = .ok (.getfield 49, 3) := by decide +kernel
theorem dX1_noteLoan_28 : decode cX1_noteLoan 28 = .ok (.iload_n 3, 1) := by decide +kernel
theorem dX1_noteLoan_29 : decode cX1_noteLoan 29 = .ok (.iastore, 1) := by decide +kernel
theorem dX1_noteLoan_30 : decode cX1_noteLoan 30 = .ok (.aload_n 0, 1) := by decide +kernel
theorem dX1_noteLoan_31 : decode cX1_noteLoan 31 = .ok (.dup, 1) := by decide +kernel
theorem dX1_noteLoan_32 : decode cX1_noteLoan 32 = .ok (.getfield 49, 3) := by decide +kernel
theorem dX1_noteLoan_35 : decode cX1_noteLoan 35 = .ok (.iconst 1, 1) := by decide +kernel
theorem dX1_noteLoan_36 : decode cX1_noteLoan 36 = .ok (.iadd, 1) := by decide +kernel
theorem dX1_noteLoan_37 : decode cX1_noteLoan 37 = .ok (.putfield 49, 3) := by decide +kernel
theorem dX1_noteLoan_40 : decode cX1_noteLoan 40 = .ok (.aload_n 0, 1) := by decide +kernel
theorem dX1_noteLoan_41 : decode cX1_noteLoan 41 = .ok (.getfield 49, 3) := by decide +kernel
theorem dX1_noteLoan_44 : decode cX1_noteLoan 44 = .ok (.ireturn, 1) := by decide +kernel
abbrev rmX1_noteLoan : Room := { frames := 2, cells := 0, slots := 0, locals := 60 }
set_option maxHeartbeats 4000000 in
set_option maxRecDepth 100000 in
theorem metX1_noteLoan {l : Launch} {s0 : State} {b B : Nat} {D : va_G} {T : Nat → ClassId} (F : FX l s0 b D T B) {X : Nat → Prop} (hX : ∀ o, o < 560 → ¬ X (B + o)) {N : Nat} {μ : Mem} {a0 : Nat} {a1 : Int32} {a2 : Int32} {a3 : Int32} {r : Mem × Int32} (k0 : IsEx a0) (h : fX1_noteLoan N μ a0 a1 a2 a3 = some r) : gMet l yX1_noteLoan cX1_noteLoan 4 (some .int) rmX1_noteLoan [.ref (B + a0), .int a1, .int a2, .int a3] (gWC s0 D T B μ) (KC s0 X) (some (.int r.2)) (gWC s0 D T B r.1) (gA B X) 0 0 := by
  refine gI_of RX1 (by decide +kernel) rfl (Nat.le_of_ble_eq_true rfl) ?_
  intro p e s m args below meth c ls Q hx hb hlocks hml hown hts hW hk hl hS hend
  have hC := FX_C F hk hx hb hown hts
  have hA := gA_all hX
  have hl : lv_has ls 4 [(0, .ref (B + a0)), (1, .int a1), (2, .int a2), (3, .int a3)] := hl
  unfold fX1_noteLoan at h
  refine lv_aload_n hx hb dX1_noteLoan_0 rfl (lv_at hl 0 rfl) ?_
  refine gw_get (v := .ref (B + (a0 + 2))) hC hW fl_X1_15 k0.1 (k0.2.1 (gfm s0) T B (μ a0)) rfl dX1_noteLoan_1 ?_
  refine lv_aload_n hx hb dX1_noteLoan_4 rfl (lv_at hl 0 rfl) ?_
  refine gw_get (v := .int (μ a0 6)) hC hW fl_X1_49.1 k0.1 (k0.2.1 (gfm s0) T B (μ a0)) rfl dX1_noteLoan_5 ?_
  refine lv_iload_n hx hb dX1_noteLoan_8 rfl (lv_at hl 1 rfl) ?_
  obtain ⟨μ1, e2, hi3, h⟩ := aw_o h
  refine gq_iast hC hS hW hA k0.2.2.2.1.1 (k0.2.2.2.1.2 (gfm s0) T B) (t0 := 0) rfl e2 hi3 dX1_noteLoan_9 (fun H locs hW hS => ?_)
  refine lv_aload_n hx hb dX1_noteLoan_10 rfl (lv_at hl 0 rfl) ?_
  refine gw_get (v := .ref (B + (a0 + 3))) hC hW fl_X1_18 k0.1 (k0.2.1 (gfm s0) T B (μ1 a0)) rfl dX1_noteLoan_11 ?_
  refine lv_aload_n hx hb dX1_noteLoan_14 rfl (lv_at hl 0 rfl) ?_
  refine gw_get (v := .int (μ1 a0 6)) hC hW fl_X1_49.1 k0.1 (k0.2.1 (gfm s0) T B (μ1 a0)) rfl dX1_noteLoan_15 ?_
  refine lv_iload_n hx hb dX1_noteLoan_18 rfl (lv_at hl 2 rfl) ?_
  obtain ⟨μ4, e5, hi6, h⟩ := aw_o h
  refine gq_iast hC hS hW hA k0.2.2.2.2.1.1 (k0.2.2.2.2.1.2 (gfm s0) T B) (t0 := 0) rfl e5 hi6 dX1_noteLoan_19 (fun H locs hW hS => ?_)
  refine lv_aload_n hx hb dX1_noteLoan_20 rfl (lv_at hl 0 rfl) ?_
  refine gw_get (v := .ref (B + (a0 + 4))) hC hW fl_X1_21 k0.1 (k0.2.1 (gfm s0) T B (μ4 a0)) rfl dX1_noteLoan_21 ?_
  refine lv_aload_n hx hb dX1_noteLoan_24 rfl (lv_at hl 0 rfl) ?_
  refine gw_get (v := .int (μ4 a0 6)) hC hW fl_X1_49.1 k0.1 (k0.2.1 (gfm s0) T B (μ4 a0)) rfl dX1_noteLoan_25 ?_
  refine lv_iload_n hx hb dX1_noteLoan_28 rfl (lv_at hl 3 rfl) ?_
  obtain ⟨μ7, e8, hi9, h⟩ := aw_o h
  refine gq_iast hC hS hW hA k0.2.2.2.2.2.1.1 (k0.2.2.2.2.2.1.2 (gfm s0) T B) (t0 := 0) rfl e8 hi9 dX1_noteLoan_29 (fun H locs hW hS => ?_)
  refine lv_aload_n hx hb dX1_noteLoan_30 rfl (lv_at hl 0 rfl) ?_
  refine lv_dup hx hb dX1_noteLoan_31 rfl ?_
  refine gw_get (v := .int (μ7 a0 6)) hC hW fl_X1_49.1 k0.1 (k0.2.1 (gfm s0) T B (μ7 a0)) rfl dX1_noteLoan_32 ?_
  refine lv_iconst (v := 1) hx hb dX1_noteLoan_35 (by decide) ?_
  refine lv_iadd hx hb dX1_noteLoan_36 ?_
  obtain ⟨μ10, e11, h⟩ := lt_out h
  refine gq_put hC hS hW hA fl_X1_49 k0.1 (k0.2.1 (gfm s0) T B) (Nat.le_of_ble_eq_true rfl) rfl rfl rfl e11 dX1_noteLoan_37 (fun H locs hW hS => ?_)
  refine lv_aload_n hx hb dX1_noteLoan_40 rfl (lv_at hl 0 rfl) ?_
  refine gw_get (v := .int (μ10 a0 6)) hC hW fl_X1_49.1 k0.1 (k0.2.1 (gfm s0) T B (μ10 a0)) rfl dX1_noteLoan_41 ?_
  cases h
  exact hend dX1_noteLoan_44 hW hS (Nat.le_of_ble_eq_true rfl) (Nat.le_of_ble_eq_true rfl)

theorem dX1_contains_0 : decode cX1_contains 0 = .ok (.iload_n 0, 1) := by decide +kernel
theorem dX1_contains_1 : decode cX1_contains 1 = .ok (.iload_n 1, 1) := by decide +kernel
theorem dX1_contains_2 : decode cX1_contains 2 = .ok (.ishr, 1) := by decide +kernel
theorem dX1_contains_3 : decode cX1_contains 3 = .ok (.iconst 1, 1) := by decide +kernel
theorem dX1_contains_4 : decode cX1_contains 4 = .ok (.iand, 1) := by decide +kernel
theorem dX1_contains_5 : decode cX1_contains 5 = .ok (.iconst 1, 1) := by decide +kernel
theorem dX1_contains_6 : decode cX1_contains 6 = .ok (.if_icmp .ne 7, 3) := by decide +kernel
theorem dX1_contains_9 : decode cX1_contains 9 = .ok (.iconst 1, 1) := by decide +kernel
theorem dX1_contains_10 : decode cX1_contains 10 = .ok (.goto 4, 3) := by decide +kernel
theorem dX1_contains_13 : decode cX1_contains 13 = .ok (.iconst 0, 1) := by decide +kernel
theorem dX1_contains_14 : decode cX1_contains 14 = .ok (.ireturn, 1) := by decide +kernel
abbrev rmX1_contains : Room := { frames := 2, cells := 0, slots := 0, locals := 60 }
set_option maxHeartbeats 4000000 in
set_option maxRecDepth 100000 in
theorem metX1_contains {l : Launch} {s0 : State} {b B : Nat} {D : va_G} {T : Nat → ClassId} (F : FX l s0 b D T B) {X : Nat → Prop} (hX : ∀ o, o < 560 → ¬ X (B + o)) {N : Nat} {μ : Mem} {a0 : Int32} {a1 : Int32} {r : Bool}  (h : fX1_contains N μ a0 a1 = some r) : gMet l yX1_contains cX1_contains 2 (some .boolean) rmX1_contains [.int a0, .int a1] (gWC s0 D T B μ) (KC s0 X) (some (.int (b2i r))) (gWC s0 D T B μ) (gA B X) 0 0 := by
  refine gZ_of RX1 (by decide +kernel) rfl (Nat.le_of_ble_eq_true rfl) ?_
  intro p e s m args below meth c ls Q hx hb hlocks hml hown hts hW hk hl hS hend
  have hC := FX_C F hk hx hb hown hts
  have hA := gA_all hX
  have hl : lv_has ls 2 [(0, .int a0), (1, .int a1)] := hl
  unfold fX1_contains at h
  refine lv_iload_n hx hb dX1_contains_0 rfl (lv_at hl 0 rfl) ?_
  refine lv_iload_n hx hb dX1_contains_1 rfl (lv_at hl 1 rfl) ?_
  refine lv_ishr hx hb dX1_contains_2 ?_
  refine lv_iconst (v := 1) hx hb dX1_contains_3 (by decide) ?_
  refine lv_iand hx hb dX1_contains_4 ?_
  refine lv_iconst (v := 1) hx hb dX1_contains_5 (by decide) ?_
  obtain ⟨j2, hj4, h⟩ := jn1_o h
  have J3 : ∀ (y1 : Bool), j2 y1 = some r → ∀ (H : Heap) (locs : List Loc) (ls : Array Slot), gWC s0 D T B μ H → va_S (gA B X) s.heap H locs → lv_has ls 2 [] → W p l e rmX1_contains s m args below meth c H locs 0 0 Q (F0 m 14 ls [.int (b2i y1)]) := by
    clear h hW hS hl
    intro y1 h H locs ls hW hS hl
    replace h := (hj4 y1).symm.trans h
    cases h
    exact hend dX1_contains_14 hW hS (Nat.le_of_ble_eq_true rfl) (Nat.le_of_ble_eq_true rfl)
  refine lv_icmp_ne (tgt := 13) hx hb dX1_contains_6 (by decide) (fun c5 => ?_) (fun c5 => ?_)
  · replace h := ite_f c5 h
    refine lv_iconst (v := 0) hx hb dX1_contains_13 (by decide) ?_
    exact J3 _ h _ _ _ hW hS (lv_sub hl [] rfl)
  · replace h := ite_t c5 h
    refine lv_iconst (v := 1) hx hb dX1_contains_9 (by decide) ?_
    refine lv_goto (tgt := 14) hx hb dX1_contains_10 (by decide) ?_
    exact J3 _ h _ _ _ hW hS (lv_sub hl [] rfl)

theorem dX1_takeLoan_0 : decode cX1_takeLoan 0 = .ok (.aload_n 0, 1) := by decide +kernel
theorem dX1_takeLoan_1 : decode cX1_takeLoan 1 = .ok (.getfield 15, 3) := by decide +kernel
theorem dX1_takeLoan_4 : decode cX1_takeLoan 4 = .ok (.iload_n 1, 1) := by decide +kernel
theorem dX1_takeLoan_5 : decode cX1_takeLoan 5 = .ok (.iaload, 1) := by decide +kernel
theorem dX1_takeLoan_6 : decode cX1_takeLoan 6 = .ok (.istore_n 2, 1) := by decide +kernel
theorem dX1_takeLoan_7 : decode cX1_takeLoan 7 = .ok (.iload_n 2, 1) := by decide +kernel
theorem dX1_takeLoan_8 : decode cX1_takeLoan 8 = .ok (.aload_n 0, 1) := by decide +kernel
theorem dX1_takeLoan_9 : decode cX1_takeLoan 9 = .ok (.getfield 18, 3) := by decide +kernel
theorem dX1_takeLoan_12 : decode cX1_takeLoan 12 = .ok (.iload_n 1, 1) := by decide +kernel
theorem dX1_takeLoan_13 : decode cX1_takeLoan 13 = .ok (.iaload, 1) := by decide +kernel
theorem dX1_takeLoan_14 : decode cX1_takeLoan 14 = .ok (.if_icmp .gt 23, 3) := by decide +kernel
theorem dX1_takeLoan_17 : decode cX1_takeLoan 17 = .ok (.aload_n 0, 1) := by decide +kernel
theorem dX1_takeLoan_18 : decode cX1_takeLoan 18 = .ok (.getfield 24, 3) := by decide +kernel
theorem dX1_takeLoan_21 : decode cX1_takeLoan 21 = .ok (.iload_n 2, 1) := by decide +kernel
theorem dX1_takeLoan_22 : decode cX1_takeLoan 22 = .ok (.aload_n 0, 1) := by decide +kernel
theorem dX1_takeLoan_23 : decode cX1_takeLoan 23 = .ok (.getfield 18, 3) := by decide +kernel
theorem dX1_takeLoan_26 : decode cX1_takeLoan 26 = .ok (.iload_n 1, 1) := by decide +kernel
theorem dX1_takeLoan_27 : decode cX1_takeLoan 27 = .ok (.iaload, 1) := by decide +kernel
theorem dX1_takeLoan_28 : decode cX1_takeLoan 28 = .ok (.iconst 1, 1) := by decide +kernel
theorem dX1_takeLoan_29 : decode cX1_takeLoan 29 = .ok (.iadd, 1) := by decide +kernel
theorem dX1_takeLoan_30 : decode cX1_takeLoan 30 = .ok (.iastore, 1) := by decide +kernel
theorem dX1_takeLoan_31 : decode cX1_takeLoan 31 = .ok (.iinc 2 1, 3) := by decide +kernel
theorem dX1_takeLoan_34 : decode cX1_takeLoan 34 = .ok (.goto (-27), 3) := by decide +kernel
theorem dX1_takeLoan_37 : decode cX1_takeLoan 37 = .ok (.aload_n 0, 1) := by decide +kernel
theorem dX1_takeLoan_38 : decode cX1_takeLoan 38 = .ok (.dup, 1) := by decide +kernel
theorem dX1_takeLoan_39 : decode cX1_takeLoan 39 = .ok (.getfield 52, 3) := by decide +kernel
theorem dX1_takeLoan_42 : decode cX1_takeLoan 42 = .ok (.iconst 1, 1) := by decide +kernel
theorem dX1_takeLoan_43 : decode cX1_takeLoan 43 = .ok (.iadd, 1) := by decide +kernel
theorem dX1_takeLoan_44 : decode cX1_takeLoan 44 = .ok (.putfield 52, 3) := by decide +kernel
theorem dX1_takeLoan_47 : decode cX1_takeLoan 47 = .ok (.return_, 1) := by decide +kernel
abbrev rmX1_takeLoan : Room := { frames := 2, cells := 0, slots := 0, locals := 60 }
set_option maxHeartbeats 4000000 in
set_option maxRecDepth 100000 in
theorem metX1_takeLoan {l : Launch} {s0 : State} {b B : Nat} {D : va_G} {T : Nat → ClassId} (F : FX l s0 b D T B) {X : Nat → Prop} (hX : ∀ o, o < 560 → ¬ X (B + o)) {N : Nat} {μ : Mem} {a0 : Nat} {a1 : Int32} {r : Mem} (k0 : IsEx a0) (h : fX1_takeLoan N μ a0 a1 = some r) : gMet l yX1_takeLoan cX1_takeLoan 3 none rmX1_takeLoan [.ref (B + a0), .int a1] (gWC s0 D T B μ) (KC s0 X) none (gWC s0 D T B r) (gA B X) 0 0 := by
  refine gV_of RX1 (by decide +kernel) rfl (Nat.le_of_ble_eq_true rfl) ?_
  intro p e s m args below meth c ls Q hx hb hlocks hml hown hts hW hk hl hS hend
  have hC := FX_C F hk hx hb hown hts
  have hA := gA_all hX
  have hl : lv_has ls 3 [(0, .ref (B + a0)), (1, .int a1)] := hl
  unfold fX1_takeLoan at h
  refine lv_aload_n hx hb dX1_takeLoan_0 rfl (lv_at hl 0 rfl) ?_
  refine gw_get (v := .ref (B + (a0 + 2))) hC hW fl_X1_15 k0.1 (k0.2.1 (gfm s0) T B (μ a0)) rfl dX1_takeLoan_1 ?_
  refine lv_iload_n hx hb dX1_takeLoan_4 rfl (lv_at hl 1 rfl) ?_
  obtain ⟨v1, e2, hi3, h⟩ := ag_o h
  refine gq_iald hC hW k0.2.2.2.1.1 (k0.2.2.2.1.2 (gfm s0) T B (μ (a0 + 2))) (t0 := 0) rfl e2 hi3 dX1_takeLoan_5 ?_
  refine lv_istore_n (lv' := [(2, .int v1), (0, .ref (B + a0)), (1, .int a1)]) hx hb dX1_takeLoan_6 rfl hl (by decide) rfl (fun ls hl => ?_)
  refine fix2_ind (fun (x4 : Int32) (μ5 : Mem) => ∀ (H : Heap) (locs : List Loc) (ls : Array Slot), gWC s0 D T B μ5 H → va_S (gA B X) s.heap H locs → lv_has ls 3 [(0, .ref (B + a0)), (1, .int a1), (2, .int x4)] → W p l e rmX1_takeLoan s m args below meth c H locs 0 0 Q (F0 m 7 ls [])) ?_ N _ _ h _ _ _ hW hS (lv_sub hl [1, 2, 0] rfl)
  clear h hW hS hl
  intro self6 IH7 x4 μ5 h H locs ls hW hS hl
  refine lv_iload_n hx hb dX1_takeLoan_7 rfl (lv_at hl 2 rfl) ?_
  refine lv_aload_n hx hb dX1_takeLoan_8 rfl (lv_at hl 0 rfl) ?_
  refine gw_get (v := .ref (B + (a0 + 3))) hC hW fl_X1_18 k0.1 (k0.2.1 (gfm s0) T B (μ5 a0)) rfl dX1_takeLoan_9 ?_
  refine lv_iload_n hx hb dX1_takeLoan_12 rfl (lv_at hl 1 rfl) ?_
  obtain ⟨v8, e9, hi10, h⟩ := ag_o h
  refine gq_iald hC hW k0.2.2.2.2.1.1 (k0.2.2.2.2.1.2 (gfm s0) T B (μ5 (a0 + 3))) (t0 := 0) rfl e9 hi10 dX1_takeLoan_13 ?_
  refine lv_icmp_gt (tgt := 37) hx hb dX1_takeLoan_14 (by decide) (fun c11 => ?_) (fun c11 => ?_)
  · replace h := ite_t c11 h
    refine lv_aload_n hx hb dX1_takeLoan_37 rfl (lv_at hl 0 rfl) ?_
    refine lv_dup hx hb dX1_takeLoan_38 rfl ?_
    refine gw_get (v := .int (μ5 a0 10)) hC hW fl_X1_52.1 k0.1 (k0.2.1 (gfm s0) T B (μ5 a0)) rfl dX1_takeLoan_39 ?_
    refine lv_iconst (v := 1) hx hb dX1_takeLoan_42 (by decide) ?_
    refine lv_iadd hx hb dX1_takeLoan_43 ?_
    obtain ⟨μ12, e13, h⟩ := lt_out h
    refine gq_put hC hS hW hA fl_X1_52 k0.1 (k0.2.1 (gfm s0) T B) (Nat.le_of_ble_eq_true rfl) rfl rfl rfl e13 dX1_takeLoan_44 (fun H locs hW hS => ?_)
    cases h
    exact hend dX1_takeLoan_47 hW hS (Nat.le_of_ble_eq_true rfl) (Nat.le_of_ble_eq_true rfl)
  · replace h := ite_f c11 h
    refine lv_aload_n hx hb dX1_takeLoan_17 rfl (lv_at hl 0 rfl) ?_
    refine gw_get (v := .ref (B + (a0 + 5))) hC hW fl_X1_24 k0.1 (k0.2.1 (gfm s0) T B (μ5 a0)) rfl dX1_takeLoan_18 ?_
    refine lv_iload_n hx hb dX1_takeLoan_21 rfl (lv_at hl 2 rfl) ?_
    refine lv_aload_n hx hb dX1_takeLoan_22 rfl (lv_at hl 0 rfl) ?_
    refine gw_get (v := .ref (B + (a0 + 3))) hC hW fl_X1_18 k0.1 (k0.2.1 (gfm s0) T B (μ5 a0)) rfl dX1_takeLoan_23 ?_
    refine lv_iload_n hx hb dX1_takeLoan_26 rfl (lv_at hl 1 rfl) ?_
    obtain ⟨v14, e15, hi16, h⟩ := ag_o h
    refine gq_iald hC hW k0.2.2.2.2.1.1 (k0.2.2.2.2.1.2 (gfm s0) T B (μ5 (a0 + 3))) (t0 := 0) rfl e15 hi16 dX1_takeLoan_27 ?_
    refine lv_iconst (v := 1) hx hb dX1_takeLoan_28 (by decide) ?_
    refine lv_iadd hx hb dX1_takeLoan_29 ?_
    obtain ⟨μ17, e18, hi19, h⟩ := aw_o h
    refine gq_iast hC hS hW hA k0.2.2.2.2.2.2.1 (k0.2.2.2.2.2.2.2 (gfm s0) T B) (t0 := 0) rfl e18 hi19 dX1_takeLoan_30 (fun H locs hW hS => ?_)
    obtain ⟨v20, e21, h⟩ := lt_out h
    refine lv_iinc (v := v20) (lv' := [(2, .int v20), (0, .ref (B + a0)), (1, .int a1)]) hx hb dX1_takeLoan_31 hl (k := 2) rfl (by rw [e21]; rfl) (by decide) rfl (fun ls hl => ?_)
    refine lv_goto (tgt := 7) hx hb dX1_takeLoan_34 (by decide) ?_
    exact IH7 _ _ h _ _ _ hW hS (lv_sub hl [1, 2, 0] rfl)

theorem dX1_takeLoans_0 : decode cX1_takeLoans 0 = .ok (.iconst 0, 1) := by decide +kernel
theorem dX1_takeLoans_1 : decode cX1_takeLoans 1 = .ok (.istore_n 2, 1) := by decide +kernel
theorem dX1_takeLoans_2 : decode cX1_takeLoans 2 = .ok (.iload_n 2, 1) := by decide +kernel
theorem dX1_takeLoans_3 : decode cX1_takeLoans 3 = .ok (.aload_n 0, 1) := by decide +kernel
theorem dX1_takeLoans_4 : decode cX1_takeLoans 4 = .ok (.getfield 49, 3) := by decide +kernel
theorem dX1_takeLoans_7 : decode cX1_takeLoans 7 = .ok (.if_icmp .ge 22, 3) := by decide +kernel
theorem dX1_takeLoans_10 : decode cX1_takeLoans 10 = .ok (.iload_n 1, 1) := by decide +kernel
theorem dX1_takeLoans_11 : decode cX1_takeLoans 11 = .ok (.iload_n 2, 1) := by decide +kernel
theorem dX1_takeLoans_12 : decode cX1_takeLoans 12 = .ok (.invokestatic 65, 3) := by decide +kernel
theorem dX1_takeLoans_15 : decode cX1_takeLoans 15 = .ok (.ifCond .eq 8, 3) := by decide +kernel
theorem dX1_takeLoans_18 : decode cX1_takeLoans 18 = .ok (.aload_n 0, 1) := by decide +kernel
theorem dX1_takeLoans_19 : decode cX1_takeLoans 19 = .ok (.iload_n 2, 1) := by decide +kernel
theorem dX1_takeLoans_20 : decode cX1_takeLoans 20 = .ok (.invokevirtual 69, 3) := by decide +kernel
theorem dX1_takeLoans_23 : decode cX1_takeLoans 23 = .ok (.iinc 2 1, 3) := by decide +kernel
theorem dX1_takeLoans_26 : decode cX1_takeLoans 26 = .ok (.goto (-24), 3) := by decide +kernel
theorem dX1_takeLoans_29 : decode cX1_takeLoans 29 = .ok (.aload_n 0, 1) := by decide +kernel
theorem dX1_takeLoans_30 : decode cX1_takeLoans 30 = .ok (.iconst 0, 1) := by decide +kernel
theorem dX1_takeLoans_31 : decode cX1_takeLoans 31 = .ok (.putfield 49, 3) := by decide +kernel
theorem dX1_takeLoans_34 : decode cX1_takeLoans 34 = .ok (.return_, 1) := by decide +kernel
abbrev rmX1_takeLoans : Room := { frames := 3, cells := 0, slots := 0, locals := 82 }
set_option maxHeartbeats 4000000 in
set_option maxRecDepth 100000 in
theorem metX1_takeLoans {l : Launch} {s0 : State} {b B : Nat} {D : va_G} {T : Nat → ClassId} (F : FX l s0 b D T B) {X : Nat → Prop} (hX : ∀ o, o < 560 → ¬ X (B + o)) {N : Nat} {μ : Mem} {a0 : Nat} {a1 : Int32} {r : Mem} (k0 : IsEx a0) (h : fX1_takeLoans N μ a0 a1 = some r) : gMet l yX1_takeLoans cX1_takeLoans 3 none rmX1_takeLoans [.ref (B + a0), .int a1] (gWC s0 D T B μ) (KC s0 X) none (gWC s0 D T B r) (gA B X) 0 0 := by
  refine gV_of RX1 (by decide +kernel) rfl (Nat.le_of_ble_eq_true rfl) ?_
  intro p e s m args below meth c ls Q hx hb hlocks hml hown hts hW hk hl hS hend
  have hC := FX_C F hk hx hb hown hts
  have hA := gA_all hX
  have hl : lv_has ls 3 [(0, .ref (B + a0)), (1, .int a1)] := hl
  unfold fX1_takeLoans at h
  refine lv_iconst (v := 0) hx hb dX1_takeLoans_0 (by decide) ?_
  refine lv_istore_n (lv' := [(2, .int 0), (0, .ref (B + a0)), (1, .int a1)]) hx hb dX1_takeLoans_1 rfl hl (by decide) rfl (fun ls hl => ?_)
  refine fix2_ind (fun (x1 : Int32) (μ2 : Mem) => ∀ (H : Heap) (locs : List Loc) (ls : Array Slot), gWC s0 D T B μ2 H → va_S (gA B X) s.heap H locs → lv_has ls 3 [(0, .ref (B + a0)), (1, .int a1), (2, .int x1)] → W p l e rmX1_takeLoans s m args below meth c H locs 0 0 Q (F0 m 2 ls [])) ?_ N _ _ h _ _ _ hW hS (lv_sub hl [1, 2, 0] rfl)
  clear h hW hS hl
  intro self3 IH4 x1 μ2 h H locs ls hW hS hl
  refine lv_iload_n hx hb dX1_takeLoans_2 rfl (lv_at hl 2 rfl) ?_
  refine lv_aload_n hx hb dX1_takeLoans_3 rfl (lv_at hl 0 rfl) ?_
  refine gw_get (v := .int (μ2 a0 6)) hC hW fl_X1_49.1 k0.1 (k0.2.1 (gfm s0) T B (μ2 a0)) rfl dX1_takeLoans_4 ?_
  refine lv_icmp_ge (tgt := 29) hx hb dX1_takeLoans_7 (by decide) (fun c5 => ?_) (fun c5 => ?_)
  · replace h := ite_t c5 h
    refine lv_aload_n hx hb dX1_takeLoans_29 rfl (lv_at hl 0 rfl) ?_
    refine lv_iconst (v := 0) hx hb dX1_takeLoans_30 (by decide) ?_
    obtain ⟨μ6, e7, h⟩ := lt_out h
    refine gq_put hC hS hW hA fl_X1_49 k0.1 (k0.2.1 (gfm s0) T B) (Nat.le_of_ble_eq_true rfl) rfl rfl rfl e7 dX1_takeLoans_31 (fun H locs hW hS => ?_)
    cases h
    exact hend dX1_takeLoans_34 hW hS (Nat.le_of_ble_eq_true rfl) (Nat.le_of_ble_eq_true rfl)
  · replace h := ite_f c5 h
    refine lv_iload_n hx hb dX1_takeLoans_10 rfl (lv_at hl 1 rfl) ?_
    refine lv_iload_n hx hb dX1_takeLoans_11 rfl (lv_at hl 2 rfl) ?_
    obtain ⟨r8, hcall, h⟩ := bd_out h
    refine g0_callS (As := [.int a1, .int x1]) hC hml hS hW (KC_at hk hS F.2.2.2.2) KC_blind (metX1_contains F hX  hcall) ml_X1_65 ⟨rfl, rfl, (Nat.le_of_ble_eq_true rfl), (Nat.le_of_ble_eq_true rfl)⟩ rfl hl.1 rfl (Nat.le_of_ble_eq_true rfl) dX1_takeLoans_12 ⟨(Nat.le_of_ble_eq_true rfl), (Nat.le_of_ble_eq_true rfl)⟩ (fun H locs hW hS => ?_)
    obtain ⟨j10, hj12, h⟩ := jn1_o h
    have J11 : ∀ (μ9 : Mem), j10 μ9 = some r → ∀ (H : Heap) (locs : List Loc) (ls : Array Slot), gWC s0 D T B μ9 H → va_S (gA B X) s.heap H locs → lv_has ls 3 [(0, .ref (B + a0)), (1, .int a1), (2, .int x1)] → W p l e rmX1_takeLoans s m args below meth c H locs 0 0 Q (F0 m 23 ls []) := by
      clear h hW hS hl
      intro μ9 h H locs ls hW hS hl
      replace h := (hj12 μ9).symm.trans h
      obtain ⟨v13, e14, h⟩ := lt_out h
      refine lv_iinc (v := v13) (lv' := [(2, .int v13), (0, .ref (B + a0)), (1, .int a1)]) hx hb dX1_takeLoans_23 hl (k := 2) rfl (by rw [e14]; rfl) (by decide) rfl (fun ls hl => ?_)
      refine lv_goto (tgt := 2) hx hb dX1_takeLoans_26 (by decide) ?_
      exact IH4 _ _ h _ _ _ hW hS (lv_sub hl [1, 2, 0] rfl)
    refine gw_if_eqZ (tgt := 23) hx hb dX1_takeLoans_15 (by decide) (fun c15 => ?_) (fun c15 => ?_)
    · replace h := cond_f c15 h
      exact J11 _ h _ _ _ hW hS (lv_sub hl [0, 1, 2] rfl)
    · replace h := cond_t c15 h
      refine lv_aload_n hx hb dX1_takeLoans_18 rfl (lv_at hl 0 rfl) ?_
      refine lv_iload_n hx hb dX1_takeLoans_19 rfl (lv_at hl 2 rfl) ?_
      obtain ⟨r16, hcall, h⟩ := bd_out h
      refine g0_callV (As := [.int x1]) hC hml hS hW (KC_at hk hS F.2.2.2.2) KC_blind (metX1_takeLoan F hX k0 hcall) ml_X1_69 (gw_recv hC hW k0.1 (k0.2.1 (gfm s0) T B (μ2 a0)) rfl) ⟨rfl, rfl, (Nat.le_of_ble_eq_true rfl), (Nat.le_of_ble_eq_true rfl)⟩ rfl hl.1 rfl (Nat.le_of_ble_eq_true rfl) dX1_takeLoans_20 ⟨(Nat.le_of_ble_eq_true rfl), (Nat.le_of_ble_eq_true rfl)⟩ (fun H locs hW hS => ?_)
      exact J11 _ h _ _ _ hW hS (lv_sub hl [0, 1, 2] rfl)

theorem dX1_isFree_0 : decode cX1_isFree 0 = .ok (.aload_n 0, 1) := by decide +kernel
theorem dX1_isFree_1 : decode cX1_isFree 1 = .ok (.getfield 15, 3) := by decide +kernel
theorem dX1_isFree_4 : decode cX1_isFree 4 = .ok (.iload_n 1, 1) := by decide +kernel
theorem dX1_isFree_5 : decode cX1_isFree 5 = .ok (.iaload, 1) := by decide +kernel
theorem dX1_isFree_6 : decode cX1_isFree 6 = .ok (.istore_n 2, 1) := by decide +kernel
theorem dX1_isFree_7 : decode cX1_isFree 7 = .ok (.iload_n 2, 1) := by decide +kernel
theorem dX1_isFree_8 : decode cX1_isFree 8 = .ok (.aload_n 0, 1) := by decide +kernel
theorem dX1_isFree_9 : decode cX1_isFree 9 = .ok (.getfield 18, 3) := by decide +kernel
theorem dX1_isFree_12 : decode cX1_isFree 12 = .ok (.iload_n 1, 1) := by decide +kernel
theorem dX1_isFree_13 : decode cX1_isFree 13 = .ok (.iaload, 1) := by decide +kernel
theorem dX1_isFree_14 : decode cX1_isFree 14 = .ok (.if_icmp .gt 20, 3) := by decide +kernel
theorem dX1_isFree_17 : decode cX1_isFree 17 = .ok (.aload_n 0, 1) := by decide +kernel
theorem dX1_isFree_18 : decode cX1_isFree 18 = .ok (.getfield 24, 3) := by decide +kernel
theorem dX1_isFree_21 : decode cX1_isFree 21 = .ok (.iload_n 2, 1) := by decide +kernel
theorem dX1_isFree_22 : decode cX1_isFree 22 = .ok (.iaload, 1) := by decide +kernel
theorem dX1_isFree_23 : decode cX1_isFree 23 = .ok (.ifCond .eq 5, 3) := by decide +kernel
theorem dX1_isFree_26 : decode cX1_isFree 26 = .ok (.iconst 0, 1) := by decide +kernel
theorem dX1_isFree_27 : decode cX1_isFree 27 = .ok (.ireturn, 1) := by decide +kernel
theorem dX1_isFree_28 : decode cX1_isFree 28 = .ok (.iinc 2 1, 3) := by decide +kernel
theorem dX1_isFree_31 : decode cX1_isFree 31 = .ok (.goto (-24), 3) := by decide +kernel
theorem dX1_isFree_34 : decode cX1_isFree 34 = .ok (.iconst 1, 1) := by decide +kernel
theorem dX1_isFree_35 : decode cX1_isFree 35 = .ok (.ireturn, 1) := by decide +kernel
abbrev rmX1_isFree : Room := { frames := 2, cells := 0, slots := 0, locals := 60 }
set_option maxHeartbeats 4000000 in
set_option maxRecDepth 100000 in
theorem metX1_isFree {l : Launch} {s0 : State} {b B : Nat} {D : va_G} {T : Nat → ClassId} (F : FX l s0 b D T B) {X : Nat → Prop} (hX : ∀ o, o < 560 → ¬ X (B + o)) {N : Nat} {μ : Mem} {a0 : Nat} {a1 : Int32} {r : Bool} (k0 : IsEx a0) (h : fX1_isFree N μ a0 a1 = some r) : gMet l yX1_isFree cX1_isFree 3 (some .boolean) rmX1_isFree [.ref (B + a0), .int a1] (gWC s0 D T B μ) (KC s0 X) (some (.int (b2i r))) (gWC s0 D T B μ) (gA B X) 0 0 := by
  refine gZ_of RX1 (by decide +kernel) rfl (Nat.le_of_ble_eq_true rfl) ?_
  intro p e s m args below meth c ls Q hx hb hlocks hml hown hts hW hk hl hS hend
  have hC := FX_C F hk hx hb hown hts
  have hA := gA_all hX
  have hl : lv_has ls 3 [(0, .ref (B + a0)), (1, .int a1)] := hl
  unfold fX1_isFree at h
  refine lv_aload_n hx hb dX1_isFree_0 rfl (lv_at hl 0 rfl) ?_
  refine gw_get (v := .ref (B + (a0 + 2))) hC hW fl_X1_15 k0.1 (k0.2.1 (gfm s0) T B (μ a0)) rfl dX1_isFree_1 ?_
  refine lv_iload_n hx hb dX1_isFree_4 rfl (lv_at hl 1 rfl) ?_
  obtain ⟨v1, e2, hi3, h⟩ := ag_o h
  refine gq_iald hC hW k0.2.2.2.1.1 (k0.2.2.2.1.2 (gfm s0) T B (μ (a0 + 2))) (t0 := 0) rfl e2 hi3 dX1_isFree_5 ?_
  refine lv_istore_n (lv' := [(2, .int v1), (0, .ref (B + a0)), (1, .int a1)]) hx hb dX1_isFree_6 rfl hl (by decide) rfl (fun ls hl => ?_)
  refine fix1_ind (fun (x4 : Int32) => ∀ (H : Heap) (locs : List Loc) (ls : Array Slot), gWC s0 D T B μ H → va_S (gA B X) s.heap H locs → lv_has ls 3 [(0, .ref (B + a0)), (1, .int a1), (2, .int x4)] → W p l e rmX1_isFree s m args below meth c H locs 0 0 Q (F0 m 7 ls [])) ?_ N _ h _ _ _ hW hS (lv_sub hl [1, 2, 0] rfl)
  clear h hW hS hl
  intro self5 IH6 x4 h H locs ls hW hS hl
  refine lv_iload_n hx hb dX1_isFree_7 rfl (lv_at hl 2 rfl) ?_
  refine lv_aload_n hx hb dX1_isFree_8 rfl (lv_at hl 0 rfl) ?_
  refine gw_get (v := .ref (B + (a0 + 3))) hC hW fl_X1_18 k0.1 (k0.2.1 (gfm s0) T B (μ a0)) rfl dX1_isFree_9 ?_
  refine lv_iload_n hx hb dX1_isFree_12 rfl (lv_at hl 1 rfl) ?_
  obtain ⟨v7, e8, hi9, h⟩ := ag_o h
  refine gq_iald hC hW k0.2.2.2.2.1.1 (k0.2.2.2.2.1.2 (gfm s0) T B (μ (a0 + 3))) (t0 := 0) rfl e8 hi9 dX1_isFree_13 ?_
  refine lv_icmp_gt (tgt := 34) hx hb dX1_isFree_14 (by decide) (fun c10 => ?_) (fun c10 => ?_)
  · replace h := ite_t c10 h
    refine lv_iconst (v := 1) hx hb dX1_isFree_34 (by decide) ?_
    cases h
    exact hend dX1_isFree_35 hW hS (Nat.le_of_ble_eq_true rfl) (Nat.le_of_ble_eq_true rfl)
  · replace h := ite_f c10 h
    refine lv_aload_n hx hb dX1_isFree_17 rfl (lv_at hl 0 rfl) ?_
    refine gw_get (v := .ref (B + (a0 + 5))) hC hW fl_X1_24 k0.1 (k0.2.1 (gfm s0) T B (μ a0)) rfl dX1_isFree_18 ?_
    refine lv_iload_n hx hb dX1_isFree_21 rfl (lv_at hl 2 rfl) ?_
    obtain ⟨v11, e12, hi13, h⟩ := ag_o h
    refine gq_iald hC hW k0.2.2.2.2.2.2.1 (k0.2.2.2.2.2.2.2 (gfm s0) T B (μ (a0 + 5))) (t0 := 0) rfl e12 hi13 dX1_isFree_22 ?_
    refine lv_if_eq (tgt := 28) hx hb dX1_isFree_23 (by decide) (fun c14 => ?_) (fun c14 => ?_)
    · replace h := ite_t c14 h
      obtain ⟨v15, e16, h⟩ := lt_out h
      refine lv_iinc (v := v15) (lv' := [(2, .int v15), (0, .ref (B + a0)), (1, .int a1)]) hx hb dX1_isFree_28 hl (k := 2) rfl (by rw [e16]; rfl) (by decide) rfl (fun ls hl => ?_)
      refine lv_goto (tgt := 7) hx hb dX1_isFree_31 (by decide) ?_
      exact IH6 _ h _ _ _ hW hS (lv_sub hl [1, 2, 0] rfl)
    · replace h := ite_f c14 h
      refine lv_iconst (v := 0) hx hb dX1_isFree_26 (by decide) ?_
      cases h
      exact hend dX1_isFree_27 hW hS (Nat.le_of_ble_eq_true rfl) (Nat.le_of_ble_eq_true rfl)

theorem dX1_hinderedLoans_0 : decode cX1_hinderedLoans 0 = .ok (.iconst 0, 1) := by decide +kernel
theorem dX1_hinderedLoans_1 : decode cX1_hinderedLoans 1 = .ok (.istore_n 1, 1) := by decide +kernel
theorem dX1_hinderedLoans_2 : decode cX1_hinderedLoans 2 = .ok (.iconst 0, 1) := by decide +kernel
theorem dX1_hinderedLoans_3 : decode cX1_hinderedLoans 3 = .ok (.istore_n 2, 1) := by decide +kernel
theorem dX1_hinderedLoans_4 : decode cX1_hinderedLoans 4 = .ok (.iload_n 2, 1) := by decide +kernel
theorem dX1_hinderedLoans_5 : decode cX1_hinderedLoans 5 = .ok (.aload_n 0, 1) := by decide +kernel
theorem dX1_hinderedLoans_6 : decode cX1_hinderedLoans 6 = .ok (.getfield 49, 3) := by decide +kernel
theorem dX1_hinderedLoans_9 : decode cX1_hinderedLoans 9 = .ok (.if_icmp .ge 23, 3) := by decide +kernel
theorem dX1_hinderedLoans_12 : decode cX1_hinderedLoans 12 = .ok (.aload_n 0, 1) := by decide +kernel
theorem dX1_hinderedLoans_13 : decode cX1_hinderedLoans 13 = .ok (.iload_n 2, 1) := by decide +kernel
theorem dX1_hinderedLoans_14 : decode cX1_hinderedLoans 14 = .ok (.invokevirtual 84, 3) := by decide +kernel
theorem dX1_hinderedLoans_17 : decode cX1_hinderedLoans 17 = .ok (.ifCond .ne 9, 3) := by decide +kernel
theorem dX1_hinderedLoans_20 : decode cX1_hinderedLoans 20 = .ok (.iload_n 1, 1) := by decide +kernel
theorem dX1_hinderedLoans_21 : decode cX1_hinderedLoans 21 = .ok (.iconst 1, 1) := by decide +kernel
theorem dX1_hinderedLoans_22 : decode cX1_hinderedLoans 22 = .ok (.iload_n 2, 1) := by decide +kernel
theorem dX1_hinderedLoans_23 : decode cX1_hinderedLoans 23 = .ok (.ishl, 1) := by decide +kernel
theorem dX1_hinderedLoans_24 : decode cX1_hinderedLoans 24 = .ok (.ior, 1) := by decide +kernel
theorem dX1_hinderedLoans_25 : decode cX1_hinderedLoans 25 = .ok (.istore_n 1, 1) := by decide +kernel
theorem dX1_hinderedLoans_26 : decode cX1_hinderedLoans 26 = .ok (.iinc 2 1, 3) := by decide +kernel
theorem dX1_hinderedLoans_29 : decode cX1_hinderedLoans 29 = .ok (.goto (-25), 3) := by decide +kernel
theorem dX1_hinderedLoans_32 : decode cX1_hinderedLoans 32 = .ok (.iload_n 1, 1) := by decide +kernel
theorem dX1_hinderedLoans_33 : decode cX1_hinderedLoans 33 = .ok (.ireturn, 1) := by decide +kernel
abbrev rmX1_hinderedLoans : Room := { frames := 3, cells := 0, slots := 0, locals := 82 }
set_option maxHeartbeats 4000000 in
set_option maxRecDepth 100000 in
theorem metX1_hinderedLoans {l : Launch} {s0 : State} {b B : Nat} {D : va_G} {T : Nat → ClassId} (F : FX l s0 b D T B) {X : Nat → Prop} (hX : ∀ o, o < 560 → ¬ X (B + o)) {N : Nat} {μ : Mem} {a0 : Nat} {r : Int32} (k0 : IsEx a0) (h : fX1_hinderedLoans N μ a0 = some r) : gMet l yX1_hinderedLoans cX1_hinderedLoans 3 (some .int) rmX1_hinderedLoans [.ref (B + a0)] (gWC s0 D T B μ) (KC s0 X) (some (.int r)) (gWC s0 D T B μ) (gA B X) 0 0 := by
  refine gI_of RX1 (by decide +kernel) rfl (Nat.le_of_ble_eq_true rfl) ?_
  intro p e s m args below meth c ls Q hx hb hlocks hml hown hts hW hk hl hS hend
  have hC := FX_C F hk hx hb hown hts
  have hA := gA_all hX
  have hl : lv_has ls 3 [(0, .ref (B + a0))] := hl
  unfold fX1_hinderedLoans at h
  refine lv_iconst (v := 0) hx hb dX1_hinderedLoans_0 (by decide) ?_
  refine lv_istore_n (lv' := [(1, .int 0), (0, .ref (B + a0))]) hx hb dX1_hinderedLoans_1 rfl hl (by decide) rfl (fun ls hl => ?_)
  refine lv_iconst (v := 0) hx hb dX1_hinderedLoans_2 (by decide) ?_
  refine lv_istore_n (lv' := [(2, .int 0), (1, .int 0), (0, .ref (B + a0))]) hx hb dX1_hinderedLoans_3 rfl hl (by decide) rfl (fun ls hl => ?_)
  refine fix2_ind (fun (x1 : Int32) (x2 : Int32) => ∀ (H : Heap) (locs : List Loc) (ls : Array Slot), gWC s0 D T B μ H → va_S (gA B X) s.heap H locs → lv_has ls 3 [(0, .ref (B + a0)), (1, .int x1), (2, .int x2)] → W p l e rmX1_hinderedLoans s m args below meth c H locs 0 0 Q (F0 m 4 ls [])) ?_ N _ _ h _ _ _ hW hS (lv_sub hl [2, 1, 0] rfl)
  clear h hW hS hl
  intro self3 IH4 x1 x2 h H locs ls hW hS hl
  refine lv_iload_n hx hb dX1_hinderedLoans_4 rfl (lv_at hl 2 rfl) ?_
  refine lv_aload_n hx hb dX1_hinderedLoans_5 rfl (lv_at hl 0 rfl) ?_
  refine gw_get (v := .int (μ a0 6)) hC hW fl_X1_49.1 k0.1 (k0.2.1 (gfm s0) T B (μ a0)) rfl dX1_hinderedLoans_6 ?_
  refine lv_icmp_ge (tgt := 32) hx hb dX1_hinderedLoans_9 (by decide) (fun c5 => ?_) (fun c5 => ?_)
  · replace h := ite_t c5 h
    refine lv_iload_n hx hb dX1_hinderedLoans_32 rfl (lv_at hl 1 rfl) ?_
    cases h
    exact hend dX1_hinderedLoans_33 hW hS (Nat.le_of_ble_eq_true rfl) (Nat.le_of_ble_eq_true rfl)
  · replace h := ite_f c5 h
    refine lv_aload_n hx hb dX1_hinderedLoans_12 rfl (lv_at hl 0 rfl) ?_
    refine lv_iload_n hx hb dX1_hinderedLoans_13 rfl (lv_at hl 2 rfl) ?_
    obtain ⟨r6, hcall, h⟩ := bd_out h
    refine g0_callV (As := [.int x2]) hC hml hS hW (KC_at hk hS F.2.2.2.2) KC_blind (metX1_isFree F hX k0 hcall) ml_X1_84 (gw_recv hC hW k0.1 (k0.2.1 (gfm s0) T B (μ a0)) rfl) ⟨rfl, rfl, (Nat.le_of_ble_eq_true rfl), (Nat.le_of_ble_eq_true rfl)⟩ rfl hl.1 rfl (Nat.le_of_ble_eq_true rfl) dX1_hinderedLoans_14 ⟨(Nat.le_of_ble_eq_true rfl), (Nat.le_of_ble_eq_true rfl)⟩ (fun H locs hW hS => ?_)
    obtain ⟨j8, hj10, h⟩ := jn1_o h
    have J9 : ∀ (y7 : Int32), j8 y7 = some r → ∀ (H : Heap) (locs : List Loc) (ls : Array Slot), gWC s0 D T B μ H → va_S (gA B X) s.heap H locs → lv_has ls 3 [(0, .ref (B + a0)), (1, .int y7), (2, .int x2)] → W p l e rmX1_hinderedLoans s m args below meth c H locs 0 0 Q (F0 m 26 ls []) := by
      clear h hW hS hl
      intro y7 h H locs ls hW hS hl
      replace h := (hj10 y7).symm.trans h
      obtain ⟨v11, e12, h⟩ := lt_out h
      refine lv_iinc (v := v11) (lv' := [(2, .int v11), (0, .ref (B + a0)), (1, .int y7)]) hx hb dX1_hinderedLoans_26 hl (k := 2) rfl (by rw [e12]; rfl) (by decide) rfl (fun ls hl => ?_)
      refine lv_goto (tgt := 4) hx hb dX1_hinderedLoans_29 (by decide) ?_
      exact IH4 _ _ h _ _ _ hW hS (lv_sub hl [1, 2, 0] rfl)
    refine gw_if_neZ (tgt := 26) hx hb dX1_hinderedLoans_17 (by decide) (fun c13 => ?_) (fun c13 => ?_)
    · replace h := cond_t c13 h
      exact J9 _ h _ _ _ hW hS (lv_sub hl [0, 1, 2] rfl)
    · replace h := cond_f c13 h
      refine lv_iload_n hx hb dX1_hinderedLoans_20 rfl (lv_at hl 1 rfl) ?_
      refine lv_iconst (v := 1) hx hb dX1_hinderedLoans_21 (by decide) ?_
      refine lv_iload_n hx hb dX1_hinderedLoans_22 rfl (lv_at hl 2 rfl) ?_
      refine lv_ishl hx hb dX1_hinderedLoans_23 ?_
      refine lv_ior hx hb dX1_hinderedLoans_24 ?_
      obtain ⟨v14, e15, h⟩ := lt_out h
      rw [← e15]
      refine lv_istore_n (lv' := [(1, .int v14), (0, .ref (B + a0)), (2, .int x2)]) hx hb dX1_hinderedLoans_25 rfl hl (by decide) rfl (fun ls hl => ?_)
      exact J9 _ h _ _ _ hW hS (lv_sub hl [1, 0, 2] rfl)

theorem dX1_feesOf_0 : decode cX1_feesOf 0 = .ok (.iconst 0, 1) := by decide +kernel
theorem dX1_feesOf_1 : decode cX1_feesOf 1 = .ok (.istore_n 2, 1) := by decide +kernel
theorem dX1_feesOf_2 : decode cX1_feesOf 2 = .ok (.iconst 0, 1) := by decide +kernel
theorem dX1_feesOf_3 : decode cX1_feesOf 3 = .ok (.istore_n 3, 1) := by decide +kernel
theorem dX1_feesOf_4 : decode cX1_feesOf 4 = .ok (.iload_n 3, 1) := by decide +kernel
theorem dX1_feesOf_5 : decode cX1_feesOf 5 = .ok (.aload_n 0, 1) := by decide +kernel
theorem dX1_feesOf_6 : decode cX1_feesOf 6 = .ok (.getfield 49, 3) := by decide +kernel
theorem dX1_feesOf_9 : decode cX1_feesOf 9 = .ok (.if_icmp .ge 26, 3) := by decide +kernel
theorem dX1_feesOf_12 : decode cX1_feesOf 12 = .ok (.iload_n 1, 1) := by decide +kernel
theorem dX1_feesOf_13 : decode cX1_feesOf 13 = .ok (.iload_n 3, 1) := by decide +kernel
theorem dX1_feesOf_14 : decode cX1_feesOf 14 = .ok (.invokestatic 65, 3) := by decide +kernel
theorem dX1_feesOf_17 : decode cX1_feesOf 17 = .ok (.ifCond .eq 12, 3) := by decide +kernel
theorem dX1_feesOf_20 : decode cX1_feesOf 20 = .ok (.iload_n 2, 1) := by decide +kernel
theorem dX1_feesOf_21 : decode cX1_feesOf 21 = .ok (.aload_n 0, 1) := by decide +kernel
theorem dX1_feesOf_22 : decode cX1_feesOf 22 = .ok (.getfield 21, 3) := by decide +kernel
theorem dX1_feesOf_25 : decode cX1_feesOf 25 = .ok (.iload_n 3, 1) := by decide +kernel
theorem dX1_feesOf_26 : decode cX1_feesOf 26 = .ok (.iaload, 1) := by decide +kernel
theorem dX1_feesOf_27 : decode cX1_feesOf 27 = .ok (.iadd, 1) := by decide +kernel
theorem dX1_feesOf_28 : decode cX1_feesOf 28 = .ok (.istore_n 2, 1) := by decide +kernel
theorem dX1_feesOf_29 : decode cX1_feesOf 29 = .ok (.iinc 3 1, 3) := by decide +kernel
theorem dX1_feesOf_32 : decode cX1_feesOf 32 = .ok (.goto (-28), 3) := by decide +kernel
theorem dX1_feesOf_35 : decode cX1_feesOf 35 = .ok (.iload_n 2, 1) := by decide +kernel
theorem dX1_feesOf_36 : decode cX1_feesOf 36 = .ok (.ireturn, 1) := by decide +kernel
abbrev rmX1_feesOf : Room := { frames := 3, cells := 0, slots := 0, locals := 81 }
set_option maxHeartbeats 4000000 in
set_option maxRecDepth 100000 in
theorem metX1_feesOf {l : Launch} {s0 : State} {b B : Nat} {D : va_G} {T : Nat → ClassId} (F : FX l s0 b D T B) {X : Nat → Prop} (hX : ∀ o, o < 560 → ¬ X (B + o)) {N : Nat} {μ : Mem} {a0 : Nat} {a1 : Int32} {r : Int32} (k0 : IsEx a0) (h : fX1_feesOf N μ a0 a1 = some r) : gMet l yX1_feesOf cX1_feesOf 4 (some .int) rmX1_feesOf [.ref (B + a0), .int a1] (gWC s0 D T B μ) (KC s0 X) (some (.int r)) (gWC s0 D T B μ) (gA B X) 0 0 := by
  refine gI_of RX1 (by decide +kernel) rfl (Nat.le_of_ble_eq_true rfl) ?_
  intro p e s m args below meth c ls Q hx hb hlocks hml hown hts hW hk hl hS hend
  have hC := FX_C F hk hx hb hown hts
  have hA := gA_all hX
  have hl : lv_has ls 4 [(0, .ref (B + a0)), (1, .int a1)] := hl
  unfold fX1_feesOf at h
  refine lv_iconst (v := 0) hx hb dX1_feesOf_0 (by decide) ?_
  refine lv_istore_n (lv' := [(2, .int 0), (0, .ref (B + a0)), (1, .int a1)]) hx hb dX1_feesOf_1 rfl hl (by decide) rfl (fun ls hl => ?_)
  refine lv_iconst (v := 0) hx hb dX1_feesOf_2 (by decide) ?_
  refine lv_istore_n (lv' := [(3, .int 0), (2, .int 0), (0, .ref (B + a0)), (1, .int a1)]) hx hb dX1_feesOf_3 rfl hl (by decide) rfl (fun ls hl => ?_)
  refine fix2_ind (fun (x1 : Int32) (x2 : Int32) => ∀ (H : Heap) (locs : List Loc) (ls : Array Slot), gWC s0 D T B μ H → va_S (gA B X) s.heap H locs → lv_has ls 4 [(0, .ref (B + a0)), (1, .int a1), (2, .int x1), (3, .int x2)] → W p l e rmX1_feesOf s m args below meth c H locs 0 0 Q (F0 m 4 ls [])) ?_ N _ _ h _ _ _ hW hS (lv_sub hl [2, 3, 1, 0] rfl)
  clear h hW hS hl
  intro self3 IH4 x1 x2 h H locs ls hW hS hl
  refine lv_iload_n hx hb dX1_feesOf_4 rfl (lv_at hl 3 rfl) ?_
  refine lv_aload_n hx hb dX1_feesOf_5 rfl (lv_at hl 0 rfl) ?_
  refine gw_get (v := .int (μ a0 6)) hC hW fl_X1_49.1 k0.1 (k0.2.1 (gfm s0) T B (μ a0)) rfl dX1_feesOf_6 ?_
  refine lv_icmp_ge (tgt := 35) hx hb dX1_feesOf_9 (by decide) (fun c5 => ?_) (fun c5 => ?_)
  · replace h := ite_t c5 h
    refine lv_iload_n hx hb dX1_feesOf_35 rfl (lv_at hl 2 rfl) ?_
    cases h
    exact hend dX1_feesOf_36 hW hS (Nat.le_of_ble_eq_true rfl) (Nat.le_of_ble_eq_true rfl)
  · replace h := ite_f c5 h
    refine lv_iload_n hx hb dX1_feesOf_12 rfl (lv_at hl 1 rfl) ?_
    refine lv_iload_n hx hb dX1_feesOf_13 rfl (lv_at hl 3 rfl) ?_
    obtain ⟨r6, hcall, h⟩ := bd_out h
    refine g0_callS (As := [.int a1, .int x2]) hC hml hS hW (KC_at hk hS F.2.2.2.2) KC_blind (metX1_contains F hX  hcall) ml_X1_65 ⟨rfl, rfl, (Nat.le_of_ble_eq_true rfl), (Nat.le_of_ble_eq_true rfl)⟩ rfl hl.1 rfl (Nat.le_of_ble_eq_true rfl) dX1_feesOf_14 ⟨(Nat.le_of_ble_eq_true rfl), (Nat.le_of_ble_eq_true rfl)⟩ (fun H locs hW hS => ?_)
    obtain ⟨j8, hj10, h⟩ := jn1_o h
    have J9 : ∀ (y7 : Int32), j8 y7 = some r → ∀ (H : Heap) (locs : List Loc) (ls : Array Slot), gWC s0 D T B μ H → va_S (gA B X) s.heap H locs → lv_has ls 4 [(0, .ref (B + a0)), (1, .int a1), (2, .int y7), (3, .int x2)] → W p l e rmX1_feesOf s m args below meth c H locs 0 0 Q (F0 m 29 ls []) := by
      clear h hW hS hl
      intro y7 h H locs ls hW hS hl
      replace h := (hj10 y7).symm.trans h
      obtain ⟨v11, e12, h⟩ := lt_out h
      refine lv_iinc (v := v11) (lv' := [(3, .int v11), (0, .ref (B + a0)), (1, .int a1), (2, .int y7)]) hx hb dX1_feesOf_29 hl (k := 3) rfl (by rw [e12]; rfl) (by decide) rfl (fun ls hl => ?_)
      refine lv_goto (tgt := 4) hx hb dX1_feesOf_32 (by decide) ?_
      exact IH4 _ _ h _ _ _ hW hS (lv_sub hl [1, 2, 3, 0] rfl)
    refine gw_if_eqZ (tgt := 29) hx hb dX1_feesOf_17 (by decide) (fun c13 => ?_) (fun c13 => ?_)
    · replace h := cond_f c13 h
      exact J9 _ h _ _ _ hW hS (lv_sub hl [0, 1, 2, 3] rfl)
    · replace h := cond_t c13 h
      refine lv_iload_n hx hb dX1_feesOf_20 rfl (lv_at hl 2 rfl) ?_
      refine lv_aload_n hx hb dX1_feesOf_21 rfl (lv_at hl 0 rfl) ?_
      refine gw_get (v := .ref (B + (a0 + 4))) hC hW fl_X1_21 k0.1 (k0.2.1 (gfm s0) T B (μ a0)) rfl dX1_feesOf_22 ?_
      refine lv_iload_n hx hb dX1_feesOf_25 rfl (lv_at hl 3 rfl) ?_
      obtain ⟨v14, e15, hi16, h⟩ := ag_o h
      refine gq_iald hC hW k0.2.2.2.2.2.1.1 (k0.2.2.2.2.2.1.2 (gfm s0) T B (μ (a0 + 4))) (t0 := 0) rfl e15 hi16 dX1_feesOf_26 ?_
      refine lv_iadd hx hb dX1_feesOf_27 ?_
      obtain ⟨v17, e18, h⟩ := lt_out h
      rw [← e18]
      refine lv_istore_n (lv' := [(2, .int v17), (0, .ref (B + a0)), (1, .int a1), (3, .int x2)]) hx hb dX1_feesOf_28 rfl hl (by decide) rfl (fun ls hl => ?_)
      exact J9 _ h _ _ _ hW hS (lv_sub hl [1, 2, 0, 3] rfl)

theorem dX1_meetsEarlier_0 : decode cX1_meetsEarlier 0 = .ok (.iconst 0, 1) := by decide +kernel
theorem dX1_meetsEarlier_1 : decode cX1_meetsEarlier 1 = .ok (.istore_n 3, 1) := by decide +kernel
theorem dX1_meetsEarlier_2 : decode cX1_meetsEarlier 2 = .ok (.iload_n 3, 1) := by decide +kernel
theorem dX1_meetsEarlier_3 : decode cX1_meetsEarlier 3 = .ok (.iload_n 2, 1) := by decide +kernel
theorem dX1_meetsEarlier_4 : decode cX1_meetsEarlier 4 = .ok (.if_icmp .ge 49, 3) := by decide +kernel
theorem dX1_meetsEarlier_7 : decode cX1_meetsEarlier 7 = .ok (.iload_n 1, 1) := by decide +kernel
theorem dX1_meetsEarlier_8 : decode cX1_meetsEarlier 8 = .ok (.iload_n 3, 1) := by decide +kernel
theorem dX1_meetsEarlier_9 : decode cX1_meetsEarlier 9 = .ok (.invokestatic 65, 3) := by decide +kernel
theorem dX1_meetsEarlier_12 : decode cX1_meetsEarlier 12 = .ok (.ifCond .eq 35, 3) := by decide +kernel
theorem dX1_meetsEarlier_15 : decode cX1_meetsEarlier 15 = .ok (.aload_n 0, 1) := by decide +kernel
theorem dX1_meetsEarlier_16 : decode cX1_meetsEarlier 16 = .ok (.getfield 15, 3) := by decide +kernel
theorem dX1_meetsEarlier_19 : decode cX1_meetsEarlier 19 = .ok (.iload_n 3, 1) := by decide +kernel
theorem dX1_meetsEarlier_20 : decode cX1_meetsEarlier 20 = .ok (.iaload, 1) := by decide +kernel
theorem dX1_meetsEarlier_21 : decode cX1_meetsEarlier 21 = .ok (.aload_n 0, 1) := by decide +kernel
theorem dX1_meetsEarlier_22 : decode cX1_meetsEarlier 22 = .ok (.getfield 18, 3) := by decide +kernel
theorem dX1_meetsEarlier_25 : decode cX1_meetsEarlier 25 = .ok (.iload_n 2, 1) := by decide +kernel
theorem dX1_meetsEarlier_26 : decode cX1_meetsEarlier 26 = .ok (.iaload, 1) := by decide +kernel
theorem dX1_meetsEarlier_27 : decode cX1_meetsEarlier 27 = .ok (.if_icmp .gt 20, 3) := by decide +kernel
theorem dX1_meetsEarlier_30 : decode cX1_meetsEarlier 30 = .ok (.aload_n 0, 1) := by decide +kernel
theorem dX1_meetsEarlier_31 : decode cX1_meetsEarlier 31 = .ok (.getfield 15, 3) := by decide +kernel
theorem dX1_meetsEarlier_34 : decode cX1_meetsEarlier 34 = .ok (.iload_n 2, 1) := by decide +kernel
theorem dX1_meetsEarlier_35 : decode cX1_meetsEarlier 35 = .ok (.iaload, 1) := by decide +kernel
theorem dX1_meetsEarlier_36 : decode cX1_meetsEarlier 36 = .ok (.aload_n 0, 1) := by decide +kernel
theorem dX1_meetsEarlier_37 : decode cX1_meetsEarlier 37 = .ok (.getfield 18, 3) := by decide +kernel
theorem dX1_meetsEarlier_40 : decode cX1_meetsEarlier 40 = .ok (.iload_n 3, 1) := by decide +kernel
theorem dX1_meetsEarlier_41 : decode cX1_meetsEarlier 41 = .ok (.iaload, 1) := by decide +kernel
theorem dX1_meetsEarlier_42 : decode cX1_meetsEarlier 42 = .ok (.if_icmp .gt 5, 3) := by decide +kernel
theorem dX1_meetsEarlier_45 : decode cX1_meetsEarlier 45 = .ok (.iconst 1, 1) := by decide +kernel
theorem dX1_meetsEarlier_46 : decode cX1_meetsEarlier 46 = .ok (.ireturn, 1) := by decide +kernel
theorem dX1_meetsEarlier_47 : decode cX1_meetsEarlier 47 = .ok (.iinc 3 1, 3) := by decide +kernel
theorem dX1_meetsEarlier_50 : decode cX1_meetsEarlier 50 = .ok (.goto (-48), 3) := by decide +kernel
theorem dX1_meetsEarlier_53 : decode cX1_meetsEarlier 53 = .ok (.iconst 0, 1) := by decide +kernel
theorem dX1_meetsEarlier_54 : decode cX1_meetsEarlier 54 = .ok (.ireturn, 1) := by decide +kernel
abbrev rmX1_meetsEarlier : Room := { frames := 3, cells := 0, slots := 0, locals := 81 }
set_option maxHeartbeats 4000000 in
set_option maxRecDepth 100000 in
theorem metX1_meetsEarlier {l : Launch} {s0 : State} {b B : Nat} {D : va_G} {T : Nat → ClassId} (F : FX l s0 b D T B) {X : Nat → Prop} (hX : ∀ o, o < 560 → ¬ X (B + o)) {N : Nat} {μ : Mem} {a0 : Nat} {a1 : Int32} {a2 : Int32} {r : Bool} (k0 : IsEx a0) (h : fX1_meetsEarlier N μ a0 a1 a2 = some r) : gMet l yX1_meetsEarlier cX1_meetsEarlier 4 (some .boolean) rmX1_meetsEarlier [.ref (B + a0), .int a1, .int a2] (gWC s0 D T B μ) (KC s0 X) (some (.int (b2i r))) (gWC s0 D T B μ) (gA B X) 0 0 := by
  refine gZ_of RX1 (by decide +kernel) rfl (Nat.le_of_ble_eq_true rfl) ?_
  intro p e s m args below meth c ls Q hx hb hlocks hml hown hts hW hk hl hS hend
  have hC := FX_C F hk hx hb hown hts
  have hA := gA_all hX
  have hl : lv_has ls 4 [(0, .ref (B + a0)), (1, .int a1), (2, .int a2)] := hl
  unfold fX1_meetsEarlier at h
  refine lv_iconst (v := 0) hx hb dX1_meetsEarlier_0 (by decide) ?_
  refine lv_istore_n (lv' := [(3, .int 0), (0, .ref (B + a0)), (1, .int a1), (2, .int a2)]) hx hb dX1_meetsEarlier_1 rfl hl (by decide) rfl (fun ls hl => ?_)
  refine fix1_ind (fun (x1 : Int32) => ∀ (H : Heap) (locs : List Loc) (ls : Array Slot), gWC s0 D T B μ H → va_S (gA B X) s.heap H locs → lv_has ls 4 [(0, .ref (B + a0)), (1, .int a1), (2, .int a2), (3, .int x1)] → W p l e rmX1_meetsEarlier s m args below meth c H locs 0 0 Q (F0 m 2 ls [])) ?_ N _ h _ _ _ hW hS (lv_sub hl [1, 2, 3, 0] rfl)
  clear h hW hS hl
  intro self2 IH3 x1 h H locs ls hW hS hl
  refine lv_iload_n hx hb dX1_meetsEarlier_2 rfl (lv_at hl 3 rfl) ?_
  refine lv_iload_n hx hb dX1_meetsEarlier_3 rfl (lv_at hl 2 rfl) ?_
  refine lv_icmp_ge (tgt := 53) hx hb dX1_meetsEarlier_4 (by decide) (fun c4 => ?_) (fun c4 => ?_)
  · replace h := ite_t c4 h
    refine lv_iconst (v := 0) hx hb dX1_meetsEarlier_53 (by decide) ?_
    cases h
    exact hend dX1_meetsEarlier_54 hW hS (Nat.le_of_ble_eq_true rfl) (Nat.le_of_ble_eq_true rfl)
  · replace h := ite_f c4 h
    refine lv_iload_n hx hb dX1_meetsEarlier_7 rfl (lv_at hl 1 rfl) ?_
    refine lv_iload_n hx hb dX1_meetsEarlier_8 rfl (lv_at hl 3 rfl) ?_
    obtain ⟨r5, hcall, h⟩ := bd_out h
    refine g0_callS (As := [.int a1, .int x1]) hC hml hS hW (KC_at hk hS F.2.2.2.2) KC_blind (metX1_contains F hX  hcall) ml_X1_65 ⟨rfl, rfl, (Nat.le_of_ble_eq_true rfl), (Nat.le_of_ble_eq_true rfl)⟩ rfl hl.1 rfl (Nat.le_of_ble_eq_true rfl) dX1_meetsEarlier_9 ⟨(Nat.le_of_ble_eq_true rfl), (Nat.le_of_ble_eq_true rfl)⟩ (fun H locs hW hS => ?_)
    obtain ⟨j7, hj9, h⟩ := jn1_o h
    have J8 : ∀ (u6 : Unit), j7 u6 = some r → ∀ (H : Heap) (locs : List Loc) (ls : Array Slot), gWC s0 D T B μ H → va_S (gA B X) s.heap H locs → lv_has ls 4 [(0, .ref (B + a0)), (1, .int a1), (2, .int a2), (3, .int x1)] → W p l e rmX1_meetsEarlier s m args below meth c H locs 0 0 Q (F0 m 47 ls []) := by
      clear h hW hS hl
      intro u6 h H locs ls hW hS hl
      replace h := (hj9 u6).symm.trans h
      obtain ⟨v10, e11, h⟩ := lt_out h
      refine lv_iinc (v := v10) (lv' := [(3, .int v10), (0, .ref (B + a0)), (1, .int a1), (2, .int a2)]) hx hb dX1_meetsEarlier_47 hl (k := 3) rfl (by rw [e11]; rfl) (by decide) rfl (fun ls hl => ?_)
      refine lv_goto (tgt := 2) hx hb dX1_meetsEarlier_50 (by decide) ?_
      exact IH3 _ h _ _ _ hW hS (lv_sub hl [1, 2, 3, 0] rfl)
    refine gw_if_eqZ (tgt := 47) hx hb dX1_meetsEarlier_12 (by decide) (fun c12 => ?_) (fun c12 => ?_)
    · replace h := cond_f c12 h
      exact J8 _ h _ _ _ hW hS (lv_sub hl [0, 1, 2, 3] rfl)
    · replace h := cond_t c12 h
      refine lv_aload_n hx hb dX1_meetsEarlier_15 rfl (lv_at hl 0 rfl) ?_
      refine gw_get (v := .ref (B + (a0 + 2))) hC hW fl_X1_15 k0.1 (k0.2.1 (gfm s0) T B (μ a0)) rfl dX1_meetsEarlier_16 ?_
      refine lv_iload_n hx hb dX1_meetsEarlier_19 rfl (lv_at hl 3 rfl) ?_
      obtain ⟨v13, e14, hi15, h⟩ := ag_o h
      refine gq_iald hC hW k0.2.2.2.1.1 (k0.2.2.2.1.2 (gfm s0) T B (μ (a0 + 2))) (t0 := 0) rfl e14 hi15 dX1_meetsEarlier_20 ?_
      refine lv_aload_n hx hb dX1_meetsEarlier_21 rfl (lv_at hl 0 rfl) ?_
      refine gw_get (v := .ref (B + (a0 + 3))) hC hW fl_X1_18 k0.1 (k0.2.1 (gfm s0) T B (μ a0)) rfl dX1_meetsEarlier_22 ?_
      refine lv_iload_n hx hb dX1_meetsEarlier_25 rfl (lv_at hl 2 rfl) ?_
      obtain ⟨v16, e17, hi18, h⟩ := ag_o h
      refine gq_iald hC hW k0.2.2.2.2.1.1 (k0.2.2.2.2.1.2 (gfm s0) T B (μ (a0 + 3))) (t0 := 0) rfl e17 hi18 dX1_meetsEarlier_26 ?_
      refine lv_icmp_gt (tgt := 47) hx hb dX1_meetsEarlier_27 (by decide) (fun c19 => ?_) (fun c19 => ?_)
      · replace h := ite_t c19 h
        exact J8 _ h _ _ _ hW hS (lv_sub hl [0, 1, 2, 3] rfl)
      · replace h := ite_f c19 h
        refine lv_aload_n hx hb dX1_meetsEarlier_30 rfl (lv_at hl 0 rfl) ?_
        refine gw_get (v := .ref (B + (a0 + 2))) hC hW fl_X1_15 k0.1 (k0.2.1 (gfm s0) T B (μ a0)) rfl dX1_meetsEarlier_31 ?_
        refine lv_iload_n hx hb dX1_meetsEarlier_34 rfl (lv_at hl 2 rfl) ?_
        obtain ⟨v20, e21, hi22, h⟩ := ag_o h
        refine gq_iald hC hW k0.2.2.2.1.1 (k0.2.2.2.1.2 (gfm s0) T B (μ (a0 + 2))) (t0 := 0) rfl e21 hi22 dX1_meetsEarlier_35 ?_
        refine lv_aload_n hx hb dX1_meetsEarlier_36 rfl (lv_at hl 0 rfl) ?_
        refine gw_get (v := .ref (B + (a0 + 3))) hC hW fl_X1_18 k0.1 (k0.2.1 (gfm s0) T B (μ a0)) rfl dX1_meetsEarlier_37 ?_
        refine lv_iload_n hx hb dX1_meetsEarlier_40 rfl (lv_at hl 3 rfl) ?_
        obtain ⟨v23, e24, hi25, h⟩ := ag_o h
        refine gq_iald hC hW k0.2.2.2.2.1.1 (k0.2.2.2.2.1.2 (gfm s0) T B (μ (a0 + 3))) (t0 := 0) rfl e24 hi25 dX1_meetsEarlier_41 ?_
        refine lv_icmp_gt (tgt := 47) hx hb dX1_meetsEarlier_42 (by decide) (fun c26 => ?_) (fun c26 => ?_)
        · replace h := ite_t c26 h
          exact J8 _ h _ _ _ hW hS (lv_sub hl [0, 1, 2, 3] rfl)
        · replace h := ite_f c26 h
          refine lv_iconst (v := 1) hx hb dX1_meetsEarlier_45 (by decide) ?_
          cases h
          exact hend dX1_meetsEarlier_46 hW hS (Nat.le_of_ble_eq_true rfl) (Nat.le_of_ble_eq_true rfl)

theorem dX1_isApart_0 : decode cX1_isApart 0 = .ok (.iconst 0, 1) := by decide +kernel
theorem dX1_isApart_1 : decode cX1_isApart 1 = .ok (.istore_n 2, 1) := by decide +kernel
theorem dX1_isApart_2 : decode cX1_isApart 2 = .ok (.iload_n 2, 1) := by decide +kernel
theorem dX1_isApart_3 : decode cX1_isApart 3 = .ok (.aload_n 0, 1) := by decide +kernel
theorem dX1_isApart_4 : decode cX1_isApart 4 = .ok (.getfield 49, 3) := by decide +kernel
theorem dX1_isApart_7 : decode cX1_isApart 7 = .ok (.if_icmp .ge 28, 3) := by decide +kernel
theorem dX1_isApart_10 : decode cX1_isApart 10 = .ok (.iload_n 1, 1) := by decide +kernel
theorem dX1_isApart_11 : decode cX1_isApart 11 = .ok (.iload_n 2, 1) := by decide +kernel
theorem dX1_isApart_12 : decode cX1_isApart 12 = .ok (.invokestatic 65, 3) := by decide +kernel
theorem dX1_isApart_15 : decode cX1_isApart 15 = .ok (.ifCond .eq 14, 3) := by decide +kernel
theorem dX1_isApart_18 : decode cX1_isApart 18 = .ok (.aload_n 0, 1) := by decide +kernel
theorem dX1_isApart_19 : decode cX1_isApart 19 = .ok (.iload_n 1, 1) := by decide +kernel
theorem dX1_isApart_20 : decode cX1_isApart 20 = .ok (.iload_n 2, 1) := by decide +kernel
theorem dX1_isApart_21 : decode cX1_isApart 21 = .ok (.invokevirtual 96, 3) := by decide +kernel
theorem dX1_isApart_24 : decode cX1_isApart 24 = .ok (.ifCond .eq 5, 3) := by decide +kernel
theorem dX1_isApart_27 : decode cX1_isApart 27 = .ok (.iconst 0, 1) := by decide +kernel
theorem dX1_isApart_28 : decode cX1_isApart 28 = .ok (.ireturn, 1) := by decide +kernel
theorem dX1_isApart_29 : decode cX1_isApart 29 = .ok (.iinc 2 1, 3) := by decide +kernel
theorem dX1_isApart_32 : decode cX1_isApart 32 = .ok (.goto (-30), 3) := by decide +kernel
theorem dX1_isApart_35 : decode cX1_isApart 35 = .ok (.iconst 1, 1) := by decide +kernel
theorem dX1_isApart_36 : decode cX1_isApart 36 = .ok (.ireturn, 1) := by decide +kernel
abbrev rmX1_isApart : Room := { frames := 4, cells := 0, slots := 0, locals := 104 }
set_option maxHeartbeats 4000000 in
set_option maxRecDepth 100000 in
theorem metX1_isApart {l : Launch} {s0 : State} {b B : Nat} {D : va_G} {T : Nat → ClassId} (F : FX l s0 b D T B) {X : Nat → Prop} (hX : ∀ o, o < 560 → ¬ X (B + o)) {N : Nat} {μ : Mem} {a0 : Nat} {a1 : Int32} {r : Bool} (k0 : IsEx a0) (h : fX1_isApart N μ a0 a1 = some r) : gMet l yX1_isApart cX1_isApart 3 (some .boolean) rmX1_isApart [.ref (B + a0), .int a1] (gWC s0 D T B μ) (KC s0 X) (some (.int (b2i r))) (gWC s0 D T B μ) (gA B X) 0 0 := by
  refine gZ_of RX1 (by decide +kernel) rfl (Nat.le_of_ble_eq_true rfl) ?_
  intro p e s m args below meth c ls Q hx hb hlocks hml hown hts hW hk hl hS hend
  have hC := FX_C F hk hx hb hown hts
  have hA := gA_all hX
  have hl : lv_has ls 3 [(0, .ref (B + a0)), (1, .int a1)] := hl
  unfold fX1_isApart at h
  refine lv_iconst (v := 0) hx hb dX1_isApart_0 (by decide) ?_
  refine lv_istore_n (lv' := [(2, .int 0), (0, .ref (B + a0)), (1, .int a1)]) hx hb dX1_isApart_1 rfl hl (by decide) rfl (fun ls hl => ?_)
  refine fix1_ind (fun (x1 : Int32) => ∀ (H : Heap) (locs : List Loc) (ls : Array Slot), gWC s0 D T B μ H → va_S (gA B X) s.heap H locs → lv_has ls 3 [(0, .ref (B + a0)), (1, .int a1), (2, .int x1)] → W p l e rmX1_isApart s m args below meth c H locs 0 0 Q (F0 m 2 ls [])) ?_ N _ h _ _ _ hW hS (lv_sub hl [1, 2, 0] rfl)
  clear h hW hS hl
  intro self2 IH3 x1 h H locs ls hW hS hl
  refine lv_iload_n hx hb dX1_isApart_2 rfl (lv_at hl 2 rfl) ?_
  refine lv_aload_n hx hb dX1_isApart_3 rfl (lv_at hl 0 rfl) ?_
  refine gw_get (v := .int (μ a0 6)) hC hW fl_X1_49.1 k0.1 (k0.2.1 (gfm s0) T B (μ a0)) rfl dX1_isApart_4 ?_
  refine lv_icmp_ge (tgt := 35) hx hb dX1_isApart_7 (by decide) (fun c4 => ?_) (fun c4 => ?_)
  · replace h := ite_t c4 h
    refine lv_iconst (v := 1) hx hb dX1_isApart_35 (by decide) ?_
    cases h
    exact hend dX1_isApart_36 hW hS (Nat.le_of_ble_eq_true rfl) (Nat.le_of_ble_eq_true rfl)
  · replace h := ite_f c4 h
    refine lv_iload_n hx hb dX1_isApart_10 rfl (lv_at hl 1 rfl) ?_
    refine lv_iload_n hx hb dX1_isApart_11 rfl (lv_at hl 2 rfl) ?_
    obtain ⟨r5, hcall, h⟩ := bd_out h
    refine g0_callS (As := [.int a1, .int x1]) hC hml hS hW (KC_at hk hS F.2.2.2.2) KC_blind (metX1_contains F hX  hcall) ml_X1_65 ⟨rfl, rfl, (Nat.le_of_ble_eq_true rfl), (Nat.le_of_ble_eq_true rfl)⟩ rfl hl.1 rfl (Nat.le_of_ble_eq_true rfl) dX1_isApart_12 ⟨(Nat.le_of_ble_eq_true rfl), (Nat.le_of_ble_eq_true rfl)⟩ (fun H locs hW hS => ?_)
    obtain ⟨j7, hj9, h⟩ := jn1_o h
    have J8 : ∀ (u6 : Unit), j7 u6 = some r → ∀ (H : Heap) (locs : List Loc) (ls : Array Slot), gWC s0 D T B μ H → va_S (gA B X) s.heap H locs → lv_has ls 3 [(0, .ref (B + a0)), (1, .int a1), (2, .int x1)] → W p l e rmX1_isApart s m args below meth c H locs 0 0 Q (F0 m 29 ls []) := by
      clear h hW hS hl
      intro u6 h H locs ls hW hS hl
      replace h := (hj9 u6).symm.trans h
      obtain ⟨v10, e11, h⟩ := lt_out h
      refine lv_iinc (v := v10) (lv' := [(2, .int v10), (0, .ref (B + a0)), (1, .int a1)]) hx hb dX1_isApart_29 hl (k := 2) rfl (by rw [e11]; rfl) (by decide) rfl (fun ls hl => ?_)
      refine lv_goto (tgt := 2) hx hb dX1_isApart_32 (by decide) ?_
      exact IH3 _ h _ _ _ hW hS (lv_sub hl [1, 2, 0] rfl)
    refine gw_if_eqZ (tgt := 29) hx hb dX1_isApart_15 (by decide) (fun c12 => ?_) (fun c12 => ?_)
    · replace h := cond_f c12 h
      exact J8 _ h _ _ _ hW hS (lv_sub hl [0, 1, 2] rfl)
    · replace h := cond_t c12 h
      refine lv_aload_n hx hb dX1_isApart_18 rfl (lv_at hl 0 rfl) ?_
      refine lv_iload_n hx hb dX1_isApart_19 rfl (lv_at hl 1 rfl) ?_
      refine lv_iload_n hx hb dX1_isApart_20 rfl (lv_at hl 2 rfl) ?_
      obtain ⟨r13, hcall, h⟩ := bd_out h
      refine g0_callV (As := [.int a1, .int x1]) hC hml hS hW (KC_at hk hS F.2.2.2.2) KC_blind (metX1_meetsEarlier F hX k0 hcall) ml_X1_96 (gw_recv hC hW k0.1 (k0.2.1 (gfm s0) T B (μ a0)) rfl) ⟨rfl, rfl, (Nat.le_of_ble_eq_true rfl), (Nat.le_of_ble_eq_true rfl)⟩ rfl hl.1 rfl (Nat.le_of_ble_eq_true rfl) dX1_isApart_21 ⟨(Nat.le_of_ble_eq_true rfl), (Nat.le_of_ble_eq_true rfl)⟩ (fun H locs hW hS => ?_)
      refine gw_if_eqZ (tgt := 29) hx hb dX1_isApart_24 (by decide) (fun c14 => ?_) (fun c14 => ?_)
      · replace h := cond_f c14 h
        exact J8 _ h _ _ _ hW hS (lv_sub hl [0, 1, 2] rfl)
      · replace h := cond_t c14 h
        refine lv_iconst (v := 0) hx hb dX1_isApart_27 (by decide) ?_
        cases h
        exact hend dX1_isApart_28 hW hS (Nat.le_of_ble_eq_true rfl) (Nat.le_of_ble_eq_true rfl)

theorem dX8_copyFrom_0 : decode cX8_copyFrom 0 = .ok (.aload_n 0, 1) := by decide +kernel
theorem dX8_copyFrom_1 : decode cX8_copyFrom 1 = .ok (.aload_n 1, 1) := by decide +kernel
theorem dX8_copyFrom_2 : decode cX8_copyFrom 2 = .ok (.getfield 30, 3) := by decide +kernel
theorem dX8_copyFrom_5 : decode cX8_copyFrom 5 = .ok (.putfield 30, 3) := by decide +kernel
theorem dX8_copyFrom_8 : decode cX8_copyFrom 8 = .ok (.aload_n 1, 1) := by decide +kernel
theorem dX8_copyFrom_9 : decode cX8_copyFrom 9 = .ok (.getfield 9, 3) := by decide +kernel
theorem dX8_copyFrom_12 : decode cX8_copyFrom 12 = .ok (.iconst 0, 1) := by decide +kernel
theorem dX8_copyFrom_13 : decode cX8_copyFrom 13 = .ok (.aload_n 0, 1) := by decide +kernel
theorem dX8_copyFrom_14 : decode cX8_copyFrom 14 = .ok (.getfield 9, 3) := by decide +kernel
theorem dX8_copyFrom_17 : decode cX8_copyFrom 17 = .ok (.iconst 0, 1) := by decide +kernel
theorem dX8_copyFrom_18 : decode cX8_copyFrom 18 = .ok (.bipush 6, 2) := by decide +kernel
theorem dX8_copyFrom_20 : decode cX8_copyFrom 20 = .ok (.invokestatic 34, 3) := by decide +kernel
theorem dX8_copyFrom_23 : decode cX8_copyFrom 23 = .ok (.iconst 0, 1) := by decide +kernel
theorem dX8_copyFrom_24 : decode cX8_copyFrom 24 = .ok (.istore_n 2, 1) := by decide +kernel
theorem dX8_copyFrom_25 : decode cX8_copyFrom 25 = .ok (.iload_n 2, 1) := by decide +kernel
theorem dX8_copyFrom_26 : decode cX8_copyFrom 26 = .ok (.bipush 6, 2) := by decide +kernel
theorem dX8_copyFrom_28 : decode cX8_copyFrom 28 = .ok (.if_icmp .ge 47, 3) := by decide +kernel
theorem dX8_copyFrom_31 : decode cX8_copyFrom 31 = .ok (.aload_n 1, 1) := by decide +kernel
theorem dX8_copyFrom_32 : decode cX8_copyFrom 32 = .ok (.getfield 17, 3) := by decide +kernel
theorem dX8_copyFrom_35 : decode cX8_copyFrom 35 = .ok (.iload_n 2, 1) := by decide +kernel
theorem dX8_copyFrom_36 : decode cX8_copyFrom 36 = .ok (.aaload, 1) := by decide +kernel
theorem dX8_copyFrom_37 : decode cX8_copyFrom 37 = .ok (.iconst 0, 1) := by decide +kernel
theorem dX8_copyFrom_38 : decode cX8_copyFrom 38 = .ok (.aload_n 0, 1) := by decide +kernel
theorem dX8_copyFrom_39 : decode cX8_copyFrom 39 = .ok (.getfield 17, 3) := by decide +kernel
theorem dX8_copyFrom_42 : decode cX8_copyFrom 42 = .ok (.iload_n 2, 1) := by decide +kernel
theorem dX8_copyFrom_43 : decode cX8_copyFrom 43 = .ok (.aaload, 1) := by decide +kernel
theorem dX8_copyFrom_44 : decode cX8_copyFrom 44 = .ok (.iconst 0, 1) := by decide +kernel
theorem dX8_copyFrom_45 : decode cX8_copyFrom 45 = .ok (.bipush 6, 2) := by decide +kernel
theorem dX8_copyFrom_47 : decode cX8_copyFrom 47 = .ok (.invokestatic 34, 3) := by decide +kernel
theorem dX8_copyFrom_50 : decode cX8_copyFrom 50 = .ok (.aload_n 1, 1) := by decide +kernel
theorem dX8_copyFrom_51 : decode cX8_copyFrom 51 = .ok (.getfield 20, 3) := by decide +kernel
theorem dX8_copyFrom_54 : decode cX8_copyFrom 54 = .ok (.iload_n 2, 1) := by decide +kernel
theorem dX8_copyFrom_55 : decode cX8_copyFrom 55 = .ok (.aaload, 1) := by decide +kernel
theorem dX8_copyFrom_56 : decode cX8_copyFrom 56 = .ok (.iconst 0, 1) := by decide +kernel
theorem dX8_copyFrom_57 : decode cX8_copyFrom 57 = .ok (.aload_n 0, 1) := by decide +kernel
theorem dX8_copyFrom_58 : decode cX8_copyFrom 58 = .ok (.getfield 20, 3) := by decide +kernel
theorem dX8_copyFrom_61 : decode cX8_copyFrom 61 = .ok (.iload_n 2, 1) := by decide +kernel
theorem dX8_copyFrom_62 : decode cX8_copyFrom 62 = .ok (.aaload, 1) := by decide +kernel
theorem dX8_copyFrom_63 : decode cX8_copyFrom 63 = .ok (.iconst 0, 1) := by decide +kernel
theorem dX8_copyFrom_64 : decode cX8_copyFrom 64 = .ok (.bipush 6, 2) := by decide +kernel
theorem dX8_copyFrom_66 : decode cX8_copyFrom 66 = .ok (.invokestatic 34, 3) := by decide +kernel
theorem dX8_copyFrom_69 : decode cX8_copyFrom 69 = .ok (.iinc 2 1, 3) := by decide +kernel
theorem dX8_copyFrom_72 : decode cX8_copyFrom 72 = .ok (.goto (-47), 3) := by decide +kernel
theorem dX8_copyFrom_75 : decode cX8_copyFrom 75 = .ok (.aload_n 0, 1) := by decide +kernel
theorem dX8_copyFrom_76 : decode cX8_copyFrom 76 = .ok (.aload_n 1, 1) := by decide +kernel
theorem dX8_copyFrom_77 : decode cX8_copyFrom 77 = .ok (.getfield 40, 3) := by decide +kernel
theorem dX8_copyFrom_80 : decode cX8_copyFrom 80 = .ok (.putfield 40, 3) := by decide +kernel
theorem dX8_copyFrom_83 : decode cX8_copyFrom 83 = .ok (.iconst 0, 1) := by decide +kernel
theorem dX8_copyFrom_84 : decode cX8_copyFrom 84 = .ok (.istore_n 2, 1) := by decide +kernel
theorem dX8_copyFrom_85 : decode cX8_copyFrom 85 = .ok (.iload_n 2, 1) := by decide +kernel
theorem dX8_copyFrom_86 : decode cX8_copyFrom 86 = .ok (.iconst 5, 1) := by decide +kernel
theorem dX8_copyFrom_87 : decode cX8_copyFrom 87 = .ok (.if_icmp .ge 24, 3) := by decide +kernel
theorem dX8_copyFrom_90 : decode cX8_copyFrom 90 = .ok (.aload_n 0, 1) := by decide +kernel
theorem dX8_copyFrom_91 : decode cX8_copyFrom 91 = .ok (.getfield 25, 3) := by decide +kernel
theorem dX8_copyFrom_94 : decode cX8_copyFrom 94 = .ok (.iload_n 2, 1) := by decide +kernel
theorem dX8_copyFrom_95 : decode cX8_copyFrom 95 = .ok (.aaload, 1) := by decide +kernel
theorem dX8_copyFrom_96 : decode cX8_copyFrom 96 = .ok (.aload_n 1, 1) := by decide +kernel
theorem dX8_copyFrom_97 : decode cX8_copyFrom 97 = .ok (.getfield 25, 3) := by decide +kernel
theorem dX8_copyFrom_100 : decode cX8_copyFrom 100 = .ok (.iload_n 2, 1) := by decide +kernel
theorem dX8_copyFrom_101 : decode cX8_copyFrom 101 = .ok (.aaload, 1) := by decide +kernel
theorem dX8_copyFrom_102 : decode cX8_copyFrom 102 = .ok (.invokevirtual 43, 3) := by decide +kernel
theorem dX8_copyFrom_105 : decode cX8_copyFrom 105 = .ok (.iinc 2 1, 3) := by decide +kernel
theorem dX8_copyFrom_108 : decode cX8_copyFrom 108 = .ok (.goto (-23), 3) := by decide +kernel
theorem dX8_copyFrom_111 : decode cX8_copyFrom 111 = .ok (.aload_n 0, 1) := by decide +kernel
theorem dX8_copyFrom_112 : decode cX8_copyFrom 112 = .ok (.aload_n 1, 1) := by decide +kernel
theorem dX8_copyFrom_113 : decode cX8_copyFrom 113 = .ok (.getfield 47, 3) := by decide +kernel
theorem dX8_copyFrom_116 : decode cX8_copyFrom 116 = .ok (.putfield 47, 3) := by decide +kernel
theorem dX8_copyFrom_119 : decode cX8_copyFrom 119 = .ok (.aload_n 0, 1) := by decide +kernel
theorem dX8_copyFrom_120 : decode cX8_copyFrom 120 = .ok (.aload_n 1, 1) := by decide +kernel
theorem dX8_copyFrom_121 : decode cX8_copyFrom 121 = .ok (.getfield 50, 3) := by decide +kernel
theorem dX8_copyFrom_124 : decode cX8_copyFrom 124 = .ok (.putfield 50, 3) := by decide +kernel
theorem dX8_copyFrom_127 : decode cX8_copyFrom 127 = .ok (.return_, 1) := by decide +kernel
abbrev rmX8_copyFrom : Room := { frames := 3, cells := 0, slots := 0, locals := 81 }
set_option maxHeartbeats 4000000 in
set_option maxRecDepth 100000 in
theorem metX8_copyFrom {l : Launch} {s0 : State} {b B : Nat} {D : va_G} {T : Nat → ClassId} (F : FX l s0 b D T B) {X : Nat → Prop} (hX : ∀ o, o < 560 → ¬ X (B + o)) {N : Nat} {μ : Mem} {a0 : Nat} {a1 : Nat} {r : Mem} (k0 : IsSt a0) (k1 : IsSt a1) (h : fX8_copyFrom N μ a0 a1 = some r) : gMet l yX8_copyFrom cX8_copyFrom 3 none rmX8_copyFrom [.ref (B + a0), .ref (B + a1)] (gWC s0 D T B μ) (KC s0 X) none (gWC s0 D T B r) (gA B X) 0 0 := by
  refine gV_of RX8 (by decide +kernel) rfl (Nat.le_of_ble_eq_true rfl) ?_
  intro p e s m args below meth c ls Q hx hb hlocks hml hown hts hW hk hl hS hend
  have hC := FX_C F hk hx hb hown hts
  have hA := gA_all hX
  have hl : lv_has ls 3 [(0, .ref (B + a0)), (1, .ref (B + a1))] := hl
  unfold fX8_copyFrom at h
  refine lv_aload_n hx hb dX8_copyFrom_0 rfl (lv_at hl 0 rfl) ?_
  refine lv_aload_n hx hb dX8_copyFrom_1 rfl (lv_at hl 1 rfl) ?_
  refine gw_get (v := .int (μ a1 0)) hC hW fl_X8_30.1 k1.1 (k1.2.1 (gfm s0) T B (μ a1)) rfl dX8_copyFrom_2 ?_
  obtain ⟨μ1, e2, h⟩ := lt_out h
  refine gq_put hC hS hW hA fl_X8_30 k0.1 (k0.2.1 (gfm s0) T B) (Nat.le_of_ble_eq_true rfl) rfl rfl rfl e2 dX8_copyFrom_5 (fun H locs hW hS => ?_)
  refine lv_aload_n hx hb dX8_copyFrom_8 rfl (lv_at hl 1 rfl) ?_
  refine gw_get (v := .ref (B + (a1 + 1))) hC hW fl_X8_9 k1.1 (k1.2.1 (gfm s0) T B (μ1 a1)) rfl dX8_copyFrom_9 ?_
  refine lv_iconst (v := 0) hx hb dX8_copyFrom_12 (by decide) ?_
  refine lv_aload_n hx hb dX8_copyFrom_13 rfl (lv_at hl 0 rfl) ?_
  refine gw_get (v := .ref (B + (a0 + 1))) hC hW fl_X8_9 k0.1 (k0.2.1 (gfm s0) T B (μ1 a0)) rfl dX8_copyFrom_14 ?_
  refine lv_iconst (v := 0) hx hb dX8_copyFrom_17 (by decide) ?_
  refine lv_bipush (v := 6) hx hb dX8_copyFrom_18 (by decide) ?_
  obtain ⟨μ3, e4, hc5, h⟩ := acp_o h
  refine gw_copy hC (hml.trans hl.1.symm) lm_X8_34 lb_copy.1 lb_copy.2.1 lb_copy.2.2 hS hW hA k1.2.2.1.1 k0.2.2.1.1 (k1.2.2.1.2 (gfm s0) T B) (k0.2.2.1.2 (gfm s0) T B) (t0 := 0) rfl e4 hc5 (Nat.le_of_ble_eq_true rfl) (Nat.le_of_ble_eq_true rfl) dX8_copyFrom_20 (fun H locs hW hS => ?_)
  refine lv_iconst (v := 0) hx hb dX8_copyFrom_23 (by decide) ?_
  refine lv_istore_n (lv' := [(2, .int 0), (0, .ref (B + a0)), (1, .ref (B + a1))]) hx hb dX8_copyFrom_24 rfl hl (by decide) rfl (fun ls hl => ?_)
  refine fix2_ind (fun (x6 : Int32) (μ7 : Mem) => ∀ (H : Heap) (locs : List Loc) (ls : Array Slot), gWC s0 D T B μ7 H → va_S (gA B X) s.heap H locs → lv_has ls 3 [(0, .ref (B + a0)), (1, .ref (B + a1)), (2, .int x6)] → W p l e rmX8_copyFrom s m args below meth c H locs 0 0 Q (F0 m 25 ls [])) ?_ N _ _ h _ _ _ hW hS (lv_sub hl [1, 2, 0] rfl)
  clear h hW hS hl
  intro self8 IH9 x6 μ7 h H locs ls hW hS hl
  refine lv_iload_n hx hb dX8_copyFrom_25 rfl (lv_at hl 2 rfl) ?_
  refine lv_bipush (v := 6) hx hb dX8_copyFrom_26 (by decide) ?_
  refine lv_icmp_ge (tgt := 75) hx hb dX8_copyFrom_28 (by decide) (fun c10 => ?_) (fun c10 => ?_)
  · replace h := ite_t c10 h
    refine lv_aload_n hx hb dX8_copyFrom_75 rfl (lv_at hl 0 rfl) ?_
    refine lv_aload_n hx hb dX8_copyFrom_76 rfl (lv_at hl 1 rfl) ?_
    refine gw_get (v := .int (μ7 a1 4)) hC hW fl_X8_40.1 k1.1 (k1.2.1 (gfm s0) T B (μ7 a1)) rfl dX8_copyFrom_77 ?_
    obtain ⟨μ11, e12, h⟩ := lt_out h
    refine gq_put hC hS hW hA fl_X8_40 k0.1 (k0.2.1 (gfm s0) T B) (Nat.le_of_ble_eq_true rfl) rfl rfl rfl e12 dX8_copyFrom_80 (fun H locs hW hS => ?_)
    refine lv_iconst (v := 0) hx hb dX8_copyFrom_83 (by decide) ?_
    refine lv_istore_n (lv' := [(2, .int 0), (0, .ref (B + a0)), (1, .ref (B + a1))]) hx hb dX8_copyFrom_84 rfl hl (by decide) rfl (fun ls hl => ?_)
    refine fix2_ind (fun (x13 : Int32) (μ14 : Mem) => ∀ (H : Heap) (locs : List Loc) (ls : Array Slot), gWC s0 D T B μ14 H → va_S (gA B X) s.heap H locs → lv_has ls 3 [(0, .ref (B + a0)), (1, .ref (B + a1)), (2, .int x13)] → W p l e rmX8_copyFrom s m args below meth c H locs 0 0 Q (F0 m 85 ls [])) ?_ N _ _ h _ _ _ hW hS (lv_sub hl [1, 2, 0] rfl)
    clear h hW hS hl
    intro self15 IH16 x13 μ14 h H locs ls hW hS hl
    refine lv_iload_n hx hb dX8_copyFrom_85 rfl (lv_at hl 2 rfl) ?_
    refine lv_iconst (v := 5) hx hb dX8_copyFrom_86 (by decide) ?_
    refine lv_icmp_ge (tgt := 111) hx hb dX8_copyFrom_87 (by decide) (fun c17 => ?_) (fun c17 => ?_)
    · replace h := ite_t c17 h
      refine lv_aload_n hx hb dX8_copyFrom_111 rfl (lv_at hl 0 rfl) ?_
      refine lv_aload_n hx hb dX8_copyFrom_112 rfl (lv_at hl 1 rfl) ?_
      refine gw_get (v := .int (μ14 a1 6)) hC hW fl_X8_47.1 k1.1 (k1.2.1 (gfm s0) T B (μ14 a1)) rfl dX8_copyFrom_113 ?_
      obtain ⟨μ18, e19, h⟩ := lt_out h
      refine gq_put hC hS hW hA fl_X8_47 k0.1 (k0.2.1 (gfm s0) T B) (Nat.le_of_ble_eq_true rfl) rfl rfl rfl e19 dX8_copyFrom_116 (fun H locs hW hS => ?_)
      refine lv_aload_n hx hb dX8_copyFrom_119 rfl (lv_at hl 0 rfl) ?_
      refine lv_aload_n hx hb dX8_copyFrom_120 rfl (lv_at hl 1 rfl) ?_
      refine gw_get (v := .int (μ18 a1 7)) hC hW fl_X8_50.1 k1.1 (k1.2.1 (gfm s0) T B (μ18 a1)) rfl dX8_copyFrom_121 ?_
      obtain ⟨μ20, e21, h⟩ := lt_out h
      refine gq_put hC hS hW hA fl_X8_50 k0.1 (k0.2.1 (gfm s0) T B) (Nat.le_of_ble_eq_true rfl) rfl rfl rfl e21 dX8_copyFrom_124 (fun H locs hW hS => ?_)
      cases h
      exact hend dX8_copyFrom_127 hW hS (Nat.le_of_ble_eq_true rfl) (Nat.le_of_ble_eq_true rfl)
    · replace h := ite_f c17 h
      refine lv_aload_n hx hb dX8_copyFrom_90 rfl (lv_at hl 0 rfl) ?_
      refine gw_get (v := .ref (B + (a0 + 16))) hC hW fl_X8_25 k0.1 (k0.2.1 (gfm s0) T B (μ14 a0)) rfl dX8_copyFrom_91 ?_
      refine lv_iload_n hx hb dX8_copyFrom_94 rfl (lv_at hl 2 rfl) ?_
      obtain ⟨q22, e23, hq24, hi25, h⟩ := ar_o h
      refine gq_aald hC hW k0.2.2.2.2.2.1 (k0.2.2.2.2.2.2.1 (gfm s0) T B (μ14 (a0 + 16))) (t0 := 5) rfl rfl e23 hi25 dX8_copyFrom_95 ?_
      refine lv_aload_n hx hb dX8_copyFrom_96 rfl (lv_at hl 1 rfl) ?_
      refine gw_get (v := .ref (B + (a1 + 16))) hC hW fl_X8_25 k1.1 (k1.2.1 (gfm s0) T B (μ14 a1)) rfl dX8_copyFrom_97 ?_
      refine lv_iload_n hx hb dX8_copyFrom_100 rfl (lv_at hl 2 rfl) ?_
      obtain ⟨q26, e27, hq28, hi29, h⟩ := ar_o h
      refine gq_aald hC hW k1.2.2.2.2.2.1 (k1.2.2.2.2.2.2.1 (gfm s0) T B (μ14 (a1 + 16))) (t0 := 5) rfl rfl e27 hi29 dX8_copyFrom_101 ?_
      obtain ⟨r30, hcall, h⟩ := bd_out h
      refine g0_callV (As := [.ref (B + ((a1 + 16) + 1 + 6 * q26))]) hC hml hS hW (KC_at hk hS F.2.2.2.2) KC_blind (metX1_copyFrom F hX (k0.2.2.2.2.2.2.2 q22 hq24) (k1.2.2.2.2.2.2.2 q26 hq28) hcall) ml_X8_43 (gw_recv hC hW (k0.2.2.2.2.2.2.2 q22 hq24).1 ((k0.2.2.2.2.2.2.2 q22 hq24).2.1 (gfm s0) T B (μ14 ((a0 + 16) + 1 + 6 * q22))) rfl) ⟨rfl, rfl, (Nat.le_of_ble_eq_true rfl), (Nat.le_of_ble_eq_true rfl)⟩ rfl hl.1 rfl (Nat.le_of_ble_eq_true rfl) dX8_copyFrom_102 ⟨(Nat.le_of_ble_eq_true rfl), (Nat.le_of_ble_eq_true rfl)⟩ (fun H locs hW hS => ?_)
      obtain ⟨v31, e32, h⟩ := lt_out h
      refine lv_iinc (v := v31) (lv' := [(2, .int v31), (0, .ref (B + a0)), (1, .ref (B + a1))]) hx hb dX8_copyFrom_105 hl (k := 2) rfl (by rw [e32]; rfl) (by decide) rfl (fun ls hl => ?_)
      refine lv_goto (tgt := 85) hx hb dX8_copyFrom_108 (by decide) ?_
      exact IH16 _ _ h _ _ _ hW hS (lv_sub hl [1, 2, 0] rfl)
  · replace h := ite_f c10 h
    refine lv_aload_n hx hb dX8_copyFrom_31 rfl (lv_at hl 1 rfl) ?_
    refine gw_get (v := .ref (B + (a1 + 2))) hC hW fl_X8_17 k1.1 (k1.2.1 (gfm s0) T B (μ7 a1)) rfl dX8_copyFrom_32 ?_
    refine lv_iload_n hx hb dX8_copyFrom_35 rfl (lv_at hl 2 rfl) ?_
    obtain ⟨q33, e34, hq35, hi36, h⟩ := ar_o h
    refine gq_aald hC hW k1.2.2.2.1.1 (k1.2.2.2.1.2.1 (gfm s0) T B (μ7 (a1 + 2))) (t0 := 3) rfl rfl e34 hi36 dX8_copyFrom_36 ?_
    refine lv_iconst (v := 0) hx hb dX8_copyFrom_37 (by decide) ?_
    refine lv_aload_n hx hb dX8_copyFrom_38 rfl (lv_at hl 0 rfl) ?_
    refine gw_get (v := .ref (B + (a0 + 2))) hC hW fl_X8_17 k0.1 (k0.2.1 (gfm s0) T B (μ7 a0)) rfl dX8_copyFrom_39 ?_
    refine lv_iload_n hx hb dX8_copyFrom_42 rfl (lv_at hl 2 rfl) ?_
    obtain ⟨q37, e38, hq39, hi40, h⟩ := ar_o h
    refine gq_aald hC hW k0.2.2.2.1.1 (k0.2.2.2.1.2.1 (gfm s0) T B (μ7 (a0 + 2))) (t0 := 3) rfl rfl e38 hi40 dX8_copyFrom_43 ?_
    refine lv_iconst (v := 0) hx hb dX8_copyFrom_44 (by decide) ?_
    refine lv_bipush (v := 6) hx hb dX8_copyFrom_45 (by decide) ?_
    obtain ⟨μ41, e42, hc43, h⟩ := acp_o h
    refine gw_copy hC (hml.trans hl.1.symm) lm_X8_34 lb_copy.1 lb_copy.2.1 lb_copy.2.2 hS hW hA (k1.2.2.2.1.2.2 q33 hq35).1 (k0.2.2.2.1.2.2 q37 hq39).1 ((k1.2.2.2.1.2.2 q33 hq35).2 (gfm s0) T B) ((k0.2.2.2.1.2.2 q37 hq39).2 (gfm s0) T B) (t0 := 0) rfl e42 hc43 (Nat.le_of_ble_eq_true rfl) (Nat.le_of_ble_eq_true rfl) dX8_copyFrom_47 (fun H locs hW hS => ?_)
    refine lv_aload_n hx hb dX8_copyFrom_50 rfl (lv_at hl 1 rfl) ?_
    refine gw_get (v := .ref (B + (a1 + 9))) hC hW fl_X8_20 k1.1 (k1.2.1 (gfm s0) T B (μ41 a1)) rfl dX8_copyFrom_51 ?_
    refine lv_iload_n hx hb dX8_copyFrom_54 rfl (lv_at hl 2 rfl) ?_
    obtain ⟨q44, e45, hq46, hi47, h⟩ := ar_o h
    refine gq_aald hC hW k1.2.2.2.2.1.1 (k1.2.2.2.2.1.2.1 (gfm s0) T B (μ41 (a1 + 9))) (t0 := 3) rfl rfl e45 hi47 dX8_copyFrom_55 ?_
    refine lv_iconst (v := 0) hx hb dX8_copyFrom_56 (by decide) ?_
    refine lv_aload_n hx hb dX8_copyFrom_57 rfl (lv_at hl 0 rfl) ?_
    refine gw_get (v := .ref (B + (a0 + 9))) hC hW fl_X8_20 k0.1 (k0.2.1 (gfm s0) T B (μ41 a0)) rfl dX8_copyFrom_58 ?_
    refine lv_iload_n hx hb dX8_copyFrom_61 rfl (lv_at hl 2 rfl) ?_
    obtain ⟨q48, e49, hq50, hi51, h⟩ := ar_o h
    refine gq_aald hC hW k0.2.2.2.2.1.1 (k0.2.2.2.2.1.2.1 (gfm s0) T B (μ41 (a0 + 9))) (t0 := 3) rfl rfl e49 hi51 dX8_copyFrom_62 ?_
    refine lv_iconst (v := 0) hx hb dX8_copyFrom_63 (by decide) ?_
    refine lv_bipush (v := 6) hx hb dX8_copyFrom_64 (by decide) ?_
    obtain ⟨μ52, e53, hc54, h⟩ := acp_o h
    refine gw_copy hC (hml.trans hl.1.symm) lm_X8_34 lb_copy.1 lb_copy.2.1 lb_copy.2.2 hS hW hA (k1.2.2.2.2.1.2.2 q44 hq46).1 (k0.2.2.2.2.1.2.2 q48 hq50).1 ((k1.2.2.2.2.1.2.2 q44 hq46).2 (gfm s0) T B) ((k0.2.2.2.2.1.2.2 q48 hq50).2 (gfm s0) T B) (t0 := 0) rfl e53 hc54 (Nat.le_of_ble_eq_true rfl) (Nat.le_of_ble_eq_true rfl) dX8_copyFrom_66 (fun H locs hW hS => ?_)
    obtain ⟨v55, e56, h⟩ := lt_out h
    refine lv_iinc (v := v55) (lv' := [(2, .int v55), (0, .ref (B + a0)), (1, .ref (B + a1))]) hx hb dX8_copyFrom_69 hl (k := 2) rfl (by rw [e56]; rfl) (by decide) rfl (fun ls hl => ?_)
    refine lv_goto (tgt := 25) hx hb dX8_copyFrom_72 (by decide) ?_
    exact IH9 _ _ h _ _ _ hW hS (lv_sub hl [1, 2, 0] rfl)

theorem dX4_note_0 : decode cX4_note 0 = .ok (.aload_n 0, 1) := by decide +kernel
theorem dX4_note_1 : decode cX4_note 1 = .ok (.getfield 11, 3) := by decide +kernel
theorem dX4_note_4 : decode cX4_note 4 = .ok (.aload_n 0, 1) := by decide +kernel
theorem dX4_note_5 : decode cX4_note 5 = .ok (.getfield 18, 3) := by decide +kernel
theorem dX4_note_8 : decode cX4_note 8 = .ok (.aaload, 1) := by decide +kernel
theorem dX4_note_9 : decode cX4_note 9 = .ok (.aload_n 1, 1) := by decide +kernel
theorem dX4_note_10 : decode cX4_note 10 = .ok (.invokevirtual 22, 3) := by decide +kernel
theorem dX4_note_13 : decode cX4_note 13 = .ok (.return_, 1) := by decide +kernel
abbrev rmX4_note : Room := { frames := 4, cells := 0, slots := 0, locals := 103 }
set_option maxHeartbeats 4000000 in
set_option maxRecDepth 100000 in
theorem metX4_note {l : Launch} {s0 : State} {b B : Nat} {D : va_G} {T : Nat → ClassId} (F : FX l s0 b D T B) {X : Nat → Prop} (hX : ∀ o, o < 560 → ¬ X (B + o)) {N : Nat} {μ : Mem} {a0 : Nat} {a1 : Nat} {r : Mem} (k0 : IsHi a0) (k1 : IsSt a1) (h : fX4_note N μ a0 a1 = some r) : gMet l yX4_note cX4_note 2 none rmX4_note [.ref (B + a0), .ref (B + a1)] (gWC s0 D T B μ) (KC s0 X) none (gWC s0 D T B r) (gA B X) 0 0 := by
  refine gV_of RX4 (by decide +kernel) rfl (Nat.le_of_ble_eq_true rfl) ?_
  intro p e s m args below meth c ls Q hx hb hlocks hml hown hts hW hk hl hS hend
  have hC := FX_C F hk hx hb hown hts
  have hA := gA_all hX
  have hl : lv_has ls 2 [(0, .ref (B + a0)), (1, .ref (B + a1))] := hl
  unfold fX4_note at h
  refine lv_aload_n hx hb dX4_note_0 rfl (lv_at hl 0 rfl) ?_
  refine gw_get (v := .ref (B + (a0 + 1))) hC hW fl_X4_11 k0.1 (k0.2.1 (gfm s0) T B (μ a0)) rfl dX4_note_1 ?_
  refine lv_aload_n hx hb dX4_note_4 rfl (lv_at hl 0 rfl) ?_
  refine gw_get (v := .int (μ a0 1)) hC hW fl_X4_18.1 k0.1 (k0.2.1 (gfm s0) T B (μ a0)) rfl dX4_note_5 ?_
  obtain ⟨q1, e2, hq3, hi4, h⟩ := ar_o h
  refine gq_aald hC hW k0.2.2.1 (k0.2.2.2.1 (gfm s0) T B (μ (a0 + 1))) (t0 := 4) rfl rfl e2 hi4 dX4_note_8 ?_
  refine lv_aload_n hx hb dX4_note_9 rfl (lv_at hl 1 rfl) ?_
  obtain ⟨r5, hcall, h⟩ := bd_out h
  refine g0_callV (As := [.ref (B + a1)]) hC hml hS hW (KC_at hk hS F.2.2.2.2) KC_blind (metX8_copyFrom F hX (k0.2.2.2.2 q1 hq3) k1 hcall) ml_X4_22 (gw_recv hC hW (k0.2.2.2.2 q1 hq3).1 ((k0.2.2.2.2 q1 hq3).2.1 (gfm s0) T B (μ ((a0 + 1) + 1 + 47 * q1))) rfl) ⟨rfl, rfl, (Nat.le_of_ble_eq_true rfl), (Nat.le_of_ble_eq_true rfl)⟩ rfl hl.1 rfl (Nat.le_of_ble_eq_true rfl) dX4_note_10 ⟨(Nat.le_of_ble_eq_true rfl), (Nat.le_of_ble_eq_true rfl)⟩ (fun H locs hW hS => ?_)
  cases h
  exact hend dX4_note_13 hW hS (Nat.le_of_ble_eq_true rfl) (Nat.le_of_ble_eq_true rfl)

theorem dX4_noted_0 : decode cX4_noted 0 = .ok (.aload_n 0, 1) := by decide +kernel
theorem dX4_noted_1 : decode cX4_noted 1 = .ok (.getfield 11, 3) := by decide +kernel
theorem dX4_noted_4 : decode cX4_noted 4 = .ok (.aload_n 0, 1) := by decide +kernel
theorem dX4_noted_5 : decode cX4_noted 5 = .ok (.getfield 18, 3) := by decide +kernel
theorem dX4_noted_8 : decode cX4_noted 8 = .ok (.aaload, 1) := by decide +kernel
theorem dX4_noted_9 : decode cX4_noted 9 = .ok (.areturn, 1) := by decide +kernel
abbrev rmX4_noted : Room := { frames := 2, cells := 0, slots := 0, locals := 60 }
set_option maxHeartbeats 4000000 in
set_option maxRecDepth 100000 in
theorem metX4_noted {l : Launch} {s0 : State} {b B : Nat} {D : va_G} {T : Nat → ClassId} (F : FX l s0 b D T B) {X : Nat → Prop} (hX : ∀ o, o < 560 → ¬ X (B + o)) {N : Nat} {μ : Mem} {a0 : Nat} {r : Nat} (k0 : IsHi a0) (h : fX4_noted N μ a0 = some r) : gMet l yX4_noted cX4_noted 1 (some (.object "AvalancheGallery$State")) rmX4_noted [.ref (B + a0)] (gWC s0 D T B μ) (KC s0 X) (some (.ref (B + r))) (gWC s0 D T B μ) (gA B X) 0 0 := by
  refine gR_of RX4 (by decide +kernel) rfl (Nat.le_of_ble_eq_true rfl) ?_
  intro p e s m args below meth c ls Q hx hb hlocks hml hown hts hW hk hl hS hend
  have hC := FX_C F hk hx hb hown hts
  have hA := gA_all hX
  have hl : lv_has ls 1 [(0, .ref (B + a0))] := hl
  unfold fX4_noted at h
  refine lv_aload_n hx hb dX4_noted_0 rfl (lv_at hl 0 rfl) ?_
  refine gw_get (v := .ref (B + (a0 + 1))) hC hW fl_X4_11 k0.1 (k0.2.1 (gfm s0) T B (μ a0)) rfl dX4_noted_1 ?_
  refine lv_aload_n hx hb dX4_noted_4 rfl (lv_at hl 0 rfl) ?_
  refine gw_get (v := .int (μ a0 1)) hC hW fl_X4_18.1 k0.1 (k0.2.1 (gfm s0) T B (μ a0)) rfl dX4_noted_5 ?_
  obtain ⟨q1, e2, hq3, hi4, h⟩ := ar_o h
  refine gq_aald hC hW k0.2.2.1 (k0.2.2.2.1 (gfm s0) T B (μ (a0 + 1))) (t0 := 4) rfl rfl e2 hi4 dX4_noted_8 ?_
  cases h
  exact hend dX4_noted_9 hW hS (Nat.le_of_ble_eq_true rfl) (Nat.le_of_ble_eq_true rfl)
theorem kdX4_noted {N : Nat} {μ : Mem} {a0 r : Nat} (k0 : IsHi a0) (h : fX4_noted N μ a0 = some r) : IsSt r := by
  unfold fX4_noted at h
  obtain ⟨q, e, hq, hi, h⟩ := ar_o h
  cases h
  exact k0.2.2.2.2 q hq

theorem dX4_keep_0 : decode cX4_keep 0 = .ok (.aload_n 0, 1) := by decide +kernel
theorem dX4_keep_1 : decode cX4_keep 1 = .ok (.aload_n 0, 1) := by decide +kernel
theorem dX4_keep_2 : decode cX4_keep 2 = .ok (.getfield 18, 3) := by decide +kernel
theorem dX4_keep_5 : decode cX4_keep 5 = .ok (.iconst 1, 1) := by decide +kernel
theorem dX4_keep_6 : decode cX4_keep 6 = .ok (.iadd, 1) := by decide +kernel
theorem dX4_keep_7 : decode cX4_keep 7 = .ok (.bipush 9, 2) := by decide +kernel
theorem dX4_keep_9 : decode cX4_keep 9 = .ok (.irem, 1) := by decide +kernel
theorem dX4_keep_10 : decode cX4_keep 10 = .ok (.putfield 18, 3) := by decide +kernel
theorem dX4_keep_13 : decode cX4_keep 13 = .ok (.aload_n 0, 1) := by decide +kernel
theorem dX4_keep_14 : decode cX4_keep 14 = .ok (.aload_n 0, 1) := by decide +kernel
theorem dX4_keep_15 : decode cX4_keep 15 = .ok (.getfield 26, 3) := by decide +kernel
theorem dX4_keep_18 : decode cX4_keep 18 = .ok (.iconst 1, 1) := by decide +kernel
theorem dX4_keep_19 : decode cX4_keep 19 = .ok (.iadd, 1) := by decide +kernel
theorem dX4_keep_20 : decode cX4_keep 20 = .ok (.bipush 8, 2) := by decide +kernel
theorem dX4_keep_22 : decode cX4_keep 22 = .ok (.invokestatic 29, 3) := by decide +kernel
theorem dX4_keep_25 : decode cX4_keep 25 = .ok (.putfield 26, 3) := by decide +kernel
theorem dX4_keep_28 : decode cX4_keep 28 = .ok (.return_, 1) := by decide +kernel
abbrev rmX4_keep : Room := { frames := 2, cells := 0, slots := 0, locals := 60 }
set_option maxHeartbeats 4000000 in
set_option maxRecDepth 100000 in
theorem metX4_keep {l : Launch} {s0 : State} {b B : Nat} {D : va_G} {T : Nat → ClassId} (F : FX l s0 b D T B) {X : Nat → Prop} (hX : ∀ o, o < 560 → ¬ X (B + o)) {N : Nat} {μ : Mem} {a0 : Nat} {r : Mem} (k0 : IsHi a0) (h : fX4_keep N μ a0 = some r) : gMet l yX4_keep cX4_keep 1 none rmX4_keep [.ref (B + a0)] (gWC s0 D T B μ) (KC s0 X) none (gWC s0 D T B r) (gA B X) 0 0 := by
  refine gV_of RX4 (by decide +kernel) rfl (Nat.le_of_ble_eq_true rfl) ?_
  intro p e s m args below meth c ls Q hx hb hlocks hml hown hts hW hk hl hS hend
  have hC := FX_C F hk hx hb hown hts
  have hA := gA_all hX
  have hl : lv_has ls 1 [(0, .ref (B + a0))] := hl
  unfold fX4_keep at h
  refine lv_aload_n hx hb dX4_keep_0 rfl (lv_at hl 0 rfl) ?_
  refine lv_aload_n hx hb dX4_keep_1 rfl (lv_at hl 0 rfl) ?_
  refine gw_get (v := .int (μ a0 1)) hC hW fl_X4_18.1 k0.1 (k0.2.1 (gfm s0) T B (μ a0)) rfl dX4_keep_2 ?_
  refine lv_iconst (v := 1) hx hb dX4_keep_5 (by decide) ?_
  refine lv_iadd hx hb dX4_keep_6 ?_
  refine lv_bipush (v := 9) hx hb dX4_keep_7 (by decide) ?_
  refine lv_irem hx hb dX4_keep_9 (by decide) ?_
  obtain ⟨μ1, e2, h⟩ := lt_out h
  refine gq_put hC hS hW hA fl_X4_18 k0.1 (k0.2.1 (gfm s0) T B) (Nat.le_of_ble_eq_true rfl) rfl rfl rfl e2 dX4_keep_10 (fun H locs hW hS => ?_)
  refine lv_aload_n hx hb dX4_keep_13 rfl (lv_at hl 0 rfl) ?_
  refine lv_aload_n hx hb dX4_keep_14 rfl (lv_at hl 0 rfl) ?_
  refine gw_get (v := .int (μ1 a0 2)) hC hW fl_X4_26.1 k0.1 (k0.2.1 (gfm s0) T B (μ1 a0)) rfl dX4_keep_15 ?_
  refine lv_iconst (v := 1) hx hb dX4_keep_18 (by decide) ?_
  refine lv_iadd hx hb dX4_keep_19 ?_
  refine lv_bipush (v := 8) hx hb dX4_keep_20 (by decide) ?_
  refine gw_min hC (hml.trans hl.1.symm) lm_X4_29 lb_min.1 lb_min.2.1 lb_min.2.2 (Nat.le_of_ble_eq_true rfl) (Nat.le_of_ble_eq_true rfl) (Nat.le_of_ble_eq_true rfl) (Nat.le_of_ble_eq_true rfl) dX4_keep_22 ?_
  obtain ⟨μ3, e4, h⟩ := lt_out h
  refine gq_put hC hS hW hA fl_X4_26 k0.1 (k0.2.1 (gfm s0) T B) (Nat.le_of_ble_eq_true rfl) rfl rfl rfl e4 dX4_keep_25 (fun H locs hW hS => ?_)
  cases h
  exact hend dX4_keep_28 hW hS (Nat.le_of_ble_eq_true rfl) (Nat.le_of_ble_eq_true rfl)

theorem dX4_stepBack_0 : decode cX4_stepBack 0 = .ok (.aload_n 0, 1) := by decide +kernel
theorem dX4_stepBack_1 : decode cX4_stepBack 1 = .ok (.aload_n 0, 1) := by decide +kernel
theorem dX4_stepBack_2 : decode cX4_stepBack 2 = .ok (.getfield 18, 3) := by decide +kernel
theorem dX4_stepBack_5 : decode cX4_stepBack 5 = .ok (.bipush 8, 2) := by decide +kernel
theorem dX4_stepBack_7 : decode cX4_stepBack 7 = .ok (.iadd, 1) := by decide +kernel
theorem dX4_stepBack_8 : decode cX4_stepBack 8 = .ok (.bipush 9, 2) := by decide +kernel
theorem dX4_stepBack_10 : decode cX4_stepBack 10 = .ok (.irem, 1) := by decide +kernel
theorem dX4_stepBack_11 : decode cX4_stepBack 11 = .ok (.putfield 18, 3) := by decide +kernel
theorem dX4_stepBack_14 : decode cX4_stepBack 14 = .ok (.aload_n 0, 1) := by decide +kernel
theorem dX4_stepBack_15 : decode cX4_stepBack 15 = .ok (.dup, 1) := by decide +kernel
theorem dX4_stepBack_16 : decode cX4_stepBack 16 = .ok (.getfield 26, 3) := by decide +kernel
theorem dX4_stepBack_19 : decode cX4_stepBack 19 = .ok (.iconst 1, 1) := by decide +kernel
theorem dX4_stepBack_20 : decode cX4_stepBack 20 = .ok (.isub, 1) := by decide +kernel
theorem dX4_stepBack_21 : decode cX4_stepBack 21 = .ok (.putfield 26, 3) := by decide +kernel
theorem dX4_stepBack_24 : decode cX4_stepBack 24 = .ok (.return_, 1) := by decide +kernel
abbrev rmX4_stepBack : Room := { frames := 2, cells := 0, slots := 0, locals := 60 }
set_option maxHeartbeats 4000000 in
set_option maxRecDepth 100000 in
theorem metX4_stepBack {l : Launch} {s0 : State} {b B : Nat} {D : va_G} {T : Nat → ClassId} (F : FX l s0 b D T B) {X : Nat → Prop} (hX : ∀ o, o < 560 → ¬ X (B + o)) {N : Nat} {μ : Mem} {a0 : Nat} {r : Mem} (k0 : IsHi a0) (h : fX4_stepBack N μ a0 = some r) : gMet l yX4_stepBack cX4_stepBack 1 none rmX4_stepBack [.ref (B + a0)] (gWC s0 D T B μ) (KC s0 X) none (gWC s0 D T B r) (gA B X) 0 0 := by
  refine gV_of RX4 (by decide +kernel) rfl (Nat.le_of_ble_eq_true rfl) ?_
  intro p e s m args below meth c ls Q hx hb hlocks hml hown hts hW hk hl hS hend
  have hC := FX_C F hk hx hb hown hts
  have hA := gA_all hX
  have hl : lv_has ls 1 [(0, .ref (B + a0))] := hl
  unfold fX4_stepBack at h
  refine lv_aload_n hx hb dX4_stepBack_0 rfl (lv_at hl 0 rfl) ?_
  refine lv_aload_n hx hb dX4_stepBack_1 rfl (lv_at hl 0 rfl) ?_
  refine gw_get (v := .int (μ a0 1)) hC hW fl_X4_18.1 k0.1 (k0.2.1 (gfm s0) T B (μ a0)) rfl dX4_stepBack_2 ?_
  refine lv_bipush (v := 8) hx hb dX4_stepBack_5 (by decide) ?_
  refine lv_iadd hx hb dX4_stepBack_7 ?_
  refine lv_bipush (v := 9) hx hb dX4_stepBack_8 (by decide) ?_
  refine lv_irem hx hb dX4_stepBack_10 (by decide) ?_
  obtain ⟨μ1, e2, h⟩ := lt_out h
  refine gq_put hC hS hW hA fl_X4_18 k0.1 (k0.2.1 (gfm s0) T B) (Nat.le_of_ble_eq_true rfl) rfl rfl rfl e2 dX4_stepBack_11 (fun H locs hW hS => ?_)
  refine lv_aload_n hx hb dX4_stepBack_14 rfl (lv_at hl 0 rfl) ?_
  refine lv_dup hx hb dX4_stepBack_15 rfl ?_
  refine gw_get (v := .int (μ1 a0 2)) hC hW fl_X4_26.1 k0.1 (k0.2.1 (gfm s0) T B (μ1 a0)) rfl dX4_stepBack_16 ?_
  refine lv_iconst (v := 1) hx hb dX4_stepBack_19 (by decide) ?_
  refine lv_isub hx hb dX4_stepBack_20 ?_
  obtain ⟨μ3, e4, h⟩ := lt_out h
  refine gq_put hC hS hW hA fl_X4_26 k0.1 (k0.2.1 (gfm s0) T B) (Nat.le_of_ble_eq_true rfl) rfl rfl rfl e4 dX4_stepBack_21 (fun H locs hW hS => ?_)
  cases h
  exact hend dX4_stepBack_24 hW hS (Nat.le_of_ble_eq_true rfl) (Nat.le_of_ble_eq_true rfl)

theorem dX5_sortByLastDays_0 : decode cX5_sortByLastDays 0 = .ok (.iconst 0, 1) := by decide +kernel
theorem dX5_sortByLastDays_1 : decode cX5_sortByLastDays 1 = .ok (.istore_n 2, 1) := by decide +kernel
theorem dX5_sortByLastDays_2 : decode cX5_sortByLastDays 2 = .ok (.iload_n 2, 1) := by decide +kernel
theorem dX5_sortByLastDays_3 : decode cX5_sortByLastDays 3 = .ok (.aload_n 1, 1) := by decide +kernel
theorem dX5_sortByLastDays_4 : decode cX5_sortByLastDays 4 = .ok (.getfield 22, 3) := by decide +kernel
theorem dX5_sortByLastDays_7 : decode cX5_sortByLastDays 7 = .ok (.if_icmp .ge 79, 3) := by decide +kernel
theorem dX5_sortByLastDays_10 : decode cX5_sortByLastDays 10 = .ok (.iload_n 2, 1) := by decide +kernel
theorem dX5_sortByLastDays_11 : decode cX5_sortByLastDays 11 = .ok (.istore_n 3, 1) := by decide +kernel
theorem dX5_sortByLastDays_12 : decode cX5_sortByLastDays 12 = .ok (.iload_n 2, 1) := by decide +kernel
theorem dX5_sortByLastDays_13 : decode cX5_sortByLastDays 13 = .ok (.istore 4, 2) := by decide +kernel
theorem dX5_sortByLastDays_15 : decode cX5_sortByLastDays 15 = .ok (.iload 4, 2) := by decide +kernel
theorem dX5_sortByLastDays_17 : decode cX5_sortByLastDays 17 = .ok (.ifCond .le 56, 3) := by decide +kernel
theorem dX5_sortByLastDays_20 : decode cX5_sortByLastDays 20 = .ok (.aload_n 1, 1) := by decide +kernel
theorem dX5_sortByLastDays_21 : decode cX5_sortByLastDays 21 = .ok (.getfield 48, 3) := by decide +kernel
theorem dX5_sortByLastDays_24 : decode cX5_sortByLastDays 24 = .ok (.aload_n 0, 1) := by decide +kernel
theorem dX5_sortByLastDays_25 : decode cX5_sortByLastDays 25 = .ok (.getfield 9, 3) := by decide +kernel
theorem dX5_sortByLastDays_28 : decode cX5_sortByLastDays 28 = .ok (.iload 4, 2) := by decide +kernel
theorem dX5_sortByLastDays_30 : decode cX5_sortByLastDays 30 = .ok (.iconst 1, 1) := by decide +kernel
theorem dX5_sortByLastDays_31 : decode cX5_sortByLastDays 31 = .ok (.isub, 1) := by decide +kernel
theorem dX5_sortByLastDays_32 : decode cX5_sortByLastDays 32 = .ok (.iaload, 1) := by decide +kernel
theorem dX5_sortByLastDays_33 : decode cX5_sortByLastDays 33 = .ok (.iaload, 1) := by decide +kernel
theorem dX5_sortByLastDays_34 : decode cX5_sortByLastDays 34 = .ok (.aload_n 1, 1) := by decide +kernel
theorem dX5_sortByLastDays_35 : decode cX5_sortByLastDays 35 = .ok (.getfield 48, 3) := by decide +kernel
theorem dX5_sortByLastDays_38 : decode cX5_sortByLastDays 38 = .ok (.iload_n 2, 1) := by decide +kernel
theorem dX5_sortByLastDays_39 : decode cX5_sortByLastDays 39 = .ok (.iaload, 1) := by decide +kernel
theorem dX5_sortByLastDays_40 : decode cX5_sortByLastDays 40 = .ok (.if_icmp .gt 6, 3) := by decide +kernel
theorem dX5_sortByLastDays_43 : decode cX5_sortByLastDays 43 = .ok (.goto 30, 3) := by decide +kernel
theorem dX5_sortByLastDays_46 : decode cX5_sortByLastDays 46 = .ok (.aload_n 0, 1) := by decide +kernel
theorem dX5_sortByLastDays_47 : decode cX5_sortByLastDays 47 = .ok (.getfield 9, 3) := by decide +kernel
theorem dX5_sortByLastDays_50 : decode cX5_sortByLastDays 50 = .ok (.iload 4, 2) := by decide +kernel
theorem dX5_sortByLastDays_52 : decode cX5_sortByLastDays 52 = .ok (.aload_n 0, 1) := by decide +kernel
theorem dX5_sortByLastDays_53 : decode cX5_sortByLastDays 53 = .ok (.getfield 9, 3) := by decide +kernel
theorem dX5_sortByLastDays_56 : decode cX5_sortByLastDays 56 = .ok (.iload 4, 2) := by decide +kernel
theorem dX5_sortByLastDays_58 : decode cX5_sortByLastDays 58 = .ok (.iconst 1, 1) := by decide +kernel
theorem dX5_sortByLastDays_59 : decode cX5_sortByLastDays 59 = .ok (.isub, 1) := by decide +kernel
theorem dX5_sortByLastDays_60 : decode cX5_sortByLastDays 60 = .ok (.iaload, 1) := by decide +kernel
theorem dX5_sortByLastDays_61 : decode cX5_sortByLastDays 61 = .ok (.iastore, 1) := by decide +kernel
theorem dX5_sortByLastDays_62 : decode cX5_sortByLastDays 62 = .ok (.iload 4, 2) := by decide +kernel
theorem dX5_sortByLastDays_64 : decode cX5_sortByLastDays 64 = .ok (.iconst 1, 1) := by decide +kernel
theorem dX5_sortByLastDays_65 : decode cX5_sortByLastDays 65 = .ok (.isub, 1) := by decide +kernel
theorem dX5_sortByLastDays_66 : decode cX5_sortByLastDays 66 = .ok (.istore_n 3, 1) := by decide +kernel
theorem dX5_sortByLastDays_67 : decode cX5_sortByLastDays 67 = .ok (.iinc 4 (-1), 3) := by decide +kernel
theorem dX5_sortByLastDays_70 : decode cX5_sortByLastDays 70 = .ok (.goto (-55), 3) := by decide +kernel
theorem dX5_sortByLastDays_73 : decode cX5_sortByLastDays 73 = .ok (.aload_n 0, 1) := by decide +kernel
theorem dX5_sortByLastDays_74 : decode cX5_sortByLastDays 74 = .ok (.getfield 9, 3) := by decide +kernel
theorem dX5_sortByLastDays_77 : decode cX5_sortByLastDays 77 = .ok (.iload_n 3, 1) := by decide +kernel
theorem dX5_sortByLastDays_78 : decode cX5_sortByLastDays 78 = .ok (.iload_n 2, 1) := by decide +kernel
theorem dX5_sortByLastDays_79 : decode cX5_sortByLastDays 79 = .ok (.iastore, 1) := by decide +kernel
theorem dX5_sortByLastDays_80 : decode cX5_sortByLastDays 80 = .ok (.iinc 2 1, 3) := by decide +kernel
theorem dX5_sortByLastDays_83 : decode cX5_sortByLastDays 83 = .ok (.goto (-81), 3) := by decide +kernel
theorem dX5_sortByLastDays_86 : decode cX5_sortByLastDays 86 = .ok (.return_, 1) := by decide +kernel
abbrev rmX5_sortByLastDays : Room := { frames := 2, cells := 0, slots := 0, locals := 60 }
set_option maxHeartbeats 4000000 in
set_option maxRecDepth 100000 in
theorem metX5_sortByLastDays {l : Launch} {s0 : State} {b B : Nat} {D : va_G} {T : Nat → ClassId} (F : FX l s0 b D T B) {X : Nat → Prop} (hX : ∀ o, o < 560 → ¬ X (B + o)) {N : Nat} {μ : Mem} {a0 : Nat} {a1 : Nat} {r : Mem} (k0 : IsLe a0) (k1 : IsEx a1) (h : fX5_sortByLastDays N μ a0 a1 = some r) : gMet l yX5_sortByLastDays cX5_sortByLastDays 5 none rmX5_sortByLastDays [.ref (B + a0), .ref (B + a1)] (gWC s0 D T B μ) (KC s0 X) none (gWC s0 D T B r) (gA B X) 0 0 := by
  refine gV_of RX5 (by decide +kernel) rfl (Nat.le_of_ble_eq_true rfl) ?_
  intro p e s m args below meth c ls Q hx hb hlocks hml hown hts hW hk hl hS hend
  have hC := FX_C F hk hx hb hown hts
  have hA := gA_all hX
  have hl : lv_has ls 5 [(0, .ref (B + a0)), (1, .ref (B + a1))] := hl
  unfold fX5_sortByLastDays at h
  refine lv_iconst (v := 0) hx hb dX5_sortByLastDays_0 (by decide) ?_
  refine lv_istore_n (lv' := [(2, .int 0), (0, .ref (B + a0)), (1, .ref (B + a1))]) hx hb dX5_sortByLastDays_1 rfl hl (by decide) rfl (fun ls hl => ?_)
  refine fix2_ind (fun (x1 : Int32) (μ2 : Mem) => ∀ (H : Heap) (locs : List Loc) (ls : Array Slot), gWC s0 D T B μ2 H → va_S (gA B X) s.heap H locs → lv_has ls 5 [(0, .ref (B + a0)), (1, .ref (B + a1)), (2, .int x1)] → W p l e rmX5_sortByLastDays s m args below meth c H locs 0 0 Q (F0 m 2 ls [])) ?_ N _ _ h _ _ _ hW hS (lv_sub hl [1, 2, 0] rfl)
  clear h hW hS hl
  intro self3 IH4 x1 μ2 h H locs ls hW hS hl
  refine lv_iload_n hx hb dX5_sortByLastDays_2 rfl (lv_at hl 2 rfl) ?_
  refine lv_aload_n hx hb dX5_sortByLastDays_3 rfl (lv_at hl 1 rfl) ?_
  refine gw_get (v := .int (μ2 a1 6)) hC hW fl_X5_22.1 k1.1 (k1.2.1 (gfm s0) T B (μ2 a1)) rfl dX5_sortByLastDays_4 ?_
  refine lv_icmp_ge (tgt := 86) hx hb dX5_sortByLastDays_7 (by decide) (fun c5 => ?_) (fun c5 => ?_)
  · replace h := ite_t c5 h
    cases h
    exact hend dX5_sortByLastDays_86 hW hS (Nat.le_of_ble_eq_true rfl) (Nat.le_of_ble_eq_true rfl)
  · replace h := ite_f c5 h
    refine lv_iload_n hx hb dX5_sortByLastDays_10 rfl (lv_at hl 2 rfl) ?_
    refine lv_istore_n (lv' := [(3, .int x1), (0, .ref (B + a0)), (1, .ref (B + a1)), (2, .int x1)]) hx hb dX5_sortByLastDays_11 rfl hl (by decide) rfl (fun ls hl => ?_)
    refine lv_iload_n hx hb dX5_sortByLastDays_12 rfl (lv_at hl 3 rfl) ?_
    refine lv_istore (lv' := [(4, .int x1), (3, .int x1), (0, .ref (B + a0)), (1, .ref (B + a1)), (2, .int x1)]) hx hb dX5_sortByLastDays_13 hl (by decide) rfl (fun ls hl => ?_)
    refine fix3_ind (fun (x6 : Int32) (x7 : Int32) (μ8 : Mem) => ∀ (H : Heap) (locs : List Loc) (ls : Array Slot), gWC s0 D T B μ8 H → va_S (gA B X) s.heap H locs → lv_has ls 5 [(0, .ref (B + a0)), (1, .ref (B + a1)), (2, .int x1), (3, .int x6), (4, .int x7)] → W p l e rmX5_sortByLastDays s m args below meth c H locs 0 0 Q (F0 m 15 ls [])) ?_ N _ _ _ h _ _ _ hW hS (lv_sub hl [2, 3, 4, 1, 0] rfl)
    clear h hW hS hl
    intro self9 IH10 x6 x7 μ8 h H locs ls hW hS hl
    refine lv_iload hx hb dX5_sortByLastDays_15 (lv_at hl 4 rfl) ?_
    obtain ⟨j12, hj14, h⟩ := jn1_o h
    have J13 : ∀ (u11 : Unit), j12 u11 = some r → ∀ (H : Heap) (locs : List Loc) (ls : Array Slot), gWC s0 D T B μ8 H → va_S (gA B X) s.heap H locs → lv_has ls 5 [(0, .ref (B + a0)), (1, .ref (B + a1)), (2, .int x1), (3, .int x6)] → W p l e rmX5_sortByLastDays s m args below meth c H locs 0 0 Q (F0 m 73 ls []) := by
      clear h hW hS hl
      intro u11 h H locs ls hW hS hl
      replace h := (hj14 u11).symm.trans h
      refine lv_aload_n hx hb dX5_sortByLastDays_73 rfl (lv_at hl 0 rfl) ?_
      refine gw_get (v := .ref (B + (a0 + 1))) hC hW fl_X5_9 k0.1 (k0.2.1 (gfm s0) T B (μ8 a0)) rfl dX5_sortByLastDays_74 ?_
      refine lv_iload_n hx hb dX5_sortByLastDays_77 rfl (lv_at hl 3 rfl) ?_
      refine lv_iload_n hx hb dX5_sortByLastDays_78 rfl (lv_at hl 2 rfl) ?_
      obtain ⟨μ15, e16, hi17, h⟩ := aw_o h
      refine gq_iast hC hS hW hA k0.2.2.1.1 (k0.2.2.1.2 (gfm s0) T B) (t0 := 0) rfl e16 hi17 dX5_sortByLastDays_79 (fun H locs hW hS => ?_)
      obtain ⟨v18, e19, h⟩ := lt_out h
      refine lv_iinc (v := v18) (lv' := [(2, .int v18), (0, .ref (B + a0)), (1, .ref (B + a1)), (3, .int x6)]) hx hb dX5_sortByLastDays_80 hl (k := 2) rfl (by rw [e19]; rfl) (by decide) rfl (fun ls hl => ?_)
      refine lv_goto (tgt := 2) hx hb dX5_sortByLastDays_83 (by decide) ?_
      exact IH4 _ _ h _ _ _ hW hS (lv_sub hl [1, 2, 0] rfl)
    refine lv_if_le (tgt := 73) hx hb dX5_sortByLastDays_17 (by decide) (fun c20 => ?_) (fun c20 => ?_)
    · replace h := ite_t c20 h
      exact J13 _ h _ _ _ hW hS (lv_sub hl [0, 1, 2, 3] rfl)
    · replace h := ite_f c20 h
      refine lv_aload_n hx hb dX5_sortByLastDays_20 rfl (lv_at hl 1 rfl) ?_
      refine gw_get (v := .ref (B + (a1 + 3))) hC hW fl_X5_48 k1.1 (k1.2.1 (gfm s0) T B (μ8 a1)) rfl dX5_sortByLastDays_21 ?_
      refine lv_aload_n hx hb dX5_sortByLastDays_24 rfl (lv_at hl 0 rfl) ?_
      refine gw_get (v := .ref (B + (a0 + 1))) hC hW fl_X5_9 k0.1 (k0.2.1 (gfm s0) T B (μ8 a0)) rfl dX5_sortByLastDays_25 ?_
      refine lv_iload hx hb dX5_sortByLastDays_28 (lv_at hl 4 rfl) ?_
      refine lv_iconst (v := 1) hx hb dX5_sortByLastDays_30 (by decide) ?_
      refine lv_isub hx hb dX5_sortByLastDays_31 ?_
      obtain ⟨v21, e22, hi23, h⟩ := ag_o h
      refine gq_iald hC hW k0.2.2.1.1 (k0.2.2.1.2 (gfm s0) T B (μ8 (a0 + 1))) (t0 := 0) rfl e22 hi23 dX5_sortByLastDays_32 ?_
      obtain ⟨v24, e25, hi26, h⟩ := ag_o h
      refine gq_iald hC hW k1.2.2.2.2.1.1 (k1.2.2.2.2.1.2 (gfm s0) T B (μ8 (a1 + 3))) (t0 := 0) rfl e25 hi26 dX5_sortByLastDays_33 ?_
      refine lv_aload_n hx hb dX5_sortByLastDays_34 rfl (lv_at hl 1 rfl) ?_
      refine gw_get (v := .ref (B + (a1 + 3))) hC hW fl_X5_48 k1.1 (k1.2.1 (gfm s0) T B (μ8 a1)) rfl dX5_sortByLastDays_35 ?_
      refine lv_iload_n hx hb dX5_sortByLastDays_38 rfl (lv_at hl 2 rfl) ?_
      obtain ⟨v27, e28, hi29, h⟩ := ag_o h
      refine gq_iald hC hW k1.2.2.2.2.1.1 (k1.2.2.2.2.1.2 (gfm s0) T B (μ8 (a1 + 3))) (t0 := 0) rfl e28 hi29 dX5_sortByLastDays_39 ?_
      refine lv_icmp_gt (tgt := 46) hx hb dX5_sortByLastDays_40 (by decide) (fun c30 => ?_) (fun c30 => ?_)
      · replace h := ite_t c30 h
        refine lv_aload_n hx hb dX5_sortByLastDays_46 rfl (lv_at hl 0 rfl) ?_
        refine gw_get (v := .ref (B + (a0 + 1))) hC hW fl_X5_9 k0.1 (k0.2.1 (gfm s0) T B (μ8 a0)) rfl dX5_sortByLastDays_47 ?_
        refine lv_iload hx hb dX5_sortByLastDays_50 (lv_at hl 4 rfl) ?_
        refine lv_aload_n hx hb dX5_sortByLastDays_52 rfl (lv_at hl 0 rfl) ?_
        refine gw_get (v := .ref (B + (a0 + 1))) hC hW fl_X5_9 k0.1 (k0.2.1 (gfm s0) T B (μ8 a0)) rfl dX5_sortByLastDays_53 ?_
        refine lv_iload hx hb dX5_sortByLastDays_56 (lv_at hl 4 rfl) ?_
        refine lv_iconst (v := 1) hx hb dX5_sortByLastDays_58 (by decide) ?_
        refine lv_isub hx hb dX5_sortByLastDays_59 ?_
        obtain ⟨v31, e32, hi33, h⟩ := ag_o h
        refine gq_iald hC hW k0.2.2.1.1 (k0.2.2.1.2 (gfm s0) T B (μ8 (a0 + 1))) (t0 := 0) rfl e32 hi33 dX5_sortByLastDays_60 ?_
        obtain ⟨μ34, e35, hi36, h⟩ := aw_o h
        refine gq_iast hC hS hW hA k0.2.2.1.1 (k0.2.2.1.2 (gfm s0) T B) (t0 := 0) rfl e35 hi36 dX5_sortByLastDays_61 (fun H locs hW hS => ?_)
        refine lv_iload hx hb dX5_sortByLastDays_62 (lv_at hl 4 rfl) ?_
        refine lv_iconst (v := 1) hx hb dX5_sortByLastDays_64 (by decide) ?_
        refine lv_isub hx hb dX5_sortByLastDays_65 ?_
        obtain ⟨v37, e38, h⟩ := lt_out h
        rw [← e38]
        refine lv_istore_n (lv' := [(3, .int v37), (0, .ref (B + a0)), (1, .ref (B + a1)), (2, .int x1), (4, .int x7)]) hx hb dX5_sortByLastDays_66 rfl hl (by decide) rfl (fun ls hl => ?_)
        obtain ⟨v39, e40, h⟩ := lt_out h
        refine lv_iinc (v := v39) (lv' := [(4, .int v39), (3, .int v37), (0, .ref (B + a0)), (1, .ref (B + a1)), (2, .int x1)]) hx hb dX5_sortByLastDays_67 hl (k := 4) rfl (by rw [e40]; rfl) (by decide) rfl (fun ls hl => ?_)
        refine lv_goto (tgt := 15) hx hb dX5_sortByLastDays_70 (by decide) ?_
        exact IH10 _ _ _ h _ _ _ hW hS (lv_sub hl [2, 3, 4, 1, 0] rfl)
      · replace h := ite_f c30 h
        refine lv_goto (tgt := 73) hx hb dX5_sortByLastDays_43 (by decide) ?_
        exact J13 _ h _ _ _ hW hS (lv_sub hl [0, 1, 2, 3] rfl)

theorem dX5_countEndedBefore_0 : decode cX5_countEndedBefore 0 = .ok (.iconst 0, 1) := by decide +kernel
theorem dX5_countEndedBefore_1 : decode cX5_countEndedBefore 1 = .ok (.istore_n 2, 1) := by decide +kernel
theorem dX5_countEndedBefore_2 : decode cX5_countEndedBefore 2 = .ok (.iconst 0, 1) := by decide +kernel
theorem dX5_countEndedBefore_3 : decode cX5_countEndedBefore 3 = .ok (.istore_n 3, 1) := by decide +kernel
theorem dX5_countEndedBefore_4 : decode cX5_countEndedBefore 4 = .ok (.iload_n 3, 1) := by decide +kernel
theorem dX5_countEndedBefore_5 : decode cX5_countEndedBefore 5 = .ok (.aload_n 0, 1) := by decide +kernel
theorem dX5_countEndedBefore_6 : decode cX5_countEndedBefore 6 = .ok (.getfield 22, 3) := by decide +kernel
theorem dX5_countEndedBefore_9 : decode cX5_countEndedBefore 9 = .ok (.if_icmp .ge 22, 3) := by decide +kernel
theorem dX5_countEndedBefore_12 : decode cX5_countEndedBefore 12 = .ok (.aload_n 0, 1) := by decide +kernel
theorem dX5_countEndedBefore_13 : decode cX5_countEndedBefore 13 = .ok (.getfield 48, 3) := by decide +kernel
theorem dX5_countEndedBefore_16 : decode cX5_countEndedBefore 16 = .ok (.iload_n 3, 1) := by decide +kernel
theorem dX5_countEndedBefore_17 : decode cX5_countEndedBefore 17 = .ok (.iaload, 1) := by decide +kernel
theorem dX5_countEndedBefore_18 : decode cX5_countEndedBefore 18 = .ok (.iload_n 1, 1) := by decide +kernel
theorem dX5_countEndedBefore_19 : decode cX5_countEndedBefore 19 = .ok (.if_icmp .ge 6, 3) := by decide +kernel
theorem dX5_countEndedBefore_22 : decode cX5_countEndedBefore 22 = .ok (.iinc 2 1, 3) := by decide +kernel
theorem dX5_countEndedBefore_25 : decode cX5_countEndedBefore 25 = .ok (.iinc 3 1, 3) := by decide +kernel
theorem dX5_countEndedBefore_28 : decode cX5_countEndedBefore 28 = .ok (.goto (-24), 3) := by decide +kernel
theorem dX5_countEndedBefore_31 : decode cX5_countEndedBefore 31 = .ok (.iload_n 2, 1) := by decide +kernel
theorem dX5_countEndedBefore_32 : decode cX5_countEndedBefore 32 = .ok (.ireturn, 1) := by decide +kernel
abbrev rmX5_countEndedBefore : Room := { frames := 2, cells := 0, slots := 0, locals := 60 }
set_option maxHeartbeats 4000000 in
set_option maxRecDepth 100000 in
theorem metX5_countEndedBefore {l : Launch} {s0 : State} {b B : Nat} {D : va_G} {T : Nat → ClassId} (F : FX l s0 b D T B) {X : Nat → Prop} (hX : ∀ o, o < 560 → ¬ X (B + o)) {N : Nat} {μ : Mem} {a0 : Nat} {a1 : Int32} {r : Int32} (k0 : IsEx a0) (h : fX5_countEndedBefore N μ a0 a1 = some r) : gMet l yX5_countEndedBefore cX5_countEndedBefore 4 (some .int) rmX5_countEndedBefore [.ref (B + a0), .int a1] (gWC s0 D T B μ) (KC s0 X) (some (.int r)) (gWC s0 D T B μ) (gA B X) 0 0 := by
  refine gI_of RX5 (by decide +kernel) rfl (Nat.le_of_ble_eq_true rfl) ?_
  intro p e s m args below meth c ls Q hx hb hlocks hml hown hts hW hk hl hS hend
  have hC := FX_C F hk hx hb hown hts
  have hA := gA_all hX
  have hl : lv_has ls 4 [(0, .ref (B + a0)), (1, .int a1)] := hl
  unfold fX5_countEndedBefore at h
  refine lv_iconst (v := 0) hx hb dX5_countEndedBefore_0 (by decide) ?_
  refine lv_istore_n (lv' := [(2, .int 0), (0, .ref (B + a0)), (1, .int a1)]) hx hb dX5_countEndedBefore_1 rfl hl (by decide) rfl (fun ls hl => ?_)
  refine lv_iconst (v := 0) hx hb dX5_countEndedBefore_2 (by decide) ?_
  refine lv_istore_n (lv' := [(3, .int 0), (2, .int 0), (0, .ref (B + a0)), (1, .int a1)]) hx hb dX5_countEndedBefore_3 rfl hl (by decide) rfl (fun ls hl => ?_)
  refine fix2_ind (fun (x1 : Int32) (x2 : Int32) => ∀ (H : Heap) (locs : List Loc) (ls : Array Slot), gWC s0 D T B μ H → va_S (gA B X) s.heap H locs → lv_has ls 4 [(0, .ref (B + a0)), (1, .int a1), (2, .int x1), (3, .int x2)] → W p l e rmX5_countEndedBefore s m args below meth c H locs 0 0 Q (F0 m 4 ls [])) ?_ N _ _ h _ _ _ hW hS (lv_sub hl [2, 3, 1, 0] rfl)
  clear h hW hS hl
  intro self3 IH4 x1 x2 h H locs ls hW hS hl
  refine lv_iload_n hx hb dX5_countEndedBefore_4 rfl (lv_at hl 3 rfl) ?_
  refine lv_aload_n hx hb dX5_countEndedBefore_5 rfl (lv_at hl 0 rfl) ?_
  refine gw_get (v := .int (μ a0 6)) hC hW fl_X5_22.1 k0.1 (k0.2.1 (gfm s0) T B (μ a0)) rfl dX5_countEndedBefore_6 ?_
  refine lv_icmp_ge (tgt := 31) hx hb dX5_countEndedBefore_9 (by decide) (fun c5 => ?_) (fun c5 => ?_)
  · replace h := ite_t c5 h
    refine lv_iload_n hx hb dX5_countEndedBefore_31 rfl (lv_at hl 2 rfl) ?_
    cases h
    exact hend dX5_countEndedBefore_32 hW hS (Nat.le_of_ble_eq_true rfl) (Nat.le_of_ble_eq_true rfl)
  · replace h := ite_f c5 h
    refine lv_aload_n hx hb dX5_countEndedBefore_12 rfl (lv_at hl 0 rfl) ?_
    refine gw_get (v := .ref (B + (a0 + 3))) hC hW fl_X5_48 k0.1 (k0.2.1 (gfm s0) T B (μ a0)) rfl dX5_countEndedBefore_13 ?_
    refine lv_iload_n hx hb dX5_countEndedBefore_16 rfl (lv_at hl 3 rfl) ?_
    obtain ⟨v6, e7, hi8, h⟩ := ag_o h
    refine gq_iald hC hW k0.2.2.2.2.1.1 (k0.2.2.2.2.1.2 (gfm s0) T B (μ (a0 + 3))) (t0 := 0) rfl e7 hi8 dX5_countEndedBefore_17 ?_
    refine lv_iload_n hx hb dX5_countEndedBefore_18 rfl (lv_at hl 1 rfl) ?_
    obtain ⟨j10, hj12, h⟩ := jn1_o h
    have J11 : ∀ (y9 : Int32), j10 y9 = some r → ∀ (H : Heap) (locs : List Loc) (ls : Array Slot), gWC s0 D T B μ H → va_S (gA B X) s.heap H locs → lv_has ls 4 [(0, .ref (B + a0)), (1, .int a1), (2, .int y9), (3, .int x2)] → W p l e rmX5_countEndedBefore s m args below meth c H locs 0 0 Q (F0 m 25 ls []) := by
      clear h hW hS hl
      intro y9 h H locs ls hW hS hl
      replace h := (hj12 y9).symm.trans h
      obtain ⟨v13, e14, h⟩ := lt_out h
      refine lv_iinc (v := v13) (lv' := [(3, .int v13), (0, .ref (B + a0)), (1, .int a1), (2, .int y9)]) hx hb dX5_countEndedBefore_25 hl (k := 3) rfl (by rw [e14]; rfl) (by decide) rfl (fun ls hl => ?_)
      refine lv_goto (tgt := 4) hx hb dX5_countEndedBefore_28 (by decide) ?_
      exact IH4 _ _ h _ _ _ hW hS (lv_sub hl [1, 2, 3, 0] rfl)
    refine lv_icmp_ge (tgt := 25) hx hb dX5_countEndedBefore_19 (by decide) (fun c15 => ?_) (fun c15 => ?_)
    · replace h := ite_t c15 h
      exact J11 _ h _ _ _ hW hS (lv_sub hl [0, 1, 2, 3] rfl)
    · replace h := ite_f c15 h
      obtain ⟨v16, e17, h⟩ := lt_out h
      refine lv_iinc (v := v16) (lv' := [(2, .int v16), (0, .ref (B + a0)), (1, .int a1), (3, .int x2)]) hx hb dX5_countEndedBefore_22 hl (k := 2) rfl (by rw [e17]; rfl) (by decide) rfl (fun ls hl => ?_)
      exact J11 _ h _ _ _ hW hS (lv_sub hl [1, 2, 0, 3] rfl)

theorem dX5_feesByLastDays_0 : decode cX5_feesByLastDays 0 = .ok (.aload_n 0, 1) := by decide +kernel
theorem dX5_feesByLastDays_1 : decode cX5_feesByLastDays 1 = .ok (.aload_n 1, 1) := by decide +kernel
theorem dX5_feesByLastDays_2 : decode cX5_feesByLastDays 2 = .ok (.invokevirtual 18, 3) := by decide +kernel
theorem dX5_feesByLastDays_5 : decode cX5_feesByLastDays 5 = .ok (.iconst 1, 1) := by decide +kernel
theorem dX5_feesByLastDays_6 : decode cX5_feesByLastDays 6 = .ok (.istore_n 2, 1) := by decide +kernel
theorem dX5_feesByLastDays_7 : decode cX5_feesByLastDays 7 = .ok (.iload_n 2, 1) := by decide +kernel
theorem dX5_feesByLastDays_8 : decode cX5_feesByLastDays 8 = .ok (.aload_n 1, 1) := by decide +kernel
theorem dX5_feesByLastDays_9 : decode cX5_feesByLastDays 9 = .ok (.getfield 22, 3) := by decide +kernel
theorem dX5_feesByLastDays_12 : decode cX5_feesByLastDays 12 = .ok (.if_icmp .gt 81, 3) := by decide +kernel
theorem dX5_feesByLastDays_15 : decode cX5_feesByLastDays 15 = .ok (.aload_n 0, 1) := by decide +kernel
theorem dX5_feesByLastDays_16 : decode cX5_feesByLastDays 16 = .ok (.getfield 9, 3) := by decide +kernel
theorem dX5_feesByLastDays_19 : decode cX5_feesByLastDays 19 = .ok (.iload_n 2, 1) := by decide +kernel
theorem dX5_feesByLastDays_20 : decode cX5_feesByLastDays 20 = .ok (.iconst 1, 1) := by decide +kernel
theorem dX5_feesByLastDays_21 : decode cX5_feesByLastDays 21 = .ok (.isub, 1) := by decide +kernel
theorem dX5_feesByLastDays_22 : decode cX5_feesByLastDays 22 = .ok (.iaload, 1) := by decide +kernel
theorem dX5_feesByLastDays_23 : decode cX5_feesByLastDays 23 = .ok (.istore_n 3, 1) := by decide +kernel
theorem dX5_feesByLastDays_24 : decode cX5_feesByLastDays 24 = .ok (.aload_n 0, 1) := by decide +kernel
theorem dX5_feesByLastDays_25 : decode cX5_feesByLastDays 25 = .ok (.getfield 15, 3) := by decide +kernel
theorem dX5_feesByLastDays_28 : decode cX5_feesByLastDays 28 = .ok (.iload_n 2, 1) := by decide +kernel
theorem dX5_feesByLastDays_29 : decode cX5_feesByLastDays 29 = .ok (.aload_n 0, 1) := by decide +kernel
theorem dX5_feesByLastDays_30 : decode cX5_feesByLastDays 30 = .ok (.getfield 15, 3) := by decide +kernel
theorem dX5_feesByLastDays_33 : decode cX5_feesByLastDays 33 = .ok (.iload_n 2, 1) := by decide +kernel
theorem dX5_feesByLastDays_34 : decode cX5_feesByLastDays 34 = .ok (.iconst 1, 1) := by decide +kernel
theorem dX5_feesByLastDays_35 : decode cX5_feesByLastDays 35 = .ok (.isub, 1) := by decide +kernel
theorem dX5_feesByLastDays_36 : decode cX5_feesByLastDays 36 = .ok (.iaload, 1) := by decide +kernel
theorem dX5_feesByLastDays_37 : decode cX5_feesByLastDays 37 = .ok (.iastore, 1) := by decide +kernel
theorem dX5_feesByLastDays_38 : decode cX5_feesByLastDays 38 = .ok (.aload_n 1, 1) := by decide +kernel
theorem dX5_feesByLastDays_39 : decode cX5_feesByLastDays 39 = .ok (.iload_n 3, 1) := by decide +kernel
theorem dX5_feesByLastDays_40 : decode cX5_feesByLastDays 40 = .ok (.invokevirtual 28, 3) := by decide +kernel
theorem dX5_feesByLastDays_43 : decode cX5_feesByLastDays 43 = .ok (.ifCond .eq 44, 3) := by decide +kernel
theorem dX5_feesByLastDays_46 : decode cX5_feesByLastDays 46 = .ok (.aload_n 1, 1) := by decide +kernel
theorem dX5_feesByLastDays_47 : decode cX5_feesByLastDays 47 = .ok (.aload_n 1, 1) := by decide +kernel
theorem dX5_feesByLastDays_48 : decode cX5_feesByLastDays 48 = .ok (.getfield 32, 3) := by decide +kernel
theorem dX5_feesByLastDays_51 : decode cX5_feesByLastDays 51 = .ok (.iload_n 3, 1) := by decide +kernel
theorem dX5_feesByLastDays_52 : decode cX5_feesByLastDays 52 = .ok (.iaload, 1) := by decide +kernel
theorem dX5_feesByLastDays_53 : decode cX5_feesByLastDays 53 = .ok (.invokestatic 35, 3) := by decide +kernel
theorem dX5_feesByLastDays_56 : decode cX5_feesByLastDays 56 = .ok (.istore 4, 2) := by decide +kernel
theorem dX5_feesByLastDays_58 : decode cX5_feesByLastDays 58 = .ok (.aload_n 0, 1) := by decide +kernel
theorem dX5_feesByLastDays_59 : decode cX5_feesByLastDays 59 = .ok (.getfield 15, 3) := by decide +kernel
theorem dX5_feesByLastDays_62 : decode cX5_feesByLastDays 62 = .ok (.iload_n 2, 1) := by decide +kernel
theorem dX5_feesByLastDays_63 : decode cX5_feesByLastDays 63 = .ok (.aload_n 0, 1) := by decide +kernel
theorem dX5_feesByLastDays_64 : decode cX5_feesByLastDays 64 = .ok (.getfield 15, 3) := by decide +kernel
theorem dX5_feesByLastDays_67 : decode cX5_feesByLastDays 67 = .ok (.iload_n 2, 1) := by decide +kernel
theorem dX5_feesByLastDays_68 : decode cX5_feesByLastDays 68 = .ok (.iaload, 1) := by decide +kernel
theorem dX5_feesByLastDays_69 : decode cX5_feesByLastDays 69 = .ok (.aload_n 0, 1) := by decide +kernel
theorem dX5_feesByLastDays_70 : decode cX5_feesByLastDays 70 = .ok (.getfield 15, 3) := by decide +kernel
theorem dX5_feesByLastDays_73 : decode cX5_feesByLastDays 73 = .ok (.iload 4, 2) := by decide +kernel
theorem dX5_feesByLastDays_75 : decode cX5_feesByLastDays 75 = .ok (.iaload, 1) := by decide +kernel
theorem dX5_feesByLastDays_76 : decode cX5_feesByLastDays 76 = .ok (.aload_n 1, 1) := by decide +kernel
theorem dX5_feesByLastDays_77 : decode cX5_feesByLastDays 77 = .ok (.getfield 39, 3) := by decide +kernel
theorem dX5_feesByLastDays_80 : decode cX5_feesByLastDays 80 = .ok (.iload_n 3, 1) := by decide +kernel
theorem dX5_feesByLastDays_81 : decode cX5_feesByLastDays 81 = .ok (.iaload, 1) := by decide +kernel
theorem dX5_feesByLastDays_82 : decode cX5_feesByLastDays 82 = .ok (.iadd, 1) := by decide +kernel
theorem dX5_feesByLastDays_83 : decode cX5_feesByLastDays 83 = .ok (.invokestatic 42, 3) := by decide +kernel
theorem dX5_feesByLastDays_86 : decode cX5_feesByLastDays 86 = .ok (.iastore, 1) := by decide +kernel
theorem dX5_feesByLastDays_87 : decode cX5_feesByLastDays 87 = .ok (.iinc 2 1, 3) := by decide +kernel
theorem dX5_feesByLastDays_90 : decode cX5_feesByLastDays 90 = .ok (.goto (-83), 3) := by decide +kernel
theorem dX5_feesByLastDays_93 : decode cX5_feesByLastDays 93 = .ok (.aload_n 0, 1) := by decide +kernel
theorem dX5_feesByLastDays_94 : decode cX5_feesByLastDays 94 = .ok (.getfield 15, 3) := by decide +kernel
theorem dX5_feesByLastDays_97 : decode cX5_feesByLastDays 97 = .ok (.aload_n 1, 1) := by decide +kernel
theorem dX5_feesByLastDays_98 : decode cX5_feesByLastDays 98 = .ok (.getfield 22, 3) := by decide +kernel
theorem dX5_feesByLastDays_101 : decode cX5_feesByLastDays 101 = .ok (.iaload, 1) := by decide +kernel
theorem dX5_feesByLastDays_102 : decode cX5_feesByLastDays 102 = .ok (.ireturn, 1) := by decide +kernel
abbrev rmX5_feesByLastDays : Room := { frames := 3, cells := 0, slots := 0, locals := 84 }
set_option maxHeartbeats 4000000 in
set_option maxRecDepth 100000 in
theorem metX5_feesByLastDays {l : Launch} {s0 : State} {b B : Nat} {D : va_G} {T : Nat → ClassId} (F : FX l s0 b D T B) {X : Nat → Prop} (hX : ∀ o, o < 560 → ¬ X (B + o)) {N : Nat} {μ : Mem} {a0 : Nat} {a1 : Nat} {r : Mem × Int32} (k0 : IsLe a0) (k1 : IsEx a1) (h : fX5_feesByLastDays N μ a0 a1 = some r) : gMet l yX5_feesByLastDays cX5_feesByLastDays 5 (some .int) rmX5_feesByLastDays [.ref (B + a0), .ref (B + a1)] (gWC s0 D T B μ) (KC s0 X) (some (.int r.2)) (gWC s0 D T B r.1) (gA B X) 0 0 := by
  refine gI_of RX5 (by decide +kernel) rfl (Nat.le_of_ble_eq_true rfl) ?_
  intro p e s m args below meth c ls Q hx hb hlocks hml hown hts hW hk hl hS hend
  have hC := FX_C F hk hx hb hown hts
  have hA := gA_all hX
  have hl : lv_has ls 5 [(0, .ref (B + a0)), (1, .ref (B + a1))] := hl
  unfold fX5_feesByLastDays at h
  refine lv_aload_n hx hb dX5_feesByLastDays_0 rfl (lv_at hl 0 rfl) ?_
  refine lv_aload_n hx hb dX5_feesByLastDays_1 rfl (lv_at hl 1 rfl) ?_
  obtain ⟨r1, hcall, h⟩ := bd_out h
  refine g0_callV (As := [.ref (B + a1)]) hC hml hS hW (KC_at hk hS F.2.2.2.2) KC_blind (metX5_sortByLastDays F hX k0 k1 hcall) ml_X5_18 (gw_recv hC hW k0.1 (k0.2.1 (gfm s0) T B (μ a0)) rfl) ⟨rfl, rfl, (Nat.le_of_ble_eq_true rfl), (Nat.le_of_ble_eq_true rfl)⟩ rfl hl.1 rfl (Nat.le_of_ble_eq_true rfl) dX5_feesByLastDays_2 ⟨(Nat.le_of_ble_eq_true rfl), (Nat.le_of_ble_eq_true rfl)⟩ (fun H locs hW hS => ?_)
  refine lv_iconst (v := 1) hx hb dX5_feesByLastDays_5 (by decide) ?_
  refine lv_istore_n (lv' := [(2, .int 1), (0, .ref (B + a0)), (1, .ref (B + a1))]) hx hb dX5_feesByLastDays_6 rfl hl (by decide) rfl (fun ls hl => ?_)
  refine fix2_ind (fun (x2 : Int32) (μ3 : Mem) => ∀ (H : Heap) (locs : List Loc) (ls : Array Slot), gWC s0 D T B μ3 H → va_S (gA B X) s.heap H locs → lv_has ls 5 [(0, .ref (B + a0)), (1, .ref (B + a1)), (2, .int x2)] → W p l e rmX5_feesByLastDays s m args below meth c H locs 0 0 Q (F0 m 7 ls [])) ?_ N _ _ h _ _ _ hW hS (lv_sub hl [1, 2, 0] rfl)
  clear h hW hS hl
  intro self4 IH5 x2 μ3 h H locs ls hW hS hl
  refine lv_iload_n hx hb dX5_feesByLastDays_7 rfl (lv_at hl 2 rfl) ?_
  refine lv_aload_n hx hb dX5_feesByLastDays_8 rfl (lv_at hl 1 rfl) ?_
  refine gw_get (v := .int (μ3 a1 6)) hC hW fl_X5_22.1 k1.1 (k1.2.1 (gfm s0) T B (μ3 a1)) rfl dX5_feesByLastDays_9 ?_
  refine lv_icmp_gt (tgt := 93) hx hb dX5_feesByLastDays_12 (by decide) (fun c6 => ?_) (fun c6 => ?_)
  · replace h := ite_t c6 h
    refine lv_aload_n hx hb dX5_feesByLastDays_93 rfl (lv_at hl 0 rfl) ?_
    refine gw_get (v := .ref (B + (a0 + 2))) hC hW fl_X5_15 k0.1 (k0.2.1 (gfm s0) T B (μ3 a0)) rfl dX5_feesByLastDays_94 ?_
    refine lv_aload_n hx hb dX5_feesByLastDays_97 rfl (lv_at hl 1 rfl) ?_
    refine gw_get (v := .int (μ3 a1 6)) hC hW fl_X5_22.1 k1.1 (k1.2.1 (gfm s0) T B (μ3 a1)) rfl dX5_feesByLastDays_98 ?_
    obtain ⟨v7, e8, hi9, h⟩ := ag_o h
    refine gq_iald hC hW k0.2.2.2.1 (k0.2.2.2.2 (gfm s0) T B (μ3 (a0 + 2))) (t0 := 0) rfl e8 hi9 dX5_feesByLastDays_101 ?_
    cases h
    exact hend dX5_feesByLastDays_102 hW hS (Nat.le_of_ble_eq_true rfl) (Nat.le_of_ble_eq_true rfl)
  · replace h := ite_f c6 h
    refine lv_aload_n hx hb dX5_feesByLastDays_15 rfl (lv_at hl 0 rfl) ?_
    refine gw_get (v := .ref (B + (a0 + 1))) hC hW fl_X5_9 k0.1 (k0.2.1 (gfm s0) T B (μ3 a0)) rfl dX5_feesByLastDays_16 ?_
    refine lv_iload_n hx hb dX5_feesByLastDays_19 rfl (lv_at hl 2 rfl) ?_
    refine lv_iconst (v := 1) hx hb dX5_feesByLastDays_20 (by decide) ?_
    refine lv_isub hx hb dX5_feesByLastDays_21 ?_
    obtain ⟨v10, e11, hi12, h⟩ := ag_o h
    refine gq_iald hC hW k0.2.2.1.1 (k0.2.2.1.2 (gfm s0) T B (μ3 (a0 + 1))) (t0 := 0) rfl e11 hi12 dX5_feesByLastDays_22 ?_
    refine lv_istore_n (lv' := [(3, .int v10), (0, .ref (B + a0)), (1, .ref (B + a1)), (2, .int x2)]) hx hb dX5_feesByLastDays_23 rfl hl (by decide) rfl (fun ls hl => ?_)
    refine lv_aload_n hx hb dX5_feesByLastDays_24 rfl (lv_at hl 1 rfl) ?_
    refine gw_get (v := .ref (B + (a0 + 2))) hC hW fl_X5_15 k0.1 (k0.2.1 (gfm s0) T B (μ3 a0)) rfl dX5_feesByLastDays_25 ?_
    refine lv_iload_n hx hb dX5_feesByLastDays_28 rfl (lv_at hl 3 rfl) ?_
    refine lv_aload_n hx hb dX5_feesByLastDays_29 rfl (lv_at hl 1 rfl) ?_
    refine gw_get (v := .ref (B + (a0 + 2))) hC hW fl_X5_15 k0.1 (k0.2.1 (gfm s0) T B (μ3 a0)) rfl dX5_feesByLastDays_30 ?_
    refine lv_iload_n hx hb dX5_feesByLastDays_33 rfl (lv_at hl 3 rfl) ?_
    refine lv_iconst (v := 1) hx hb dX5_feesByLastDays_34 (by decide) ?_
    refine lv_isub hx hb dX5_feesByLastDays_35 ?_
    obtain ⟨v13, e14, hi15, h⟩ := ag_o h
    refine gq_iald hC hW k0.2.2.2.1 (k0.2.2.2.2 (gfm s0) T B (μ3 (a0 + 2))) (t0 := 0) rfl e14 hi15 dX5_feesByLastDays_36 ?_
    obtain ⟨μ16, e17, hi18, h⟩ := aw_o h
    refine gq_iast hC hS hW hA k0.2.2.2.1 (k0.2.2.2.2 (gfm s0) T B) (t0 := 0) rfl e17 hi18 dX5_feesByLastDays_37 (fun H locs hW hS => ?_)
    refine lv_aload_n hx hb dX5_feesByLastDays_38 rfl (lv_at hl 2 rfl) ?_
    refine lv_iload_n hx hb dX5_feesByLastDays_39 rfl (lv_at hl 0 rfl) ?_
    obtain ⟨r19, hcall, h⟩ := bd_out h
    refine g0_callV (As := [.int v10]) hC hml hS hW (KC_at hk hS F.2.2.2.2) KC_blind (metX1_isFree F hX k1 hcall) ml_X5_28 (gw_recv hC hW k1.1 (k1.2.1 (gfm s0) T B (μ16 a1)) rfl) ⟨rfl, rfl, (Nat.le_of_ble_eq_true rfl), (Nat.le_of_ble_eq_true rfl)⟩ rfl hl.1 rfl (Nat.le_of_ble_eq_true rfl) dX5_feesByLastDays_40 ⟨(Nat.le_of_ble_eq_true rfl), (Nat.le_of_ble_eq_true rfl)⟩ (fun H locs hW hS => ?_)
    obtain ⟨j21, hj23, h⟩ := jn1_o h
    have J22 : ∀ (μ20 : Mem), j21 μ20 = some r → ∀ (H : Heap) (locs : List Loc) (ls : Array Slot), gWC s0 D T B μ20 H → va_S (gA B X) s.heap H locs → lv_has ls 5 [(0, .ref (B + a0)), (1, .ref (B + a1)), (2, .int x2)] → W p l e rmX5_feesByLastDays s m args below meth c H locs 0 0 Q (F0 m 87 ls []) := by
      clear h hW hS hl
      intro μ20 h H locs ls hW hS hl
      replace h := (hj23 μ20).symm.trans h
      obtain ⟨v24, e25, h⟩ := lt_out h
      refine lv_iinc (v := v24) (lv' := [(2, .int v24), (0, .ref (B + a0)), (1, .ref (B + a1))]) hx hb dX5_feesByLastDays_87 hl (k := 2) rfl (by rw [e25]; rfl) (by decide) rfl (fun ls hl => ?_)
      refine lv_goto (tgt := 7) hx hb dX5_feesByLastDays_90 (by decide) ?_
      exact IH5 _ _ h _ _ _ hW hS (lv_sub hl [1, 2, 0] rfl)
    refine gw_if_eqZ (tgt := 87) hx hb dX5_feesByLastDays_43 (by decide) (fun c26 => ?_) (fun c26 => ?_)
    · replace h := cond_f c26 h
      exact J22 _ h _ _ _ hW hS (lv_sub hl [1, 2, 3] rfl)
    · replace h := cond_t c26 h
      refine lv_aload_n hx hb dX5_feesByLastDays_46 rfl (lv_at hl 2 rfl) ?_
      refine lv_aload_n hx hb dX5_feesByLastDays_47 rfl (lv_at hl 2 rfl) ?_
      refine gw_get (v := .ref (B + (a1 + 2))) hC hW fl_X5_32 k1.1 (k1.2.1 (gfm s0) T B (μ16 a1)) rfl dX5_feesByLastDays_48 ?_
      refine lv_iload_n hx hb dX5_feesByLastDays_51 rfl (lv_at hl 0 rfl) ?_
      obtain ⟨v27, e28, hi29, h⟩ := ag_o h
      refine gq_iald hC hW k1.2.2.2.1.1 (k1.2.2.2.1.2 (gfm s0) T B (μ16 (a1 + 2))) (t0 := 0) rfl e28 hi29 dX5_feesByLastDays_52 ?_
      obtain ⟨r30, hcall, h⟩ := bd_out h
      refine g0_callS (As := [.ref (B + a1), .int v27]) hC hml hS hW (KC_at hk hS F.2.2.2.2) KC_blind (metX5_countEndedBefore F hX k1 hcall) ml_X5_35 ⟨rfl, rfl, (Nat.le_of_ble_eq_true rfl), (Nat.le_of_ble_eq_true rfl)⟩ rfl hl.1 rfl (Nat.le_of_ble_eq_true rfl) dX5_feesByLastDays_53 ⟨(Nat.le_of_ble_eq_true rfl), (Nat.le_of_ble_eq_true rfl)⟩ (fun H locs hW hS => ?_)
      refine lv_istore (lv' := [(4, .int r30), (3, .int v10), (0, .ref (B + a0)), (1, .ref (B + a1)), (2, .int x2)]) hx hb dX5_feesByLastDays_56 hl (by decide) rfl (fun ls hl => ?_)
      refine lv_aload_n hx hb dX5_feesByLastDays_58 rfl (lv_at hl 2 rfl) ?_
      refine gw_get (v := .ref (B + (a0 + 2))) hC hW fl_X5_15 k0.1 (k0.2.1 (gfm s0) T B (μ16 a0)) rfl dX5_feesByLastDays_59 ?_
      refine lv_iload_n hx hb dX5_feesByLastDays_62 rfl (lv_at hl 4 rfl) ?_
      refine lv_aload_n hx hb dX5_feesByLastDays_63 rfl (lv_at hl 2 rfl) ?_
      refine gw_get (v := .ref (B + (a0 + 2))) hC hW fl_X5_15 k0.1 (k0.2.1 (gfm s0) T B (μ16 a0)) rfl dX5_feesByLastDays_64 ?_
      refine lv_iload_n hx hb dX5_feesByLastDays_67 rfl (lv_at hl 4 rfl) ?_
      obtain ⟨v31, e32, hi33, h⟩ := ag_o h
      refine gq_iald hC hW k0.2.2.2.1 (k0.2.2.2.2 (gfm s0) T B (μ16 (a0 + 2))) (t0 := 0) rfl e32 hi33 dX5_feesByLastDays_68 ?_
      refine lv_aload_n hx hb dX5_feesByLastDays_69 rfl (lv_at hl 2 rfl) ?_
      refine gw_get (v := .ref (B + (a0 + 2))) hC hW fl_X5_15 k0.1 (k0.2.1 (gfm s0) T B (μ16 a0)) rfl dX5_feesByLastDays_70 ?_
      refine lv_iload hx hb dX5_feesByLastDays_73 (lv_at hl 0 rfl) ?_
      obtain ⟨v34, e35, hi36, h⟩ := ag_o h
      refine gq_iald hC hW k0.2.2.2.1 (k0.2.2.2.2 (gfm s0) T B (μ16 (a0 + 2))) (t0 := 0) rfl e35 hi36 dX5_feesByLastDays_75 ?_
      refine lv_aload_n hx hb dX5_feesByLastDays_76 rfl (lv_at hl 3 rfl) ?_
      refine gw_get (v := .ref (B + (a1 + 4))) hC hW fl_X5_39 k1.1 (k1.2.1 (gfm s0) T B (μ16 a1)) rfl dX5_feesByLastDays_77 ?_
      refine lv_iload_n hx hb dX5_feesByLastDays_80 rfl (lv_at hl 1 rfl) ?_
      obtain ⟨v37, e38, hi39, h⟩ := ag_o h
      refine gq_iald hC hW k1.2.2.2.2.2.1.1 (k1.2.2.2.2.2.1.2 (gfm s0) T B (μ16 (a1 + 4))) (t0 := 0) rfl e38 hi39 dX5_feesByLastDays_81 ?_
      refine lv_iadd hx hb dX5_feesByLastDays_82 ?_
      refine gw_max hC (hml.trans hl.1.symm) lm_X5_42 lb_max.1 lb_max.2.1 lb_max.2.2 (Nat.le_of_ble_eq_true rfl) (Nat.le_of_ble_eq_true rfl) (Nat.le_of_ble_eq_true rfl) (Nat.le_of_ble_eq_true rfl) dX5_feesByLastDays_83 ?_
      obtain ⟨μ40, e41, hi42, h⟩ := aw_o h
      refine gq_iast hC hS hW hA k0.2.2.2.1 (k0.2.2.2.2 (gfm s0) T B) (t0 := 0) rfl e41 hi42 dX5_feesByLastDays_86 (fun H locs hW hS => ?_)
      exact J22 _ h _ _ _ hW hS (lv_sub hl [2, 3, 4] rfl)

theorem dX6_beside_0 : decode cX6_beside 0 = .ok (.iload_n 0, 1) := by decide +kernel
theorem dX6_beside_1 : decode cX6_beside 1 = .ok (.iconst 4, 1) := by decide +kernel
theorem dX6_beside_2 : decode cX6_beside 2 = .ok (.irem, 1) := by decide +kernel
theorem dX6_beside_3 : decode cX6_beside 3 = .ok (.istore_n 2, 1) := by decide +kernel
theorem dX6_beside_4 : decode cX6_beside 4 = .ok (.iload_n 0, 1) := by decide +kernel
theorem dX6_beside_5 : decode cX6_beside 5 = .ok (.iconst 4, 1) := by decide +kernel
theorem dX6_beside_6 : decode cX6_beside 6 = .ok (.idiv, 1) := by decide +kernel
theorem dX6_beside_7 : decode cX6_beside 7 = .ok (.istore_n 3, 1) := by decide +kernel
theorem dX6_beside_8 : decode cX6_beside 8 = .ok (.iload_n 1, 1) := by decide +kernel
theorem dX6_beside_9 : decode cX6_beside 9 = .ok (.tableswitch 64 0 2 #[27, 39, 52], 27) := by decide +kernel
theorem dX6_beside_36 : decode cX6_beside 36 = .ok (.iload_n 2, 1) := by decide +kernel
theorem dX6_beside_37 : decode cX6_beside 37 = .ok (.ifCond .le 9, 3) := by decide +kernel
theorem dX6_beside_40 : decode cX6_beside 40 = .ok (.iload_n 0, 1) := by decide +kernel
theorem dX6_beside_41 : decode cX6_beside 41 = .ok (.iconst 1, 1) := by decide +kernel
theorem dX6_beside_42 : decode cX6_beside 42 = .ok (.isub, 1) := by decide +kernel
theorem dX6_beside_43 : decode cX6_beside 43 = .ok (.goto 4, 3) := by decide +kernel
theorem dX6_beside_46 : decode cX6_beside 46 = .ok (.iconst (-1), 1) := by decide +kernel
theorem dX6_beside_47 : decode cX6_beside 47 = .ok (.ireturn, 1) := by decide +kernel
theorem dX6_beside_48 : decode cX6_beside 48 = .ok (.iload_n 2, 1) := by decide +kernel
theorem dX6_beside_49 : decode cX6_beside 49 = .ok (.iconst 3, 1) := by decide +kernel
theorem dX6_beside_50 : decode cX6_beside 50 = .ok (.if_icmp .ge 9, 3) := by decide +kernel
theorem dX6_beside_53 : decode cX6_beside 53 = .ok (.iload_n 0, 1) := by decide +kernel
theorem dX6_beside_54 : decode cX6_beside 54 = .ok (.iconst 1, 1) := by decide +kernel
theorem dX6_beside_55 : decode cX6_beside 55 = .ok (.iadd, 1) := by decide +kernel
theorem dX6_beside_56 : decode cX6_beside 56 = .ok (.goto 4, 3) := by decide +kernel
theorem dX6_beside_59 : decode cX6_beside 59 = .ok (.iconst (-1), 1) := by decide +kernel
theorem dX6_beside_60 : decode cX6_beside 60 = .ok (.ireturn, 1) := by decide +kernel
theorem dX6_beside_61 : decode cX6_beside 61 = .ok (.iload_n 3, 1) := by decide +kernel
theorem dX6_beside_62 : decode cX6_beside 62 = .ok (.ifCond .le 9, 3) := by decide +kernel
theorem dX6_beside_65 : decode cX6_beside 65 = .ok (.iload_n 0, 1) := by decide +kernel
theorem dX6_beside_66 : decode cX6_beside 66 = .ok (.iconst 4, 1) := by decide +kernel
theorem dX6_beside_67 : decode cX6_beside 67 = .ok (.isub, 1) := by decide +kernel
theorem dX6_beside_68 : decode cX6_beside 68 = .ok (.goto 4, 3) := by decide +kernel
theorem dX6_beside_71 : decode cX6_beside 71 = .ok (.iconst (-1), 1) := by decide +kernel
theorem dX6_beside_72 : decode cX6_beside 72 = .ok (.ireturn, 1) := by decide +kernel
theorem dX6_beside_73 : decode cX6_beside 73 = .ok (.iload_n 3, 1) := by decide +kernel
theorem dX6_beside_74 : decode cX6_beside 74 = .ok (.iconst 3, 1) := by decide +kernel
theorem dX6_beside_75 : decode cX6_beside 75 = .ok (.if_icmp .ge 9, 3) := by decide +kernel
theorem dX6_beside_78 : decode cX6_beside 78 = .ok (.iload_n 0, 1) := by decide +kernel
theorem dX6_beside_79 : decode cX6_beside 79 = .ok (.iconst 4, 1) := by decide +kernel
theorem dX6_beside_80 : decode cX6_beside 80 = .ok (.iadd, 1) := by decide +kernel
theorem dX6_beside_81 : decode cX6_beside 81 = .ok (.goto 4, 3) := by decide +kernel
theorem dX6_beside_84 : decode cX6_beside 84 = .ok (.iconst (-1), 1) := by decide +kernel
theorem dX6_beside_85 : decode cX6_beside 85 = .ok (.ireturn, 1) := by decide +kernel
abbrev rmX6_beside : Room := { frames := 2, cells := 0, slots := 0, locals := 60 }
set_option maxHeartbeats 4000000 in
set_option maxRecDepth 100000 in
theorem metX6_beside {l : Launch} {s0 : State} {b B : Nat} {D : va_G} {T : Nat → ClassId} (F : FX l s0 b D T B) {X : Nat → Prop} (hX : ∀ o, o < 560 → ¬ X (B + o)) {N : Nat} {μ : Mem} {a0 : Int32} {a1 : Int32} {r : Int32}  (h : fX6_beside N μ a0 a1 = some r) : gMet l yX6_beside cX6_beside 4 (some .int) rmX6_beside [.int a0, .int a1] (gWC s0 D T B μ) (KC s0 X) (some (.int r)) (gWC s0 D T B μ) (gA B X) 0 0 := by
  refine gI_of RX6 (by decide +kernel) rfl (Nat.le_of_ble_eq_true rfl) ?_
  intro p e s m args below meth c ls Q hx hb hlocks hml hown hts hW hk hl hS hend
  have hC := FX_C F hk hx hb hown hts
  have hA := gA_all hX
  have hl : lv_has ls 4 [(0, .int a0), (1, .int a1)] := hl
  unfold fX6_beside at h
  refine lv_iload_n hx hb dX6_beside_0 rfl (lv_at hl 0 rfl) ?_
  refine lv_iconst (v := 4) hx hb dX6_beside_1 (by decide) ?_
  refine lv_irem hx hb dX6_beside_2 (by decide) ?_
  obtain ⟨v1, e2, h⟩ := lt_out h
  rw [← e2]
  refine lv_istore_n (lv' := [(2, .int v1), (0, .int a0), (1, .int a1)]) hx hb dX6_beside_3 rfl hl (by decide) rfl (fun ls hl => ?_)
  refine lv_iload_n hx hb dX6_beside_4 rfl (lv_at hl 1 rfl) ?_
  refine lv_iconst (v := 4) hx hb dX6_beside_5 (by decide) ?_
  refine lv_idiv hx hb dX6_beside_6 (by decide) ?_
  obtain ⟨v3, e4, h⟩ := lt_out h
  rw [← e4]
  refine lv_istore_n (lv' := [(3, .int v3), (2, .int v1), (0, .int a0), (1, .int a1)]) hx hb dX6_beside_7 rfl hl (by decide) rfl (fun ls hl => ?_)
  refine lv_iload_n hx hb dX6_beside_8 rfl (lv_at hl 3 rfl) ?_
  by_cases c5 : a1 = 0
  · replace h := ite_t c5 h
    refine lv_tableIn (tgt := 36) (off := 27) hx hb dX6_beside_9 (by rw [c5]; decide) (by rw [c5]; decide) (by rw [c5]; rfl) (by decide) ?_
    refine lv_iload_n hx hb dX6_beside_36 rfl (lv_at hl 1 rfl) ?_
    obtain ⟨j7, hj9, h⟩ := jn1_o h
    have J8 : ∀ (y6 : Int32), j7 y6 = some r → ∀ (H : Heap) (locs : List Loc) (ls : Array Slot), gWC s0 D T B μ H → va_S (gA B X) s.heap H locs → lv_has ls 4 [] → W p l e rmX6_beside s m args below meth c H locs 0 0 Q (F0 m 47 ls [.int y6]) := by
      clear h hW hS hl
      intro y6 h H locs ls hW hS hl
      replace h := (hj9 y6).symm.trans h
      cases h
      exact hend dX6_beside_47 hW hS (Nat.le_of_ble_eq_true rfl) (Nat.le_of_ble_eq_true rfl)
    refine lv_if_le (tgt := 46) hx hb dX6_beside_37 (by decide) (fun c10 => ?_) (fun c10 => ?_)
    · replace h := ite_t c10 h
      refine lv_iconst (v := (-1)) hx hb dX6_beside_46 (by decide) ?_
      exact J8 _ h _ _ _ hW hS (lv_sub hl [] rfl)
    · replace h := ite_f c10 h
      refine lv_iload_n hx hb dX6_beside_40 rfl (lv_at hl 2 rfl) ?_
      refine lv_iconst (v := 1) hx hb dX6_beside_41 (by decide) ?_
      refine lv_isub hx hb dX6_beside_42 ?_
      refine lv_goto (tgt := 47) hx hb dX6_beside_43 (by decide) ?_
      exact J8 _ h _ _ _ hW hS (lv_sub hl [] rfl)
  replace h := ite_f c5 h
  by_cases c11 : a1 = 1
  · replace h := ite_t c11 h
    refine lv_tableIn (tgt := 48) (off := 39) hx hb dX6_beside_9 (by rw [c11]; decide) (by rw [c11]; decide) (by rw [c11]; rfl) (by decide) ?_
    refine lv_iload_n hx hb dX6_beside_48 rfl (lv_at hl 1 rfl) ?_
    refine lv_iconst (v := 3) hx hb dX6_beside_49 (by decide) ?_
    obtain ⟨j13, hj15, h⟩ := jn1_o h
    have J14 : ∀ (y12 : Int32), j13 y12 = some r → ∀ (H : Heap) (locs : List Loc) (ls : Array Slot), gWC s0 D T B μ H → va_S (gA B X) s.heap H locs → lv_has ls 4 [] → W p l e rmX6_beside s m args below meth c H locs 0 0 Q (F0 m 60 ls [.int y12]) := by
      clear h hW hS hl
      intro y12 h H locs ls hW hS hl
      replace h := (hj15 y12).symm.trans h
      cases h
      exact hend dX6_beside_60 hW hS (Nat.le_of_ble_eq_true rfl) (Nat.le_of_ble_eq_true rfl)
    refine lv_icmp_ge (tgt := 59) hx hb dX6_beside_50 (by decide) (fun c16 => ?_) (fun c16 => ?_)
    · replace h := ite_t c16 h
      refine lv_iconst (v := (-1)) hx hb dX6_beside_59 (by decide) ?_
      exact J14 _ h _ _ _ hW hS (lv_sub hl [] rfl)
    · replace h := ite_f c16 h
      refine lv_iload_n hx hb dX6_beside_53 rfl (lv_at hl 2 rfl) ?_
      refine lv_iconst (v := 1) hx hb dX6_beside_54 (by decide) ?_
      refine lv_iadd hx hb dX6_beside_55 ?_
      refine lv_goto (tgt := 60) hx hb dX6_beside_56 (by decide) ?_
      exact J14 _ h _ _ _ hW hS (lv_sub hl [] rfl)
  replace h := ite_f c11 h
  by_cases c17 : a1 = 2
  · replace h := ite_t c17 h
    refine lv_tableIn (tgt := 61) (off := 52) hx hb dX6_beside_9 (by rw [c17]; decide) (by rw [c17]; decide) (by rw [c17]; rfl) (by decide) ?_
    refine lv_iload_n hx hb dX6_beside_61 rfl (lv_at hl 0 rfl) ?_
    obtain ⟨j19, hj21, h⟩ := jn1_o h
    have J20 : ∀ (y18 : Int32), j19 y18 = some r → ∀ (H : Heap) (locs : List Loc) (ls : Array Slot), gWC s0 D T B μ H → va_S (gA B X) s.heap H locs → lv_has ls 4 [] → W p l e rmX6_beside s m args below meth c H locs 0 0 Q (F0 m 72 ls [.int y18]) := by
      clear h hW hS hl
      intro y18 h H locs ls hW hS hl
      replace h := (hj21 y18).symm.trans h
      cases h
      exact hend dX6_beside_72 hW hS (Nat.le_of_ble_eq_true rfl) (Nat.le_of_ble_eq_true rfl)
    refine lv_if_le (tgt := 71) hx hb dX6_beside_62 (by decide) (fun c22 => ?_) (fun c22 => ?_)
    · replace h := ite_t c22 h
      refine lv_iconst (v := (-1)) hx hb dX6_beside_71 (by decide) ?_
      exact J20 _ h _ _ _ hW hS (lv_sub hl [] rfl)
    · replace h := ite_f c22 h
      refine lv_iload_n hx hb dX6_beside_65 rfl (lv_at hl 2 rfl) ?_
      refine lv_iconst (v := 4) hx hb dX6_beside_66 (by decide) ?_
      refine lv_isub hx hb dX6_beside_67 ?_
      refine lv_goto (tgt := 72) hx hb dX6_beside_68 (by decide) ?_
      exact J20 _ h _ _ _ hW hS (lv_sub hl [] rfl)
  replace h := ite_f c17 h
  refine lv_tableOut (tgt := 73) hx hb dX6_beside_9 (sw_out (lo := 0) (hi := 2) (fun k h1 h2 => by rcases (show k = 0 ∨ k = 1 ∨ k = 2 by omega) with rfl | rfl | rfl <;> assumption)) (by decide) ?_
  refine lv_iload_n hx hb dX6_beside_73 rfl (lv_at hl 0 rfl) ?_
  refine lv_iconst (v := 3) hx hb dX6_beside_74 (by decide) ?_
  obtain ⟨j24, hj26, h⟩ := jn1_o h
  have J25 : ∀ (y23 : Int32), j24 y23 = some r → ∀ (H : Heap) (locs : List Loc) (ls : Array Slot), gWC s0 D T B μ H → va_S (gA B X) s.heap H locs → lv_has ls 4 [] → W p l e rmX6_beside s m args below meth c H locs 0 0 Q (F0 m 85 ls [.int y23]) := by
    clear h hW hS hl
    intro y23 h H locs ls hW hS hl
    replace h := (hj26 y23).symm.trans h
    cases h
    exact hend dX6_beside_85 hW hS (Nat.le_of_ble_eq_true rfl) (Nat.le_of_ble_eq_true rfl)
  refine lv_icmp_ge (tgt := 84) hx hb dX6_beside_75 (by decide) (fun c27 => ?_) (fun c27 => ?_)
  · replace h := ite_t c27 h
    refine lv_iconst (v := (-1)) hx hb dX6_beside_84 (by decide) ?_
    exact J25 _ h _ _ _ hW hS (lv_sub hl [] rfl)
  · replace h := ite_f c27 h
    refine lv_iload_n hx hb dX6_beside_78 rfl (lv_at hl 2 rfl) ?_
    refine lv_iconst (v := 4) hx hb dX6_beside_79 (by decide) ?_
    refine lv_iadd hx hb dX6_beside_80 ?_
    refine lv_goto (tgt := 85) hx hb dX6_beside_81 (by decide) ?_
    exact J25 _ h _ _ _ hW hS (lv_sub hl [] rfl)

theorem dX6_countGrains_0 : decode cX6_countGrains 0 = .ok (.iconst 0, 1) := by decide +kernel
theorem dX6_countGrains_1 : decode cX6_countGrains 1 = .ok (.istore_n 1, 1) := by decide +kernel
theorem dX6_countGrains_2 : decode cX6_countGrains 2 = .ok (.iconst 0, 1) := by decide +kernel
theorem dX6_countGrains_3 : decode cX6_countGrains 3 = .ok (.istore_n 2, 1) := by decide +kernel
theorem dX6_countGrains_4 : decode cX6_countGrains 4 = .ok (.iload_n 2, 1) := by decide +kernel
theorem dX6_countGrains_5 : decode cX6_countGrains 5 = .ok (.bipush 16, 2) := by decide +kernel
theorem dX6_countGrains_7 : decode cX6_countGrains 7 = .ok (.if_icmp .ge 15, 3) := by decide +kernel
theorem dX6_countGrains_10 : decode cX6_countGrains 10 = .ok (.iload_n 1, 1) := by decide +kernel
theorem dX6_countGrains_11 : decode cX6_countGrains 11 = .ok (.aload_n 0, 1) := by decide +kernel
theorem dX6_countGrains_12 : decode cX6_countGrains 12 = .ok (.iload_n 2, 1) := by decide +kernel
theorem dX6_countGrains_13 : decode cX6_countGrains 13 = .ok (.iaload, 1) := by decide +kernel
theorem dX6_countGrains_14 : decode cX6_countGrains 14 = .ok (.iadd, 1) := by decide +kernel
theorem dX6_countGrains_15 : decode cX6_countGrains 15 = .ok (.istore_n 1, 1) := by decide +kernel
theorem dX6_countGrains_16 : decode cX6_countGrains 16 = .ok (.iinc 2 1, 3) := by decide +kernel
theorem dX6_countGrains_19 : decode cX6_countGrains 19 = .ok (.goto (-15), 3) := by decide +kernel
theorem dX6_countGrains_22 : decode cX6_countGrains 22 = .ok (.iload_n 1, 1) := by decide +kernel
theorem dX6_countGrains_23 : decode cX6_countGrains 23 = .ok (.ireturn, 1) := by decide +kernel
abbrev rmX6_countGrains : Room := { frames := 2, cells := 0, slots := 0, locals := 60 }
set_option maxHeartbeats 4000000 in
set_option maxRecDepth 100000 in
theorem metX6_countGrains {l : Launch} {s0 : State} {b B : Nat} {D : va_G} {T : Nat → ClassId} (F : FX l s0 b D T B) {X : Nat → Prop} (hX : ∀ o, o < 560 → ¬ X (B + o)) {N : Nat} {μ : Mem} {a0 : Nat} {r : Int32} (k0 : (IA 16) a0) (h : fX6_countGrains N μ a0 = some r) : gMet l yX6_countGrains cX6_countGrains 3 (some .int) rmX6_countGrains [.ref (B + a0)] (gWC s0 D T B μ) (KC s0 X) (some (.int r)) (gWC s0 D T B μ) (gA B X) 0 0 := by
  refine gI_of RX6 (by decide +kernel) rfl (Nat.le_of_ble_eq_true rfl) ?_
  intro p e s m args below meth c ls Q hx hb hlocks hml hown hts hW hk hl hS hend
  have hC := FX_C F hk hx hb hown hts
  have hA := gA_all hX
  have hl : lv_has ls 3 [(0, .ref (B + a0))] := hl
  unfold fX6_countGrains at h
  refine lv_iconst (v := 0) hx hb dX6_countGrains_0 (by decide) ?_
  refine lv_istore_n (lv' := [(1, .int 0), (0, .ref (B + a0))]) hx hb dX6_countGrains_1 rfl hl (by decide) rfl (fun ls hl => ?_)
  refine lv_iconst (v := 0) hx hb dX6_countGrains_2 (by decide) ?_
  refine lv_istore_n (lv' := [(2, .int 0), (1, .int 0), (0, .ref (B + a0))]) hx hb dX6_countGrains_3 rfl hl (by decide) rfl (fun ls hl => ?_)
  refine fix2_ind (fun (x1 : Int32) (x2 : Int32) => ∀ (H : Heap) (locs : List Loc) (ls : Array Slot), gWC s0 D T B μ H → va_S (gA B X) s.heap H locs → lv_has ls 3 [(0, .ref (B + a0)), (1, .int x1), (2, .int x2)] → W p l e rmX6_countGrains s m args below meth c H locs 0 0 Q (F0 m 4 ls [])) ?_ N _ _ h _ _ _ hW hS (lv_sub hl [2, 1, 0] rfl)
  clear h hW hS hl
  intro self3 IH4 x1 x2 h H locs ls hW hS hl
  refine lv_iload_n hx hb dX6_countGrains_4 rfl (lv_at hl 2 rfl) ?_
  refine lv_bipush (v := 16) hx hb dX6_countGrains_5 (by decide) ?_
  refine lv_icmp_ge (tgt := 22) hx hb dX6_countGrains_7 (by decide) (fun c5 => ?_) (fun c5 => ?_)
  · replace h := ite_t c5 h
    refine lv_iload_n hx hb dX6_countGrains_22 rfl (lv_at hl 1 rfl) ?_
    cases h
    exact hend dX6_countGrains_23 hW hS (Nat.le_of_ble_eq_true rfl) (Nat.le_of_ble_eq_true rfl)
  · replace h := ite_f c5 h
    refine lv_iload_n hx hb dX6_countGrains_10 rfl (lv_at hl 1 rfl) ?_
    refine lv_aload_n hx hb dX6_countGrains_11 rfl (lv_at hl 0 rfl) ?_
    refine lv_iload_n hx hb dX6_countGrains_12 rfl (lv_at hl 2 rfl) ?_
    obtain ⟨v6, e7, hi8, h⟩ := ag_o h
    refine gq_iald hC hW k0.1 (k0.2 (gfm s0) T B (μ a0)) (t0 := 0) rfl e7 hi8 dX6_countGrains_13 ?_
    refine lv_iadd hx hb dX6_countGrains_14 ?_
    obtain ⟨v9, e10, h⟩ := lt_out h
    rw [← e10]
    refine lv_istore_n (lv' := [(1, .int v9), (0, .ref (B + a0)), (2, .int x2)]) hx hb dX6_countGrains_15 rfl hl (by decide) rfl (fun ls hl => ?_)
    obtain ⟨v11, e12, h⟩ := lt_out h
    refine lv_iinc (v := v11) (lv' := [(2, .int v11), (1, .int v9), (0, .ref (B + a0))]) hx hb dX6_countGrains_16 hl (k := 2) rfl (by rw [e12]; rfl) (by decide) rfl (fun ls hl => ?_)
    refine lv_goto (tgt := 4) hx hb dX6_countGrains_19 (by decide) ?_
    exact IH4 _ _ h _ _ _ hW hS (lv_sub hl [2, 1, 0] rfl)

theorem dX6_toppleOnce_0 : decode cX6_toppleOnce 0 = .ok (.aload_n 0, 1) := by decide +kernel
theorem dX6_toppleOnce_1 : decode cX6_toppleOnce 1 = .ok (.iload_n 1, 1) := by decide +kernel
theorem dX6_toppleOnce_2 : decode cX6_toppleOnce 2 = .ok (.dup2, 1) := by decide +kernel
theorem dX6_toppleOnce_3 : decode cX6_toppleOnce 3 = .ok (.iaload, 1) := by decide +kernel
theorem dX6_toppleOnce_4 : decode cX6_toppleOnce 4 = .ok (.iconst 4, 1) := by decide +kernel
theorem dX6_toppleOnce_5 : decode cX6_toppleOnce 5 = .ok (.isub, 1) := by decide +kernel
theorem dX6_toppleOnce_6 : decode cX6_toppleOnce 6 = .ok (.iastore, 1) := by decide +kernel
theorem dX6_toppleOnce_7 : decode cX6_toppleOnce 7 = .ok (.iconst 0, 1) := by decide +kernel
theorem dX6_toppleOnce_8 : decode cX6_toppleOnce 8 = .ok (.istore_n 2, 1) := by decide +kernel
theorem dX6_toppleOnce_9 : decode cX6_toppleOnce 9 = .ok (.iload_n 2, 1) := by decide +kernel
theorem dX6_toppleOnce_10 : decode cX6_toppleOnce 10 = .ok (.iconst 4, 1) := by decide +kernel
theorem dX6_toppleOnce_11 : decode cX6_toppleOnce 11 = .ok (.if_icmp .ge 27, 3) := by decide +kernel
theorem dX6_toppleOnce_14 : decode cX6_toppleOnce 14 = .ok (.iload_n 1, 1) := by decide +kernel
theorem dX6_toppleOnce_15 : decode cX6_toppleOnce 15 = .ok (.iload_n 2, 1) := by decide +kernel
theorem dX6_toppleOnce_16 : decode cX6_toppleOnce 16 = .ok (.invokestatic 50, 3) := by decide +kernel
theorem dX6_toppleOnce_19 : decode cX6_toppleOnce 19 = .ok (.istore_n 3, 1) := by decide +kernel
theorem dX6_toppleOnce_20 : decode cX6_toppleOnce 20 = .ok (.iload_n 3, 1) := by decide +kernel
theorem dX6_toppleOnce_21 : decode cX6_toppleOnce 21 = .ok (.iconst (-1), 1) := by decide +kernel
theorem dX6_toppleOnce_22 : decode cX6_toppleOnce 22 = .ok (.if_icmp .eq 10, 3) := by decide +kernel
theorem dX6_toppleOnce_25 : decode cX6_toppleOnce 25 = .ok (.aload_n 0, 1) := by decide +kernel
theorem dX6_toppleOnce_26 : decode cX6_toppleOnce 26 = .ok (.iload_n 3, 1) := by decide +kernel
theorem dX6_toppleOnce_27 : decode cX6_toppleOnce 27 = .ok (.dup2, 1) := by decide +kernel
theorem dX6_toppleOnce_28 : decode cX6_toppleOnce 28 = .ok (.iaload, 1) := by decide +kernel
theorem dX6_toppleOnce_29 : decode cX6_toppleOnce 29 = .ok (.iconst 1, 1) := by decide +kernel
theorem dX6_toppleOnce_30 : decode cX6_toppleOnce 30 = .ok (.iadd, 1) := by decide +kernel
theorem dX6_toppleOnce_31 : decode cX6_toppleOnce 31 = .ok (.iastore, 1) := by decide +kernel
theorem dX6_toppleOnce_32 : decode cX6_toppleOnce 32 = .ok (.iinc 2 1, 3) := by decide +kernel
theorem dX6_toppleOnce_35 : decode cX6_toppleOnce 35 = .ok (.goto (-26), 3) := by decide +kernel
theorem dX6_toppleOnce_38 : decode cX6_toppleOnce 38 = .ok (.return_, 1) := by decide +kernel
abbrev rmX6_toppleOnce : Room := { frames := 3, cells := 0, slots := 0, locals := 83 }
set_option maxHeartbeats 4000000 in
set_option maxRecDepth 100000 in
theorem metX6_toppleOnce {l : Launch} {s0 : State} {b B : Nat} {D : va_G} {T : Nat → ClassId} (F : FX l s0 b D T B) {X : Nat → Prop} (hX : ∀ o, o < 560 → ¬ X (B + o)) {N : Nat} {μ : Mem} {a0 : Nat} {a1 : Int32} {r : Mem} (k0 : (IA 16) a0) (h : fX6_toppleOnce N μ a0 a1 = some r) : gMet l yX6_toppleOnce cX6_toppleOnce 4 none rmX6_toppleOnce [.ref (B + a0), .int a1] (gWC s0 D T B μ) (KC s0 X) none (gWC s0 D T B r) (gA B X) 0 0 := by
  refine gV_of RX6 (by decide +kernel) rfl (Nat.le_of_ble_eq_true rfl) ?_
  intro p e s m args below meth c ls Q hx hb hlocks hml hown hts hW hk hl hS hend
  have hC := FX_C F hk hx hb hown hts
  have hA := gA_all hX
  have hl : lv_has ls 4 [(0, .ref (B + a0)), (1, .int a1)] := hl
  unfold fX6_toppleOnce at h
  refine lv_aload_n hx hb dX6_toppleOnce_0 rfl (lv_at hl 0 rfl) ?_
  refine lv_iload_n hx hb dX6_toppleOnce_1 rfl (lv_at hl 1 rfl) ?_
  refine lv_dup2_11 hx hb dX6_toppleOnce_2 rfl rfl ?_
  obtain ⟨v1, e2, hi3, h⟩ := ag_o h
  refine gq_iald hC hW k0.1 (k0.2 (gfm s0) T B (μ a0)) (t0 := 0) rfl e2 hi3 dX6_toppleOnce_3 ?_
  refine lv_iconst (v := 4) hx hb dX6_toppleOnce_4 (by decide) ?_
  refine lv_isub hx hb dX6_toppleOnce_5 ?_
  obtain ⟨μ4, e5, hi6, h⟩ := aw_o h
  refine gq_iast hC hS hW hA k0.1 (k0.2 (gfm s0) T B) (t0 := 0) rfl e5 hi6 dX6_toppleOnce_6 (fun H locs hW hS => ?_)
  refine lv_iconst (v := 0) hx hb dX6_toppleOnce_7 (by decide) ?_
  refine lv_istore_n (lv' := [(2, .int 0), (0, .ref (B + a0)), (1, .int a1)]) hx hb dX6_toppleOnce_8 rfl hl (by decide) rfl (fun ls hl => ?_)
  refine fix2_ind (fun (x7 : Int32) (μ8 : Mem) => ∀ (H : Heap) (locs : List Loc) (ls : Array Slot), gWC s0 D T B μ8 H → va_S (gA B X) s.heap H locs → lv_has ls 4 [(0, .ref (B + a0)), (1, .int a1), (2, .int x7)] → W p l e rmX6_toppleOnce s m args below meth c H locs 0 0 Q (F0 m 9 ls [])) ?_ N _ _ h _ _ _ hW hS (lv_sub hl [1, 2, 0] rfl)
  clear h hW hS hl
  intro self9 IH10 x7 μ8 h H locs ls hW hS hl
  refine lv_iload_n hx hb dX6_toppleOnce_9 rfl (lv_at hl 2 rfl) ?_
  refine lv_iconst (v := 4) hx hb dX6_toppleOnce_10 (by decide) ?_
  refine lv_icmp_ge (tgt := 38) hx hb dX6_toppleOnce_11 (by decide) (fun c11 => ?_) (fun c11 => ?_)
  · replace h := ite_t c11 h
    cases h
    exact hend dX6_toppleOnce_38 hW hS (Nat.le_of_ble_eq_true rfl) (Nat.le_of_ble_eq_true rfl)
  · replace h := ite_f c11 h
    refine lv_iload_n hx hb dX6_toppleOnce_14 rfl (lv_at hl 1 rfl) ?_
    refine lv_iload_n hx hb dX6_toppleOnce_15 rfl (lv_at hl 2 rfl) ?_
    obtain ⟨r12, hcall, h⟩ := bd_out h
    refine g0_callS (As := [.int a1, .int x7]) hC hml hS hW (KC_at hk hS F.2.2.2.2) KC_blind (metX6_beside F hX  hcall) ml_X6_50 ⟨rfl, rfl, (Nat.le_of_ble_eq_true rfl), (Nat.le_of_ble_eq_true rfl)⟩ rfl hl.1 rfl (Nat.le_of_ble_eq_true rfl) dX6_toppleOnce_16 ⟨(Nat.le_of_ble_eq_true rfl), (Nat.le_of_ble_eq_true rfl)⟩ (fun H locs hW hS => ?_)
    refine lv_istore_n (lv' := [(3, .int r12), (0, .ref (B + a0)), (1, .int a1), (2, .int x7)]) hx hb dX6_toppleOnce_19 rfl hl (by decide) rfl (fun ls hl => ?_)
    refine lv_iload_n hx hb dX6_toppleOnce_20 rfl (lv_at hl 0 rfl) ?_
    refine lv_iconst (v := (-1)) hx hb dX6_toppleOnce_21 (by decide) ?_
    obtain ⟨j14, hj16, h⟩ := jn1_o h
    have J15 : ∀ (μ13 : Mem), j14 μ13 = some r → ∀ (H : Heap) (locs : List Loc) (ls : Array Slot), gWC s0 D T B μ13 H → va_S (gA B X) s.heap H locs → lv_has ls 4 [(0, .ref (B + a0)), (1, .int a1), (2, .int x7)] → W p l e rmX6_toppleOnce s m args below meth c H locs 0 0 Q (F0 m 32 ls []) := by
      clear h hW hS hl
      intro μ13 h H locs ls hW hS hl
      replace h := (hj16 μ13).symm.trans h
      obtain ⟨v17, e18, h⟩ := lt_out h
      refine lv_iinc (v := v17) (lv' := [(2, .int v17), (0, .ref (B + a0)), (1, .int a1)]) hx hb dX6_toppleOnce_32 hl (k := 2) rfl (by rw [e18]; rfl) (by decide) rfl (fun ls hl => ?_)
      refine lv_goto (tgt := 9) hx hb dX6_toppleOnce_35 (by decide) ?_
      exact IH10 _ _ h _ _ _ hW hS (lv_sub hl [1, 2, 0] rfl)
    refine lv_icmp_eq (tgt := 32) hx hb dX6_toppleOnce_22 (by decide) (fun c19 => ?_) (fun c19 => ?_)
    · replace h := ite_t c19 h
      exact J15 _ h _ _ _ hW hS (lv_sub hl [1, 2, 3] rfl)
    · replace h := ite_f c19 h
      refine lv_aload_n hx hb dX6_toppleOnce_25 rfl (lv_at hl 1 rfl) ?_
      refine lv_iload_n hx hb dX6_toppleOnce_26 rfl (lv_at hl 0 rfl) ?_
      refine lv_dup2_11 hx hb dX6_toppleOnce_27 rfl rfl ?_
      obtain ⟨v20, e21, hi22, h⟩ := ag_o h
      refine gq_iald hC hW k0.1 (k0.2 (gfm s0) T B (μ8 a0)) (t0 := 0) rfl e21 hi22 dX6_toppleOnce_28 ?_
      refine lv_iconst (v := 1) hx hb dX6_toppleOnce_29 (by decide) ?_
      refine lv_iadd hx hb dX6_toppleOnce_30 ?_
      obtain ⟨μ23, e24, hi25, h⟩ := aw_o h
      refine gq_iast hC hS hW hA k0.1 (k0.2 (gfm s0) T B) (t0 := 0) rfl e24 hi25 dX6_toppleOnce_31 (fun H locs hW hS => ?_)
      exact J15 _ h _ _ _ hW hS (lv_sub hl [1, 2, 3] rfl)

theorem dX6_toppleByPlaces_0 : decode cX6_toppleByPlaces 0 = .ok (.iconst 0, 1) := by decide +kernel
theorem dX6_toppleByPlaces_1 : decode cX6_toppleByPlaces 1 = .ok (.istore_n 2, 1) := by decide +kernel
theorem dX6_toppleByPlaces_2 : decode cX6_toppleByPlaces 2 = .ok (.iload_n 2, 1) := by decide +kernel
theorem dX6_toppleByPlaces_3 : decode cX6_toppleByPlaces 3 = .ok (.bipush 16, 2) := by decide +kernel
theorem dX6_toppleByPlaces_5 : decode cX6_toppleByPlaces 5 = .ok (.if_icmp .ge 16, 3) := by decide +kernel
theorem dX6_toppleByPlaces_8 : decode cX6_toppleByPlaces 8 = .ok (.aload_n 0, 1) := by decide +kernel
theorem dX6_toppleByPlaces_9 : decode cX6_toppleByPlaces 9 = .ok (.getfield 15, 3) := by decide +kernel
theorem dX6_toppleByPlaces_12 : decode cX6_toppleByPlaces 12 = .ok (.iload_n 2, 1) := by decide +kernel
theorem dX6_toppleByPlaces_13 : decode cX6_toppleByPlaces 13 = .ok (.iconst 0, 1) := by decide +kernel
theorem dX6_toppleByPlaces_14 : decode cX6_toppleByPlaces 14 = .ok (.iastore, 1) := by decide +kernel
theorem dX6_toppleByPlaces_15 : decode cX6_toppleByPlaces 15 = .ok (.iinc 2 1, 3) := by decide +kernel
theorem dX6_toppleByPlaces_18 : decode cX6_toppleByPlaces 18 = .ok (.goto (-16), 3) := by decide +kernel
theorem dX6_toppleByPlaces_21 : decode cX6_toppleByPlaces 21 = .ok (.iconst 0, 1) := by decide +kernel
theorem dX6_toppleByPlaces_22 : decode cX6_toppleByPlaces 22 = .ok (.istore_n 2, 1) := by decide +kernel
theorem dX6_toppleByPlaces_23 : decode cX6_toppleByPlaces 23 = .ok (.iconst 0, 1) := by decide +kernel
theorem dX6_toppleByPlaces_24 : decode cX6_toppleByPlaces 24 = .ok (.istore_n 3, 1) := by decide +kernel
theorem dX6_toppleByPlaces_25 : decode cX6_toppleByPlaces 25 = .ok (.iconst 0, 1) := by decide +kernel
theorem dX6_toppleByPlaces_26 : decode cX6_toppleByPlaces 26 = .ok (.istore 4, 2) := by decide +kernel
theorem dX6_toppleByPlaces_28 : decode cX6_toppleByPlaces 28 = .ok (.iload 4, 2) := by decide +kernel
theorem dX6_toppleByPlaces_30 : decode cX6_toppleByPlaces 30 = .ok (.ldc 54, 2) := by decide +kernel
theorem dX6_toppleByPlaces_32 : decode cX6_toppleByPlaces 32 = .ok (.if_icmp .ge 48, 3) := by decide +kernel
theorem dX6_toppleByPlaces_35 : decode cX6_toppleByPlaces 35 = .ok (.iload_n 3, 1) := by decide +kernel
theorem dX6_toppleByPlaces_36 : decode cX6_toppleByPlaces 36 = .ok (.bipush 16, 2) := by decide +kernel
theorem dX6_toppleByPlaces_38 : decode cX6_toppleByPlaces 38 = .ok (.if_icmp .ge 42, 3) := by decide +kernel
theorem dX6_toppleByPlaces_41 : decode cX6_toppleByPlaces 41 = .ok (.aload_n 1, 1) := by decide +kernel
theorem dX6_toppleByPlaces_42 : decode cX6_toppleByPlaces 42 = .ok (.iload_n 3, 1) := by decide +kernel
theorem dX6_toppleByPlaces_43 : decode cX6_toppleByPlaces 43 = .ok (.iaload, 1) := by decide +kernel
theorem dX6_toppleByPlaces_44 : decode cX6_toppleByPlaces 44 = .ok (.iconst 4, 1) := by decide +kernel
theorem dX6_toppleByPlaces_45 : decode cX6_toppleByPlaces 45 = .ok (.if_icmp .lt 26, 3) := by decide +kernel
theorem dX6_toppleByPlaces_48 : decode cX6_toppleByPlaces 48 = .ok (.aload_n 1, 1) := by decide +kernel
theorem dX6_toppleByPlaces_49 : decode cX6_toppleByPlaces 49 = .ok (.iload_n 3, 1) := by decide +kernel
theorem dX6_toppleByPlaces_50 : decode cX6_toppleByPlaces 50 = .ok (.invokestatic 55, 3) := by decide +kernel
theorem dX6_toppleByPlaces_53 : decode cX6_toppleByPlaces 53 = .ok (.aload_n 0, 1) := by decide +kernel
theorem dX6_toppleByPlaces_54 : decode cX6_toppleByPlaces 54 = .ok (.getfield 15, 3) := by decide +kernel
theorem dX6_toppleByPlaces_57 : decode cX6_toppleByPlaces 57 = .ok (.iload_n 3, 1) := by decide +kernel
theorem dX6_toppleByPlaces_58 : decode cX6_toppleByPlaces 58 = .ok (.dup2, 1) := by decide +kernel
theorem dX6_toppleByPlaces_59 : decode cX6_toppleByPlaces 59 = .ok (.iaload, 1) := by decide +kernel
theorem dX6_toppleByPlaces_60 : decode cX6_toppleByPlaces 60 = .ok (.iconst 1, 1) := by decide +kernel
theorem dX6_toppleByPlaces_61 : decode cX6_toppleByPlaces 61 = .ok (.iadd, 1) := by decide +kernel
theorem dX6_toppleByPlaces_62 : decode cX6_toppleByPlaces 62 = .ok (.iastore, 1) := by decide +kernel
theorem dX6_toppleByPlaces_63 : decode cX6_toppleByPlaces 63 = .ok (.iinc 2 1, 3) := by decide +kernel
theorem dX6_toppleByPlaces_66 : decode cX6_toppleByPlaces 66 = .ok (.iconst 0, 1) := by decide +kernel
theorem dX6_toppleByPlaces_67 : decode cX6_toppleByPlaces 67 = .ok (.istore_n 3, 1) := by decide +kernel
theorem dX6_toppleByPlaces_68 : decode cX6_toppleByPlaces 68 = .ok (.goto 6, 3) := by decide +kernel
theorem dX6_toppleByPlaces_71 : decode cX6_toppleByPlaces 71 = .ok (.iinc 3 1, 3) := by decide +kernel
theorem dX6_toppleByPlaces_74 : decode cX6_toppleByPlaces 74 = .ok (.iinc 4 1, 3) := by decide +kernel
theorem dX6_toppleByPlaces_77 : decode cX6_toppleByPlaces 77 = .ok (.goto (-49), 3) := by decide +kernel
theorem dX6_toppleByPlaces_80 : decode cX6_toppleByPlaces 80 = .ok (.iload_n 2, 1) := by decide +kernel
theorem dX6_toppleByPlaces_81 : decode cX6_toppleByPlaces 81 = .ok (.ireturn, 1) := by decide +kernel
abbrev rmX6_toppleByPlaces : Room := { frames := 4, cells := 0, slots := 0, locals := 106 }
set_option maxHeartbeats 4000000 in
set_option maxRecDepth 100000 in
theorem metX6_toppleByPlaces {l : Launch} {s0 : State} {b B : Nat} {D : va_G} {T : Nat → ClassId} (F : FX l s0 b D T B) {X : Nat → Prop} (hX : ∀ o, o < 560 → ¬ X (B + o)) {N : Nat} {μ : Mem} {a0 : Nat} {a1 : Nat} {r : Mem × Int32} (k0 : IsSa a0) (k1 : (IA 16) a1) (h : fX6_toppleByPlaces N μ a0 a1 = some r) : gMet l yX6_toppleByPlaces cX6_toppleByPlaces 5 (some .int) rmX6_toppleByPlaces [.ref (B + a0), .ref (B + a1)] (gWC s0 D T B μ) (KC s0 X) (some (.int r.2)) (gWC s0 D T B r.1) (gA B X) 0 0 := by
  refine gI_of RX6 (by decide +kernel) rfl (Nat.le_of_ble_eq_true rfl) ?_
  intro p e s m args below meth c ls Q hx hb hlocks hml hown hts hW hk hl hS hend
  have hC := FX_C F hk hx hb hown hts
  have hA := gA_all hX
  have hl : lv_has ls 5 [(0, .ref (B + a0)), (1, .ref (B + a1))] := hl
  unfold fX6_toppleByPlaces at h
  refine lv_iconst (v := 0) hx hb dX6_toppleByPlaces_0 (by decide) ?_
  refine lv_istore_n (lv' := [(2, .int 0), (0, .ref (B + a0)), (1, .ref (B + a1))]) hx hb dX6_toppleByPlaces_1 rfl hl (by decide) rfl (fun ls hl => ?_)
  refine fix2_ind (fun (x1 : Int32) (μ2 : Mem) => ∀ (H : Heap) (locs : List Loc) (ls : Array Slot), gWC s0 D T B μ2 H → va_S (gA B X) s.heap H locs → lv_has ls 5 [(0, .ref (B + a0)), (1, .ref (B + a1)), (2, .int x1)] → W p l e rmX6_toppleByPlaces s m args below meth c H locs 0 0 Q (F0 m 2 ls [])) ?_ N _ _ h _ _ _ hW hS (lv_sub hl [1, 2, 0] rfl)
  clear h hW hS hl
  intro self3 IH4 x1 μ2 h H locs ls hW hS hl
  refine lv_iload_n hx hb dX6_toppleByPlaces_2 rfl (lv_at hl 2 rfl) ?_
  refine lv_bipush (v := 16) hx hb dX6_toppleByPlaces_3 (by decide) ?_
  refine lv_icmp_ge (tgt := 21) hx hb dX6_toppleByPlaces_5 (by decide) (fun c5 => ?_) (fun c5 => ?_)
  · replace h := ite_t c5 h
    refine lv_iconst (v := 0) hx hb dX6_toppleByPlaces_21 (by decide) ?_
    refine lv_istore_n (lv' := [(2, .int 0), (0, .ref (B + a0)), (1, .ref (B + a1))]) hx hb dX6_toppleByPlaces_22 rfl hl (by decide) rfl (fun ls hl => ?_)
    refine lv_iconst (v := 0) hx hb dX6_toppleByPlaces_23 (by decide) ?_
    refine lv_istore_n (lv' := [(3, .int 0), (2, .int 0), (0, .ref (B + a0)), (1, .ref (B + a1))]) hx hb dX6_toppleByPlaces_24 rfl hl (by decide) rfl (fun ls hl => ?_)
    refine lv_iconst (v := 0) hx hb dX6_toppleByPlaces_25 (by decide) ?_
    refine lv_istore (lv' := [(4, .int 0), (3, .int 0), (2, .int 0), (0, .ref (B + a0)), (1, .ref (B + a1))]) hx hb dX6_toppleByPlaces_26 hl (by decide) rfl (fun ls hl => ?_)
    refine fix4_ind (fun (x6 : Int32) (x7 : Int32) (x8 : Int32) (μ9 : Mem) => ∀ (H : Heap) (locs : List Loc) (ls : Array Slot), gWC s0 D T B μ9 H → va_S (gA B X) s.heap H locs → lv_has ls 5 [(0, .ref (B + a0)), (1, .ref (B + a1)), (2, .int x6), (3, .int x7), (4, .int x8)] → W p l e rmX6_toppleByPlaces s m args below meth c H locs 0 0 Q (F0 m 28 ls [])) ?_ N _ _ _ _ h _ _ _ hW hS (lv_sub hl [3, 4, 2, 1, 0] rfl)
    clear h hW hS hl
    intro self10 IH11 x6 x7 x8 μ9 h H locs ls hW hS hl
    refine lv_iload hx hb dX6_toppleByPlaces_28 (lv_at hl 4 rfl) ?_
    refine lv_ldc (v := 1000000) hx hb hown (hts _ kc_X6_54) dX6_toppleByPlaces_30 ?_
    obtain ⟨j13, hj15, h⟩ := jn1_o h
    have J14 : ∀ (u12 : Unit), j13 u12 = some r → ∀ (H : Heap) (locs : List Loc) (ls : Array Slot), gWC s0 D T B μ9 H → va_S (gA B X) s.heap H locs → lv_has ls 5 [(2, .int x6)] → W p l e rmX6_toppleByPlaces s m args below meth c H locs 0 0 Q (F0 m 80 ls []) := by
      clear h hW hS hl
      intro u12 h H locs ls hW hS hl
      replace h := (hj15 u12).symm.trans h
      refine lv_iload_n hx hb dX6_toppleByPlaces_80 rfl (lv_at hl 0 rfl) ?_
      cases h
      exact hend dX6_toppleByPlaces_81 hW hS (Nat.le_of_ble_eq_true rfl) (Nat.le_of_ble_eq_true rfl)
    refine lv_icmp_ge (tgt := 80) hx hb dX6_toppleByPlaces_32 (by decide) (fun c16 => ?_) (fun c16 => ?_)
    · replace h := ite_t c16 h
      exact J14 _ h _ _ _ hW hS (lv_sub hl [2] rfl)
    · replace h := ite_f c16 h
      refine lv_iload_n hx hb dX6_toppleByPlaces_35 rfl (lv_at hl 3 rfl) ?_
      refine lv_bipush (v := 16) hx hb dX6_toppleByPlaces_36 (by decide) ?_
      refine lv_icmp_ge (tgt := 80) hx hb dX6_toppleByPlaces_38 (by decide) (fun c17 => ?_) (fun c17 => ?_)
      · replace h := ite_t c17 h
        exact J14 _ h _ _ _ hW hS (lv_sub hl [2] rfl)
      · replace h := ite_f c17 h
        refine lv_aload_n hx hb dX6_toppleByPlaces_41 rfl (lv_at hl 1 rfl) ?_
        refine lv_iload_n hx hb dX6_toppleByPlaces_42 rfl (lv_at hl 3 rfl) ?_
        obtain ⟨v18, e19, hi20, h⟩ := ag_o h
        refine gq_iald hC hW k1.1 (k1.2 (gfm s0) T B (μ9 a1)) (t0 := 0) rfl e19 hi20 dX6_toppleByPlaces_43 ?_
        refine lv_iconst (v := 4) hx hb dX6_toppleByPlaces_44 (by decide) ?_
        obtain ⟨j24, hj26, h⟩ := jn3_o h
        have J25 : ∀ (y21 : Int32) (y22 : Int32) (μ23 : Mem), j24 y21 y22 μ23 = some r → ∀ (H : Heap) (locs : List Loc) (ls : Array Slot), gWC s0 D T B μ23 H → va_S (gA B X) s.heap H locs → lv_has ls 5 [(0, .ref (B + a0)), (1, .ref (B + a1)), (2, .int y21), (3, .int y22), (4, .int x8)] → W p l e rmX6_toppleByPlaces s m args below meth c H locs 0 0 Q (F0 m 74 ls []) := by
          clear h hW hS hl
          intro y21 y22 μ23 h H locs ls hW hS hl
          replace h := (hj26 y21 y22 μ23).symm.trans h
          obtain ⟨v27, e28, h⟩ := lt_out h
          refine lv_iinc (v := v27) (lv' := [(4, .int v27), (0, .ref (B + a0)), (1, .ref (B + a1)), (2, .int y21), (3, .int y22)]) hx hb dX6_toppleByPlaces_74 hl (k := 4) rfl (by rw [e28]; rfl) (by decide) rfl (fun ls hl => ?_)
          refine lv_goto (tgt := 28) hx hb dX6_toppleByPlaces_77 (by decide) ?_
          exact IH11 _ _ _ _ h _ _ _ hW hS (lv_sub hl [1, 2, 3, 4, 0] rfl)
        refine lv_icmp_lt (tgt := 71) hx hb dX6_toppleByPlaces_45 (by decide) (fun c29 => ?_) (fun c29 => ?_)
        · replace h := ite_t c29 h
          obtain ⟨v30, e31, h⟩ := lt_out h
          refine lv_iinc (v := v30) (lv' := [(3, .int v30), (0, .ref (B + a0)), (1, .ref (B + a1)), (2, .int x6), (4, .int x8)]) hx hb dX6_toppleByPlaces_71 hl (k := 3) rfl (by rw [e31]; rfl) (by decide) rfl (fun ls hl => ?_)
          exact J25 _ _ _ h _ _ _ hW hS (lv_sub hl [1, 2, 3, 0, 4] rfl)
        · replace h := ite_f c29 h
          refine lv_aload_n hx hb dX6_toppleByPlaces_48 rfl (lv_at hl 1 rfl) ?_
          refine lv_iload_n hx hb dX6_toppleByPlaces_49 rfl (lv_at hl 3 rfl) ?_
          obtain ⟨r32, hcall, h⟩ := bd_out h
          refine g0_callS (As := [.ref (B + a1), .int x7]) hC hml hS hW (KC_at hk hS F.2.2.2.2) KC_blind (metX6_toppleOnce F hX k1 hcall) ml_X6_55 ⟨rfl, rfl, (Nat.le_of_ble_eq_true rfl), (Nat.le_of_ble_eq_true rfl)⟩ rfl hl.1 rfl (Nat.le_of_ble_eq_true rfl) dX6_toppleByPlaces_50 ⟨(Nat.le_of_ble_eq_true rfl), (Nat.le_of_ble_eq_true rfl)⟩ (fun H locs hW hS => ?_)
          refine lv_aload_n hx hb dX6_toppleByPlaces_53 rfl (lv_at hl 0 rfl) ?_
          refine gw_get (v := .ref (B + (a0 + 2))) hC hW fl_X6_15 k0.1 (k0.2.1 (gfm s0) T B (r32 a0)) rfl dX6_toppleByPlaces_54 ?_
          refine lv_iload_n hx hb dX6_toppleByPlaces_57 rfl (lv_at hl 3 rfl) ?_
          refine lv_dup2_11 hx hb dX6_toppleByPlaces_58 rfl rfl ?_
          obtain ⟨v33, e34, hi35, h⟩ := ag_o h
          refine gq_iald hC hW k0.2.2.2.1.1 (k0.2.2.2.1.2 (gfm s0) T B (r32 (a0 + 2))) (t0 := 0) rfl e34 hi35 dX6_toppleByPlaces_59 ?_
          refine lv_iconst (v := 1) hx hb dX6_toppleByPlaces_60 (by decide) ?_
          refine lv_iadd hx hb dX6_toppleByPlaces_61 ?_
          obtain ⟨μ36, e37, hi38, h⟩ := aw_o h
          refine gq_iast hC hS hW hA k0.2.2.2.1.1 (k0.2.2.2.1.2 (gfm s0) T B) (t0 := 0) rfl e37 hi38 dX6_toppleByPlaces_62 (fun H locs hW hS => ?_)
          obtain ⟨v39, e40, h⟩ := lt_out h
          refine lv_iinc (v := v39) (lv' := [(2, .int v39), (0, .ref (B + a0)), (1, .ref (B + a1)), (3, .int x7), (4, .int x8)]) hx hb dX6_toppleByPlaces_63 hl (k := 2) rfl (by rw [e40]; rfl) (by decide) rfl (fun ls hl => ?_)
          refine lv_iconst (v := 0) hx hb dX6_toppleByPlaces_66 (by decide) ?_
          refine lv_istore_n (lv' := [(3, .int 0), (2, .int v39), (0, .ref (B + a0)), (1, .ref (B + a1)), (4, .int x8)]) hx hb dX6_toppleByPlaces_67 rfl hl (by decide) rfl (fun ls hl => ?_)
          refine lv_goto (tgt := 74) hx hb dX6_toppleByPlaces_68 (by decide) ?_
          exact J25 _ _ _ h _ _ _ hW hS (lv_sub hl [2, 3, 1, 0, 4] rfl)
  · replace h := ite_f c5 h
    refine lv_aload_n hx hb dX6_toppleByPlaces_8 rfl (lv_at hl 0 rfl) ?_
    refine gw_get (v := .ref (B + (a0 + 2))) hC hW fl_X6_15 k0.1 (k0.2.1 (gfm s0) T B (μ2 a0)) rfl dX6_toppleByPlaces_9 ?_
    refine lv_iload_n hx hb dX6_toppleByPlaces_12 rfl (lv_at hl 2 rfl) ?_
    refine lv_iconst (v := 0) hx hb dX6_toppleByPlaces_13 (by decide) ?_
    obtain ⟨μ41, e42, hi43, h⟩ := aw_o h
    refine gq_iast hC hS hW hA k0.2.2.2.1.1 (k0.2.2.2.1.2 (gfm s0) T B) (t0 := 0) rfl e42 hi43 dX6_toppleByPlaces_14 (fun H locs hW hS => ?_)
    obtain ⟨v44, e45, h⟩ := lt_out h
    refine lv_iinc (v := v44) (lv' := [(2, .int v44), (0, .ref (B + a0)), (1, .ref (B + a1))]) hx hb dX6_toppleByPlaces_15 hl (k := 2) rfl (by rw [e45]; rfl) (by decide) rfl (fun ls hl => ?_)
    refine lv_goto (tgt := 2) hx hb dX6_toppleByPlaces_18 (by decide) ?_
    exact IH4 _ _ h _ _ _ hW hS (lv_sub hl [1, 2, 0] rfl)

theorem dX6_fallOn_0 : decode cX6_fallOn 0 = .ok (.aload_n 1, 1) := by decide +kernel
theorem dX6_fallOn_1 : decode cX6_fallOn 1 = .ok (.getfield 25, 3) := by decide +kernel
theorem dX6_fallOn_4 : decode cX6_fallOn 4 = .ok (.iload_n 2, 1) := by decide +kernel
theorem dX6_fallOn_5 : decode cX6_fallOn 5 = .ok (.dup2, 1) := by decide +kernel
theorem dX6_fallOn_6 : decode cX6_fallOn 6 = .ok (.iaload, 1) := by decide +kernel
theorem dX6_fallOn_7 : decode cX6_fallOn 7 = .ok (.iload_n 3, 1) := by decide +kernel
theorem dX6_fallOn_8 : decode cX6_fallOn 8 = .ok (.iadd, 1) := by decide +kernel
theorem dX6_fallOn_9 : decode cX6_fallOn 9 = .ok (.iastore, 1) := by decide +kernel
theorem dX6_fallOn_10 : decode cX6_fallOn 10 = .ok (.aload_n 1, 1) := by decide +kernel
theorem dX6_fallOn_11 : decode cX6_fallOn 11 = .ok (.dup, 1) := by decide +kernel
theorem dX6_fallOn_12 : decode cX6_fallOn 12 = .ok (.getfield 30, 3) := by decide +kernel
theorem dX6_fallOn_15 : decode cX6_fallOn 15 = .ok (.iload_n 3, 1) := by decide +kernel
theorem dX6_fallOn_16 : decode cX6_fallOn 16 = .ok (.iadd, 1) := by decide +kernel
theorem dX6_fallOn_17 : decode cX6_fallOn 17 = .ok (.putfield 30, 3) := by decide +kernel
theorem dX6_fallOn_20 : decode cX6_fallOn 20 = .ok (.aload_n 1, 1) := by decide +kernel
theorem dX6_fallOn_21 : decode cX6_fallOn 21 = .ok (.getfield 25, 3) := by decide +kernel
theorem dX6_fallOn_24 : decode cX6_fallOn 24 = .ok (.invokestatic 34, 3) := by decide +kernel
theorem dX6_fallOn_27 : decode cX6_fallOn 27 = .ok (.istore 4, 2) := by decide +kernel
theorem dX6_fallOn_29 : decode cX6_fallOn 29 = .ok (.aload_n 0, 1) := by decide +kernel
theorem dX6_fallOn_30 : decode cX6_fallOn 30 = .ok (.aload_n 1, 1) := by decide +kernel
theorem dX6_fallOn_31 : decode cX6_fallOn 31 = .ok (.getfield 25, 3) := by decide +kernel
theorem dX6_fallOn_34 : decode cX6_fallOn 34 = .ok (.invokevirtual 38, 3) := by decide +kernel
theorem dX6_fallOn_37 : decode cX6_fallOn 37 = .ok (.istore 5, 2) := by decide +kernel
theorem dX6_fallOn_39 : decode cX6_fallOn 39 = .ok (.aload_n 1, 1) := by decide +kernel
theorem dX6_fallOn_40 : decode cX6_fallOn 40 = .ok (.dup, 1) := by decide +kernel
theorem dX6_fallOn_41 : decode cX6_fallOn 41 = .ok (.getfield 41, 3) := by decide +kernel
theorem dX6_fallOn_44 : decode cX6_fallOn 44 = .ok (.iload 4, 2) := by decide +kernel
theorem dX6_fallOn_46 : decode cX6_fallOn 46 = .ok (.aload_n 1, 1) := by decide +kernel
theorem dX6_fallOn_47 : decode cX6_fallOn 47 = .ok (.getfield 25, 3) := by decide +kernel
theorem dX6_fallOn_50 : decode cX6_fallOn 50 = .ok (.invokestatic 34, 3) := by decide +kernel
theorem dX6_fallOn_53 : decode cX6_fallOn 53 = .ok (.isub, 1) := by decide +kernel
theorem dX6_fallOn_54 : decode cX6_fallOn 54 = .ok (.iadd, 1) := by decide +kernel
theorem dX6_fallOn_55 : decode cX6_fallOn 55 = .ok (.putfield 41, 3) := by decide +kernel
theorem dX6_fallOn_58 : decode cX6_fallOn 58 = .ok (.iload 5, 2) := by decide +kernel
theorem dX6_fallOn_60 : decode cX6_fallOn 60 = .ok (.ireturn, 1) := by decide +kernel
abbrev rmX6_fallOn : Room := { frames := 5, cells := 0, slots := 0, locals := 130 }
set_option maxHeartbeats 4000000 in
set_option maxRecDepth 100000 in
theorem metX6_fallOn {l : Launch} {s0 : State} {b B : Nat} {D : va_G} {T : Nat → ClassId} (F : FX l s0 b D T B) {X : Nat → Prop} (hX : ∀ o, o < 560 → ¬ X (B + o)) {N : Nat} {μ : Mem} {a0 : Nat} {a1 : Nat} {a2 : Int32} {a3 : Int32} {r : Mem × Int32} (k0 : IsSa a0) (k1 : IsEx a1) (h : fX6_fallOn N μ a0 a1 a2 a3 = some r) : gMet l yX6_fallOn cX6_fallOn 6 (some .int) rmX6_fallOn [.ref (B + a0), .ref (B + a1), .int a2, .int a3] (gWC s0 D T B μ) (KC s0 X) (some (.int r.2)) (gWC s0 D T B r.1) (gA B X) 0 0 := by
  refine gI_of RX6 (by decide +kernel) rfl (Nat.le_of_ble_eq_true rfl) ?_
  intro p e s m args below meth c ls Q hx hb hlocks hml hown hts hW hk hl hS hend
  have hC := FX_C F hk hx hb hown hts
  have hA := gA_all hX
  have hl : lv_has ls 6 [(0, .ref (B + a0)), (1, .ref (B + a1)), (2, .int a2), (3, .int a3)] := hl
  unfold fX6_fallOn at h
  refine lv_aload_n hx hb dX6_fallOn_0 rfl (lv_at hl 1 rfl) ?_
  refine gw_get (v := .ref (B + (a1 + 1))) hC hW fl_X6_25 k1.1 (k1.2.1 (gfm s0) T B (μ a1)) rfl dX6_fallOn_1 ?_
  refine lv_iload_n hx hb dX6_fallOn_4 rfl (lv_at hl 2 rfl) ?_
  refine lv_dup2_11 hx hb dX6_fallOn_5 rfl rfl ?_
  obtain ⟨v1, e2, hi3, h⟩ := ag_o h
  refine gq_iald hC hW k1.2.2.1.1 (k1.2.2.1.2 (gfm s0) T B (μ (a1 + 1))) (t0 := 0) rfl e2 hi3 dX6_fallOn_6 ?_
  refine lv_iload_n hx hb dX6_fallOn_7 rfl (lv_at hl 3 rfl) ?_
  refine lv_iadd hx hb dX6_fallOn_8 ?_
  obtain ⟨μ4, e5, hi6, h⟩ := aw_o h
  refine gq_iast hC hS hW hA k1.2.2.1.1 (k1.2.2.1.2 (gfm s0) T B) (t0 := 0) rfl e5 hi6 dX6_fallOn_9 (fun H locs hW hS => ?_)
  refine lv_aload_n hx hb dX6_fallOn_10 rfl (lv_at hl 1 rfl) ?_
  refine lv_dup hx hb dX6_fallOn_11 rfl ?_
  refine gw_get (v := .int (μ4 a1 3)) hC hW fl_X6_30.1 k1.1 (k1.2.1 (gfm s0) T B (μ4 a1)) rfl dX6_fallOn_12 ?_
  refine lv_iload_n hx hb dX6_fallOn_15 rfl (lv_at hl 3 rfl) ?_
  refine lv_iadd hx hb dX6_fallOn_16 ?_
  obtain ⟨μ7, e8, h⟩ := lt_out h
  refine gq_put hC hS hW hA fl_X6_30 k1.1 (k1.2.1 (gfm s0) T B) (Nat.le_of_ble_eq_true rfl) rfl rfl rfl e8 dX6_fallOn_17 (fun H locs hW hS => ?_)
  refine lv_aload_n hx hb dX6_fallOn_20 rfl (lv_at hl 1 rfl) ?_
  refine gw_get (v := .ref (B + (a1 + 1))) hC hW fl_X6_25 k1.1 (k1.2.1 (gfm s0) T B (μ7 a1)) rfl dX6_fallOn_21 ?_
  obtain ⟨r9, hcall, h⟩ := bd_out h
  refine g0_callS (As := [.ref (B + (a1 + 1))]) hC hml hS hW (KC_at hk hS F.2.2.2.2) KC_blind (metX6_countGrains F hX k1.2.2.1 hcall) ml_X6_34 ⟨rfl, rfl, (Nat.le_of_ble_eq_true rfl), (Nat.le_of_ble_eq_true rfl)⟩ rfl hl.1 rfl (Nat.le_of_ble_eq_true rfl) dX6_fallOn_24 ⟨(Nat.le_of_ble_eq_true rfl), (Nat.le_of_ble_eq_true rfl)⟩ (fun H locs hW hS => ?_)
  refine lv_istore (lv' := [(4, .int r9), (0, .ref (B + a0)), (1, .ref (B + a1)), (2, .int a2), (3, .int a3)]) hx hb dX6_fallOn_27 hl (by decide) rfl (fun ls hl => ?_)
  refine lv_aload_n hx hb dX6_fallOn_29 rfl (lv_at hl 1 rfl) ?_
  refine lv_aload_n hx hb dX6_fallOn_30 rfl (lv_at hl 2 rfl) ?_
  refine gw_get (v := .ref (B + (a1 + 1))) hC hW fl_X6_25 k1.1 (k1.2.1 (gfm s0) T B (μ7 a1)) rfl dX6_fallOn_31 ?_
  obtain ⟨r10, hcall, h⟩ := bd_out h
  refine g0_callV (As := [.ref (B + (a1 + 1))]) hC hml hS hW (KC_at hk hS F.2.2.2.2) KC_blind (metX6_toppleByPlaces F hX k0 k1.2.2.1 hcall) ml_X6_38 (gw_recv hC hW k0.1 (k0.2.1 (gfm s0) T B (μ7 a0)) rfl) ⟨rfl, rfl, (Nat.le_of_ble_eq_true rfl), (Nat.le_of_ble_eq_true rfl)⟩ rfl hl.1 rfl (Nat.le_of_ble_eq_true rfl) dX6_fallOn_34 ⟨(Nat.le_of_ble_eq_true rfl), (Nat.le_of_ble_eq_true rfl)⟩ (fun H locs hW hS => ?_)
  refine lv_istore (lv' := [(5, .int r10.2), (4, .int r9), (0, .ref (B + a0)), (1, .ref (B + a1)), (2, .int a2), (3, .int a3)]) hx hb dX6_fallOn_37 hl (by decide) rfl (fun ls hl => ?_)
  refine lv_aload_n hx hb dX6_fallOn_39 rfl (lv_at hl 3 rfl) ?_
  refine lv_dup hx hb dX6_fallOn_40 rfl ?_
  refine gw_get (v := .int (r10.1 a1 4)) hC hW fl_X6_41.1 k1.1 (k1.2.1 (gfm s0) T B (r10.1 a1)) rfl dX6_fallOn_41 ?_
  refine lv_iload hx hb dX6_fallOn_44 (lv_at hl 1 rfl) ?_
  refine lv_aload_n hx hb dX6_fallOn_46 rfl (lv_at hl 3 rfl) ?_
  refine gw_get (v := .ref (B + (a1 + 1))) hC hW fl_X6_25 k1.1 (k1.2.1 (gfm s0) T B (r10.1 a1)) rfl dX6_fallOn_47 ?_
  obtain ⟨r11, hcall, h⟩ := bd_out h
  refine g0_callS (As := [.ref (B + (a1 + 1))]) hC hml hS hW (KC_at hk hS F.2.2.2.2) KC_blind (metX6_countGrains F hX k1.2.2.1 hcall) ml_X6_34 ⟨rfl, rfl, (Nat.le_of_ble_eq_true rfl), (Nat.le_of_ble_eq_true rfl)⟩ rfl hl.1 rfl (Nat.le_of_ble_eq_true rfl) dX6_fallOn_50 ⟨(Nat.le_of_ble_eq_true rfl), (Nat.le_of_ble_eq_true rfl)⟩ (fun H locs hW hS => ?_)
  refine lv_isub hx hb dX6_fallOn_53 ?_
  refine lv_iadd hx hb dX6_fallOn_54 ?_
  obtain ⟨μ12, e13, h⟩ := lt_out h
  refine gq_put hC hS hW hA fl_X6_41 k1.1 (k1.2.1 (gfm s0) T B) (Nat.le_of_ble_eq_true rfl) rfl rfl rfl e13 dX6_fallOn_55 (fun H locs hW hS => ?_)
  refine lv_iload hx hb dX6_fallOn_58 (lv_at hl 0 rfl) ?_
  cases h
  exact hend dX6_fallOn_60 hW hS (Nat.le_of_ble_eq_true rfl) (Nat.le_of_ble_eq_true rfl)

theorem dX6_tryFall_0 : decode cX6_tryFall 0 = .ok (.aload_n 1, 1) := by decide +kernel
theorem dX6_tryFall_1 : decode cX6_tryFall 1 = .ok (.getfield 25, 3) := by decide +kernel
theorem dX6_tryFall_4 : decode cX6_tryFall 4 = .ok (.iconst 0, 1) := by decide +kernel
theorem dX6_tryFall_5 : decode cX6_tryFall 5 = .ok (.aload_n 0, 1) := by decide +kernel
theorem dX6_tryFall_6 : decode cX6_tryFall 6 = .ok (.getfield 9, 3) := by decide +kernel
theorem dX6_tryFall_9 : decode cX6_tryFall 9 = .ok (.iconst 0, 1) := by decide +kernel
theorem dX6_tryFall_10 : decode cX6_tryFall 10 = .ok (.bipush 16, 2) := by decide +kernel
theorem dX6_tryFall_12 : decode cX6_tryFall 12 = .ok (.invokestatic 44, 3) := by decide +kernel
theorem dX6_tryFall_15 : decode cX6_tryFall 15 = .ok (.aload_n 0, 1) := by decide +kernel
theorem dX6_tryFall_16 : decode cX6_tryFall 16 = .ok (.getfield 9, 3) := by decide +kernel
theorem dX6_tryFall_19 : decode cX6_tryFall 19 = .ok (.iload_n 2, 1) := by decide +kernel
theorem dX6_tryFall_20 : decode cX6_tryFall 20 = .ok (.dup2, 1) := by decide +kernel
theorem dX6_tryFall_21 : decode cX6_tryFall 21 = .ok (.iaload, 1) := by decide +kernel
theorem dX6_tryFall_22 : decode cX6_tryFall 22 = .ok (.iload_n 3, 1) := by decide +kernel
theorem dX6_tryFall_23 : decode cX6_tryFall 23 = .ok (.iadd, 1) := by decide +kernel
theorem dX6_tryFall_24 : decode cX6_tryFall 24 = .ok (.iastore, 1) := by decide +kernel
theorem dX6_tryFall_25 : decode cX6_tryFall 25 = .ok (.return_, 1) := by decide +kernel
abbrev rmX6_tryFall : Room := { frames := 2, cells := 0, slots := 0, locals := 60 }
set_option maxHeartbeats 4000000 in
set_option maxRecDepth 100000 in
theorem metX6_tryFall {l : Launch} {s0 : State} {b B : Nat} {D : va_G} {T : Nat → ClassId} (F : FX l s0 b D T B) {X : Nat → Prop} (hX : ∀ o, o < 560 → ¬ X (B + o)) {N : Nat} {μ : Mem} {a0 : Nat} {a1 : Nat} {a2 : Int32} {a3 : Int32} {r : Mem} (k0 : IsSa a0) (k1 : IsEx a1) (h : fX6_tryFall N μ a0 a1 a2 a3 = some r) : gMet l yX6_tryFall cX6_tryFall 4 none rmX6_tryFall [.ref (B + a0), .ref (B + a1), .int a2, .int a3] (gWC s0 D T B μ) (KC s0 X) none (gWC s0 D T B r) (gA B X) 0 0 := by
  refine gV_of RX6 (by decide +kernel) rfl (Nat.le_of_ble_eq_true rfl) ?_
  intro p e s m args below meth c ls Q hx hb hlocks hml hown hts hW hk hl hS hend
  have hC := FX_C F hk hx hb hown hts
  have hA := gA_all hX
  have hl : lv_has ls 4 [(0, .ref (B + a0)), (1, .ref (B + a1)), (2, .int a2), (3, .int a3)] := hl
  unfold fX6_tryFall at h
  refine lv_aload_n hx hb dX6_tryFall_0 rfl (lv_at hl 1 rfl) ?_
  refine gw_get (v := .ref (B + (a1 + 1))) hC hW fl_X6_25 k1.1 (k1.2.1 (gfm s0) T B (μ a1)) rfl dX6_tryFall_1 ?_
  refine lv_iconst (v := 0) hx hb dX6_tryFall_4 (by decide) ?_
  refine lv_aload_n hx hb dX6_tryFall_5 rfl (lv_at hl 0 rfl) ?_
  refine gw_get (v := .ref (B + (a0 + 1))) hC hW fl_X6_9 k0.1 (k0.2.1 (gfm s0) T B (μ a0)) rfl dX6_tryFall_6 ?_
  refine lv_iconst (v := 0) hx hb dX6_tryFall_9 (by decide) ?_
  refine lv_bipush (v := 16) hx hb dX6_tryFall_10 (by decide) ?_
  obtain ⟨μ1, e2, hc3, h⟩ := acp_o h
  refine gw_copy hC (hml.trans hl.1.symm) lm_X6_44 lb_copy.1 lb_copy.2.1 lb_copy.2.2 hS hW hA k1.2.2.1.1 k0.2.2.1.1 (k1.2.2.1.2 (gfm s0) T B) (k0.2.2.1.2 (gfm s0) T B) (t0 := 0) rfl e2 hc3 (Nat.le_of_ble_eq_true rfl) (Nat.le_of_ble_eq_true rfl) dX6_tryFall_12 (fun H locs hW hS => ?_)
  refine lv_aload_n hx hb dX6_tryFall_15 rfl (lv_at hl 0 rfl) ?_
  refine gw_get (v := .ref (B + (a0 + 1))) hC hW fl_X6_9 k0.1 (k0.2.1 (gfm s0) T B (μ1 a0)) rfl dX6_tryFall_16 ?_
  refine lv_iload_n hx hb dX6_tryFall_19 rfl (lv_at hl 2 rfl) ?_
  refine lv_dup2_11 hx hb dX6_tryFall_20 rfl rfl ?_
  obtain ⟨v4, e5, hi6, h⟩ := ag_o h
  refine gq_iald hC hW k0.2.2.1.1 (k0.2.2.1.2 (gfm s0) T B (μ1 (a0 + 1))) (t0 := 0) rfl e5 hi6 dX6_tryFall_21 ?_
  refine lv_iload_n hx hb dX6_tryFall_22 rfl (lv_at hl 3 rfl) ?_
  refine lv_iadd hx hb dX6_tryFall_23 ?_
  obtain ⟨μ7, e8, hi9, h⟩ := aw_o h
  refine gq_iast hC hS hW hA k0.2.2.1.1 (k0.2.2.1.2 (gfm s0) T B) (t0 := 0) rfl e8 hi9 dX6_tryFall_24 (fun H locs hW hS => ?_)
  cases h
  exact hend dX6_tryFall_25 hW hS (Nat.le_of_ble_eq_true rfl) (Nat.le_of_ble_eq_true rfl)

theorem dX6_markReady_0 : decode cX6_markReady 0 = .ok (.iconst 0, 1) := by decide +kernel
theorem dX6_markReady_1 : decode cX6_markReady 1 = .ok (.istore_n 2, 1) := by decide +kernel
theorem dX6_markReady_2 : decode cX6_markReady 2 = .ok (.iconst 0, 1) := by decide +kernel
theorem dX6_markReady_3 : decode cX6_markReady 3 = .ok (.istore_n 3, 1) := by decide +kernel
theorem dX6_markReady_4 : decode cX6_markReady 4 = .ok (.iload_n 3, 1) := by decide +kernel
theorem dX6_markReady_5 : decode cX6_markReady 5 = .ok (.bipush 16, 2) := by decide +kernel
theorem dX6_markReady_7 : decode cX6_markReady 7 = .ok (.if_icmp .ge 39, 3) := by decide +kernel
theorem dX6_markReady_10 : decode cX6_markReady 10 = .ok (.aload_n 0, 1) := by decide +kernel
theorem dX6_markReady_11 : decode cX6_markReady 11 = .ok (.getfield 18, 3) := by decide +kernel
theorem dX6_markReady_14 : decode cX6_markReady 14 = .ok (.iload_n 3, 1) := by decide +kernel
theorem dX6_markReady_15 : decode cX6_markReady 15 = .ok (.aload_n 1, 1) := by decide +kernel
theorem dX6_markReady_16 : decode cX6_markReady 16 = .ok (.iload_n 3, 1) := by decide +kernel
theorem dX6_markReady_17 : decode cX6_markReady 17 = .ok (.iaload, 1) := by decide +kernel
theorem dX6_markReady_18 : decode cX6_markReady 18 = .ok (.iconst 4, 1) := by decide +kernel
theorem dX6_markReady_19 : decode cX6_markReady 19 = .ok (.if_icmp .lt 7, 3) := by decide +kernel
theorem dX6_markReady_22 : decode cX6_markReady 22 = .ok (.iconst 1, 1) := by decide +kernel
theorem dX6_markReady_23 : decode cX6_markReady 23 = .ok (.goto 4, 3) := by decide +kernel
theorem dX6_markReady_26 : decode cX6_markReady 26 = .ok (.iconst 0, 1) := by decide +kernel
theorem dX6_markReady_27 : decode cX6_markReady 27 = .ok (.bastore, 1) := by decide +kernel
theorem dX6_markReady_28 : decode cX6_markReady 28 = .ok (.aload_n 0, 1) := by decide +kernel
theorem dX6_markReady_29 : decode cX6_markReady 29 = .ok (.getfield 18, 3) := by decide +kernel
theorem dX6_markReady_32 : decode cX6_markReady 32 = .ok (.iload_n 3, 1) := by decide +kernel
theorem dX6_markReady_33 : decode cX6_markReady 33 = .ok (.baload, 1) := by decide +kernel
theorem dX6_markReady_34 : decode cX6_markReady 34 = .ok (.ifCond .eq 6, 3) := by decide +kernel
theorem dX6_markReady_37 : decode cX6_markReady 37 = .ok (.iinc 2 1, 3) := by decide +kernel
theorem dX6_markReady_40 : decode cX6_markReady 40 = .ok (.iinc 3 1, 3) := by decide +kernel
theorem dX6_markReady_43 : decode cX6_markReady 43 = .ok (.goto (-39), 3) := by decide +kernel
theorem dX6_markReady_46 : decode cX6_markReady 46 = .ok (.iload_n 2, 1) := by decide +kernel
theorem dX6_markReady_47 : decode cX6_markReady 47 = .ok (.ireturn, 1) := by decide +kernel
abbrev rmX6_markReady : Room := { frames := 2, cells := 0, slots := 0, locals := 60 }
set_option maxHeartbeats 4000000 in
set_option maxRecDepth 100000 in
theorem metX6_markReady {l : Launch} {s0 : State} {b B : Nat} {D : va_G} {T : Nat → ClassId} (F : FX l s0 b D T B) {X : Nat → Prop} (hX : ∀ o, o < 560 → ¬ X (B + o)) {N : Nat} {μ : Mem} {a0 : Nat} {a1 : Nat} {r : Mem × Int32} (k0 : IsSa a0) (k1 : (IA 16) a1) (h : fX6_markReady N μ a0 a1 = some r) : gMet l yX6_markReady cX6_markReady 4 (some .int) rmX6_markReady [.ref (B + a0), .ref (B + a1)] (gWC s0 D T B μ) (KC s0 X) (some (.int r.2)) (gWC s0 D T B r.1) (gA B X) 0 0 := by
  refine gI_of RX6 (by decide +kernel) rfl (Nat.le_of_ble_eq_true rfl) ?_
  intro p e s m args below meth c ls Q hx hb hlocks hml hown hts hW hk hl hS hend
  have hC := FX_C F hk hx hb hown hts
  have hA := gA_all hX
  have hl : lv_has ls 4 [(0, .ref (B + a0)), (1, .ref (B + a1))] := hl
  unfold fX6_markReady at h
  refine lv_iconst (v := 0) hx hb dX6_markReady_0 (by decide) ?_
  refine lv_istore_n (lv' := [(2, .int 0), (0, .ref (B + a0)), (1, .ref (B + a1))]) hx hb dX6_markReady_1 rfl hl (by decide) rfl (fun ls hl => ?_)
  refine lv_iconst (v := 0) hx hb dX6_markReady_2 (by decide) ?_
  refine lv_istore_n (lv' := [(3, .int 0), (2, .int 0), (0, .ref (B + a0)), (1, .ref (B + a1))]) hx hb dX6_markReady_3 rfl hl (by decide) rfl (fun ls hl => ?_)
  refine fix3_ind (fun (x1 : Int32) (x2 : Int32) (μ3 : Mem) => ∀ (H : Heap) (locs : List Loc) (ls : Array Slot), gWC s0 D T B μ3 H → va_S (gA B X) s.heap H locs → lv_has ls 4 [(0, .ref (B + a0)), (1, .ref (B + a1)), (2, .int x1), (3, .int x2)] → W p l e rmX6_markReady s m args below meth c H locs 0 0 Q (F0 m 4 ls [])) ?_ N _ _ _ h _ _ _ hW hS (lv_sub hl [2, 3, 1, 0] rfl)
  clear h hW hS hl
  intro self4 IH5 x1 x2 μ3 h H locs ls hW hS hl
  refine lv_iload_n hx hb dX6_markReady_4 rfl (lv_at hl 3 rfl) ?_
  refine lv_bipush (v := 16) hx hb dX6_markReady_5 (by decide) ?_
  refine lv_icmp_ge (tgt := 46) hx hb dX6_markReady_7 (by decide) (fun c6 => ?_) (fun c6 => ?_)
  · replace h := ite_t c6 h
    refine lv_iload_n hx hb dX6_markReady_46 rfl (lv_at hl 2 rfl) ?_
    cases h
    exact hend dX6_markReady_47 hW hS (Nat.le_of_ble_eq_true rfl) (Nat.le_of_ble_eq_true rfl)
  · replace h := ite_f c6 h
    refine lv_aload_n hx hb dX6_markReady_10 rfl (lv_at hl 0 rfl) ?_
    refine gw_get (v := .ref (B + (a0 + 3))) hC hW fl_X6_18 k0.1 (k0.2.1 (gfm s0) T B (μ3 a0)) rfl dX6_markReady_11 ?_
    refine lv_iload_n hx hb dX6_markReady_14 rfl (lv_at hl 3 rfl) ?_
    refine lv_aload_n hx hb dX6_markReady_15 rfl (lv_at hl 1 rfl) ?_
    refine lv_iload_n hx hb dX6_markReady_16 rfl (lv_at hl 3 rfl) ?_
    obtain ⟨v7, e8, hi9, h⟩ := ag_o h
    refine gq_iald hC hW k1.1 (k1.2 (gfm s0) T B (μ3 a1)) (t0 := 0) rfl e8 hi9 dX6_markReady_17 ?_
    refine lv_iconst (v := 4) hx hb dX6_markReady_18 (by decide) ?_
    obtain ⟨j11, hj13, h⟩ := jn1_o h
    have J12 : ∀ (y10 : Bool), j11 y10 = some r → ∀ (H : Heap) (locs : List Loc) (ls : Array Slot), gWC s0 D T B μ3 H → va_S (gA B X) s.heap H locs → lv_has ls 4 [(0, .ref (B + a0)), (1, .ref (B + a1)), (2, .int x1), (3, .int x2)] → W p l e rmX6_markReady s m args below meth c H locs 0 0 Q (F0 m 27 ls [.int (b2i y10), .int x2, .ref (B + (a0 + 3))]) := by
      clear h hW hS hl
      intro y10 h H locs ls hW hS hl
      replace h := (hj13 y10).symm.trans h
      obtain ⟨μ14, e15, hi16, h⟩ := aw_o h
      refine gq_zast hC hS hW hA k0.2.2.2.2.1.1 (k0.2.2.2.2.1.2 (gfm s0) T B) (t0 := 1) rfl e15 hi16 dX6_markReady_27 (fun H locs hW hS => ?_)
      refine lv_aload_n hx hb dX6_markReady_28 rfl (lv_at hl 0 rfl) ?_
      refine gw_get (v := .ref (B + (a0 + 3))) hC hW fl_X6_18 k0.1 (k0.2.1 (gfm s0) T B (μ14 a0)) rfl dX6_markReady_29 ?_
      refine lv_iload_n hx hb dX6_markReady_32 rfl (lv_at hl 3 rfl) ?_
      obtain ⟨v17, e18, hi19, h⟩ := ag_o h
      refine gq_zald hC hW k0.2.2.2.2.1.1 (k0.2.2.2.2.1.2 (gfm s0) T B (μ14 (a0 + 3))) (t0 := 1) rfl e18 hi19 dX6_markReady_33 ?_
      obtain ⟨j21, hj23, h⟩ := jn1_o h
      have J22 : ∀ (y20 : Int32), j21 y20 = some r → ∀ (H : Heap) (locs : List Loc) (ls : Array Slot), gWC s0 D T B μ14 H → va_S (gA B X) s.heap H locs → lv_has ls 4 [(0, .ref (B + a0)), (1, .ref (B + a1)), (2, .int y20), (3, .int x2)] → W p l e rmX6_markReady s m args below meth c H locs 0 0 Q (F0 m 40 ls []) := by
        clear h hW hS hl
        intro y20 h H locs ls hW hS hl
        replace h := (hj23 y20).symm.trans h
        obtain ⟨v24, e25, h⟩ := lt_out h
        refine lv_iinc (v := v24) (lv' := [(3, .int v24), (0, .ref (B + a0)), (1, .ref (B + a1)), (2, .int y20)]) hx hb dX6_markReady_40 hl (k := 3) rfl (by rw [e25]; rfl) (by decide) rfl (fun ls hl => ?_)
        refine lv_goto (tgt := 4) hx hb dX6_markReady_43 (by decide) ?_
        exact IH5 _ _ _ h _ _ _ hW hS (lv_sub hl [1, 2, 3, 0] rfl)
      refine lv_if_eq (tgt := 40) hx hb dX6_markReady_34 (by decide) (fun c26 => ?_) (fun c26 => ?_)
      · replace h := ite_t c26 h
        exact J22 _ h _ _ _ hW hS (lv_sub hl [0, 1, 2, 3] rfl)
      · replace h := ite_f c26 h
        obtain ⟨v27, e28, h⟩ := lt_out h
        refine lv_iinc (v := v27) (lv' := [(2, .int v27), (0, .ref (B + a0)), (1, .ref (B + a1)), (3, .int x2)]) hx hb dX6_markReady_37 hl (k := 2) rfl (by rw [e28]; rfl) (by decide) rfl (fun ls hl => ?_)
        exact J22 _ h _ _ _ hW hS (lv_sub hl [1, 2, 0, 3] rfl)
    refine lv_icmp_lt (tgt := 26) hx hb dX6_markReady_19 (by decide) (fun c29 => ?_) (fun c29 => ?_)
    · replace h := ite_t c29 h
      refine lv_iconst (v := 0) hx hb dX6_markReady_26 (by decide) ?_
      exact J12 _ h _ _ _ hW hS (lv_sub hl [0, 1, 2, 3] rfl)
    · replace h := ite_f c29 h
      refine lv_iconst (v := 1) hx hb dX6_markReady_22 (by decide) ?_
      refine lv_goto (tgt := 27) hx hb dX6_markReady_23 (by decide) ?_
      exact J12 _ h _ _ _ hW hS (lv_sub hl [0, 1, 2, 3] rfl)

theorem dX6_toppleByRounds_0 : decode cX6_toppleByRounds 0 = .ok (.iconst 0, 1) := by decide +kernel
theorem dX6_toppleByRounds_1 : decode cX6_toppleByRounds 1 = .ok (.istore_n 2, 1) := by decide +kernel
theorem dX6_toppleByRounds_2 : decode cX6_toppleByRounds 2 = .ok (.iconst 0, 1) := by decide +kernel
theorem dX6_toppleByRounds_3 : decode cX6_toppleByRounds 3 = .ok (.istore_n 3, 1) := by decide +kernel
theorem dX6_toppleByRounds_4 : decode cX6_toppleByRounds 4 = .ok (.iload_n 3, 1) := by decide +kernel
theorem dX6_toppleByRounds_5 : decode cX6_toppleByRounds 5 = .ok (.ldc 54, 2) := by decide +kernel
theorem dX6_toppleByRounds_7 : decode cX6_toppleByRounds 7 = .ok (.if_icmp .ge 61, 3) := by decide +kernel
theorem dX6_toppleByRounds_10 : decode cX6_toppleByRounds 10 = .ok (.aload_n 0, 1) := by decide +kernel
theorem dX6_toppleByRounds_11 : decode cX6_toppleByRounds 11 = .ok (.aload_n 1, 1) := by decide +kernel
theorem dX6_toppleByRounds_12 : decode cX6_toppleByRounds 12 = .ok (.invokevirtual 59, 3) := by decide +kernel
theorem dX6_toppleByRounds_15 : decode cX6_toppleByRounds 15 = .ok (.istore 4, 2) := by decide +kernel
theorem dX6_toppleByRounds_17 : decode cX6_toppleByRounds 17 = .ok (.iload 4, 2) := by decide +kernel
theorem dX6_toppleByRounds_19 : decode cX6_toppleByRounds 19 = .ok (.ifCond .ne 6, 3) := by decide +kernel
theorem dX6_toppleByRounds_22 : decode cX6_toppleByRounds 22 = .ok (.goto 46, 3) := by decide +kernel
theorem dX6_toppleByRounds_25 : decode cX6_toppleByRounds 25 = .ok (.iconst 0, 1) := by decide +kernel
theorem dX6_toppleByRounds_26 : decode cX6_toppleByRounds 26 = .ok (.istore 5, 2) := by decide +kernel
theorem dX6_toppleByRounds_28 : decode cX6_toppleByRounds 28 = .ok (.iload 5, 2) := by decide +kernel
theorem dX6_toppleByRounds_30 : decode cX6_toppleByRounds 30 = .ok (.bipush 16, 2) := by decide +kernel
theorem dX6_toppleByRounds_32 : decode cX6_toppleByRounds 32 = .ok (.if_icmp .ge 25, 3) := by decide +kernel
theorem dX6_toppleByRounds_35 : decode cX6_toppleByRounds 35 = .ok (.aload_n 0, 1) := by decide +kernel
theorem dX6_toppleByRounds_36 : decode cX6_toppleByRounds 36 = .ok (.getfield 18, 3) := by decide +kernel
theorem dX6_toppleByRounds_39 : decode cX6_toppleByRounds 39 = .ok (.iload 5, 2) := by decide +kernel
theorem dX6_toppleByRounds_41 : decode cX6_toppleByRounds 41 = .ok (.baload, 1) := by decide +kernel
theorem dX6_toppleByRounds_42 : decode cX6_toppleByRounds 42 = .ok (.ifCond .eq 9, 3) := by decide +kernel
theorem dX6_toppleByRounds_45 : decode cX6_toppleByRounds 45 = .ok (.aload_n 1, 1) := by decide +kernel
theorem dX6_toppleByRounds_46 : decode cX6_toppleByRounds 46 = .ok (.iload 5, 2) := by decide +kernel
theorem dX6_toppleByRounds_48 : decode cX6_toppleByRounds 48 = .ok (.invokestatic 55, 3) := by decide +kernel
theorem dX6_toppleByRounds_51 : decode cX6_toppleByRounds 51 = .ok (.iinc 5 1, 3) := by decide +kernel
theorem dX6_toppleByRounds_54 : decode cX6_toppleByRounds 54 = .ok (.goto (-26), 3) := by decide +kernel
theorem dX6_toppleByRounds_57 : decode cX6_toppleByRounds 57 = .ok (.iload_n 2, 1) := by decide +kernel
theorem dX6_toppleByRounds_58 : decode cX6_toppleByRounds 58 = .ok (.iload 4, 2) := by decide +kernel
theorem dX6_toppleByRounds_60 : decode cX6_toppleByRounds 60 = .ok (.iadd, 1) := by decide +kernel
theorem dX6_toppleByRounds_61 : decode cX6_toppleByRounds 61 = .ok (.istore_n 2, 1) := by decide +kernel
theorem dX6_toppleByRounds_62 : decode cX6_toppleByRounds 62 = .ok (.iinc 3 1, 3) := by decide +kernel
theorem dX6_toppleByRounds_65 : decode cX6_toppleByRounds 65 = .ok (.goto (-61), 3) := by decide +kernel
theorem dX6_toppleByRounds_68 : decode cX6_toppleByRounds 68 = .ok (.iload_n 2, 1) := by decide +kernel
theorem dX6_toppleByRounds_69 : decode cX6_toppleByRounds 69 = .ok (.ireturn, 1) := by decide +kernel
abbrev rmX6_toppleByRounds : Room := { frames := 4, cells := 0, slots := 0, locals := 106 }
set_option maxHeartbeats 4000000 in
set_option maxRecDepth 100000 in
theorem metX6_toppleByRounds {l : Launch} {s0 : State} {b B : Nat} {D : va_G} {T : Nat → ClassId} (F : FX l s0 b D T B) {X : Nat → Prop} (hX : ∀ o, o < 560 → ¬ X (B + o)) {N : Nat} {μ : Mem} {a0 : Nat} {a1 : Nat} {r : Mem × Int32} (k0 : IsSa a0) (k1 : (IA 16) a1) (h : fX6_toppleByRounds N μ a0 a1 = some r) : gMet l yX6_toppleByRounds cX6_toppleByRounds 6 (some .int) rmX6_toppleByRounds [.ref (B + a0), .ref (B + a1)] (gWC s0 D T B μ) (KC s0 X) (some (.int r.2)) (gWC s0 D T B r.1) (gA B X) 0 0 := by
  refine gI_of RX6 (by decide +kernel) rfl (Nat.le_of_ble_eq_true rfl) ?_
  intro p e s m args below meth c ls Q hx hb hlocks hml hown hts hW hk hl hS hend
  have hC := FX_C F hk hx hb hown hts
  have hA := gA_all hX
  have hl : lv_has ls 6 [(0, .ref (B + a0)), (1, .ref (B + a1))] := hl
  unfold fX6_toppleByRounds at h
  refine lv_iconst (v := 0) hx hb dX6_toppleByRounds_0 (by decide) ?_
  refine lv_istore_n (lv' := [(2, .int 0), (0, .ref (B + a0)), (1, .ref (B + a1))]) hx hb dX6_toppleByRounds_1 rfl hl (by decide) rfl (fun ls hl => ?_)
  refine lv_iconst (v := 0) hx hb dX6_toppleByRounds_2 (by decide) ?_
  refine lv_istore_n (lv' := [(3, .int 0), (2, .int 0), (0, .ref (B + a0)), (1, .ref (B + a1))]) hx hb dX6_toppleByRounds_3 rfl hl (by decide) rfl (fun ls hl => ?_)
  refine fix3_ind (fun (x1 : Int32) (x2 : Int32) (μ3 : Mem) => ∀ (H : Heap) (locs : List Loc) (ls : Array Slot), gWC s0 D T B μ3 H → va_S (gA B X) s.heap H locs → lv_has ls 6 [(0, .ref (B + a0)), (1, .ref (B + a1)), (2, .int x1), (3, .int x2)] → W p l e rmX6_toppleByRounds s m args below meth c H locs 0 0 Q (F0 m 4 ls [])) ?_ N _ _ _ h _ _ _ hW hS (lv_sub hl [2, 3, 1, 0] rfl)
  clear h hW hS hl
  intro self4 IH5 x1 x2 μ3 h H locs ls hW hS hl
  refine lv_iload_n hx hb dX6_toppleByRounds_4 rfl (lv_at hl 3 rfl) ?_
  refine lv_ldc (v := 1000000) hx hb hown (hts _ kc_X6_54) dX6_toppleByRounds_5 ?_
  obtain ⟨j7, hj9, h⟩ := jn1_o h
  have J8 : ∀ (μ6 : Mem), j7 μ6 = some r → ∀ (H : Heap) (locs : List Loc) (ls : Array Slot), gWC s0 D T B μ6 H → va_S (gA B X) s.heap H locs → lv_has ls 6 [(2, .int x1)] → W p l e rmX6_toppleByRounds s m args below meth c H locs 0 0 Q (F0 m 68 ls []) := by
    clear h hW hS hl
    intro μ6 h H locs ls hW hS hl
    replace h := (hj9 μ6).symm.trans h
    refine lv_iload_n hx hb dX6_toppleByRounds_68 rfl (lv_at hl 0 rfl) ?_
    cases h
    exact hend dX6_toppleByRounds_69 hW hS (Nat.le_of_ble_eq_true rfl) (Nat.le_of_ble_eq_true rfl)
  refine lv_icmp_ge (tgt := 68) hx hb dX6_toppleByRounds_7 (by decide) (fun c10 => ?_) (fun c10 => ?_)
  · replace h := ite_t c10 h
    exact J8 _ h _ _ _ hW hS (lv_sub hl [2] rfl)
  · replace h := ite_f c10 h
    refine lv_aload_n hx hb dX6_toppleByRounds_10 rfl (lv_at hl 0 rfl) ?_
    refine lv_aload_n hx hb dX6_toppleByRounds_11 rfl (lv_at hl 1 rfl) ?_
    obtain ⟨r11, hcall, h⟩ := bd_out h
    refine g0_callV (As := [.ref (B + a1)]) hC hml hS hW (KC_at hk hS F.2.2.2.2) KC_blind (metX6_markReady F hX k0 k1 hcall) ml_X6_59 (gw_recv hC hW k0.1 (k0.2.1 (gfm s0) T B (μ3 a0)) rfl) ⟨rfl, rfl, (Nat.le_of_ble_eq_true rfl), (Nat.le_of_ble_eq_true rfl)⟩ rfl hl.1 rfl (Nat.le_of_ble_eq_true rfl) dX6_toppleByRounds_12 ⟨(Nat.le_of_ble_eq_true rfl), (Nat.le_of_ble_eq_true rfl)⟩ (fun H locs hW hS => ?_)
    refine lv_istore (lv' := [(4, .int r11.2), (0, .ref (B + a0)), (1, .ref (B + a1)), (2, .int x1), (3, .int x2)]) hx hb dX6_toppleByRounds_15 hl (by decide) rfl (fun ls hl => ?_)
    refine lv_iload hx hb dX6_toppleByRounds_17 (lv_at hl 0 rfl) ?_
    refine lv_if_ne (tgt := 25) hx hb dX6_toppleByRounds_19 (by decide) (fun c12 => ?_) (fun c12 => ?_)
    · replace h := ite_f c12 h
      refine lv_iconst (v := 0) hx hb dX6_toppleByRounds_25 (by decide) ?_
      refine lv_istore (lv' := [(5, .int 0), (4, .int r11.2), (0, .ref (B + a0)), (1, .ref (B + a1)), (2, .int x1), (3, .int x2)]) hx hb dX6_toppleByRounds_26 hl (by decide) rfl (fun ls hl => ?_)
      refine fix2_ind (fun (x13 : Int32) (μ14 : Mem) => ∀ (H : Heap) (locs : List Loc) (ls : Array Slot), gWC s0 D T B μ14 H → va_S (gA B X) s.heap H locs → lv_has ls 6 [(0, .ref (B + a0)), (1, .ref (B + a1)), (2, .int x1), (3, .int x2), (4, .int r11.2), (5, .int x13)] → W p l e rmX6_toppleByRounds s m args below meth c H locs 0 0 Q (F0 m 28 ls [])) ?_ N _ _ h _ _ _ hW hS (lv_sub hl [2, 3, 4, 5, 1, 0] rfl)
      clear h hW hS hl
      intro self15 IH16 x13 μ14 h H locs ls hW hS hl
      refine lv_iload hx hb dX6_toppleByRounds_28 (lv_at hl 5 rfl) ?_
      refine lv_bipush (v := 16) hx hb dX6_toppleByRounds_30 (by decide) ?_
      refine lv_icmp_ge (tgt := 57) hx hb dX6_toppleByRounds_32 (by decide) (fun c17 => ?_) (fun c17 => ?_)
      · replace h := ite_t c17 h
        refine lv_iload_n hx hb dX6_toppleByRounds_57 rfl (lv_at hl 2 rfl) ?_
        refine lv_iload hx hb dX6_toppleByRounds_58 (lv_at hl 4 rfl) ?_
        refine lv_iadd hx hb dX6_toppleByRounds_60 ?_
        obtain ⟨v18, e19, h⟩ := lt_out h
        rw [← e19]
        refine lv_istore_n (lv' := [(2, .int v18), (0, .ref (B + a0)), (1, .ref (B + a1)), (3, .int x2), (4, .int r11.2), (5, .int x13)]) hx hb dX6_toppleByRounds_61 rfl hl (by decide) rfl (fun ls hl => ?_)
        obtain ⟨v20, e21, h⟩ := lt_out h
        refine lv_iinc (v := v20) (lv' := [(3, .int v20), (2, .int v18), (0, .ref (B + a0)), (1, .ref (B + a1)), (4, .int r11.2), (5, .int x13)]) hx hb dX6_toppleByRounds_62 hl (k := 3) rfl (by rw [e21]; rfl) (by decide) rfl (fun ls hl => ?_)
        refine lv_goto (tgt := 4) hx hb dX6_toppleByRounds_65 (by decide) ?_
        exact IH5 _ _ _ h _ _ _ hW hS (lv_sub hl [2, 3, 1, 0] rfl)
      · replace h := ite_f c17 h
        refine lv_aload_n hx hb dX6_toppleByRounds_35 rfl (lv_at hl 0 rfl) ?_
        refine gw_get (v := .ref (B + (a0 + 3))) hC hW fl_X6_18 k0.1 (k0.2.1 (gfm s0) T B (μ14 a0)) rfl dX6_toppleByRounds_36 ?_
        refine lv_iload hx hb dX6_toppleByRounds_39 (lv_at hl 5 rfl) ?_
        obtain ⟨v22, e23, hi24, h⟩ := ag_o h
        refine gq_zald hC hW k0.2.2.2.2.1.1 (k0.2.2.2.2.1.2 (gfm s0) T B (μ14 (a0 + 3))) (t0 := 1) rfl e23 hi24 dX6_toppleByRounds_41 ?_
        obtain ⟨j26, hj28, h⟩ := jn1_o h
        have J27 : ∀ (μ25 : Mem), j26 μ25 = some r → ∀ (H : Heap) (locs : List Loc) (ls : Array Slot), gWC s0 D T B μ25 H → va_S (gA B X) s.heap H locs → lv_has ls 6 [(0, .ref (B + a0)), (1, .ref (B + a1)), (2, .int x1), (3, .int x2), (4, .int r11.2), (5, .int x13)] → W p l e rmX6_toppleByRounds s m args below meth c H locs 0 0 Q (F0 m 51 ls []) := by
          clear h hW hS hl
          intro μ25 h H locs ls hW hS hl
          replace h := (hj28 μ25).symm.trans h
          obtain ⟨v29, e30, h⟩ := lt_out h
          refine lv_iinc (v := v29) (lv' := [(5, .int v29), (0, .ref (B + a0)), (1, .ref (B + a1)), (2, .int x1), (3, .int x2), (4, .int r11.2)]) hx hb dX6_toppleByRounds_51 hl (k := 5) rfl (by rw [e30]; rfl) (by decide) rfl (fun ls hl => ?_)
          refine lv_goto (tgt := 28) hx hb dX6_toppleByRounds_54 (by decide) ?_
          exact IH16 _ _ h _ _ _ hW hS (lv_sub hl [1, 2, 3, 4, 5, 0] rfl)
        refine lv_if_eq (tgt := 51) hx hb dX6_toppleByRounds_42 (by decide) (fun c31 => ?_) (fun c31 => ?_)
        · replace h := ite_t c31 h
          exact J27 _ h _ _ _ hW hS (lv_sub hl [0, 1, 2, 3, 4, 5] rfl)
        · replace h := ite_f c31 h
          refine lv_aload_n hx hb dX6_toppleByRounds_45 rfl (lv_at hl 1 rfl) ?_
          refine lv_iload hx hb dX6_toppleByRounds_46 (lv_at hl 5 rfl) ?_
          obtain ⟨r32, hcall, h⟩ := bd_out h
          refine g0_callS (As := [.ref (B + a1), .int x13]) hC hml hS hW (KC_at hk hS F.2.2.2.2) KC_blind (metX6_toppleOnce F hX k1 hcall) ml_X6_55 ⟨rfl, rfl, (Nat.le_of_ble_eq_true rfl), (Nat.le_of_ble_eq_true rfl)⟩ rfl hl.1 rfl (Nat.le_of_ble_eq_true rfl) dX6_toppleByRounds_48 ⟨(Nat.le_of_ble_eq_true rfl), (Nat.le_of_ble_eq_true rfl)⟩ (fun H locs hW hS => ?_)
          exact J27 _ h _ _ _ hW hS (lv_sub hl [0, 1, 2, 3, 4, 5] rfl)
    · replace h := ite_t c12 h
      refine lv_goto (tgt := 68) hx hb dX6_toppleByRounds_22 (by decide) ?_
      exact J8 _ h _ _ _ hW hS (lv_sub hl [3] rfl)

theorem dX6_countUnmarkedBeside_0 : decode cX6_countUnmarkedBeside 0 = .ok (.iconst 0, 1) := by decide +kernel
theorem dX6_countUnmarkedBeside_1 : decode cX6_countUnmarkedBeside 1 = .ok (.istore_n 2, 1) := by decide +kernel
theorem dX6_countUnmarkedBeside_2 : decode cX6_countUnmarkedBeside 2 = .ok (.iconst 0, 1) := by decide +kernel
theorem dX6_countUnmarkedBeside_3 : decode cX6_countUnmarkedBeside 3 = .ok (.istore_n 3, 1) := by decide +kernel
theorem dX6_countUnmarkedBeside_4 : decode cX6_countUnmarkedBeside 4 = .ok (.iload_n 3, 1) := by decide +kernel
theorem dX6_countUnmarkedBeside_5 : decode cX6_countUnmarkedBeside 5 = .ok (.iconst 4, 1) := by decide +kernel
theorem dX6_countUnmarkedBeside_6 : decode cX6_countUnmarkedBeside 6 = .ok (.if_icmp .ge 35, 3) := by decide +kernel
theorem dX6_countUnmarkedBeside_9 : decode cX6_countUnmarkedBeside 9 = .ok (.iload_n 1, 1) := by decide +kernel
theorem dX6_countUnmarkedBeside_10 : decode cX6_countUnmarkedBeside 10 = .ok (.iload_n 3, 1) := by decide +kernel
theorem dX6_countUnmarkedBeside_11 : decode cX6_countUnmarkedBeside 11 = .ok (.invokestatic 50, 3) := by decide +kernel
theorem dX6_countUnmarkedBeside_14 : decode cX6_countUnmarkedBeside 14 = .ok (.istore 4, 2) := by decide +kernel
theorem dX6_countUnmarkedBeside_16 : decode cX6_countUnmarkedBeside 16 = .ok (.iload 4, 2) := by decide +kernel
theorem dX6_countUnmarkedBeside_18 : decode cX6_countUnmarkedBeside 18 = .ok (.iconst (-1), 1) := by decide +kernel
theorem dX6_countUnmarkedBeside_19 : decode cX6_countUnmarkedBeside 19 = .ok (.if_icmp .eq 16, 3) := by decide +kernel
theorem dX6_countUnmarkedBeside_22 : decode cX6_countUnmarkedBeside 22 = .ok (.aload_n 0, 1) := by decide +kernel
theorem dX6_countUnmarkedBeside_23 : decode cX6_countUnmarkedBeside 23 = .ok (.getfield 18, 3) := by decide +kernel
theorem dX6_countUnmarkedBeside_26 : decode cX6_countUnmarkedBeside 26 = .ok (.iload 4, 2) := by decide +kernel
theorem dX6_countUnmarkedBeside_28 : decode cX6_countUnmarkedBeside 28 = .ok (.baload, 1) := by decide +kernel
theorem dX6_countUnmarkedBeside_29 : decode cX6_countUnmarkedBeside 29 = .ok (.ifCond .ne 6, 3) := by decide +kernel
theorem dX6_countUnmarkedBeside_32 : decode cX6_countUnmarkedBeside 32 = .ok (.iinc 2 1, 3) := by decide +kernel
theorem dX6_countUnmarkedBeside_35 : decode cX6_countUnmarkedBeside 35 = .ok (.iinc 3 1, 3) := by decide +kernel
theorem dX6_countUnmarkedBeside_38 : decode cX6_countUnmarkedBeside 38 = .ok (.goto (-34), 3) := by decide +kernel
theorem dX6_countUnmarkedBeside_41 : decode cX6_countUnmarkedBeside 41 = .ok (.iload_n 2, 1) := by decide +kernel
theorem dX6_countUnmarkedBeside_42 : decode cX6_countUnmarkedBeside 42 = .ok (.ireturn, 1) := by decide +kernel
abbrev rmX6_countUnmarkedBeside : Room := { frames := 3, cells := 0, slots := 0, locals := 83 }
set_option maxHeartbeats 4000000 in
set_option maxRecDepth 100000 in
theorem metX6_countUnmarkedBeside {l : Launch} {s0 : State} {b B : Nat} {D : va_G} {T : Nat → ClassId} (F : FX l s0 b D T B) {X : Nat → Prop} (hX : ∀ o, o < 560 → ¬ X (B + o)) {N : Nat} {μ : Mem} {a0 : Nat} {a1 : Int32} {r : Int32} (k0 : IsSa a0) (h : fX6_countUnmarkedBeside N μ a0 a1 = some r) : gMet l yX6_countUnmarkedBeside cX6_countUnmarkedBeside 5 (some .int) rmX6_countUnmarkedBeside [.ref (B + a0), .int a1] (gWC s0 D T B μ) (KC s0 X) (some (.int r)) (gWC s0 D T B μ) (gA B X) 0 0 := by
  refine gI_of RX6 (by decide +kernel) rfl (Nat.le_of_ble_eq_true rfl) ?_
  intro p e s m args below meth c ls Q hx hb hlocks hml hown hts hW hk hl hS hend
  have hC := FX_C F hk hx hb hown hts
  have hA := gA_all hX
  have hl : lv_has ls 5 [(0, .ref (B + a0)), (1, .int a1)] := hl
  unfold fX6_countUnmarkedBeside at h
  refine lv_iconst (v := 0) hx hb dX6_countUnmarkedBeside_0 (by decide) ?_
  refine lv_istore_n (lv' := [(2, .int 0), (0, .ref (B + a0)), (1, .int a1)]) hx hb dX6_countUnmarkedBeside_1 rfl hl (by decide) rfl (fun ls hl => ?_)
  refine lv_iconst (v := 0) hx hb dX6_countUnmarkedBeside_2 (by decide) ?_
  refine lv_istore_n (lv' := [(3, .int 0), (2, .int 0), (0, .ref (B + a0)), (1, .int a1)]) hx hb dX6_countUnmarkedBeside_3 rfl hl (by decide) rfl (fun ls hl => ?_)
  refine fix2_ind (fun (x1 : Int32) (x2 : Int32) => ∀ (H : Heap) (locs : List Loc) (ls : Array Slot), gWC s0 D T B μ H → va_S (gA B X) s.heap H locs → lv_has ls 5 [(0, .ref (B + a0)), (1, .int a1), (2, .int x1), (3, .int x2)] → W p l e rmX6_countUnmarkedBeside s m args below meth c H locs 0 0 Q (F0 m 4 ls [])) ?_ N _ _ h _ _ _ hW hS (lv_sub hl [2, 3, 1, 0] rfl)
  clear h hW hS hl
  intro self3 IH4 x1 x2 h H locs ls hW hS hl
  refine lv_iload_n hx hb dX6_countUnmarkedBeside_4 rfl (lv_at hl 3 rfl) ?_
  refine lv_iconst (v := 4) hx hb dX6_countUnmarkedBeside_5 (by decide) ?_
  refine lv_icmp_ge (tgt := 41) hx hb dX6_countUnmarkedBeside_6 (by decide) (fun c5 => ?_) (fun c5 => ?_)
  · replace h := ite_t c5 h
    refine lv_iload_n hx hb dX6_countUnmarkedBeside_41 rfl (lv_at hl 2 rfl) ?_
    cases h
    exact hend dX6_countUnmarkedBeside_42 hW hS (Nat.le_of_ble_eq_true rfl) (Nat.le_of_ble_eq_true rfl)
  · replace h := ite_f c5 h
    refine lv_iload_n hx hb dX6_countUnmarkedBeside_9 rfl (lv_at hl 1 rfl) ?_
    refine lv_iload_n hx hb dX6_countUnmarkedBeside_10 rfl (lv_at hl 3 rfl) ?_
    obtain ⟨r6, hcall, h⟩ := bd_out h
    refine g0_callS (As := [.int a1, .int x2]) hC hml hS hW (KC_at hk hS F.2.2.2.2) KC_blind (metX6_beside F hX  hcall) ml_X6_50 ⟨rfl, rfl, (Nat.le_of_ble_eq_true rfl), (Nat.le_of_ble_eq_true rfl)⟩ rfl hl.1 rfl (Nat.le_of_ble_eq_true rfl) dX6_countUnmarkedBeside_11 ⟨(Nat.le_of_ble_eq_true rfl), (Nat.le_of_ble_eq_true rfl)⟩ (fun H locs hW hS => ?_)
    refine lv_istore (lv' := [(4, .int r6), (0, .ref (B + a0)), (1, .int a1), (2, .int x1), (3, .int x2)]) hx hb dX6_countUnmarkedBeside_14 hl (by decide) rfl (fun ls hl => ?_)
    refine lv_iload hx hb dX6_countUnmarkedBeside_16 (lv_at hl 0 rfl) ?_
    refine lv_iconst (v := (-1)) hx hb dX6_countUnmarkedBeside_18 (by decide) ?_
    obtain ⟨j8, hj10, h⟩ := jn1_o h
    have J9 : ∀ (y7 : Int32), j8 y7 = some r → ∀ (H : Heap) (locs : List Loc) (ls : Array Slot), gWC s0 D T B μ H → va_S (gA B X) s.heap H locs → lv_has ls 5 [(0, .ref (B + a0)), (1, .int a1), (2, .int y7), (3, .int x2)] → W p l e rmX6_countUnmarkedBeside s m args below meth c H locs 0 0 Q (F0 m 35 ls []) := by
      clear h hW hS hl
      intro y7 h H locs ls hW hS hl
      replace h := (hj10 y7).symm.trans h
      obtain ⟨v11, e12, h⟩ := lt_out h
      refine lv_iinc (v := v11) (lv' := [(3, .int v11), (0, .ref (B + a0)), (1, .int a1), (2, .int y7)]) hx hb dX6_countUnmarkedBeside_35 hl (k := 3) rfl (by rw [e12]; rfl) (by decide) rfl (fun ls hl => ?_)
      refine lv_goto (tgt := 4) hx hb dX6_countUnmarkedBeside_38 (by decide) ?_
      exact IH4 _ _ h _ _ _ hW hS (lv_sub hl [1, 2, 3, 0] rfl)
    refine lv_icmp_eq (tgt := 35) hx hb dX6_countUnmarkedBeside_19 (by decide) (fun c13 => ?_) (fun c13 => ?_)
    · replace h := ite_t c13 h
      exact J9 _ h _ _ _ hW hS (lv_sub hl [1, 2, 3, 4] rfl)
    · replace h := ite_f c13 h
      refine lv_aload_n hx hb dX6_countUnmarkedBeside_22 rfl (lv_at hl 1 rfl) ?_
      refine gw_get (v := .ref (B + (a0 + 3))) hC hW fl_X6_18 k0.1 (k0.2.1 (gfm s0) T B (μ a0)) rfl dX6_countUnmarkedBeside_23 ?_
      refine lv_iload hx hb dX6_countUnmarkedBeside_26 (lv_at hl 0 rfl) ?_
      obtain ⟨v14, e15, hi16, h⟩ := ag_o h
      refine gq_zald hC hW k0.2.2.2.2.1.1 (k0.2.2.2.2.1.2 (gfm s0) T B (μ (a0 + 3))) (t0 := 1) rfl e15 hi16 dX6_countUnmarkedBeside_28 ?_
      refine lv_if_ne (tgt := 35) hx hb dX6_countUnmarkedBeside_29 (by decide) (fun c17 => ?_) (fun c17 => ?_)
      · replace h := ite_f c17 h
        exact J9 _ h _ _ _ hW hS (lv_sub hl [1, 2, 3, 4] rfl)
      · replace h := ite_t c17 h
        obtain ⟨v18, e19, h⟩ := lt_out h
        refine lv_iinc (v := v18) (lv' := [(2, .int v18), (4, .int r6), (0, .ref (B + a0)), (1, .int a1), (3, .int x2)]) hx hb dX6_countUnmarkedBeside_32 hl (k := 3) rfl (by rw [e19]; rfl) (by decide) rfl (fun ls hl => ?_)
        exact J9 _ h _ _ _ hW hS (lv_sub hl [2, 3, 0, 4] rfl)

theorem dX6_burnsWhole_0 : decode cX6_burnsWhole 0 = .ok (.iconst 0, 1) := by decide +kernel
theorem dX6_burnsWhole_1 : decode cX6_burnsWhole 1 = .ok (.istore_n 2, 1) := by decide +kernel
theorem dX6_burnsWhole_2 : decode cX6_burnsWhole 2 = .ok (.iload_n 2, 1) := by decide +kernel
theorem dX6_burnsWhole_3 : decode cX6_burnsWhole 3 = .ok (.bipush 16, 2) := by decide +kernel
theorem dX6_burnsWhole_5 : decode cX6_burnsWhole 5 = .ok (.if_icmp .ge 16, 3) := by decide +kernel
theorem dX6_burnsWhole_8 : decode cX6_burnsWhole 8 = .ok (.aload_n 0, 1) := by decide +kernel
theorem dX6_burnsWhole_9 : decode cX6_burnsWhole 9 = .ok (.getfield 18, 3) := by decide +kernel
theorem dX6_burnsWhole_12 : decode cX6_burnsWhole 12 = .ok (.iload_n 2, 1) := by decide +kernel
theorem dX6_burnsWhole_13 : decode cX6_burnsWhole 13 = .ok (.iconst 0, 1) := by decide +kernel
theorem dX6_burnsWhole_14 : decode cX6_burnsWhole 14 = .ok (.bastore, 1) := by decide +kernel
theorem dX6_burnsWhole_15 : decode cX6_burnsWhole 15 = .ok (.iinc 2 1, 3) := by decide +kernel
theorem dX6_burnsWhole_18 : decode cX6_burnsWhole 18 = .ok (.goto (-16), 3) := by decide +kernel
theorem dX6_burnsWhole_21 : decode cX6_burnsWhole 21 = .ok (.iconst 0, 1) := by decide +kernel
theorem dX6_burnsWhole_22 : decode cX6_burnsWhole 22 = .ok (.istore_n 2, 1) := by decide +kernel
theorem dX6_burnsWhole_23 : decode cX6_burnsWhole 23 = .ok (.iconst 0, 1) := by decide +kernel
theorem dX6_burnsWhole_24 : decode cX6_burnsWhole 24 = .ok (.istore_n 3, 1) := by decide +kernel
theorem dX6_burnsWhole_25 : decode cX6_burnsWhole 25 = .ok (.iload_n 3, 1) := by decide +kernel
theorem dX6_burnsWhole_26 : decode cX6_burnsWhole 26 = .ok (.bipush 16, 2) := by decide +kernel
theorem dX6_burnsWhole_28 : decode cX6_burnsWhole 28 = .ok (.if_icmp .ge 59, 3) := by decide +kernel
theorem dX6_burnsWhole_31 : decode cX6_burnsWhole 31 = .ok (.iconst 0, 1) := by decide +kernel
theorem dX6_burnsWhole_32 : decode cX6_burnsWhole 32 = .ok (.istore 4, 2) := by decide +kernel
theorem dX6_burnsWhole_34 : decode cX6_burnsWhole 34 = .ok (.iload 4, 2) := by decide +kernel
theorem dX6_burnsWhole_36 : decode cX6_burnsWhole 36 = .ok (.bipush 16, 2) := by decide +kernel
theorem dX6_burnsWhole_38 : decode cX6_burnsWhole 38 = .ok (.if_icmp .ge 43, 3) := by decide +kernel
theorem dX6_burnsWhole_41 : decode cX6_burnsWhole 41 = .ok (.aload_n 0, 1) := by decide +kernel
theorem dX6_burnsWhole_42 : decode cX6_burnsWhole 42 = .ok (.getfield 18, 3) := by decide +kernel
theorem dX6_burnsWhole_45 : decode cX6_burnsWhole 45 = .ok (.iload 4, 2) := by decide +kernel
theorem dX6_burnsWhole_47 : decode cX6_burnsWhole 47 = .ok (.baload, 1) := by decide +kernel
theorem dX6_burnsWhole_48 : decode cX6_burnsWhole 48 = .ok (.ifCond .ne 27, 3) := by decide +kernel
theorem dX6_burnsWhole_51 : decode cX6_burnsWhole 51 = .ok (.aload_n 1, 1) := by decide +kernel
theorem dX6_burnsWhole_52 : decode cX6_burnsWhole 52 = .ok (.iload 4, 2) := by decide +kernel
theorem dX6_burnsWhole_54 : decode cX6_burnsWhole 54 = .ok (.iaload, 1) := by decide +kernel
theorem dX6_burnsWhole_55 : decode cX6_burnsWhole 55 = .ok (.aload_n 0, 1) := by decide +kernel
theorem dX6_burnsWhole_56 : decode cX6_burnsWhole 56 = .ok (.iload 4, 2) := by decide +kernel
theorem dX6_burnsWhole_58 : decode cX6_burnsWhole 58 = .ok (.invokevirtual 62, 3) := by decide +kernel
theorem dX6_burnsWhole_61 : decode cX6_burnsWhole 61 = .ok (.if_icmp .lt 14, 3) := by decide +kernel
theorem dX6_burnsWhole_64 : decode cX6_burnsWhole 64 = .ok (.aload_n 0, 1) := by decide +kernel
theorem dX6_burnsWhole_65 : decode cX6_burnsWhole 65 = .ok (.getfield 18, 3) := by decide +kernel
theorem dX6_burnsWhole_68 : decode cX6_burnsWhole 68 = .ok (.iload 4, 2) := by decide +kernel
theorem dX6_burnsWhole_70 : decode cX6_burnsWhole 70 = .ok (.iconst 1, 1) := by decide +kernel
theorem dX6_burnsWhole_71 : decode cX6_burnsWhole 71 = .ok (.bastore, 1) := by decide +kernel
theorem dX6_burnsWhole_72 : decode cX6_burnsWhole 72 = .ok (.iinc 2 1, 3) := by decide +kernel
theorem dX6_burnsWhole_75 : decode cX6_burnsWhole 75 = .ok (.iinc 4 1, 3) := by decide +kernel
theorem dX6_burnsWhole_78 : decode cX6_burnsWhole 78 = .ok (.goto (-44), 3) := by decide +kernel
theorem dX6_burnsWhole_81 : decode cX6_burnsWhole 81 = .ok (.iinc 3 1, 3) := by decide +kernel
theorem dX6_burnsWhole_84 : decode cX6_burnsWhole 84 = .ok (.goto (-59), 3) := by decide +kernel
theorem dX6_burnsWhole_87 : decode cX6_burnsWhole 87 = .ok (.iload_n 2, 1) := by decide +kernel
theorem dX6_burnsWhole_88 : decode cX6_burnsWhole 88 = .ok (.bipush 16, 2) := by decide +kernel
theorem dX6_burnsWhole_90 : decode cX6_burnsWhole 90 = .ok (.if_icmp .ne 7, 3) := by decide +kernel
theorem dX6_burnsWhole_93 : decode cX6_burnsWhole 93 = .ok (.iconst 1, 1) := by decide +kernel
theorem dX6_burnsWhole_94 : decode cX6_burnsWhole 94 = .ok (.goto 4, 3) := by decide +kernel
theorem dX6_burnsWhole_97 : decode cX6_burnsWhole 97 = .ok (.iconst 0, 1) := by decide +kernel
theorem dX6_burnsWhole_98 : decode cX6_burnsWhole 98 = .ok (.ireturn, 1) := by decide +kernel
abbrev rmX6_burnsWhole : Room := { frames := 4, cells := 0, slots := 0, locals := 107 }
set_option maxHeartbeats 4000000 in
set_option maxRecDepth 100000 in
theorem metX6_burnsWhole {l : Launch} {s0 : State} {b B : Nat} {D : va_G} {T : Nat → ClassId} (F : FX l s0 b D T B) {X : Nat → Prop} (hX : ∀ o, o < 560 → ¬ X (B + o)) {N : Nat} {μ : Mem} {a0 : Nat} {a1 : Nat} {r : Mem × Bool} (k0 : IsSa a0) (k1 : (IA 16) a1) (h : fX6_burnsWhole N μ a0 a1 = some r) : gMet l yX6_burnsWhole cX6_burnsWhole 5 (some .boolean) rmX6_burnsWhole [.ref (B + a0), .ref (B + a1)] (gWC s0 D T B μ) (KC s0 X) (some (.int (b2i r.2))) (gWC s0 D T B r.1) (gA B X) 0 0 := by
  refine gZ_of RX6 (by decide +kernel) rfl (Nat.le_of_ble_eq_true rfl) ?_
  intro p e s m args below meth c ls Q hx hb hlocks hml hown hts hW hk hl hS hend
  have hC := FX_C F hk hx hb hown hts
  have hA := gA_all hX
  have hl : lv_has ls 5 [(0, .ref (B + a0)), (1, .ref (B + a1))] := hl
  unfold fX6_burnsWhole at h
  refine lv_iconst (v := 0) hx hb dX6_burnsWhole_0 (by decide) ?_
  refine lv_istore_n (lv' := [(2, .int 0), (0, .ref (B + a0)), (1, .ref (B + a1))]) hx hb dX6_burnsWhole_1 rfl hl (by decide) rfl (fun ls hl => ?_)
  refine fix2_ind (fun (x1 : Int32) (μ2 : Mem) => ∀ (H : Heap) (locs : List Loc) (ls : Array Slot), gWC s0 D T B μ2 H → va_S (gA B X) s.heap H locs → lv_has ls 5 [(0, .ref (B + a0)), (1, .ref (B + a1)), (2, .int x1)] → W p l e rmX6_burnsWhole s m args below meth c H locs 0 0 Q (F0 m 2 ls [])) ?_ N _ _ h _ _ _ hW hS (lv_sub hl [1, 2, 0] rfl)
  clear h hW hS hl
  intro self3 IH4 x1 μ2 h H locs ls hW hS hl
  refine lv_iload_n hx hb dX6_burnsWhole_2 rfl (lv_at hl 2 rfl) ?_
  refine lv_bipush (v := 16) hx hb dX6_burnsWhole_3 (by decide) ?_
  refine lv_icmp_ge (tgt := 21) hx hb dX6_burnsWhole_5 (by decide) (fun c5 => ?_) (fun c5 => ?_)
  · replace h := ite_t c5 h
    refine lv_iconst (v := 0) hx hb dX6_burnsWhole_21 (by decide) ?_
    refine lv_istore_n (lv' := [(2, .int 0), (0, .ref (B + a0)), (1, .ref (B + a1))]) hx hb dX6_burnsWhole_22 rfl hl (by decide) rfl (fun ls hl => ?_)
    refine lv_iconst (v := 0) hx hb dX6_burnsWhole_23 (by decide) ?_
    refine lv_istore_n (lv' := [(3, .int 0), (2, .int 0), (0, .ref (B + a0)), (1, .ref (B + a1))]) hx hb dX6_burnsWhole_24 rfl hl (by decide) rfl (fun ls hl => ?_)
    refine fix3_ind (fun (x6 : Int32) (x7 : Int32) (μ8 : Mem) => ∀ (H : Heap) (locs : List Loc) (ls : Array Slot), gWC s0 D T B μ8 H → va_S (gA B X) s.heap H locs → lv_has ls 5 [(0, .ref (B + a0)), (1, .ref (B + a1)), (2, .int x6), (3, .int x7)] → W p l e rmX6_burnsWhole s m args below meth c H locs 0 0 Q (F0 m 25 ls [])) ?_ N _ _ _ h _ _ _ hW hS (lv_sub hl [2, 3, 1, 0] rfl)
    clear h hW hS hl
    intro self9 IH10 x6 x7 μ8 h H locs ls hW hS hl
    refine lv_iload_n hx hb dX6_burnsWhole_25 rfl (lv_at hl 3 rfl) ?_
    refine lv_bipush (v := 16) hx hb dX6_burnsWhole_26 (by decide) ?_
    refine lv_icmp_ge (tgt := 87) hx hb dX6_burnsWhole_28 (by decide) (fun c11 => ?_) (fun c11 => ?_)
    · replace h := ite_t c11 h
      refine lv_iload_n hx hb dX6_burnsWhole_87 rfl (lv_at hl 2 rfl) ?_
      refine lv_bipush (v := 16) hx hb dX6_burnsWhole_88 (by decide) ?_
      obtain ⟨j13, hj15, h⟩ := jn1_o h
      have J14 : ∀ (y12 : Bool), j13 y12 = some r → ∀ (H : Heap) (locs : List Loc) (ls : Array Slot), gWC s0 D T B μ8 H → va_S (gA B X) s.heap H locs → lv_has ls 5 [] → W p l e rmX6_burnsWhole s m args below meth c H locs 0 0 Q (F0 m 98 ls [.int (b2i y12)]) := by
        clear h hW hS hl
        intro y12 h H locs ls hW hS hl
        replace h := (hj15 y12).symm.trans h
        cases h
        exact hend dX6_burnsWhole_98 hW hS (Nat.le_of_ble_eq_true rfl) (Nat.le_of_ble_eq_true rfl)
      refine lv_icmp_ne (tgt := 97) hx hb dX6_burnsWhole_90 (by decide) (fun c16 => ?_) (fun c16 => ?_)
      · replace h := ite_f c16 h
        refine lv_iconst (v := 0) hx hb dX6_burnsWhole_97 (by decide) ?_
        exact J14 _ h _ _ _ hW hS (lv_sub hl [] rfl)
      · replace h := ite_t c16 h
        refine lv_iconst (v := 1) hx hb dX6_burnsWhole_93 (by decide) ?_
        refine lv_goto (tgt := 98) hx hb dX6_burnsWhole_94 (by decide) ?_
        exact J14 _ h _ _ _ hW hS (lv_sub hl [] rfl)
    · replace h := ite_f c11 h
      refine lv_iconst (v := 0) hx hb dX6_burnsWhole_31 (by decide) ?_
      refine lv_istore (lv' := [(4, .int 0), (0, .ref (B + a0)), (1, .ref (B + a1)), (2, .int x6), (3, .int x7)]) hx hb dX6_burnsWhole_32 hl (by decide) rfl (fun ls hl => ?_)
      refine fix3_ind (fun (x17 : Int32) (x18 : Int32) (μ19 : Mem) => ∀ (H : Heap) (locs : List Loc) (ls : Array Slot), gWC s0 D T B μ19 H → va_S (gA B X) s.heap H locs → lv_has ls 5 [(0, .ref (B + a0)), (1, .ref (B + a1)), (2, .int x17), (3, .int x7), (4, .int x18)] → W p l e rmX6_burnsWhole s m args below meth c H locs 0 0 Q (F0 m 34 ls [])) ?_ N _ _ _ h _ _ _ hW hS (lv_sub hl [1, 2, 3, 4, 0] rfl)
      clear h hW hS hl
      intro self20 IH21 x17 x18 μ19 h H locs ls hW hS hl
      refine lv_iload hx hb dX6_burnsWhole_34 (lv_at hl 4 rfl) ?_
      refine lv_bipush (v := 16) hx hb dX6_burnsWhole_36 (by decide) ?_
      refine lv_icmp_ge (tgt := 81) hx hb dX6_burnsWhole_38 (by decide) (fun c22 => ?_) (fun c22 => ?_)
      · replace h := ite_t c22 h
        obtain ⟨v23, e24, h⟩ := lt_out h
        refine lv_iinc (v := v23) (lv' := [(3, .int v23), (0, .ref (B + a0)), (1, .ref (B + a1)), (2, .int x17), (4, .int x18)]) hx hb dX6_burnsWhole_81 hl (k := 3) rfl (by rw [e24]; rfl) (by decide) rfl (fun ls hl => ?_)
        refine lv_goto (tgt := 25) hx hb dX6_burnsWhole_84 (by decide) ?_
        exact IH10 _ _ _ h _ _ _ hW hS (lv_sub hl [1, 2, 3, 0] rfl)
      · replace h := ite_f c22 h
        refine lv_aload_n hx hb dX6_burnsWhole_41 rfl (lv_at hl 0 rfl) ?_
        refine gw_get (v := .ref (B + (a0 + 3))) hC hW fl_X6_18 k0.1 (k0.2.1 (gfm s0) T B (μ19 a0)) rfl dX6_burnsWhole_42 ?_
        refine lv_iload hx hb dX6_burnsWhole_45 (lv_at hl 4 rfl) ?_
        obtain ⟨v25, e26, hi27, h⟩ := ag_o h
        refine gq_zald hC hW k0.2.2.2.2.1.1 (k0.2.2.2.2.1.2 (gfm s0) T B (μ19 (a0 + 3))) (t0 := 1) rfl e26 hi27 dX6_burnsWhole_47 ?_
        obtain ⟨j30, hj32, h⟩ := jn2_o h
        have J31 : ∀ (y28 : Int32) (μ29 : Mem), j30 y28 μ29 = some r → ∀ (H : Heap) (locs : List Loc) (ls : Array Slot), gWC s0 D T B μ29 H → va_S (gA B X) s.heap H locs → lv_has ls 5 [(0, .ref (B + a0)), (1, .ref (B + a1)), (2, .int y28), (3, .int x7), (4, .int x18)] → W p l e rmX6_burnsWhole s m args below meth c H locs 0 0 Q (F0 m 75 ls []) := by
          clear h hW hS hl
          intro y28 μ29 h H locs ls hW hS hl
          replace h := (hj32 y28 μ29).symm.trans h
          obtain ⟨v33, e34, h⟩ := lt_out h
          refine lv_iinc (v := v33) (lv' := [(4, .int v33), (0, .ref (B + a0)), (1, .ref (B + a1)), (2, .int y28), (3, .int x7)]) hx hb dX6_burnsWhole_75 hl (k := 4) rfl (by rw [e34]; rfl) (by decide) rfl (fun ls hl => ?_)
          refine lv_goto (tgt := 34) hx hb dX6_burnsWhole_78 (by decide) ?_
          exact IH21 _ _ _ h _ _ _ hW hS (lv_sub hl [1, 2, 3, 4, 0] rfl)
        refine lv_if_ne (tgt := 75) hx hb dX6_burnsWhole_48 (by decide) (fun c35 => ?_) (fun c35 => ?_)
        · replace h := ite_f c35 h
          exact J31 _ _ h _ _ _ hW hS (lv_sub hl [0, 1, 2, 3, 4] rfl)
        · replace h := ite_t c35 h
          refine lv_aload_n hx hb dX6_burnsWhole_51 rfl (lv_at hl 1 rfl) ?_
          refine lv_iload hx hb dX6_burnsWhole_52 (lv_at hl 4 rfl) ?_
          obtain ⟨v36, e37, hi38, h⟩ := ag_o h
          refine gq_iald hC hW k1.1 (k1.2 (gfm s0) T B (μ19 a1)) (t0 := 0) rfl e37 hi38 dX6_burnsWhole_54 ?_
          refine lv_aload_n hx hb dX6_burnsWhole_55 rfl (lv_at hl 0 rfl) ?_
          refine lv_iload hx hb dX6_burnsWhole_56 (lv_at hl 4 rfl) ?_
          obtain ⟨r39, hcall, h⟩ := bd_out h
          refine g0_callV (As := [.int x18]) hC hml hS hW (KC_at hk hS F.2.2.2.2) KC_blind (metX6_countUnmarkedBeside F hX k0 hcall) ml_X6_62 (gw_recv hC hW k0.1 (k0.2.1 (gfm s0) T B (μ19 a0)) rfl) ⟨rfl, rfl, (Nat.le_of_ble_eq_true rfl), (Nat.le_of_ble_eq_true rfl)⟩ rfl hl.1 rfl (Nat.le_of_ble_eq_true rfl) dX6_burnsWhole_58 ⟨(Nat.le_of_ble_eq_true rfl), (Nat.le_of_ble_eq_true rfl)⟩ (fun H locs hW hS => ?_)
          refine lv_icmp_lt (tgt := 75) hx hb dX6_burnsWhole_61 (by decide) (fun c40 => ?_) (fun c40 => ?_)
          · replace h := ite_t c40 h
            exact J31 _ _ h _ _ _ hW hS (lv_sub hl [0, 1, 2, 3, 4] rfl)
          · replace h := ite_f c40 h
            refine lv_aload_n hx hb dX6_burnsWhole_64 rfl (lv_at hl 0 rfl) ?_
            refine gw_get (v := .ref (B + (a0 + 3))) hC hW fl_X6_18 k0.1 (k0.2.1 (gfm s0) T B (μ19 a0)) rfl dX6_burnsWhole_65 ?_
            refine lv_iload hx hb dX6_burnsWhole_68 (lv_at hl 4 rfl) ?_
            refine lv_iconst (v := 1) hx hb dX6_burnsWhole_70 (by decide) ?_
            obtain ⟨μ41, e42, hi43, h⟩ := aw_o h
            refine gq_zast hC hS hW hA k0.2.2.2.2.1.1 (k0.2.2.2.2.1.2 (gfm s0) T B) (t0 := 1) rfl e42 hi43 dX6_burnsWhole_71 (fun H locs hW hS => ?_)
            obtain ⟨v44, e45, h⟩ := lt_out h
            refine lv_iinc (v := v44) (lv' := [(2, .int v44), (0, .ref (B + a0)), (1, .ref (B + a1)), (3, .int x7), (4, .int x18)]) hx hb dX6_burnsWhole_72 hl (k := 2) rfl (by rw [e45]; rfl) (by decide) rfl (fun ls hl => ?_)
            exact J31 _ _ h _ _ _ hW hS (lv_sub hl [1, 2, 0, 3, 4] rfl)
  · replace h := ite_f c5 h
    refine lv_aload_n hx hb dX6_burnsWhole_8 rfl (lv_at hl 0 rfl) ?_
    refine gw_get (v := .ref (B + (a0 + 3))) hC hW fl_X6_18 k0.1 (k0.2.1 (gfm s0) T B (μ2 a0)) rfl dX6_burnsWhole_9 ?_
    refine lv_iload_n hx hb dX6_burnsWhole_12 rfl (lv_at hl 2 rfl) ?_
    refine lv_iconst (v := 0) hx hb dX6_burnsWhole_13 (by decide) ?_
    obtain ⟨μ46, e47, hi48, h⟩ := aw_o h
    refine gq_zast hC hS hW hA k0.2.2.2.2.1.1 (k0.2.2.2.2.1.2 (gfm s0) T B) (t0 := 1) rfl e47 hi48 dX6_burnsWhole_14 (fun H locs hW hS => ?_)
    obtain ⟨v49, e50, h⟩ := lt_out h
    refine lv_iinc (v := v49) (lv' := [(2, .int v49), (0, .ref (B + a0)), (1, .ref (B + a1))]) hx hb dX6_burnsWhole_15 hl (k := 2) rfl (by rw [e50]; rfl) (by decide) rfl (fun ls hl => ?_)
    refine lv_goto (tgt := 2) hx hb dX6_burnsWhole_18 (by decide) ?_
    exact IH4 _ _ h _ _ _ hW hS (lv_sub hl [1, 2, 0] rfl)

theorem dX6_countOpenSides_0 : decode cX6_countOpenSides 0 = .ok (.iconst 0, 1) := by decide +kernel
theorem dX6_countOpenSides_1 : decode cX6_countOpenSides 1 = .ok (.istore_n 1, 1) := by decide +kernel
theorem dX6_countOpenSides_2 : decode cX6_countOpenSides 2 = .ok (.iconst 0, 1) := by decide +kernel
theorem dX6_countOpenSides_3 : decode cX6_countOpenSides 3 = .ok (.istore_n 2, 1) := by decide +kernel
theorem dX6_countOpenSides_4 : decode cX6_countOpenSides 4 = .ok (.iload_n 2, 1) := by decide +kernel
theorem dX6_countOpenSides_5 : decode cX6_countOpenSides 5 = .ok (.iconst 4, 1) := by decide +kernel
theorem dX6_countOpenSides_6 : decode cX6_countOpenSides 6 = .ok (.if_icmp .ge 21, 3) := by decide +kernel
theorem dX6_countOpenSides_9 : decode cX6_countOpenSides 9 = .ok (.iload_n 0, 1) := by decide +kernel
theorem dX6_countOpenSides_10 : decode cX6_countOpenSides 10 = .ok (.iload_n 2, 1) := by decide +kernel
theorem dX6_countOpenSides_11 : decode cX6_countOpenSides 11 = .ok (.invokestatic 50, 3) := by decide +kernel
theorem dX6_countOpenSides_14 : decode cX6_countOpenSides 14 = .ok (.iconst (-1), 1) := by decide +kernel
theorem dX6_countOpenSides_15 : decode cX6_countOpenSides 15 = .ok (.if_icmp .ne 6, 3) := by decide +kernel
theorem dX6_countOpenSides_18 : decode cX6_countOpenSides 18 = .ok (.iinc 1 1, 3) := by decide +kernel
theorem dX6_countOpenSides_21 : decode cX6_countOpenSides 21 = .ok (.iinc 2 1, 3) := by decide +kernel
theorem dX6_countOpenSides_24 : decode cX6_countOpenSides 24 = .ok (.goto (-20), 3) := by decide +kernel
theorem dX6_countOpenSides_27 : decode cX6_countOpenSides 27 = .ok (.iload_n 1, 1) := by decide +kernel
theorem dX6_countOpenSides_28 : decode cX6_countOpenSides 28 = .ok (.ireturn, 1) := by decide +kernel
abbrev rmX6_countOpenSides : Room := { frames := 3, cells := 0, slots := 0, locals := 83 }
set_option maxHeartbeats 4000000 in
set_option maxRecDepth 100000 in
theorem metX6_countOpenSides {l : Launch} {s0 : State} {b B : Nat} {D : va_G} {T : Nat → ClassId} (F : FX l s0 b D T B) {X : Nat → Prop} (hX : ∀ o, o < 560 → ¬ X (B + o)) {N : Nat} {μ : Mem} {a0 : Int32} {r : Int32}  (h : fX6_countOpenSides N μ a0 = some r) : gMet l yX6_countOpenSides cX6_countOpenSides 3 (some .int) rmX6_countOpenSides [.int a0] (gWC s0 D T B μ) (KC s0 X) (some (.int r)) (gWC s0 D T B μ) (gA B X) 0 0 := by
  refine gI_of RX6 (by decide +kernel) rfl (Nat.le_of_ble_eq_true rfl) ?_
  intro p e s m args below meth c ls Q hx hb hlocks hml hown hts hW hk hl hS hend
  have hC := FX_C F hk hx hb hown hts
  have hA := gA_all hX
  have hl : lv_has ls 3 [(0, .int a0)] := hl
  unfold fX6_countOpenSides at h
  refine lv_iconst (v := 0) hx hb dX6_countOpenSides_0 (by decide) ?_
  refine lv_istore_n (lv' := [(1, .int 0), (0, .int a0)]) hx hb dX6_countOpenSides_1 rfl hl (by decide) rfl (fun ls hl => ?_)
  refine lv_iconst (v := 0) hx hb dX6_countOpenSides_2 (by decide) ?_
  refine lv_istore_n (lv' := [(2, .int 0), (1, .int 0), (0, .int a0)]) hx hb dX6_countOpenSides_3 rfl hl (by decide) rfl (fun ls hl => ?_)
  refine fix2_ind (fun (x1 : Int32) (x2 : Int32) => ∀ (H : Heap) (locs : List Loc) (ls : Array Slot), gWC s0 D T B μ H → va_S (gA B X) s.heap H locs → lv_has ls 3 [(0, .int a0), (1, .int x1), (2, .int x2)] → W p l e rmX6_countOpenSides s m args below meth c H locs 0 0 Q (F0 m 4 ls [])) ?_ N _ _ h _ _ _ hW hS (lv_sub hl [2, 1, 0] rfl)
  clear h hW hS hl
  intro self3 IH4 x1 x2 h H locs ls hW hS hl
  refine lv_iload_n hx hb dX6_countOpenSides_4 rfl (lv_at hl 2 rfl) ?_
  refine lv_iconst (v := 4) hx hb dX6_countOpenSides_5 (by decide) ?_
  refine lv_icmp_ge (tgt := 27) hx hb dX6_countOpenSides_6 (by decide) (fun c5 => ?_) (fun c5 => ?_)
  · replace h := ite_t c5 h
    refine lv_iload_n hx hb dX6_countOpenSides_27 rfl (lv_at hl 1 rfl) ?_
    cases h
    exact hend dX6_countOpenSides_28 hW hS (Nat.le_of_ble_eq_true rfl) (Nat.le_of_ble_eq_true rfl)
  · replace h := ite_f c5 h
    refine lv_iload_n hx hb dX6_countOpenSides_9 rfl (lv_at hl 0 rfl) ?_
    refine lv_iload_n hx hb dX6_countOpenSides_10 rfl (lv_at hl 2 rfl) ?_
    obtain ⟨r6, hcall, h⟩ := bd_out h
    refine g0_callS (As := [.int a0, .int x2]) hC hml hS hW (KC_at hk hS F.2.2.2.2) KC_blind (metX6_beside F hX  hcall) ml_X6_50 ⟨rfl, rfl, (Nat.le_of_ble_eq_true rfl), (Nat.le_of_ble_eq_true rfl)⟩ rfl hl.1 rfl (Nat.le_of_ble_eq_true rfl) dX6_countOpenSides_11 ⟨(Nat.le_of_ble_eq_true rfl), (Nat.le_of_ble_eq_true rfl)⟩ (fun H locs hW hS => ?_)
    refine lv_iconst (v := (-1)) hx hb dX6_countOpenSides_14 (by decide) ?_
    obtain ⟨j8, hj10, h⟩ := jn1_o h
    have J9 : ∀ (y7 : Int32), j8 y7 = some r → ∀ (H : Heap) (locs : List Loc) (ls : Array Slot), gWC s0 D T B μ H → va_S (gA B X) s.heap H locs → lv_has ls 3 [(0, .int a0), (1, .int y7), (2, .int x2)] → W p l e rmX6_countOpenSides s m args below meth c H locs 0 0 Q (F0 m 21 ls []) := by
      clear h hW hS hl
      intro y7 h H locs ls hW hS hl
      replace h := (hj10 y7).symm.trans h
      obtain ⟨v11, e12, h⟩ := lt_out h
      refine lv_iinc (v := v11) (lv' := [(2, .int v11), (0, .int a0), (1, .int y7)]) hx hb dX6_countOpenSides_21 hl (k := 2) rfl (by rw [e12]; rfl) (by decide) rfl (fun ls hl => ?_)
      refine lv_goto (tgt := 4) hx hb dX6_countOpenSides_24 (by decide) ?_
      exact IH4 _ _ h _ _ _ hW hS (lv_sub hl [1, 2, 0] rfl)
    refine lv_icmp_ne (tgt := 21) hx hb dX6_countOpenSides_15 (by decide) (fun c13 => ?_) (fun c13 => ?_)
    · replace h := ite_f c13 h
      exact J9 _ h _ _ _ hW hS (lv_sub hl [0, 1, 2] rfl)
    · replace h := ite_t c13 h
      obtain ⟨v14, e15, h⟩ := lt_out h
      refine lv_iinc (v := v14) (lv' := [(1, .int v14), (0, .int a0), (2, .int x2)]) hx hb dX6_countOpenSides_18 hl (k := 1) rfl (by rw [e15]; rfl) (by decide) rfl (fun ls hl => ?_)
      exact J9 _ h _ _ _ hW hS (lv_sub hl [1, 0, 2] rfl)

theorem dX6_topplesOnceEach_0 : decode cX6_topplesOnceEach 0 = .ok (.iconst 0, 1) := by decide +kernel
theorem dX6_topplesOnceEach_1 : decode cX6_topplesOnceEach 1 = .ok (.istore_n 2, 1) := by decide +kernel
theorem dX6_topplesOnceEach_2 : decode cX6_topplesOnceEach 2 = .ok (.iload_n 2, 1) := by decide +kernel
theorem dX6_topplesOnceEach_3 : decode cX6_topplesOnceEach 3 = .ok (.bipush 16, 2) := by decide +kernel
theorem dX6_topplesOnceEach_5 : decode cX6_topplesOnceEach 5 = .ok (.if_icmp .ge 23, 3) := by decide +kernel
theorem dX6_topplesOnceEach_8 : decode cX6_topplesOnceEach 8 = .ok (.aload_n 0, 1) := by decide +kernel
theorem dX6_topplesOnceEach_9 : decode cX6_topplesOnceEach 9 = .ok (.getfield 9, 3) := by decide +kernel
theorem dX6_topplesOnceEach_12 : decode cX6_topplesOnceEach 12 = .ok (.iload_n 2, 1) := by decide +kernel
theorem dX6_topplesOnceEach_13 : decode cX6_topplesOnceEach 13 = .ok (.aload_n 1, 1) := by decide +kernel
theorem dX6_topplesOnceEach_14 : decode cX6_topplesOnceEach 14 = .ok (.iload_n 2, 1) := by decide +kernel
theorem dX6_topplesOnceEach_15 : decode cX6_topplesOnceEach 15 = .ok (.iaload, 1) := by decide +kernel
theorem dX6_topplesOnceEach_16 : decode cX6_topplesOnceEach 16 = .ok (.iload_n 2, 1) := by decide +kernel
theorem dX6_topplesOnceEach_17 : decode cX6_topplesOnceEach 17 = .ok (.invokestatic 66, 3) := by decide +kernel
theorem dX6_topplesOnceEach_20 : decode cX6_topplesOnceEach 20 = .ok (.iadd, 1) := by decide +kernel
theorem dX6_topplesOnceEach_21 : decode cX6_topplesOnceEach 21 = .ok (.iastore, 1) := by decide +kernel
theorem dX6_topplesOnceEach_22 : decode cX6_topplesOnceEach 22 = .ok (.iinc 2 1, 3) := by decide +kernel
theorem dX6_topplesOnceEach_25 : decode cX6_topplesOnceEach 25 = .ok (.goto (-23), 3) := by decide +kernel
theorem dX6_topplesOnceEach_28 : decode cX6_topplesOnceEach 28 = .ok (.aload_n 0, 1) := by decide +kernel
theorem dX6_topplesOnceEach_29 : decode cX6_topplesOnceEach 29 = .ok (.aload_n 0, 1) := by decide +kernel
theorem dX6_topplesOnceEach_30 : decode cX6_topplesOnceEach 30 = .ok (.getfield 9, 3) := by decide +kernel
theorem dX6_topplesOnceEach_33 : decode cX6_topplesOnceEach 33 = .ok (.invokevirtual 38, 3) := by decide +kernel
theorem dX6_topplesOnceEach_36 : decode cX6_topplesOnceEach 36 = .ok (.pop, 1) := by decide +kernel
theorem dX6_topplesOnceEach_37 : decode cX6_topplesOnceEach 37 = .ok (.iconst 0, 1) := by decide +kernel
theorem dX6_topplesOnceEach_38 : decode cX6_topplesOnceEach 38 = .ok (.istore_n 2, 1) := by decide +kernel
theorem dX6_topplesOnceEach_39 : decode cX6_topplesOnceEach 39 = .ok (.iload_n 2, 1) := by decide +kernel
theorem dX6_topplesOnceEach_40 : decode cX6_topplesOnceEach 40 = .ok (.bipush 16, 2) := by decide +kernel
theorem dX6_topplesOnceEach_42 : decode cX6_topplesOnceEach 42 = .ok (.if_icmp .ge 21, 3) := by decide +kernel
theorem dX6_topplesOnceEach_45 : decode cX6_topplesOnceEach 45 = .ok (.aload_n 0, 1) := by decide +kernel
theorem dX6_topplesOnceEach_46 : decode cX6_topplesOnceEach 46 = .ok (.getfield 15, 3) := by decide +kernel
theorem dX6_topplesOnceEach_49 : decode cX6_topplesOnceEach 49 = .ok (.iload_n 2, 1) := by decide +kernel
theorem dX6_topplesOnceEach_50 : decode cX6_topplesOnceEach 50 = .ok (.iaload, 1) := by decide +kernel
theorem dX6_topplesOnceEach_51 : decode cX6_topplesOnceEach 51 = .ok (.iconst 1, 1) := by decide +kernel
theorem dX6_topplesOnceEach_52 : decode cX6_topplesOnceEach 52 = .ok (.if_icmp .eq 5, 3) := by decide +kernel
theorem dX6_topplesOnceEach_55 : decode cX6_topplesOnceEach 55 = .ok (.iconst 0, 1) := by decide +kernel
theorem dX6_topplesOnceEach_56 : decode cX6_topplesOnceEach 56 = .ok (.ireturn, 1) := by decide +kernel
theorem dX6_topplesOnceEach_57 : decode cX6_topplesOnceEach 57 = .ok (.iinc 2 1, 3) := by decide +kernel
theorem dX6_topplesOnceEach_60 : decode cX6_topplesOnceEach 60 = .ok (.goto (-21), 3) := by decide +kernel
theorem dX6_topplesOnceEach_63 : decode cX6_topplesOnceEach 63 = .ok (.iconst 1, 1) := by decide +kernel
theorem dX6_topplesOnceEach_64 : decode cX6_topplesOnceEach 64 = .ok (.ireturn, 1) := by decide +kernel
abbrev rmX6_topplesOnceEach : Room := { frames := 5, cells := 0, slots := 0, locals := 130 }
set_option maxHeartbeats 4000000 in
set_option maxRecDepth 100000 in
theorem metX6_topplesOnceEach {l : Launch} {s0 : State} {b B : Nat} {D : va_G} {T : Nat → ClassId} (F : FX l s0 b D T B) {X : Nat → Prop} (hX : ∀ o, o < 560 → ¬ X (B + o)) {N : Nat} {μ : Mem} {a0 : Nat} {a1 : Nat} {r : Mem × Bool} (k0 : IsSa a0) (k1 : (IA 16) a1) (h : fX6_topplesOnceEach N μ a0 a1 = some r) : gMet l yX6_topplesOnceEach cX6_topplesOnceEach 3 (some .boolean) rmX6_topplesOnceEach [.ref (B + a0), .ref (B + a1)] (gWC s0 D T B μ) (KC s0 X) (some (.int (b2i r.2))) (gWC s0 D T B r.1) (gA B X) 0 0 := by
  refine gZ_of RX6 (by decide +kernel) rfl (Nat.le_of_ble_eq_true rfl) ?_
  intro p e s m args below meth c ls Q hx hb hlocks hml hown hts hW hk hl hS hend
  have hC := FX_C F hk hx hb hown hts
  have hA := gA_all hX
  have hl : lv_has ls 3 [(0, .ref (B + a0)), (1, .ref (B + a1))] := hl
  unfold fX6_topplesOnceEach at h
  refine lv_iconst (v := 0) hx hb dX6_topplesOnceEach_0 (by decide) ?_
  refine lv_istore_n (lv' := [(2, .int 0), (0, .ref (B + a0)), (1, .ref (B + a1))]) hx hb dX6_topplesOnceEach_1 rfl hl (by decide) rfl (fun ls hl => ?_)
  refine fix2_ind (fun (x1 : Int32) (μ2 : Mem) => ∀ (H : Heap) (locs : List Loc) (ls : Array Slot), gWC s0 D T B μ2 H → va_S (gA B X) s.heap H locs → lv_has ls 3 [(0, .ref (B + a0)), (1, .ref (B + a1)), (2, .int x1)] → W p l e rmX6_topplesOnceEach s m args below meth c H locs 0 0 Q (F0 m 2 ls [])) ?_ N _ _ h _ _ _ hW hS (lv_sub hl [1, 2, 0] rfl)
  clear h hW hS hl
  intro self3 IH4 x1 μ2 h H locs ls hW hS hl
  refine lv_iload_n hx hb dX6_topplesOnceEach_2 rfl (lv_at hl 2 rfl) ?_
  refine lv_bipush (v := 16) hx hb dX6_topplesOnceEach_3 (by decide) ?_
  refine lv_icmp_ge (tgt := 28) hx hb dX6_topplesOnceEach_5 (by decide) (fun c5 => ?_) (fun c5 => ?_)
  · replace h := ite_t c5 h
    refine lv_aload_n hx hb dX6_topplesOnceEach_28 rfl (lv_at hl 0 rfl) ?_
    refine lv_aload_n hx hb dX6_topplesOnceEach_29 rfl (lv_at hl 0 rfl) ?_
    refine gw_get (v := .ref (B + (a0 + 1))) hC hW fl_X6_9 k0.1 (k0.2.1 (gfm s0) T B (μ2 a0)) rfl dX6_topplesOnceEach_30 ?_
    obtain ⟨r6, hcall, h⟩ := bd_out h
    refine g0_callV (As := [.ref (B + (a0 + 1))]) hC hml hS hW (KC_at hk hS F.2.2.2.2) KC_blind (metX6_toppleByPlaces F hX k0 k0.2.2.1 hcall) ml_X6_38 (gw_recv hC hW k0.1 (k0.2.1 (gfm s0) T B (μ2 a0)) rfl) ⟨rfl, rfl, (Nat.le_of_ble_eq_true rfl), (Nat.le_of_ble_eq_true rfl)⟩ rfl hl.1 rfl (Nat.le_of_ble_eq_true rfl) dX6_topplesOnceEach_33 ⟨(Nat.le_of_ble_eq_true rfl), (Nat.le_of_ble_eq_true rfl)⟩ (fun H locs hW hS => ?_)
    refine lv_pop hx hb dX6_topplesOnceEach_36 rfl ?_
    refine lv_iconst (v := 0) hx hb dX6_topplesOnceEach_37 (by decide) ?_
    refine lv_istore_n (lv' := [(2, .int 0), (0, .ref (B + a0)), (1, .ref (B + a1))]) hx hb dX6_topplesOnceEach_38 rfl hl (by decide) rfl (fun ls hl => ?_)
    refine fix1_ind (fun (x7 : Int32) => ∀ (H : Heap) (locs : List Loc) (ls : Array Slot), gWC s0 D T B r6.1 H → va_S (gA B X) s.heap H locs → lv_has ls 3 [(0, .ref (B + a0)), (2, .int x7)] → W p l e rmX6_topplesOnceEach s m args below meth c H locs 0 0 Q (F0 m 39 ls [])) ?_ N _ h _ _ _ hW hS (lv_sub hl [1, 0] rfl)
    clear h hW hS hl
    intro self8 IH9 x7 h H locs ls hW hS hl
    refine lv_iload_n hx hb dX6_topplesOnceEach_39 rfl (lv_at hl 1 rfl) ?_
    refine lv_bipush (v := 16) hx hb dX6_topplesOnceEach_40 (by decide) ?_
    refine lv_icmp_ge (tgt := 63) hx hb dX6_topplesOnceEach_42 (by decide) (fun c10 => ?_) (fun c10 => ?_)
    · replace h := ite_t c10 h
      refine lv_iconst (v := 1) hx hb dX6_topplesOnceEach_63 (by decide) ?_
      cases h
      exact hend dX6_topplesOnceEach_64 hW hS (Nat.le_of_ble_eq_true rfl) (Nat.le_of_ble_eq_true rfl)
    · replace h := ite_f c10 h
      refine lv_aload_n hx hb dX6_topplesOnceEach_45 rfl (lv_at hl 0 rfl) ?_
      refine gw_get (v := .ref (B + (a0 + 2))) hC hW fl_X6_15 k0.1 (k0.2.1 (gfm s0) T B (r6.1 a0)) rfl dX6_topplesOnceEach_46 ?_
      refine lv_iload_n hx hb dX6_topplesOnceEach_49 rfl (lv_at hl 1 rfl) ?_
      obtain ⟨v11, e12, hi13, h⟩ := ag_o h
      refine gq_iald hC hW k0.2.2.2.1.1 (k0.2.2.2.1.2 (gfm s0) T B (r6.1 (a0 + 2))) (t0 := 0) rfl e12 hi13 dX6_topplesOnceEach_50 ?_
      refine lv_iconst (v := 1) hx hb dX6_topplesOnceEach_51 (by decide) ?_
      refine lv_icmp_eq (tgt := 57) hx hb dX6_topplesOnceEach_52 (by decide) (fun c14 => ?_) (fun c14 => ?_)
      · replace h := ite_t c14 h
        obtain ⟨v15, e16, h⟩ := lt_out h
        refine lv_iinc (v := v15) (lv' := [(2, .int v15), (0, .ref (B + a0))]) hx hb dX6_topplesOnceEach_57 hl (k := 1) rfl (by rw [e16]; rfl) (by decide) rfl (fun ls hl => ?_)
        refine lv_goto (tgt := 39) hx hb dX6_topplesOnceEach_60 (by decide) ?_
        exact IH9 _ h _ _ _ hW hS (lv_sub hl [1, 0] rfl)
      · replace h := ite_f c14 h
        refine lv_iconst (v := 0) hx hb dX6_topplesOnceEach_55 (by decide) ?_
        cases h
        exact hend dX6_topplesOnceEach_56 hW hS (Nat.le_of_ble_eq_true rfl) (Nat.le_of_ble_eq_true rfl)
  · replace h := ite_f c5 h
    refine lv_aload_n hx hb dX6_topplesOnceEach_8 rfl (lv_at hl 0 rfl) ?_
    refine gw_get (v := .ref (B + (a0 + 1))) hC hW fl_X6_9 k0.1 (k0.2.1 (gfm s0) T B (μ2 a0)) rfl dX6_topplesOnceEach_9 ?_
    refine lv_iload_n hx hb dX6_topplesOnceEach_12 rfl (lv_at hl 2 rfl) ?_
    refine lv_aload_n hx hb dX6_topplesOnceEach_13 rfl (lv_at hl 1 rfl) ?_
    refine lv_iload_n hx hb dX6_topplesOnceEach_14 rfl (lv_at hl 2 rfl) ?_
    obtain ⟨v17, e18, hi19, h⟩ := ag_o h
    refine gq_iald hC hW k1.1 (k1.2 (gfm s0) T B (μ2 a1)) (t0 := 0) rfl e18 hi19 dX6_topplesOnceEach_15 ?_
    refine lv_iload_n hx hb dX6_topplesOnceEach_16 rfl (lv_at hl 2 rfl) ?_
    obtain ⟨r20, hcall, h⟩ := bd_out h
    refine g0_callS (As := [.int x1]) hC hml hS hW (KC_at hk hS F.2.2.2.2) KC_blind (metX6_countOpenSides F hX  hcall) ml_X6_66 ⟨rfl, rfl, (Nat.le_of_ble_eq_true rfl), (Nat.le_of_ble_eq_true rfl)⟩ rfl hl.1 rfl (Nat.le_of_ble_eq_true rfl) dX6_topplesOnceEach_17 ⟨(Nat.le_of_ble_eq_true rfl), (Nat.le_of_ble_eq_true rfl)⟩ (fun H locs hW hS => ?_)
    refine lv_iadd hx hb dX6_topplesOnceEach_20 ?_
    obtain ⟨μ21, e22, hi23, h⟩ := aw_o h
    refine gq_iast hC hS hW hA k0.2.2.1.1 (k0.2.2.1.2 (gfm s0) T B) (t0 := 0) rfl e22 hi23 dX6_topplesOnceEach_21 (fun H locs hW hS => ?_)
    obtain ⟨v24, e25, h⟩ := lt_out h
    refine lv_iinc (v := v24) (lv' := [(2, .int v24), (0, .ref (B + a0)), (1, .ref (B + a1))]) hx hb dX6_topplesOnceEach_22 hl (k := 2) rfl (by rw [e25]; rfl) (by decide) rfl (fun ls hl => ?_)
    refine lv_goto (tgt := 2) hx hb dX6_topplesOnceEach_25 (by decide) ?_
    exact IH4 _ _ h _ _ _ hW hS (lv_sub hl [1, 2, 0] rfl)

theorem dX6_longestLowerSlope_0 : decode cX6_longestLowerSlope 0 = .ok (.iconst 0, 1) := by decide +kernel
theorem dX6_longestLowerSlope_1 : decode cX6_longestLowerSlope 1 = .ok (.istore_n 3, 1) := by decide +kernel
theorem dX6_longestLowerSlope_2 : decode cX6_longestLowerSlope 2 = .ok (.iconst 0, 1) := by decide +kernel
theorem dX6_longestLowerSlope_3 : decode cX6_longestLowerSlope 3 = .ok (.istore 4, 2) := by decide +kernel
theorem dX6_longestLowerSlope_5 : decode cX6_longestLowerSlope 5 = .ok (.iload 4, 2) := by decide +kernel
theorem dX6_longestLowerSlope_7 : decode cX6_longestLowerSlope 7 = .ok (.iconst 4, 1) := by decide +kernel
theorem dX6_longestLowerSlope_8 : decode cX6_longestLowerSlope 8 = .ok (.if_icmp .ge 45, 3) := by decide +kernel
theorem dX6_longestLowerSlope_11 : decode cX6_longestLowerSlope 11 = .ok (.iload_n 2, 1) := by decide +kernel
theorem dX6_longestLowerSlope_12 : decode cX6_longestLowerSlope 12 = .ok (.iload 4, 2) := by decide +kernel
theorem dX6_longestLowerSlope_14 : decode cX6_longestLowerSlope 14 = .ok (.invokestatic 50, 3) := by decide +kernel
theorem dX6_longestLowerSlope_17 : decode cX6_longestLowerSlope 17 = .ok (.istore 5, 2) := by decide +kernel
theorem dX6_longestLowerSlope_19 : decode cX6_longestLowerSlope 19 = .ok (.iload 5, 2) := by decide +kernel
theorem dX6_longestLowerSlope_21 : decode cX6_longestLowerSlope 21 = .ok (.iconst (-1), 1) := by decide +kernel
theorem dX6_longestLowerSlope_22 : decode cX6_longestLowerSlope 22 = .ok (.if_icmp .eq 25, 3) := by decide +kernel
theorem dX6_longestLowerSlope_25 : decode cX6_longestLowerSlope 25 = .ok (.aload_n 1, 1) := by decide +kernel
theorem dX6_longestLowerSlope_26 : decode cX6_longestLowerSlope 26 = .ok (.iload 5, 2) := by decide +kernel
theorem dX6_longestLowerSlope_28 : decode cX6_longestLowerSlope 28 = .ok (.iaload, 1) := by decide +kernel
theorem dX6_longestLowerSlope_29 : decode cX6_longestLowerSlope 29 = .ok (.aload_n 1, 1) := by decide +kernel
theorem dX6_longestLowerSlope_30 : decode cX6_longestLowerSlope 30 = .ok (.iload_n 2, 1) := by decide +kernel
theorem dX6_longestLowerSlope_31 : decode cX6_longestLowerSlope 31 = .ok (.iaload, 1) := by decide +kernel
theorem dX6_longestLowerSlope_32 : decode cX6_longestLowerSlope 32 = .ok (.if_icmp .ge 15, 3) := by decide +kernel
theorem dX6_longestLowerSlope_35 : decode cX6_longestLowerSlope 35 = .ok (.iload_n 3, 1) := by decide +kernel
theorem dX6_longestLowerSlope_36 : decode cX6_longestLowerSlope 36 = .ok (.aload_n 0, 1) := by decide +kernel
theorem dX6_longestLowerSlope_37 : decode cX6_longestLowerSlope 37 = .ok (.getfield 22, 3) := by decide +kernel
theorem dX6_longestLowerSlope_40 : decode cX6_longestLowerSlope 40 = .ok (.iload 5, 2) := by decide +kernel
theorem dX6_longestLowerSlope_42 : decode cX6_longestLowerSlope 42 = .ok (.iaload, 1) := by decide +kernel
theorem dX6_longestLowerSlope_43 : decode cX6_longestLowerSlope 43 = .ok (.invokestatic 73, 3) := by decide +kernel
theorem dX6_longestLowerSlope_46 : decode cX6_longestLowerSlope 46 = .ok (.istore_n 3, 1) := by decide +kernel
theorem dX6_longestLowerSlope_47 : decode cX6_longestLowerSlope 47 = .ok (.iinc 4 1, 3) := by decide +kernel
theorem dX6_longestLowerSlope_50 : decode cX6_longestLowerSlope 50 = .ok (.goto (-45), 3) := by decide +kernel
theorem dX6_longestLowerSlope_53 : decode cX6_longestLowerSlope 53 = .ok (.iload_n 3, 1) := by decide +kernel
theorem dX6_longestLowerSlope_54 : decode cX6_longestLowerSlope 54 = .ok (.ireturn, 1) := by decide +kernel
abbrev rmX6_longestLowerSlope : Room := { frames := 3, cells := 0, slots := 0, locals := 83 }
set_option maxHeartbeats 4000000 in
set_option maxRecDepth 100000 in
theorem metX6_longestLowerSlope {l : Launch} {s0 : State} {b B : Nat} {D : va_G} {T : Nat → ClassId} (F : FX l s0 b D T B) {X : Nat → Prop} (hX : ∀ o, o < 560 → ¬ X (B + o)) {N : Nat} {μ : Mem} {a0 : Nat} {a1 : Nat} {a2 : Int32} {r : Int32} (k0 : IsSa a0) (k1 : (IA 16) a1) (h : fX6_longestLowerSlope N μ a0 a1 a2 = some r) : gMet l yX6_longestLowerSlope cX6_longestLowerSlope 6 (some .int) rmX6_longestLowerSlope [.ref (B + a0), .ref (B + a1), .int a2] (gWC s0 D T B μ) (KC s0 X) (some (.int r)) (gWC s0 D T B μ) (gA B X) 0 0 := by
  refine gI_of RX6 (by decide +kernel) rfl (Nat.le_of_ble_eq_true rfl) ?_
  intro p e s m args below meth c ls Q hx hb hlocks hml hown hts hW hk hl hS hend
  have hC := FX_C F hk hx hb hown hts
  have hA := gA_all hX
  have hl : lv_has ls 6 [(0, .ref (B + a0)), (1, .ref (B + a1)), (2, .int a2)] := hl
  unfold fX6_longestLowerSlope at h
  refine lv_iconst (v := 0) hx hb dX6_longestLowerSlope_0 (by decide) ?_
  refine lv_istore_n (lv' := [(3, .int 0), (0, .ref (B + a0)), (1, .ref (B + a1)), (2, .int a2)]) hx hb dX6_longestLowerSlope_1 rfl hl (by decide) rfl (fun ls hl => ?_)
  refine lv_iconst (v := 0) hx hb dX6_longestLowerSlope_2 (by decide) ?_
  refine lv_istore (lv' := [(4, .int 0), (3, .int 0), (0, .ref (B + a0)), (1, .ref (B + a1)), (2, .int a2)]) hx hb dX6_longestLowerSlope_3 hl (by decide) rfl (fun ls hl => ?_)
  refine fix2_ind (fun (x1 : Int32) (x2 : Int32) => ∀ (H : Heap) (locs : List Loc) (ls : Array Slot), gWC s0 D T B μ H → va_S (gA B X) s.heap H locs → lv_has ls 6 [(0, .ref (B + a0)), (1, .ref (B + a1)), (2, .int a2), (3, .int x1), (4, .int x2)] → W p l e rmX6_longestLowerSlope s m args below meth c H locs 0 0 Q (F0 m 5 ls [])) ?_ N _ _ h _ _ _ hW hS (lv_sub hl [2, 3, 4, 1, 0] rfl)
  clear h hW hS hl
  intro self3 IH4 x1 x2 h H locs ls hW hS hl
  refine lv_iload hx hb dX6_longestLowerSlope_5 (lv_at hl 4 rfl) ?_
  refine lv_iconst (v := 4) hx hb dX6_longestLowerSlope_7 (by decide) ?_
  refine lv_icmp_ge (tgt := 53) hx hb dX6_longestLowerSlope_8 (by decide) (fun c5 => ?_) (fun c5 => ?_)
  · replace h := ite_t c5 h
    refine lv_iload_n hx hb dX6_longestLowerSlope_53 rfl (lv_at hl 3 rfl) ?_
    cases h
    exact hend dX6_longestLowerSlope_54 hW hS (Nat.le_of_ble_eq_true rfl) (Nat.le_of_ble_eq_true rfl)
  · replace h := ite_f c5 h
    refine lv_iload_n hx hb dX6_longestLowerSlope_11 rfl (lv_at hl 2 rfl) ?_
    refine lv_iload hx hb dX6_longestLowerSlope_12 (lv_at hl 4 rfl) ?_
    obtain ⟨r6, hcall, h⟩ := bd_out h
    refine g0_callS (As := [.int a2, .int x2]) hC hml hS hW (KC_at hk hS F.2.2.2.2) KC_blind (metX6_beside F hX  hcall) ml_X6_50 ⟨rfl, rfl, (Nat.le_of_ble_eq_true rfl), (Nat.le_of_ble_eq_true rfl)⟩ rfl hl.1 rfl (Nat.le_of_ble_eq_true rfl) dX6_longestLowerSlope_14 ⟨(Nat.le_of_ble_eq_true rfl), (Nat.le_of_ble_eq_true rfl)⟩ (fun H locs hW hS => ?_)
    refine lv_istore (lv' := [(5, .int r6), (0, .ref (B + a0)), (1, .ref (B + a1)), (2, .int a2), (3, .int x1), (4, .int x2)]) hx hb dX6_longestLowerSlope_17 hl (by decide) rfl (fun ls hl => ?_)
    refine lv_iload hx hb dX6_longestLowerSlope_19 (lv_at hl 0 rfl) ?_
    refine lv_iconst (v := (-1)) hx hb dX6_longestLowerSlope_21 (by decide) ?_
    obtain ⟨j8, hj10, h⟩ := jn1_o h
    have J9 : ∀ (y7 : Int32), j8 y7 = some r → ∀ (H : Heap) (locs : List Loc) (ls : Array Slot), gWC s0 D T B μ H → va_S (gA B X) s.heap H locs → lv_has ls 6 [(0, .ref (B + a0)), (1, .ref (B + a1)), (2, .int a2), (3, .int y7), (4, .int x2)] → W p l e rmX6_longestLowerSlope s m args below meth c H locs 0 0 Q (F0 m 47 ls []) := by
      clear h hW hS hl
      intro y7 h H locs ls hW hS hl
      replace h := (hj10 y7).symm.trans h
      obtain ⟨v11, e12, h⟩ := lt_out h
      refine lv_iinc (v := v11) (lv' := [(4, .int v11), (0, .ref (B + a0)), (1, .ref (B + a1)), (2, .int a2), (3, .int y7)]) hx hb dX6_longestLowerSlope_47 hl (k := 4) rfl (by rw [e12]; rfl) (by decide) rfl (fun ls hl => ?_)
      refine lv_goto (tgt := 5) hx hb dX6_longestLowerSlope_50 (by decide) ?_
      exact IH4 _ _ h _ _ _ hW hS (lv_sub hl [1, 2, 3, 4, 0] rfl)
    refine lv_icmp_eq (tgt := 47) hx hb dX6_longestLowerSlope_22 (by decide) (fun c13 => ?_) (fun c13 => ?_)
    · replace h := ite_t c13 h
      exact J9 _ h _ _ _ hW hS (lv_sub hl [1, 2, 3, 4, 5] rfl)
    · replace h := ite_f c13 h
      refine lv_aload_n hx hb dX6_longestLowerSlope_25 rfl (lv_at hl 2 rfl) ?_
      refine lv_iload hx hb dX6_longestLowerSlope_26 (lv_at hl 0 rfl) ?_
      obtain ⟨v14, e15, hi16, h⟩ := ag_o h
      refine gq_iald hC hW k1.1 (k1.2 (gfm s0) T B (μ a1)) (t0 := 0) rfl e15 hi16 dX6_longestLowerSlope_28 ?_
      refine lv_aload_n hx hb dX6_longestLowerSlope_29 rfl (lv_at hl 2 rfl) ?_
      refine lv_iload_n hx hb dX6_longestLowerSlope_30 rfl (lv_at hl 3 rfl) ?_
      obtain ⟨v17, e18, hi19, h⟩ := ag_o h
      refine gq_iald hC hW k1.1 (k1.2 (gfm s0) T B (μ a1)) (t0 := 0) rfl e18 hi19 dX6_longestLowerSlope_31 ?_
      refine lv_icmp_ge (tgt := 47) hx hb dX6_longestLowerSlope_32 (by decide) (fun c20 => ?_) (fun c20 => ?_)
      · replace h := ite_t c20 h
        exact J9 _ h _ _ _ hW hS (lv_sub hl [1, 2, 3, 4, 5] rfl)
      · replace h := ite_f c20 h
        refine lv_iload_n hx hb dX6_longestLowerSlope_35 rfl (lv_at hl 4 rfl) ?_
        refine lv_aload_n hx hb dX6_longestLowerSlope_36 rfl (lv_at hl 1 rfl) ?_
        refine gw_get (v := .ref (B + (a0 + 4))) hC hW fl_X6_22 k0.1 (k0.2.1 (gfm s0) T B (μ a0)) rfl dX6_longestLowerSlope_37 ?_
        refine lv_iload hx hb dX6_longestLowerSlope_40 (lv_at hl 0 rfl) ?_
        obtain ⟨v21, e22, hi23, h⟩ := ag_o h
        refine gq_iald hC hW k0.2.2.2.2.2.1 (k0.2.2.2.2.2.2 (gfm s0) T B (μ (a0 + 4))) (t0 := 0) rfl e22 hi23 dX6_longestLowerSlope_42 ?_
        refine gw_max hC (hml.trans hl.1.symm) lm_X6_73 lb_max.1 lb_max.2.1 lb_max.2.2 (Nat.le_of_ble_eq_true rfl) (Nat.le_of_ble_eq_true rfl) (Nat.le_of_ble_eq_true rfl) (Nat.le_of_ble_eq_true rfl) dX6_longestLowerSlope_43 ?_
        obtain ⟨v24, e25, h⟩ := lt_out h
        rw [← e25]
        refine lv_istore_n (lv' := [(3, .int v24), (5, .int r6), (0, .ref (B + a0)), (1, .ref (B + a1)), (2, .int a2), (4, .int x2)]) hx hb dX6_longestLowerSlope_46 rfl hl (by decide) rfl (fun ls hl => ?_)
        exact J9 _ h _ _ _ hW hS (lv_sub hl [2, 3, 4, 0, 5] rfl)

theorem dX6_slopeFromFewest_0 : decode cX6_slopeFromFewest 0 = .ok (.iconst 0, 1) := by decide +kernel
theorem dX6_slopeFromFewest_1 : decode cX6_slopeFromFewest 1 = .ok (.istore_n 2, 1) := by decide +kernel
theorem dX6_slopeFromFewest_2 : decode cX6_slopeFromFewest 2 = .ok (.iconst 0, 1) := by decide +kernel
theorem dX6_slopeFromFewest_3 : decode cX6_slopeFromFewest 3 = .ok (.istore_n 3, 1) := by decide +kernel
theorem dX6_slopeFromFewest_4 : decode cX6_slopeFromFewest 4 = .ok (.iload_n 3, 1) := by decide +kernel
theorem dX6_slopeFromFewest_5 : decode cX6_slopeFromFewest 5 = .ok (.iconst 4, 1) := by decide +kernel
theorem dX6_slopeFromFewest_6 : decode cX6_slopeFromFewest 6 = .ok (.if_icmp .ge 61, 3) := by decide +kernel
theorem dX6_slopeFromFewest_9 : decode cX6_slopeFromFewest 9 = .ok (.iconst 0, 1) := by decide +kernel
theorem dX6_slopeFromFewest_10 : decode cX6_slopeFromFewest 10 = .ok (.istore 4, 2) := by decide +kernel
theorem dX6_slopeFromFewest_12 : decode cX6_slopeFromFewest 12 = .ok (.iload 4, 2) := by decide +kernel
theorem dX6_slopeFromFewest_14 : decode cX6_slopeFromFewest 14 = .ok (.bipush 16, 2) := by decide +kernel
theorem dX6_slopeFromFewest_16 : decode cX6_slopeFromFewest 16 = .ok (.if_icmp .ge 45, 3) := by decide +kernel
theorem dX6_slopeFromFewest_19 : decode cX6_slopeFromFewest 19 = .ok (.aload_n 1, 1) := by decide +kernel
theorem dX6_slopeFromFewest_20 : decode cX6_slopeFromFewest 20 = .ok (.iload 4, 2) := by decide +kernel
theorem dX6_slopeFromFewest_22 : decode cX6_slopeFromFewest 22 = .ok (.iaload, 1) := by decide +kernel
theorem dX6_slopeFromFewest_23 : decode cX6_slopeFromFewest 23 = .ok (.iload_n 3, 1) := by decide +kernel
theorem dX6_slopeFromFewest_24 : decode cX6_slopeFromFewest 24 = .ok (.if_icmp .ne 31, 3) := by decide +kernel
theorem dX6_slopeFromFewest_27 : decode cX6_slopeFromFewest 27 = .ok (.aload_n 0, 1) := by decide +kernel
theorem dX6_slopeFromFewest_28 : decode cX6_slopeFromFewest 28 = .ok (.getfield 22, 3) := by decide +kernel
theorem dX6_slopeFromFewest_31 : decode cX6_slopeFromFewest 31 = .ok (.iload 4, 2) := by decide +kernel
theorem dX6_slopeFromFewest_33 : decode cX6_slopeFromFewest 33 = .ok (.aload_n 0, 1) := by decide +kernel
theorem dX6_slopeFromFewest_34 : decode cX6_slopeFromFewest 34 = .ok (.aload_n 1, 1) := by decide +kernel
theorem dX6_slopeFromFewest_35 : decode cX6_slopeFromFewest 35 = .ok (.iload 4, 2) := by decide +kernel
theorem dX6_slopeFromFewest_37 : decode cX6_slopeFromFewest 37 = .ok (.invokevirtual 78, 3) := by decide +kernel
theorem dX6_slopeFromFewest_40 : decode cX6_slopeFromFewest 40 = .ok (.iconst 1, 1) := by decide +kernel
theorem dX6_slopeFromFewest_41 : decode cX6_slopeFromFewest 41 = .ok (.iadd, 1) := by decide +kernel
theorem dX6_slopeFromFewest_42 : decode cX6_slopeFromFewest 42 = .ok (.iastore, 1) := by decide +kernel
theorem dX6_slopeFromFewest_43 : decode cX6_slopeFromFewest 43 = .ok (.iload_n 2, 1) := by decide +kernel
theorem dX6_slopeFromFewest_44 : decode cX6_slopeFromFewest 44 = .ok (.aload_n 0, 1) := by decide +kernel
theorem dX6_slopeFromFewest_45 : decode cX6_slopeFromFewest 45 = .ok (.getfield 22, 3) := by decide +kernel
theorem dX6_slopeFromFewest_48 : decode cX6_slopeFromFewest 48 = .ok (.iload 4, 2) := by decide +kernel
theorem dX6_slopeFromFewest_50 : decode cX6_slopeFromFewest 50 = .ok (.iaload, 1) := by decide +kernel
theorem dX6_slopeFromFewest_51 : decode cX6_slopeFromFewest 51 = .ok (.invokestatic 73, 3) := by decide +kernel
theorem dX6_slopeFromFewest_54 : decode cX6_slopeFromFewest 54 = .ok (.istore_n 2, 1) := by decide +kernel
theorem dX6_slopeFromFewest_55 : decode cX6_slopeFromFewest 55 = .ok (.iinc 4 1, 3) := by decide +kernel
theorem dX6_slopeFromFewest_58 : decode cX6_slopeFromFewest 58 = .ok (.goto (-46), 3) := by decide +kernel
theorem dX6_slopeFromFewest_61 : decode cX6_slopeFromFewest 61 = .ok (.iinc 3 1, 3) := by decide +kernel
theorem dX6_slopeFromFewest_64 : decode cX6_slopeFromFewest 64 = .ok (.goto (-60), 3) := by decide +kernel
theorem dX6_slopeFromFewest_67 : decode cX6_slopeFromFewest 67 = .ok (.iload_n 2, 1) := by decide +kernel
theorem dX6_slopeFromFewest_68 : decode cX6_slopeFromFewest 68 = .ok (.ireturn, 1) := by decide +kernel
abbrev rmX6_slopeFromFewest : Room := { frames := 4, cells := 0, slots := 0, locals := 108 }
set_option maxHeartbeats 4000000 in
set_option maxRecDepth 100000 in
theorem metX6_slopeFromFewest {l : Launch} {s0 : State} {b B : Nat} {D : va_G} {T : Nat → ClassId} (F : FX l s0 b D T B) {X : Nat → Prop} (hX : ∀ o, o < 560 → ¬ X (B + o)) {N : Nat} {μ : Mem} {a0 : Nat} {a1 : Nat} {r : Mem × Int32} (k0 : IsSa a0) (k1 : (IA 16) a1) (h : fX6_slopeFromFewest N μ a0 a1 = some r) : gMet l yX6_slopeFromFewest cX6_slopeFromFewest 5 (some .int) rmX6_slopeFromFewest [.ref (B + a0), .ref (B + a1)] (gWC s0 D T B μ) (KC s0 X) (some (.int r.2)) (gWC s0 D T B r.1) (gA B X) 0 0 := by
  refine gI_of RX6 (by decide +kernel) rfl (Nat.le_of_ble_eq_true rfl) ?_
  intro p e s m args below meth c ls Q hx hb hlocks hml hown hts hW hk hl hS hend
  have hC := FX_C F hk hx hb hown hts
  have hA := gA_all hX
  have hl : lv_has ls 5 [(0, .ref (B + a0)), (1, .ref (B + a1))] := hl
  unfold fX6_slopeFromFewest at h
  refine lv_iconst (v := 0) hx hb dX6_slopeFromFewest_0 (by decide) ?_
  refine lv_istore_n (lv' := [(2, .int 0), (0, .ref (B + a0)), (1, .ref (B + a1))]) hx hb dX6_slopeFromFewest_1 rfl hl (by decide) rfl (fun ls hl => ?_)
  refine lv_iconst (v := 0) hx hb dX6_slopeFromFewest_2 (by decide) ?_
  refine lv_istore_n (lv' := [(3, .int 0), (2, .int 0), (0, .ref (B + a0)), (1, .ref (B + a1))]) hx hb dX6_slopeFromFewest_3 rfl hl (by decide) rfl (fun ls hl => ?_)
  refine fix3_ind (fun (x1 : Int32) (x2 : Int32) (μ3 : Mem) => ∀ (H : Heap) (locs : List Loc) (ls : Array Slot), gWC s0 D T B μ3 H → va_S (gA B X) s.heap H locs → lv_has ls 5 [(0, .ref (B + a0)), (1, .ref (B + a1)), (2, .int x1), (3, .int x2)] → W p l e rmX6_slopeFromFewest s m args below meth c H locs 0 0 Q (F0 m 4 ls [])) ?_ N _ _ _ h _ _ _ hW hS (lv_sub hl [2, 3, 1, 0] rfl)
  clear h hW hS hl
  intro self4 IH5 x1 x2 μ3 h H locs ls hW hS hl
  refine lv_iload_n hx hb dX6_slopeFromFewest_4 rfl (lv_at hl 3 rfl) ?_
  refine lv_iconst (v := 4) hx hb dX6_slopeFromFewest_5 (by decide) ?_
  refine lv_icmp_ge (tgt := 67) hx hb dX6_slopeFromFewest_6 (by decide) (fun c6 => ?_) (fun c6 => ?_)
  · replace h := ite_t c6 h
    refine lv_iload_n hx hb dX6_slopeFromFewest_67 rfl (lv_at hl 2 rfl) ?_
    cases h
    exact hend dX6_slopeFromFewest_68 hW hS (Nat.le_of_ble_eq_true rfl) (Nat.le_of_ble_eq_true rfl)
  · replace h := ite_f c6 h
    refine lv_iconst (v := 0) hx hb dX6_slopeFromFewest_9 (by decide) ?_
    refine lv_istore (lv' := [(4, .int 0), (0, .ref (B + a0)), (1, .ref (B + a1)), (2, .int x1), (3, .int x2)]) hx hb dX6_slopeFromFewest_10 hl (by decide) rfl (fun ls hl => ?_)
    refine fix3_ind (fun (x7 : Int32) (x8 : Int32) (μ9 : Mem) => ∀ (H : Heap) (locs : List Loc) (ls : Array Slot), gWC s0 D T B μ9 H → va_S (gA B X) s.heap H locs → lv_has ls 5 [(0, .ref (B + a0)), (1, .ref (B + a1)), (2, .int x7), (3, .int x2), (4, .int x8)] → W p l e rmX6_slopeFromFewest s m args below meth c H locs 0 0 Q (F0 m 12 ls [])) ?_ N _ _ _ h _ _ _ hW hS (lv_sub hl [1, 2, 3, 4, 0] rfl)
    clear h hW hS hl
    intro self10 IH11 x7 x8 μ9 h H locs ls hW hS hl
    refine lv_iload hx hb dX6_slopeFromFewest_12 (lv_at hl 4 rfl) ?_
    refine lv_bipush (v := 16) hx hb dX6_slopeFromFewest_14 (by decide) ?_
    refine lv_icmp_ge (tgt := 61) hx hb dX6_slopeFromFewest_16 (by decide) (fun c12 => ?_) (fun c12 => ?_)
    · replace h := ite_t c12 h
      obtain ⟨v13, e14, h⟩ := lt_out h
      refine lv_iinc (v := v13) (lv' := [(3, .int v13), (0, .ref (B + a0)), (1, .ref (B + a1)), (2, .int x7), (4, .int x8)]) hx hb dX6_slopeFromFewest_61 hl (k := 3) rfl (by rw [e14]; rfl) (by decide) rfl (fun ls hl => ?_)
      refine lv_goto (tgt := 4) hx hb dX6_slopeFromFewest_64 (by decide) ?_
      exact IH5 _ _ _ h _ _ _ hW hS (lv_sub hl [1, 2, 3, 0] rfl)
    · replace h := ite_f c12 h
      refine lv_aload_n hx hb dX6_slopeFromFewest_19 rfl (lv_at hl 1 rfl) ?_
      refine lv_iload hx hb dX6_slopeFromFewest_20 (lv_at hl 4 rfl) ?_
      obtain ⟨v15, e16, hi17, h⟩ := ag_o h
      refine gq_iald hC hW k1.1 (k1.2 (gfm s0) T B (μ9 a1)) (t0 := 0) rfl e16 hi17 dX6_slopeFromFewest_22 ?_
      refine lv_iload_n hx hb dX6_slopeFromFewest_23 rfl (lv_at hl 3 rfl) ?_
      obtain ⟨j20, hj22, h⟩ := jn2_o h
      have J21 : ∀ (y18 : Int32) (μ19 : Mem), j20 y18 μ19 = some r → ∀ (H : Heap) (locs : List Loc) (ls : Array Slot), gWC s0 D T B μ19 H → va_S (gA B X) s.heap H locs → lv_has ls 5 [(0, .ref (B + a0)), (1, .ref (B + a1)), (2, .int y18), (3, .int x2), (4, .int x8)] → W p l e rmX6_slopeFromFewest s m args below meth c H locs 0 0 Q (F0 m 55 ls []) := by
        clear h hW hS hl
        intro y18 μ19 h H locs ls hW hS hl
        replace h := (hj22 y18 μ19).symm.trans h
        obtain ⟨v23, e24, h⟩ := lt_out h
        refine lv_iinc (v := v23) (lv' := [(4, .int v23), (0, .ref (B + a0)), (1, .ref (B + a1)), (2, .int y18), (3, .int x2)]) hx hb dX6_slopeFromFewest_55 hl (k := 4) rfl (by rw [e24]; rfl) (by decide) rfl (fun ls hl => ?_)
        refine lv_goto (tgt := 12) hx hb dX6_slopeFromFewest_58 (by decide) ?_
        exact IH11 _ _ _ h _ _ _ hW hS (lv_sub hl [1, 2, 3, 4, 0] rfl)
      refine lv_icmp_ne (tgt := 55) hx hb dX6_slopeFromFewest_24 (by decide) (fun c25 => ?_) (fun c25 => ?_)
      · replace h := ite_f c25 h
        exact J21 _ _ h _ _ _ hW hS (lv_sub hl [0, 1, 2, 3, 4] rfl)
      · replace h := ite_t c25 h
        refine lv_aload_n hx hb dX6_slopeFromFewest_27 rfl (lv_at hl 0 rfl) ?_
        refine gw_get (v := .ref (B + (a0 + 4))) hC hW fl_X6_22 k0.1 (k0.2.1 (gfm s0) T B (μ9 a0)) rfl dX6_slopeFromFewest_28 ?_
        refine lv_iload hx hb dX6_slopeFromFewest_31 (lv_at hl 4 rfl) ?_
        refine lv_aload_n hx hb dX6_slopeFromFewest_33 rfl (lv_at hl 0 rfl) ?_
        refine lv_aload_n hx hb dX6_slopeFromFewest_34 rfl (lv_at hl 1 rfl) ?_
        refine lv_iload hx hb dX6_slopeFromFewest_35 (lv_at hl 4 rfl) ?_
        obtain ⟨r26, hcall, h⟩ := bd_out h
        refine g0_callV (As := [.ref (B + a1), .int x8]) hC hml hS hW (KC_at hk hS F.2.2.2.2) KC_blind (metX6_longestLowerSlope F hX k0 k1 hcall) ml_X6_78 (gw_recv hC hW k0.1 (k0.2.1 (gfm s0) T B (μ9 a0)) rfl) ⟨rfl, rfl, (Nat.le_of_ble_eq_true rfl), (Nat.le_of_ble_eq_true rfl)⟩ rfl hl.1 rfl (Nat.le_of_ble_eq_true rfl) dX6_slopeFromFewest_37 ⟨(Nat.le_of_ble_eq_true rfl), (Nat.le_of_ble_eq_true rfl)⟩ (fun H locs hW hS => ?_)
        refine lv_iconst (v := 1) hx hb dX6_slopeFromFewest_40 (by decide) ?_
        refine lv_iadd hx hb dX6_slopeFromFewest_41 ?_
        obtain ⟨μ27, e28, hi29, h⟩ := aw_o h
        refine gq_iast hC hS hW hA k0.2.2.2.2.2.1 (k0.2.2.2.2.2.2 (gfm s0) T B) (t0 := 0) rfl e28 hi29 dX6_slopeFromFewest_42 (fun H locs hW hS => ?_)
        refine lv_iload_n hx hb dX6_slopeFromFewest_43 rfl (lv_at hl 2 rfl) ?_
        refine lv_aload_n hx hb dX6_slopeFromFewest_44 rfl (lv_at hl 0 rfl) ?_
        refine gw_get (v := .ref (B + (a0 + 4))) hC hW fl_X6_22 k0.1 (k0.2.1 (gfm s0) T B (μ27 a0)) rfl dX6_slopeFromFewest_45 ?_
        refine lv_iload hx hb dX6_slopeFromFewest_48 (lv_at hl 4 rfl) ?_
        obtain ⟨v30, e31, hi32, h⟩ := ag_o h
        refine gq_iald hC hW k0.2.2.2.2.2.1 (k0.2.2.2.2.2.2 (gfm s0) T B (μ27 (a0 + 4))) (t0 := 0) rfl e31 hi32 dX6_slopeFromFewest_50 ?_
        refine gw_max hC (hml.trans hl.1.symm) lm_X6_73 lb_max.1 lb_max.2.1 lb_max.2.2 (Nat.le_of_ble_eq_true rfl) (Nat.le_of_ble_eq_true rfl) (Nat.le_of_ble_eq_true rfl) (Nat.le_of_ble_eq_true rfl) dX6_slopeFromFewest_51 ?_
        obtain ⟨v33, e34, h⟩ := lt_out h
        rw [← e34]
        refine lv_istore_n (lv' := [(2, .int v33), (0, .ref (B + a0)), (1, .ref (B + a1)), (3, .int x2), (4, .int x8)]) hx hb dX6_slopeFromFewest_54 rfl hl (by decide) rfl (fun ls hl => ?_)
        exact J21 _ _ h _ _ _ hW hS (lv_sub hl [1, 2, 0, 3, 4] rfl)

theorem dX7_readNumber_0 : decode cX7_readNumber 0 = .ok (.iconst 0, 1) := by decide +kernel
theorem dX7_readNumber_1 : decode cX7_readNumber 1 = .ok (.istore_n 3, 1) := by decide +kernel
theorem dX7_readNumber_2 : decode cX7_readNumber 2 = .ok (.iconst 0, 1) := by decide +kernel
theorem dX7_readNumber_3 : decode cX7_readNumber 3 = .ok (.istore 4, 2) := by decide +kernel
theorem dX7_readNumber_5 : decode cX7_readNumber 5 = .ok (.iload 4, 2) := by decide +kernel
theorem dX7_readNumber_7 : decode cX7_readNumber 7 = .ok (.iload_n 2, 1) := by decide +kernel
theorem dX7_readNumber_8 : decode cX7_readNumber 8 = .ok (.if_icmp .ge 67, 3) := by decide +kernel
theorem dX7_readNumber_11 : decode cX7_readNumber 11 = .ok (.aload_n 0, 1) := by decide +kernel
theorem dX7_readNumber_12 : decode cX7_readNumber 12 = .ok (.getfield 34, 3) := by decide +kernel
theorem dX7_readNumber_15 : decode cX7_readNumber 15 = .ok (.aload_n 0, 1) := by decide +kernel
theorem dX7_readNumber_16 : decode cX7_readNumber 16 = .ok (.getfield 37, 3) := by decide +kernel
theorem dX7_readNumber_19 : decode cX7_readNumber 19 = .ok (.if_icmp .ge 50, 3) := by decide +kernel
theorem dX7_readNumber_22 : decode cX7_readNumber 22 = .ok (.bipush 48, 2) := by decide +kernel
theorem dX7_readNumber_24 : decode cX7_readNumber 24 = .ok (.aload_n 0, 1) := by decide +kernel
theorem dX7_readNumber_25 : decode cX7_readNumber 25 = .ok (.getfield 9, 3) := by decide +kernel
theorem dX7_readNumber_28 : decode cX7_readNumber 28 = .ok (.aload_n 0, 1) := by decide +kernel
theorem dX7_readNumber_29 : decode cX7_readNumber 29 = .ok (.getfield 34, 3) := by decide +kernel
theorem dX7_readNumber_32 : decode cX7_readNumber 32 = .ok (.caload, 1) := by decide +kernel
theorem dX7_readNumber_33 : decode cX7_readNumber 33 = .ok (.bipush 57, 2) := by decide +kernel
theorem dX7_readNumber_35 : decode cX7_readNumber 35 = .ok (.invokestatic 70, 3) := by decide +kernel
theorem dX7_readNumber_38 : decode cX7_readNumber 38 = .ok (.ifCond .eq 31, 3) := by decide +kernel
theorem dX7_readNumber_41 : decode cX7_readNumber 41 = .ok (.iload_n 3, 1) := by decide +kernel
theorem dX7_readNumber_42 : decode cX7_readNumber 42 = .ok (.bipush 10, 2) := by decide +kernel
theorem dX7_readNumber_44 : decode cX7_readNumber 44 = .ok (.imul, 1) := by decide +kernel
theorem dX7_readNumber_45 : decode cX7_readNumber 45 = .ok (.aload_n 0, 1) := by decide +kernel
theorem dX7_readNumber_46 : decode cX7_readNumber 46 = .ok (.getfield 9, 3) := by decide +kernel
theorem dX7_readNumber_49 : decode cX7_readNumber 49 = .ok (.aload_n 0, 1) := by decide +kernel
theorem dX7_readNumber_50 : decode cX7_readNumber 50 = .ok (.getfield 34, 3) := by decide +kernel
theorem dX7_readNumber_53 : decode cX7_readNumber 53 = .ok (.caload, 1) := by decide +kernel
theorem dX7_readNumber_54 : decode cX7_readNumber 54 = .ok (.iadd, 1) := by decide +kernel
theorem dX7_readNumber_55 : decode cX7_readNumber 55 = .ok (.bipush 48, 2) := by decide +kernel
theorem dX7_readNumber_57 : decode cX7_readNumber 57 = .ok (.isub, 1) := by decide +kernel
theorem dX7_readNumber_58 : decode cX7_readNumber 58 = .ok (.istore_n 3, 1) := by decide +kernel
theorem dX7_readNumber_59 : decode cX7_readNumber 59 = .ok (.aload_n 0, 1) := by decide +kernel
theorem dX7_readNumber_60 : decode cX7_readNumber 60 = .ok (.dup, 1) := by decide +kernel
theorem dX7_readNumber_61 : decode cX7_readNumber 61 = .ok (.getfield 34, 3) := by decide +kernel
theorem dX7_readNumber_64 : decode cX7_readNumber 64 = .ok (.iconst 1, 1) := by decide +kernel
theorem dX7_readNumber_65 : decode cX7_readNumber 65 = .ok (.iadd, 1) := by decide +kernel
theorem dX7_readNumber_66 : decode cX7_readNumber 66 = .ok (.putfield 34, 3) := by decide +kernel
theorem dX7_readNumber_69 : decode cX7_readNumber 69 = .ok (.iinc 4 1, 3) := by decide +kernel
theorem dX7_readNumber_72 : decode cX7_readNumber 72 = .ok (.goto (-67), 3) := by decide +kernel
theorem dX7_readNumber_75 : decode cX7_readNumber 75 = .ok (.iload_n 1, 1) := by decide +kernel
theorem dX7_readNumber_76 : decode cX7_readNumber 76 = .ok (.iconst 4, 1) := by decide +kernel
theorem dX7_readNumber_77 : decode cX7_readNumber 77 = .ok (.if_icmp .ge 15, 3) := by decide +kernel
theorem dX7_readNumber_80 : decode cX7_readNumber 80 = .ok (.aload_n 0, 1) := by decide +kernel
theorem dX7_readNumber_81 : decode cX7_readNumber 81 = .ok (.getfield 23, 3) := by decide +kernel
theorem dX7_readNumber_84 : decode cX7_readNumber 84 = .ok (.aload_n 0, 1) := by decide +kernel
theorem dX7_readNumber_85 : decode cX7_readNumber 85 = .ok (.getfield 26, 3) := by decide +kernel
theorem dX7_readNumber_88 : decode cX7_readNumber 88 = .ok (.aaload, 1) := by decide +kernel
theorem dX7_readNumber_89 : decode cX7_readNumber 89 = .ok (.iload_n 1, 1) := by decide +kernel
theorem dX7_readNumber_90 : decode cX7_readNumber 90 = .ok (.iload_n 3, 1) := by decide +kernel
theorem dX7_readNumber_91 : decode cX7_readNumber 91 = .ok (.iastore, 1) := by decide +kernel
theorem dX7_readNumber_92 : decode cX7_readNumber 92 = .ok (.return_, 1) := by decide +kernel
abbrev rmX7_readNumber : Room := { frames := 3, cells := 0, slots := 0, locals := 82 }
set_option maxHeartbeats 4000000 in
set_option maxRecDepth 100000 in
theorem metX7_readNumber {l : Launch} {s0 : State} {b B : Nat} {D : va_G} {T : Nat → ClassId} (F : FX l s0 b D T B) {X : Nat → Prop} (hX : ∀ o, o < 560 → ¬ X (B + o)) {N : Nat} {μ : Mem} {a0 : Nat} {a1 : Int32} {a2 : Int32} {r : Mem} (k0 : IsSc a0) (h : fX7_readNumber N μ a0 a1 a2 = some r) : gMet l yX7_readNumber cX7_readNumber 5 none rmX7_readNumber [.ref (B + a0), .int a1, .int a2] (gWC s0 D T B μ) (KC s0 X) none (gWC s0 D T B r) (gA B X) 0 0 := by
  refine gV_of RX7 (by decide +kernel) rfl (Nat.le_of_ble_eq_true rfl) ?_
  intro p e s m args below meth c ls Q hx hb hlocks hml hown hts hW hk hl hS hend
  have hC := FX_C F hk hx hb hown hts
  have hA := gA_all hX
  have hl : lv_has ls 5 [(0, .ref (B + a0)), (1, .int a1), (2, .int a2)] := hl
  unfold fX7_readNumber at h
  refine lv_iconst (v := 0) hx hb dX7_readNumber_0 (by decide) ?_
  refine lv_istore_n (lv' := [(3, .int 0), (0, .ref (B + a0)), (1, .int a1), (2, .int a2)]) hx hb dX7_readNumber_1 rfl hl (by decide) rfl (fun ls hl => ?_)
  refine lv_iconst (v := 0) hx hb dX7_readNumber_2 (by decide) ?_
  refine lv_istore (lv' := [(4, .int 0), (3, .int 0), (0, .ref (B + a0)), (1, .int a1), (2, .int a2)]) hx hb dX7_readNumber_3 hl (by decide) rfl (fun ls hl => ?_)
  refine fix3_ind (fun (x1 : Int32) (x2 : Int32) (μ3 : Mem) => ∀ (H : Heap) (locs : List Loc) (ls : Array Slot), gWC s0 D T B μ3 H → va_S (gA B X) s.heap H locs → lv_has ls 5 [(0, .ref (B + a0)), (1, .int a1), (2, .int a2), (3, .int x1), (4, .int x2)] → W p l e rmX7_readNumber s m args below meth c H locs 0 0 Q (F0 m 5 ls [])) ?_ N _ _ _ h _ _ _ hW hS (lv_sub hl [2, 3, 4, 1, 0] rfl)
  clear h hW hS hl
  intro self4 IH5 x1 x2 μ3 h H locs ls hW hS hl
  refine lv_iload hx hb dX7_readNumber_5 (lv_at hl 4 rfl) ?_
  refine lv_iload_n hx hb dX7_readNumber_7 rfl (lv_at hl 2 rfl) ?_
  refine lv_icmp_ge (tgt := 75) hx hb dX7_readNumber_8 (by decide) (fun c6 => ?_) (fun c6 => ?_)
  · replace h := ite_t c6 h
    refine lv_iload_n hx hb dX7_readNumber_75 rfl (lv_at hl 1 rfl) ?_
    refine lv_iconst (v := 4) hx hb dX7_readNumber_76 (by decide) ?_
    obtain ⟨j8, hj10, h⟩ := jn1_o h
    have J9 : ∀ (μ7 : Mem), j8 μ7 = some r → ∀ (H : Heap) (locs : List Loc) (ls : Array Slot), gWC s0 D T B μ7 H → va_S (gA B X) s.heap H locs → lv_has ls 5 [] → W p l e rmX7_readNumber s m args below meth c H locs 0 0 Q (F0 m 92 ls []) := by
      clear h hW hS hl
      intro μ7 h H locs ls hW hS hl
      replace h := (hj10 μ7).symm.trans h
      cases h
      exact hend dX7_readNumber_92 hW hS (Nat.le_of_ble_eq_true rfl) (Nat.le_of_ble_eq_true rfl)
    refine lv_icmp_ge (tgt := 92) hx hb dX7_readNumber_77 (by decide) (fun c11 => ?_) (fun c11 => ?_)
    · replace h := ite_t c11 h
      exact J9 _ h _ _ _ hW hS (lv_sub hl [] rfl)
    · replace h := ite_f c11 h
      refine lv_aload_n hx hb dX7_readNumber_80 rfl (lv_at hl 0 rfl) ?_
      refine gw_get (v := .ref (B + (a0 + 3))) hC hW fl_X7_23 k0.1 (k0.2.1 (gfm s0) T B (μ3 a0)) rfl dX7_readNumber_81 ?_
      refine lv_aload_n hx hb dX7_readNumber_84 rfl (lv_at hl 0 rfl) ?_
      refine gw_get (v := .int (μ3 a0 4)) hC hW fl_X7_26.1 k0.1 (k0.2.1 (gfm s0) T B (μ3 a0)) rfl dX7_readNumber_85 ?_
      obtain ⟨q12, e13, hq14, hi15, h⟩ := ar_o h
      refine gq_aald hC hW k0.2.2.2.2.1 (k0.2.2.2.2.2.1 (gfm s0) T B (μ3 (a0 + 3))) (t0 := 3) rfl rfl e13 hi15 dX7_readNumber_88 ?_
      refine lv_iload_n hx hb dX7_readNumber_89 rfl (lv_at hl 1 rfl) ?_
      refine lv_iload_n hx hb dX7_readNumber_90 rfl (lv_at hl 3 rfl) ?_
      obtain ⟨μ16, e17, hi18, h⟩ := aw_o h
      refine gq_iast hC hS hW hA (k0.2.2.2.2.2.2 q12 hq14).1 ((k0.2.2.2.2.2.2 q12 hq14).2 (gfm s0) T B) (t0 := 0) rfl e17 hi18 dX7_readNumber_91 (fun H locs hW hS => ?_)
      exact J9 _ h _ _ _ hW hS (lv_sub hl [] rfl)
  · replace h := ite_f c6 h
    refine lv_aload_n hx hb dX7_readNumber_11 rfl (lv_at hl 0 rfl) ?_
    refine gw_get (v := .int (μ3 a0 5)) hC hW fl_X7_34.1 k0.1 (k0.2.1 (gfm s0) T B (μ3 a0)) rfl dX7_readNumber_12 ?_
    refine lv_aload_n hx hb dX7_readNumber_15 rfl (lv_at hl 0 rfl) ?_
    refine gw_get (v := .int (μ3 a0 1)) hC hW fl_X7_37.1 k0.1 (k0.2.1 (gfm s0) T B (μ3 a0)) rfl dX7_readNumber_16 ?_
    obtain ⟨j21, hj23, h⟩ := jn2_o h
    have J22 : ∀ (y19 : Int32) (μ20 : Mem), j21 y19 μ20 = some r → ∀ (H : Heap) (locs : List Loc) (ls : Array Slot), gWC s0 D T B μ20 H → va_S (gA B X) s.heap H locs → lv_has ls 5 [(0, .ref (B + a0)), (1, .int a1), (2, .int a2), (3, .int y19), (4, .int x2)] → W p l e rmX7_readNumber s m args below meth c H locs 0 0 Q (F0 m 69 ls []) := by
      clear h hW hS hl
      intro y19 μ20 h H locs ls hW hS hl
      replace h := (hj23 y19 μ20).symm.trans h
      obtain ⟨v24, e25, h⟩ := lt_out h
      refine lv_iinc (v := v24) (lv' := [(4, .int v24), (0, .ref (B + a0)), (1, .int a1), (2, .int a2), (3, .int y19)]) hx hb dX7_readNumber_69 hl (k := 4) rfl (by rw [e25]; rfl) (by decide) rfl (fun ls hl => ?_)
      refine lv_goto (tgt := 5) hx hb dX7_readNumber_72 (by decide) ?_
      exact IH5 _ _ _ h _ _ _ hW hS (lv_sub hl [1, 2, 3, 4, 0] rfl)
    refine lv_icmp_ge (tgt := 69) hx hb dX7_readNumber_19 (by decide) (fun c26 => ?_) (fun c26 => ?_)
    · replace h := ite_t c26 h
      exact J22 _ _ h _ _ _ hW hS (lv_sub hl [0, 1, 2, 3, 4] rfl)
    · replace h := ite_f c26 h
      refine lv_bipush (v := 48) hx hb dX7_readNumber_22 (by decide) ?_
      refine lv_aload_n hx hb dX7_readNumber_24 rfl (lv_at hl 0 rfl) ?_
      refine gw_get (v := .ref (B + (a0 + 1))) hC hW fl_X7_9 k0.1 (k0.2.1 (gfm s0) T B (μ3 a0)) rfl dX7_readNumber_25 ?_
      refine lv_aload_n hx hb dX7_readNumber_28 rfl (lv_at hl 0 rfl) ?_
      refine gw_get (v := .int (μ3 a0 5)) hC hW fl_X7_34.1 k0.1 (k0.2.1 (gfm s0) T B (μ3 a0)) rfl dX7_readNumber_29 ?_
      obtain ⟨v27, e28, hi29, h⟩ := ag_o h
      refine gq_cald hC hW k0.2.2.1.1 (k0.2.2.1.2 (gfm s0) T B (μ3 (a0 + 1))) (t0 := 2) rfl e28 hi29 dX7_readNumber_32 ?_
      refine lv_bipush (v := 57) hx hb dX7_readNumber_33 (by decide) ?_
      obtain ⟨r30, hcall, h⟩ := bd_out h
      refine g0_callSN (As := [.int 48, .int v27, .int 57]) hC hml hS hW (KC_at hk hS F.2.2.2.2) KC_blind (metX10_isFrom F hX  hcall) nw_X7_70 (FX_N F hk _ nl_X7_70) ⟨rfl, rfl, (Nat.le_of_ble_eq_true rfl), (Nat.le_of_ble_eq_true rfl)⟩ rfl hl.1 rfl (Nat.le_of_ble_eq_true rfl) dX7_readNumber_35 ⟨(Nat.le_of_ble_eq_true rfl), (Nat.le_of_ble_eq_true rfl)⟩ (fun H locs hW hS => ?_)
      refine gw_if_eqZ (tgt := 69) hx hb dX7_readNumber_38 (by decide) (fun c31 => ?_) (fun c31 => ?_)
      · replace h := cond_f c31 h
        exact J22 _ _ h _ _ _ hW hS (lv_sub hl [0, 1, 2, 3, 4] rfl)
      · replace h := cond_t c31 h
        refine lv_iload_n hx hb dX7_readNumber_41 rfl (lv_at hl 3 rfl) ?_
        refine lv_bipush (v := 10) hx hb dX7_readNumber_42 (by decide) ?_
        refine lv_imul hx hb dX7_readNumber_44 ?_
        refine lv_aload_n hx hb dX7_readNumber_45 rfl (lv_at hl 0 rfl) ?_
        refine gw_get (v := .ref (B + (a0 + 1))) hC hW fl_X7_9 k0.1 (k0.2.1 (gfm s0) T B (μ3 a0)) rfl dX7_readNumber_46 ?_
        refine lv_aload_n hx hb dX7_readNumber_49 rfl (lv_at hl 0 rfl) ?_
        refine gw_get (v := .int (μ3 a0 5)) hC hW fl_X7_34.1 k0.1 (k0.2.1 (gfm s0) T B (μ3 a0)) rfl dX7_readNumber_50 ?_
        obtain ⟨v32, e33, hi34, h⟩ := ag_o h
        refine gq_cald hC hW k0.2.2.1.1 (k0.2.2.1.2 (gfm s0) T B (μ3 (a0 + 1))) (t0 := 2) rfl e33 hi34 dX7_readNumber_53 ?_
        refine lv_iadd hx hb dX7_readNumber_54 ?_
        refine lv_bipush (v := 48) hx hb dX7_readNumber_55 (by decide) ?_
        refine lv_isub hx hb dX7_readNumber_57 ?_
        obtain ⟨v35, e36, h⟩ := lt_out h
        rw [← e36]
        refine lv_istore_n (lv' := [(3, .int v35), (0, .ref (B + a0)), (1, .int a1), (2, .int a2), (4, .int x2)]) hx hb dX7_readNumber_58 rfl hl (by decide) rfl (fun ls hl => ?_)
        refine lv_aload_n hx hb dX7_readNumber_59 rfl (lv_at hl 1 rfl) ?_
        refine lv_dup hx hb dX7_readNumber_60 rfl ?_
        refine gw_get (v := .int (μ3 a0 5)) hC hW fl_X7_34.1 k0.1 (k0.2.1 (gfm s0) T B (μ3 a0)) rfl dX7_readNumber_61 ?_
        refine lv_iconst (v := 1) hx hb dX7_readNumber_64 (by decide) ?_
        refine lv_iadd hx hb dX7_readNumber_65 ?_
        obtain ⟨μ37, e38, h⟩ := lt_out h
        refine gq_put hC hS hW hA fl_X7_34 k0.1 (k0.2.1 (gfm s0) T B) (Nat.le_of_ble_eq_true rfl) rfl rfl rfl e38 dX7_readNumber_66 (fun H locs hW hS => ?_)
        exact J22 _ _ h _ _ _ hW hS (lv_sub hl [1, 2, 3, 0, 4] rfl)

theorem dX8_hasExhibit_0 : decode cX8_hasExhibit 0 = .ok (.iload_n 1, 1) := by decide +kernel
theorem dX8_hasExhibit_1 : decode cX8_hasExhibit 1 = .ok (.ifCond .lt 15, 3) := by decide +kernel
theorem dX8_hasExhibit_4 : decode cX8_hasExhibit 4 = .ok (.iload_n 1, 1) := by decide +kernel
theorem dX8_hasExhibit_5 : decode cX8_hasExhibit 5 = .ok (.aload_n 0, 1) := by decide +kernel
theorem dX8_hasExhibit_6 : decode cX8_hasExhibit 6 = .ok (.getfield 40, 3) := by decide +kernel
theorem dX8_hasExhibit_9 : decode cX8_hasExhibit 9 = .ok (.if_icmp .ge 7, 3) := by decide +kernel
theorem dX8_hasExhibit_12 : decode cX8_hasExhibit 12 = .ok (.iconst 1, 1) := by decide +kernel
theorem dX8_hasExhibit_13 : decode cX8_hasExhibit 13 = .ok (.goto 4, 3) := by decide +kernel
theorem dX8_hasExhibit_16 : decode cX8_hasExhibit 16 = .ok (.iconst 0, 1) := by decide +kernel
theorem dX8_hasExhibit_17 : decode cX8_hasExhibit 17 = .ok (.ireturn, 1) := by decide +kernel
abbrev rmX8_hasExhibit : Room := { frames := 2, cells := 0, slots := 0, locals := 60 }
set_option maxHeartbeats 4000000 in
set_option maxRecDepth 100000 in
theorem metX8_hasExhibit {l : Launch} {s0 : State} {b B : Nat} {D : va_G} {T : Nat → ClassId} (F : FX l s0 b D T B) {X : Nat → Prop} (hX : ∀ o, o < 560 → ¬ X (B + o)) {N : Nat} {μ : Mem} {a0 : Nat} {a1 : Int32} {r : Bool} (k0 : IsSt a0) (h : fX8_hasExhibit N μ a0 a1 = some r) : gMet l yX8_hasExhibit cX8_hasExhibit 2 (some .boolean) rmX8_hasExhibit [.ref (B + a0), .int a1] (gWC s0 D T B μ) (KC s0 X) (some (.int (b2i r))) (gWC s0 D T B μ) (gA B X) 0 0 := by
  refine gZ_of RX8 (by decide +kernel) rfl (Nat.le_of_ble_eq_true rfl) ?_
  intro p e s m args below meth c ls Q hx hb hlocks hml hown hts hW hk hl hS hend
  have hC := FX_C F hk hx hb hown hts
  have hA := gA_all hX
  have hl : lv_has ls 2 [(0, .ref (B + a0)), (1, .int a1)] := hl
  unfold fX8_hasExhibit at h
  refine lv_iload_n hx hb dX8_hasExhibit_0 rfl (lv_at hl 1 rfl) ?_
  obtain ⟨j2, hj4, h⟩ := jn1_o h
  have J3 : ∀ (y1 : Bool), j2 y1 = some r → ∀ (H : Heap) (locs : List Loc) (ls : Array Slot), gWC s0 D T B μ H → va_S (gA B X) s.heap H locs → lv_has ls 2 [] → W p l e rmX8_hasExhibit s m args below meth c H locs 0 0 Q (F0 m 17 ls [.int (b2i y1)]) := by
    clear h hW hS hl
    intro y1 h H locs ls hW hS hl
    replace h := (hj4 y1).symm.trans h
    cases h
    exact hend dX8_hasExhibit_17 hW hS (Nat.le_of_ble_eq_true rfl) (Nat.le_of_ble_eq_true rfl)
  obtain ⟨j6, hj8, h⟩ := jn1_o h
  have J7 : ∀ (u5 : Unit), j6 u5 = some r → ∀ (H : Heap) (locs : List Loc) (ls : Array Slot), gWC s0 D T B μ H → va_S (gA B X) s.heap H locs → lv_has ls 2 [] → W p l e rmX8_hasExhibit s m args below meth c H locs 0 0 Q (F0 m 16 ls []) := by
    clear h hW hS hl
    intro u5 h H locs ls hW hS hl
    replace h := (hj8 u5).symm.trans h
    refine lv_iconst (v := 0) hx hb dX8_hasExhibit_16 (by decide) ?_
    exact J3 _ h _ _ _ hW hS (lv_sub hl [] rfl)
  refine lv_if_lt (tgt := 16) hx hb dX8_hasExhibit_1 (by decide) (fun c9 => ?_) (fun c9 => ?_)
  · replace h := ite_t c9 h
    exact J7 _ h _ _ _ hW hS (lv_sub hl [] rfl)
  · replace h := ite_f c9 h
    refine lv_iload_n hx hb dX8_hasExhibit_4 rfl (lv_at hl 1 rfl) ?_
    refine lv_aload_n hx hb dX8_hasExhibit_5 rfl (lv_at hl 0 rfl) ?_
    refine gw_get (v := .int (μ a0 4)) hC hW fl_X8_40.1 k0.1 (k0.2.1 (gfm s0) T B (μ a0)) rfl dX8_hasExhibit_6 ?_
    refine lv_icmp_ge (tgt := 16) hx hb dX8_hasExhibit_9 (by decide) (fun c10 => ?_) (fun c10 => ?_)
    · replace h := ite_t c10 h
      exact J7 _ h _ _ _ hW hS (lv_sub hl [] rfl)
    · replace h := ite_f c10 h
      refine lv_iconst (v := 1) hx hb dX8_hasExhibit_12 (by decide) ?_
      refine lv_goto (tgt := 17) hx hb dX8_hasExhibit_13 (by decide) ?_
      exact J3 _ h _ _ _ hW hS (lv_sub hl [] rfl)

theorem dX8_roomIndexFault_0 : decode cX8_roomIndexFault 0 = .ok (.iload_n 1, 1) := by decide +kernel
theorem dX8_roomIndexFault_1 : decode cX8_roomIndexFault 1 = .ok (.ifCond .lt 17, 3) := by decide +kernel
theorem dX8_roomIndexFault_4 : decode cX8_roomIndexFault 4 = .ok (.iload_n 1, 1) := by decide +kernel
theorem dX8_roomIndexFault_5 : decode cX8_roomIndexFault 5 = .ok (.aload_n 0, 1) := by decide +kernel
theorem dX8_roomIndexFault_6 : decode cX8_roomIndexFault 6 = .ok (.getfield 30, 3) := by decide +kernel
theorem dX8_roomIndexFault_9 : decode cX8_roomIndexFault 9 = .ok (.if_icmp .ge 9, 3) := by decide +kernel
theorem dX8_roomIndexFault_12 : decode cX8_roomIndexFault 12 = .ok (.getstatic 53, 3) := by decide +kernel
theorem dX8_roomIndexFault_15 : decode cX8_roomIndexFault 15 = .ok (.goto 6, 3) := by decide +kernel
theorem dX8_roomIndexFault_18 : decode cX8_roomIndexFault 18 = .ok (.getstatic 59, 3) := by decide +kernel
theorem dX8_roomIndexFault_21 : decode cX8_roomIndexFault 21 = .ok (.areturn, 1) := by decide +kernel
abbrev rmX8_roomIndexFault : Room := { frames := 2, cells := 0, slots := 0, locals := 60 }
set_option maxHeartbeats 4000000 in
set_option maxRecDepth 100000 in
theorem metX8_roomIndexFault {l : Launch} {s0 : State} {b B : Nat} {D : va_G} {T : Nat → ClassId} (F : FX l s0 b D T B) {X : Nat → Prop} (hX : ∀ o, o < 560 → ¬ X (B + o)) {N : Nat} {μ : Mem} {a0 : Nat} {a1 : Int32} {r : Nat} (k0 : IsSt a0) (h : fX8_roomIndexFault N μ a0 a1 = some r) : gMet l yX8_roomIndexFault cX8_roomIndexFault 2 (some (.object "AvalancheGallery$Fault")) rmX8_roomIndexFault [.ref (B + a0), .int a1] (gWC s0 D T B μ) (KC s0 X) (some (.ref (gfa s0 r))) (gWC s0 D T B μ) (gA B X) 0 0 := by
  refine gR_of RX8 (by decide +kernel) rfl (Nat.le_of_ble_eq_true rfl) ?_
  intro p e s m args below meth c ls Q hx hb hlocks hml hown hts hW hk hl hS hend
  have hC := FX_C F hk hx hb hown hts
  have hA := gA_all hX
  have hl : lv_has ls 2 [(0, .ref (B + a0)), (1, .int a1)] := hl
  unfold fX8_roomIndexFault at h
  refine lv_iload_n hx hb dX8_roomIndexFault_0 rfl (lv_at hl 1 rfl) ?_
  obtain ⟨j2, hj4, h⟩ := jn1_o h
  have J3 : ∀ (y1 : Nat), j2 y1 = some r → ∀ (H : Heap) (locs : List Loc) (ls : Array Slot), gWC s0 D T B μ H → va_S (gA B X) s.heap H locs → lv_has ls 2 [] → W p l e rmX8_roomIndexFault s m args below meth c H locs 0 0 Q (F0 m 21 ls [.ref (gfa s0 y1)]) := by
    clear h hW hS hl
    intro y1 h H locs ls hW hS hl
    replace h := (hj4 y1).symm.trans h
    cases h
    exact hend dX8_roomIndexFault_21 hW hS (Nat.le_of_ble_eq_true rfl) (Nat.le_of_ble_eq_true rfl)
  obtain ⟨j6, hj8, h⟩ := jn1_o h
  have J7 : ∀ (u5 : Unit), j6 u5 = some r → ∀ (H : Heap) (locs : List Loc) (ls : Array Slot), gWC s0 D T B μ H → va_S (gA B X) s.heap H locs → lv_has ls 2 [] → W p l e rmX8_roomIndexFault s m args below meth c H locs 0 0 Q (F0 m 18 ls []) := by
    clear h hW hS hl
    intro u5 h H locs ls hW hS hl
    replace h := (hj8 u5).symm.trans h
    refine gw_gets hC (zF_1 F hk) hS fs_X8_59 dX8_roomIndexFault_18 ?_
    exact J3 _ h _ _ _ hW hS (lv_sub hl [] rfl)
  refine lv_if_lt (tgt := 18) hx hb dX8_roomIndexFault_1 (by decide) (fun c9 => ?_) (fun c9 => ?_)
  · replace h := ite_t c9 h
    exact J7 _ h _ _ _ hW hS (lv_sub hl [] rfl)
  · replace h := ite_f c9 h
    refine lv_iload_n hx hb dX8_roomIndexFault_4 rfl (lv_at hl 1 rfl) ?_
    refine lv_aload_n hx hb dX8_roomIndexFault_5 rfl (lv_at hl 0 rfl) ?_
    refine gw_get (v := .int (μ a0 0)) hC hW fl_X8_30.1 k0.1 (k0.2.1 (gfm s0) T B (μ a0)) rfl dX8_roomIndexFault_6 ?_
    refine lv_icmp_ge (tgt := 18) hx hb dX8_roomIndexFault_9 (by decide) (fun c10 => ?_) (fun c10 => ?_)
    · replace h := ite_t c10 h
      exact J7 _ h _ _ _ hW hS (lv_sub hl [] rfl)
    · replace h := ite_f c10 h
      refine gw_gets hC (zF_0 F hk) hS fs_X8_53 dX8_roomIndexFault_12 ?_
      refine lv_goto (tgt := 21) hx hb dX8_roomIndexFault_15 (by decide) ?_
      exact J3 _ h _ _ _ hW hS (lv_sub hl [] rfl)

theorem dX8_pairFault_0 : decode cX8_pairFault 0 = .ok (.aload_n 0, 1) := by decide +kernel
theorem dX8_pairFault_1 : decode cX8_pairFault 1 = .ok (.iload_n 1, 1) := by decide +kernel
theorem dX8_pairFault_2 : decode cX8_pairFault 2 = .ok (.invokevirtual 62, 3) := by decide +kernel
theorem dX8_pairFault_5 : decode cX8_pairFault 5 = .ok (.getstatic 53, 3) := by decide +kernel
theorem dX8_pairFault_8 : decode cX8_pairFault 8 = .ok (.if_acmp .ne 11, 3) := by decide +kernel
theorem dX8_pairFault_11 : decode cX8_pairFault 11 = .ok (.aload_n 0, 1) := by decide +kernel
theorem dX8_pairFault_12 : decode cX8_pairFault 12 = .ok (.iload_n 2, 1) := by decide +kernel
theorem dX8_pairFault_13 : decode cX8_pairFault 13 = .ok (.invokevirtual 62, 3) := by decide +kernel
theorem dX8_pairFault_16 : decode cX8_pairFault 16 = .ok (.goto 6, 3) := by decide +kernel
theorem dX8_pairFault_19 : decode cX8_pairFault 19 = .ok (.getstatic 59, 3) := by decide +kernel
theorem dX8_pairFault_22 : decode cX8_pairFault 22 = .ok (.areturn, 1) := by decide +kernel
abbrev rmX8_pairFault : Room := { frames := 3, cells := 0, slots := 0, locals := 81 }
set_option maxHeartbeats 4000000 in
set_option maxRecDepth 100000 in
theorem metX8_pairFault {l : Launch} {s0 : State} {b B : Nat} {D : va_G} {T : Nat → ClassId} (F : FX l s0 b D T B) {X : Nat → Prop} (hX : ∀ o, o < 560 → ¬ X (B + o)) {N : Nat} {μ : Mem} {a0 : Nat} {a1 : Int32} {a2 : Int32} {r : Nat} (k0 : IsSt a0) (h : fX8_pairFault N μ a0 a1 a2 = some r) : gMet l yX8_pairFault cX8_pairFault 3 (some (.object "AvalancheGallery$Fault")) rmX8_pairFault [.ref (B + a0), .int a1, .int a2] (gWC s0 D T B μ) (KC s0 X) (some (.ref (gfa s0 r))) (gWC s0 D T B μ) (gA B X) 0 0 := by
  refine gR_of RX8 (by decide +kernel) rfl (Nat.le_of_ble_eq_true rfl) ?_
  intro p e s m args below meth c ls Q hx hb hlocks hml hown hts hW hk hl hS hend
  have hC := FX_C F hk hx hb hown hts
  have hA := gA_all hX
  have hl : lv_has ls 3 [(0, .ref (B + a0)), (1, .int a1), (2, .int a2)] := hl
  unfold fX8_pairFault at h
  refine lv_aload_n hx hb dX8_pairFault_0 rfl (lv_at hl 0 rfl) ?_
  refine lv_iload_n hx hb dX8_pairFault_1 rfl (lv_at hl 1 rfl) ?_
  obtain ⟨r1, hcall, h⟩ := bd_out h
  refine g0_callV (As := [.int a1]) hC hml hS hW (KC_at hk hS F.2.2.2.2) KC_blind (metX8_roomIndexFault F hX k0 hcall) ml_X8_62 (gw_recv hC hW k0.1 (k0.2.1 (gfm s0) T B (μ a0)) rfl) ⟨rfl, rfl, (Nat.le_of_ble_eq_true rfl), (Nat.le_of_ble_eq_true rfl)⟩ rfl hl.1 rfl (Nat.le_of_ble_eq_true rfl) dX8_pairFault_2 ⟨(Nat.le_of_ble_eq_true rfl), (Nat.le_of_ble_eq_true rfl)⟩ (fun H locs hW hS => ?_)
  refine gw_gets hC (zF_0 F hk) hS fs_X8_53 dX8_pairFault_5 ?_
  obtain ⟨j3, hj5, h⟩ := jn1_o h
  have J4 : ∀ (y2 : Nat), j3 y2 = some r → ∀ (H : Heap) (locs : List Loc) (ls : Array Slot), gWC s0 D T B μ H → va_S (gA B X) s.heap H locs → lv_has ls 3 [] → W p l e rmX8_pairFault s m args below meth c H locs 0 0 Q (F0 m 22 ls [.ref (gfa s0 y2)]) := by
    clear h hW hS hl
    intro y2 h H locs ls hW hS hl
    replace h := (hj5 y2).symm.trans h
    cases h
    exact hend dX8_pairFault_22 hW hS (Nat.le_of_ble_eq_true rfl) (Nat.le_of_ble_eq_true rfl)
  refine gw_anF (tgt := 19) F hx hb dX8_pairFault_8 (by decide) (fun c6 => ?_) (fun c6 => ?_)
  · replace h := ite_f c6 h
    refine gw_gets hC (zF_1 F hk) hS fs_X8_59 dX8_pairFault_19 ?_
    exact J4 _ h _ _ _ hW hS (lv_sub hl [] rfl)
  · replace h := ite_t c6 h
    refine lv_aload_n hx hb dX8_pairFault_11 rfl (lv_at hl 0 rfl) ?_
    refine lv_iload_n hx hb dX8_pairFault_12 rfl (lv_at hl 2 rfl) ?_
    obtain ⟨r7, hcall, h⟩ := bd_out h
    refine g0_callV (As := [.int a2]) hC hml hS hW (KC_at hk hS F.2.2.2.2) KC_blind (metX8_roomIndexFault F hX k0 hcall) ml_X8_62 (gw_recv hC hW k0.1 (k0.2.1 (gfm s0) T B (μ a0)) rfl) ⟨rfl, rfl, (Nat.le_of_ble_eq_true rfl), (Nat.le_of_ble_eq_true rfl)⟩ rfl hl.1 rfl (Nat.le_of_ble_eq_true rfl) dX8_pairFault_13 ⟨(Nat.le_of_ble_eq_true rfl), (Nat.le_of_ble_eq_true rfl)⟩ (fun H locs hW hS => ?_)
    refine lv_goto (tgt := 22) hx hb dX8_pairFault_16 (by decide) ?_
    exact J4 _ h _ _ _ hW hS (lv_sub hl [] rfl)

theorem dX8_joins_0 : decode cX8_joins 0 = .ok (.aload_n 0, 1) := by decide +kernel
theorem dX8_joins_1 : decode cX8_joins 1 = .ok (.getfield 17, 3) := by decide +kernel
theorem dX8_joins_4 : decode cX8_joins 4 = .ok (.iload_n 1, 1) := by decide +kernel
theorem dX8_joins_5 : decode cX8_joins 5 = .ok (.aaload, 1) := by decide +kernel
theorem dX8_joins_6 : decode cX8_joins 6 = .ok (.iload_n 2, 1) := by decide +kernel
theorem dX8_joins_7 : decode cX8_joins 7 = .ok (.iaload, 1) := by decide +kernel
theorem dX8_joins_8 : decode cX8_joins 8 = .ok (.ifCond .le 7, 3) := by decide +kernel
theorem dX8_joins_11 : decode cX8_joins 11 = .ok (.iconst 1, 1) := by decide +kernel
theorem dX8_joins_12 : decode cX8_joins 12 = .ok (.goto 4, 3) := by decide +kernel
theorem dX8_joins_15 : decode cX8_joins 15 = .ok (.iconst 0, 1) := by decide +kernel
theorem dX8_joins_16 : decode cX8_joins 16 = .ok (.ireturn, 1) := by decide +kernel
abbrev rmX8_joins : Room := { frames := 2, cells := 0, slots := 0, locals := 60 }
set_option maxHeartbeats 4000000 in
set_option maxRecDepth 100000 in
theorem metX8_joins {l : Launch} {s0 : State} {b B : Nat} {D : va_G} {T : Nat → ClassId} (F : FX l s0 b D T B) {X : Nat → Prop} (hX : ∀ o, o < 560 → ¬ X (B + o)) {N : Nat} {μ : Mem} {a0 : Nat} {a1 : Int32} {a2 : Int32} {r : Bool} (k0 : IsSt a0) (h : fX8_joins N μ a0 a1 a2 = some r) : gMet l yX8_joins cX8_joins 3 (some .boolean) rmX8_joins [.ref (B + a0), .int a1, .int a2] (gWC s0 D T B μ) (KC s0 X) (some (.int (b2i r))) (gWC s0 D T B μ) (gA B X) 0 0 := by
  refine gZ_of RX8 (by decide +kernel) rfl (Nat.le_of_ble_eq_true rfl) ?_
  intro p e s m args below meth c ls Q hx hb hlocks hml hown hts hW hk hl hS hend
  have hC := FX_C F hk hx hb hown hts
  have hA := gA_all hX
  have hl : lv_has ls 3 [(0, .ref (B + a0)), (1, .int a1), (2, .int a2)] := hl
  unfold fX8_joins at h
  refine lv_aload_n hx hb dX8_joins_0 rfl (lv_at hl 0 rfl) ?_
  refine gw_get (v := .ref (B + (a0 + 2))) hC hW fl_X8_17 k0.1 (k0.2.1 (gfm s0) T B (μ a0)) rfl dX8_joins_1 ?_
  refine lv_iload_n hx hb dX8_joins_4 rfl (lv_at hl 1 rfl) ?_
  obtain ⟨q1, e2, hq3, hi4, h⟩ := ar_o h
  refine gq_aald hC hW k0.2.2.2.1.1 (k0.2.2.2.1.2.1 (gfm s0) T B (μ (a0 + 2))) (t0 := 3) rfl rfl e2 hi4 dX8_joins_5 ?_
  refine lv_iload_n hx hb dX8_joins_6 rfl (lv_at hl 2 rfl) ?_
  obtain ⟨v5, e6, hi7, h⟩ := ag_o h
  refine gq_iald hC hW (k0.2.2.2.1.2.2 q1 hq3).1 ((k0.2.2.2.1.2.2 q1 hq3).2 (gfm s0) T B (μ ((a0 + 2) + 1 + 1 * q1))) (t0 := 0) rfl e6 hi7 dX8_joins_7 ?_
  obtain ⟨j9, hj11, h⟩ := jn1_o h
  have J10 : ∀ (y8 : Bool), j9 y8 = some r → ∀ (H : Heap) (locs : List Loc) (ls : Array Slot), gWC s0 D T B μ H → va_S (gA B X) s.heap H locs → lv_has ls 3 [] → W p l e rmX8_joins s m args below meth c H locs 0 0 Q (F0 m 16 ls [.int (b2i y8)]) := by
    clear h hW hS hl
    intro y8 h H locs ls hW hS hl
    replace h := (hj11 y8).symm.trans h
    cases h
    exact hend dX8_joins_16 hW hS (Nat.le_of_ble_eq_true rfl) (Nat.le_of_ble_eq_true rfl)
  refine lv_if_le (tgt := 15) hx hb dX8_joins_8 (by decide) (fun c12 => ?_) (fun c12 => ?_)
  · replace h := ite_t c12 h
    refine lv_iconst (v := 0) hx hb dX8_joins_15 (by decide) ?_
    exact J10 _ h _ _ _ hW hS (lv_sub hl [] rfl)
  · replace h := ite_f c12 h
    refine lv_iconst (v := 1) hx hb dX8_joins_11 (by decide) ?_
    refine lv_goto (tgt := 16) hx hb dX8_joins_12 (by decide) ?_
    exact J10 _ h _ _ _ hW hS (lv_sub hl [] rfl)

theorem dX8_putRoom_0 : decode cX8_putRoom 0 = .ok (.aload_n 0, 1) := by decide +kernel
theorem dX8_putRoom_1 : decode cX8_putRoom 1 = .ok (.getfield 9, 3) := by decide +kernel
theorem dX8_putRoom_4 : decode cX8_putRoom 4 = .ok (.aload_n 0, 1) := by decide +kernel
theorem dX8_putRoom_5 : decode cX8_putRoom 5 = .ok (.getfield 30, 3) := by decide +kernel
theorem dX8_putRoom_8 : decode cX8_putRoom 8 = .ok (.iload_n 1, 1) := by decide +kernel
theorem dX8_putRoom_9 : decode cX8_putRoom 9 = .ok (.iastore, 1) := by decide +kernel
theorem dX8_putRoom_10 : decode cX8_putRoom 10 = .ok (.aload_n 0, 1) := by decide +kernel
theorem dX8_putRoom_11 : decode cX8_putRoom 11 = .ok (.dup, 1) := by decide +kernel
theorem dX8_putRoom_12 : decode cX8_putRoom 12 = .ok (.getfield 30, 3) := by decide +kernel
theorem dX8_putRoom_15 : decode cX8_putRoom 15 = .ok (.iconst 1, 1) := by decide +kernel
theorem dX8_putRoom_16 : decode cX8_putRoom 16 = .ok (.iadd, 1) := by decide +kernel
theorem dX8_putRoom_17 : decode cX8_putRoom 17 = .ok (.putfield 30, 3) := by decide +kernel
theorem dX8_putRoom_20 : decode cX8_putRoom 20 = .ok (.aload_n 0, 1) := by decide +kernel
theorem dX8_putRoom_21 : decode cX8_putRoom 21 = .ok (.getfield 30, 3) := by decide +kernel
theorem dX8_putRoom_24 : decode cX8_putRoom 24 = .ok (.iconst 1, 1) := by decide +kernel
theorem dX8_putRoom_25 : decode cX8_putRoom 25 = .ok (.isub, 1) := by decide +kernel
theorem dX8_putRoom_26 : decode cX8_putRoom 26 = .ok (.ireturn, 1) := by decide +kernel
abbrev rmX8_putRoom : Room := { frames := 2, cells := 0, slots := 0, locals := 60 }
set_option maxHeartbeats 4000000 in
set_option maxRecDepth 100000 in
theorem metX8_putRoom {l : Launch} {s0 : State} {b B : Nat} {D : va_G} {T : Nat → ClassId} (F : FX l s0 b D T B) {X : Nat → Prop} (hX : ∀ o, o < 560 → ¬ X (B + o)) {N : Nat} {μ : Mem} {a0 : Nat} {a1 : Int32} {r : Mem × Int32} (k0 : IsSt a0) (h : fX8_putRoom N μ a0 a1 = some r) : gMet l yX8_putRoom cX8_putRoom 2 (some .int) rmX8_putRoom [.ref (B + a0), .int a1] (gWC s0 D T B μ) (KC s0 X) (some (.int r.2)) (gWC s0 D T B r.1) (gA B X) 0 0 := by
  refine gI_of RX8 (by decide +kernel) rfl (Nat.le_of_ble_eq_true rfl) ?_
  intro p e s m args below meth c ls Q hx hb hlocks hml hown hts hW hk hl hS hend
  have hC := FX_C F hk hx hb hown hts
  have hA := gA_all hX
  have hl : lv_has ls 2 [(0, .ref (B + a0)), (1, .int a1)] := hl
  unfold fX8_putRoom at h
  refine lv_aload_n hx hb dX8_putRoom_0 rfl (lv_at hl 0 rfl) ?_
  refine gw_get (v := .ref (B + (a0 + 1))) hC hW fl_X8_9 k0.1 (k0.2.1 (gfm s0) T B (μ a0)) rfl dX8_putRoom_1 ?_
  refine lv_aload_n hx hb dX8_putRoom_4 rfl (lv_at hl 0 rfl) ?_
  refine gw_get (v := .int (μ a0 0)) hC hW fl_X8_30.1 k0.1 (k0.2.1 (gfm s0) T B (μ a0)) rfl dX8_putRoom_5 ?_
  refine lv_iload_n hx hb dX8_putRoom_8 rfl (lv_at hl 1 rfl) ?_
  obtain ⟨μ1, e2, hi3, h⟩ := aw_o h
  refine gq_iast hC hS hW hA k0.2.2.1.1 (k0.2.2.1.2 (gfm s0) T B) (t0 := 0) rfl e2 hi3 dX8_putRoom_9 (fun H locs hW hS => ?_)
  refine lv_aload_n hx hb dX8_putRoom_10 rfl (lv_at hl 0 rfl) ?_
  refine lv_dup hx hb dX8_putRoom_11 rfl ?_
  refine gw_get (v := .int (μ1 a0 0)) hC hW fl_X8_30.1 k0.1 (k0.2.1 (gfm s0) T B (μ1 a0)) rfl dX8_putRoom_12 ?_
  refine lv_iconst (v := 1) hx hb dX8_putRoom_15 (by decide) ?_
  refine lv_iadd hx hb dX8_putRoom_16 ?_
  obtain ⟨μ4, e5, h⟩ := lt_out h
  refine gq_put hC hS hW hA fl_X8_30 k0.1 (k0.2.1 (gfm s0) T B) (Nat.le_of_ble_eq_true rfl) rfl rfl rfl e5 dX8_putRoom_17 (fun H locs hW hS => ?_)
  refine lv_aload_n hx hb dX8_putRoom_20 rfl (lv_at hl 0 rfl) ?_
  refine gw_get (v := .int (μ4 a0 0)) hC hW fl_X8_30.1 k0.1 (k0.2.1 (gfm s0) T B (μ4 a0)) rfl dX8_putRoom_21 ?_
  refine lv_iconst (v := 1) hx hb dX8_putRoom_24 (by decide) ?_
  refine lv_isub hx hb dX8_putRoom_25 ?_
  cases h
  exact hend dX8_putRoom_26 hW hS (Nat.le_of_ble_eq_true rfl) (Nat.le_of_ble_eq_true rfl)

theorem dX8_countLegs_0 : decode cX8_countLegs 0 = .ok (.iconst 0, 1) := by decide +kernel
theorem dX8_countLegs_1 : decode cX8_countLegs 1 = .ok (.istore_n 1, 1) := by decide +kernel
theorem dX8_countLegs_2 : decode cX8_countLegs 2 = .ok (.iconst 0, 1) := by decide +kernel
theorem dX8_countLegs_3 : decode cX8_countLegs 3 = .ok (.istore_n 2, 1) := by decide +kernel
theorem dX8_countLegs_4 : decode cX8_countLegs 4 = .ok (.iload_n 2, 1) := by decide +kernel
theorem dX8_countLegs_5 : decode cX8_countLegs 5 = .ok (.aload_n 0, 1) := by decide +kernel
theorem dX8_countLegs_6 : decode cX8_countLegs 6 = .ok (.getfield 30, 3) := by decide +kernel
theorem dX8_countLegs_9 : decode cX8_countLegs 9 = .ok (.if_icmp .ge 34, 3) := by decide +kernel
theorem dX8_countLegs_12 : decode cX8_countLegs 12 = .ok (.iconst 0, 1) := by decide +kernel
theorem dX8_countLegs_13 : decode cX8_countLegs 13 = .ok (.istore_n 3, 1) := by decide +kernel
theorem dX8_countLegs_14 : decode cX8_countLegs 14 = .ok (.iload_n 3, 1) := by decide +kernel
theorem dX8_countLegs_15 : decode cX8_countLegs 15 = .ok (.iload_n 2, 1) := by decide +kernel
theorem dX8_countLegs_16 : decode cX8_countLegs 16 = .ok (.if_icmp .ge 21, 3) := by decide +kernel
theorem dX8_countLegs_19 : decode cX8_countLegs 19 = .ok (.aload_n 0, 1) := by decide +kernel
theorem dX8_countLegs_20 : decode cX8_countLegs 20 = .ok (.iload_n 2, 1) := by decide +kernel
theorem dX8_countLegs_21 : decode cX8_countLegs 21 = .ok (.iload_n 3, 1) := by decide +kernel
theorem dX8_countLegs_22 : decode cX8_countLegs 22 = .ok (.invokevirtual 70, 3) := by decide +kernel
theorem dX8_countLegs_25 : decode cX8_countLegs 25 = .ok (.ifCond .eq 6, 3) := by decide +kernel
theorem dX8_countLegs_28 : decode cX8_countLegs 28 = .ok (.iinc 1 1, 3) := by decide +kernel
theorem dX8_countLegs_31 : decode cX8_countLegs 31 = .ok (.iinc 3 1, 3) := by decide +kernel
theorem dX8_countLegs_34 : decode cX8_countLegs 34 = .ok (.goto (-20), 3) := by decide +kernel
theorem dX8_countLegs_37 : decode cX8_countLegs 37 = .ok (.iinc 2 1, 3) := by decide +kernel
theorem dX8_countLegs_40 : decode cX8_countLegs 40 = .ok (.goto (-36), 3) := by decide +kernel
theorem dX8_countLegs_43 : decode cX8_countLegs 43 = .ok (.iload_n 1, 1) := by decide +kernel
theorem dX8_countLegs_44 : decode cX8_countLegs 44 = .ok (.ireturn, 1) := by decide +kernel
abbrev rmX8_countLegs : Room := { frames := 3, cells := 0, slots := 0, locals := 82 }
set_option maxHeartbeats 4000000 in
set_option maxRecDepth 100000 in
theorem metX8_countLegs {l : Launch} {s0 : State} {b B : Nat} {D : va_G} {T : Nat → ClassId} (F : FX l s0 b D T B) {X : Nat → Prop} (hX : ∀ o, o < 560 → ¬ X (B + o)) {N : Nat} {μ : Mem} {a0 : Nat} {r : Int32} (k0 : IsSt a0) (h : fX8_countLegs N μ a0 = some r) : gMet l yX8_countLegs cX8_countLegs 4 (some .int) rmX8_countLegs [.ref (B + a0)] (gWC s0 D T B μ) (KC s0 X) (some (.int r)) (gWC s0 D T B μ) (gA B X) 0 0 := by
  refine gI_of RX8 (by decide +kernel) rfl (Nat.le_of_ble_eq_true rfl) ?_
  intro p e s m args below meth c ls Q hx hb hlocks hml hown hts hW hk hl hS hend
  have hC := FX_C F hk hx hb hown hts
  have hA := gA_all hX
  have hl : lv_has ls 4 [(0, .ref (B + a0))] := hl
  unfold fX8_countLegs at h
  refine lv_iconst (v := 0) hx hb dX8_countLegs_0 (by decide) ?_
  refine lv_istore_n (lv' := [(1, .int 0), (0, .ref (B + a0))]) hx hb dX8_countLegs_1 rfl hl (by decide) rfl (fun ls hl => ?_)
  refine lv_iconst (v := 0) hx hb dX8_countLegs_2 (by decide) ?_
  refine lv_istore_n (lv' := [(2, .int 0), (1, .int 0), (0, .ref (B + a0))]) hx hb dX8_countLegs_3 rfl hl (by decide) rfl (fun ls hl => ?_)
  refine fix2_ind (fun (x1 : Int32) (x2 : Int32) => ∀ (H : Heap) (locs : List Loc) (ls : Array Slot), gWC s0 D T B μ H → va_S (gA B X) s.heap H locs → lv_has ls 4 [(0, .ref (B + a0)), (1, .int x1), (2, .int x2)] → W p l e rmX8_countLegs s m args below meth c H locs 0 0 Q (F0 m 4 ls [])) ?_ N _ _ h _ _ _ hW hS (lv_sub hl [2, 1, 0] rfl)
  clear h hW hS hl
  intro self3 IH4 x1 x2 h H locs ls hW hS hl
  refine lv_iload_n hx hb dX8_countLegs_4 rfl (lv_at hl 2 rfl) ?_
  refine lv_aload_n hx hb dX8_countLegs_5 rfl (lv_at hl 0 rfl) ?_
  refine gw_get (v := .int (μ a0 0)) hC hW fl_X8_30.1 k0.1 (k0.2.1 (gfm s0) T B (μ a0)) rfl dX8_countLegs_6 ?_
  refine lv_icmp_ge (tgt := 43) hx hb dX8_countLegs_9 (by decide) (fun c5 => ?_) (fun c5 => ?_)
  · replace h := ite_t c5 h
    refine lv_iload_n hx hb dX8_countLegs_43 rfl (lv_at hl 1 rfl) ?_
    cases h
    exact hend dX8_countLegs_44 hW hS (Nat.le_of_ble_eq_true rfl) (Nat.le_of_ble_eq_true rfl)
  · replace h := ite_f c5 h
    refine lv_iconst (v := 0) hx hb dX8_countLegs_12 (by decide) ?_
    refine lv_istore_n (lv' := [(3, .int 0), (0, .ref (B + a0)), (1, .int x1), (2, .int x2)]) hx hb dX8_countLegs_13 rfl hl (by decide) rfl (fun ls hl => ?_)
    refine fix2_ind (fun (x6 : Int32) (x7 : Int32) => ∀ (H : Heap) (locs : List Loc) (ls : Array Slot), gWC s0 D T B μ H → va_S (gA B X) s.heap H locs → lv_has ls 4 [(0, .ref (B + a0)), (1, .int x6), (2, .int x2), (3, .int x7)] → W p l e rmX8_countLegs s m args below meth c H locs 0 0 Q (F0 m 14 ls [])) ?_ N _ _ h _ _ _ hW hS (lv_sub hl [1, 2, 3, 0] rfl)
    clear h hW hS hl
    intro self8 IH9 x6 x7 h H locs ls hW hS hl
    refine lv_iload_n hx hb dX8_countLegs_14 rfl (lv_at hl 3 rfl) ?_
    refine lv_iload_n hx hb dX8_countLegs_15 rfl (lv_at hl 2 rfl) ?_
    refine lv_icmp_ge (tgt := 37) hx hb dX8_countLegs_16 (by decide) (fun c10 => ?_) (fun c10 => ?_)
    · replace h := ite_t c10 h
      obtain ⟨v11, e12, h⟩ := lt_out h
      refine lv_iinc (v := v11) (lv' := [(2, .int v11), (0, .ref (B + a0)), (1, .int x6), (3, .int x7)]) hx hb dX8_countLegs_37 hl (k := 2) rfl (by rw [e12]; rfl) (by decide) rfl (fun ls hl => ?_)
      refine lv_goto (tgt := 4) hx hb dX8_countLegs_40 (by decide) ?_
      exact IH4 _ _ h _ _ _ hW hS (lv_sub hl [1, 2, 0] rfl)
    · replace h := ite_f c10 h
      refine lv_aload_n hx hb dX8_countLegs_19 rfl (lv_at hl 0 rfl) ?_
      refine lv_iload_n hx hb dX8_countLegs_20 rfl (lv_at hl 2 rfl) ?_
      refine lv_iload_n hx hb dX8_countLegs_21 rfl (lv_at hl 3 rfl) ?_
      obtain ⟨r13, hcall, h⟩ := bd_out h
      refine g0_callV (As := [.int x2, .int x7]) hC hml hS hW (KC_at hk hS F.2.2.2.2) KC_blind (metX8_joins F hX k0 hcall) ml_X8_70 (gw_recv hC hW k0.1 (k0.2.1 (gfm s0) T B (μ a0)) rfl) ⟨rfl, rfl, (Nat.le_of_ble_eq_true rfl), (Nat.le_of_ble_eq_true rfl)⟩ rfl hl.1 rfl (Nat.le_of_ble_eq_true rfl) dX8_countLegs_22 ⟨(Nat.le_of_ble_eq_true rfl), (Nat.le_of_ble_eq_true rfl)⟩ (fun H locs hW hS => ?_)
      obtain ⟨j15, hj17, h⟩ := jn1_o h
      have J16 : ∀ (y14 : Int32), j15 y14 = some r → ∀ (H : Heap) (locs : List Loc) (ls : Array Slot), gWC s0 D T B μ H → va_S (gA B X) s.heap H locs → lv_has ls 4 [(0, .ref (B + a0)), (1, .int y14), (2, .int x2), (3, .int x7)] → W p l e rmX8_countLegs s m args below meth c H locs 0 0 Q (F0 m 31 ls []) := by
        clear h hW hS hl
        intro y14 h H locs ls hW hS hl
        replace h := (hj17 y14).symm.trans h
        obtain ⟨v18, e19, h⟩ := lt_out h
        refine lv_iinc (v := v18) (lv' := [(3, .int v18), (0, .ref (B + a0)), (1, .int y14), (2, .int x2)]) hx hb dX8_countLegs_31 hl (k := 3) rfl (by rw [e19]; rfl) (by decide) rfl (fun ls hl => ?_)
        refine lv_goto (tgt := 14) hx hb dX8_countLegs_34 (by decide) ?_
        exact IH9 _ _ h _ _ _ hW hS (lv_sub hl [1, 2, 3, 0] rfl)
      refine gw_if_eqZ (tgt := 31) hx hb dX8_countLegs_25 (by decide) (fun c20 => ?_) (fun c20 => ?_)
      · replace h := cond_f c20 h
        exact J16 _ h _ _ _ hW hS (lv_sub hl [0, 1, 2, 3] rfl)
      · replace h := cond_t c20 h
        obtain ⟨v21, e22, h⟩ := lt_out h
        refine lv_iinc (v := v21) (lv' := [(1, .int v21), (0, .ref (B + a0)), (2, .int x2), (3, .int x7)]) hx hb dX8_countLegs_28 hl (k := 1) rfl (by rw [e22]; rfl) (by decide) rfl (fun ls hl => ?_)
        exact J16 _ h _ _ _ hW hS (lv_sub hl [1, 0, 2, 3] rfl)

theorem dX8_putLeg_0 : decode cX8_putLeg 0 = .ok (.aload_n 0, 1) := by decide +kernel
theorem dX8_putLeg_1 : decode cX8_putLeg 1 = .ok (.getfield 17, 3) := by decide +kernel
theorem dX8_putLeg_4 : decode cX8_putLeg 4 = .ok (.iload_n 1, 1) := by decide +kernel
theorem dX8_putLeg_5 : decode cX8_putLeg 5 = .ok (.aaload, 1) := by decide +kernel
theorem dX8_putLeg_6 : decode cX8_putLeg 6 = .ok (.iload_n 2, 1) := by decide +kernel
theorem dX8_putLeg_7 : decode cX8_putLeg 7 = .ok (.iload_n 3, 1) := by decide +kernel
theorem dX8_putLeg_8 : decode cX8_putLeg 8 = .ok (.iastore, 1) := by decide +kernel
theorem dX8_putLeg_9 : decode cX8_putLeg 9 = .ok (.aload_n 0, 1) := by decide +kernel
theorem dX8_putLeg_10 : decode cX8_putLeg 10 = .ok (.getfield 17, 3) := by decide +kernel
theorem dX8_putLeg_13 : decode cX8_putLeg 13 = .ok (.iload_n 2, 1) := by decide +kernel
theorem dX8_putLeg_14 : decode cX8_putLeg 14 = .ok (.aaload, 1) := by decide +kernel
theorem dX8_putLeg_15 : decode cX8_putLeg 15 = .ok (.iload_n 1, 1) := by decide +kernel
theorem dX8_putLeg_16 : decode cX8_putLeg 16 = .ok (.iload_n 3, 1) := by decide +kernel
theorem dX8_putLeg_17 : decode cX8_putLeg 17 = .ok (.iastore, 1) := by decide +kernel
theorem dX8_putLeg_18 : decode cX8_putLeg 18 = .ok (.aload_n 0, 1) := by decide +kernel
theorem dX8_putLeg_19 : decode cX8_putLeg 19 = .ok (.getfield 20, 3) := by decide +kernel
theorem dX8_putLeg_22 : decode cX8_putLeg 22 = .ok (.iload_n 1, 1) := by decide +kernel
theorem dX8_putLeg_23 : decode cX8_putLeg 23 = .ok (.aaload, 1) := by decide +kernel
theorem dX8_putLeg_24 : decode cX8_putLeg 24 = .ok (.iload_n 2, 1) := by decide +kernel
theorem dX8_putLeg_25 : decode cX8_putLeg 25 = .ok (.iload 4, 2) := by decide +kernel
theorem dX8_putLeg_27 : decode cX8_putLeg 27 = .ok (.iastore, 1) := by decide +kernel
theorem dX8_putLeg_28 : decode cX8_putLeg 28 = .ok (.aload_n 0, 1) := by decide +kernel
theorem dX8_putLeg_29 : decode cX8_putLeg 29 = .ok (.getfield 20, 3) := by decide +kernel
theorem dX8_putLeg_32 : decode cX8_putLeg 32 = .ok (.iload_n 2, 1) := by decide +kernel
theorem dX8_putLeg_33 : decode cX8_putLeg 33 = .ok (.aaload, 1) := by decide +kernel
theorem dX8_putLeg_34 : decode cX8_putLeg 34 = .ok (.iload_n 1, 1) := by decide +kernel
theorem dX8_putLeg_35 : decode cX8_putLeg 35 = .ok (.iload 4, 2) := by decide +kernel
theorem dX8_putLeg_37 : decode cX8_putLeg 37 = .ok (.iastore, 1) := by decide +kernel
theorem dX8_putLeg_38 : decode cX8_putLeg 38 = .ok (.aload_n 0, 1) := by decide +kernel
theorem dX8_putLeg_39 : decode cX8_putLeg 39 = .ok (.invokevirtual 66, 3) := by decide +kernel
theorem dX8_putLeg_42 : decode cX8_putLeg 42 = .ok (.ireturn, 1) := by decide +kernel
abbrev rmX8_putLeg : Room := { frames := 4, cells := 0, slots := 0, locals := 105 }
set_option maxHeartbeats 4000000 in
set_option maxRecDepth 100000 in
theorem metX8_putLeg {l : Launch} {s0 : State} {b B : Nat} {D : va_G} {T : Nat → ClassId} (F : FX l s0 b D T B) {X : Nat → Prop} (hX : ∀ o, o < 560 → ¬ X (B + o)) {N : Nat} {μ : Mem} {a0 : Nat} {a1 : Int32} {a2 : Int32} {a3 : Int32} {a4 : Int32} {r : Mem × Int32} (k0 : IsSt a0) (h : fX8_putLeg N μ a0 a1 a2 a3 a4 = some r) : gMet l yX8_putLeg cX8_putLeg 5 (some .int) rmX8_putLeg [.ref (B + a0), .int a1, .int a2, .int a3, .int a4] (gWC s0 D T B μ) (KC s0 X) (some (.int r.2)) (gWC s0 D T B r.1) (gA B X) 0 0 := by
  refine gI_of RX8 (by decide +kernel) rfl (Nat.le_of_ble_eq_true rfl) ?_
  intro p e s m args below meth c ls Q hx hb hlocks hml hown hts hW hk hl hS hend
  have hC := FX_C F hk hx hb hown hts
  have hA := gA_all hX
  have hl : lv_has ls 5 [(0, .ref (B + a0)), (1, .int a1), (2, .int a2), (3, .int a3), (4, .int a4)] := hl
  unfold fX8_putLeg at h
  refine lv_aload_n hx hb dX8_putLeg_0 rfl (lv_at hl 0 rfl) ?_
  refine gw_get (v := .ref (B + (a0 + 2))) hC hW fl_X8_17 k0.1 (k0.2.1 (gfm s0) T B (μ a0)) rfl dX8_putLeg_1 ?_
  refine lv_iload_n hx hb dX8_putLeg_4 rfl (lv_at hl 1 rfl) ?_
  obtain ⟨q1, e2, hq3, hi4, h⟩ := ar_o h
  refine gq_aald hC hW k0.2.2.2.1.1 (k0.2.2.2.1.2.1 (gfm s0) T B (μ (a0 + 2))) (t0 := 3) rfl rfl e2 hi4 dX8_putLeg_5 ?_
  refine lv_iload_n hx hb dX8_putLeg_6 rfl (lv_at hl 2 rfl) ?_
  refine lv_iload_n hx hb dX8_putLeg_7 rfl (lv_at hl 3 rfl) ?_
  obtain ⟨μ5, e6, hi7, h⟩ := aw_o h
  refine gq_iast hC hS hW hA (k0.2.2.2.1.2.2 q1 hq3).1 ((k0.2.2.2.1.2.2 q1 hq3).2 (gfm s0) T B) (t0 := 0) rfl e6 hi7 dX8_putLeg_8 (fun H locs hW hS => ?_)
  refine lv_aload_n hx hb dX8_putLeg_9 rfl (lv_at hl 0 rfl) ?_
  refine gw_get (v := .ref (B + (a0 + 2))) hC hW fl_X8_17 k0.1 (k0.2.1 (gfm s0) T B (μ5 a0)) rfl dX8_putLeg_10 ?_
  refine lv_iload_n hx hb dX8_putLeg_13 rfl (lv_at hl 2 rfl) ?_
  obtain ⟨q8, e9, hq10, hi11, h⟩ := ar_o h
  refine gq_aald hC hW k0.2.2.2.1.1 (k0.2.2.2.1.2.1 (gfm s0) T B (μ5 (a0 + 2))) (t0 := 3) rfl rfl e9 hi11 dX8_putLeg_14 ?_
  refine lv_iload_n hx hb dX8_putLeg_15 rfl (lv_at hl 1 rfl) ?_
  refine lv_iload_n hx hb dX8_putLeg_16 rfl (lv_at hl 3 rfl) ?_
  obtain ⟨μ12, e13, hi14, h⟩ := aw_o h
  refine gq_iast hC hS hW hA (k0.2.2.2.1.2.2 q8 hq10).1 ((k0.2.2.2.1.2.2 q8 hq10).2 (gfm s0) T B) (t0 := 0) rfl e13 hi14 dX8_putLeg_17 (fun H locs hW hS => ?_)
  refine lv_aload_n hx hb dX8_putLeg_18 rfl (lv_at hl 0 rfl) ?_
  refine gw_get (v := .ref (B + (a0 + 9))) hC hW fl_X8_20 k0.1 (k0.2.1 (gfm s0) T B (μ12 a0)) rfl dX8_putLeg_19 ?_
  refine lv_iload_n hx hb dX8_putLeg_22 rfl (lv_at hl 1 rfl) ?_
  obtain ⟨q15, e16, hq17, hi18, h⟩ := ar_o h
  refine gq_aald hC hW k0.2.2.2.2.1.1 (k0.2.2.2.2.1.2.1 (gfm s0) T B (μ12 (a0 + 9))) (t0 := 3) rfl rfl e16 hi18 dX8_putLeg_23 ?_
  refine lv_iload_n hx hb dX8_putLeg_24 rfl (lv_at hl 2 rfl) ?_
  refine lv_iload hx hb dX8_putLeg_25 (lv_at hl 4 rfl) ?_
  obtain ⟨μ19, e20, hi21, h⟩ := aw_o h
  refine gq_iast hC hS hW hA (k0.2.2.2.2.1.2.2 q15 hq17).1 ((k0.2.2.2.2.1.2.2 q15 hq17).2 (gfm s0) T B) (t0 := 0) rfl e20 hi21 dX8_putLeg_27 (fun H locs hW hS => ?_)
  refine lv_aload_n hx hb dX8_putLeg_28 rfl (lv_at hl 0 rfl) ?_
  refine gw_get (v := .ref (B + (a0 + 9))) hC hW fl_X8_20 k0.1 (k0.2.1 (gfm s0) T B (μ19 a0)) rfl dX8_putLeg_29 ?_
  refine lv_iload_n hx hb dX8_putLeg_32 rfl (lv_at hl 2 rfl) ?_
  obtain ⟨q22, e23, hq24, hi25, h⟩ := ar_o h
  refine gq_aald hC hW k0.2.2.2.2.1.1 (k0.2.2.2.2.1.2.1 (gfm s0) T B (μ19 (a0 + 9))) (t0 := 3) rfl rfl e23 hi25 dX8_putLeg_33 ?_
  refine lv_iload_n hx hb dX8_putLeg_34 rfl (lv_at hl 1 rfl) ?_
  refine lv_iload hx hb dX8_putLeg_35 (lv_at hl 4 rfl) ?_
  obtain ⟨μ26, e27, hi28, h⟩ := aw_o h
  refine gq_iast hC hS hW hA (k0.2.2.2.2.1.2.2 q22 hq24).1 ((k0.2.2.2.2.1.2.2 q22 hq24).2 (gfm s0) T B) (t0 := 0) rfl e27 hi28 dX8_putLeg_37 (fun H locs hW hS => ?_)
  refine lv_aload_n hx hb dX8_putLeg_38 rfl (lv_at hl 0 rfl) ?_
  obtain ⟨r29, hcall, h⟩ := bd_out h
  refine g0_callV (As := []) hC hml hS hW (KC_at hk hS F.2.2.2.2) KC_blind (metX8_countLegs F hX k0 hcall) ml_X8_66 (gw_recv hC hW k0.1 (k0.2.1 (gfm s0) T B (μ26 a0)) rfl) ⟨rfl, rfl, (Nat.le_of_ble_eq_true rfl), (Nat.le_of_ble_eq_true rfl)⟩ rfl hl.1 rfl (Nat.le_of_ble_eq_true rfl) dX8_putLeg_39 ⟨(Nat.le_of_ble_eq_true rfl), (Nat.le_of_ble_eq_true rfl)⟩ (fun H locs hW hS => ?_)
  cases h
  exact hend dX8_putLeg_42 hW hS (Nat.le_of_ble_eq_true rfl) (Nat.le_of_ble_eq_true rfl)

theorem dX8_putExhibit_0 : decode cX8_putExhibit 0 = .ok (.aload_n 0, 1) := by decide +kernel
theorem dX8_putExhibit_1 : decode cX8_putExhibit 1 = .ok (.getfield 25, 3) := by decide +kernel
theorem dX8_putExhibit_4 : decode cX8_putExhibit 4 = .ok (.aload_n 0, 1) := by decide +kernel
theorem dX8_putExhibit_5 : decode cX8_putExhibit 5 = .ok (.getfield 40, 3) := by decide +kernel
theorem dX8_putExhibit_8 : decode cX8_putExhibit 8 = .ok (.aaload, 1) := by decide +kernel
theorem dX8_putExhibit_9 : decode cX8_putExhibit 9 = .ok (.astore_n 3, 1) := by decide +kernel
theorem dX8_putExhibit_10 : decode cX8_putExhibit 10 = .ok (.aload_n 3, 1) := by decide +kernel
theorem dX8_putExhibit_11 : decode cX8_putExhibit 11 = .ok (.iload_n 1, 1) := by decide +kernel
theorem dX8_putExhibit_12 : decode cX8_putExhibit 12 = .ok (.putfield 74, 3) := by decide +kernel
theorem dX8_putExhibit_15 : decode cX8_putExhibit 15 = .ok (.aload_n 3, 1) := by decide +kernel
theorem dX8_putExhibit_16 : decode cX8_putExhibit 16 = .ok (.iload_n 2, 1) := by decide +kernel
theorem dX8_putExhibit_17 : decode cX8_putExhibit 17 = .ok (.putfield 77, 3) := by decide +kernel
theorem dX8_putExhibit_20 : decode cX8_putExhibit 20 = .ok (.aload_n 0, 1) := by decide +kernel
theorem dX8_putExhibit_21 : decode cX8_putExhibit 21 = .ok (.dup, 1) := by decide +kernel
theorem dX8_putExhibit_22 : decode cX8_putExhibit 22 = .ok (.getfield 40, 3) := by decide +kernel
theorem dX8_putExhibit_25 : decode cX8_putExhibit 25 = .ok (.iconst 1, 1) := by decide +kernel
theorem dX8_putExhibit_26 : decode cX8_putExhibit 26 = .ok (.iadd, 1) := by decide +kernel
theorem dX8_putExhibit_27 : decode cX8_putExhibit 27 = .ok (.putfield 40, 3) := by decide +kernel
theorem dX8_putExhibit_30 : decode cX8_putExhibit 30 = .ok (.aload_n 0, 1) := by decide +kernel
theorem dX8_putExhibit_31 : decode cX8_putExhibit 31 = .ok (.getfield 40, 3) := by decide +kernel
theorem dX8_putExhibit_34 : decode cX8_putExhibit 34 = .ok (.iconst 1, 1) := by decide +kernel
theorem dX8_putExhibit_35 : decode cX8_putExhibit 35 = .ok (.isub, 1) := by decide +kernel
theorem dX8_putExhibit_36 : decode cX8_putExhibit 36 = .ok (.ireturn, 1) := by decide +kernel
abbrev rmX8_putExhibit : Room := { frames := 2, cells := 0, slots := 0, locals := 60 }
set_option maxHeartbeats 4000000 in
set_option maxRecDepth 100000 in
theorem metX8_putExhibit {l : Launch} {s0 : State} {b B : Nat} {D : va_G} {T : Nat → ClassId} (F : FX l s0 b D T B) {X : Nat → Prop} (hX : ∀ o, o < 560 → ¬ X (B + o)) {N : Nat} {μ : Mem} {a0 : Nat} {a1 : Int32} {a2 : Int32} {r : Mem × Int32} (k0 : IsSt a0) (h : fX8_putExhibit N μ a0 a1 a2 = some r) : gMet l yX8_putExhibit cX8_putExhibit 4 (some .int) rmX8_putExhibit [.ref (B + a0), .int a1, .int a2] (gWC s0 D T B μ) (KC s0 X) (some (.int r.2)) (gWC s0 D T B r.1) (gA B X) 0 0 := by
  refine gI_of RX8 (by decide +kernel) rfl (Nat.le_of_ble_eq_true rfl) ?_
  intro p e s m args below meth c ls Q hx hb hlocks hml hown hts hW hk hl hS hend
  have hC := FX_C F hk hx hb hown hts
  have hA := gA_all hX
  have hl : lv_has ls 4 [(0, .ref (B + a0)), (1, .int a1), (2, .int a2)] := hl
  unfold fX8_putExhibit at h
  refine lv_aload_n hx hb dX8_putExhibit_0 rfl (lv_at hl 0 rfl) ?_
  refine gw_get (v := .ref (B + (a0 + 16))) hC hW fl_X8_25 k0.1 (k0.2.1 (gfm s0) T B (μ a0)) rfl dX8_putExhibit_1 ?_
  refine lv_aload_n hx hb dX8_putExhibit_4 rfl (lv_at hl 0 rfl) ?_
  refine gw_get (v := .int (μ a0 4)) hC hW fl_X8_40.1 k0.1 (k0.2.1 (gfm s0) T B (μ a0)) rfl dX8_putExhibit_5 ?_
  obtain ⟨q1, e2, hq3, hi4, h⟩ := ar_o h
  refine gq_aald hC hW k0.2.2.2.2.2.1 (k0.2.2.2.2.2.2.1 (gfm s0) T B (μ (a0 + 16))) (t0 := 5) rfl rfl e2 hi4 dX8_putExhibit_8 ?_
  refine lv_astore_n (lv' := [(3, .ref (B + ((a0 + 16) + 1 + 6 * q1))), (0, .ref (B + a0)), (1, .int a1), (2, .int a2)]) hx hb dX8_putExhibit_9 rfl hl (by decide) rfl (fun ls hl => ?_)
  refine lv_aload_n hx hb dX8_putExhibit_10 rfl (lv_at hl 0 rfl) ?_
  refine lv_iload_n hx hb dX8_putExhibit_11 rfl (lv_at hl 2 rfl) ?_
  obtain ⟨μ5, e6, h⟩ := lt_out h
  refine gq_put hC hS hW hA fl_X8_74 (k0.2.2.2.2.2.2.2 q1 hq3).1 ((k0.2.2.2.2.2.2.2 q1 hq3).2.1 (gfm s0) T B) (Nat.le_of_ble_eq_true rfl) rfl rfl rfl e6 dX8_putExhibit_12 (fun H locs hW hS => ?_)
  refine lv_aload_n hx hb dX8_putExhibit_15 rfl (lv_at hl 0 rfl) ?_
  refine lv_iload_n hx hb dX8_putExhibit_16 rfl (lv_at hl 3 rfl) ?_
  obtain ⟨μ7, e8, h⟩ := lt_out h
  refine gq_put hC hS hW hA fl_X8_77 (k0.2.2.2.2.2.2.2 q1 hq3).1 ((k0.2.2.2.2.2.2.2 q1 hq3).2.1 (gfm s0) T B) (Nat.le_of_ble_eq_true rfl) rfl rfl rfl e8 dX8_putExhibit_17 (fun H locs hW hS => ?_)
  refine lv_aload_n hx hb dX8_putExhibit_20 rfl (lv_at hl 1 rfl) ?_
  refine lv_dup hx hb dX8_putExhibit_21 rfl ?_
  refine gw_get (v := .int (μ7 a0 4)) hC hW fl_X8_40.1 k0.1 (k0.2.1 (gfm s0) T B (μ7 a0)) rfl dX8_putExhibit_22 ?_
  refine lv_iconst (v := 1) hx hb dX8_putExhibit_25 (by decide) ?_
  refine lv_iadd hx hb dX8_putExhibit_26 ?_
  obtain ⟨μ9, e10, h⟩ := lt_out h
  refine gq_put hC hS hW hA fl_X8_40 k0.1 (k0.2.1 (gfm s0) T B) (Nat.le_of_ble_eq_true rfl) rfl rfl rfl e10 dX8_putExhibit_27 (fun H locs hW hS => ?_)
  refine lv_aload_n hx hb dX8_putExhibit_30 rfl (lv_at hl 1 rfl) ?_
  refine gw_get (v := .int (μ9 a0 4)) hC hW fl_X8_40.1 k0.1 (k0.2.1 (gfm s0) T B (μ9 a0)) rfl dX8_putExhibit_31 ?_
  refine lv_iconst (v := 1) hx hb dX8_putExhibit_34 (by decide) ?_
  refine lv_isub hx hb dX8_putExhibit_35 ?_
  cases h
  exact hend dX8_putExhibit_36 hW hS (Nat.le_of_ble_eq_true rfl) (Nat.le_of_ble_eq_true rfl)

theorem dX10_passedBy_0 : decode cX10_passedBy 0 = .ok (.iconst 0, 1) := by decide +kernel
theorem dX10_passedBy_1 : decode cX10_passedBy 1 = .ok (.iload_n 0, 1) := by decide +kernel
theorem dX10_passedBy_2 : decode cX10_passedBy 2 = .ok (.iload_n 1, 1) := by decide +kernel
theorem dX10_passedBy_3 : decode cX10_passedBy 3 = .ok (.isub, 1) := by decide +kernel
theorem dX10_passedBy_4 : decode cX10_passedBy 4 = .ok (.invokestatic 444, 3) := by decide +kernel
theorem dX10_passedBy_7 : decode cX10_passedBy 7 = .ok (.ireturn, 1) := by decide +kernel
abbrev rmX10_passedBy : Room := { frames := 2, cells := 0, slots := 0, locals := 60 }
set_option maxHeartbeats 4000000 in
set_option maxRecDepth 100000 in
theorem metX10_passedBy {l : Launch} {s0 : State} {b B : Nat} {D : va_G} {T : Nat → ClassId} (F : FX l s0 b D T B) {X : Nat → Prop} (hX : ∀ o, o < 560 → ¬ X (B + o)) {N : Nat} {μ : Mem} {a0 : Int32} {a1 : Int32} {r : Int32}  (h : fX10_passedBy N μ a0 a1 = some r) : gMet l yX10_passedBy cX10_passedBy 2 (some .int) rmX10_passedBy [.int a0, .int a1] (gWC s0 D T B μ) (KC s0 X) (some (.int r)) (gWC s0 D T B μ) (gA B X) 0 0 := by
  refine gI_of RX10 (by decide +kernel) rfl (Nat.le_of_ble_eq_true rfl) ?_
  intro p e s m args below meth c ls Q hx hb hlocks hml hown hts hW hk hl hS hend
  have hC := FX_C F hk hx hb hown hts
  have hA := gA_all hX
  have hl : lv_has ls 2 [(0, .int a0), (1, .int a1)] := hl
  unfold fX10_passedBy at h
  refine lv_iconst (v := 0) hx hb dX10_passedBy_0 (by decide) ?_
  refine lv_iload_n hx hb dX10_passedBy_1 rfl (lv_at hl 0 rfl) ?_
  refine lv_iload_n hx hb dX10_passedBy_2 rfl (lv_at hl 1 rfl) ?_
  refine lv_isub hx hb dX10_passedBy_3 ?_
  refine gw_max hC (hml.trans hl.1.symm) lm_X10_444 lb_max.1 lb_max.2.1 lb_max.2.2 (Nat.le_of_ble_eq_true rfl) (Nat.le_of_ble_eq_true rfl) (Nat.le_of_ble_eq_true rfl) (Nat.le_of_ble_eq_true rfl) dX10_passedBy_4 ?_
  cases h
  exact hend dX10_passedBy_7 hW hS (Nat.le_of_ble_eq_true rfl) (Nat.le_of_ble_eq_true rfl)

theorem dX8_letDayPass_0 : decode cX8_letDayPass 0 = .ok (.iconst 0, 1) := by decide +kernel
theorem dX8_letDayPass_1 : decode cX8_letDayPass 1 = .ok (.istore_n 1, 1) := by decide +kernel
theorem dX8_letDayPass_2 : decode cX8_letDayPass 2 = .ok (.iconst 0, 1) := by decide +kernel
theorem dX8_letDayPass_3 : decode cX8_letDayPass 3 = .ok (.istore_n 2, 1) := by decide +kernel
theorem dX8_letDayPass_4 : decode cX8_letDayPass 4 = .ok (.iload_n 2, 1) := by decide +kernel
theorem dX8_letDayPass_5 : decode cX8_letDayPass 5 = .ok (.aload_n 0, 1) := by decide +kernel
theorem dX8_letDayPass_6 : decode cX8_letDayPass 6 = .ok (.getfield 40, 3) := by decide +kernel
theorem dX8_letDayPass_9 : decode cX8_letDayPass 9 = .ok (.if_icmp .ge 51, 3) := by decide +kernel
theorem dX8_letDayPass_12 : decode cX8_letDayPass 12 = .ok (.aload_n 0, 1) := by decide +kernel
theorem dX8_letDayPass_13 : decode cX8_letDayPass 13 = .ok (.getfield 25, 3) := by decide +kernel
theorem dX8_letDayPass_16 : decode cX8_letDayPass 16 = .ok (.iload_n 2, 1) := by decide +kernel
theorem dX8_letDayPass_17 : decode cX8_letDayPass 17 = .ok (.aaload, 1) := by decide +kernel
theorem dX8_letDayPass_18 : decode cX8_letDayPass 18 = .ok (.astore_n 3, 1) := by decide +kernel
theorem dX8_letDayPass_19 : decode cX8_letDayPass 19 = .ok (.aload_n 3, 1) := by decide +kernel
theorem dX8_letDayPass_20 : decode cX8_letDayPass 20 = .ok (.aload_n 0, 1) := by decide +kernel
theorem dX8_letDayPass_21 : decode cX8_letDayPass 21 = .ok (.getfield 47, 3) := by decide +kernel
theorem dX8_letDayPass_24 : decode cX8_letDayPass 24 = .ok (.invokevirtual 83, 3) := by decide +kernel
theorem dX8_letDayPass_27 : decode cX8_letDayPass 27 = .ok (.iconst (-1), 1) := by decide +kernel
theorem dX8_letDayPass_28 : decode cX8_letDayPass 28 = .ok (.if_icmp .ne 26, 3) := by decide +kernel
theorem dX8_letDayPass_31 : decode cX8_letDayPass 31 = .ok (.iload_n 1, 1) := by decide +kernel
theorem dX8_letDayPass_32 : decode cX8_letDayPass 32 = .ok (.aload_n 3, 1) := by decide +kernel
theorem dX8_letDayPass_33 : decode cX8_letDayPass 33 = .ok (.aload_n 0, 1) := by decide +kernel
theorem dX8_letDayPass_34 : decode cX8_letDayPass 34 = .ok (.getfield 9, 3) := by decide +kernel
theorem dX8_letDayPass_37 : decode cX8_letDayPass 37 = .ok (.aload_n 3, 1) := by decide +kernel
theorem dX8_letDayPass_38 : decode cX8_letDayPass 38 = .ok (.getfield 74, 3) := by decide +kernel
theorem dX8_letDayPass_41 : decode cX8_letDayPass 41 = .ok (.iaload, 1) := by decide +kernel
theorem dX8_letDayPass_42 : decode cX8_letDayPass 42 = .ok (.aload_n 3, 1) := by decide +kernel
theorem dX8_letDayPass_43 : decode cX8_letDayPass 43 = .ok (.getfield 77, 3) := by decide +kernel
theorem dX8_letDayPass_46 : decode cX8_letDayPass 46 = .ok (.invokestatic 87, 3) := by decide +kernel
theorem dX8_letDayPass_49 : decode cX8_letDayPass 49 = .ok (.invokevirtual 91, 3) := by decide +kernel
theorem dX8_letDayPass_52 : decode cX8_letDayPass 52 = .ok (.iadd, 1) := by decide +kernel
theorem dX8_letDayPass_53 : decode cX8_letDayPass 53 = .ok (.istore_n 1, 1) := by decide +kernel
theorem dX8_letDayPass_54 : decode cX8_letDayPass 54 = .ok (.iinc 2 1, 3) := by decide +kernel
theorem dX8_letDayPass_57 : decode cX8_letDayPass 57 = .ok (.goto (-53), 3) := by decide +kernel
theorem dX8_letDayPass_60 : decode cX8_letDayPass 60 = .ok (.aload_n 0, 1) := by decide +kernel
theorem dX8_letDayPass_61 : decode cX8_letDayPass 61 = .ok (.dup, 1) := by decide +kernel
theorem dX8_letDayPass_62 : decode cX8_letDayPass 62 = .ok (.getfield 47, 3) := by decide +kernel
theorem dX8_letDayPass_65 : decode cX8_letDayPass 65 = .ok (.iconst 1, 1) := by decide +kernel
theorem dX8_letDayPass_66 : decode cX8_letDayPass 66 = .ok (.iadd, 1) := by decide +kernel
theorem dX8_letDayPass_67 : decode cX8_letDayPass 67 = .ok (.putfield 47, 3) := by decide +kernel
theorem dX8_letDayPass_70 : decode cX8_letDayPass 70 = .ok (.iload_n 1, 1) := by decide +kernel
theorem dX8_letDayPass_71 : decode cX8_letDayPass 71 = .ok (.ireturn, 1) := by decide +kernel
abbrev rmX8_letDayPass : Room := { frames := 4, cells := 0, slots := 0, locals := 106 }
set_option maxHeartbeats 4000000 in
set_option maxRecDepth 100000 in
theorem metX8_letDayPass {l : Launch} {s0 : State} {b B : Nat} {D : va_G} {T : Nat → ClassId} (F : FX l s0 b D T B) {X : Nat → Prop} (hX : ∀ o, o < 560 → ¬ X (B + o)) {N : Nat} {μ : Mem} {a0 : Nat} {r : Mem × Int32} (k0 : IsSt a0) (h : fX8_letDayPass N μ a0 = some r) : gMet l yX8_letDayPass cX8_letDayPass 4 (some .int) rmX8_letDayPass [.ref (B + a0)] (gWC s0 D T B μ) (KC s0 X) (some (.int r.2)) (gWC s0 D T B r.1) (gA B X) 0 0 := by
  refine gI_of RX8 (by decide +kernel) rfl (Nat.le_of_ble_eq_true rfl) ?_
  intro p e s m args below meth c ls Q hx hb hlocks hml hown hts hW hk hl hS hend
  have hC := FX_C F hk hx hb hown hts
  have hA := gA_all hX
  have hl : lv_has ls 4 [(0, .ref (B + a0))] := hl
  unfold fX8_letDayPass at h
  refine lv_iconst (v := 0) hx hb dX8_letDayPass_0 (by decide) ?_
  refine lv_istore_n (lv' := [(1, .int 0), (0, .ref (B + a0))]) hx hb dX8_letDayPass_1 rfl hl (by decide) rfl (fun ls hl => ?_)
  refine lv_iconst (v := 0) hx hb dX8_letDayPass_2 (by decide) ?_
  refine lv_istore_n (lv' := [(2, .int 0), (1, .int 0), (0, .ref (B + a0))]) hx hb dX8_letDayPass_3 rfl hl (by decide) rfl (fun ls hl => ?_)
  refine fix3_ind (fun (x1 : Int32) (x2 : Int32) (μ3 : Mem) => ∀ (H : Heap) (locs : List Loc) (ls : Array Slot), gWC s0 D T B μ3 H → va_S (gA B X) s.heap H locs → lv_has ls 4 [(0, .ref (B + a0)), (1, .int x1), (2, .int x2)] → W p l e rmX8_letDayPass s m args below meth c H locs 0 0 Q (F0 m 4 ls [])) ?_ N _ _ _ h _ _ _ hW hS (lv_sub hl [2, 1, 0] rfl)
  clear h hW hS hl
  intro self4 IH5 x1 x2 μ3 h H locs ls hW hS hl
  refine lv_iload_n hx hb dX8_letDayPass_4 rfl (lv_at hl 2 rfl) ?_
  refine lv_aload_n hx hb dX8_letDayPass_5 rfl (lv_at hl 0 rfl) ?_
  refine gw_get (v := .int (μ3 a0 4)) hC hW fl_X8_40.1 k0.1 (k0.2.1 (gfm s0) T B (μ3 a0)) rfl dX8_letDayPass_6 ?_
  refine lv_icmp_ge (tgt := 60) hx hb dX8_letDayPass_9 (by decide) (fun c6 => ?_) (fun c6 => ?_)
  · replace h := ite_t c6 h
    refine lv_aload_n hx hb dX8_letDayPass_60 rfl (lv_at hl 0 rfl) ?_
    refine lv_dup hx hb dX8_letDayPass_61 rfl ?_
    refine gw_get (v := .int (μ3 a0 6)) hC hW fl_X8_47.1 k0.1 (k0.2.1 (gfm s0) T B (μ3 a0)) rfl dX8_letDayPass_62 ?_
    refine lv_iconst (v := 1) hx hb dX8_letDayPass_65 (by decide) ?_
    refine lv_iadd hx hb dX8_letDayPass_66 ?_
    obtain ⟨μ7, e8, h⟩ := lt_out h
    refine gq_put hC hS hW hA fl_X8_47 k0.1 (k0.2.1 (gfm s0) T B) (Nat.le_of_ble_eq_true rfl) rfl rfl rfl e8 dX8_letDayPass_67 (fun H locs hW hS => ?_)
    refine lv_iload_n hx hb dX8_letDayPass_70 rfl (lv_at hl 1 rfl) ?_
    cases h
    exact hend dX8_letDayPass_71 hW hS (Nat.le_of_ble_eq_true rfl) (Nat.le_of_ble_eq_true rfl)
  · replace h := ite_f c6 h
    refine lv_aload_n hx hb dX8_letDayPass_12 rfl (lv_at hl 0 rfl) ?_
    refine gw_get (v := .ref (B + (a0 + 16))) hC hW fl_X8_25 k0.1 (k0.2.1 (gfm s0) T B (μ3 a0)) rfl dX8_letDayPass_13 ?_
    refine lv_iload_n hx hb dX8_letDayPass_16 rfl (lv_at hl 2 rfl) ?_
    obtain ⟨q9, e10, hq11, hi12, h⟩ := ar_o h
    refine gq_aald hC hW k0.2.2.2.2.2.1 (k0.2.2.2.2.2.2.1 (gfm s0) T B (μ3 (a0 + 16))) (t0 := 5) rfl rfl e10 hi12 dX8_letDayPass_17 ?_
    refine lv_astore_n (lv' := [(3, .ref (B + ((a0 + 16) + 1 + 6 * q9))), (0, .ref (B + a0)), (1, .int x1), (2, .int x2)]) hx hb dX8_letDayPass_18 rfl hl (by decide) rfl (fun ls hl => ?_)
    refine lv_aload_n hx hb dX8_letDayPass_19 rfl (lv_at hl 0 rfl) ?_
    refine lv_aload_n hx hb dX8_letDayPass_20 rfl (lv_at hl 1 rfl) ?_
    refine gw_get (v := .int (μ3 a0 6)) hC hW fl_X8_47.1 k0.1 (k0.2.1 (gfm s0) T B (μ3 a0)) rfl dX8_letDayPass_21 ?_
    obtain ⟨r13, hcall, h⟩ := bd_out h
    refine g0_callV (As := [.int (μ3 a0 6)]) hC hml hS hW (KC_at hk hS F.2.2.2.2) KC_blind (metX1_loanEndOn F hX (k0.2.2.2.2.2.2.2 q9 hq11) hcall) ml_X8_83 (gw_recv hC hW (k0.2.2.2.2.2.2.2 q9 hq11).1 ((k0.2.2.2.2.2.2.2 q9 hq11).2.1 (gfm s0) T B (μ3 ((a0 + 16) + 1 + 6 * q9))) rfl) ⟨rfl, rfl, (Nat.le_of_ble_eq_true rfl), (Nat.le_of_ble_eq_true rfl)⟩ rfl hl.1 rfl (Nat.le_of_ble_eq_true rfl) dX8_letDayPass_24 ⟨(Nat.le_of_ble_eq_true rfl), (Nat.le_of_ble_eq_true rfl)⟩ (fun H locs hW hS => ?_)
    refine lv_iconst (v := (-1)) hx hb dX8_letDayPass_27 (by decide) ?_
    obtain ⟨j16, hj18, h⟩ := jn2_o h
    have J17 : ∀ (y14 : Int32) (μ15 : Mem), j16 y14 μ15 = some r → ∀ (H : Heap) (locs : List Loc) (ls : Array Slot), gWC s0 D T B μ15 H → va_S (gA B X) s.heap H locs → lv_has ls 4 [(0, .ref (B + a0)), (1, .int y14), (2, .int x2)] → W p l e rmX8_letDayPass s m args below meth c H locs 0 0 Q (F0 m 54 ls []) := by
      clear h hW hS hl
      intro y14 μ15 h H locs ls hW hS hl
      replace h := (hj18 y14 μ15).symm.trans h
      obtain ⟨v19, e20, h⟩ := lt_out h
      refine lv_iinc (v := v19) (lv' := [(2, .int v19), (0, .ref (B + a0)), (1, .int y14)]) hx hb dX8_letDayPass_54 hl (k := 2) rfl (by rw [e20]; rfl) (by decide) rfl (fun ls hl => ?_)
      refine lv_goto (tgt := 4) hx hb dX8_letDayPass_57 (by decide) ?_
      exact IH5 _ _ _ h _ _ _ hW hS (lv_sub hl [1, 2, 0] rfl)
    refine lv_icmp_ne (tgt := 54) hx hb dX8_letDayPass_28 (by decide) (fun c21 => ?_) (fun c21 => ?_)
    · replace h := ite_f c21 h
      exact J17 _ _ h _ _ _ hW hS (lv_sub hl [1, 2, 3] rfl)
    · replace h := ite_t c21 h
      refine lv_iload_n hx hb dX8_letDayPass_31 rfl (lv_at hl 2 rfl) ?_
      refine lv_aload_n hx hb dX8_letDayPass_32 rfl (lv_at hl 0 rfl) ?_
      refine lv_aload_n hx hb dX8_letDayPass_33 rfl (lv_at hl 1 rfl) ?_
      refine gw_get (v := .ref (B + (a0 + 1))) hC hW fl_X8_9 k0.1 (k0.2.1 (gfm s0) T B (μ3 a0)) rfl dX8_letDayPass_34 ?_
      refine lv_aload_n hx hb dX8_letDayPass_37 rfl (lv_at hl 0 rfl) ?_
      refine gw_get (v := .int (μ3 ((a0 + 16) + 1 + 6 * q9) 0)) hC hW fl_X8_74.1 (k0.2.2.2.2.2.2.2 q9 hq11).1 ((k0.2.2.2.2.2.2.2 q9 hq11).2.1 (gfm s0) T B (μ3 ((a0 + 16) + 1 + 6 * q9))) rfl dX8_letDayPass_38 ?_
      obtain ⟨v22, e23, hi24, h⟩ := ag_o h
      refine gq_iald hC hW k0.2.2.1.1 (k0.2.2.1.2 (gfm s0) T B (μ3 (a0 + 1))) (t0 := 0) rfl e23 hi24 dX8_letDayPass_41 ?_
      refine lv_aload_n hx hb dX8_letDayPass_42 rfl (lv_at hl 0 rfl) ?_
      refine gw_get (v := .int (μ3 ((a0 + 16) + 1 + 6 * q9) 1)) hC hW fl_X8_77.1 (k0.2.2.2.2.2.2.2 q9 hq11).1 ((k0.2.2.2.2.2.2.2 q9 hq11).2.1 (gfm s0) T B (μ3 ((a0 + 16) + 1 + 6 * q9))) rfl dX8_letDayPass_43 ?_
      obtain ⟨r25, hcall, h⟩ := bd_out h
      refine g0_callSN (As := [.int v22, .int (μ3 ((a0 + 16) + 1 + 6 * q9) 1)]) hC hml hS hW (KC_at hk hS F.2.2.2.2) KC_blind (metX10_passedBy F hX  hcall) nw_X8_87 (FX_N F hk _ nl_X8_87) ⟨rfl, rfl, (Nat.le_of_ble_eq_true rfl), (Nat.le_of_ble_eq_true rfl)⟩ rfl hl.1 rfl (Nat.le_of_ble_eq_true rfl) dX8_letDayPass_46 ⟨(Nat.le_of_ble_eq_true rfl), (Nat.le_of_ble_eq_true rfl)⟩ (fun H locs hW hS => ?_)
      obtain ⟨r26, hcall, h⟩ := bd_out h
      refine g0_callV (As := [.int r25]) hC hml hS hW (KC_at hk hS F.2.2.2.2) KC_blind (metX1_melt F hX (k0.2.2.2.2.2.2.2 q9 hq11) hcall) ml_X8_91 (gw_recv hC hW (k0.2.2.2.2.2.2.2 q9 hq11).1 ((k0.2.2.2.2.2.2.2 q9 hq11).2.1 (gfm s0) T B (μ3 ((a0 + 16) + 1 + 6 * q9))) rfl) ⟨rfl, rfl, (Nat.le_of_ble_eq_true rfl), (Nat.le_of_ble_eq_true rfl)⟩ rfl hl.1 rfl (Nat.le_of_ble_eq_true rfl) dX8_letDayPass_49 ⟨(Nat.le_of_ble_eq_true rfl), (Nat.le_of_ble_eq_true rfl)⟩ (fun H locs hW hS => ?_)
      refine lv_iadd hx hb dX8_letDayPass_52 ?_
      obtain ⟨v27, e28, h⟩ := lt_out h
      rw [← e28]
      refine lv_istore_n (lv' := [(1, .int v27), (3, .ref (B + ((a0 + 16) + 1 + 6 * q9))), (0, .ref (B + a0)), (2, .int x2)]) hx hb dX8_letDayPass_53 rfl hl (by decide) rfl (fun ls hl => ?_)
      exact J17 _ _ h _ _ _ hW hS (lv_sub hl [2, 0, 3] rfl)
