/-! Printed by program out of the decode rows: what each method of the reference does, and its contract. -/
theorem dX11_thrown_0 : decode cX11_thrown 0 = .ok (.aload_n 0, 1) := by decide +kernel
theorem dX11_thrown_1 : decode cX11_thrown 1 = .ok (.getfield 51, 3) := by decide +kernel
theorem dX11_thrown_4 : decode cX11_thrown 4 = .ok (.ireturn, 1) := by decide +kernel
abbrev rmX11_thrown : Room := { frames := 2, cells := 0, slots := 0, locals := 60 }
set_option maxHeartbeats 4000000 in
set_option maxRecDepth 100000 in
theorem metX11_thrown {l : Launch} {s0 : State} {b B : Nat} {D : va_G} {T : Nat → ClassId} (F : FX l s0 b D T B) {X : Nat → Prop} (hX : ∀ o, o < 12 → ¬ X (B + o)) {N : Nat} {μ : Mem} {a0 : Nat} {r : Int32} (k0 : IsMo a0) (h : fX11_thrown N μ a0 = some r) : gMet l yX11_thrown cX11_thrown 1 (some .int) rmX11_thrown [.ref (B + a0)] (gWM D T B μ) (KC s0 X) (some (.int r)) (gWM D T B μ) (gA B X) 0 0 := by
  refine gI_of RX11 (by decide +kernel) rfl (Nat.le_of_ble_eq_true rfl) ?_
  intro p e s m args below meth c ls Q hx hb hlocks hml hown hts hW hk hl hS hend
  have hC := FX_C F hk hx hb hown hts
  have hA := gA_allM hX
  have hl : lv_has ls 1 [(0, .ref (B + a0))] := hl
  unfold fX11_thrown at h
  refine lv_aload_n hx hb dX11_thrown_0 rfl (lv_at hl 0 rfl) ?_
  refine gw_get (v := .int (μ a0 6)) hC hW fl_X11_51.1 k0.1 (k0.2.1 T B (μ a0)) rfl dX11_thrown_1 ?_
  cases h
  exact hend dX11_thrown_4 hW hS (Nat.le_of_ble_eq_true rfl) (Nat.le_of_ble_eq_true rfl)

theorem dX11_in_0 : decode cX11_in 0 = .ok (.iload_n 0, 1) := by decide +kernel
theorem dX11_in_1 : decode cX11_in 1 = .ok (.iload_n 1, 1) := by decide +kernel
theorem dX11_in_2 : decode cX11_in 2 = .ok (.if_icmp .lt 12, 3) := by decide +kernel
theorem dX11_in_5 : decode cX11_in 5 = .ok (.iload_n 0, 1) := by decide +kernel
theorem dX11_in_6 : decode cX11_in 6 = .ok (.iload_n 2, 1) := by decide +kernel
theorem dX11_in_7 : decode cX11_in 7 = .ok (.if_icmp .gt 7, 3) := by decide +kernel
theorem dX11_in_10 : decode cX11_in 10 = .ok (.iconst 1, 1) := by decide +kernel
theorem dX11_in_11 : decode cX11_in 11 = .ok (.goto 4, 3) := by decide +kernel
theorem dX11_in_14 : decode cX11_in 14 = .ok (.iconst 0, 1) := by decide +kernel
theorem dX11_in_15 : decode cX11_in 15 = .ok (.ireturn, 1) := by decide +kernel
abbrev rmX11_in : Room := { frames := 2, cells := 0, slots := 0, locals := 60 }
set_option maxHeartbeats 4000000 in
set_option maxRecDepth 100000 in
theorem metX11_in {l : Launch} {s0 : State} {b B : Nat} {D : va_G} {T : Nat → ClassId} (F : FX l s0 b D T B) {X : Nat → Prop} (hX : ∀ o, o < 12 → ¬ X (B + o)) {N : Nat} {μ : Mem} {a0 : Int32} {a1 : Int32} {a2 : Int32} {r : Bool}  (h : fX11_in N μ a0 a1 a2 = some r) : gMet l yX11_in cX11_in 3 (some .boolean) rmX11_in [.int a0, .int a1, .int a2] (gWM D T B μ) (KC s0 X) (some (.int (b2i r))) (gWM D T B μ) (gA B X) 0 0 := by
  refine gZ_of RX11 (by decide +kernel) rfl (Nat.le_of_ble_eq_true rfl) ?_
  intro p e s m args below meth c ls Q hx hb hlocks hml hown hts hW hk hl hS hend
  have hC := FX_C F hk hx hb hown hts
  have hA := gA_allM hX
  have hl : lv_has ls 3 [(0, .int a0), (1, .int a1), (2, .int a2)] := hl
  unfold fX11_in at h
  refine lv_iload_n hx hb dX11_in_0 rfl (lv_at hl 0 rfl) ?_
  refine lv_iload_n hx hb dX11_in_1 rfl (lv_at hl 1 rfl) ?_
  obtain ⟨j2, hj4, h⟩ := jn1_o h
  have J3 : ∀ (y1 : Bool), j2 y1 = some r → ∀ (H : Heap) (locs : List Loc) (ls : Array Slot), gWM D T B μ H → va_S (gA B X) s.heap H locs → lv_has ls 3 [] → W p l e rmX11_in s m args below meth c H locs 0 0 Q (F0 m 15 ls [.int (b2i y1)]) := by
    clear h hW hS hl
    intro y1 h H locs ls hW hS hl
    replace h := (hj4 y1).symm.trans h
    cases h
    exact hend dX11_in_15 hW hS (Nat.le_of_ble_eq_true rfl) (Nat.le_of_ble_eq_true rfl)
  obtain ⟨j6, hj8, h⟩ := jn1_o h
  have J7 : ∀ (u5 : Unit), j6 u5 = some r → ∀ (H : Heap) (locs : List Loc) (ls : Array Slot), gWM D T B μ H → va_S (gA B X) s.heap H locs → lv_has ls 3 [] → W p l e rmX11_in s m args below meth c H locs 0 0 Q (F0 m 14 ls []) := by
    clear h hW hS hl
    intro u5 h H locs ls hW hS hl
    replace h := (hj8 u5).symm.trans h
    refine lv_iconst (v := 0) hx hb dX11_in_14 (by decide) ?_
    exact J3 _ h _ _ _ hW hS (lv_sub hl [] rfl)
  refine lv_icmp_lt (tgt := 14) hx hb dX11_in_2 (by decide) (fun c9 => ?_) (fun c9 => ?_)
  · replace h := ite_t c9 h
    exact J7 _ h _ _ _ hW hS (lv_sub hl [] rfl)
  · replace h := ite_f c9 h
    refine lv_iload_n hx hb dX11_in_5 rfl (lv_at hl 0 rfl) ?_
    refine lv_iload_n hx hb dX11_in_6 rfl (lv_at hl 2 rfl) ?_
    refine lv_icmp_gt (tgt := 14) hx hb dX11_in_7 (by decide) (fun c10 => ?_) (fun c10 => ?_)
    · replace h := ite_t c10 h
      exact J7 _ h _ _ _ hW hS (lv_sub hl [] rfl)
    · replace h := ite_f c10 h
      refine lv_iconst (v := 1) hx hb dX11_in_10 (by decide) ?_
      refine lv_goto (tgt := 15) hx hb dX11_in_11 (by decide) ?_
      exact J3 _ h _ _ _ hW hS (lv_sub hl [] rfl)

theorem dX11_keep_0 : decode cX11_keep 0 = .ok (.aload_n 0, 1) := by decide +kernel
theorem dX11_keep_1 : decode cX11_keep 1 = .ok (.iconst 0, 1) := by decide +kernel
theorem dX11_keep_2 : decode cX11_keep 2 = .ok (.putfield 51, 3) := by decide +kernel
theorem dX11_keep_5 : decode cX11_keep 5 = .ok (.aload_n 0, 1) := by decide +kernel
theorem dX11_keep_6 : decode cX11_keep 6 = .ok (.getfield 9, 3) := by decide +kernel
theorem dX11_keep_9 : decode cX11_keep 9 = .ok (.iconst 0, 1) := by decide +kernel
theorem dX11_keep_10 : decode cX11_keep 10 = .ok (.aload_n 0, 1) := by decide +kernel
theorem dX11_keep_11 : decode cX11_keep 11 = .ok (.getfield 13, 3) := by decide +kernel
theorem dX11_keep_14 : decode cX11_keep 14 = .ok (.iconst 0, 1) := by decide +kernel
theorem dX11_keep_15 : decode cX11_keep 15 = .ok (.sipush 817, 3) := by decide +kernel
theorem dX11_keep_18 : decode cX11_keep 18 = .ok (.invokestatic 54, 3) := by decide +kernel
theorem dX11_keep_21 : decode cX11_keep 21 = .ok (.return_, 1) := by decide +kernel
abbrev rmX11_keep : Room := { frames := 2, cells := 0, slots := 0, locals := 60 }
set_option maxHeartbeats 4000000 in
set_option maxRecDepth 100000 in
theorem metX11_keep {l : Launch} {s0 : State} {b B : Nat} {D : va_G} {T : Nat → ClassId} (F : FX l s0 b D T B) {X : Nat → Prop} (hX : ∀ o, o < 12 → ¬ X (B + o)) {N : Nat} {μ : Mem} {a0 : Nat} {r : Mem} (k0 : IsMo a0) (h : fX11_keep N μ a0 = some r) : gMet l yX11_keep cX11_keep 1 none rmX11_keep [.ref (B + a0)] (gWM D T B μ) (KC s0 X) none (gWM D T B r) (gA B X) 0 0 := by
  refine gV_of RX11 (by decide +kernel) rfl (Nat.le_of_ble_eq_true rfl) ?_
  intro p e s m args below meth c ls Q hx hb hlocks hml hown hts hW hk hl hS hend
  have hC := FX_C F hk hx hb hown hts
  have hA := gA_allM hX
  have hl : lv_has ls 1 [(0, .ref (B + a0))] := hl
  unfold fX11_keep at h
  refine lv_aload_n hx hb dX11_keep_0 rfl (lv_at hl 0 rfl) ?_
  refine lv_iconst (v := 0) hx hb dX11_keep_1 (by decide) ?_
  obtain ⟨μ1, e2, h⟩ := lt_out h
  refine gq_put hC hS hW hA fl_X11_51 k0.1 (k0.2.1 T B) (Nat.le_of_ble_eq_true rfl) rfl rfl rfl e2 dX11_keep_2 (fun H locs hW hS => ?_)
  refine lv_aload_n hx hb dX11_keep_5 rfl (lv_at hl 0 rfl) ?_
  refine gw_get (v := .ref (B + (a0 + 1))) hC hW fl_X11_9 k0.1 (k0.2.1 T B (μ1 a0)) rfl dX11_keep_6 ?_
  refine lv_iconst (v := 0) hx hb dX11_keep_9 (by decide) ?_
  refine lv_aload_n hx hb dX11_keep_10 rfl (lv_at hl 0 rfl) ?_
  refine gw_get (v := .ref (B + (a0 + 2))) hC hW fl_X11_13 k0.1 (k0.2.1 T B (μ1 a0)) rfl dX11_keep_11 ?_
  refine lv_iconst (v := 0) hx hb dX11_keep_14 (by decide) ?_
  refine lv_sipush (v := 817) hx hb dX11_keep_15 (by decide) ?_
  obtain ⟨μ3, e4, hc5, h⟩ := acp_o h
  refine gw_copy hC (hml.trans hl.1.symm) lm_X11_54 lb_copy.1 lb_copy.2.1 lb_copy.2.2 hS hW hA k0.2.2.1.1 k0.2.2.2.1.1 (k0.2.2.1.2 T B) (k0.2.2.2.1.2 T B) (t0 := 0) rfl e4 hc5 (Nat.le_of_ble_eq_true rfl) (Nat.le_of_ble_eq_true rfl) dX11_keep_18 (fun H locs hW hS => ?_)
  cases h
  exact hend dX11_keep_21 hW hS (Nat.le_of_ble_eq_true rfl) (Nat.le_of_ble_eq_true rfl)

theorem dX11_ends_0 : decode cX11_ends 0 = .ok (.aload_n 0, 1) := by decide +kernel
theorem dX11_ends_1 : decode cX11_ends 1 = .ok (.getfield 51, 3) := by decide +kernel
theorem dX11_ends_4 : decode cX11_ends 4 = .ok (.ifCond .le 21, 3) := by decide +kernel
theorem dX11_ends_7 : decode cX11_ends 7 = .ok (.aload_n 0, 1) := by decide +kernel
theorem dX11_ends_8 : decode cX11_ends 8 = .ok (.getfield 13, 3) := by decide +kernel
theorem dX11_ends_11 : decode cX11_ends 11 = .ok (.iconst 0, 1) := by decide +kernel
theorem dX11_ends_12 : decode cX11_ends 12 = .ok (.aload_n 0, 1) := by decide +kernel
theorem dX11_ends_13 : decode cX11_ends 13 = .ok (.getfield 9, 3) := by decide +kernel
theorem dX11_ends_16 : decode cX11_ends 16 = .ok (.iconst 0, 1) := by decide +kernel
theorem dX11_ends_17 : decode cX11_ends 17 = .ok (.sipush 817, 3) := by decide +kernel
theorem dX11_ends_20 : decode cX11_ends 20 = .ok (.invokestatic 54, 3) := by decide +kernel
theorem dX11_ends_23 : decode cX11_ends 23 = .ok (.iconst 0, 1) := by decide +kernel
theorem dX11_ends_24 : decode cX11_ends 24 = .ok (.ireturn, 1) := by decide +kernel
theorem dX11_ends_25 : decode cX11_ends 25 = .ok (.aload_n 0, 1) := by decide +kernel
theorem dX11_ends_26 : decode cX11_ends 26 = .ok (.getfield 60, 3) := by decide +kernel
theorem dX11_ends_29 : decode cX11_ends 29 = .ok (.bipush 8, 2) := by decide +kernel
theorem dX11_ends_31 : decode cX11_ends 31 = .ok (.if_icmp .ne 31, 3) := by decide +kernel
theorem dX11_ends_34 : decode cX11_ends 34 = .ok (.aload_n 0, 1) := by decide +kernel
theorem dX11_ends_35 : decode cX11_ends 35 = .ok (.getfield 19, 3) := by decide +kernel
theorem dX11_ends_38 : decode cX11_ends 38 = .ok (.sipush 817, 3) := by decide +kernel
theorem dX11_ends_41 : decode cX11_ends 41 = .ok (.aload_n 0, 1) := by decide +kernel
theorem dX11_ends_42 : decode cX11_ends 42 = .ok (.getfield 19, 3) := by decide +kernel
theorem dX11_ends_45 : decode cX11_ends 45 = .ok (.iconst 0, 1) := by decide +kernel
theorem dX11_ends_46 : decode cX11_ends 46 = .ok (.sipush 5719, 3) := by decide +kernel
theorem dX11_ends_49 : decode cX11_ends 49 = .ok (.invokestatic 54, 3) := by decide +kernel
theorem dX11_ends_52 : decode cX11_ends 52 = .ok (.aload_n 0, 1) := by decide +kernel
theorem dX11_ends_53 : decode cX11_ends 53 = .ok (.dup, 1) := by decide +kernel
theorem dX11_ends_54 : decode cX11_ends 54 = .ok (.getfield 60, 3) := by decide +kernel
theorem dX11_ends_57 : decode cX11_ends 57 = .ok (.iconst 1, 1) := by decide +kernel
theorem dX11_ends_58 : decode cX11_ends 58 = .ok (.isub, 1) := by decide +kernel
theorem dX11_ends_59 : decode cX11_ends 59 = .ok (.putfield 60, 3) := by decide +kernel
theorem dX11_ends_62 : decode cX11_ends 62 = .ok (.aload_n 0, 1) := by decide +kernel
theorem dX11_ends_63 : decode cX11_ends 63 = .ok (.getfield 13, 3) := by decide +kernel
theorem dX11_ends_66 : decode cX11_ends 66 = .ok (.iconst 0, 1) := by decide +kernel
theorem dX11_ends_67 : decode cX11_ends 67 = .ok (.aload_n 0, 1) := by decide +kernel
theorem dX11_ends_68 : decode cX11_ends 68 = .ok (.getfield 19, 3) := by decide +kernel
theorem dX11_ends_71 : decode cX11_ends 71 = .ok (.sipush 817, 3) := by decide +kernel
theorem dX11_ends_74 : decode cX11_ends 74 = .ok (.aload_n 0, 1) := by decide +kernel
theorem dX11_ends_75 : decode cX11_ends 75 = .ok (.getfield 60, 3) := by decide +kernel
theorem dX11_ends_78 : decode cX11_ends 78 = .ok (.imul, 1) := by decide +kernel
theorem dX11_ends_79 : decode cX11_ends 79 = .ok (.sipush 817, 3) := by decide +kernel
theorem dX11_ends_82 : decode cX11_ends 82 = .ok (.invokestatic 54, 3) := by decide +kernel
theorem dX11_ends_85 : decode cX11_ends 85 = .ok (.aload_n 0, 1) := by decide +kernel
theorem dX11_ends_86 : decode cX11_ends 86 = .ok (.dup, 1) := by decide +kernel
theorem dX11_ends_87 : decode cX11_ends 87 = .ok (.getfield 60, 3) := by decide +kernel
theorem dX11_ends_90 : decode cX11_ends 90 = .ok (.iconst 1, 1) := by decide +kernel
theorem dX11_ends_91 : decode cX11_ends 91 = .ok (.iadd, 1) := by decide +kernel
theorem dX11_ends_92 : decode cX11_ends 92 = .ok (.putfield 60, 3) := by decide +kernel
theorem dX11_ends_95 : decode cX11_ends 95 = .ok (.iload_n 1, 1) := by decide +kernel
theorem dX11_ends_96 : decode cX11_ends 96 = .ok (.ireturn, 1) := by decide +kernel
abbrev rmX11_ends : Room := { frames := 2, cells := 0, slots := 0, locals := 60 }
set_option maxHeartbeats 4000000 in
set_option maxRecDepth 100000 in
theorem metX11_ends {l : Launch} {s0 : State} {b B : Nat} {D : va_G} {T : Nat → ClassId} (F : FX l s0 b D T B) {X : Nat → Prop} (hX : ∀ o, o < 12 → ¬ X (B + o)) {N : Nat} {μ : Mem} {a0 : Nat} {a1 : Int32} {r : Mem × Int32} (k0 : IsMo a0) (h : fX11_ends N μ a0 a1 = some r) : gMet l yX11_ends cX11_ends 2 (some .int) rmX11_ends [.ref (B + a0), .int a1] (gWM D T B μ) (KC s0 X) (some (.int r.2)) (gWM D T B r.1) (gA B X) 0 0 := by
  refine gI_of RX11 (by decide +kernel) rfl (Nat.le_of_ble_eq_true rfl) ?_
  intro p e s m args below meth c ls Q hx hb hlocks hml hown hts hW hk hl hS hend
  have hC := FX_C F hk hx hb hown hts
  have hA := gA_allM hX
  have hl : lv_has ls 2 [(0, .ref (B + a0)), (1, .int a1)] := hl
  unfold fX11_ends at h
  refine lv_aload_n hx hb dX11_ends_0 rfl (lv_at hl 0 rfl) ?_
  refine gw_get (v := .int (μ a0 6)) hC hW fl_X11_51.1 k0.1 (k0.2.1 T B (μ a0)) rfl dX11_ends_1 ?_
  refine lv_if_le (tgt := 25) hx hb dX11_ends_4 (by decide) (fun c1 => ?_) (fun c1 => ?_)
  · replace h := ite_t c1 h
    refine lv_aload_n hx hb dX11_ends_25 rfl (lv_at hl 0 rfl) ?_
    refine gw_get (v := .int (μ a0 5)) hC hW fl_X11_60.1 k0.1 (k0.2.1 T B (μ a0)) rfl dX11_ends_26 ?_
    refine lv_bipush (v := 8) hx hb dX11_ends_29 (by decide) ?_
    obtain ⟨j3, hj5, h⟩ := jn1_o h
    have J4 : ∀ (μ2 : Mem), j3 μ2 = some r → ∀ (H : Heap) (locs : List Loc) (ls : Array Slot), gWM D T B μ2 H → va_S (gA B X) s.heap H locs → lv_has ls 2 [(0, .ref (B + a0)), (1, .int a1)] → W p l e rmX11_ends s m args below meth c H locs 0 0 Q (F0 m 62 ls []) := by
      clear h hW hS hl
      intro μ2 h H locs ls hW hS hl
      replace h := (hj5 μ2).symm.trans h
      refine lv_aload_n hx hb dX11_ends_62 rfl (lv_at hl 0 rfl) ?_
      refine gw_get (v := .ref (B + (a0 + 2))) hC hW fl_X11_13 k0.1 (k0.2.1 T B (μ2 a0)) rfl dX11_ends_63 ?_
      refine lv_iconst (v := 0) hx hb dX11_ends_66 (by decide) ?_
      refine lv_aload_n hx hb dX11_ends_67 rfl (lv_at hl 0 rfl) ?_
      refine gw_get (v := .ref (B + (a0 + 4))) hC hW fl_X11_19 k0.1 (k0.2.1 T B (μ2 a0)) rfl dX11_ends_68 ?_
      refine lv_sipush (v := 817) hx hb dX11_ends_71 (by decide) ?_
      refine lv_aload_n hx hb dX11_ends_74 rfl (lv_at hl 0 rfl) ?_
      refine gw_get (v := .int (μ2 a0 5)) hC hW fl_X11_60.1 k0.1 (k0.2.1 T B (μ2 a0)) rfl dX11_ends_75 ?_
      refine lv_imul hx hb dX11_ends_78 ?_
      refine lv_sipush (v := 817) hx hb dX11_ends_79 (by decide) ?_
      obtain ⟨μ6, e7, hc8, h⟩ := acp_o h
      refine gw_copy hC (hml.trans hl.1.symm) lm_X11_54 lb_copy.1 lb_copy.2.1 lb_copy.2.2 hS hW hA k0.2.2.2.1.1 k0.2.2.2.2.2.1.1 (k0.2.2.2.1.2 T B) (k0.2.2.2.2.2.1.2 T B) (t0 := 0) rfl e7 hc8 (Nat.le_of_ble_eq_true rfl) (Nat.le_of_ble_eq_true rfl) dX11_ends_82 (fun H locs hW hS => ?_)
      refine lv_aload_n hx hb dX11_ends_85 rfl (lv_at hl 0 rfl) ?_
      refine lv_dup hx hb dX11_ends_86 rfl ?_
      refine gw_get (v := .int (μ6 a0 5)) hC hW fl_X11_60.1 k0.1 (k0.2.1 T B (μ6 a0)) rfl dX11_ends_87 ?_
      refine lv_iconst (v := 1) hx hb dX11_ends_90 (by decide) ?_
      refine lv_iadd hx hb dX11_ends_91 ?_
      obtain ⟨μ9, e10, h⟩ := lt_out h
      refine gq_put hC hS hW hA fl_X11_60 k0.1 (k0.2.1 T B) (Nat.le_of_ble_eq_true rfl) rfl rfl rfl e10 dX11_ends_92 (fun H locs hW hS => ?_)
      refine lv_iload_n hx hb dX11_ends_95 rfl (lv_at hl 1 rfl) ?_
      cases h
      exact hend dX11_ends_96 hW hS (Nat.le_of_ble_eq_true rfl) (Nat.le_of_ble_eq_true rfl)
    refine lv_icmp_ne (tgt := 62) hx hb dX11_ends_31 (by decide) (fun c11 => ?_) (fun c11 => ?_)
    · replace h := ite_f c11 h
      exact J4 _ h _ _ _ hW hS (lv_sub hl [0, 1] rfl)
    · replace h := ite_t c11 h
      refine lv_aload_n hx hb dX11_ends_34 rfl (lv_at hl 0 rfl) ?_
      refine gw_get (v := .ref (B + (a0 + 4))) hC hW fl_X11_19 k0.1 (k0.2.1 T B (μ a0)) rfl dX11_ends_35 ?_
      refine lv_sipush (v := 817) hx hb dX11_ends_38 (by decide) ?_
      refine lv_aload_n hx hb dX11_ends_41 rfl (lv_at hl 0 rfl) ?_
      refine gw_get (v := .ref (B + (a0 + 4))) hC hW fl_X11_19 k0.1 (k0.2.1 T B (μ a0)) rfl dX11_ends_42 ?_
      refine lv_iconst (v := 0) hx hb dX11_ends_45 (by decide) ?_
      refine lv_sipush (v := 5719) hx hb dX11_ends_46 (by decide) ?_
      obtain ⟨μ12, e13, hc14, h⟩ := acp_o h
      refine gw_copy hC (hml.trans hl.1.symm) lm_X11_54 lb_copy.1 lb_copy.2.1 lb_copy.2.2 hS hW hA k0.2.2.2.2.2.1.1 k0.2.2.2.2.2.1.1 (k0.2.2.2.2.2.1.2 T B) (k0.2.2.2.2.2.1.2 T B) (t0 := 0) rfl e13 hc14 (Nat.le_of_ble_eq_true rfl) (Nat.le_of_ble_eq_true rfl) dX11_ends_49 (fun H locs hW hS => ?_)
      refine lv_aload_n hx hb dX11_ends_52 rfl (lv_at hl 0 rfl) ?_
      refine lv_dup hx hb dX11_ends_53 rfl ?_
      refine gw_get (v := .int (μ12 a0 5)) hC hW fl_X11_60.1 k0.1 (k0.2.1 T B (μ12 a0)) rfl dX11_ends_54 ?_
      refine lv_iconst (v := 1) hx hb dX11_ends_57 (by decide) ?_
      refine lv_isub hx hb dX11_ends_58 ?_
      obtain ⟨μ15, e16, h⟩ := lt_out h
      refine gq_put hC hS hW hA fl_X11_60 k0.1 (k0.2.1 T B) (Nat.le_of_ble_eq_true rfl) rfl rfl rfl e16 dX11_ends_59 (fun H locs hW hS => ?_)
      exact J4 _ h _ _ _ hW hS (lv_sub hl [0, 1] rfl)
  · replace h := ite_f c1 h
    refine lv_aload_n hx hb dX11_ends_7 rfl (lv_at hl 0 rfl) ?_
    refine gw_get (v := .ref (B + (a0 + 2))) hC hW fl_X11_13 k0.1 (k0.2.1 T B (μ a0)) rfl dX11_ends_8 ?_
    refine lv_iconst (v := 0) hx hb dX11_ends_11 (by decide) ?_
    refine lv_aload_n hx hb dX11_ends_12 rfl (lv_at hl 0 rfl) ?_
    refine gw_get (v := .ref (B + (a0 + 1))) hC hW fl_X11_9 k0.1 (k0.2.1 T B (μ a0)) rfl dX11_ends_13 ?_
    refine lv_iconst (v := 0) hx hb dX11_ends_16 (by decide) ?_
    refine lv_sipush (v := 817) hx hb dX11_ends_17 (by decide) ?_
    obtain ⟨μ17, e18, hc19, h⟩ := acp_o h
    refine gw_copy hC (hml.trans hl.1.symm) lm_X11_54 lb_copy.1 lb_copy.2.1 lb_copy.2.2 hS hW hA k0.2.2.2.1.1 k0.2.2.1.1 (k0.2.2.2.1.2 T B) (k0.2.2.1.2 T B) (t0 := 0) rfl e18 hc19 (Nat.le_of_ble_eq_true rfl) (Nat.le_of_ble_eq_true rfl) dX11_ends_20 (fun H locs hW hS => ?_)
    refine lv_iconst (v := 0) hx hb dX11_ends_23 (by decide) ?_
    cases h
    exact hend dX11_ends_24 hW hS (Nat.le_of_ble_eq_true rfl) (Nat.le_of_ble_eq_true rfl)

theorem dX11_fails_0 : decode cX11_fails 0 = .ok (.aload_n 0, 1) := by decide +kernel
theorem dX11_fails_1 : decode cX11_fails 1 = .ok (.iload_n 1, 1) := by decide +kernel
theorem dX11_fails_2 : decode cX11_fails 2 = .ok (.putfield 51, 3) := by decide +kernel
theorem dX11_fails_5 : decode cX11_fails 5 = .ok (.iconst 0, 1) := by decide +kernel
theorem dX11_fails_6 : decode cX11_fails 6 = .ok (.ireturn, 1) := by decide +kernel
abbrev rmX11_fails : Room := { frames := 2, cells := 0, slots := 0, locals := 60 }
set_option maxHeartbeats 4000000 in
set_option maxRecDepth 100000 in
theorem metX11_fails {l : Launch} {s0 : State} {b B : Nat} {D : va_G} {T : Nat → ClassId} (F : FX l s0 b D T B) {X : Nat → Prop} (hX : ∀ o, o < 12 → ¬ X (B + o)) {N : Nat} {μ : Mem} {a0 : Nat} {a1 : Int32} {r : Mem × Int32} (k0 : IsMo a0) (h : fX11_fails N μ a0 a1 = some r) : gMet l yX11_fails cX11_fails 2 (some .int) rmX11_fails [.ref (B + a0), .int a1] (gWM D T B μ) (KC s0 X) (some (.int r.2)) (gWM D T B r.1) (gA B X) 0 0 := by
  refine gI_of RX11 (by decide +kernel) rfl (Nat.le_of_ble_eq_true rfl) ?_
  intro p e s m args below meth c ls Q hx hb hlocks hml hown hts hW hk hl hS hend
  have hC := FX_C F hk hx hb hown hts
  have hA := gA_allM hX
  have hl : lv_has ls 2 [(0, .ref (B + a0)), (1, .int a1)] := hl
  unfold fX11_fails at h
  refine lv_aload_n hx hb dX11_fails_0 rfl (lv_at hl 0 rfl) ?_
  refine lv_iload_n hx hb dX11_fails_1 rfl (lv_at hl 1 rfl) ?_
  obtain ⟨μ1, e2, h⟩ := lt_out h
  refine gq_put hC hS hW hA fl_X11_51 k0.1 (k0.2.1 T B) (Nat.le_of_ble_eq_true rfl) rfl rfl rfl e2 dX11_fails_2 (fun H locs hW hS => ?_)
  refine lv_iconst (v := 0) hx hb dX11_fails_5 (by decide) ?_
  cases h
  exact hend dX11_fails_6 hW hS (Nat.le_of_ble_eq_true rfl) (Nat.le_of_ble_eq_true rfl)

theorem dX11_refuses_0 : decode cX11_refuses 0 = .ok (.aload_n 0, 1) := by decide +kernel
theorem dX11_refuses_1 : decode cX11_refuses 1 = .ok (.iload_n 1, 1) := by decide +kernel
theorem dX11_refuses_2 : decode cX11_refuses 2 = .ok (.putfield 63, 3) := by decide +kernel
theorem dX11_refuses_5 : decode cX11_refuses 5 = .ok (.aload_n 0, 1) := by decide +kernel
theorem dX11_refuses_6 : decode cX11_refuses 6 = .ok (.iload_n 2, 1) := by decide +kernel
theorem dX11_refuses_7 : decode cX11_refuses 7 = .ok (.putfield 66, 3) := by decide +kernel
theorem dX11_refuses_10 : decode cX11_refuses 10 = .ok (.aload_n 0, 1) := by decide +kernel
theorem dX11_refuses_11 : decode cX11_refuses 11 = .ok (.iconst 2, 1) := by decide +kernel
theorem dX11_refuses_12 : decode cX11_refuses 12 = .ok (.invokevirtual 69, 3) := by decide +kernel
theorem dX11_refuses_15 : decode cX11_refuses 15 = .ok (.ireturn, 1) := by decide +kernel
abbrev rmX11_refuses : Room := { frames := 3, cells := 0, slots := 0, locals := 81 }
set_option maxHeartbeats 4000000 in
set_option maxRecDepth 100000 in
theorem metX11_refuses {l : Launch} {s0 : State} {b B : Nat} {D : va_G} {T : Nat → ClassId} (F : FX l s0 b D T B) {X : Nat → Prop} (hX : ∀ o, o < 12 → ¬ X (B + o)) {N : Nat} {μ : Mem} {a0 : Nat} {a1 : Int32} {a2 : Int32} {r : Mem × Int32} (k0 : IsMo a0) (h : fX11_refuses N μ a0 a1 a2 = some r) : gMet l yX11_refuses cX11_refuses 3 (some .int) rmX11_refuses [.ref (B + a0), .int a1, .int a2] (gWM D T B μ) (KC s0 X) (some (.int r.2)) (gWM D T B r.1) (gA B X) 0 0 := by
  refine gI_of RX11 (by decide +kernel) rfl (Nat.le_of_ble_eq_true rfl) ?_
  intro p e s m args below meth c ls Q hx hb hlocks hml hown hts hW hk hl hS hend
  have hC := FX_C F hk hx hb hown hts
  have hA := gA_allM hX
  have hl : lv_has ls 3 [(0, .ref (B + a0)), (1, .int a1), (2, .int a2)] := hl
  unfold fX11_refuses at h
  refine lv_aload_n hx hb dX11_refuses_0 rfl (lv_at hl 0 rfl) ?_
  refine lv_iload_n hx hb dX11_refuses_1 rfl (lv_at hl 1 rfl) ?_
  obtain ⟨μ1, e2, h⟩ := lt_out h
  refine gq_put hC hS hW hA fl_X11_63 k0.1 (k0.2.1 T B) (Nat.le_of_ble_eq_true rfl) rfl rfl rfl e2 dX11_refuses_2 (fun H locs hW hS => ?_)
  refine lv_aload_n hx hb dX11_refuses_5 rfl (lv_at hl 0 rfl) ?_
  refine lv_iload_n hx hb dX11_refuses_6 rfl (lv_at hl 2 rfl) ?_
  obtain ⟨μ3, e4, h⟩ := lt_out h
  refine gq_put hC hS hW hA fl_X11_66 k0.1 (k0.2.1 T B) (Nat.le_of_ble_eq_true rfl) rfl rfl rfl e4 dX11_refuses_7 (fun H locs hW hS => ?_)
  refine lv_aload_n hx hb dX11_refuses_10 rfl (lv_at hl 0 rfl) ?_
  refine lv_iconst (v := 2) hx hb dX11_refuses_11 (by decide) ?_
  obtain ⟨r5, hcall, h⟩ := bd_out h
  refine g0_callV (As := [.int 2]) hC hml hS hW (KC_at hk hS F.2.2.2.2) KC_blind (metX11_fails F hX k0 hcall) ml_X11_69 (gw_recv hC hW k0.1 (k0.2.1 T B (μ3 a0)) rfl) ⟨rfl, rfl, Nat.le_of_ble_eq_true rfl, Nat.le_of_ble_eq_true rfl⟩ rfl hl.1 rfl (Nat.le_of_ble_eq_true rfl) dX11_refuses_12 ⟨Nat.le_of_ble_eq_true rfl, Nat.le_of_ble_eq_true rfl⟩ (fun H locs hW hS => ?_)
  cases h
  exact hend dX11_refuses_15 hW hS (Nat.le_of_ble_eq_true rfl) (Nat.le_of_ble_eq_true rfl)

theorem dX11_isThere_0 : decode cX11_isThere 0 = .ok (.aload_n 0, 1) := by decide +kernel
theorem dX11_isThere_1 : decode cX11_isThere 1 = .ok (.iload_n 1, 1) := by decide +kernel
theorem dX11_isThere_2 : decode cX11_isThere 2 = .ok (.ifCond .eq 7, 3) := by decide +kernel
theorem dX11_isThere_5 : decode cX11_isThere 5 = .ok (.iconst 0, 1) := by decide +kernel
theorem dX11_isThere_6 : decode cX11_isThere 6 = .ok (.goto 4, 3) := by decide +kernel
theorem dX11_isThere_9 : decode cX11_isThere 9 = .ok (.iconst 1, 1) := by decide +kernel
theorem dX11_isThere_10 : decode cX11_isThere 10 = .ok (.putfield 51, 3) := by decide +kernel
theorem dX11_isThere_13 : decode cX11_isThere 13 = .ok (.iload_n 1, 1) := by decide +kernel
theorem dX11_isThere_14 : decode cX11_isThere 14 = .ok (.ireturn, 1) := by decide +kernel
abbrev rmX11_isThere : Room := { frames := 2, cells := 0, slots := 0, locals := 60 }
set_option maxHeartbeats 4000000 in
set_option maxRecDepth 100000 in
theorem metX11_isThere {l : Launch} {s0 : State} {b B : Nat} {D : va_G} {T : Nat → ClassId} (F : FX l s0 b D T B) {X : Nat → Prop} (hX : ∀ o, o < 12 → ¬ X (B + o)) {N : Nat} {μ : Mem} {a0 : Nat} {a1 : Bool} {r : Mem × Bool} (k0 : IsMo a0) (h : fX11_isThere N μ a0 a1 = some r) : gMet l yX11_isThere cX11_isThere 2 (some .boolean) rmX11_isThere [.ref (B + a0), .int (b2i a1)] (gWM D T B μ) (KC s0 X) (some (.int (b2i r.2))) (gWM D T B r.1) (gA B X) 0 0 := by
  refine gZ_of RX11 (by decide +kernel) rfl (Nat.le_of_ble_eq_true rfl) ?_
  intro p e s m args below meth c ls Q hx hb hlocks hml hown hts hW hk hl hS hend
  have hC := FX_C F hk hx hb hown hts
  have hA := gA_allM hX
  have hl : lv_has ls 2 [(0, .ref (B + a0)), (1, .int (b2i a1))] := hl
  unfold fX11_isThere at h
  refine lv_aload_n hx hb dX11_isThere_0 rfl (lv_at hl 0 rfl) ?_
  refine lv_iload_n hx hb dX11_isThere_1 rfl (lv_at hl 1 rfl) ?_
  obtain ⟨j2, hj4, h⟩ := jn1_o h
  have J3 : ∀ (y1 : Bool), j2 y1 = some r → ∀ (H : Heap) (locs : List Loc) (ls : Array Slot), gWM D T B μ H → va_S (gA B X) s.heap H locs → lv_has ls 2 [(1, .int (b2i a1))] → W p l e rmX11_isThere s m args below meth c H locs 0 0 Q (F0 m 10 ls [.int (b2i y1), .ref (B + a0)]) := by
    clear h hW hS hl
    intro y1 h H locs ls hW hS hl
    replace h := (hj4 y1).symm.trans h
    obtain ⟨μ5, e6, h⟩ := lt_out h
    refine gq_put hC hS hW hA fl_X11_51 k0.1 (k0.2.1 T B) (Nat.le_of_ble_eq_true rfl) rfl rfl rfl e6 dX11_isThere_10 (fun H locs hW hS => ?_)
    refine lv_iload_n hx hb dX11_isThere_13 rfl (lv_at hl 0 rfl) ?_
    cases h
    exact hend dX11_isThere_14 hW hS (Nat.le_of_ble_eq_true rfl) (Nat.le_of_ble_eq_true rfl)
  refine gw_if_eqZ (tgt := 9) hx hb dX11_isThere_2 (by decide) (fun c7 => ?_) (fun c7 => ?_)
  · replace h := cond_f c7 h
    refine lv_iconst (v := 1) hx hb dX11_isThere_9 (by decide) ?_
    exact J3 _ h _ _ _ hW hS (lv_sub hl [1] rfl)
  · replace h := cond_t c7 h
    refine lv_iconst (v := 0) hx hb dX11_isThere_5 (by decide) ?_
    refine lv_goto (tgt := 10) hx hb dX11_isThere_6 (by decide) ?_
    exact J3 _ h _ _ _ hW hS (lv_sub hl [1] rfl)

theorem dX11_isRoom_0 : decode cX11_isRoom 0 = .ok (.iload_n 1, 1) := by decide +kernel
theorem dX11_isRoom_1 : decode cX11_isRoom 1 = .ok (.iconst 0, 1) := by decide +kernel
theorem dX11_isRoom_2 : decode cX11_isRoom 2 = .ok (.aload_n 0, 1) := by decide +kernel
theorem dX11_isRoom_3 : decode cX11_isRoom 3 = .ok (.getfield 9, 3) := by decide +kernel
theorem dX11_isRoom_6 : decode cX11_isRoom 6 = .ok (.iconst 0, 1) := by decide +kernel
theorem dX11_isRoom_7 : decode cX11_isRoom 7 = .ok (.iaload, 1) := by decide +kernel
theorem dX11_isRoom_8 : decode cX11_isRoom 8 = .ok (.iconst 1, 1) := by decide +kernel
theorem dX11_isRoom_9 : decode cX11_isRoom 9 = .ok (.isub, 1) := by decide +kernel
theorem dX11_isRoom_10 : decode cX11_isRoom 10 = .ok (.invokestatic 73, 3) := by decide +kernel
theorem dX11_isRoom_13 : decode cX11_isRoom 13 = .ok (.ireturn, 1) := by decide +kernel
abbrev rmX11_isRoom : Room := { frames := 3, cells := 0, slots := 0, locals := 82 }
set_option maxHeartbeats 4000000 in
set_option maxRecDepth 100000 in
theorem metX11_isRoom {l : Launch} {s0 : State} {b B : Nat} {D : va_G} {T : Nat → ClassId} (F : FX l s0 b D T B) {X : Nat → Prop} (hX : ∀ o, o < 12 → ¬ X (B + o)) {N : Nat} {μ : Mem} {a0 : Nat} {a1 : Int32} {r : Bool} (k0 : IsMo a0) (h : fX11_isRoom N μ a0 a1 = some r) : gMet l yX11_isRoom cX11_isRoom 2 (some .boolean) rmX11_isRoom [.ref (B + a0), .int a1] (gWM D T B μ) (KC s0 X) (some (.int (b2i r))) (gWM D T B μ) (gA B X) 0 0 := by
  refine gZ_of RX11 (by decide +kernel) rfl (Nat.le_of_ble_eq_true rfl) ?_
  intro p e s m args below meth c ls Q hx hb hlocks hml hown hts hW hk hl hS hend
  have hC := FX_C F hk hx hb hown hts
  have hA := gA_allM hX
  have hl : lv_has ls 2 [(0, .ref (B + a0)), (1, .int a1)] := hl
  unfold fX11_isRoom at h
  refine lv_iload_n hx hb dX11_isRoom_0 rfl (lv_at hl 1 rfl) ?_
  refine lv_iconst (v := 0) hx hb dX11_isRoom_1 (by decide) ?_
  refine lv_aload_n hx hb dX11_isRoom_2 rfl (lv_at hl 0 rfl) ?_
  refine gw_get (v := .ref (B + (a0 + 1))) hC hW fl_X11_9 k0.1 (k0.2.1 T B (μ a0)) rfl dX11_isRoom_3 ?_
  refine lv_iconst (v := 0) hx hb dX11_isRoom_6 (by decide) ?_
  obtain ⟨v1, e2, hi3, h⟩ := ag_o h
  refine gq_iald hC hW k0.2.2.1.1 (k0.2.2.1.2 T B (μ (a0 + 1))) (t0 := 0) rfl e2 hi3 dX11_isRoom_7 ?_
  refine lv_iconst (v := 1) hx hb dX11_isRoom_8 (by decide) ?_
  refine lv_isub hx hb dX11_isRoom_9 ?_
  obtain ⟨r4, hcall, h⟩ := bd_out h
  refine g0_callS (As := [.int a1, .int 0, .int (v1 - 1)]) hC hml hS hW (KC_at hk hS F.2.2.2.2) KC_blind (metX11_in F hX  hcall) ml_X11_73 ⟨rfl, rfl, Nat.le_of_ble_eq_true rfl, Nat.le_of_ble_eq_true rfl⟩ rfl hl.1 rfl (Nat.le_of_ble_eq_true rfl) dX11_isRoom_10 ⟨Nat.le_of_ble_eq_true rfl, Nat.le_of_ble_eq_true rfl⟩ (fun H locs hW hS => ?_)
  cases h
  exact hend dX11_isRoom_13 hW hS (Nat.le_of_ble_eq_true rfl) (Nat.le_of_ble_eq_true rfl)

theorem dX11_isExhibit_0 : decode cX11_isExhibit 0 = .ok (.iload_n 1, 1) := by decide +kernel
theorem dX11_isExhibit_1 : decode cX11_isExhibit 1 = .ok (.iconst 0, 1) := by decide +kernel
theorem dX11_isExhibit_2 : decode cX11_isExhibit 2 = .ok (.aload_n 0, 1) := by decide +kernel
theorem dX11_isExhibit_3 : decode cX11_isExhibit 3 = .ok (.getfield 9, 3) := by decide +kernel
theorem dX11_isExhibit_6 : decode cX11_isExhibit 6 = .ok (.iconst 1, 1) := by decide +kernel
theorem dX11_isExhibit_7 : decode cX11_isExhibit 7 = .ok (.iaload, 1) := by decide +kernel
theorem dX11_isExhibit_8 : decode cX11_isExhibit 8 = .ok (.iconst 1, 1) := by decide +kernel
theorem dX11_isExhibit_9 : decode cX11_isExhibit 9 = .ok (.isub, 1) := by decide +kernel
theorem dX11_isExhibit_10 : decode cX11_isExhibit 10 = .ok (.invokestatic 73, 3) := by decide +kernel
theorem dX11_isExhibit_13 : decode cX11_isExhibit 13 = .ok (.ireturn, 1) := by decide +kernel
abbrev rmX11_isExhibit : Room := { frames := 3, cells := 0, slots := 0, locals := 82 }
set_option maxHeartbeats 4000000 in
set_option maxRecDepth 100000 in
theorem metX11_isExhibit {l : Launch} {s0 : State} {b B : Nat} {D : va_G} {T : Nat → ClassId} (F : FX l s0 b D T B) {X : Nat → Prop} (hX : ∀ o, o < 12 → ¬ X (B + o)) {N : Nat} {μ : Mem} {a0 : Nat} {a1 : Int32} {r : Bool} (k0 : IsMo a0) (h : fX11_isExhibit N μ a0 a1 = some r) : gMet l yX11_isExhibit cX11_isExhibit 2 (some .boolean) rmX11_isExhibit [.ref (B + a0), .int a1] (gWM D T B μ) (KC s0 X) (some (.int (b2i r))) (gWM D T B μ) (gA B X) 0 0 := by
  refine gZ_of RX11 (by decide +kernel) rfl (Nat.le_of_ble_eq_true rfl) ?_
  intro p e s m args below meth c ls Q hx hb hlocks hml hown hts hW hk hl hS hend
  have hC := FX_C F hk hx hb hown hts
  have hA := gA_allM hX
  have hl : lv_has ls 2 [(0, .ref (B + a0)), (1, .int a1)] := hl
  unfold fX11_isExhibit at h
  refine lv_iload_n hx hb dX11_isExhibit_0 rfl (lv_at hl 1 rfl) ?_
  refine lv_iconst (v := 0) hx hb dX11_isExhibit_1 (by decide) ?_
  refine lv_aload_n hx hb dX11_isExhibit_2 rfl (lv_at hl 0 rfl) ?_
  refine gw_get (v := .ref (B + (a0 + 1))) hC hW fl_X11_9 k0.1 (k0.2.1 T B (μ a0)) rfl dX11_isExhibit_3 ?_
  refine lv_iconst (v := 1) hx hb dX11_isExhibit_6 (by decide) ?_
  obtain ⟨v1, e2, hi3, h⟩ := ag_o h
  refine gq_iald hC hW k0.2.2.1.1 (k0.2.2.1.2 T B (μ (a0 + 1))) (t0 := 0) rfl e2 hi3 dX11_isExhibit_7 ?_
  refine lv_iconst (v := 1) hx hb dX11_isExhibit_8 (by decide) ?_
  refine lv_isub hx hb dX11_isExhibit_9 ?_
  obtain ⟨r4, hcall, h⟩ := bd_out h
  refine g0_callS (As := [.int a1, .int 0, .int (v1 - 1)]) hC hml hS hW (KC_at hk hS F.2.2.2.2) KC_blind (metX11_in F hX  hcall) ml_X11_73 ⟨rfl, rfl, Nat.le_of_ble_eq_true rfl, Nat.le_of_ble_eq_true rfl⟩ rfl hl.1 rfl (Nat.le_of_ble_eq_true rfl) dX11_isExhibit_10 ⟨Nat.le_of_ble_eq_true rfl, Nat.le_of_ble_eq_true rfl⟩ (fun H locs hW hS => ?_)
  cases h
  exact hend dX11_isExhibit_13 hW hS (Nat.le_of_ble_eq_true rfl) (Nat.le_of_ble_eq_true rfl)

theorem dX11_of_0 : decode cX11_of 0 = .ok (.aload_n 0, 1) := by decide +kernel
theorem dX11_of_1 : decode cX11_of 1 = .ok (.getfield 9, 3) := by decide +kernel
theorem dX11_of_4 : decode cX11_of 4 = .ok (.bipush 82, 2) := by decide +kernel
theorem dX11_of_6 : decode cX11_of 6 = .ok (.sipush 147, 3) := by decide +kernel
theorem dX11_of_9 : decode cX11_of 9 = .ok (.iload_n 1, 1) := by decide +kernel
theorem dX11_of_10 : decode cX11_of 10 = .ok (.imul, 1) := by decide +kernel
theorem dX11_of_11 : decode cX11_of 11 = .ok (.iadd, 1) := by decide +kernel
theorem dX11_of_12 : decode cX11_of 12 = .ok (.iload_n 2, 1) := by decide +kernel
theorem dX11_of_13 : decode cX11_of 13 = .ok (.iadd, 1) := by decide +kernel
theorem dX11_of_14 : decode cX11_of 14 = .ok (.iaload, 1) := by decide +kernel
theorem dX11_of_15 : decode cX11_of 15 = .ok (.ireturn, 1) := by decide +kernel
abbrev rmX11_of : Room := { frames := 2, cells := 0, slots := 0, locals := 60 }
set_option maxHeartbeats 4000000 in
set_option maxRecDepth 100000 in
theorem metX11_of {l : Launch} {s0 : State} {b B : Nat} {D : va_G} {T : Nat → ClassId} (F : FX l s0 b D T B) {X : Nat → Prop} (hX : ∀ o, o < 12 → ¬ X (B + o)) {N : Nat} {μ : Mem} {a0 : Nat} {a1 : Int32} {a2 : Int32} {r : Int32} (k0 : IsMo a0) (h : fX11_of N μ a0 a1 a2 = some r) : gMet l yX11_of cX11_of 3 (some .int) rmX11_of [.ref (B + a0), .int a1, .int a2] (gWM D T B μ) (KC s0 X) (some (.int r)) (gWM D T B μ) (gA B X) 0 0 := by
  refine gI_of RX11 (by decide +kernel) rfl (Nat.le_of_ble_eq_true rfl) ?_
  intro p e s m args below meth c ls Q hx hb hlocks hml hown hts hW hk hl hS hend
  have hC := FX_C F hk hx hb hown hts
  have hA := gA_allM hX
  have hl : lv_has ls 3 [(0, .ref (B + a0)), (1, .int a1), (2, .int a2)] := hl
  unfold fX11_of at h
  refine lv_aload_n hx hb dX11_of_0 rfl (lv_at hl 0 rfl) ?_
  refine gw_get (v := .ref (B + (a0 + 1))) hC hW fl_X11_9 k0.1 (k0.2.1 T B (μ a0)) rfl dX11_of_1 ?_
  refine lv_bipush (v := 82) hx hb dX11_of_4 (by decide) ?_
  refine lv_sipush (v := 147) hx hb dX11_of_6 (by decide) ?_
  refine lv_iload_n hx hb dX11_of_9 rfl (lv_at hl 1 rfl) ?_
  refine lv_imul hx hb dX11_of_10 ?_
  refine lv_iadd hx hb dX11_of_11 ?_
  refine lv_iload_n hx hb dX11_of_12 rfl (lv_at hl 2 rfl) ?_
  refine lv_iadd hx hb dX11_of_13 ?_
  obtain ⟨v1, e2, hi3, h⟩ := ag_o h
  refine gq_iald hC hW k0.2.2.1.1 (k0.2.2.1.2 T B (μ (a0 + 1))) (t0 := 0) rfl e2 hi3 dX11_of_14 ?_
  cases h
  exact hend dX11_of_15 hW hS (Nat.le_of_ble_eq_true rfl) (Nat.le_of_ble_eq_true rfl)

theorem dX11_sets_0 : decode cX11_sets 0 = .ok (.aload_n 0, 1) := by decide +kernel
theorem dX11_sets_1 : decode cX11_sets 1 = .ok (.getfield 9, 3) := by decide +kernel
theorem dX11_sets_4 : decode cX11_sets 4 = .ok (.bipush 82, 2) := by decide +kernel
theorem dX11_sets_6 : decode cX11_sets 6 = .ok (.sipush 147, 3) := by decide +kernel
theorem dX11_sets_9 : decode cX11_sets 9 = .ok (.iload_n 1, 1) := by decide +kernel
theorem dX11_sets_10 : decode cX11_sets 10 = .ok (.imul, 1) := by decide +kernel
theorem dX11_sets_11 : decode cX11_sets 11 = .ok (.iadd, 1) := by decide +kernel
theorem dX11_sets_12 : decode cX11_sets 12 = .ok (.iload_n 2, 1) := by decide +kernel
theorem dX11_sets_13 : decode cX11_sets 13 = .ok (.iadd, 1) := by decide +kernel
theorem dX11_sets_14 : decode cX11_sets 14 = .ok (.iload_n 3, 1) := by decide +kernel
theorem dX11_sets_15 : decode cX11_sets 15 = .ok (.iastore, 1) := by decide +kernel
theorem dX11_sets_16 : decode cX11_sets 16 = .ok (.return_, 1) := by decide +kernel
abbrev rmX11_sets : Room := { frames := 2, cells := 0, slots := 0, locals := 60 }
set_option maxHeartbeats 4000000 in
set_option maxRecDepth 100000 in
theorem metX11_sets {l : Launch} {s0 : State} {b B : Nat} {D : va_G} {T : Nat → ClassId} (F : FX l s0 b D T B) {X : Nat → Prop} (hX : ∀ o, o < 12 → ¬ X (B + o)) {N : Nat} {μ : Mem} {a0 : Nat} {a1 : Int32} {a2 : Int32} {a3 : Int32} {r : Mem} (k0 : IsMo a0) (h : fX11_sets N μ a0 a1 a2 a3 = some r) : gMet l yX11_sets cX11_sets 4 none rmX11_sets [.ref (B + a0), .int a1, .int a2, .int a3] (gWM D T B μ) (KC s0 X) none (gWM D T B r) (gA B X) 0 0 := by
  refine gV_of RX11 (by decide +kernel) rfl (Nat.le_of_ble_eq_true rfl) ?_
  intro p e s m args below meth c ls Q hx hb hlocks hml hown hts hW hk hl hS hend
  have hC := FX_C F hk hx hb hown hts
  have hA := gA_allM hX
  have hl : lv_has ls 4 [(0, .ref (B + a0)), (1, .int a1), (2, .int a2), (3, .int a3)] := hl
  unfold fX11_sets at h
  refine lv_aload_n hx hb dX11_sets_0 rfl (lv_at hl 0 rfl) ?_
  refine gw_get (v := .ref (B + (a0 + 1))) hC hW fl_X11_9 k0.1 (k0.2.1 T B (μ a0)) rfl dX11_sets_1 ?_
  refine lv_bipush (v := 82) hx hb dX11_sets_4 (by decide) ?_
  refine lv_sipush (v := 147) hx hb dX11_sets_6 (by decide) ?_
  refine lv_iload_n hx hb dX11_sets_9 rfl (lv_at hl 1 rfl) ?_
  refine lv_imul hx hb dX11_sets_10 ?_
  refine lv_iadd hx hb dX11_sets_11 ?_
  refine lv_iload_n hx hb dX11_sets_12 rfl (lv_at hl 2 rfl) ?_
  refine lv_iadd hx hb dX11_sets_13 ?_
  refine lv_iload_n hx hb dX11_sets_14 rfl (lv_at hl 3 rfl) ?_
  obtain ⟨μ1, e2, hi3, h⟩ := aw_o h
  refine gq_iast hC hS hW hA k0.2.2.1.1 (k0.2.2.1.2 T B) (t0 := 0) rfl e2 hi3 dX11_sets_15 (fun H locs hW hS => ?_)
  cases h
  exact hend dX11_sets_16 hW hS (Nat.le_of_ble_eq_true rfl) (Nat.le_of_ble_eq_true rfl)

theorem dX11_passed_0 : decode cX11_passed 0 = .ok (.iconst 0, 1) := by decide +kernel
theorem dX11_passed_1 : decode cX11_passed 1 = .ok (.iload_n 0, 1) := by decide +kernel
theorem dX11_passed_2 : decode cX11_passed 2 = .ok (.iload_n 1, 1) := by decide +kernel
theorem dX11_passed_3 : decode cX11_passed 3 = .ok (.isub, 1) := by decide +kernel
theorem dX11_passed_4 : decode cX11_passed 4 = .ok (.invokestatic 77, 3) := by decide +kernel
theorem dX11_passed_7 : decode cX11_passed 7 = .ok (.ireturn, 1) := by decide +kernel
abbrev rmX11_passed : Room := { frames := 2, cells := 0, slots := 0, locals := 60 }
set_option maxHeartbeats 4000000 in
set_option maxRecDepth 100000 in
theorem metX11_passed {l : Launch} {s0 : State} {b B : Nat} {D : va_G} {T : Nat → ClassId} (F : FX l s0 b D T B) {X : Nat → Prop} (hX : ∀ o, o < 12 → ¬ X (B + o)) {N : Nat} {μ : Mem} {a0 : Int32} {a1 : Int32} {r : Int32}  (h : fX11_passed N μ a0 a1 = some r) : gMet l yX11_passed cX11_passed 2 (some .int) rmX11_passed [.int a0, .int a1] (gWM D T B μ) (KC s0 X) (some (.int r)) (gWM D T B μ) (gA B X) 0 0 := by
  refine gI_of RX11 (by decide +kernel) rfl (Nat.le_of_ble_eq_true rfl) ?_
  intro p e s m args below meth c ls Q hx hb hlocks hml hown hts hW hk hl hS hend
  have hC := FX_C F hk hx hb hown hts
  have hA := gA_allM hX
  have hl : lv_has ls 2 [(0, .int a0), (1, .int a1)] := hl
  unfold fX11_passed at h
  refine lv_iconst (v := 0) hx hb dX11_passed_0 (by decide) ?_
  refine lv_iload_n hx hb dX11_passed_1 rfl (lv_at hl 0 rfl) ?_
  refine lv_iload_n hx hb dX11_passed_2 rfl (lv_at hl 1 rfl) ?_
  refine lv_isub hx hb dX11_passed_3 ?_
  refine gw_max hC (hml.trans hl.1.symm) lm_X11_77 lb_max.1 lb_max.2.1 lb_max.2.2 (Nat.le_of_ble_eq_true rfl) (Nat.le_of_ble_eq_true rfl) (Nat.le_of_ble_eq_true rfl) (Nat.le_of_ble_eq_true rfl) dX11_passed_4 ?_
  cases h
  exact hend dX11_passed_7 hW hS (Nat.le_of_ble_eq_true rfl) (Nat.le_of_ble_eq_true rfl)

theorem dX11_doAddRoom_0 : decode cX11_doAddRoom 0 = .ok (.aload_n 0, 1) := by decide +kernel
theorem dX11_doAddRoom_1 : decode cX11_doAddRoom 1 = .ok (.getfield 9, 3) := by decide +kernel
theorem dX11_doAddRoom_4 : decode cX11_doAddRoom 4 = .ok (.iconst 0, 1) := by decide +kernel
theorem dX11_doAddRoom_5 : decode cX11_doAddRoom 5 = .ok (.iaload, 1) := by decide +kernel
theorem dX11_doAddRoom_6 : decode cX11_doAddRoom 6 = .ok (.istore_n 2, 1) := by decide +kernel
theorem dX11_doAddRoom_7 : decode cX11_doAddRoom 7 = .ok (.iload_n 1, 1) := by decide +kernel
theorem dX11_doAddRoom_8 : decode cX11_doAddRoom 8 = .ok (.iconst 0, 1) := by decide +kernel
theorem dX11_doAddRoom_9 : decode cX11_doAddRoom 9 = .ok (.bipush 9, 2) := by decide +kernel
theorem dX11_doAddRoom_11 : decode cX11_doAddRoom 11 = .ok (.invokestatic 73, 3) := by decide +kernel
theorem dX11_doAddRoom_14 : decode cX11_doAddRoom 14 = .ok (.ifCond .ne 9, 3) := by decide +kernel
theorem dX11_doAddRoom_17 : decode cX11_doAddRoom 17 = .ok (.aload_n 0, 1) := by decide +kernel
theorem dX11_doAddRoom_18 : decode cX11_doAddRoom 18 = .ok (.iconst 1, 1) := by decide +kernel
theorem dX11_doAddRoom_19 : decode cX11_doAddRoom 19 = .ok (.invokevirtual 69, 3) := by decide +kernel
theorem dX11_doAddRoom_22 : decode cX11_doAddRoom 22 = .ok (.ireturn, 1) := by decide +kernel
theorem dX11_doAddRoom_23 : decode cX11_doAddRoom 23 = .ok (.iload_n 2, 1) := by decide +kernel
theorem dX11_doAddRoom_24 : decode cX11_doAddRoom 24 = .ok (.bipush 6, 2) := by decide +kernel
theorem dX11_doAddRoom_26 : decode cX11_doAddRoom 26 = .ok (.if_icmp .ne 9, 3) := by decide +kernel
theorem dX11_doAddRoom_29 : decode cX11_doAddRoom 29 = .ok (.aload_n 0, 1) := by decide +kernel
theorem dX11_doAddRoom_30 : decode cX11_doAddRoom 30 = .ok (.iconst 2, 1) := by decide +kernel
theorem dX11_doAddRoom_31 : decode cX11_doAddRoom 31 = .ok (.invokevirtual 69, 3) := by decide +kernel
theorem dX11_doAddRoom_34 : decode cX11_doAddRoom 34 = .ok (.ireturn, 1) := by decide +kernel
theorem dX11_doAddRoom_35 : decode cX11_doAddRoom 35 = .ok (.aload_n 0, 1) := by decide +kernel
theorem dX11_doAddRoom_36 : decode cX11_doAddRoom 36 = .ok (.getfield 9, 3) := by decide +kernel
theorem dX11_doAddRoom_39 : decode cX11_doAddRoom 39 = .ok (.iconst 4, 1) := by decide +kernel
theorem dX11_doAddRoom_40 : decode cX11_doAddRoom 40 = .ok (.iload_n 2, 1) := by decide +kernel
theorem dX11_doAddRoom_41 : decode cX11_doAddRoom 41 = .ok (.iadd, 1) := by decide +kernel
theorem dX11_doAddRoom_42 : decode cX11_doAddRoom 42 = .ok (.iload_n 1, 1) := by decide +kernel
theorem dX11_doAddRoom_43 : decode cX11_doAddRoom 43 = .ok (.iastore, 1) := by decide +kernel
theorem dX11_doAddRoom_44 : decode cX11_doAddRoom 44 = .ok (.aload_n 0, 1) := by decide +kernel
theorem dX11_doAddRoom_45 : decode cX11_doAddRoom 45 = .ok (.getfield 9, 3) := by decide +kernel
theorem dX11_doAddRoom_48 : decode cX11_doAddRoom 48 = .ok (.iconst 0, 1) := by decide +kernel
theorem dX11_doAddRoom_49 : decode cX11_doAddRoom 49 = .ok (.dup2, 1) := by decide +kernel
theorem dX11_doAddRoom_50 : decode cX11_doAddRoom 50 = .ok (.iaload, 1) := by decide +kernel
theorem dX11_doAddRoom_51 : decode cX11_doAddRoom 51 = .ok (.iconst 1, 1) := by decide +kernel
theorem dX11_doAddRoom_52 : decode cX11_doAddRoom 52 = .ok (.iadd, 1) := by decide +kernel
theorem dX11_doAddRoom_53 : decode cX11_doAddRoom 53 = .ok (.iastore, 1) := by decide +kernel
theorem dX11_doAddRoom_54 : decode cX11_doAddRoom 54 = .ok (.iload_n 2, 1) := by decide +kernel
theorem dX11_doAddRoom_55 : decode cX11_doAddRoom 55 = .ok (.ireturn, 1) := by decide +kernel
abbrev rmX11_doAddRoom : Room := { frames := 3, cells := 0, slots := 0, locals := 82 }
set_option maxHeartbeats 4000000 in
set_option maxRecDepth 100000 in
theorem metX11_doAddRoom {l : Launch} {s0 : State} {b B : Nat} {D : va_G} {T : Nat → ClassId} (F : FX l s0 b D T B) {X : Nat → Prop} (hX : ∀ o, o < 12 → ¬ X (B + o)) {N : Nat} {μ : Mem} {a0 : Nat} {a1 : Int32} {r : Mem × Int32} (k0 : IsMo a0) (h : fX11_doAddRoom N μ a0 a1 = some r) : gMet l yX11_doAddRoom cX11_doAddRoom 3 (some .int) rmX11_doAddRoom [.ref (B + a0), .int a1] (gWM D T B μ) (KC s0 X) (some (.int r.2)) (gWM D T B r.1) (gA B X) 0 0 := by
  refine gI_of RX11 (by decide +kernel) rfl (Nat.le_of_ble_eq_true rfl) ?_
  intro p e s m args below meth c ls Q hx hb hlocks hml hown hts hW hk hl hS hend
  have hC := FX_C F hk hx hb hown hts
  have hA := gA_allM hX
  have hl : lv_has ls 3 [(0, .ref (B + a0)), (1, .int a1)] := hl
  unfold fX11_doAddRoom at h
  refine lv_aload_n hx hb dX11_doAddRoom_0 rfl (lv_at hl 0 rfl) ?_
  refine gw_get (v := .ref (B + (a0 + 1))) hC hW fl_X11_9 k0.1 (k0.2.1 T B (μ a0)) rfl dX11_doAddRoom_1 ?_
  refine lv_iconst (v := 0) hx hb dX11_doAddRoom_4 (by decide) ?_
  obtain ⟨v1, e2, hi3, h⟩ := ag_o h
  refine gq_iald hC hW k0.2.2.1.1 (k0.2.2.1.2 T B (μ (a0 + 1))) (t0 := 0) rfl e2 hi3 dX11_doAddRoom_5 ?_
  refine lv_istore_n (lv' := [(2, .int v1), (0, .ref (B + a0)), (1, .int a1)]) hx hb dX11_doAddRoom_6 rfl hl (by decide) rfl (fun ls hl => ?_)
  refine lv_iload_n hx hb dX11_doAddRoom_7 rfl (lv_at hl 2 rfl) ?_
  refine lv_iconst (v := 0) hx hb dX11_doAddRoom_8 (by decide) ?_
  refine lv_bipush (v := 9) hx hb dX11_doAddRoom_9 (by decide) ?_
  obtain ⟨r4, hcall, h⟩ := bd_out h
  refine g0_callS (As := [.int a1, .int 0, .int 9]) hC hml hS hW (KC_at hk hS F.2.2.2.2) KC_blind (metX11_in F hX  hcall) ml_X11_73 ⟨rfl, rfl, Nat.le_of_ble_eq_true rfl, Nat.le_of_ble_eq_true rfl⟩ rfl hl.1 rfl (Nat.le_of_ble_eq_true rfl) dX11_doAddRoom_11 ⟨Nat.le_of_ble_eq_true rfl, Nat.le_of_ble_eq_true rfl⟩ (fun H locs hW hS => ?_)
  refine gw_if_neZ (tgt := 23) hx hb dX11_doAddRoom_14 (by decide) (fun c5 => ?_) (fun c5 => ?_)
  · replace h := cond_t c5 h
    refine lv_iload_n hx hb dX11_doAddRoom_23 rfl (lv_at hl 0 rfl) ?_
    refine lv_bipush (v := 6) hx hb dX11_doAddRoom_24 (by decide) ?_
    refine lv_icmp_ne (tgt := 35) hx hb dX11_doAddRoom_26 (by decide) (fun c6 => ?_) (fun c6 => ?_)
    · replace h := ite_f c6 h
      refine lv_aload_n hx hb dX11_doAddRoom_35 rfl (lv_at hl 1 rfl) ?_
      refine gw_get (v := .ref (B + (a0 + 1))) hC hW fl_X11_9 k0.1 (k0.2.1 T B (μ a0)) rfl dX11_doAddRoom_36 ?_
      refine lv_iconst (v := 4) hx hb dX11_doAddRoom_39 (by decide) ?_
      refine lv_iload_n hx hb dX11_doAddRoom_40 rfl (lv_at hl 0 rfl) ?_
      refine lv_iadd hx hb dX11_doAddRoom_41 ?_
      refine lv_iload_n hx hb dX11_doAddRoom_42 rfl (lv_at hl 2 rfl) ?_
      obtain ⟨μ7, e8, hi9, h⟩ := aw_o h
      refine gq_iast hC hS hW hA k0.2.2.1.1 (k0.2.2.1.2 T B) (t0 := 0) rfl e8 hi9 dX11_doAddRoom_43 (fun H locs hW hS => ?_)
      refine lv_aload_n hx hb dX11_doAddRoom_44 rfl (lv_at hl 1 rfl) ?_
      refine gw_get (v := .ref (B + (a0 + 1))) hC hW fl_X11_9 k0.1 (k0.2.1 T B (μ7 a0)) rfl dX11_doAddRoom_45 ?_
      refine lv_iconst (v := 0) hx hb dX11_doAddRoom_48 (by decide) ?_
      refine lv_dup2_11 hx hb dX11_doAddRoom_49 rfl rfl ?_
      obtain ⟨v10, e11, hi12, h⟩ := ag_o h
      refine gq_iald hC hW k0.2.2.1.1 (k0.2.2.1.2 T B (μ7 (a0 + 1))) (t0 := 0) rfl e11 hi12 dX11_doAddRoom_50 ?_
      refine lv_iconst (v := 1) hx hb dX11_doAddRoom_51 (by decide) ?_
      refine lv_iadd hx hb dX11_doAddRoom_52 ?_
      obtain ⟨μ13, e14, hi15, h⟩ := aw_o h
      refine gq_iast hC hS hW hA k0.2.2.1.1 (k0.2.2.1.2 T B) (t0 := 0) rfl e14 hi15 dX11_doAddRoom_53 (fun H locs hW hS => ?_)
      refine lv_iload_n hx hb dX11_doAddRoom_54 rfl (lv_at hl 0 rfl) ?_
      cases h
      exact hend dX11_doAddRoom_55 hW hS (Nat.le_of_ble_eq_true rfl) (Nat.le_of_ble_eq_true rfl)
    · replace h := ite_t c6 h
      refine lv_aload_n hx hb dX11_doAddRoom_29 rfl (lv_at hl 1 rfl) ?_
      refine lv_iconst (v := 2) hx hb dX11_doAddRoom_30 (by decide) ?_
      obtain ⟨r16, hcall, h⟩ := bd_out h
      refine g0_callV (As := [.int 2]) hC hml hS hW (KC_at hk hS F.2.2.2.2) KC_blind (metX11_fails F hX k0 hcall) ml_X11_69 (gw_recv hC hW k0.1 (k0.2.1 T B (μ a0)) rfl) ⟨rfl, rfl, Nat.le_of_ble_eq_true rfl, Nat.le_of_ble_eq_true rfl⟩ rfl hl.1 rfl (Nat.le_of_ble_eq_true rfl) dX11_doAddRoom_31 ⟨Nat.le_of_ble_eq_true rfl, Nat.le_of_ble_eq_true rfl⟩ (fun H locs hW hS => ?_)
      cases h
      exact hend dX11_doAddRoom_34 hW hS (Nat.le_of_ble_eq_true rfl) (Nat.le_of_ble_eq_true rfl)
  · replace h := cond_f c5 h
    refine lv_aload_n hx hb dX11_doAddRoom_17 rfl (lv_at hl 1 rfl) ?_
    refine lv_iconst (v := 1) hx hb dX11_doAddRoom_18 (by decide) ?_
    obtain ⟨r17, hcall, h⟩ := bd_out h
    refine g0_callV (As := [.int 1]) hC hml hS hW (KC_at hk hS F.2.2.2.2) KC_blind (metX11_fails F hX k0 hcall) ml_X11_69 (gw_recv hC hW k0.1 (k0.2.1 T B (μ a0)) rfl) ⟨rfl, rfl, Nat.le_of_ble_eq_true rfl, Nat.le_of_ble_eq_true rfl⟩ rfl hl.1 rfl (Nat.le_of_ble_eq_true rfl) dX11_doAddRoom_19 ⟨Nat.le_of_ble_eq_true rfl, Nat.le_of_ble_eq_true rfl⟩ (fun H locs hW hS => ?_)
    cases h
    exact hend dX11_doAddRoom_22 hW hS (Nat.le_of_ble_eq_true rfl) (Nat.le_of_ble_eq_true rfl)

theorem dX11_addRoom_0 : decode cX11_addRoom 0 = .ok (.aload_n 0, 1) := by decide +kernel
theorem dX11_addRoom_1 : decode cX11_addRoom 1 = .ok (.invokevirtual 83, 3) := by decide +kernel
theorem dX11_addRoom_4 : decode cX11_addRoom 4 = .ok (.aload_n 0, 1) := by decide +kernel
theorem dX11_addRoom_5 : decode cX11_addRoom 5 = .ok (.aload_n 0, 1) := by decide +kernel
theorem dX11_addRoom_6 : decode cX11_addRoom 6 = .ok (.iload_n 1, 1) := by decide +kernel
theorem dX11_addRoom_7 : decode cX11_addRoom 7 = .ok (.invokevirtual 86, 3) := by decide +kernel
theorem dX11_addRoom_10 : decode cX11_addRoom 10 = .ok (.invokevirtual 89, 3) := by decide +kernel
theorem dX11_addRoom_13 : decode cX11_addRoom 13 = .ok (.ireturn, 1) := by decide +kernel
abbrev rmX11_addRoom : Room := { frames := 4, cells := 0, slots := 0, locals := 104 }
set_option maxHeartbeats 4000000 in
set_option maxRecDepth 100000 in
theorem metX11_addRoom {l : Launch} {s0 : State} {b B : Nat} {D : va_G} {T : Nat → ClassId} (F : FX l s0 b D T B) {X : Nat → Prop} (hX : ∀ o, o < 12 → ¬ X (B + o)) {N : Nat} {μ : Mem} {a0 : Nat} {a1 : Int32} {r : Mem × Int32} (k0 : IsMo a0) (h : fX11_addRoom N μ a0 a1 = some r) : gMet l yX11_addRoom cX11_addRoom 2 (some .int) rmX11_addRoom [.ref (B + a0), .int a1] (gWM D T B μ) (KC s0 X) (some (.int r.2)) (gWM D T B r.1) (gA B X) 0 0 := by
  refine gI_of RX11 (by decide +kernel) rfl (Nat.le_of_ble_eq_true rfl) ?_
  intro p e s m args below meth c ls Q hx hb hlocks hml hown hts hW hk hl hS hend
  have hC := FX_C F hk hx hb hown hts
  have hA := gA_allM hX
  have hl : lv_has ls 2 [(0, .ref (B + a0)), (1, .int a1)] := hl
  unfold fX11_addRoom at h
  refine lv_aload_n hx hb dX11_addRoom_0 rfl (lv_at hl 0 rfl) ?_
  obtain ⟨r1, hcall, h⟩ := bd_out h
  refine g0_callV (As := []) hC hml hS hW (KC_at hk hS F.2.2.2.2) KC_blind (metX11_keep F hX k0 hcall) ml_X11_83 (gw_recv hC hW k0.1 (k0.2.1 T B (μ a0)) rfl) ⟨rfl, rfl, Nat.le_of_ble_eq_true rfl, Nat.le_of_ble_eq_true rfl⟩ rfl hl.1 rfl (Nat.le_of_ble_eq_true rfl) dX11_addRoom_1 ⟨Nat.le_of_ble_eq_true rfl, Nat.le_of_ble_eq_true rfl⟩ (fun H locs hW hS => ?_)
  refine lv_aload_n hx hb dX11_addRoom_4 rfl (lv_at hl 0 rfl) ?_
  refine lv_aload_n hx hb dX11_addRoom_5 rfl (lv_at hl 0 rfl) ?_
  refine lv_iload_n hx hb dX11_addRoom_6 rfl (lv_at hl 1 rfl) ?_
  obtain ⟨r2, hcall, h⟩ := bd_out h
  refine g0_callV (As := [.int a1]) hC hml hS hW (KC_at hk hS F.2.2.2.2) KC_blind (metX11_doAddRoom F hX k0 hcall) ml_X11_86 (gw_recv hC hW k0.1 (k0.2.1 T B (r1 a0)) rfl) ⟨rfl, rfl, Nat.le_of_ble_eq_true rfl, Nat.le_of_ble_eq_true rfl⟩ rfl hl.1 rfl (Nat.le_of_ble_eq_true rfl) dX11_addRoom_7 ⟨Nat.le_of_ble_eq_true rfl, Nat.le_of_ble_eq_true rfl⟩ (fun H locs hW hS => ?_)
  obtain ⟨r3, hcall, h⟩ := bd_out h
  refine g0_callV (As := [.int r2.2]) hC hml hS hW (KC_at hk hS F.2.2.2.2) KC_blind (metX11_ends F hX k0 hcall) ml_X11_89 (gw_recv hC hW k0.1 (k0.2.1 T B (r2.1 a0)) rfl) ⟨rfl, rfl, Nat.le_of_ble_eq_true rfl, Nat.le_of_ble_eq_true rfl⟩ rfl hl.1 rfl (Nat.le_of_ble_eq_true rfl) dX11_addRoom_10 ⟨Nat.le_of_ble_eq_true rfl, Nat.le_of_ble_eq_true rfl⟩ (fun H locs hW hS => ?_)
  cases h
  exact hend dX11_addRoom_13 hW hS (Nat.le_of_ble_eq_true rfl) (Nat.le_of_ble_eq_true rfl)

theorem dX11_doSetWarmth_0 : decode cX11_doSetWarmth 0 = .ok (.aload_n 0, 1) := by decide +kernel
theorem dX11_doSetWarmth_1 : decode cX11_doSetWarmth 1 = .ok (.iload_n 1, 1) := by decide +kernel
theorem dX11_doSetWarmth_2 : decode cX11_doSetWarmth 2 = .ok (.invokevirtual 92, 3) := by decide +kernel
theorem dX11_doSetWarmth_5 : decode cX11_doSetWarmth 5 = .ok (.ifCond .ne 9, 3) := by decide +kernel
theorem dX11_doSetWarmth_8 : decode cX11_doSetWarmth 8 = .ok (.aload_n 0, 1) := by decide +kernel
theorem dX11_doSetWarmth_9 : decode cX11_doSetWarmth 9 = .ok (.iconst 1, 1) := by decide +kernel
theorem dX11_doSetWarmth_10 : decode cX11_doSetWarmth 10 = .ok (.invokevirtual 69, 3) := by decide +kernel
theorem dX11_doSetWarmth_13 : decode cX11_doSetWarmth 13 = .ok (.ireturn, 1) := by decide +kernel
theorem dX11_doSetWarmth_14 : decode cX11_doSetWarmth 14 = .ok (.iload_n 2, 1) := by decide +kernel
theorem dX11_doSetWarmth_15 : decode cX11_doSetWarmth 15 = .ok (.iconst 0, 1) := by decide +kernel
theorem dX11_doSetWarmth_16 : decode cX11_doSetWarmth 16 = .ok (.bipush 9, 2) := by decide +kernel
theorem dX11_doSetWarmth_18 : decode cX11_doSetWarmth 18 = .ok (.invokestatic 73, 3) := by decide +kernel
theorem dX11_doSetWarmth_21 : decode cX11_doSetWarmth 21 = .ok (.ifCond .ne 9, 3) := by decide +kernel
theorem dX11_doSetWarmth_24 : decode cX11_doSetWarmth 24 = .ok (.aload_n 0, 1) := by decide +kernel
theorem dX11_doSetWarmth_25 : decode cX11_doSetWarmth 25 = .ok (.iconst 2, 1) := by decide +kernel
theorem dX11_doSetWarmth_26 : decode cX11_doSetWarmth 26 = .ok (.invokevirtual 69, 3) := by decide +kernel
theorem dX11_doSetWarmth_29 : decode cX11_doSetWarmth 29 = .ok (.ireturn, 1) := by decide +kernel
theorem dX11_doSetWarmth_30 : decode cX11_doSetWarmth 30 = .ok (.aload_n 0, 1) := by decide +kernel
theorem dX11_doSetWarmth_31 : decode cX11_doSetWarmth 31 = .ok (.getfield 9, 3) := by decide +kernel
theorem dX11_doSetWarmth_34 : decode cX11_doSetWarmth 34 = .ok (.iconst 4, 1) := by decide +kernel
theorem dX11_doSetWarmth_35 : decode cX11_doSetWarmth 35 = .ok (.iload_n 1, 1) := by decide +kernel
theorem dX11_doSetWarmth_36 : decode cX11_doSetWarmth 36 = .ok (.iadd, 1) := by decide +kernel
theorem dX11_doSetWarmth_37 : decode cX11_doSetWarmth 37 = .ok (.iaload, 1) := by decide +kernel
theorem dX11_doSetWarmth_38 : decode cX11_doSetWarmth 38 = .ok (.istore_n 3, 1) := by decide +kernel
theorem dX11_doSetWarmth_39 : decode cX11_doSetWarmth 39 = .ok (.aload_n 0, 1) := by decide +kernel
theorem dX11_doSetWarmth_40 : decode cX11_doSetWarmth 40 = .ok (.getfield 9, 3) := by decide +kernel
theorem dX11_doSetWarmth_43 : decode cX11_doSetWarmth 43 = .ok (.iconst 4, 1) := by decide +kernel
theorem dX11_doSetWarmth_44 : decode cX11_doSetWarmth 44 = .ok (.iload_n 1, 1) := by decide +kernel
theorem dX11_doSetWarmth_45 : decode cX11_doSetWarmth 45 = .ok (.iadd, 1) := by decide +kernel
theorem dX11_doSetWarmth_46 : decode cX11_doSetWarmth 46 = .ok (.iload_n 2, 1) := by decide +kernel
theorem dX11_doSetWarmth_47 : decode cX11_doSetWarmth 47 = .ok (.iastore, 1) := by decide +kernel
theorem dX11_doSetWarmth_48 : decode cX11_doSetWarmth 48 = .ok (.iload_n 3, 1) := by decide +kernel
theorem dX11_doSetWarmth_49 : decode cX11_doSetWarmth 49 = .ok (.ireturn, 1) := by decide +kernel
abbrev rmX11_doSetWarmth : Room := { frames := 4, cells := 0, slots := 0, locals := 103 }
set_option maxHeartbeats 4000000 in
set_option maxRecDepth 100000 in
theorem metX11_doSetWarmth {l : Launch} {s0 : State} {b B : Nat} {D : va_G} {T : Nat → ClassId} (F : FX l s0 b D T B) {X : Nat → Prop} (hX : ∀ o, o < 12 → ¬ X (B + o)) {N : Nat} {μ : Mem} {a0 : Nat} {a1 : Int32} {a2 : Int32} {r : Mem × Int32} (k0 : IsMo a0) (h : fX11_doSetWarmth N μ a0 a1 a2 = some r) : gMet l yX11_doSetWarmth cX11_doSetWarmth 4 (some .int) rmX11_doSetWarmth [.ref (B + a0), .int a1, .int a2] (gWM D T B μ) (KC s0 X) (some (.int r.2)) (gWM D T B r.1) (gA B X) 0 0 := by
  refine gI_of RX11 (by decide +kernel) rfl (Nat.le_of_ble_eq_true rfl) ?_
  intro p e s m args below meth c ls Q hx hb hlocks hml hown hts hW hk hl hS hend
  have hC := FX_C F hk hx hb hown hts
  have hA := gA_allM hX
  have hl : lv_has ls 4 [(0, .ref (B + a0)), (1, .int a1), (2, .int a2)] := hl
  unfold fX11_doSetWarmth at h
  refine lv_aload_n hx hb dX11_doSetWarmth_0 rfl (lv_at hl 0 rfl) ?_
  refine lv_iload_n hx hb dX11_doSetWarmth_1 rfl (lv_at hl 1 rfl) ?_
  obtain ⟨r1, hcall, h⟩ := bd_out h
  refine g0_callV (As := [.int a1]) hC hml hS hW (KC_at hk hS F.2.2.2.2) KC_blind (metX11_isRoom F hX k0 hcall) ml_X11_92 (gw_recv hC hW k0.1 (k0.2.1 T B (μ a0)) rfl) ⟨rfl, rfl, Nat.le_of_ble_eq_true rfl, Nat.le_of_ble_eq_true rfl⟩ rfl hl.1 rfl (Nat.le_of_ble_eq_true rfl) dX11_doSetWarmth_2 ⟨Nat.le_of_ble_eq_true rfl, Nat.le_of_ble_eq_true rfl⟩ (fun H locs hW hS => ?_)
  refine gw_if_neZ (tgt := 14) hx hb dX11_doSetWarmth_5 (by decide) (fun c2 => ?_) (fun c2 => ?_)
  · replace h := cond_t c2 h
    refine lv_iload_n hx hb dX11_doSetWarmth_14 rfl (lv_at hl 2 rfl) ?_
    refine lv_iconst (v := 0) hx hb dX11_doSetWarmth_15 (by decide) ?_
    refine lv_bipush (v := 9) hx hb dX11_doSetWarmth_16 (by decide) ?_
    obtain ⟨r3, hcall, h⟩ := bd_out h
    refine g0_callS (As := [.int a2, .int 0, .int 9]) hC hml hS hW (KC_at hk hS F.2.2.2.2) KC_blind (metX11_in F hX  hcall) ml_X11_73 ⟨rfl, rfl, Nat.le_of_ble_eq_true rfl, Nat.le_of_ble_eq_true rfl⟩ rfl hl.1 rfl (Nat.le_of_ble_eq_true rfl) dX11_doSetWarmth_18 ⟨Nat.le_of_ble_eq_true rfl, Nat.le_of_ble_eq_true rfl⟩ (fun H locs hW hS => ?_)
    refine gw_if_neZ (tgt := 30) hx hb dX11_doSetWarmth_21 (by decide) (fun c4 => ?_) (fun c4 => ?_)
    · replace h := cond_t c4 h
      refine lv_aload_n hx hb dX11_doSetWarmth_30 rfl (lv_at hl 0 rfl) ?_
      refine gw_get (v := .ref (B + (a0 + 1))) hC hW fl_X11_9 k0.1 (k0.2.1 T B (μ a0)) rfl dX11_doSetWarmth_31 ?_
      refine lv_iconst (v := 4) hx hb dX11_doSetWarmth_34 (by decide) ?_
      refine lv_iload_n hx hb dX11_doSetWarmth_35 rfl (lv_at hl 1 rfl) ?_
      refine lv_iadd hx hb dX11_doSetWarmth_36 ?_
      obtain ⟨v5, e6, hi7, h⟩ := ag_o h
      refine gq_iald hC hW k0.2.2.1.1 (k0.2.2.1.2 T B (μ (a0 + 1))) (t0 := 0) rfl e6 hi7 dX11_doSetWarmth_37 ?_
      refine lv_istore_n (lv' := [(3, .int v5), (0, .ref (B + a0)), (1, .int a1), (2, .int a2)]) hx hb dX11_doSetWarmth_38 rfl hl (by decide) rfl (fun ls hl => ?_)
      refine lv_aload_n hx hb dX11_doSetWarmth_39 rfl (lv_at hl 1 rfl) ?_
      refine gw_get (v := .ref (B + (a0 + 1))) hC hW fl_X11_9 k0.1 (k0.2.1 T B (μ a0)) rfl dX11_doSetWarmth_40 ?_
      refine lv_iconst (v := 4) hx hb dX11_doSetWarmth_43 (by decide) ?_
      refine lv_iload_n hx hb dX11_doSetWarmth_44 rfl (lv_at hl 2 rfl) ?_
      refine lv_iadd hx hb dX11_doSetWarmth_45 ?_
      refine lv_iload_n hx hb dX11_doSetWarmth_46 rfl (lv_at hl 3 rfl) ?_
      obtain ⟨μ8, e9, hi10, h⟩ := aw_o h
      refine gq_iast hC hS hW hA k0.2.2.1.1 (k0.2.2.1.2 T B) (t0 := 0) rfl e9 hi10 dX11_doSetWarmth_47 (fun H locs hW hS => ?_)
      refine lv_iload_n hx hb dX11_doSetWarmth_48 rfl (lv_at hl 0 rfl) ?_
      cases h
      exact hend dX11_doSetWarmth_49 hW hS (Nat.le_of_ble_eq_true rfl) (Nat.le_of_ble_eq_true rfl)
    · replace h := cond_f c4 h
      refine lv_aload_n hx hb dX11_doSetWarmth_24 rfl (lv_at hl 0 rfl) ?_
      refine lv_iconst (v := 2) hx hb dX11_doSetWarmth_25 (by decide) ?_
      obtain ⟨r11, hcall, h⟩ := bd_out h
      refine g0_callV (As := [.int 2]) hC hml hS hW (KC_at hk hS F.2.2.2.2) KC_blind (metX11_fails F hX k0 hcall) ml_X11_69 (gw_recv hC hW k0.1 (k0.2.1 T B (μ a0)) rfl) ⟨rfl, rfl, Nat.le_of_ble_eq_true rfl, Nat.le_of_ble_eq_true rfl⟩ rfl hl.1 rfl (Nat.le_of_ble_eq_true rfl) dX11_doSetWarmth_26 ⟨Nat.le_of_ble_eq_true rfl, Nat.le_of_ble_eq_true rfl⟩ (fun H locs hW hS => ?_)
      cases h
      exact hend dX11_doSetWarmth_29 hW hS (Nat.le_of_ble_eq_true rfl) (Nat.le_of_ble_eq_true rfl)
  · replace h := cond_f c2 h
    refine lv_aload_n hx hb dX11_doSetWarmth_8 rfl (lv_at hl 0 rfl) ?_
    refine lv_iconst (v := 1) hx hb dX11_doSetWarmth_9 (by decide) ?_
    obtain ⟨r12, hcall, h⟩ := bd_out h
    refine g0_callV (As := [.int 1]) hC hml hS hW (KC_at hk hS F.2.2.2.2) KC_blind (metX11_fails F hX k0 hcall) ml_X11_69 (gw_recv hC hW k0.1 (k0.2.1 T B (μ a0)) rfl) ⟨rfl, rfl, Nat.le_of_ble_eq_true rfl, Nat.le_of_ble_eq_true rfl⟩ rfl hl.1 rfl (Nat.le_of_ble_eq_true rfl) dX11_doSetWarmth_10 ⟨Nat.le_of_ble_eq_true rfl, Nat.le_of_ble_eq_true rfl⟩ (fun H locs hW hS => ?_)
    cases h
    exact hend dX11_doSetWarmth_13 hW hS (Nat.le_of_ble_eq_true rfl) (Nat.le_of_ble_eq_true rfl)

theorem dX11_setWarmth_0 : decode cX11_setWarmth 0 = .ok (.aload_n 0, 1) := by decide +kernel
theorem dX11_setWarmth_1 : decode cX11_setWarmth 1 = .ok (.invokevirtual 83, 3) := by decide +kernel
theorem dX11_setWarmth_4 : decode cX11_setWarmth 4 = .ok (.aload_n 0, 1) := by decide +kernel
theorem dX11_setWarmth_5 : decode cX11_setWarmth 5 = .ok (.aload_n 0, 1) := by decide +kernel
theorem dX11_setWarmth_6 : decode cX11_setWarmth 6 = .ok (.iload_n 1, 1) := by decide +kernel
theorem dX11_setWarmth_7 : decode cX11_setWarmth 7 = .ok (.iload_n 2, 1) := by decide +kernel
theorem dX11_setWarmth_8 : decode cX11_setWarmth 8 = .ok (.invokevirtual 96, 3) := by decide +kernel
theorem dX11_setWarmth_11 : decode cX11_setWarmth 11 = .ok (.invokevirtual 89, 3) := by decide +kernel
theorem dX11_setWarmth_14 : decode cX11_setWarmth 14 = .ok (.ireturn, 1) := by decide +kernel
abbrev rmX11_setWarmth : Room := { frames := 5, cells := 0, slots := 0, locals := 126 }
set_option maxHeartbeats 4000000 in
set_option maxRecDepth 100000 in
theorem metX11_setWarmth {l : Launch} {s0 : State} {b B : Nat} {D : va_G} {T : Nat → ClassId} (F : FX l s0 b D T B) {X : Nat → Prop} (hX : ∀ o, o < 12 → ¬ X (B + o)) {N : Nat} {μ : Mem} {a0 : Nat} {a1 : Int32} {a2 : Int32} {r : Mem × Int32} (k0 : IsMo a0) (h : fX11_setWarmth N μ a0 a1 a2 = some r) : gMet l yX11_setWarmth cX11_setWarmth 3 (some .int) rmX11_setWarmth [.ref (B + a0), .int a1, .int a2] (gWM D T B μ) (KC s0 X) (some (.int r.2)) (gWM D T B r.1) (gA B X) 0 0 := by
  refine gI_of RX11 (by decide +kernel) rfl (Nat.le_of_ble_eq_true rfl) ?_
  intro p e s m args below meth c ls Q hx hb hlocks hml hown hts hW hk hl hS hend
  have hC := FX_C F hk hx hb hown hts
  have hA := gA_allM hX
  have hl : lv_has ls 3 [(0, .ref (B + a0)), (1, .int a1), (2, .int a2)] := hl
  unfold fX11_setWarmth at h
  refine lv_aload_n hx hb dX11_setWarmth_0 rfl (lv_at hl 0 rfl) ?_
  obtain ⟨r1, hcall, h⟩ := bd_out h
  refine g0_callV (As := []) hC hml hS hW (KC_at hk hS F.2.2.2.2) KC_blind (metX11_keep F hX k0 hcall) ml_X11_83 (gw_recv hC hW k0.1 (k0.2.1 T B (μ a0)) rfl) ⟨rfl, rfl, Nat.le_of_ble_eq_true rfl, Nat.le_of_ble_eq_true rfl⟩ rfl hl.1 rfl (Nat.le_of_ble_eq_true rfl) dX11_setWarmth_1 ⟨Nat.le_of_ble_eq_true rfl, Nat.le_of_ble_eq_true rfl⟩ (fun H locs hW hS => ?_)
  refine lv_aload_n hx hb dX11_setWarmth_4 rfl (lv_at hl 0 rfl) ?_
  refine lv_aload_n hx hb dX11_setWarmth_5 rfl (lv_at hl 0 rfl) ?_
  refine lv_iload_n hx hb dX11_setWarmth_6 rfl (lv_at hl 1 rfl) ?_
  refine lv_iload_n hx hb dX11_setWarmth_7 rfl (lv_at hl 2 rfl) ?_
  obtain ⟨r2, hcall, h⟩ := bd_out h
  refine g0_callV (As := [.int a1, .int a2]) hC hml hS hW (KC_at hk hS F.2.2.2.2) KC_blind (metX11_doSetWarmth F hX k0 hcall) ml_X11_96 (gw_recv hC hW k0.1 (k0.2.1 T B (r1 a0)) rfl) ⟨rfl, rfl, Nat.le_of_ble_eq_true rfl, Nat.le_of_ble_eq_true rfl⟩ rfl hl.1 rfl (Nat.le_of_ble_eq_true rfl) dX11_setWarmth_8 ⟨Nat.le_of_ble_eq_true rfl, Nat.le_of_ble_eq_true rfl⟩ (fun H locs hW hS => ?_)
  obtain ⟨r3, hcall, h⟩ := bd_out h
  refine g0_callV (As := [.int r2.2]) hC hml hS hW (KC_at hk hS F.2.2.2.2) KC_blind (metX11_ends F hX k0 hcall) ml_X11_89 (gw_recv hC hW k0.1 (k0.2.1 T B (r2.1 a0)) rfl) ⟨rfl, rfl, Nat.le_of_ble_eq_true rfl, Nat.le_of_ble_eq_true rfl⟩ rfl hl.1 rfl (Nat.le_of_ble_eq_true rfl) dX11_setWarmth_11 ⟨Nat.le_of_ble_eq_true rfl, Nat.le_of_ble_eq_true rfl⟩ (fun H locs hW hS => ?_)
  cases h
  exact hend dX11_setWarmth_14 hW hS (Nat.le_of_ble_eq_true rfl) (Nat.le_of_ble_eq_true rfl)

theorem dX11_leg_0 : decode cX11_leg 0 = .ok (.aload_n 0, 1) := by decide +kernel
theorem dX11_leg_1 : decode cX11_leg 1 = .ok (.getfield 9, 3) := by decide +kernel
theorem dX11_leg_4 : decode cX11_leg 4 = .ok (.bipush 10, 2) := by decide +kernel
theorem dX11_leg_6 : decode cX11_leg 6 = .ok (.bipush 6, 2) := by decide +kernel
theorem dX11_leg_8 : decode cX11_leg 8 = .ok (.iload_n 1, 1) := by decide +kernel
theorem dX11_leg_9 : decode cX11_leg 9 = .ok (.imul, 1) := by decide +kernel
theorem dX11_leg_10 : decode cX11_leg 10 = .ok (.iadd, 1) := by decide +kernel
theorem dX11_leg_11 : decode cX11_leg 11 = .ok (.iload_n 2, 1) := by decide +kernel
theorem dX11_leg_12 : decode cX11_leg 12 = .ok (.iadd, 1) := by decide +kernel
theorem dX11_leg_13 : decode cX11_leg 13 = .ok (.iaload, 1) := by decide +kernel
theorem dX11_leg_14 : decode cX11_leg 14 = .ok (.ireturn, 1) := by decide +kernel
abbrev rmX11_leg : Room := { frames := 2, cells := 0, slots := 0, locals := 60 }
set_option maxHeartbeats 4000000 in
set_option maxRecDepth 100000 in
theorem metX11_leg {l : Launch} {s0 : State} {b B : Nat} {D : va_G} {T : Nat → ClassId} (F : FX l s0 b D T B) {X : Nat → Prop} (hX : ∀ o, o < 12 → ¬ X (B + o)) {N : Nat} {μ : Mem} {a0 : Nat} {a1 : Int32} {a2 : Int32} {r : Int32} (k0 : IsMo a0) (h : fX11_leg N μ a0 a1 a2 = some r) : gMet l yX11_leg cX11_leg 3 (some .int) rmX11_leg [.ref (B + a0), .int a1, .int a2] (gWM D T B μ) (KC s0 X) (some (.int r)) (gWM D T B μ) (gA B X) 0 0 := by
  refine gI_of RX11 (by decide +kernel) rfl (Nat.le_of_ble_eq_true rfl) ?_
  intro p e s m args below meth c ls Q hx hb hlocks hml hown hts hW hk hl hS hend
  have hC := FX_C F hk hx hb hown hts
  have hA := gA_allM hX
  have hl : lv_has ls 3 [(0, .ref (B + a0)), (1, .int a1), (2, .int a2)] := hl
  unfold fX11_leg at h
  refine lv_aload_n hx hb dX11_leg_0 rfl (lv_at hl 0 rfl) ?_
  refine gw_get (v := .ref (B + (a0 + 1))) hC hW fl_X11_9 k0.1 (k0.2.1 T B (μ a0)) rfl dX11_leg_1 ?_
  refine lv_bipush (v := 10) hx hb dX11_leg_4 (by decide) ?_
  refine lv_bipush (v := 6) hx hb dX11_leg_6 (by decide) ?_
  refine lv_iload_n hx hb dX11_leg_8 rfl (lv_at hl 1 rfl) ?_
  refine lv_imul hx hb dX11_leg_9 ?_
  refine lv_iadd hx hb dX11_leg_10 ?_
  refine lv_iload_n hx hb dX11_leg_11 rfl (lv_at hl 2 rfl) ?_
  refine lv_iadd hx hb dX11_leg_12 ?_
  obtain ⟨v1, e2, hi3, h⟩ := ag_o h
  refine gq_iald hC hW k0.2.2.1.1 (k0.2.2.1.2 T B (μ (a0 + 1))) (t0 := 0) rfl e2 hi3 dX11_leg_13 ?_
  cases h
  exact hend dX11_leg_14 hW hS (Nat.le_of_ble_eq_true rfl) (Nat.le_of_ble_eq_true rfl)

theorem dX11_heat_0 : decode cX11_heat 0 = .ok (.aload_n 0, 1) := by decide +kernel
theorem dX11_heat_1 : decode cX11_heat 1 = .ok (.getfield 9, 3) := by decide +kernel
theorem dX11_heat_4 : decode cX11_heat 4 = .ok (.bipush 46, 2) := by decide +kernel
theorem dX11_heat_6 : decode cX11_heat 6 = .ok (.bipush 6, 2) := by decide +kernel
theorem dX11_heat_8 : decode cX11_heat 8 = .ok (.iload_n 1, 1) := by decide +kernel
theorem dX11_heat_9 : decode cX11_heat 9 = .ok (.imul, 1) := by decide +kernel
theorem dX11_heat_10 : decode cX11_heat 10 = .ok (.iadd, 1) := by decide +kernel
theorem dX11_heat_11 : decode cX11_heat 11 = .ok (.iload_n 2, 1) := by decide +kernel
theorem dX11_heat_12 : decode cX11_heat 12 = .ok (.iadd, 1) := by decide +kernel
theorem dX11_heat_13 : decode cX11_heat 13 = .ok (.iaload, 1) := by decide +kernel
theorem dX11_heat_14 : decode cX11_heat 14 = .ok (.ireturn, 1) := by decide +kernel
abbrev rmX11_heat : Room := { frames := 2, cells := 0, slots := 0, locals := 60 }
set_option maxHeartbeats 4000000 in
set_option maxRecDepth 100000 in
theorem metX11_heat {l : Launch} {s0 : State} {b B : Nat} {D : va_G} {T : Nat → ClassId} (F : FX l s0 b D T B) {X : Nat → Prop} (hX : ∀ o, o < 12 → ¬ X (B + o)) {N : Nat} {μ : Mem} {a0 : Nat} {a1 : Int32} {a2 : Int32} {r : Int32} (k0 : IsMo a0) (h : fX11_heat N μ a0 a1 a2 = some r) : gMet l yX11_heat cX11_heat 3 (some .int) rmX11_heat [.ref (B + a0), .int a1, .int a2] (gWM D T B μ) (KC s0 X) (some (.int r)) (gWM D T B μ) (gA B X) 0 0 := by
  refine gI_of RX11 (by decide +kernel) rfl (Nat.le_of_ble_eq_true rfl) ?_
  intro p e s m args below meth c ls Q hx hb hlocks hml hown hts hW hk hl hS hend
  have hC := FX_C F hk hx hb hown hts
  have hA := gA_allM hX
  have hl : lv_has ls 3 [(0, .ref (B + a0)), (1, .int a1), (2, .int a2)] := hl
  unfold fX11_heat at h
  refine lv_aload_n hx hb dX11_heat_0 rfl (lv_at hl 0 rfl) ?_
  refine gw_get (v := .ref (B + (a0 + 1))) hC hW fl_X11_9 k0.1 (k0.2.1 T B (μ a0)) rfl dX11_heat_1 ?_
  refine lv_bipush (v := 46) hx hb dX11_heat_4 (by decide) ?_
  refine lv_bipush (v := 6) hx hb dX11_heat_6 (by decide) ?_
  refine lv_iload_n hx hb dX11_heat_8 rfl (lv_at hl 1 rfl) ?_
  refine lv_imul hx hb dX11_heat_9 ?_
  refine lv_iadd hx hb dX11_heat_10 ?_
  refine lv_iload_n hx hb dX11_heat_11 rfl (lv_at hl 2 rfl) ?_
  refine lv_iadd hx hb dX11_heat_12 ?_
  obtain ⟨v1, e2, hi3, h⟩ := ag_o h
  refine gq_iald hC hW k0.2.2.1.1 (k0.2.2.1.2 T B (μ (a0 + 1))) (t0 := 0) rfl e2 hi3 dX11_heat_13 ?_
  cases h
  exact hend dX11_heat_14 hW hS (Nat.le_of_ble_eq_true rfl) (Nat.le_of_ble_eq_true rfl)

theorem dX11_lays_0 : decode cX11_lays 0 = .ok (.aload_n 0, 1) := by decide +kernel
theorem dX11_lays_1 : decode cX11_lays 1 = .ok (.getfield 9, 3) := by decide +kernel
theorem dX11_lays_4 : decode cX11_lays 4 = .ok (.bipush 10, 2) := by decide +kernel
theorem dX11_lays_6 : decode cX11_lays 6 = .ok (.bipush 6, 2) := by decide +kernel
theorem dX11_lays_8 : decode cX11_lays 8 = .ok (.iload_n 1, 1) := by decide +kernel
theorem dX11_lays_9 : decode cX11_lays 9 = .ok (.imul, 1) := by decide +kernel
theorem dX11_lays_10 : decode cX11_lays 10 = .ok (.iadd, 1) := by decide +kernel
theorem dX11_lays_11 : decode cX11_lays 11 = .ok (.iload_n 2, 1) := by decide +kernel
theorem dX11_lays_12 : decode cX11_lays 12 = .ok (.iadd, 1) := by decide +kernel
theorem dX11_lays_13 : decode cX11_lays 13 = .ok (.iload_n 3, 1) := by decide +kernel
theorem dX11_lays_14 : decode cX11_lays 14 = .ok (.iastore, 1) := by decide +kernel
theorem dX11_lays_15 : decode cX11_lays 15 = .ok (.aload_n 0, 1) := by decide +kernel
theorem dX11_lays_16 : decode cX11_lays 16 = .ok (.getfield 9, 3) := by decide +kernel
theorem dX11_lays_19 : decode cX11_lays 19 = .ok (.bipush 10, 2) := by decide +kernel
theorem dX11_lays_21 : decode cX11_lays 21 = .ok (.bipush 6, 2) := by decide +kernel
theorem dX11_lays_23 : decode cX11_lays 23 = .ok (.iload_n 2, 1) := by decide +kernel
theorem dX11_lays_24 : decode cX11_lays 24 = .ok (.imul, 1) := by decide +kernel
theorem dX11_lays_25 : decode cX11_lays 25 = .ok (.iadd, 1) := by decide +kernel
theorem dX11_lays_26 : decode cX11_lays 26 = .ok (.iload_n 1, 1) := by decide +kernel
theorem dX11_lays_27 : decode cX11_lays 27 = .ok (.iadd, 1) := by decide +kernel
theorem dX11_lays_28 : decode cX11_lays 28 = .ok (.iload_n 3, 1) := by decide +kernel
theorem dX11_lays_29 : decode cX11_lays 29 = .ok (.iastore, 1) := by decide +kernel
theorem dX11_lays_30 : decode cX11_lays 30 = .ok (.aload_n 0, 1) := by decide +kernel
theorem dX11_lays_31 : decode cX11_lays 31 = .ok (.getfield 9, 3) := by decide +kernel
theorem dX11_lays_34 : decode cX11_lays 34 = .ok (.bipush 46, 2) := by decide +kernel
theorem dX11_lays_36 : decode cX11_lays 36 = .ok (.bipush 6, 2) := by decide +kernel
theorem dX11_lays_38 : decode cX11_lays 38 = .ok (.iload_n 1, 1) := by decide +kernel
theorem dX11_lays_39 : decode cX11_lays 39 = .ok (.imul, 1) := by decide +kernel
theorem dX11_lays_40 : decode cX11_lays 40 = .ok (.iadd, 1) := by decide +kernel
theorem dX11_lays_41 : decode cX11_lays 41 = .ok (.iload_n 2, 1) := by decide +kernel
theorem dX11_lays_42 : decode cX11_lays 42 = .ok (.iadd, 1) := by decide +kernel
theorem dX11_lays_43 : decode cX11_lays 43 = .ok (.iload 4, 2) := by decide +kernel
theorem dX11_lays_45 : decode cX11_lays 45 = .ok (.iastore, 1) := by decide +kernel
theorem dX11_lays_46 : decode cX11_lays 46 = .ok (.aload_n 0, 1) := by decide +kernel
theorem dX11_lays_47 : decode cX11_lays 47 = .ok (.getfield 9, 3) := by decide +kernel
theorem dX11_lays_50 : decode cX11_lays 50 = .ok (.bipush 46, 2) := by decide +kernel
theorem dX11_lays_52 : decode cX11_lays 52 = .ok (.bipush 6, 2) := by decide +kernel
theorem dX11_lays_54 : decode cX11_lays 54 = .ok (.iload_n 2, 1) := by decide +kernel
theorem dX11_lays_55 : decode cX11_lays 55 = .ok (.imul, 1) := by decide +kernel
theorem dX11_lays_56 : decode cX11_lays 56 = .ok (.iadd, 1) := by decide +kernel
theorem dX11_lays_57 : decode cX11_lays 57 = .ok (.iload_n 1, 1) := by decide +kernel
theorem dX11_lays_58 : decode cX11_lays 58 = .ok (.iadd, 1) := by decide +kernel
theorem dX11_lays_59 : decode cX11_lays 59 = .ok (.iload 4, 2) := by decide +kernel
theorem dX11_lays_61 : decode cX11_lays 61 = .ok (.iastore, 1) := by decide +kernel
theorem dX11_lays_62 : decode cX11_lays 62 = .ok (.iconst 0, 1) := by decide +kernel
theorem dX11_lays_63 : decode cX11_lays 63 = .ok (.istore 5, 2) := by decide +kernel
theorem dX11_lays_65 : decode cX11_lays 65 = .ok (.iconst 0, 1) := by decide +kernel
theorem dX11_lays_66 : decode cX11_lays 66 = .ok (.istore 6, 2) := by decide +kernel
theorem dX11_lays_68 : decode cX11_lays 68 = .ok (.iload 6, 2) := by decide +kernel
theorem dX11_lays_70 : decode cX11_lays 70 = .ok (.bipush 36, 2) := by decide +kernel
theorem dX11_lays_72 : decode cX11_lays 72 = .ok (.if_icmp .ge 32, 3) := by decide +kernel
theorem dX11_lays_75 : decode cX11_lays 75 = .ok (.iload 5, 2) := by decide +kernel
theorem dX11_lays_77 : decode cX11_lays 77 = .ok (.aload_n 0, 1) := by decide +kernel
theorem dX11_lays_78 : decode cX11_lays 78 = .ok (.getfield 9, 3) := by decide +kernel
theorem dX11_lays_81 : decode cX11_lays 81 = .ok (.bipush 10, 2) := by decide +kernel
theorem dX11_lays_83 : decode cX11_lays 83 = .ok (.iload 6, 2) := by decide +kernel
theorem dX11_lays_85 : decode cX11_lays 85 = .ok (.iadd, 1) := by decide +kernel
theorem dX11_lays_86 : decode cX11_lays 86 = .ok (.iaload, 1) := by decide +kernel
theorem dX11_lays_87 : decode cX11_lays 87 = .ok (.ifCond .le 7, 3) := by decide +kernel
theorem dX11_lays_90 : decode cX11_lays 90 = .ok (.iconst 1, 1) := by decide +kernel
theorem dX11_lays_91 : decode cX11_lays 91 = .ok (.goto 4, 3) := by decide +kernel
theorem dX11_lays_94 : decode cX11_lays 94 = .ok (.iconst 0, 1) := by decide +kernel
theorem dX11_lays_95 : decode cX11_lays 95 = .ok (.iadd, 1) := by decide +kernel
theorem dX11_lays_96 : decode cX11_lays 96 = .ok (.istore 5, 2) := by decide +kernel
theorem dX11_lays_98 : decode cX11_lays 98 = .ok (.iinc 6 1, 3) := by decide +kernel
theorem dX11_lays_101 : decode cX11_lays 101 = .ok (.goto (-33), 3) := by decide +kernel
theorem dX11_lays_104 : decode cX11_lays 104 = .ok (.iload 5, 2) := by decide +kernel
theorem dX11_lays_106 : decode cX11_lays 106 = .ok (.iconst 2, 1) := by decide +kernel
theorem dX11_lays_107 : decode cX11_lays 107 = .ok (.idiv, 1) := by decide +kernel
theorem dX11_lays_108 : decode cX11_lays 108 = .ok (.ireturn, 1) := by decide +kernel
abbrev rmX11_lays : Room := { frames := 2, cells := 0, slots := 0, locals := 60 }
set_option maxHeartbeats 4000000 in
set_option maxRecDepth 100000 in
theorem metX11_lays {l : Launch} {s0 : State} {b B : Nat} {D : va_G} {T : Nat → ClassId} (F : FX l s0 b D T B) {X : Nat → Prop} (hX : ∀ o, o < 12 → ¬ X (B + o)) {N : Nat} {μ : Mem} {a0 : Nat} {a1 : Int32} {a2 : Int32} {a3 : Int32} {a4 : Int32} {r : Mem × Int32} (k0 : IsMo a0) (h : fX11_lays N μ a0 a1 a2 a3 a4 = some r) : gMet l yX11_lays cX11_lays 7 (some .int) rmX11_lays [.ref (B + a0), .int a1, .int a2, .int a3, .int a4] (gWM D T B μ) (KC s0 X) (some (.int r.2)) (gWM D T B r.1) (gA B X) 0 0 := by
  refine gI_of RX11 (by decide +kernel) rfl (Nat.le_of_ble_eq_true rfl) ?_
  intro p e s m args below meth c ls Q hx hb hlocks hml hown hts hW hk hl hS hend
  have hC := FX_C F hk hx hb hown hts
  have hA := gA_allM hX
  have hl : lv_has ls 7 [(0, .ref (B + a0)), (1, .int a1), (2, .int a2), (3, .int a3), (4, .int a4)] := hl
  unfold fX11_lays at h
  refine lv_aload_n hx hb dX11_lays_0 rfl (lv_at hl 0 rfl) ?_
  refine gw_get (v := .ref (B + (a0 + 1))) hC hW fl_X11_9 k0.1 (k0.2.1 T B (μ a0)) rfl dX11_lays_1 ?_
  refine lv_bipush (v := 10) hx hb dX11_lays_4 (by decide) ?_
  refine lv_bipush (v := 6) hx hb dX11_lays_6 (by decide) ?_
  refine lv_iload_n hx hb dX11_lays_8 rfl (lv_at hl 1 rfl) ?_
  refine lv_imul hx hb dX11_lays_9 ?_
  refine lv_iadd hx hb dX11_lays_10 ?_
  refine lv_iload_n hx hb dX11_lays_11 rfl (lv_at hl 2 rfl) ?_
  refine lv_iadd hx hb dX11_lays_12 ?_
  refine lv_iload_n hx hb dX11_lays_13 rfl (lv_at hl 3 rfl) ?_
  obtain ⟨μ1, e2, hi3, h⟩ := aw_o h
  refine gq_iast hC hS hW hA k0.2.2.1.1 (k0.2.2.1.2 T B) (t0 := 0) rfl e2 hi3 dX11_lays_14 (fun H locs hW hS => ?_)
  refine lv_aload_n hx hb dX11_lays_15 rfl (lv_at hl 0 rfl) ?_
  refine gw_get (v := .ref (B + (a0 + 1))) hC hW fl_X11_9 k0.1 (k0.2.1 T B (μ1 a0)) rfl dX11_lays_16 ?_
  refine lv_bipush (v := 10) hx hb dX11_lays_19 (by decide) ?_
  refine lv_bipush (v := 6) hx hb dX11_lays_21 (by decide) ?_
  refine lv_iload_n hx hb dX11_lays_23 rfl (lv_at hl 2 rfl) ?_
  refine lv_imul hx hb dX11_lays_24 ?_
  refine lv_iadd hx hb dX11_lays_25 ?_
  refine lv_iload_n hx hb dX11_lays_26 rfl (lv_at hl 1 rfl) ?_
  refine lv_iadd hx hb dX11_lays_27 ?_
  refine lv_iload_n hx hb dX11_lays_28 rfl (lv_at hl 3 rfl) ?_
  obtain ⟨μ4, e5, hi6, h⟩ := aw_o h
  refine gq_iast hC hS hW hA k0.2.2.1.1 (k0.2.2.1.2 T B) (t0 := 0) rfl e5 hi6 dX11_lays_29 (fun H locs hW hS => ?_)
  refine lv_aload_n hx hb dX11_lays_30 rfl (lv_at hl 0 rfl) ?_
  refine gw_get (v := .ref (B + (a0 + 1))) hC hW fl_X11_9 k0.1 (k0.2.1 T B (μ4 a0)) rfl dX11_lays_31 ?_
  refine lv_bipush (v := 46) hx hb dX11_lays_34 (by decide) ?_
  refine lv_bipush (v := 6) hx hb dX11_lays_36 (by decide) ?_
  refine lv_iload_n hx hb dX11_lays_38 rfl (lv_at hl 1 rfl) ?_
  refine lv_imul hx hb dX11_lays_39 ?_
  refine lv_iadd hx hb dX11_lays_40 ?_
  refine lv_iload_n hx hb dX11_lays_41 rfl (lv_at hl 2 rfl) ?_
  refine lv_iadd hx hb dX11_lays_42 ?_
  refine lv_iload hx hb dX11_lays_43 (lv_at hl 4 rfl) ?_
  obtain ⟨μ7, e8, hi9, h⟩ := aw_o h
  refine gq_iast hC hS hW hA k0.2.2.1.1 (k0.2.2.1.2 T B) (t0 := 0) rfl e8 hi9 dX11_lays_45 (fun H locs hW hS => ?_)
  refine lv_aload_n hx hb dX11_lays_46 rfl (lv_at hl 0 rfl) ?_
  refine gw_get (v := .ref (B + (a0 + 1))) hC hW fl_X11_9 k0.1 (k0.2.1 T B (μ7 a0)) rfl dX11_lays_47 ?_
  refine lv_bipush (v := 46) hx hb dX11_lays_50 (by decide) ?_
  refine lv_bipush (v := 6) hx hb dX11_lays_52 (by decide) ?_
  refine lv_iload_n hx hb dX11_lays_54 rfl (lv_at hl 2 rfl) ?_
  refine lv_imul hx hb dX11_lays_55 ?_
  refine lv_iadd hx hb dX11_lays_56 ?_
  refine lv_iload_n hx hb dX11_lays_57 rfl (lv_at hl 1 rfl) ?_
  refine lv_iadd hx hb dX11_lays_58 ?_
  refine lv_iload hx hb dX11_lays_59 (lv_at hl 4 rfl) ?_
  obtain ⟨μ10, e11, hi12, h⟩ := aw_o h
  refine gq_iast hC hS hW hA k0.2.2.1.1 (k0.2.2.1.2 T B) (t0 := 0) rfl e11 hi12 dX11_lays_61 (fun H locs hW hS => ?_)
  refine lv_iconst (v := 0) hx hb dX11_lays_62 (by decide) ?_
  refine lv_istore (lv' := [(5, .int 0), (0, .ref (B + a0)), (1, .int a1), (2, .int a2), (3, .int a3), (4, .int a4)]) hx hb dX11_lays_63 hl (by decide) rfl (fun ls hl => ?_)
  refine lv_iconst (v := 0) hx hb dX11_lays_65 (by decide) ?_
  refine lv_istore (lv' := [(6, .int 0), (5, .int 0), (0, .ref (B + a0)), (1, .int a1), (2, .int a2), (3, .int a3), (4, .int a4)]) hx hb dX11_lays_66 hl (by decide) rfl (fun ls hl => ?_)
  refine fix2_ind (fun (x13 : Int32) (x14 : Int32) => ∀ (H : Heap) (locs : List Loc) (ls : Array Slot), gWM D T B μ10 H → va_S (gA B X) s.heap H locs → lv_has ls 7 [(0, .ref (B + a0)), (5, .int x13), (6, .int x14)] → W p l e rmX11_lays s m args below meth c H locs 0 0 Q (F0 m 68 ls [])) ?_ N _ _ h _ _ _ hW hS (lv_sub hl [2, 1, 0] rfl)
  clear h hW hS hl
  intro self15 IH16 x13 x14 h H locs ls hW hS hl
  refine lv_iload hx hb dX11_lays_68 (lv_at hl 2 rfl) ?_
  refine lv_bipush (v := 36) hx hb dX11_lays_70 (by decide) ?_
  refine lv_icmp_ge (tgt := 104) hx hb dX11_lays_72 (by decide) (fun c17 => ?_) (fun c17 => ?_)
  · replace h := ite_t c17 h
    refine lv_iload hx hb dX11_lays_104 (lv_at hl 1 rfl) ?_
    refine lv_iconst (v := 2) hx hb dX11_lays_106 (by decide) ?_
    refine lv_idiv hx hb dX11_lays_107 (by decide) ?_
    cases h
    exact hend dX11_lays_108 hW hS (Nat.le_of_ble_eq_true rfl) (Nat.le_of_ble_eq_true rfl)
  · replace h := ite_f c17 h
    refine lv_iload hx hb dX11_lays_75 (lv_at hl 1 rfl) ?_
    refine lv_aload_n hx hb dX11_lays_77 rfl (lv_at hl 0 rfl) ?_
    refine gw_get (v := .ref (B + (a0 + 1))) hC hW fl_X11_9 k0.1 (k0.2.1 T B (μ10 a0)) rfl dX11_lays_78 ?_
    refine lv_bipush (v := 10) hx hb dX11_lays_81 (by decide) ?_
    refine lv_iload hx hb dX11_lays_83 (lv_at hl 2 rfl) ?_
    refine lv_iadd hx hb dX11_lays_85 ?_
    obtain ⟨v18, e19, hi20, h⟩ := ag_o h
    refine gq_iald hC hW k0.2.2.1.1 (k0.2.2.1.2 T B (μ10 (a0 + 1))) (t0 := 0) rfl e19 hi20 dX11_lays_86 ?_
    obtain ⟨j22, hj24, h⟩ := jn1_o h
    have J23 : ∀ (y21 : Bool), j22 y21 = some r → ∀ (H : Heap) (locs : List Loc) (ls : Array Slot), gWM D T B μ10 H → va_S (gA B X) s.heap H locs → lv_has ls 7 [(0, .ref (B + a0)), (6, .int x14)] → W p l e rmX11_lays s m args below meth c H locs 0 0 Q (F0 m 95 ls [.int (b2i y21), .int x13]) := by
      clear h hW hS hl
      intro y21 h H locs ls hW hS hl
      replace h := (hj24 y21).symm.trans h
      refine lv_iadd hx hb dX11_lays_95 ?_
      obtain ⟨v25, e26, h⟩ := lt_out h
      rw [← e26]
      refine lv_istore (lv' := [(5, .int v25), (0, .ref (B + a0)), (6, .int x14)]) hx hb dX11_lays_96 hl (by decide) rfl (fun ls hl => ?_)
      obtain ⟨v27, e28, h⟩ := lt_out h
      refine lv_iinc (v := v27) (lv' := [(6, .int v27), (5, .int v25), (0, .ref (B + a0))]) hx hb dX11_lays_98 hl (k := 2) rfl (by rw [e28]; rfl) (by decide) rfl (fun ls hl => ?_)
      refine lv_goto (tgt := 68) hx hb dX11_lays_101 (by decide) ?_
      exact IH16 _ _ h _ _ _ hW hS (lv_sub hl [2, 1, 0] rfl)
    refine lv_if_le (tgt := 94) hx hb dX11_lays_87 (by decide) (fun c29 => ?_) (fun c29 => ?_)
    · replace h := ite_t c29 h
      refine lv_iconst (v := 0) hx hb dX11_lays_94 (by decide) ?_
      exact J23 _ h _ _ _ hW hS (lv_sub hl [0, 2] rfl)
    · replace h := ite_f c29 h
      refine lv_iconst (v := 1) hx hb dX11_lays_90 (by decide) ?_
      refine lv_goto (tgt := 95) hx hb dX11_lays_91 (by decide) ?_
      exact J23 _ h _ _ _ hW hS (lv_sub hl [0, 2] rfl)

theorem dX11_doSetLeg_0 : decode cX11_doSetLeg 0 = .ok (.aload_n 0, 1) := by decide +kernel
theorem dX11_doSetLeg_1 : decode cX11_doSetLeg 1 = .ok (.iload_n 1, 1) := by decide +kernel
theorem dX11_doSetLeg_2 : decode cX11_doSetLeg 2 = .ok (.invokevirtual 92, 3) := by decide +kernel
theorem dX11_doSetLeg_5 : decode cX11_doSetLeg 5 = .ok (.ifCond .eq 11, 3) := by decide +kernel
theorem dX11_doSetLeg_8 : decode cX11_doSetLeg 8 = .ok (.aload_n 0, 1) := by decide +kernel
theorem dX11_doSetLeg_9 : decode cX11_doSetLeg 9 = .ok (.iload_n 2, 1) := by decide +kernel
theorem dX11_doSetLeg_10 : decode cX11_doSetLeg 10 = .ok (.invokevirtual 92, 3) := by decide +kernel
theorem dX11_doSetLeg_13 : decode cX11_doSetLeg 13 = .ok (.ifCond .ne 9, 3) := by decide +kernel
theorem dX11_doSetLeg_16 : decode cX11_doSetLeg 16 = .ok (.aload_n 0, 1) := by decide +kernel
theorem dX11_doSetLeg_17 : decode cX11_doSetLeg 17 = .ok (.iconst 1, 1) := by decide +kernel
theorem dX11_doSetLeg_18 : decode cX11_doSetLeg 18 = .ok (.invokevirtual 69, 3) := by decide +kernel
theorem dX11_doSetLeg_21 : decode cX11_doSetLeg 21 = .ok (.ireturn, 1) := by decide +kernel
theorem dX11_doSetLeg_22 : decode cX11_doSetLeg 22 = .ok (.iload_n 1, 1) := by decide +kernel
theorem dX11_doSetLeg_23 : decode cX11_doSetLeg 23 = .ok (.iload_n 2, 1) := by decide +kernel
theorem dX11_doSetLeg_24 : decode cX11_doSetLeg 24 = .ok (.if_icmp .eq 24, 3) := by decide +kernel
theorem dX11_doSetLeg_27 : decode cX11_doSetLeg 27 = .ok (.iload_n 3, 1) := by decide +kernel
theorem dX11_doSetLeg_28 : decode cX11_doSetLeg 28 = .ok (.iconst 1, 1) := by decide +kernel
theorem dX11_doSetLeg_29 : decode cX11_doSetLeg 29 = .ok (.bipush 99, 2) := by decide +kernel
theorem dX11_doSetLeg_31 : decode cX11_doSetLeg 31 = .ok (.invokestatic 73, 3) := by decide +kernel
theorem dX11_doSetLeg_34 : decode cX11_doSetLeg 34 = .ok (.ifCond .eq 14, 3) := by decide +kernel
theorem dX11_doSetLeg_37 : decode cX11_doSetLeg 37 = .ok (.iload 4, 2) := by decide +kernel
theorem dX11_doSetLeg_39 : decode cX11_doSetLeg 39 = .ok (.iconst 0, 1) := by decide +kernel
theorem dX11_doSetLeg_40 : decode cX11_doSetLeg 40 = .ok (.bipush 9, 2) := by decide +kernel
theorem dX11_doSetLeg_42 : decode cX11_doSetLeg 42 = .ok (.invokestatic 73, 3) := by decide +kernel
theorem dX11_doSetLeg_45 : decode cX11_doSetLeg 45 = .ok (.ifCond .ne 9, 3) := by decide +kernel
theorem dX11_doSetLeg_48 : decode cX11_doSetLeg 48 = .ok (.aload_n 0, 1) := by decide +kernel
theorem dX11_doSetLeg_49 : decode cX11_doSetLeg 49 = .ok (.iconst 2, 1) := by decide +kernel
theorem dX11_doSetLeg_50 : decode cX11_doSetLeg 50 = .ok (.invokevirtual 69, 3) := by decide +kernel
theorem dX11_doSetLeg_53 : decode cX11_doSetLeg 53 = .ok (.ireturn, 1) := by decide +kernel
theorem dX11_doSetLeg_54 : decode cX11_doSetLeg 54 = .ok (.aload_n 0, 1) := by decide +kernel
theorem dX11_doSetLeg_55 : decode cX11_doSetLeg 55 = .ok (.iload_n 1, 1) := by decide +kernel
theorem dX11_doSetLeg_56 : decode cX11_doSetLeg 56 = .ok (.iload_n 2, 1) := by decide +kernel
theorem dX11_doSetLeg_57 : decode cX11_doSetLeg 57 = .ok (.iload_n 3, 1) := by decide +kernel
theorem dX11_doSetLeg_58 : decode cX11_doSetLeg 58 = .ok (.iload 4, 2) := by decide +kernel
theorem dX11_doSetLeg_60 : decode cX11_doSetLeg 60 = .ok (.invokevirtual 99, 3) := by decide +kernel
theorem dX11_doSetLeg_63 : decode cX11_doSetLeg 63 = .ok (.ireturn, 1) := by decide +kernel
abbrev rmX11_doSetLeg : Room := { frames := 4, cells := 0, slots := 0, locals := 103 }
set_option maxHeartbeats 4000000 in
set_option maxRecDepth 100000 in
theorem metX11_doSetLeg {l : Launch} {s0 : State} {b B : Nat} {D : va_G} {T : Nat → ClassId} (F : FX l s0 b D T B) {X : Nat → Prop} (hX : ∀ o, o < 12 → ¬ X (B + o)) {N : Nat} {μ : Mem} {a0 : Nat} {a1 : Int32} {a2 : Int32} {a3 : Int32} {a4 : Int32} {r : Mem × Int32} (k0 : IsMo a0) (h : fX11_doSetLeg N μ a0 a1 a2 a3 a4 = some r) : gMet l yX11_doSetLeg cX11_doSetLeg 5 (some .int) rmX11_doSetLeg [.ref (B + a0), .int a1, .int a2, .int a3, .int a4] (gWM D T B μ) (KC s0 X) (some (.int r.2)) (gWM D T B r.1) (gA B X) 0 0 := by
  refine gI_of RX11 (by decide +kernel) rfl (Nat.le_of_ble_eq_true rfl) ?_
  intro p e s m args below meth c ls Q hx hb hlocks hml hown hts hW hk hl hS hend
  have hC := FX_C F hk hx hb hown hts
  have hA := gA_allM hX
  have hl : lv_has ls 5 [(0, .ref (B + a0)), (1, .int a1), (2, .int a2), (3, .int a3), (4, .int a4)] := hl
  unfold fX11_doSetLeg at h
  refine lv_aload_n hx hb dX11_doSetLeg_0 rfl (lv_at hl 0 rfl) ?_
  refine lv_iload_n hx hb dX11_doSetLeg_1 rfl (lv_at hl 1 rfl) ?_
  obtain ⟨r1, hcall, h⟩ := bd_out h
  refine g0_callV (As := [.int a1]) hC hml hS hW (KC_at hk hS F.2.2.2.2) KC_blind (metX11_isRoom F hX k0 hcall) ml_X11_92 (gw_recv hC hW k0.1 (k0.2.1 T B (μ a0)) rfl) ⟨rfl, rfl, Nat.le_of_ble_eq_true rfl, Nat.le_of_ble_eq_true rfl⟩ rfl hl.1 rfl (Nat.le_of_ble_eq_true rfl) dX11_doSetLeg_2 ⟨Nat.le_of_ble_eq_true rfl, Nat.le_of_ble_eq_true rfl⟩ (fun H locs hW hS => ?_)
  obtain ⟨j3, hj5, h⟩ := jn1_o h
  have J4 : ∀ (u2 : Unit), j3 u2 = some r → ∀ (H : Heap) (locs : List Loc) (ls : Array Slot), gWM D T B μ H → va_S (gA B X) s.heap H locs → lv_has ls 5 [(0, .ref (B + a0))] → W p l e rmX11_doSetLeg s m args below meth c H locs 0 0 Q (F0 m 16 ls []) := by
    clear h hW hS hl
    intro u2 h H locs ls hW hS hl
    replace h := (hj5 u2).symm.trans h
    refine lv_aload_n hx hb dX11_doSetLeg_16 rfl (lv_at hl 0 rfl) ?_
    refine lv_iconst (v := 1) hx hb dX11_doSetLeg_17 (by decide) ?_
    obtain ⟨r6, hcall, h⟩ := bd_out h
    refine g0_callV (As := [.int 1]) hC hml hS hW (KC_at hk hS F.2.2.2.2) KC_blind (metX11_fails F hX k0 hcall) ml_X11_69 (gw_recv hC hW k0.1 (k0.2.1 T B (μ a0)) rfl) ⟨rfl, rfl, Nat.le_of_ble_eq_true rfl, Nat.le_of_ble_eq_true rfl⟩ rfl hl.1 rfl (Nat.le_of_ble_eq_true rfl) dX11_doSetLeg_18 ⟨Nat.le_of_ble_eq_true rfl, Nat.le_of_ble_eq_true rfl⟩ (fun H locs hW hS => ?_)
    cases h
    exact hend dX11_doSetLeg_21 hW hS (Nat.le_of_ble_eq_true rfl) (Nat.le_of_ble_eq_true rfl)
  refine gw_if_eqZ (tgt := 16) hx hb dX11_doSetLeg_5 (by decide) (fun c7 => ?_) (fun c7 => ?_)
  · replace h := cond_f c7 h
    exact J4 _ h _ _ _ hW hS (lv_sub hl [0] rfl)
  · replace h := cond_t c7 h
    refine lv_aload_n hx hb dX11_doSetLeg_8 rfl (lv_at hl 0 rfl) ?_
    refine lv_iload_n hx hb dX11_doSetLeg_9 rfl (lv_at hl 2 rfl) ?_
    obtain ⟨r8, hcall, h⟩ := bd_out h
    refine g0_callV (As := [.int a2]) hC hml hS hW (KC_at hk hS F.2.2.2.2) KC_blind (metX11_isRoom F hX k0 hcall) ml_X11_92 (gw_recv hC hW k0.1 (k0.2.1 T B (μ a0)) rfl) ⟨rfl, rfl, Nat.le_of_ble_eq_true rfl, Nat.le_of_ble_eq_true rfl⟩ rfl hl.1 rfl (Nat.le_of_ble_eq_true rfl) dX11_doSetLeg_10 ⟨Nat.le_of_ble_eq_true rfl, Nat.le_of_ble_eq_true rfl⟩ (fun H locs hW hS => ?_)
    refine gw_if_neZ (tgt := 22) hx hb dX11_doSetLeg_13 (by decide) (fun c9 => ?_) (fun c9 => ?_)
    · replace h := cond_t c9 h
      refine lv_iload_n hx hb dX11_doSetLeg_22 rfl (lv_at hl 1 rfl) ?_
      refine lv_iload_n hx hb dX11_doSetLeg_23 rfl (lv_at hl 2 rfl) ?_
      obtain ⟨j11, hj13, h⟩ := jn1_o h
      have J12 : ∀ (u10 : Unit), j11 u10 = some r → ∀ (H : Heap) (locs : List Loc) (ls : Array Slot), gWM D T B μ H → va_S (gA B X) s.heap H locs → lv_has ls 5 [(0, .ref (B + a0))] → W p l e rmX11_doSetLeg s m args below meth c H locs 0 0 Q (F0 m 48 ls []) := by
        clear h hW hS hl
        intro u10 h H locs ls hW hS hl
        replace h := (hj13 u10).symm.trans h
        refine lv_aload_n hx hb dX11_doSetLeg_48 rfl (lv_at hl 0 rfl) ?_
        refine lv_iconst (v := 2) hx hb dX11_doSetLeg_49 (by decide) ?_
        obtain ⟨r14, hcall, h⟩ := bd_out h
        refine g0_callV (As := [.int 2]) hC hml hS hW (KC_at hk hS F.2.2.2.2) KC_blind (metX11_fails F hX k0 hcall) ml_X11_69 (gw_recv hC hW k0.1 (k0.2.1 T B (μ a0)) rfl) ⟨rfl, rfl, Nat.le_of_ble_eq_true rfl, Nat.le_of_ble_eq_true rfl⟩ rfl hl.1 rfl (Nat.le_of_ble_eq_true rfl) dX11_doSetLeg_50 ⟨Nat.le_of_ble_eq_true rfl, Nat.le_of_ble_eq_true rfl⟩ (fun H locs hW hS => ?_)
        cases h
        exact hend dX11_doSetLeg_53 hW hS (Nat.le_of_ble_eq_true rfl) (Nat.le_of_ble_eq_true rfl)
      refine lv_icmp_eq (tgt := 48) hx hb dX11_doSetLeg_24 (by decide) (fun c15 => ?_) (fun c15 => ?_)
      · replace h := ite_t c15 h
        exact J12 _ h _ _ _ hW hS (lv_sub hl [0] rfl)
      · replace h := ite_f c15 h
        refine lv_iload_n hx hb dX11_doSetLeg_27 rfl (lv_at hl 3 rfl) ?_
        refine lv_iconst (v := 1) hx hb dX11_doSetLeg_28 (by decide) ?_
        refine lv_bipush (v := 99) hx hb dX11_doSetLeg_29 (by decide) ?_
        obtain ⟨r16, hcall, h⟩ := bd_out h
        refine g0_callS (As := [.int a3, .int 1, .int 99]) hC hml hS hW (KC_at hk hS F.2.2.2.2) KC_blind (metX11_in F hX  hcall) ml_X11_73 ⟨rfl, rfl, Nat.le_of_ble_eq_true rfl, Nat.le_of_ble_eq_true rfl⟩ rfl hl.1 rfl (Nat.le_of_ble_eq_true rfl) dX11_doSetLeg_31 ⟨Nat.le_of_ble_eq_true rfl, Nat.le_of_ble_eq_true rfl⟩ (fun H locs hW hS => ?_)
        refine gw_if_eqZ (tgt := 48) hx hb dX11_doSetLeg_34 (by decide) (fun c17 => ?_) (fun c17 => ?_)
        · replace h := cond_f c17 h
          exact J12 _ h _ _ _ hW hS (lv_sub hl [0] rfl)
        · replace h := cond_t c17 h
          refine lv_iload hx hb dX11_doSetLeg_37 (lv_at hl 4 rfl) ?_
          refine lv_iconst (v := 0) hx hb dX11_doSetLeg_39 (by decide) ?_
          refine lv_bipush (v := 9) hx hb dX11_doSetLeg_40 (by decide) ?_
          obtain ⟨r18, hcall, h⟩ := bd_out h
          refine g0_callS (As := [.int a4, .int 0, .int 9]) hC hml hS hW (KC_at hk hS F.2.2.2.2) KC_blind (metX11_in F hX  hcall) ml_X11_73 ⟨rfl, rfl, Nat.le_of_ble_eq_true rfl, Nat.le_of_ble_eq_true rfl⟩ rfl hl.1 rfl (Nat.le_of_ble_eq_true rfl) dX11_doSetLeg_42 ⟨Nat.le_of_ble_eq_true rfl, Nat.le_of_ble_eq_true rfl⟩ (fun H locs hW hS => ?_)
          refine gw_if_neZ (tgt := 54) hx hb dX11_doSetLeg_45 (by decide) (fun c19 => ?_) (fun c19 => ?_)
          · replace h := cond_t c19 h
            refine lv_aload_n hx hb dX11_doSetLeg_54 rfl (lv_at hl 0 rfl) ?_
            refine lv_iload_n hx hb dX11_doSetLeg_55 rfl (lv_at hl 1 rfl) ?_
            refine lv_iload_n hx hb dX11_doSetLeg_56 rfl (lv_at hl 2 rfl) ?_
            refine lv_iload_n hx hb dX11_doSetLeg_57 rfl (lv_at hl 3 rfl) ?_
            refine lv_iload hx hb dX11_doSetLeg_58 (lv_at hl 4 rfl) ?_
            obtain ⟨r20, hcall, h⟩ := bd_out h
            refine g0_callV (As := [.int a1, .int a2, .int a3, .int a4]) hC hml hS hW (KC_at hk hS F.2.2.2.2) KC_blind (metX11_lays F hX k0 hcall) ml_X11_99 (gw_recv hC hW k0.1 (k0.2.1 T B (μ a0)) rfl) ⟨rfl, rfl, Nat.le_of_ble_eq_true rfl, Nat.le_of_ble_eq_true rfl⟩ rfl hl.1 rfl (Nat.le_of_ble_eq_true rfl) dX11_doSetLeg_60 ⟨Nat.le_of_ble_eq_true rfl, Nat.le_of_ble_eq_true rfl⟩ (fun H locs hW hS => ?_)
            cases h
            exact hend dX11_doSetLeg_63 hW hS (Nat.le_of_ble_eq_true rfl) (Nat.le_of_ble_eq_true rfl)
          · replace h := cond_f c19 h
            exact J12 _ h _ _ _ hW hS (lv_sub hl [0] rfl)
    · replace h := cond_f c9 h
      exact J4 _ h _ _ _ hW hS (lv_sub hl [0] rfl)

theorem dX11_setLeg_0 : decode cX11_setLeg 0 = .ok (.aload_n 0, 1) := by decide +kernel
theorem dX11_setLeg_1 : decode cX11_setLeg 1 = .ok (.invokevirtual 83, 3) := by decide +kernel
theorem dX11_setLeg_4 : decode cX11_setLeg 4 = .ok (.aload_n 0, 1) := by decide +kernel
theorem dX11_setLeg_5 : decode cX11_setLeg 5 = .ok (.aload_n 0, 1) := by decide +kernel
theorem dX11_setLeg_6 : decode cX11_setLeg 6 = .ok (.iload_n 1, 1) := by decide +kernel
theorem dX11_setLeg_7 : decode cX11_setLeg 7 = .ok (.iload_n 2, 1) := by decide +kernel
theorem dX11_setLeg_8 : decode cX11_setLeg 8 = .ok (.iload_n 3, 1) := by decide +kernel
theorem dX11_setLeg_9 : decode cX11_setLeg 9 = .ok (.iload 4, 2) := by decide +kernel
theorem dX11_setLeg_11 : decode cX11_setLeg 11 = .ok (.invokevirtual 103, 3) := by decide +kernel
theorem dX11_setLeg_14 : decode cX11_setLeg 14 = .ok (.invokevirtual 89, 3) := by decide +kernel
theorem dX11_setLeg_17 : decode cX11_setLeg 17 = .ok (.ireturn, 1) := by decide +kernel
abbrev rmX11_setLeg : Room := { frames := 5, cells := 0, slots := 0, locals := 127 }
set_option maxHeartbeats 4000000 in
set_option maxRecDepth 100000 in
theorem metX11_setLeg {l : Launch} {s0 : State} {b B : Nat} {D : va_G} {T : Nat → ClassId} (F : FX l s0 b D T B) {X : Nat → Prop} (hX : ∀ o, o < 12 → ¬ X (B + o)) {N : Nat} {μ : Mem} {a0 : Nat} {a1 : Int32} {a2 : Int32} {a3 : Int32} {a4 : Int32} {r : Mem × Int32} (k0 : IsMo a0) (h : fX11_setLeg N μ a0 a1 a2 a3 a4 = some r) : gMet l yX11_setLeg cX11_setLeg 5 (some .int) rmX11_setLeg [.ref (B + a0), .int a1, .int a2, .int a3, .int a4] (gWM D T B μ) (KC s0 X) (some (.int r.2)) (gWM D T B r.1) (gA B X) 0 0 := by
  refine gI_of RX11 (by decide +kernel) rfl (Nat.le_of_ble_eq_true rfl) ?_
  intro p e s m args below meth c ls Q hx hb hlocks hml hown hts hW hk hl hS hend
  have hC := FX_C F hk hx hb hown hts
  have hA := gA_allM hX
  have hl : lv_has ls 5 [(0, .ref (B + a0)), (1, .int a1), (2, .int a2), (3, .int a3), (4, .int a4)] := hl
  unfold fX11_setLeg at h
  refine lv_aload_n hx hb dX11_setLeg_0 rfl (lv_at hl 0 rfl) ?_
  obtain ⟨r1, hcall, h⟩ := bd_out h
  refine g0_callV (As := []) hC hml hS hW (KC_at hk hS F.2.2.2.2) KC_blind (metX11_keep F hX k0 hcall) ml_X11_83 (gw_recv hC hW k0.1 (k0.2.1 T B (μ a0)) rfl) ⟨rfl, rfl, Nat.le_of_ble_eq_true rfl, Nat.le_of_ble_eq_true rfl⟩ rfl hl.1 rfl (Nat.le_of_ble_eq_true rfl) dX11_setLeg_1 ⟨Nat.le_of_ble_eq_true rfl, Nat.le_of_ble_eq_true rfl⟩ (fun H locs hW hS => ?_)
  refine lv_aload_n hx hb dX11_setLeg_4 rfl (lv_at hl 0 rfl) ?_
  refine lv_aload_n hx hb dX11_setLeg_5 rfl (lv_at hl 0 rfl) ?_
  refine lv_iload_n hx hb dX11_setLeg_6 rfl (lv_at hl 1 rfl) ?_
  refine lv_iload_n hx hb dX11_setLeg_7 rfl (lv_at hl 2 rfl) ?_
  refine lv_iload_n hx hb dX11_setLeg_8 rfl (lv_at hl 3 rfl) ?_
  refine lv_iload hx hb dX11_setLeg_9 (lv_at hl 4 rfl) ?_
  obtain ⟨r2, hcall, h⟩ := bd_out h
  refine g0_callV (As := [.int a1, .int a2, .int a3, .int a4]) hC hml hS hW (KC_at hk hS F.2.2.2.2) KC_blind (metX11_doSetLeg F hX k0 hcall) ml_X11_103 (gw_recv hC hW k0.1 (k0.2.1 T B (r1 a0)) rfl) ⟨rfl, rfl, Nat.le_of_ble_eq_true rfl, Nat.le_of_ble_eq_true rfl⟩ rfl hl.1 rfl (Nat.le_of_ble_eq_true rfl) dX11_setLeg_11 ⟨Nat.le_of_ble_eq_true rfl, Nat.le_of_ble_eq_true rfl⟩ (fun H locs hW hS => ?_)
  obtain ⟨r3, hcall, h⟩ := bd_out h
  refine g0_callV (As := [.int r2.2]) hC hml hS hW (KC_at hk hS F.2.2.2.2) KC_blind (metX11_ends F hX k0 hcall) ml_X11_89 (gw_recv hC hW k0.1 (k0.2.1 T B (r2.1 a0)) rfl) ⟨rfl, rfl, Nat.le_of_ble_eq_true rfl, Nat.le_of_ble_eq_true rfl⟩ rfl hl.1 rfl (Nat.le_of_ble_eq_true rfl) dX11_setLeg_14 ⟨Nat.le_of_ble_eq_true rfl, Nat.le_of_ble_eq_true rfl⟩ (fun H locs hW hS => ?_)
  cases h
  exact hend dX11_setLeg_17 hW hS (Nat.le_of_ble_eq_true rfl) (Nat.le_of_ble_eq_true rfl)

theorem dX11_asksLeg_0 : decode cX11_asksLeg 0 = .ok (.aload_n 0, 1) := by decide +kernel
theorem dX11_asksLeg_1 : decode cX11_asksLeg 1 = .ok (.aload_n 0, 1) := by decide +kernel
theorem dX11_asksLeg_2 : decode cX11_asksLeg 2 = .ok (.iload_n 1, 1) := by decide +kernel
theorem dX11_asksLeg_3 : decode cX11_asksLeg 3 = .ok (.invokevirtual 92, 3) := by decide +kernel
theorem dX11_asksLeg_6 : decode cX11_asksLeg 6 = .ok (.ifCond .eq 11, 3) := by decide +kernel
theorem dX11_asksLeg_9 : decode cX11_asksLeg 9 = .ok (.aload_n 0, 1) := by decide +kernel
theorem dX11_asksLeg_10 : decode cX11_asksLeg 10 = .ok (.iload_n 2, 1) := by decide +kernel
theorem dX11_asksLeg_11 : decode cX11_asksLeg 11 = .ok (.invokevirtual 92, 3) := by decide +kernel
theorem dX11_asksLeg_14 : decode cX11_asksLeg 14 = .ok (.ifCond .ne 7, 3) := by decide +kernel
theorem dX11_asksLeg_17 : decode cX11_asksLeg 17 = .ok (.iconst 1, 1) := by decide +kernel
theorem dX11_asksLeg_18 : decode cX11_asksLeg 18 = .ok (.goto 17, 3) := by decide +kernel
theorem dX11_asksLeg_21 : decode cX11_asksLeg 21 = .ok (.aload_n 0, 1) := by decide +kernel
theorem dX11_asksLeg_22 : decode cX11_asksLeg 22 = .ok (.iload_n 1, 1) := by decide +kernel
theorem dX11_asksLeg_23 : decode cX11_asksLeg 23 = .ok (.iload_n 2, 1) := by decide +kernel
theorem dX11_asksLeg_24 : decode cX11_asksLeg 24 = .ok (.invokevirtual 106, 3) := by decide +kernel
theorem dX11_asksLeg_27 : decode cX11_asksLeg 27 = .ok (.ifCond .ne 7, 3) := by decide +kernel
theorem dX11_asksLeg_30 : decode cX11_asksLeg 30 = .ok (.iconst 2, 1) := by decide +kernel
theorem dX11_asksLeg_31 : decode cX11_asksLeg 31 = .ok (.goto 4, 3) := by decide +kernel
theorem dX11_asksLeg_34 : decode cX11_asksLeg 34 = .ok (.iconst 0, 1) := by decide +kernel
theorem dX11_asksLeg_35 : decode cX11_asksLeg 35 = .ok (.putfield 51, 3) := by decide +kernel
theorem dX11_asksLeg_38 : decode cX11_asksLeg 38 = .ok (.aload_n 0, 1) := by decide +kernel
theorem dX11_asksLeg_39 : decode cX11_asksLeg 39 = .ok (.getfield 51, 3) := by decide +kernel
theorem dX11_asksLeg_42 : decode cX11_asksLeg 42 = .ok (.ifCond .ne 7, 3) := by decide +kernel
theorem dX11_asksLeg_45 : decode cX11_asksLeg 45 = .ok (.iconst 1, 1) := by decide +kernel
theorem dX11_asksLeg_46 : decode cX11_asksLeg 46 = .ok (.goto 4, 3) := by decide +kernel
theorem dX11_asksLeg_49 : decode cX11_asksLeg 49 = .ok (.iconst 0, 1) := by decide +kernel
theorem dX11_asksLeg_50 : decode cX11_asksLeg 50 = .ok (.ireturn, 1) := by decide +kernel
abbrev rmX11_asksLeg : Room := { frames := 4, cells := 0, slots := 0, locals := 103 }
set_option maxHeartbeats 4000000 in
set_option maxRecDepth 100000 in
theorem metX11_asksLeg {l : Launch} {s0 : State} {b B : Nat} {D : va_G} {T : Nat → ClassId} (F : FX l s0 b D T B) {X : Nat → Prop} (hX : ∀ o, o < 12 → ¬ X (B + o)) {N : Nat} {μ : Mem} {a0 : Nat} {a1 : Int32} {a2 : Int32} {r : Mem × Bool} (k0 : IsMo a0) (h : fX11_asksLeg N μ a0 a1 a2 = some r) : gMet l yX11_asksLeg cX11_asksLeg 3 (some .boolean) rmX11_asksLeg [.ref (B + a0), .int a1, .int a2] (gWM D T B μ) (KC s0 X) (some (.int (b2i r.2))) (gWM D T B r.1) (gA B X) 0 0 := by
  refine gZ_of RX11 (by decide +kernel) rfl (Nat.le_of_ble_eq_true rfl) ?_
  intro p e s m args below meth c ls Q hx hb hlocks hml hown hts hW hk hl hS hend
  have hC := FX_C F hk hx hb hown hts
  have hA := gA_allM hX
  have hl : lv_has ls 3 [(0, .ref (B + a0)), (1, .int a1), (2, .int a2)] := hl
  unfold fX11_asksLeg at h
  refine lv_aload_n hx hb dX11_asksLeg_0 rfl (lv_at hl 0 rfl) ?_
  refine lv_aload_n hx hb dX11_asksLeg_1 rfl (lv_at hl 0 rfl) ?_
  refine lv_iload_n hx hb dX11_asksLeg_2 rfl (lv_at hl 1 rfl) ?_
  obtain ⟨r1, hcall, h⟩ := bd_out h
  refine g0_callV (As := [.int a1]) hC hml hS hW (KC_at hk hS F.2.2.2.2) KC_blind (metX11_isRoom F hX k0 hcall) ml_X11_92 (gw_recv hC hW k0.1 (k0.2.1 T B (μ a0)) rfl) ⟨rfl, rfl, Nat.le_of_ble_eq_true rfl, Nat.le_of_ble_eq_true rfl⟩ rfl hl.1 rfl (Nat.le_of_ble_eq_true rfl) dX11_asksLeg_3 ⟨Nat.le_of_ble_eq_true rfl, Nat.le_of_ble_eq_true rfl⟩ (fun H locs hW hS => ?_)
  obtain ⟨j3, hj5, h⟩ := jn1_o h
  have J4 : ∀ (y2 : Int32), j3 y2 = some r → ∀ (H : Heap) (locs : List Loc) (ls : Array Slot), gWM D T B μ H → va_S (gA B X) s.heap H locs → lv_has ls 3 [(0, .ref (B + a0))] → W p l e rmX11_asksLeg s m args below meth c H locs 0 0 Q (F0 m 35 ls [.int y2, .ref (B + a0)]) := by
    clear h hW hS hl
    intro y2 h H locs ls hW hS hl
    replace h := (hj5 y2).symm.trans h
    obtain ⟨μ6, e7, h⟩ := lt_out h
    refine gq_put hC hS hW hA fl_X11_51 k0.1 (k0.2.1 T B) (Nat.le_of_ble_eq_true rfl) rfl rfl rfl e7 dX11_asksLeg_35 (fun H locs hW hS => ?_)
    refine lv_aload_n hx hb dX11_asksLeg_38 rfl (lv_at hl 0 rfl) ?_
    refine gw_get (v := .int (μ6 a0 6)) hC hW fl_X11_51.1 k0.1 (k0.2.1 T B (μ6 a0)) rfl dX11_asksLeg_39 ?_
    obtain ⟨j9, hj11, h⟩ := jn1_o h
    have J10 : ∀ (y8 : Bool), j9 y8 = some r → ∀ (H : Heap) (locs : List Loc) (ls : Array Slot), gWM D T B μ6 H → va_S (gA B X) s.heap H locs → lv_has ls 3 [] → W p l e rmX11_asksLeg s m args below meth c H locs 0 0 Q (F0 m 50 ls [.int (b2i y8)]) := by
      clear h hW hS hl
      intro y8 h H locs ls hW hS hl
      replace h := (hj11 y8).symm.trans h
      cases h
      exact hend dX11_asksLeg_50 hW hS (Nat.le_of_ble_eq_true rfl) (Nat.le_of_ble_eq_true rfl)
    refine lv_if_ne (tgt := 49) hx hb dX11_asksLeg_42 (by decide) (fun c12 => ?_) (fun c12 => ?_)
    · replace h := ite_f c12 h
      refine lv_iconst (v := 0) hx hb dX11_asksLeg_49 (by decide) ?_
      exact J10 _ h _ _ _ hW hS (lv_sub hl [] rfl)
    · replace h := ite_t c12 h
      refine lv_iconst (v := 1) hx hb dX11_asksLeg_45 (by decide) ?_
      refine lv_goto (tgt := 50) hx hb dX11_asksLeg_46 (by decide) ?_
      exact J10 _ h _ _ _ hW hS (lv_sub hl [] rfl)
  obtain ⟨j14, hj16, h⟩ := jn1_o h
  have J15 : ∀ (u13 : Unit), j14 u13 = some r → ∀ (H : Heap) (locs : List Loc) (ls : Array Slot), gWM D T B μ H → va_S (gA B X) s.heap H locs → lv_has ls 3 [(0, .ref (B + a0))] → W p l e rmX11_asksLeg s m args below meth c H locs 0 0 Q (F0 m 17 ls [.ref (B + a0)]) := by
    clear h hW hS hl
    intro u13 h H locs ls hW hS hl
    replace h := (hj16 u13).symm.trans h
    refine lv_iconst (v := 1) hx hb dX11_asksLeg_17 (by decide) ?_
    refine lv_goto (tgt := 35) hx hb dX11_asksLeg_18 (by decide) ?_
    exact J4 _ h _ _ _ hW hS (lv_sub hl [0] rfl)
  refine gw_if_eqZ (tgt := 17) hx hb dX11_asksLeg_6 (by decide) (fun c17 => ?_) (fun c17 => ?_)
  · replace h := cond_f c17 h
    exact J15 _ h _ _ _ hW hS (lv_sub hl [0] rfl)
  · replace h := cond_t c17 h
    refine lv_aload_n hx hb dX11_asksLeg_9 rfl (lv_at hl 0 rfl) ?_
    refine lv_iload_n hx hb dX11_asksLeg_10 rfl (lv_at hl 2 rfl) ?_
    obtain ⟨r18, hcall, h⟩ := bd_out h
    refine g0_callV (As := [.int a2]) hC hml hS hW (KC_at hk hS F.2.2.2.2) KC_blind (metX11_isRoom F hX k0 hcall) ml_X11_92 (gw_recv hC hW k0.1 (k0.2.1 T B (μ a0)) rfl) ⟨rfl, rfl, Nat.le_of_ble_eq_true rfl, Nat.le_of_ble_eq_true rfl⟩ rfl hl.1 rfl (Nat.le_of_ble_eq_true rfl) dX11_asksLeg_11 ⟨Nat.le_of_ble_eq_true rfl, Nat.le_of_ble_eq_true rfl⟩ (fun H locs hW hS => ?_)
    refine gw_if_neZ (tgt := 21) hx hb dX11_asksLeg_14 (by decide) (fun c19 => ?_) (fun c19 => ?_)
    · replace h := cond_t c19 h
      refine lv_aload_n hx hb dX11_asksLeg_21 rfl (lv_at hl 0 rfl) ?_
      refine lv_iload_n hx hb dX11_asksLeg_22 rfl (lv_at hl 1 rfl) ?_
      refine lv_iload_n hx hb dX11_asksLeg_23 rfl (lv_at hl 2 rfl) ?_
      obtain ⟨r20, hcall, h⟩ := bd_out h
      refine g0_callV (As := [.int a1, .int a2]) hC hml hS hW (KC_at hk hS F.2.2.2.2) KC_blind (metX11_leg F hX k0 hcall) ml_X11_106 (gw_recv hC hW k0.1 (k0.2.1 T B (μ a0)) rfl) ⟨rfl, rfl, Nat.le_of_ble_eq_true rfl, Nat.le_of_ble_eq_true rfl⟩ rfl hl.1 rfl (Nat.le_of_ble_eq_true rfl) dX11_asksLeg_24 ⟨Nat.le_of_ble_eq_true rfl, Nat.le_of_ble_eq_true rfl⟩ (fun H locs hW hS => ?_)
      refine lv_if_ne (tgt := 34) hx hb dX11_asksLeg_27 (by decide) (fun c21 => ?_) (fun c21 => ?_)
      · replace h := ite_f c21 h
        refine lv_iconst (v := 0) hx hb dX11_asksLeg_34 (by decide) ?_
        exact J4 _ h _ _ _ hW hS (lv_sub hl [0] rfl)
      · replace h := ite_t c21 h
        refine lv_iconst (v := 2) hx hb dX11_asksLeg_30 (by decide) ?_
        refine lv_goto (tgt := 35) hx hb dX11_asksLeg_31 (by decide) ?_
        exact J4 _ h _ _ _ hW hS (lv_sub hl [0] rfl)
    · replace h := cond_f c19 h
      exact J15 _ h _ _ _ hW hS (lv_sub hl [0] rfl)

theorem dX11_removeLeg_0 : decode cX11_removeLeg 0 = .ok (.aload_n 0, 1) := by decide +kernel
theorem dX11_removeLeg_1 : decode cX11_removeLeg 1 = .ok (.invokevirtual 83, 3) := by decide +kernel
theorem dX11_removeLeg_4 : decode cX11_removeLeg 4 = .ok (.aload_n 0, 1) := by decide +kernel
theorem dX11_removeLeg_5 : decode cX11_removeLeg 5 = .ok (.aload_n 0, 1) := by decide +kernel
theorem dX11_removeLeg_6 : decode cX11_removeLeg 6 = .ok (.iload_n 1, 1) := by decide +kernel
theorem dX11_removeLeg_7 : decode cX11_removeLeg 7 = .ok (.iload_n 2, 1) := by decide +kernel
theorem dX11_removeLeg_8 : decode cX11_removeLeg 8 = .ok (.invokevirtual 109, 3) := by decide +kernel
theorem dX11_removeLeg_11 : decode cX11_removeLeg 11 = .ok (.ifCond .eq 14, 3) := by decide +kernel
theorem dX11_removeLeg_14 : decode cX11_removeLeg 14 = .ok (.aload_n 0, 1) := by decide +kernel
theorem dX11_removeLeg_15 : decode cX11_removeLeg 15 = .ok (.iload_n 1, 1) := by decide +kernel
theorem dX11_removeLeg_16 : decode cX11_removeLeg 16 = .ok (.iload_n 2, 1) := by decide +kernel
theorem dX11_removeLeg_17 : decode cX11_removeLeg 17 = .ok (.iconst 0, 1) := by decide +kernel
theorem dX11_removeLeg_18 : decode cX11_removeLeg 18 = .ok (.iconst 0, 1) := by decide +kernel
theorem dX11_removeLeg_19 : decode cX11_removeLeg 19 = .ok (.invokevirtual 99, 3) := by decide +kernel
theorem dX11_removeLeg_22 : decode cX11_removeLeg 22 = .ok (.goto 4, 3) := by decide +kernel
theorem dX11_removeLeg_25 : decode cX11_removeLeg 25 = .ok (.iconst 0, 1) := by decide +kernel
theorem dX11_removeLeg_26 : decode cX11_removeLeg 26 = .ok (.invokevirtual 89, 3) := by decide +kernel
theorem dX11_removeLeg_29 : decode cX11_removeLeg 29 = .ok (.ireturn, 1) := by decide +kernel
abbrev rmX11_removeLeg : Room := { frames := 5, cells := 0, slots := 0, locals := 125 }
set_option maxHeartbeats 4000000 in
set_option maxRecDepth 100000 in
theorem metX11_removeLeg {l : Launch} {s0 : State} {b B : Nat} {D : va_G} {T : Nat → ClassId} (F : FX l s0 b D T B) {X : Nat → Prop} (hX : ∀ o, o < 12 → ¬ X (B + o)) {N : Nat} {μ : Mem} {a0 : Nat} {a1 : Int32} {a2 : Int32} {r : Mem × Int32} (k0 : IsMo a0) (h : fX11_removeLeg N μ a0 a1 a2 = some r) : gMet l yX11_removeLeg cX11_removeLeg 3 (some .int) rmX11_removeLeg [.ref (B + a0), .int a1, .int a2] (gWM D T B μ) (KC s0 X) (some (.int r.2)) (gWM D T B r.1) (gA B X) 0 0 := by
  refine gI_of RX11 (by decide +kernel) rfl (Nat.le_of_ble_eq_true rfl) ?_
  intro p e s m args below meth c ls Q hx hb hlocks hml hown hts hW hk hl hS hend
  have hC := FX_C F hk hx hb hown hts
  have hA := gA_allM hX
  have hl : lv_has ls 3 [(0, .ref (B + a0)), (1, .int a1), (2, .int a2)] := hl
  unfold fX11_removeLeg at h
  refine lv_aload_n hx hb dX11_removeLeg_0 rfl (lv_at hl 0 rfl) ?_
  obtain ⟨r1, hcall, h⟩ := bd_out h
  refine g0_callV (As := []) hC hml hS hW (KC_at hk hS F.2.2.2.2) KC_blind (metX11_keep F hX k0 hcall) ml_X11_83 (gw_recv hC hW k0.1 (k0.2.1 T B (μ a0)) rfl) ⟨rfl, rfl, Nat.le_of_ble_eq_true rfl, Nat.le_of_ble_eq_true rfl⟩ rfl hl.1 rfl (Nat.le_of_ble_eq_true rfl) dX11_removeLeg_1 ⟨Nat.le_of_ble_eq_true rfl, Nat.le_of_ble_eq_true rfl⟩ (fun H locs hW hS => ?_)
  refine lv_aload_n hx hb dX11_removeLeg_4 rfl (lv_at hl 0 rfl) ?_
  refine lv_aload_n hx hb dX11_removeLeg_5 rfl (lv_at hl 0 rfl) ?_
  refine lv_iload_n hx hb dX11_removeLeg_6 rfl (lv_at hl 1 rfl) ?_
  refine lv_iload_n hx hb dX11_removeLeg_7 rfl (lv_at hl 2 rfl) ?_
  obtain ⟨r2, hcall, h⟩ := bd_out h
  refine g0_callV (As := [.int a1, .int a2]) hC hml hS hW (KC_at hk hS F.2.2.2.2) KC_blind (metX11_asksLeg F hX k0 hcall) ml_X11_109 (gw_recv hC hW k0.1 (k0.2.1 T B (r1 a0)) rfl) ⟨rfl, rfl, Nat.le_of_ble_eq_true rfl, Nat.le_of_ble_eq_true rfl⟩ rfl hl.1 rfl (Nat.le_of_ble_eq_true rfl) dX11_removeLeg_8 ⟨Nat.le_of_ble_eq_true rfl, Nat.le_of_ble_eq_true rfl⟩ (fun H locs hW hS => ?_)
  obtain ⟨j5, hj7, h⟩ := jn2_o h
  have J6 : ∀ (y3 : Int32) (μ4 : Mem), j5 y3 μ4 = some r → ∀ (H : Heap) (locs : List Loc) (ls : Array Slot), gWM D T B μ4 H → va_S (gA B X) s.heap H locs → lv_has ls 3 [] → W p l e rmX11_removeLeg s m args below meth c H locs 0 0 Q (F0 m 26 ls [.int y3, .ref (B + a0)]) := by
    clear h hW hS hl
    intro y3 μ4 h H locs ls hW hS hl
    replace h := (hj7 y3 μ4).symm.trans h
    obtain ⟨r8, hcall, h⟩ := bd_out h
    refine g0_callV (As := [.int y3]) hC hml hS hW (KC_at hk hS F.2.2.2.2) KC_blind (metX11_ends F hX k0 hcall) ml_X11_89 (gw_recv hC hW k0.1 (k0.2.1 T B (μ4 a0)) rfl) ⟨rfl, rfl, Nat.le_of_ble_eq_true rfl, Nat.le_of_ble_eq_true rfl⟩ rfl hl.1 rfl (Nat.le_of_ble_eq_true rfl) dX11_removeLeg_26 ⟨Nat.le_of_ble_eq_true rfl, Nat.le_of_ble_eq_true rfl⟩ (fun H locs hW hS => ?_)
    cases h
    exact hend dX11_removeLeg_29 hW hS (Nat.le_of_ble_eq_true rfl) (Nat.le_of_ble_eq_true rfl)
  refine gw_if_eqZ (tgt := 25) hx hb dX11_removeLeg_11 (by decide) (fun c9 => ?_) (fun c9 => ?_)
  · replace h := cond_f c9 h
    refine lv_iconst (v := 0) hx hb dX11_removeLeg_25 (by decide) ?_
    exact J6 _ _ h _ _ _ hW hS (lv_sub hl [] rfl)
  · replace h := cond_t c9 h
    refine lv_aload_n hx hb dX11_removeLeg_14 rfl (lv_at hl 0 rfl) ?_
    refine lv_iload_n hx hb dX11_removeLeg_15 rfl (lv_at hl 1 rfl) ?_
    refine lv_iload_n hx hb dX11_removeLeg_16 rfl (lv_at hl 2 rfl) ?_
    refine lv_iconst (v := 0) hx hb dX11_removeLeg_17 (by decide) ?_
    refine lv_iconst (v := 0) hx hb dX11_removeLeg_18 (by decide) ?_
    obtain ⟨r10, hcall, h⟩ := bd_out h
    refine g0_callV (As := [.int a1, .int a2, .int 0, .int 0]) hC hml hS hW (KC_at hk hS F.2.2.2.2) KC_blind (metX11_lays F hX k0 hcall) ml_X11_99 (gw_recv hC hW k0.1 (k0.2.1 T B (r2.1 a0)) rfl) ⟨rfl, rfl, Nat.le_of_ble_eq_true rfl, Nat.le_of_ble_eq_true rfl⟩ rfl hl.1 rfl (Nat.le_of_ble_eq_true rfl) dX11_removeLeg_19 ⟨Nat.le_of_ble_eq_true rfl, Nat.le_of_ble_eq_true rfl⟩ (fun H locs hW hS => ?_)
    refine lv_goto (tgt := 26) hx hb dX11_removeLeg_22 (by decide) ?_
    exact J6 _ _ h _ _ _ hW hS (lv_sub hl [] rfl)

theorem dX11_roomCount_0 : decode cX11_roomCount 0 = .ok (.aload_n 0, 1) := by decide +kernel
theorem dX11_roomCount_1 : decode cX11_roomCount 1 = .ok (.iconst 0, 1) := by decide +kernel
theorem dX11_roomCount_2 : decode cX11_roomCount 2 = .ok (.putfield 51, 3) := by decide +kernel
theorem dX11_roomCount_5 : decode cX11_roomCount 5 = .ok (.aload_n 0, 1) := by decide +kernel
theorem dX11_roomCount_6 : decode cX11_roomCount 6 = .ok (.getfield 9, 3) := by decide +kernel
theorem dX11_roomCount_9 : decode cX11_roomCount 9 = .ok (.iconst 0, 1) := by decide +kernel
theorem dX11_roomCount_10 : decode cX11_roomCount 10 = .ok (.iaload, 1) := by decide +kernel
theorem dX11_roomCount_11 : decode cX11_roomCount 11 = .ok (.ireturn, 1) := by decide +kernel
abbrev rmX11_roomCount : Room := { frames := 2, cells := 0, slots := 0, locals := 60 }
set_option maxHeartbeats 4000000 in
set_option maxRecDepth 100000 in
theorem metX11_roomCount {l : Launch} {s0 : State} {b B : Nat} {D : va_G} {T : Nat → ClassId} (F : FX l s0 b D T B) {X : Nat → Prop} (hX : ∀ o, o < 12 → ¬ X (B + o)) {N : Nat} {μ : Mem} {a0 : Nat} {r : Mem × Int32} (k0 : IsMo a0) (h : fX11_roomCount N μ a0 = some r) : gMet l yX11_roomCount cX11_roomCount 1 (some .int) rmX11_roomCount [.ref (B + a0)] (gWM D T B μ) (KC s0 X) (some (.int r.2)) (gWM D T B r.1) (gA B X) 0 0 := by
  refine gI_of RX11 (by decide +kernel) rfl (Nat.le_of_ble_eq_true rfl) ?_
  intro p e s m args below meth c ls Q hx hb hlocks hml hown hts hW hk hl hS hend
  have hC := FX_C F hk hx hb hown hts
  have hA := gA_allM hX
  have hl : lv_has ls 1 [(0, .ref (B + a0))] := hl
  unfold fX11_roomCount at h
  refine lv_aload_n hx hb dX11_roomCount_0 rfl (lv_at hl 0 rfl) ?_
  refine lv_iconst (v := 0) hx hb dX11_roomCount_1 (by decide) ?_
  obtain ⟨μ1, e2, h⟩ := lt_out h
  refine gq_put hC hS hW hA fl_X11_51 k0.1 (k0.2.1 T B) (Nat.le_of_ble_eq_true rfl) rfl rfl rfl e2 dX11_roomCount_2 (fun H locs hW hS => ?_)
  refine lv_aload_n hx hb dX11_roomCount_5 rfl (lv_at hl 0 rfl) ?_
  refine gw_get (v := .ref (B + (a0 + 1))) hC hW fl_X11_9 k0.1 (k0.2.1 T B (μ1 a0)) rfl dX11_roomCount_6 ?_
  refine lv_iconst (v := 0) hx hb dX11_roomCount_9 (by decide) ?_
  obtain ⟨v3, e4, hi5, h⟩ := ag_o h
  refine gq_iald hC hW k0.2.2.1.1 (k0.2.2.1.2 T B (μ1 (a0 + 1))) (t0 := 0) rfl e4 hi5 dX11_roomCount_10 ?_
  cases h
  exact hend dX11_roomCount_11 hW hS (Nat.le_of_ble_eq_true rfl) (Nat.le_of_ble_eq_true rfl)

theorem dX11_warmth_0 : decode cX11_warmth 0 = .ok (.aload_n 0, 1) := by decide +kernel
theorem dX11_warmth_1 : decode cX11_warmth 1 = .ok (.aload_n 0, 1) := by decide +kernel
theorem dX11_warmth_2 : decode cX11_warmth 2 = .ok (.iload_n 1, 1) := by decide +kernel
theorem dX11_warmth_3 : decode cX11_warmth 3 = .ok (.invokevirtual 92, 3) := by decide +kernel
theorem dX11_warmth_6 : decode cX11_warmth 6 = .ok (.invokevirtual 113, 3) := by decide +kernel
theorem dX11_warmth_9 : decode cX11_warmth 9 = .ok (.ifCond .eq 14, 3) := by decide +kernel
theorem dX11_warmth_12 : decode cX11_warmth 12 = .ok (.aload_n 0, 1) := by decide +kernel
theorem dX11_warmth_13 : decode cX11_warmth 13 = .ok (.getfield 9, 3) := by decide +kernel
theorem dX11_warmth_16 : decode cX11_warmth 16 = .ok (.iconst 4, 1) := by decide +kernel
theorem dX11_warmth_17 : decode cX11_warmth 17 = .ok (.iload_n 1, 1) := by decide +kernel
theorem dX11_warmth_18 : decode cX11_warmth 18 = .ok (.iadd, 1) := by decide +kernel
theorem dX11_warmth_19 : decode cX11_warmth 19 = .ok (.iaload, 1) := by decide +kernel
theorem dX11_warmth_20 : decode cX11_warmth 20 = .ok (.goto 4, 3) := by decide +kernel
theorem dX11_warmth_23 : decode cX11_warmth 23 = .ok (.iconst 0, 1) := by decide +kernel
theorem dX11_warmth_24 : decode cX11_warmth 24 = .ok (.ireturn, 1) := by decide +kernel
abbrev rmX11_warmth : Room := { frames := 4, cells := 0, slots := 0, locals := 103 }
set_option maxHeartbeats 4000000 in
set_option maxRecDepth 100000 in
theorem metX11_warmth {l : Launch} {s0 : State} {b B : Nat} {D : va_G} {T : Nat → ClassId} (F : FX l s0 b D T B) {X : Nat → Prop} (hX : ∀ o, o < 12 → ¬ X (B + o)) {N : Nat} {μ : Mem} {a0 : Nat} {a1 : Int32} {r : Mem × Int32} (k0 : IsMo a0) (h : fX11_warmth N μ a0 a1 = some r) : gMet l yX11_warmth cX11_warmth 2 (some .int) rmX11_warmth [.ref (B + a0), .int a1] (gWM D T B μ) (KC s0 X) (some (.int r.2)) (gWM D T B r.1) (gA B X) 0 0 := by
  refine gI_of RX11 (by decide +kernel) rfl (Nat.le_of_ble_eq_true rfl) ?_
  intro p e s m args below meth c ls Q hx hb hlocks hml hown hts hW hk hl hS hend
  have hC := FX_C F hk hx hb hown hts
  have hA := gA_allM hX
  have hl : lv_has ls 2 [(0, .ref (B + a0)), (1, .int a1)] := hl
  unfold fX11_warmth at h
  refine lv_aload_n hx hb dX11_warmth_0 rfl (lv_at hl 0 rfl) ?_
  refine lv_aload_n hx hb dX11_warmth_1 rfl (lv_at hl 0 rfl) ?_
  refine lv_iload_n hx hb dX11_warmth_2 rfl (lv_at hl 1 rfl) ?_
  obtain ⟨r1, hcall, h⟩ := bd_out h
  refine g0_callV (As := [.int a1]) hC hml hS hW (KC_at hk hS F.2.2.2.2) KC_blind (metX11_isRoom F hX k0 hcall) ml_X11_92 (gw_recv hC hW k0.1 (k0.2.1 T B (μ a0)) rfl) ⟨rfl, rfl, Nat.le_of_ble_eq_true rfl, Nat.le_of_ble_eq_true rfl⟩ rfl hl.1 rfl (Nat.le_of_ble_eq_true rfl) dX11_warmth_3 ⟨Nat.le_of_ble_eq_true rfl, Nat.le_of_ble_eq_true rfl⟩ (fun H locs hW hS => ?_)
  obtain ⟨r2, hcall, h⟩ := bd_out h
  refine g0_callV (As := [.int (b2i r1)]) hC hml hS hW (KC_at hk hS F.2.2.2.2) KC_blind (metX11_isThere F hX k0 hcall) ml_X11_113 (gw_recv hC hW k0.1 (k0.2.1 T B (μ a0)) rfl) ⟨rfl, rfl, Nat.le_of_ble_eq_true rfl, Nat.le_of_ble_eq_true rfl⟩ rfl hl.1 rfl (Nat.le_of_ble_eq_true rfl) dX11_warmth_6 ⟨Nat.le_of_ble_eq_true rfl, Nat.le_of_ble_eq_true rfl⟩ (fun H locs hW hS => ?_)
  obtain ⟨j4, hj6, h⟩ := jn1_o h
  have J5 : ∀ (y3 : Int32), j4 y3 = some r → ∀ (H : Heap) (locs : List Loc) (ls : Array Slot), gWM D T B r2.1 H → va_S (gA B X) s.heap H locs → lv_has ls 2 [] → W p l e rmX11_warmth s m args below meth c H locs 0 0 Q (F0 m 24 ls [.int y3]) := by
    clear h hW hS hl
    intro y3 h H locs ls hW hS hl
    replace h := (hj6 y3).symm.trans h
    cases h
    exact hend dX11_warmth_24 hW hS (Nat.le_of_ble_eq_true rfl) (Nat.le_of_ble_eq_true rfl)
  refine gw_if_eqZ (tgt := 23) hx hb dX11_warmth_9 (by decide) (fun c7 => ?_) (fun c7 => ?_)
  · replace h := cond_f c7 h
    refine lv_iconst (v := 0) hx hb dX11_warmth_23 (by decide) ?_
    exact J5 _ h _ _ _ hW hS (lv_sub hl [] rfl)
  · replace h := cond_t c7 h
    refine lv_aload_n hx hb dX11_warmth_12 rfl (lv_at hl 0 rfl) ?_
    refine gw_get (v := .ref (B + (a0 + 1))) hC hW fl_X11_9 k0.1 (k0.2.1 T B (r2.1 a0)) rfl dX11_warmth_13 ?_
    refine lv_iconst (v := 4) hx hb dX11_warmth_16 (by decide) ?_
    refine lv_iload_n hx hb dX11_warmth_17 rfl (lv_at hl 1 rfl) ?_
    refine lv_iadd hx hb dX11_warmth_18 ?_
    obtain ⟨v8, e9, hi10, h⟩ := ag_o h
    refine gq_iald hC hW k0.2.2.1.1 (k0.2.2.1.2 T B (r2.1 (a0 + 1))) (t0 := 0) rfl e9 hi10 dX11_warmth_19 ?_
    refine lv_goto (tgt := 24) hx hb dX11_warmth_20 (by decide) ?_
    exact J5 _ h _ _ _ hW hS (lv_sub hl [] rfl)

theorem dX11_legMinutes_0 : decode cX11_legMinutes 0 = .ok (.aload_n 0, 1) := by decide +kernel
theorem dX11_legMinutes_1 : decode cX11_legMinutes 1 = .ok (.iload_n 1, 1) := by decide +kernel
theorem dX11_legMinutes_2 : decode cX11_legMinutes 2 = .ok (.iload_n 2, 1) := by decide +kernel
theorem dX11_legMinutes_3 : decode cX11_legMinutes 3 = .ok (.invokevirtual 109, 3) := by decide +kernel
theorem dX11_legMinutes_6 : decode cX11_legMinutes 6 = .ok (.ifCond .eq 12, 3) := by decide +kernel
theorem dX11_legMinutes_9 : decode cX11_legMinutes 9 = .ok (.aload_n 0, 1) := by decide +kernel
theorem dX11_legMinutes_10 : decode cX11_legMinutes 10 = .ok (.iload_n 1, 1) := by decide +kernel
theorem dX11_legMinutes_11 : decode cX11_legMinutes 11 = .ok (.iload_n 2, 1) := by decide +kernel
theorem dX11_legMinutes_12 : decode cX11_legMinutes 12 = .ok (.invokevirtual 106, 3) := by decide +kernel
theorem dX11_legMinutes_15 : decode cX11_legMinutes 15 = .ok (.goto 4, 3) := by decide +kernel
theorem dX11_legMinutes_18 : decode cX11_legMinutes 18 = .ok (.iconst 0, 1) := by decide +kernel
theorem dX11_legMinutes_19 : decode cX11_legMinutes 19 = .ok (.ireturn, 1) := by decide +kernel
abbrev rmX11_legMinutes : Room := { frames := 5, cells := 0, slots := 0, locals := 125 }
set_option maxHeartbeats 4000000 in
set_option maxRecDepth 100000 in
theorem metX11_legMinutes {l : Launch} {s0 : State} {b B : Nat} {D : va_G} {T : Nat → ClassId} (F : FX l s0 b D T B) {X : Nat → Prop} (hX : ∀ o, o < 12 → ¬ X (B + o)) {N : Nat} {μ : Mem} {a0 : Nat} {a1 : Int32} {a2 : Int32} {r : Mem × Int32} (k0 : IsMo a0) (h : fX11_legMinutes N μ a0 a1 a2 = some r) : gMet l yX11_legMinutes cX11_legMinutes 3 (some .int) rmX11_legMinutes [.ref (B + a0), .int a1, .int a2] (gWM D T B μ) (KC s0 X) (some (.int r.2)) (gWM D T B r.1) (gA B X) 0 0 := by
  refine gI_of RX11 (by decide +kernel) rfl (Nat.le_of_ble_eq_true rfl) ?_
  intro p e s m args below meth c ls Q hx hb hlocks hml hown hts hW hk hl hS hend
  have hC := FX_C F hk hx hb hown hts
  have hA := gA_allM hX
  have hl : lv_has ls 3 [(0, .ref (B + a0)), (1, .int a1), (2, .int a2)] := hl
  unfold fX11_legMinutes at h
  refine lv_aload_n hx hb dX11_legMinutes_0 rfl (lv_at hl 0 rfl) ?_
  refine lv_iload_n hx hb dX11_legMinutes_1 rfl (lv_at hl 1 rfl) ?_
  refine lv_iload_n hx hb dX11_legMinutes_2 rfl (lv_at hl 2 rfl) ?_
  obtain ⟨r1, hcall, h⟩ := bd_out h
  refine g0_callV (As := [.int a1, .int a2]) hC hml hS hW (KC_at hk hS F.2.2.2.2) KC_blind (metX11_asksLeg F hX k0 hcall) ml_X11_109 (gw_recv hC hW k0.1 (k0.2.1 T B (μ a0)) rfl) ⟨rfl, rfl, Nat.le_of_ble_eq_true rfl, Nat.le_of_ble_eq_true rfl⟩ rfl hl.1 rfl (Nat.le_of_ble_eq_true rfl) dX11_legMinutes_3 ⟨Nat.le_of_ble_eq_true rfl, Nat.le_of_ble_eq_true rfl⟩ (fun H locs hW hS => ?_)
  obtain ⟨j3, hj5, h⟩ := jn1_o h
  have J4 : ∀ (y2 : Int32), j3 y2 = some r → ∀ (H : Heap) (locs : List Loc) (ls : Array Slot), gWM D T B r1.1 H → va_S (gA B X) s.heap H locs → lv_has ls 3 [] → W p l e rmX11_legMinutes s m args below meth c H locs 0 0 Q (F0 m 19 ls [.int y2]) := by
    clear h hW hS hl
    intro y2 h H locs ls hW hS hl
    replace h := (hj5 y2).symm.trans h
    cases h
    exact hend dX11_legMinutes_19 hW hS (Nat.le_of_ble_eq_true rfl) (Nat.le_of_ble_eq_true rfl)
  refine gw_if_eqZ (tgt := 18) hx hb dX11_legMinutes_6 (by decide) (fun c6 => ?_) (fun c6 => ?_)
  · replace h := cond_f c6 h
    refine lv_iconst (v := 0) hx hb dX11_legMinutes_18 (by decide) ?_
    exact J4 _ h _ _ _ hW hS (lv_sub hl [] rfl)
  · replace h := cond_t c6 h
    refine lv_aload_n hx hb dX11_legMinutes_9 rfl (lv_at hl 0 rfl) ?_
    refine lv_iload_n hx hb dX11_legMinutes_10 rfl (lv_at hl 1 rfl) ?_
    refine lv_iload_n hx hb dX11_legMinutes_11 rfl (lv_at hl 2 rfl) ?_
    obtain ⟨r7, hcall, h⟩ := bd_out h
    refine g0_callV (As := [.int a1, .int a2]) hC hml hS hW (KC_at hk hS F.2.2.2.2) KC_blind (metX11_leg F hX k0 hcall) ml_X11_106 (gw_recv hC hW k0.1 (k0.2.1 T B (r1.1 a0)) rfl) ⟨rfl, rfl, Nat.le_of_ble_eq_true rfl, Nat.le_of_ble_eq_true rfl⟩ rfl hl.1 rfl (Nat.le_of_ble_eq_true rfl) dX11_legMinutes_12 ⟨Nat.le_of_ble_eq_true rfl, Nat.le_of_ble_eq_true rfl⟩ (fun H locs hW hS => ?_)
    refine lv_goto (tgt := 19) hx hb dX11_legMinutes_15 (by decide) ?_
    exact J4 _ h _ _ _ hW hS (lv_sub hl [] rfl)

theorem dX11_legWarmth_0 : decode cX11_legWarmth 0 = .ok (.aload_n 0, 1) := by decide +kernel
theorem dX11_legWarmth_1 : decode cX11_legWarmth 1 = .ok (.iload_n 1, 1) := by decide +kernel
theorem dX11_legWarmth_2 : decode cX11_legWarmth 2 = .ok (.iload_n 2, 1) := by decide +kernel
theorem dX11_legWarmth_3 : decode cX11_legWarmth 3 = .ok (.invokevirtual 109, 3) := by decide +kernel
theorem dX11_legWarmth_6 : decode cX11_legWarmth 6 = .ok (.ifCond .eq 12, 3) := by decide +kernel
theorem dX11_legWarmth_9 : decode cX11_legWarmth 9 = .ok (.aload_n 0, 1) := by decide +kernel
theorem dX11_legWarmth_10 : decode cX11_legWarmth 10 = .ok (.iload_n 1, 1) := by decide +kernel
theorem dX11_legWarmth_11 : decode cX11_legWarmth 11 = .ok (.iload_n 2, 1) := by decide +kernel
theorem dX11_legWarmth_12 : decode cX11_legWarmth 12 = .ok (.invokevirtual 117, 3) := by decide +kernel
theorem dX11_legWarmth_15 : decode cX11_legWarmth 15 = .ok (.goto 4, 3) := by decide +kernel
theorem dX11_legWarmth_18 : decode cX11_legWarmth 18 = .ok (.iconst 0, 1) := by decide +kernel
theorem dX11_legWarmth_19 : decode cX11_legWarmth 19 = .ok (.ireturn, 1) := by decide +kernel
abbrev rmX11_legWarmth : Room := { frames := 5, cells := 0, slots := 0, locals := 125 }
set_option maxHeartbeats 4000000 in
set_option maxRecDepth 100000 in
theorem metX11_legWarmth {l : Launch} {s0 : State} {b B : Nat} {D : va_G} {T : Nat → ClassId} (F : FX l s0 b D T B) {X : Nat → Prop} (hX : ∀ o, o < 12 → ¬ X (B + o)) {N : Nat} {μ : Mem} {a0 : Nat} {a1 : Int32} {a2 : Int32} {r : Mem × Int32} (k0 : IsMo a0) (h : fX11_legWarmth N μ a0 a1 a2 = some r) : gMet l yX11_legWarmth cX11_legWarmth 3 (some .int) rmX11_legWarmth [.ref (B + a0), .int a1, .int a2] (gWM D T B μ) (KC s0 X) (some (.int r.2)) (gWM D T B r.1) (gA B X) 0 0 := by
  refine gI_of RX11 (by decide +kernel) rfl (Nat.le_of_ble_eq_true rfl) ?_
  intro p e s m args below meth c ls Q hx hb hlocks hml hown hts hW hk hl hS hend
  have hC := FX_C F hk hx hb hown hts
  have hA := gA_allM hX
  have hl : lv_has ls 3 [(0, .ref (B + a0)), (1, .int a1), (2, .int a2)] := hl
  unfold fX11_legWarmth at h
  refine lv_aload_n hx hb dX11_legWarmth_0 rfl (lv_at hl 0 rfl) ?_
  refine lv_iload_n hx hb dX11_legWarmth_1 rfl (lv_at hl 1 rfl) ?_
  refine lv_iload_n hx hb dX11_legWarmth_2 rfl (lv_at hl 2 rfl) ?_
  obtain ⟨r1, hcall, h⟩ := bd_out h
  refine g0_callV (As := [.int a1, .int a2]) hC hml hS hW (KC_at hk hS F.2.2.2.2) KC_blind (metX11_asksLeg F hX k0 hcall) ml_X11_109 (gw_recv hC hW k0.1 (k0.2.1 T B (μ a0)) rfl) ⟨rfl, rfl, Nat.le_of_ble_eq_true rfl, Nat.le_of_ble_eq_true rfl⟩ rfl hl.1 rfl (Nat.le_of_ble_eq_true rfl) dX11_legWarmth_3 ⟨Nat.le_of_ble_eq_true rfl, Nat.le_of_ble_eq_true rfl⟩ (fun H locs hW hS => ?_)
  obtain ⟨j3, hj5, h⟩ := jn1_o h
  have J4 : ∀ (y2 : Int32), j3 y2 = some r → ∀ (H : Heap) (locs : List Loc) (ls : Array Slot), gWM D T B r1.1 H → va_S (gA B X) s.heap H locs → lv_has ls 3 [] → W p l e rmX11_legWarmth s m args below meth c H locs 0 0 Q (F0 m 19 ls [.int y2]) := by
    clear h hW hS hl
    intro y2 h H locs ls hW hS hl
    replace h := (hj5 y2).symm.trans h
    cases h
    exact hend dX11_legWarmth_19 hW hS (Nat.le_of_ble_eq_true rfl) (Nat.le_of_ble_eq_true rfl)
  refine gw_if_eqZ (tgt := 18) hx hb dX11_legWarmth_6 (by decide) (fun c6 => ?_) (fun c6 => ?_)
  · replace h := cond_f c6 h
    refine lv_iconst (v := 0) hx hb dX11_legWarmth_18 (by decide) ?_
    exact J4 _ h _ _ _ hW hS (lv_sub hl [] rfl)
  · replace h := cond_t c6 h
    refine lv_aload_n hx hb dX11_legWarmth_9 rfl (lv_at hl 0 rfl) ?_
    refine lv_iload_n hx hb dX11_legWarmth_10 rfl (lv_at hl 1 rfl) ?_
    refine lv_iload_n hx hb dX11_legWarmth_11 rfl (lv_at hl 2 rfl) ?_
    obtain ⟨r7, hcall, h⟩ := bd_out h
    refine g0_callV (As := [.int a1, .int a2]) hC hml hS hW (KC_at hk hS F.2.2.2.2) KC_blind (metX11_heat F hX k0 hcall) ml_X11_117 (gw_recv hC hW k0.1 (k0.2.1 T B (r1.1 a0)) rfl) ⟨rfl, rfl, Nat.le_of_ble_eq_true rfl, Nat.le_of_ble_eq_true rfl⟩ rfl hl.1 rfl (Nat.le_of_ble_eq_true rfl) dX11_legWarmth_12 ⟨Nat.le_of_ble_eq_true rfl, Nat.le_of_ble_eq_true rfl⟩ (fun H locs hW hS => ?_)
    refine lv_goto (tgt := 19) hx hb dX11_legWarmth_15 (by decide) ?_
    exact J4 _ h _ _ _ hW hS (lv_sub hl [] rfl)

theorem dX11_findsWays_0 : decode cX11_findsWays 0 = .ok (.iconst 0, 1) := by decide +kernel
theorem dX11_findsWays_1 : decode cX11_findsWays 1 = .ok (.istore_n 2, 1) := by decide +kernel
theorem dX11_findsWays_2 : decode cX11_findsWays 2 = .ok (.iload_n 2, 1) := by decide +kernel
theorem dX11_findsWays_3 : decode cX11_findsWays 3 = .ok (.bipush 6, 2) := by decide +kernel
theorem dX11_findsWays_5 : decode cX11_findsWays 5 = .ok (.if_icmp .ge 33, 3) := by decide +kernel
theorem dX11_findsWays_8 : decode cX11_findsWays 8 = .ok (.aload_n 0, 1) := by decide +kernel
theorem dX11_findsWays_9 : decode cX11_findsWays 9 = .ok (.getfield 22, 3) := by decide +kernel
theorem dX11_findsWays_12 : decode cX11_findsWays 12 = .ok (.iload_n 2, 1) := by decide +kernel
theorem dX11_findsWays_13 : decode cX11_findsWays 13 = .ok (.iload_n 2, 1) := by decide +kernel
theorem dX11_findsWays_14 : decode cX11_findsWays 14 = .ok (.iload_n 1, 1) := by decide +kernel
theorem dX11_findsWays_15 : decode cX11_findsWays 15 = .ok (.if_icmp .ne 7, 3) := by decide +kernel
theorem dX11_findsWays_18 : decode cX11_findsWays 18 = .ok (.iconst 0, 1) := by decide +kernel
theorem dX11_findsWays_19 : decode cX11_findsWays 19 = .ok (.goto 5, 3) := by decide +kernel
theorem dX11_findsWays_22 : decode cX11_findsWays 22 = .ok (.ldc 120, 2) := by decide +kernel
theorem dX11_findsWays_24 : decode cX11_findsWays 24 = .ok (.iastore, 1) := by decide +kernel
theorem dX11_findsWays_25 : decode cX11_findsWays 25 = .ok (.aload_n 0, 1) := by decide +kernel
theorem dX11_findsWays_26 : decode cX11_findsWays 26 = .ok (.getfield 25, 3) := by decide +kernel
theorem dX11_findsWays_29 : decode cX11_findsWays 29 = .ok (.iload_n 2, 1) := by decide +kernel
theorem dX11_findsWays_30 : decode cX11_findsWays 30 = .ok (.iconst 0, 1) := by decide +kernel
theorem dX11_findsWays_31 : decode cX11_findsWays 31 = .ok (.iastore, 1) := by decide +kernel
theorem dX11_findsWays_32 : decode cX11_findsWays 32 = .ok (.iinc 2 1, 3) := by decide +kernel
theorem dX11_findsWays_35 : decode cX11_findsWays 35 = .ok (.goto (-33), 3) := by decide +kernel
theorem dX11_findsWays_38 : decode cX11_findsWays 38 = .ok (.iconst 1, 1) := by decide +kernel
theorem dX11_findsWays_39 : decode cX11_findsWays 39 = .ok (.istore_n 2, 1) := by decide +kernel
theorem dX11_findsWays_40 : decode cX11_findsWays 40 = .ok (.iload_n 2, 1) := by decide +kernel
theorem dX11_findsWays_41 : decode cX11_findsWays 41 = .ok (.ifCond .eq 190, 3) := by decide +kernel
theorem dX11_findsWays_44 : decode cX11_findsWays 44 = .ok (.iconst 0, 1) := by decide +kernel
theorem dX11_findsWays_45 : decode cX11_findsWays 45 = .ok (.istore_n 2, 1) := by decide +kernel
theorem dX11_findsWays_46 : decode cX11_findsWays 46 = .ok (.iconst 0, 1) := by decide +kernel
theorem dX11_findsWays_47 : decode cX11_findsWays 47 = .ok (.istore_n 3, 1) := by decide +kernel
theorem dX11_findsWays_48 : decode cX11_findsWays 48 = .ok (.iload_n 3, 1) := by decide +kernel
theorem dX11_findsWays_49 : decode cX11_findsWays 49 = .ok (.bipush 6, 2) := by decide +kernel
theorem dX11_findsWays_51 : decode cX11_findsWays 51 = .ok (.if_icmp .ge 177, 3) := by decide +kernel
theorem dX11_findsWays_54 : decode cX11_findsWays 54 = .ok (.iconst 0, 1) := by decide +kernel
theorem dX11_findsWays_55 : decode cX11_findsWays 55 = .ok (.istore 4, 2) := by decide +kernel
theorem dX11_findsWays_57 : decode cX11_findsWays 57 = .ok (.iload 4, 2) := by decide +kernel
theorem dX11_findsWays_59 : decode cX11_findsWays 59 = .ok (.bipush 6, 2) := by decide +kernel
theorem dX11_findsWays_61 : decode cX11_findsWays 61 = .ok (.if_icmp .ge 161, 3) := by decide +kernel
theorem dX11_findsWays_64 : decode cX11_findsWays 64 = .ok (.aload_n 0, 1) := by decide +kernel
theorem dX11_findsWays_65 : decode cX11_findsWays 65 = .ok (.getfield 22, 3) := by decide +kernel
theorem dX11_findsWays_68 : decode cX11_findsWays 68 = .ok (.iload 4, 2) := by decide +kernel
theorem dX11_findsWays_70 : decode cX11_findsWays 70 = .ok (.iaload, 1) := by decide +kernel
theorem dX11_findsWays_71 : decode cX11_findsWays 71 = .ok (.aload_n 0, 1) := by decide +kernel
theorem dX11_findsWays_72 : decode cX11_findsWays 72 = .ok (.iload_n 3, 1) := by decide +kernel
theorem dX11_findsWays_73 : decode cX11_findsWays 73 = .ok (.iload 4, 2) := by decide +kernel
theorem dX11_findsWays_75 : decode cX11_findsWays 75 = .ok (.invokevirtual 106, 3) := by decide +kernel
theorem dX11_findsWays_78 : decode cX11_findsWays 78 = .ok (.iadd, 1) := by decide +kernel
theorem dX11_findsWays_79 : decode cX11_findsWays 79 = .ok (.istore 5, 2) := by decide +kernel
theorem dX11_findsWays_81 : decode cX11_findsWays 81 = .ok (.aload_n 0, 1) := by decide +kernel
theorem dX11_findsWays_82 : decode cX11_findsWays 82 = .ok (.iload_n 3, 1) := by decide +kernel
theorem dX11_findsWays_83 : decode cX11_findsWays 83 = .ok (.iload 4, 2) := by decide +kernel
theorem dX11_findsWays_85 : decode cX11_findsWays 85 = .ok (.invokevirtual 106, 3) := by decide +kernel
theorem dX11_findsWays_88 : decode cX11_findsWays 88 = .ok (.ifCond .le 59, 3) := by decide +kernel
theorem dX11_findsWays_91 : decode cX11_findsWays 91 = .ok (.aload_n 0, 1) := by decide +kernel
theorem dX11_findsWays_92 : decode cX11_findsWays 92 = .ok (.getfield 22, 3) := by decide +kernel
theorem dX11_findsWays_95 : decode cX11_findsWays 95 = .ok (.iload 4, 2) := by decide +kernel
theorem dX11_findsWays_97 : decode cX11_findsWays 97 = .ok (.iaload, 1) := by decide +kernel
theorem dX11_findsWays_98 : decode cX11_findsWays 98 = .ok (.ldc 120, 2) := by decide +kernel
theorem dX11_findsWays_100 : decode cX11_findsWays 100 = .ok (.if_icmp .ge 47, 3) := by decide +kernel
theorem dX11_findsWays_103 : decode cX11_findsWays 103 = .ok (.iload 5, 2) := by decide +kernel
theorem dX11_findsWays_105 : decode cX11_findsWays 105 = .ok (.aload_n 0, 1) := by decide +kernel
theorem dX11_findsWays_106 : decode cX11_findsWays 106 = .ok (.getfield 22, 3) := by decide +kernel
theorem dX11_findsWays_109 : decode cX11_findsWays 109 = .ok (.iload_n 3, 1) := by decide +kernel
theorem dX11_findsWays_110 : decode cX11_findsWays 110 = .ok (.iaload, 1) := by decide +kernel
theorem dX11_findsWays_111 : decode cX11_findsWays 111 = .ok (.if_icmp .lt 32, 3) := by decide +kernel
theorem dX11_findsWays_114 : decode cX11_findsWays 114 = .ok (.iload 5, 2) := by decide +kernel
theorem dX11_findsWays_116 : decode cX11_findsWays 116 = .ok (.aload_n 0, 1) := by decide +kernel
theorem dX11_findsWays_117 : decode cX11_findsWays 117 = .ok (.getfield 22, 3) := by decide +kernel
theorem dX11_findsWays_120 : decode cX11_findsWays 120 = .ok (.iload_n 3, 1) := by decide +kernel
theorem dX11_findsWays_121 : decode cX11_findsWays 121 = .ok (.iaload, 1) := by decide +kernel
theorem dX11_findsWays_122 : decode cX11_findsWays 122 = .ok (.if_icmp .ne 25, 3) := by decide +kernel
theorem dX11_findsWays_125 : decode cX11_findsWays 125 = .ok (.aload_n 0, 1) := by decide +kernel
theorem dX11_findsWays_126 : decode cX11_findsWays 126 = .ok (.getfield 25, 3) := by decide +kernel
theorem dX11_findsWays_129 : decode cX11_findsWays 129 = .ok (.iload 4, 2) := by decide +kernel
theorem dX11_findsWays_131 : decode cX11_findsWays 131 = .ok (.iaload, 1) := by decide +kernel
theorem dX11_findsWays_132 : decode cX11_findsWays 132 = .ok (.iconst 1, 1) := by decide +kernel
theorem dX11_findsWays_133 : decode cX11_findsWays 133 = .ok (.iadd, 1) := by decide +kernel
theorem dX11_findsWays_134 : decode cX11_findsWays 134 = .ok (.aload_n 0, 1) := by decide +kernel
theorem dX11_findsWays_135 : decode cX11_findsWays 135 = .ok (.getfield 25, 3) := by decide +kernel
theorem dX11_findsWays_138 : decode cX11_findsWays 138 = .ok (.iload_n 3, 1) := by decide +kernel
theorem dX11_findsWays_139 : decode cX11_findsWays 139 = .ok (.iaload, 1) := by decide +kernel
theorem dX11_findsWays_140 : decode cX11_findsWays 140 = .ok (.if_icmp .ge 7, 3) := by decide +kernel
theorem dX11_findsWays_143 : decode cX11_findsWays 143 = .ok (.iconst 1, 1) := by decide +kernel
theorem dX11_findsWays_144 : decode cX11_findsWays 144 = .ok (.goto 4, 3) := by decide +kernel
theorem dX11_findsWays_147 : decode cX11_findsWays 147 = .ok (.iconst 0, 1) := by decide +kernel
theorem dX11_findsWays_148 : decode cX11_findsWays 148 = .ok (.istore 6, 2) := by decide +kernel
theorem dX11_findsWays_150 : decode cX11_findsWays 150 = .ok (.aload_n 0, 1) := by decide +kernel
theorem dX11_findsWays_151 : decode cX11_findsWays 151 = .ok (.getfield 22, 3) := by decide +kernel
theorem dX11_findsWays_154 : decode cX11_findsWays 154 = .ok (.iload_n 3, 1) := by decide +kernel
theorem dX11_findsWays_155 : decode cX11_findsWays 155 = .ok (.iload 6, 2) := by decide +kernel
theorem dX11_findsWays_157 : decode cX11_findsWays 157 = .ok (.ifCond .eq 8, 3) := by decide +kernel
theorem dX11_findsWays_160 : decode cX11_findsWays 160 = .ok (.iload 5, 2) := by decide +kernel
theorem dX11_findsWays_162 : decode cX11_findsWays 162 = .ok (.goto 9, 3) := by decide +kernel
theorem dX11_findsWays_165 : decode cX11_findsWays 165 = .ok (.aload_n 0, 1) := by decide +kernel
theorem dX11_findsWays_166 : decode cX11_findsWays 166 = .ok (.getfield 22, 3) := by decide +kernel
theorem dX11_findsWays_169 : decode cX11_findsWays 169 = .ok (.iload_n 3, 1) := by decide +kernel
theorem dX11_findsWays_170 : decode cX11_findsWays 170 = .ok (.iaload, 1) := by decide +kernel
theorem dX11_findsWays_171 : decode cX11_findsWays 171 = .ok (.iastore, 1) := by decide +kernel
theorem dX11_findsWays_172 : decode cX11_findsWays 172 = .ok (.aload_n 0, 1) := by decide +kernel
theorem dX11_findsWays_173 : decode cX11_findsWays 173 = .ok (.getfield 25, 3) := by decide +kernel
theorem dX11_findsWays_176 : decode cX11_findsWays 176 = .ok (.iload_n 3, 1) := by decide +kernel
theorem dX11_findsWays_177 : decode cX11_findsWays 177 = .ok (.iload 6, 2) := by decide +kernel
theorem dX11_findsWays_179 : decode cX11_findsWays 179 = .ok (.ifCond .eq 15, 3) := by decide +kernel
theorem dX11_findsWays_182 : decode cX11_findsWays 182 = .ok (.aload_n 0, 1) := by decide +kernel
theorem dX11_findsWays_183 : decode cX11_findsWays 183 = .ok (.getfield 25, 3) := by decide +kernel
theorem dX11_findsWays_186 : decode cX11_findsWays 186 = .ok (.iload 4, 2) := by decide +kernel
theorem dX11_findsWays_188 : decode cX11_findsWays 188 = .ok (.iaload, 1) := by decide +kernel
theorem dX11_findsWays_189 : decode cX11_findsWays 189 = .ok (.iconst 1, 1) := by decide +kernel
theorem dX11_findsWays_190 : decode cX11_findsWays 190 = .ok (.iadd, 1) := by decide +kernel
theorem dX11_findsWays_191 : decode cX11_findsWays 191 = .ok (.goto 9, 3) := by decide +kernel
theorem dX11_findsWays_194 : decode cX11_findsWays 194 = .ok (.aload_n 0, 1) := by decide +kernel
theorem dX11_findsWays_195 : decode cX11_findsWays 195 = .ok (.getfield 25, 3) := by decide +kernel
theorem dX11_findsWays_198 : decode cX11_findsWays 198 = .ok (.iload_n 3, 1) := by decide +kernel
theorem dX11_findsWays_199 : decode cX11_findsWays 199 = .ok (.iaload, 1) := by decide +kernel
theorem dX11_findsWays_200 : decode cX11_findsWays 200 = .ok (.iastore, 1) := by decide +kernel
theorem dX11_findsWays_201 : decode cX11_findsWays 201 = .ok (.iload_n 2, 1) := by decide +kernel
theorem dX11_findsWays_202 : decode cX11_findsWays 202 = .ok (.ifCond .ne 8, 3) := by decide +kernel
theorem dX11_findsWays_205 : decode cX11_findsWays 205 = .ok (.iload 6, 2) := by decide +kernel
theorem dX11_findsWays_207 : decode cX11_findsWays 207 = .ok (.ifCond .eq 7, 3) := by decide +kernel
theorem dX11_findsWays_210 : decode cX11_findsWays 210 = .ok (.iconst 1, 1) := by decide +kernel
theorem dX11_findsWays_211 : decode cX11_findsWays 211 = .ok (.goto 4, 3) := by decide +kernel
theorem dX11_findsWays_214 : decode cX11_findsWays 214 = .ok (.iconst 0, 1) := by decide +kernel
theorem dX11_findsWays_215 : decode cX11_findsWays 215 = .ok (.istore_n 2, 1) := by decide +kernel
theorem dX11_findsWays_216 : decode cX11_findsWays 216 = .ok (.iinc 4 1, 3) := by decide +kernel
theorem dX11_findsWays_219 : decode cX11_findsWays 219 = .ok (.goto (-162), 3) := by decide +kernel
theorem dX11_findsWays_222 : decode cX11_findsWays 222 = .ok (.iinc 3 1, 3) := by decide +kernel
theorem dX11_findsWays_225 : decode cX11_findsWays 225 = .ok (.goto (-177), 3) := by decide +kernel
theorem dX11_findsWays_228 : decode cX11_findsWays 228 = .ok (.goto (-188), 3) := by decide +kernel
theorem dX11_findsWays_231 : decode cX11_findsWays 231 = .ok (.return_, 1) := by decide +kernel
abbrev rmX11_findsWays : Room := { frames := 3, cells := 0, slots := 0, locals := 82 }
set_option maxHeartbeats 4000000 in
set_option maxRecDepth 100000 in
theorem metX11_findsWays {l : Launch} {s0 : State} {b B : Nat} {D : va_G} {T : Nat → ClassId} (F : FX l s0 b D T B) {X : Nat → Prop} (hX : ∀ o, o < 12 → ¬ X (B + o)) {N : Nat} {μ : Mem} {a0 : Nat} {a1 : Int32} {r : Mem} (k0 : IsMo a0) (h : fX11_findsWays N μ a0 a1 = some r) : gMet l yX11_findsWays cX11_findsWays 7 none rmX11_findsWays [.ref (B + a0), .int a1] (gWM D T B μ) (KC s0 X) none (gWM D T B r) (gA B X) 0 0 := by
  refine gV_of RX11 (by decide +kernel) rfl (Nat.le_of_ble_eq_true rfl) ?_
  intro p e s m args below meth c ls Q hx hb hlocks hml hown hts hW hk hl hS hend
  have hC := FX_C F hk hx hb hown hts
  have hA := gA_allM hX
  have hl : lv_has ls 7 [(0, .ref (B + a0)), (1, .int a1)] := hl
  unfold fX11_findsWays at h
  refine lv_iconst (v := 0) hx hb dX11_findsWays_0 (by decide) ?_
  refine lv_istore_n (lv' := [(2, .int 0), (0, .ref (B + a0)), (1, .int a1)]) hx hb dX11_findsWays_1 rfl hl (by decide) rfl (fun ls hl => ?_)
  refine fix2_ind (fun (x1 : Int32) (μ2 : Mem) => ∀ (H : Heap) (locs : List Loc) (ls : Array Slot), gWM D T B μ2 H → va_S (gA B X) s.heap H locs → lv_has ls 7 [(0, .ref (B + a0)), (1, .int a1), (2, .int x1)] → W p l e rmX11_findsWays s m args below meth c H locs 0 0 Q (F0 m 2 ls [])) ?_ N _ _ h _ _ _ hW hS (lv_sub hl [1, 2, 0] rfl)
  clear h hW hS hl
  intro self3 IH4 x1 μ2 h H locs ls hW hS hl
  refine lv_iload_n hx hb dX11_findsWays_2 rfl (lv_at hl 2 rfl) ?_
  refine lv_bipush (v := 6) hx hb dX11_findsWays_3 (by decide) ?_
  refine lv_icmp_ge (tgt := 38) hx hb dX11_findsWays_5 (by decide) (fun c5 => ?_) (fun c5 => ?_)
  · replace h := ite_t c5 h
    refine lv_iconst (v := 1) hx hb dX11_findsWays_38 (by decide) ?_
    refine lv_istore_n (lv' := [(2, .int 1), (0, .ref (B + a0)), (1, .int a1)]) hx hb dX11_findsWays_39 rfl hl (by decide) rfl (fun ls hl => ?_)
    refine fix2_ind (fun (x6 : Bool) (μ7 : Mem) => ∀ (H : Heap) (locs : List Loc) (ls : Array Slot), gWM D T B μ7 H → va_S (gA B X) s.heap H locs → lv_has ls 7 [(0, .ref (B + a0)), (2, .int (b2i x6))] → W p l e rmX11_findsWays s m args below meth c H locs 0 0 Q (F0 m 40 ls [])) ?_ N _ _ h _ _ _ hW hS (lv_sub hl [1, 0] rfl)
    clear h hW hS hl
    intro self8 IH9 x6 μ7 h H locs ls hW hS hl
    refine lv_iload_n hx hb dX11_findsWays_40 rfl (lv_at hl 1 rfl) ?_
    refine gw_if_eqZ (tgt := 231) hx hb dX11_findsWays_41 (by decide) (fun c10 => ?_) (fun c10 => ?_)
    · replace h := cond_f c10 h
      cases h
      exact hend dX11_findsWays_231 hW hS (Nat.le_of_ble_eq_true rfl) (Nat.le_of_ble_eq_true rfl)
    · replace h := cond_t c10 h
      refine lv_iconst (v := 0) hx hb dX11_findsWays_44 (by decide) ?_
      refine lv_istore_n (lv' := [(2, .int 0), (0, .ref (B + a0))]) hx hb dX11_findsWays_45 rfl hl (by decide) rfl (fun ls hl => ?_)
      refine lv_iconst (v := 0) hx hb dX11_findsWays_46 (by decide) ?_
      refine lv_istore_n (lv' := [(3, .int 0), (2, .int 0), (0, .ref (B + a0))]) hx hb dX11_findsWays_47 rfl hl (by decide) rfl (fun ls hl => ?_)
      refine fix3_ind (fun (x11 : Bool) (x12 : Int32) (μ13 : Mem) => ∀ (H : Heap) (locs : List Loc) (ls : Array Slot), gWM D T B μ13 H → va_S (gA B X) s.heap H locs → lv_has ls 7 [(0, .ref (B + a0)), (2, .int (b2i x11)), (3, .int x12)] → W p l e rmX11_findsWays s m args below meth c H locs 0 0 Q (F0 m 48 ls [])) ?_ N _ _ _ h _ _ _ hW hS (lv_sub hl [2, 1, 0] rfl)
      clear h hW hS hl
      intro self14 IH15 x11 x12 μ13 h H locs ls hW hS hl
      refine lv_iload_n hx hb dX11_findsWays_48 rfl (lv_at hl 2 rfl) ?_
      refine lv_bipush (v := 6) hx hb dX11_findsWays_49 (by decide) ?_
      refine lv_icmp_ge (tgt := 228) hx hb dX11_findsWays_51 (by decide) (fun c16 => ?_) (fun c16 => ?_)
      · replace h := ite_t c16 h
        refine lv_goto (tgt := 40) hx hb dX11_findsWays_228 (by decide) ?_
        exact IH9 _ _ h _ _ _ hW hS (lv_sub hl [0, 1] rfl)
      · replace h := ite_f c16 h
        refine lv_iconst (v := 0) hx hb dX11_findsWays_54 (by decide) ?_
        refine lv_istore (lv' := [(4, .int 0), (0, .ref (B + a0)), (2, .int (b2i x11)), (3, .int x12)]) hx hb dX11_findsWays_55 hl (by decide) rfl (fun ls hl => ?_)
        refine fix3_ind (fun (x17 : Bool) (x18 : Int32) (μ19 : Mem) => ∀ (H : Heap) (locs : List Loc) (ls : Array Slot), gWM D T B μ19 H → va_S (gA B X) s.heap H locs → lv_has ls 7 [(0, .ref (B + a0)), (2, .int (b2i x17)), (3, .int x12), (4, .int x18)] → W p l e rmX11_findsWays s m args below meth c H locs 0 0 Q (F0 m 57 ls [])) ?_ N _ _ _ h _ _ _ hW hS (lv_sub hl [1, 2, 3, 0] rfl)
        clear h hW hS hl
        intro self20 IH21 x17 x18 μ19 h H locs ls hW hS hl
        refine lv_iload hx hb dX11_findsWays_57 (lv_at hl 3 rfl) ?_
        refine lv_bipush (v := 6) hx hb dX11_findsWays_59 (by decide) ?_
        refine lv_icmp_ge (tgt := 222) hx hb dX11_findsWays_61 (by decide) (fun c22 => ?_) (fun c22 => ?_)
        · replace h := ite_t c22 h
          obtain ⟨v23, e24, h⟩ := lt_out h
          refine lv_iinc (v := v23) (lv' := [(3, .int v23), (0, .ref (B + a0)), (2, .int (b2i x17)), (4, .int x18)]) hx hb dX11_findsWays_222 hl (k := 2) rfl (by rw [e24]; rfl) (by decide) rfl (fun ls hl => ?_)
          refine lv_goto (tgt := 48) hx hb dX11_findsWays_225 (by decide) ?_
          exact IH15 _ _ _ h _ _ _ hW hS (lv_sub hl [1, 2, 0] rfl)
        · replace h := ite_f c22 h
          refine lv_aload_n hx hb dX11_findsWays_64 rfl (lv_at hl 0 rfl) ?_
          refine gw_get (v := .ref (B + (a0 + 5))) hC hW fl_X11_22 k0.1 (k0.2.1 T B (μ19 a0)) rfl dX11_findsWays_65 ?_
          refine lv_iload hx hb dX11_findsWays_68 (lv_at hl 3 rfl) ?_
          obtain ⟨v25, e26, hi27, h⟩ := ag_o h
          refine gq_iald hC hW k0.2.2.2.2.2.2.1.1 (k0.2.2.2.2.2.2.1.2 T B (μ19 (a0 + 5))) (t0 := 0) rfl e26 hi27 dX11_findsWays_70 ?_
          refine lv_aload_n hx hb dX11_findsWays_71 rfl (lv_at hl 0 rfl) ?_
          refine lv_iload_n hx hb dX11_findsWays_72 rfl (lv_at hl 2 rfl) ?_
          refine lv_iload hx hb dX11_findsWays_73 (lv_at hl 3 rfl) ?_
          obtain ⟨r28, hcall, h⟩ := bd_out h
          refine g0_callV (As := [.int x12, .int x18]) hC hml hS hW (KC_at hk hS F.2.2.2.2) KC_blind (metX11_leg F hX k0 hcall) ml_X11_106 (gw_recv hC hW k0.1 (k0.2.1 T B (μ19 a0)) rfl) ⟨rfl, rfl, Nat.le_of_ble_eq_true rfl, Nat.le_of_ble_eq_true rfl⟩ rfl hl.1 rfl (Nat.le_of_ble_eq_true rfl) dX11_findsWays_75 ⟨Nat.le_of_ble_eq_true rfl, Nat.le_of_ble_eq_true rfl⟩ (fun H locs hW hS => ?_)
          refine lv_iadd hx hb dX11_findsWays_78 ?_
          obtain ⟨v29, e30, h⟩ := lt_out h
          rw [← e30]
          refine lv_istore (lv' := [(5, .int v29), (0, .ref (B + a0)), (2, .int (b2i x17)), (3, .int x12), (4, .int x18)]) hx hb dX11_findsWays_79 hl (by decide) rfl (fun ls hl => ?_)
          refine lv_aload_n hx hb dX11_findsWays_81 rfl (lv_at hl 1 rfl) ?_
          refine lv_iload_n hx hb dX11_findsWays_82 rfl (lv_at hl 3 rfl) ?_
          refine lv_iload hx hb dX11_findsWays_83 (lv_at hl 4 rfl) ?_
          obtain ⟨r31, hcall, h⟩ := bd_out h
          refine g0_callV (As := [.int x12, .int x18]) hC hml hS hW (KC_at hk hS F.2.2.2.2) KC_blind (metX11_leg F hX k0 hcall) ml_X11_106 (gw_recv hC hW k0.1 (k0.2.1 T B (μ19 a0)) rfl) ⟨rfl, rfl, Nat.le_of_ble_eq_true rfl, Nat.le_of_ble_eq_true rfl⟩ rfl hl.1 rfl (Nat.le_of_ble_eq_true rfl) dX11_findsWays_85 ⟨Nat.le_of_ble_eq_true rfl, Nat.le_of_ble_eq_true rfl⟩ (fun H locs hW hS => ?_)
          obtain ⟨j33, hj35, h⟩ := jn1_o h
          have J34 : ∀ (y32 : Bool), j33 y32 = some r → ∀ (H : Heap) (locs : List Loc) (ls : Array Slot), gWM D T B μ19 H → va_S (gA B X) s.heap H locs → lv_has ls 7 [(0, .ref (B + a0)), (2, .int (b2i x17)), (3, .int x12), (4, .int x18), (5, .int v29)] → W p l e rmX11_findsWays s m args below meth c H locs 0 0 Q (F0 m 148 ls [.int (b2i y32)]) := by
            clear h hW hS hl
            intro y32 h H locs ls hW hS hl
            replace h := (hj35 y32).symm.trans h
            refine lv_istore (lv' := [(6, .int (b2i y32)), (0, .ref (B + a0)), (2, .int (b2i x17)), (3, .int x12), (4, .int x18), (5, .int v29)]) hx hb dX11_findsWays_148 hl (by decide) rfl (fun ls hl => ?_)
            refine lv_aload_n hx hb dX11_findsWays_150 rfl (lv_at hl 1 rfl) ?_
            refine gw_get (v := .ref (B + (a0 + 5))) hC hW fl_X11_22 k0.1 (k0.2.1 T B (μ19 a0)) rfl dX11_findsWays_151 ?_
            refine lv_iload_n hx hb dX11_findsWays_154 rfl (lv_at hl 3 rfl) ?_
            refine lv_iload hx hb dX11_findsWays_155 (lv_at hl 0 rfl) ?_
            obtain ⟨j37, hj39, h⟩ := jn1_o h
            have J38 : ∀ (y36 : Int32), j37 y36 = some r → ∀ (H : Heap) (locs : List Loc) (ls : Array Slot), gWM D T B μ19 H → va_S (gA B X) s.heap H locs → lv_has ls 7 [(0, .ref (B + a0)), (2, .int (b2i x17)), (3, .int x12), (4, .int x18), (6, .int (b2i y32))] → W p l e rmX11_findsWays s m args below meth c H locs 0 0 Q (F0 m 171 ls [.int y36, .int x12, .ref (B + (a0 + 5))]) := by
              clear h hW hS hl
              intro y36 h H locs ls hW hS hl
              replace h := (hj39 y36).symm.trans h
              obtain ⟨μ40, e41, hi42, h⟩ := aw_o h
              refine gq_iast hC hS hW hA k0.2.2.2.2.2.2.1.1 (k0.2.2.2.2.2.2.1.2 T B) (t0 := 0) rfl e41 hi42 dX11_findsWays_171 (fun H locs hW hS => ?_)
              refine lv_aload_n hx hb dX11_findsWays_172 rfl (lv_at hl 0 rfl) ?_
              refine gw_get (v := .ref (B + (a0 + 6))) hC hW fl_X11_25 k0.1 (k0.2.1 T B (μ40 a0)) rfl dX11_findsWays_173 ?_
              refine lv_iload_n hx hb dX11_findsWays_176 rfl (lv_at hl 2 rfl) ?_
              refine lv_iload hx hb dX11_findsWays_177 (lv_at hl 4 rfl) ?_
              obtain ⟨j44, hj46, h⟩ := jn1_o h
              have J45 : ∀ (y43 : Int32), j44 y43 = some r → ∀ (H : Heap) (locs : List Loc) (ls : Array Slot), gWM D T B μ40 H → va_S (gA B X) s.heap H locs → lv_has ls 7 [(0, .ref (B + a0)), (2, .int (b2i x17)), (3, .int x12), (4, .int x18), (6, .int (b2i y32))] → W p l e rmX11_findsWays s m args below meth c H locs 0 0 Q (F0 m 200 ls [.int y43, .int x12, .ref (B + (a0 + 6))]) := by
                clear h hW hS hl
                intro y43 h H locs ls hW hS hl
                replace h := (hj46 y43).symm.trans h
                obtain ⟨μ47, e48, hi49, h⟩ := aw_o h
                refine gq_iast hC hS hW hA k0.2.2.2.2.2.2.2.1.1 (k0.2.2.2.2.2.2.2.1.2 T B) (t0 := 0) rfl e48 hi49 dX11_findsWays_200 (fun H locs hW hS => ?_)
                refine lv_iload_n hx hb dX11_findsWays_201 rfl (lv_at hl 1 rfl) ?_
                obtain ⟨j51, hj53, h⟩ := jn1_o h
                have J52 : ∀ (y50 : Bool), j51 y50 = some r → ∀ (H : Heap) (locs : List Loc) (ls : Array Slot), gWM D T B μ47 H → va_S (gA B X) s.heap H locs → lv_has ls 7 [(0, .ref (B + a0)), (3, .int x12), (4, .int x18)] → W p l e rmX11_findsWays s m args below meth c H locs 0 0 Q (F0 m 215 ls [.int (b2i y50)]) := by
                  clear h hW hS hl
                  intro y50 h H locs ls hW hS hl
                  replace h := (hj53 y50).symm.trans h
                  refine lv_istore_n (lv' := [(2, .int (b2i y50)), (0, .ref (B + a0)), (3, .int x12), (4, .int x18)]) hx hb dX11_findsWays_215 rfl hl (by decide) rfl (fun ls hl => ?_)
                  obtain ⟨v54, e55, h⟩ := lt_out h
                  refine lv_iinc (v := v54) (lv' := [(4, .int v54), (2, .int (b2i y50)), (0, .ref (B + a0)), (3, .int x12)]) hx hb dX11_findsWays_216 hl (k := 3) rfl (by rw [e55]; rfl) (by decide) rfl (fun ls hl => ?_)
                  refine lv_goto (tgt := 57) hx hb dX11_findsWays_219 (by decide) ?_
                  exact IH21 _ _ _ h _ _ _ hW hS (lv_sub hl [2, 1, 3, 0] rfl)
                obtain ⟨j57, hj59, h⟩ := jn1_o h
                have J58 : ∀ (u56 : Unit), j57 u56 = some r → ∀ (H : Heap) (locs : List Loc) (ls : Array Slot), gWM D T B μ47 H → va_S (gA B X) s.heap H locs → lv_has ls 7 [(0, .ref (B + a0)), (3, .int x12), (4, .int x18)] → W p l e rmX11_findsWays s m args below meth c H locs 0 0 Q (F0 m 210 ls []) := by
                  clear h hW hS hl
                  intro u56 h H locs ls hW hS hl
                  replace h := (hj59 u56).symm.trans h
                  refine lv_iconst (v := 1) hx hb dX11_findsWays_210 (by decide) ?_
                  refine lv_goto (tgt := 215) hx hb dX11_findsWays_211 (by decide) ?_
                  exact J52 _ h _ _ _ hW hS (lv_sub hl [0, 1, 2] rfl)
                refine gw_if_neZ (tgt := 210) hx hb dX11_findsWays_202 (by decide) (fun c60 => ?_) (fun c60 => ?_)
                · replace h := cond_t c60 h
                  exact J58 _ h _ _ _ hW hS (lv_sub hl [0, 2, 3] rfl)
                · replace h := cond_f c60 h
                  refine lv_iload hx hb dX11_findsWays_205 (lv_at hl 4 rfl) ?_
                  refine gw_if_eqZ (tgt := 214) hx hb dX11_findsWays_207 (by decide) (fun c61 => ?_) (fun c61 => ?_)
                  · replace h := cond_f c61 h
                    refine lv_iconst (v := 0) hx hb dX11_findsWays_214 (by decide) ?_
                    exact J52 _ h _ _ _ hW hS (lv_sub hl [0, 2, 3] rfl)
                  · replace h := cond_t c61 h
                    exact J58 _ h _ _ _ hW hS (lv_sub hl [0, 2, 3] rfl)
              refine gw_if_eqZ (tgt := 194) hx hb dX11_findsWays_179 (by decide) (fun c62 => ?_) (fun c62 => ?_)
              · replace h := cond_f c62 h
                refine lv_aload_n hx hb dX11_findsWays_194 rfl (lv_at hl 0 rfl) ?_
                refine gw_get (v := .ref (B + (a0 + 6))) hC hW fl_X11_25 k0.1 (k0.2.1 T B (μ40 a0)) rfl dX11_findsWays_195 ?_
                refine lv_iload_n hx hb dX11_findsWays_198 rfl (lv_at hl 2 rfl) ?_
                obtain ⟨v63, e64, hi65, h⟩ := ag_o h
                refine gq_iald hC hW k0.2.2.2.2.2.2.2.1.1 (k0.2.2.2.2.2.2.2.1.2 T B (μ40 (a0 + 6))) (t0 := 0) rfl e64 hi65 dX11_findsWays_199 ?_
                exact J45 _ h _ _ _ hW hS (lv_sub hl [0, 1, 2, 3, 4] rfl)
              · replace h := cond_t c62 h
                refine lv_aload_n hx hb dX11_findsWays_182 rfl (lv_at hl 0 rfl) ?_
                refine gw_get (v := .ref (B + (a0 + 6))) hC hW fl_X11_25 k0.1 (k0.2.1 T B (μ40 a0)) rfl dX11_findsWays_183 ?_
                refine lv_iload hx hb dX11_findsWays_186 (lv_at hl 3 rfl) ?_
                obtain ⟨v66, e67, hi68, h⟩ := ag_o h
                refine gq_iald hC hW k0.2.2.2.2.2.2.2.1.1 (k0.2.2.2.2.2.2.2.1.2 T B (μ40 (a0 + 6))) (t0 := 0) rfl e67 hi68 dX11_findsWays_188 ?_
                refine lv_iconst (v := 1) hx hb dX11_findsWays_189 (by decide) ?_
                refine lv_iadd hx hb dX11_findsWays_190 ?_
                refine lv_goto (tgt := 200) hx hb dX11_findsWays_191 (by decide) ?_
                exact J45 _ h _ _ _ hW hS (lv_sub hl [0, 1, 2, 3, 4] rfl)
            refine gw_if_eqZ (tgt := 165) hx hb dX11_findsWays_157 (by decide) (fun c69 => ?_) (fun c69 => ?_)
            · replace h := cond_f c69 h
              refine lv_aload_n hx hb dX11_findsWays_165 rfl (lv_at hl 1 rfl) ?_
              refine gw_get (v := .ref (B + (a0 + 5))) hC hW fl_X11_22 k0.1 (k0.2.1 T B (μ19 a0)) rfl dX11_findsWays_166 ?_
              refine lv_iload_n hx hb dX11_findsWays_169 rfl (lv_at hl 3 rfl) ?_
              obtain ⟨v70, e71, hi72, h⟩ := ag_o h
              refine gq_iald hC hW k0.2.2.2.2.2.2.1.1 (k0.2.2.2.2.2.2.1.2 T B (μ19 (a0 + 5))) (t0 := 0) rfl e71 hi72 dX11_findsWays_170 ?_
              exact J38 _ h _ _ _ hW hS (lv_sub hl [1, 2, 3, 4, 0] rfl)
            · replace h := cond_t c69 h
              refine lv_iload hx hb dX11_findsWays_160 (lv_at hl 5 rfl) ?_
              refine lv_goto (tgt := 171) hx hb dX11_findsWays_162 (by decide) ?_
              exact J38 _ h _ _ _ hW hS (lv_sub hl [1, 2, 3, 4, 0] rfl)
          obtain ⟨j74, hj76, h⟩ := jn1_o h
          have J75 : ∀ (u73 : Unit), j74 u73 = some r → ∀ (H : Heap) (locs : List Loc) (ls : Array Slot), gWM D T B μ19 H → va_S (gA B X) s.heap H locs → lv_has ls 7 [(0, .ref (B + a0)), (2, .int (b2i x17)), (3, .int x12), (4, .int x18), (5, .int v29)] → W p l e rmX11_findsWays s m args below meth c H locs 0 0 Q (F0 m 147 ls []) := by
            clear h hW hS hl
            intro u73 h H locs ls hW hS hl
            replace h := (hj76 u73).symm.trans h
            refine lv_iconst (v := 0) hx hb dX11_findsWays_147 (by decide) ?_
            exact J34 _ h _ _ _ hW hS (lv_sub hl [0, 1, 2, 3, 4] rfl)
          refine lv_if_le (tgt := 147) hx hb dX11_findsWays_88 (by decide) (fun c77 => ?_) (fun c77 => ?_)
          · replace h := ite_t c77 h
            exact J75 _ h _ _ _ hW hS (lv_sub hl [1, 2, 3, 4, 0] rfl)
          · replace h := ite_f c77 h
            refine lv_aload_n hx hb dX11_findsWays_91 rfl (lv_at hl 1 rfl) ?_
            refine gw_get (v := .ref (B + (a0 + 5))) hC hW fl_X11_22 k0.1 (k0.2.1 T B (μ19 a0)) rfl dX11_findsWays_92 ?_
            refine lv_iload hx hb dX11_findsWays_95 (lv_at hl 4 rfl) ?_
            obtain ⟨v78, e79, hi80, h⟩ := ag_o h
            refine gq_iald hC hW k0.2.2.2.2.2.2.1.1 (k0.2.2.2.2.2.2.1.2 T B (μ19 (a0 + 5))) (t0 := 0) rfl e79 hi80 dX11_findsWays_97 ?_
            refine lv_ldc (v := 100000) hx hb hown (hts _ kc_X11_120) dX11_findsWays_98 ?_
            refine lv_icmp_ge (tgt := 147) hx hb dX11_findsWays_100 (by decide) (fun c81 => ?_) (fun c81 => ?_)
            · replace h := ite_t c81 h
              exact J75 _ h _ _ _ hW hS (lv_sub hl [1, 2, 3, 4, 0] rfl)
            · replace h := ite_f c81 h
              refine lv_iload hx hb dX11_findsWays_103 (lv_at hl 0 rfl) ?_
              refine lv_aload_n hx hb dX11_findsWays_105 rfl (lv_at hl 1 rfl) ?_
              refine gw_get (v := .ref (B + (a0 + 5))) hC hW fl_X11_22 k0.1 (k0.2.1 T B (μ19 a0)) rfl dX11_findsWays_106 ?_
              refine lv_iload_n hx hb dX11_findsWays_109 rfl (lv_at hl 3 rfl) ?_
              obtain ⟨v82, e83, hi84, h⟩ := ag_o h
              refine gq_iald hC hW k0.2.2.2.2.2.2.1.1 (k0.2.2.2.2.2.2.1.2 T B (μ19 (a0 + 5))) (t0 := 0) rfl e83 hi84 dX11_findsWays_110 ?_
              obtain ⟨j86, hj88, h⟩ := jn1_o h
              have J87 : ∀ (u85 : Unit), j86 u85 = some r → ∀ (H : Heap) (locs : List Loc) (ls : Array Slot), gWM D T B μ19 H → va_S (gA B X) s.heap H locs → lv_has ls 7 [(0, .ref (B + a0)), (2, .int (b2i x17)), (3, .int x12), (4, .int x18), (5, .int v29)] → W p l e rmX11_findsWays s m args below meth c H locs 0 0 Q (F0 m 143 ls []) := by
                clear h hW hS hl
                intro u85 h H locs ls hW hS hl
                replace h := (hj88 u85).symm.trans h
                refine lv_iconst (v := 1) hx hb dX11_findsWays_143 (by decide) ?_
                refine lv_goto (tgt := 148) hx hb dX11_findsWays_144 (by decide) ?_
                exact J34 _ h _ _ _ hW hS (lv_sub hl [0, 1, 2, 3, 4] rfl)
              refine lv_icmp_lt (tgt := 143) hx hb dX11_findsWays_111 (by decide) (fun c89 => ?_) (fun c89 => ?_)
              · replace h := ite_t c89 h
                exact J87 _ h _ _ _ hW hS (lv_sub hl [1, 2, 3, 4, 0] rfl)
              · replace h := ite_f c89 h
                refine lv_iload hx hb dX11_findsWays_114 (lv_at hl 0 rfl) ?_
                refine lv_aload_n hx hb dX11_findsWays_116 rfl (lv_at hl 1 rfl) ?_
                refine gw_get (v := .ref (B + (a0 + 5))) hC hW fl_X11_22 k0.1 (k0.2.1 T B (μ19 a0)) rfl dX11_findsWays_117 ?_
                refine lv_iload_n hx hb dX11_findsWays_120 rfl (lv_at hl 3 rfl) ?_
                obtain ⟨v90, e91, hi92, h⟩ := ag_o h
                refine gq_iald hC hW k0.2.2.2.2.2.2.1.1 (k0.2.2.2.2.2.2.1.2 T B (μ19 (a0 + 5))) (t0 := 0) rfl e91 hi92 dX11_findsWays_121 ?_
                refine lv_icmp_ne (tgt := 147) hx hb dX11_findsWays_122 (by decide) (fun c93 => ?_) (fun c93 => ?_)
                · replace h := ite_f c93 h
                  exact J75 _ h _ _ _ hW hS (lv_sub hl [1, 2, 3, 4, 0] rfl)
                · replace h := ite_t c93 h
                  refine lv_aload_n hx hb dX11_findsWays_125 rfl (lv_at hl 1 rfl) ?_
                  refine gw_get (v := .ref (B + (a0 + 6))) hC hW fl_X11_25 k0.1 (k0.2.1 T B (μ19 a0)) rfl dX11_findsWays_126 ?_
                  refine lv_iload hx hb dX11_findsWays_129 (lv_at hl 4 rfl) ?_
                  obtain ⟨v94, e95, hi96, h⟩ := ag_o h
                  refine gq_iald hC hW k0.2.2.2.2.2.2.2.1.1 (k0.2.2.2.2.2.2.2.1.2 T B (μ19 (a0 + 6))) (t0 := 0) rfl e95 hi96 dX11_findsWays_131 ?_
                  refine lv_iconst (v := 1) hx hb dX11_findsWays_132 (by decide) ?_
                  refine lv_iadd hx hb dX11_findsWays_133 ?_
                  refine lv_aload_n hx hb dX11_findsWays_134 rfl (lv_at hl 1 rfl) ?_
                  refine gw_get (v := .ref (B + (a0 + 6))) hC hW fl_X11_25 k0.1 (k0.2.1 T B (μ19 a0)) rfl dX11_findsWays_135 ?_
                  refine lv_iload_n hx hb dX11_findsWays_138 rfl (lv_at hl 3 rfl) ?_
                  obtain ⟨v97, e98, hi99, h⟩ := ag_o h
                  refine gq_iald hC hW k0.2.2.2.2.2.2.2.1.1 (k0.2.2.2.2.2.2.2.1.2 T B (μ19 (a0 + 6))) (t0 := 0) rfl e98 hi99 dX11_findsWays_139 ?_
                  refine lv_icmp_ge (tgt := 147) hx hb dX11_findsWays_140 (by decide) (fun c100 => ?_) (fun c100 => ?_)
                  · replace h := ite_t c100 h
                    exact J75 _ h _ _ _ hW hS (lv_sub hl [1, 2, 3, 4, 0] rfl)
                  · replace h := ite_f c100 h
                    exact J87 _ h _ _ _ hW hS (lv_sub hl [1, 2, 3, 4, 0] rfl)
  · replace h := ite_f c5 h
    refine lv_aload_n hx hb dX11_findsWays_8 rfl (lv_at hl 0 rfl) ?_
    refine gw_get (v := .ref (B + (a0 + 5))) hC hW fl_X11_22 k0.1 (k0.2.1 T B (μ2 a0)) rfl dX11_findsWays_9 ?_
    refine lv_iload_n hx hb dX11_findsWays_12 rfl (lv_at hl 2 rfl) ?_
    refine lv_iload_n hx hb dX11_findsWays_13 rfl (lv_at hl 2 rfl) ?_
    refine lv_iload_n hx hb dX11_findsWays_14 rfl (lv_at hl 1 rfl) ?_
    obtain ⟨j102, hj104, h⟩ := jn1_o h
    have J103 : ∀ (y101 : Int32), j102 y101 = some r → ∀ (H : Heap) (locs : List Loc) (ls : Array Slot), gWM D T B μ2 H → va_S (gA B X) s.heap H locs → lv_has ls 7 [(0, .ref (B + a0)), (1, .int a1), (2, .int x1)] → W p l e rmX11_findsWays s m args below meth c H locs 0 0 Q (F0 m 24 ls [.int y101, .int x1, .ref (B + (a0 + 5))]) := by
      clear h hW hS hl
      intro y101 h H locs ls hW hS hl
      replace h := (hj104 y101).symm.trans h
      obtain ⟨μ105, e106, hi107, h⟩ := aw_o h
      refine gq_iast hC hS hW hA k0.2.2.2.2.2.2.1.1 (k0.2.2.2.2.2.2.1.2 T B) (t0 := 0) rfl e106 hi107 dX11_findsWays_24 (fun H locs hW hS => ?_)
      refine lv_aload_n hx hb dX11_findsWays_25 rfl (lv_at hl 0 rfl) ?_
      refine gw_get (v := .ref (B + (a0 + 6))) hC hW fl_X11_25 k0.1 (k0.2.1 T B (μ105 a0)) rfl dX11_findsWays_26 ?_
      refine lv_iload_n hx hb dX11_findsWays_29 rfl (lv_at hl 2 rfl) ?_
      refine lv_iconst (v := 0) hx hb dX11_findsWays_30 (by decide) ?_
      obtain ⟨μ108, e109, hi110, h⟩ := aw_o h
      refine gq_iast hC hS hW hA k0.2.2.2.2.2.2.2.1.1 (k0.2.2.2.2.2.2.2.1.2 T B) (t0 := 0) rfl e109 hi110 dX11_findsWays_31 (fun H locs hW hS => ?_)
      obtain ⟨v111, e112, h⟩ := lt_out h
      refine lv_iinc (v := v111) (lv' := [(2, .int v111), (0, .ref (B + a0)), (1, .int a1)]) hx hb dX11_findsWays_32 hl (k := 2) rfl (by rw [e112]; rfl) (by decide) rfl (fun ls hl => ?_)
      refine lv_goto (tgt := 2) hx hb dX11_findsWays_35 (by decide) ?_
      exact IH4 _ _ h _ _ _ hW hS (lv_sub hl [1, 2, 0] rfl)
    refine lv_icmp_ne (tgt := 22) hx hb dX11_findsWays_15 (by decide) (fun c113 => ?_) (fun c113 => ?_)
    · replace h := ite_f c113 h
      refine lv_ldc (v := 100000) hx hb hown (hts _ kc_X11_120) dX11_findsWays_22 ?_
      exact J103 _ h _ _ _ hW hS (lv_sub hl [0, 1, 2] rfl)
    · replace h := ite_t c113 h
      refine lv_iconst (v := 0) hx hb dX11_findsWays_18 (by decide) ?_
      refine lv_goto (tgt := 24) hx hb dX11_findsWays_19 (by decide) ?_
      exact J103 _ h _ _ _ hW hS (lv_sub hl [0, 1, 2] rfl)

theorem dX11_next_0 : decode cX11_next 0 = .ok (.iconst (-1), 1) := by decide +kernel
theorem dX11_next_1 : decode cX11_next 1 = .ok (.istore_n 2, 1) := by decide +kernel
theorem dX11_next_2 : decode cX11_next 2 = .ok (.iconst 5, 1) := by decide +kernel
theorem dX11_next_3 : decode cX11_next 3 = .ok (.istore_n 3, 1) := by decide +kernel
theorem dX11_next_4 : decode cX11_next 4 = .ok (.iload_n 3, 1) := by decide +kernel
theorem dX11_next_5 : decode cX11_next 5 = .ok (.ifCond .lt 75, 3) := by decide +kernel
theorem dX11_next_8 : decode cX11_next 8 = .ok (.aload_n 0, 1) := by decide +kernel
theorem dX11_next_9 : decode cX11_next 9 = .ok (.iload_n 1, 1) := by decide +kernel
theorem dX11_next_10 : decode cX11_next 10 = .ok (.iload_n 3, 1) := by decide +kernel
theorem dX11_next_11 : decode cX11_next 11 = .ok (.invokevirtual 106, 3) := by decide +kernel
theorem dX11_next_14 : decode cX11_next 14 = .ok (.ifCond .le 46, 3) := by decide +kernel
theorem dX11_next_17 : decode cX11_next 17 = .ok (.aload_n 0, 1) := by decide +kernel
theorem dX11_next_18 : decode cX11_next 18 = .ok (.getfield 22, 3) := by decide +kernel
theorem dX11_next_21 : decode cX11_next 21 = .ok (.iload_n 3, 1) := by decide +kernel
theorem dX11_next_22 : decode cX11_next 22 = .ok (.iaload, 1) := by decide +kernel
theorem dX11_next_23 : decode cX11_next 23 = .ok (.aload_n 0, 1) := by decide +kernel
theorem dX11_next_24 : decode cX11_next 24 = .ok (.iload_n 1, 1) := by decide +kernel
theorem dX11_next_25 : decode cX11_next 25 = .ok (.iload_n 3, 1) := by decide +kernel
theorem dX11_next_26 : decode cX11_next 26 = .ok (.invokevirtual 106, 3) := by decide +kernel
theorem dX11_next_29 : decode cX11_next 29 = .ok (.iadd, 1) := by decide +kernel
theorem dX11_next_30 : decode cX11_next 30 = .ok (.aload_n 0, 1) := by decide +kernel
theorem dX11_next_31 : decode cX11_next 31 = .ok (.getfield 22, 3) := by decide +kernel
theorem dX11_next_34 : decode cX11_next 34 = .ok (.iload_n 1, 1) := by decide +kernel
theorem dX11_next_35 : decode cX11_next 35 = .ok (.iaload, 1) := by decide +kernel
theorem dX11_next_36 : decode cX11_next 36 = .ok (.if_icmp .ne 24, 3) := by decide +kernel
theorem dX11_next_39 : decode cX11_next 39 = .ok (.aload_n 0, 1) := by decide +kernel
theorem dX11_next_40 : decode cX11_next 40 = .ok (.getfield 25, 3) := by decide +kernel
theorem dX11_next_43 : decode cX11_next 43 = .ok (.iload_n 3, 1) := by decide +kernel
theorem dX11_next_44 : decode cX11_next 44 = .ok (.iaload, 1) := by decide +kernel
theorem dX11_next_45 : decode cX11_next 45 = .ok (.iconst 1, 1) := by decide +kernel
theorem dX11_next_46 : decode cX11_next 46 = .ok (.iadd, 1) := by decide +kernel
theorem dX11_next_47 : decode cX11_next 47 = .ok (.aload_n 0, 1) := by decide +kernel
theorem dX11_next_48 : decode cX11_next 48 = .ok (.getfield 25, 3) := by decide +kernel
theorem dX11_next_51 : decode cX11_next 51 = .ok (.iload_n 1, 1) := by decide +kernel
theorem dX11_next_52 : decode cX11_next 52 = .ok (.iaload, 1) := by decide +kernel
theorem dX11_next_53 : decode cX11_next 53 = .ok (.if_icmp .ne 7, 3) := by decide +kernel
theorem dX11_next_56 : decode cX11_next 56 = .ok (.iconst 1, 1) := by decide +kernel
theorem dX11_next_57 : decode cX11_next 57 = .ok (.goto 4, 3) := by decide +kernel
theorem dX11_next_60 : decode cX11_next 60 = .ok (.iconst 0, 1) := by decide +kernel
theorem dX11_next_61 : decode cX11_next 61 = .ok (.istore 4, 2) := by decide +kernel
theorem dX11_next_63 : decode cX11_next 63 = .ok (.iload 4, 2) := by decide +kernel
theorem dX11_next_65 : decode cX11_next 65 = .ok (.ifCond .eq 7, 3) := by decide +kernel
theorem dX11_next_68 : decode cX11_next 68 = .ok (.iload_n 3, 1) := by decide +kernel
theorem dX11_next_69 : decode cX11_next 69 = .ok (.goto 4, 3) := by decide +kernel
theorem dX11_next_72 : decode cX11_next 72 = .ok (.iload_n 2, 1) := by decide +kernel
theorem dX11_next_73 : decode cX11_next 73 = .ok (.istore_n 2, 1) := by decide +kernel
theorem dX11_next_74 : decode cX11_next 74 = .ok (.iinc 3 (-1), 3) := by decide +kernel
theorem dX11_next_77 : decode cX11_next 77 = .ok (.goto (-73), 3) := by decide +kernel
theorem dX11_next_80 : decode cX11_next 80 = .ok (.iload_n 2, 1) := by decide +kernel
theorem dX11_next_81 : decode cX11_next 81 = .ok (.ireturn, 1) := by decide +kernel
abbrev rmX11_next : Room := { frames := 3, cells := 0, slots := 0, locals := 82 }
set_option maxHeartbeats 4000000 in
set_option maxRecDepth 100000 in
theorem metX11_next {l : Launch} {s0 : State} {b B : Nat} {D : va_G} {T : Nat → ClassId} (F : FX l s0 b D T B) {X : Nat → Prop} (hX : ∀ o, o < 12 → ¬ X (B + o)) {N : Nat} {μ : Mem} {a0 : Nat} {a1 : Int32} {r : Int32} (k0 : IsMo a0) (h : fX11_next N μ a0 a1 = some r) : gMet l yX11_next cX11_next 5 (some .int) rmX11_next [.ref (B + a0), .int a1] (gWM D T B μ) (KC s0 X) (some (.int r)) (gWM D T B μ) (gA B X) 0 0 := by
  refine gI_of RX11 (by decide +kernel) rfl (Nat.le_of_ble_eq_true rfl) ?_
  intro p e s m args below meth c ls Q hx hb hlocks hml hown hts hW hk hl hS hend
  have hC := FX_C F hk hx hb hown hts
  have hA := gA_allM hX
  have hl : lv_has ls 5 [(0, .ref (B + a0)), (1, .int a1)] := hl
  unfold fX11_next at h
  refine lv_iconst (v := (-1)) hx hb dX11_next_0 (by decide) ?_
  refine lv_istore_n (lv' := [(2, .int (-1)), (0, .ref (B + a0)), (1, .int a1)]) hx hb dX11_next_1 rfl hl (by decide) rfl (fun ls hl => ?_)
  refine lv_iconst (v := 5) hx hb dX11_next_2 (by decide) ?_
  refine lv_istore_n (lv' := [(3, .int 5), (2, .int (-1)), (0, .ref (B + a0)), (1, .int a1)]) hx hb dX11_next_3 rfl hl (by decide) rfl (fun ls hl => ?_)
  refine fix2_ind (fun (x1 : Int32) (x2 : Int32) => ∀ (H : Heap) (locs : List Loc) (ls : Array Slot), gWM D T B μ H → va_S (gA B X) s.heap H locs → lv_has ls 5 [(0, .ref (B + a0)), (1, .int a1), (2, .int x1), (3, .int x2)] → W p l e rmX11_next s m args below meth c H locs 0 0 Q (F0 m 4 ls [])) ?_ N _ _ h _ _ _ hW hS (lv_sub hl [2, 3, 1, 0] rfl)
  clear h hW hS hl
  intro self3 IH4 x1 x2 h H locs ls hW hS hl
  refine lv_iload_n hx hb dX11_next_4 rfl (lv_at hl 3 rfl) ?_
  refine lv_if_lt (tgt := 80) hx hb dX11_next_5 (by decide) (fun c5 => ?_) (fun c5 => ?_)
  · replace h := ite_t c5 h
    refine lv_iload_n hx hb dX11_next_80 rfl (lv_at hl 2 rfl) ?_
    cases h
    exact hend dX11_next_81 hW hS (Nat.le_of_ble_eq_true rfl) (Nat.le_of_ble_eq_true rfl)
  · replace h := ite_f c5 h
    refine lv_aload_n hx hb dX11_next_8 rfl (lv_at hl 0 rfl) ?_
    refine lv_iload_n hx hb dX11_next_9 rfl (lv_at hl 1 rfl) ?_
    refine lv_iload_n hx hb dX11_next_10 rfl (lv_at hl 3 rfl) ?_
    obtain ⟨r6, hcall, h⟩ := bd_out h
    refine g0_callV (As := [.int a1, .int x2]) hC hml hS hW (KC_at hk hS F.2.2.2.2) KC_blind (metX11_leg F hX k0 hcall) ml_X11_106 (gw_recv hC hW k0.1 (k0.2.1 T B (μ a0)) rfl) ⟨rfl, rfl, Nat.le_of_ble_eq_true rfl, Nat.le_of_ble_eq_true rfl⟩ rfl hl.1 rfl (Nat.le_of_ble_eq_true rfl) dX11_next_11 ⟨Nat.le_of_ble_eq_true rfl, Nat.le_of_ble_eq_true rfl⟩ (fun H locs hW hS => ?_)
    obtain ⟨j8, hj10, h⟩ := jn1_o h
    have J9 : ∀ (y7 : Bool), j8 y7 = some r → ∀ (H : Heap) (locs : List Loc) (ls : Array Slot), gWM D T B μ H → va_S (gA B X) s.heap H locs → lv_has ls 5 [(0, .ref (B + a0)), (1, .int a1), (2, .int x1), (3, .int x2)] → W p l e rmX11_next s m args below meth c H locs 0 0 Q (F0 m 61 ls [.int (b2i y7)]) := by
      clear h hW hS hl
      intro y7 h H locs ls hW hS hl
      replace h := (hj10 y7).symm.trans h
      refine lv_istore (lv' := [(4, .int (b2i y7)), (0, .ref (B + a0)), (1, .int a1), (2, .int x1), (3, .int x2)]) hx hb dX11_next_61 hl (by decide) rfl (fun ls hl => ?_)
      refine lv_iload hx hb dX11_next_63 (lv_at hl 0 rfl) ?_
      obtain ⟨j12, hj14, h⟩ := jn1_o h
      have J13 : ∀ (y11 : Int32), j12 y11 = some r → ∀ (H : Heap) (locs : List Loc) (ls : Array Slot), gWM D T B μ H → va_S (gA B X) s.heap H locs → lv_has ls 5 [(0, .ref (B + a0)), (1, .int a1), (3, .int x2)] → W p l e rmX11_next s m args below meth c H locs 0 0 Q (F0 m 73 ls [.int y11]) := by
        clear h hW hS hl
        intro y11 h H locs ls hW hS hl
        replace h := (hj14 y11).symm.trans h
        refine lv_istore_n (lv' := [(2, .int y11), (0, .ref (B + a0)), (1, .int a1), (3, .int x2)]) hx hb dX11_next_73 rfl hl (by decide) rfl (fun ls hl => ?_)
        obtain ⟨v15, e16, h⟩ := lt_out h
        refine lv_iinc (v := v15) (lv' := [(3, .int v15), (2, .int y11), (0, .ref (B + a0)), (1, .int a1)]) hx hb dX11_next_74 hl (k := 3) rfl (by rw [e16]; rfl) (by decide) rfl (fun ls hl => ?_)
        refine lv_goto (tgt := 4) hx hb dX11_next_77 (by decide) ?_
        exact IH4 _ _ h _ _ _ hW hS (lv_sub hl [2, 3, 1, 0] rfl)
      refine gw_if_eqZ (tgt := 72) hx hb dX11_next_65 (by decide) (fun c17 => ?_) (fun c17 => ?_)
      · replace h := cond_f c17 h
        refine lv_iload_n hx hb dX11_next_72 rfl (lv_at hl 3 rfl) ?_
        exact J13 _ h _ _ _ hW hS (lv_sub hl [1, 2, 4] rfl)
      · replace h := cond_t c17 h
        refine lv_iload_n hx hb dX11_next_68 rfl (lv_at hl 4 rfl) ?_
        refine lv_goto (tgt := 73) hx hb dX11_next_69 (by decide) ?_
        exact J13 _ h _ _ _ hW hS (lv_sub hl [1, 2, 4] rfl)
    obtain ⟨j19, hj21, h⟩ := jn1_o h
    have J20 : ∀ (u18 : Unit), j19 u18 = some r → ∀ (H : Heap) (locs : List Loc) (ls : Array Slot), gWM D T B μ H → va_S (gA B X) s.heap H locs → lv_has ls 5 [(0, .ref (B + a0)), (1, .int a1), (2, .int x1), (3, .int x2)] → W p l e rmX11_next s m args below meth c H locs 0 0 Q (F0 m 60 ls []) := by
      clear h hW hS hl
      intro u18 h H locs ls hW hS hl
      replace h := (hj21 u18).symm.trans h
      refine lv_iconst (v := 0) hx hb dX11_next_60 (by decide) ?_
      exact J9 _ h _ _ _ hW hS (lv_sub hl [0, 1, 2, 3] rfl)
    refine lv_if_le (tgt := 60) hx hb dX11_next_14 (by decide) (fun c22 => ?_) (fun c22 => ?_)
    · replace h := ite_t c22 h
      exact J20 _ h _ _ _ hW hS (lv_sub hl [0, 1, 2, 3] rfl)
    · replace h := ite_f c22 h
      refine lv_aload_n hx hb dX11_next_17 rfl (lv_at hl 0 rfl) ?_
      refine gw_get (v := .ref (B + (a0 + 5))) hC hW fl_X11_22 k0.1 (k0.2.1 T B (μ a0)) rfl dX11_next_18 ?_
      refine lv_iload_n hx hb dX11_next_21 rfl (lv_at hl 3 rfl) ?_
      obtain ⟨v23, e24, hi25, h⟩ := ag_o h
      refine gq_iald hC hW k0.2.2.2.2.2.2.1.1 (k0.2.2.2.2.2.2.1.2 T B (μ (a0 + 5))) (t0 := 0) rfl e24 hi25 dX11_next_22 ?_
      refine lv_aload_n hx hb dX11_next_23 rfl (lv_at hl 0 rfl) ?_
      refine lv_iload_n hx hb dX11_next_24 rfl (lv_at hl 1 rfl) ?_
      refine lv_iload_n hx hb dX11_next_25 rfl (lv_at hl 3 rfl) ?_
      obtain ⟨r26, hcall, h⟩ := bd_out h
      refine g0_callV (As := [.int a1, .int x2]) hC hml hS hW (KC_at hk hS F.2.2.2.2) KC_blind (metX11_leg F hX k0 hcall) ml_X11_106 (gw_recv hC hW k0.1 (k0.2.1 T B (μ a0)) rfl) ⟨rfl, rfl, Nat.le_of_ble_eq_true rfl, Nat.le_of_ble_eq_true rfl⟩ rfl hl.1 rfl (Nat.le_of_ble_eq_true rfl) dX11_next_26 ⟨Nat.le_of_ble_eq_true rfl, Nat.le_of_ble_eq_true rfl⟩ (fun H locs hW hS => ?_)
      refine lv_iadd hx hb dX11_next_29 ?_
      refine lv_aload_n hx hb dX11_next_30 rfl (lv_at hl 0 rfl) ?_
      refine gw_get (v := .ref (B + (a0 + 5))) hC hW fl_X11_22 k0.1 (k0.2.1 T B (μ a0)) rfl dX11_next_31 ?_
      refine lv_iload_n hx hb dX11_next_34 rfl (lv_at hl 1 rfl) ?_
      obtain ⟨v27, e28, hi29, h⟩ := ag_o h
      refine gq_iald hC hW k0.2.2.2.2.2.2.1.1 (k0.2.2.2.2.2.2.1.2 T B (μ (a0 + 5))) (t0 := 0) rfl e28 hi29 dX11_next_35 ?_
      refine lv_icmp_ne (tgt := 60) hx hb dX11_next_36 (by decide) (fun c30 => ?_) (fun c30 => ?_)
      · replace h := ite_f c30 h
        exact J20 _ h _ _ _ hW hS (lv_sub hl [0, 1, 2, 3] rfl)
      · replace h := ite_t c30 h
        refine lv_aload_n hx hb dX11_next_39 rfl (lv_at hl 0 rfl) ?_
        refine gw_get (v := .ref (B + (a0 + 6))) hC hW fl_X11_25 k0.1 (k0.2.1 T B (μ a0)) rfl dX11_next_40 ?_
        refine lv_iload_n hx hb dX11_next_43 rfl (lv_at hl 3 rfl) ?_
        obtain ⟨v31, e32, hi33, h⟩ := ag_o h
        refine gq_iald hC hW k0.2.2.2.2.2.2.2.1.1 (k0.2.2.2.2.2.2.2.1.2 T B (μ (a0 + 6))) (t0 := 0) rfl e32 hi33 dX11_next_44 ?_
        refine lv_iconst (v := 1) hx hb dX11_next_45 (by decide) ?_
        refine lv_iadd hx hb dX11_next_46 ?_
        refine lv_aload_n hx hb dX11_next_47 rfl (lv_at hl 0 rfl) ?_
        refine gw_get (v := .ref (B + (a0 + 6))) hC hW fl_X11_25 k0.1 (k0.2.1 T B (μ a0)) rfl dX11_next_48 ?_
        refine lv_iload_n hx hb dX11_next_51 rfl (lv_at hl 1 rfl) ?_
        obtain ⟨v34, e35, hi36, h⟩ := ag_o h
        refine gq_iald hC hW k0.2.2.2.2.2.2.2.1.1 (k0.2.2.2.2.2.2.2.1.2 T B (μ (a0 + 6))) (t0 := 0) rfl e35 hi36 dX11_next_52 ?_
        refine lv_icmp_ne (tgt := 60) hx hb dX11_next_53 (by decide) (fun c37 => ?_) (fun c37 => ?_)
        · replace h := ite_f c37 h
          exact J20 _ h _ _ _ hW hS (lv_sub hl [0, 1, 2, 3] rfl)
        · replace h := ite_t c37 h
          refine lv_iconst (v := 1) hx hb dX11_next_56 (by decide) ?_
          refine lv_goto (tgt := 61) hx hb dX11_next_57 (by decide) ?_
          exact J9 _ h _ _ _ hW hS (lv_sub hl [0, 1, 2, 3] rfl)

theorem dX11_asksWay_0 : decode cX11_asksWay 0 = .ok (.aload_n 0, 1) := by decide +kernel
theorem dX11_asksWay_1 : decode cX11_asksWay 1 = .ok (.iload_n 1, 1) := by decide +kernel
theorem dX11_asksWay_2 : decode cX11_asksWay 2 = .ok (.invokevirtual 92, 3) := by decide +kernel
theorem dX11_asksWay_5 : decode cX11_asksWay 5 = .ok (.ifCond .eq 11, 3) := by decide +kernel
theorem dX11_asksWay_8 : decode cX11_asksWay 8 = .ok (.aload_n 0, 1) := by decide +kernel
theorem dX11_asksWay_9 : decode cX11_asksWay 9 = .ok (.iload_n 2, 1) := by decide +kernel
theorem dX11_asksWay_10 : decode cX11_asksWay 10 = .ok (.invokevirtual 92, 3) := by decide +kernel
theorem dX11_asksWay_13 : decode cX11_asksWay 13 = .ok (.ifCond .ne 10, 3) := by decide +kernel
theorem dX11_asksWay_16 : decode cX11_asksWay 16 = .ok (.aload_n 0, 1) := by decide +kernel
theorem dX11_asksWay_17 : decode cX11_asksWay 17 = .ok (.iconst 1, 1) := by decide +kernel
theorem dX11_asksWay_18 : decode cX11_asksWay 18 = .ok (.putfield 51, 3) := by decide +kernel
theorem dX11_asksWay_21 : decode cX11_asksWay 21 = .ok (.iconst 0, 1) := by decide +kernel
theorem dX11_asksWay_22 : decode cX11_asksWay 22 = .ok (.ireturn, 1) := by decide +kernel
theorem dX11_asksWay_23 : decode cX11_asksWay 23 = .ok (.aload_n 0, 1) := by decide +kernel
theorem dX11_asksWay_24 : decode cX11_asksWay 24 = .ok (.iload_n 2, 1) := by decide +kernel
theorem dX11_asksWay_25 : decode cX11_asksWay 25 = .ok (.invokevirtual 121, 3) := by decide +kernel
theorem dX11_asksWay_28 : decode cX11_asksWay 28 = .ok (.aload_n 0, 1) := by decide +kernel
theorem dX11_asksWay_29 : decode cX11_asksWay 29 = .ok (.aload_n 0, 1) := by decide +kernel
theorem dX11_asksWay_30 : decode cX11_asksWay 30 = .ok (.getfield 22, 3) := by decide +kernel
theorem dX11_asksWay_33 : decode cX11_asksWay 33 = .ok (.iload_n 1, 1) := by decide +kernel
theorem dX11_asksWay_34 : decode cX11_asksWay 34 = .ok (.iaload, 1) := by decide +kernel
theorem dX11_asksWay_35 : decode cX11_asksWay 35 = .ok (.ldc 120, 2) := by decide +kernel
theorem dX11_asksWay_37 : decode cX11_asksWay 37 = .ok (.if_icmp .ne 7, 3) := by decide +kernel
theorem dX11_asksWay_40 : decode cX11_asksWay 40 = .ok (.iconst 2, 1) := by decide +kernel
theorem dX11_asksWay_41 : decode cX11_asksWay 41 = .ok (.goto 4, 3) := by decide +kernel
theorem dX11_asksWay_44 : decode cX11_asksWay 44 = .ok (.iconst 0, 1) := by decide +kernel
theorem dX11_asksWay_45 : decode cX11_asksWay 45 = .ok (.putfield 51, 3) := by decide +kernel
theorem dX11_asksWay_48 : decode cX11_asksWay 48 = .ok (.aload_n 0, 1) := by decide +kernel
theorem dX11_asksWay_49 : decode cX11_asksWay 49 = .ok (.getfield 51, 3) := by decide +kernel
theorem dX11_asksWay_52 : decode cX11_asksWay 52 = .ok (.ifCond .ne 7, 3) := by decide +kernel
theorem dX11_asksWay_55 : decode cX11_asksWay 55 = .ok (.iconst 1, 1) := by decide +kernel
theorem dX11_asksWay_56 : decode cX11_asksWay 56 = .ok (.goto 4, 3) := by decide +kernel
theorem dX11_asksWay_59 : decode cX11_asksWay 59 = .ok (.iconst 0, 1) := by decide +kernel
theorem dX11_asksWay_60 : decode cX11_asksWay 60 = .ok (.ireturn, 1) := by decide +kernel
abbrev rmX11_asksWay : Room := { frames := 4, cells := 0, slots := 0, locals := 108 }
set_option maxHeartbeats 4000000 in
set_option maxRecDepth 100000 in
theorem metX11_asksWay {l : Launch} {s0 : State} {b B : Nat} {D : va_G} {T : Nat → ClassId} (F : FX l s0 b D T B) {X : Nat → Prop} (hX : ∀ o, o < 12 → ¬ X (B + o)) {N : Nat} {μ : Mem} {a0 : Nat} {a1 : Int32} {a2 : Int32} {r : Mem × Bool} (k0 : IsMo a0) (h : fX11_asksWay N μ a0 a1 a2 = some r) : gMet l yX11_asksWay cX11_asksWay 3 (some .boolean) rmX11_asksWay [.ref (B + a0), .int a1, .int a2] (gWM D T B μ) (KC s0 X) (some (.int (b2i r.2))) (gWM D T B r.1) (gA B X) 0 0 := by
  refine gZ_of RX11 (by decide +kernel) rfl (Nat.le_of_ble_eq_true rfl) ?_
  intro p e s m args below meth c ls Q hx hb hlocks hml hown hts hW hk hl hS hend
  have hC := FX_C F hk hx hb hown hts
  have hA := gA_allM hX
  have hl : lv_has ls 3 [(0, .ref (B + a0)), (1, .int a1), (2, .int a2)] := hl
  unfold fX11_asksWay at h
  refine lv_aload_n hx hb dX11_asksWay_0 rfl (lv_at hl 0 rfl) ?_
  refine lv_iload_n hx hb dX11_asksWay_1 rfl (lv_at hl 1 rfl) ?_
  obtain ⟨r1, hcall, h⟩ := bd_out h
  refine g0_callV (As := [.int a1]) hC hml hS hW (KC_at hk hS F.2.2.2.2) KC_blind (metX11_isRoom F hX k0 hcall) ml_X11_92 (gw_recv hC hW k0.1 (k0.2.1 T B (μ a0)) rfl) ⟨rfl, rfl, Nat.le_of_ble_eq_true rfl, Nat.le_of_ble_eq_true rfl⟩ rfl hl.1 rfl (Nat.le_of_ble_eq_true rfl) dX11_asksWay_2 ⟨Nat.le_of_ble_eq_true rfl, Nat.le_of_ble_eq_true rfl⟩ (fun H locs hW hS => ?_)
  obtain ⟨j3, hj5, h⟩ := jn1_o h
  have J4 : ∀ (u2 : Unit), j3 u2 = some r → ∀ (H : Heap) (locs : List Loc) (ls : Array Slot), gWM D T B μ H → va_S (gA B X) s.heap H locs → lv_has ls 3 [(0, .ref (B + a0))] → W p l e rmX11_asksWay s m args below meth c H locs 0 0 Q (F0 m 16 ls []) := by
    clear h hW hS hl
    intro u2 h H locs ls hW hS hl
    replace h := (hj5 u2).symm.trans h
    refine lv_aload_n hx hb dX11_asksWay_16 rfl (lv_at hl 0 rfl) ?_
    refine lv_iconst (v := 1) hx hb dX11_asksWay_17 (by decide) ?_
    obtain ⟨μ6, e7, h⟩ := lt_out h
    refine gq_put hC hS hW hA fl_X11_51 k0.1 (k0.2.1 T B) (Nat.le_of_ble_eq_true rfl) rfl rfl rfl e7 dX11_asksWay_18 (fun H locs hW hS => ?_)
    refine lv_iconst (v := 0) hx hb dX11_asksWay_21 (by decide) ?_
    cases h
    exact hend dX11_asksWay_22 hW hS (Nat.le_of_ble_eq_true rfl) (Nat.le_of_ble_eq_true rfl)
  refine gw_if_eqZ (tgt := 16) hx hb dX11_asksWay_5 (by decide) (fun c8 => ?_) (fun c8 => ?_)
  · replace h := cond_f c8 h
    exact J4 _ h _ _ _ hW hS (lv_sub hl [0] rfl)
  · replace h := cond_t c8 h
    refine lv_aload_n hx hb dX11_asksWay_8 rfl (lv_at hl 0 rfl) ?_
    refine lv_iload_n hx hb dX11_asksWay_9 rfl (lv_at hl 2 rfl) ?_
    obtain ⟨r9, hcall, h⟩ := bd_out h
    refine g0_callV (As := [.int a2]) hC hml hS hW (KC_at hk hS F.2.2.2.2) KC_blind (metX11_isRoom F hX k0 hcall) ml_X11_92 (gw_recv hC hW k0.1 (k0.2.1 T B (μ a0)) rfl) ⟨rfl, rfl, Nat.le_of_ble_eq_true rfl, Nat.le_of_ble_eq_true rfl⟩ rfl hl.1 rfl (Nat.le_of_ble_eq_true rfl) dX11_asksWay_10 ⟨Nat.le_of_ble_eq_true rfl, Nat.le_of_ble_eq_true rfl⟩ (fun H locs hW hS => ?_)
    refine gw_if_neZ (tgt := 23) hx hb dX11_asksWay_13 (by decide) (fun c10 => ?_) (fun c10 => ?_)
    · replace h := cond_t c10 h
      refine lv_aload_n hx hb dX11_asksWay_23 rfl (lv_at hl 0 rfl) ?_
      refine lv_iload_n hx hb dX11_asksWay_24 rfl (lv_at hl 2 rfl) ?_
      obtain ⟨r11, hcall, h⟩ := bd_out h
      refine g0_callV (As := [.int a2]) hC hml hS hW (KC_at hk hS F.2.2.2.2) KC_blind (metX11_findsWays F hX k0 hcall) ml_X11_121 (gw_recv hC hW k0.1 (k0.2.1 T B (μ a0)) rfl) ⟨rfl, rfl, Nat.le_of_ble_eq_true rfl, Nat.le_of_ble_eq_true rfl⟩ rfl hl.1 rfl (Nat.le_of_ble_eq_true rfl) dX11_asksWay_25 ⟨Nat.le_of_ble_eq_true rfl, Nat.le_of_ble_eq_true rfl⟩ (fun H locs hW hS => ?_)
      refine lv_aload_n hx hb dX11_asksWay_28 rfl (lv_at hl 0 rfl) ?_
      refine lv_aload_n hx hb dX11_asksWay_29 rfl (lv_at hl 0 rfl) ?_
      refine gw_get (v := .ref (B + (a0 + 5))) hC hW fl_X11_22 k0.1 (k0.2.1 T B (r11 a0)) rfl dX11_asksWay_30 ?_
      refine lv_iload_n hx hb dX11_asksWay_33 rfl (lv_at hl 1 rfl) ?_
      obtain ⟨v12, e13, hi14, h⟩ := ag_o h
      refine gq_iald hC hW k0.2.2.2.2.2.2.1.1 (k0.2.2.2.2.2.2.1.2 T B (r11 (a0 + 5))) (t0 := 0) rfl e13 hi14 dX11_asksWay_34 ?_
      refine lv_ldc (v := 100000) hx hb hown (hts _ kc_X11_120) dX11_asksWay_35 ?_
      obtain ⟨j16, hj18, h⟩ := jn1_o h
      have J17 : ∀ (y15 : Int32), j16 y15 = some r → ∀ (H : Heap) (locs : List Loc) (ls : Array Slot), gWM D T B r11 H → va_S (gA B X) s.heap H locs → lv_has ls 3 [(0, .ref (B + a0))] → W p l e rmX11_asksWay s m args below meth c H locs 0 0 Q (F0 m 45 ls [.int y15, .ref (B + a0)]) := by
        clear h hW hS hl
        intro y15 h H locs ls hW hS hl
        replace h := (hj18 y15).symm.trans h
        obtain ⟨μ19, e20, h⟩ := lt_out h
        refine gq_put hC hS hW hA fl_X11_51 k0.1 (k0.2.1 T B) (Nat.le_of_ble_eq_true rfl) rfl rfl rfl e20 dX11_asksWay_45 (fun H locs hW hS => ?_)
        refine lv_aload_n hx hb dX11_asksWay_48 rfl (lv_at hl 0 rfl) ?_
        refine gw_get (v := .int (μ19 a0 6)) hC hW fl_X11_51.1 k0.1 (k0.2.1 T B (μ19 a0)) rfl dX11_asksWay_49 ?_
        obtain ⟨j22, hj24, h⟩ := jn1_o h
        have J23 : ∀ (y21 : Bool), j22 y21 = some r → ∀ (H : Heap) (locs : List Loc) (ls : Array Slot), gWM D T B μ19 H → va_S (gA B X) s.heap H locs → lv_has ls 3 [] → W p l e rmX11_asksWay s m args below meth c H locs 0 0 Q (F0 m 60 ls [.int (b2i y21)]) := by
          clear h hW hS hl
          intro y21 h H locs ls hW hS hl
          replace h := (hj24 y21).symm.trans h
          cases h
          exact hend dX11_asksWay_60 hW hS (Nat.le_of_ble_eq_true rfl) (Nat.le_of_ble_eq_true rfl)
        refine lv_if_ne (tgt := 59) hx hb dX11_asksWay_52 (by decide) (fun c25 => ?_) (fun c25 => ?_)
        · replace h := ite_f c25 h
          refine lv_iconst (v := 0) hx hb dX11_asksWay_59 (by decide) ?_
          exact J23 _ h _ _ _ hW hS (lv_sub hl [] rfl)
        · replace h := ite_t c25 h
          refine lv_iconst (v := 1) hx hb dX11_asksWay_55 (by decide) ?_
          refine lv_goto (tgt := 60) hx hb dX11_asksWay_56 (by decide) ?_
          exact J23 _ h _ _ _ hW hS (lv_sub hl [] rfl)
      refine lv_icmp_ne (tgt := 44) hx hb dX11_asksWay_37 (by decide) (fun c26 => ?_) (fun c26 => ?_)
      · replace h := ite_f c26 h
        refine lv_iconst (v := 0) hx hb dX11_asksWay_44 (by decide) ?_
        exact J17 _ h _ _ _ hW hS (lv_sub hl [0] rfl)
      · replace h := ite_t c26 h
        refine lv_iconst (v := 2) hx hb dX11_asksWay_40 (by decide) ?_
        refine lv_goto (tgt := 45) hx hb dX11_asksWay_41 (by decide) ?_
        exact J17 _ h _ _ _ hW hS (lv_sub hl [0] rfl)
    · replace h := cond_f c10 h
      exact J4 _ h _ _ _ hW hS (lv_sub hl [0] rfl)

theorem dX11_minutes_0 : decode cX11_minutes 0 = .ok (.aload_n 0, 1) := by decide +kernel
theorem dX11_minutes_1 : decode cX11_minutes 1 = .ok (.iload_n 1, 1) := by decide +kernel
theorem dX11_minutes_2 : decode cX11_minutes 2 = .ok (.iload_n 2, 1) := by decide +kernel
theorem dX11_minutes_3 : decode cX11_minutes 3 = .ok (.invokevirtual 125, 3) := by decide +kernel
theorem dX11_minutes_6 : decode cX11_minutes 6 = .ok (.ifCond .eq 12, 3) := by decide +kernel
theorem dX11_minutes_9 : decode cX11_minutes 9 = .ok (.aload_n 0, 1) := by decide +kernel
theorem dX11_minutes_10 : decode cX11_minutes 10 = .ok (.getfield 22, 3) := by decide +kernel
theorem dX11_minutes_13 : decode cX11_minutes 13 = .ok (.iload_n 1, 1) := by decide +kernel
theorem dX11_minutes_14 : decode cX11_minutes 14 = .ok (.iaload, 1) := by decide +kernel
theorem dX11_minutes_15 : decode cX11_minutes 15 = .ok (.goto 4, 3) := by decide +kernel
theorem dX11_minutes_18 : decode cX11_minutes 18 = .ok (.iconst 0, 1) := by decide +kernel
theorem dX11_minutes_19 : decode cX11_minutes 19 = .ok (.ireturn, 1) := by decide +kernel
abbrev rmX11_minutes : Room := { frames := 5, cells := 0, slots := 0, locals := 130 }
set_option maxHeartbeats 4000000 in
set_option maxRecDepth 100000 in
theorem metX11_minutes {l : Launch} {s0 : State} {b B : Nat} {D : va_G} {T : Nat → ClassId} (F : FX l s0 b D T B) {X : Nat → Prop} (hX : ∀ o, o < 12 → ¬ X (B + o)) {N : Nat} {μ : Mem} {a0 : Nat} {a1 : Int32} {a2 : Int32} {r : Mem × Int32} (k0 : IsMo a0) (h : fX11_minutes N μ a0 a1 a2 = some r) : gMet l yX11_minutes cX11_minutes 3 (some .int) rmX11_minutes [.ref (B + a0), .int a1, .int a2] (gWM D T B μ) (KC s0 X) (some (.int r.2)) (gWM D T B r.1) (gA B X) 0 0 := by
  refine gI_of RX11 (by decide +kernel) rfl (Nat.le_of_ble_eq_true rfl) ?_
  intro p e s m args below meth c ls Q hx hb hlocks hml hown hts hW hk hl hS hend
  have hC := FX_C F hk hx hb hown hts
  have hA := gA_allM hX
  have hl : lv_has ls 3 [(0, .ref (B + a0)), (1, .int a1), (2, .int a2)] := hl
  unfold fX11_minutes at h
  refine lv_aload_n hx hb dX11_minutes_0 rfl (lv_at hl 0 rfl) ?_
  refine lv_iload_n hx hb dX11_minutes_1 rfl (lv_at hl 1 rfl) ?_
  refine lv_iload_n hx hb dX11_minutes_2 rfl (lv_at hl 2 rfl) ?_
  obtain ⟨r1, hcall, h⟩ := bd_out h
  refine g0_callV (As := [.int a1, .int a2]) hC hml hS hW (KC_at hk hS F.2.2.2.2) KC_blind (metX11_asksWay F hX k0 hcall) ml_X11_125 (gw_recv hC hW k0.1 (k0.2.1 T B (μ a0)) rfl) ⟨rfl, rfl, Nat.le_of_ble_eq_true rfl, Nat.le_of_ble_eq_true rfl⟩ rfl hl.1 rfl (Nat.le_of_ble_eq_true rfl) dX11_minutes_3 ⟨Nat.le_of_ble_eq_true rfl, Nat.le_of_ble_eq_true rfl⟩ (fun H locs hW hS => ?_)
  obtain ⟨j3, hj5, h⟩ := jn1_o h
  have J4 : ∀ (y2 : Int32), j3 y2 = some r → ∀ (H : Heap) (locs : List Loc) (ls : Array Slot), gWM D T B r1.1 H → va_S (gA B X) s.heap H locs → lv_has ls 3 [] → W p l e rmX11_minutes s m args below meth c H locs 0 0 Q (F0 m 19 ls [.int y2]) := by
    clear h hW hS hl
    intro y2 h H locs ls hW hS hl
    replace h := (hj5 y2).symm.trans h
    cases h
    exact hend dX11_minutes_19 hW hS (Nat.le_of_ble_eq_true rfl) (Nat.le_of_ble_eq_true rfl)
  refine gw_if_eqZ (tgt := 18) hx hb dX11_minutes_6 (by decide) (fun c6 => ?_) (fun c6 => ?_)
  · replace h := cond_f c6 h
    refine lv_iconst (v := 0) hx hb dX11_minutes_18 (by decide) ?_
    exact J4 _ h _ _ _ hW hS (lv_sub hl [] rfl)
  · replace h := cond_t c6 h
    refine lv_aload_n hx hb dX11_minutes_9 rfl (lv_at hl 0 rfl) ?_
    refine gw_get (v := .ref (B + (a0 + 5))) hC hW fl_X11_22 k0.1 (k0.2.1 T B (r1.1 a0)) rfl dX11_minutes_10 ?_
    refine lv_iload_n hx hb dX11_minutes_13 rfl (lv_at hl 1 rfl) ?_
    obtain ⟨v7, e8, hi9, h⟩ := ag_o h
    refine gq_iald hC hW k0.2.2.2.2.2.2.1.1 (k0.2.2.2.2.2.2.1.2 T B (r1.1 (a0 + 5))) (t0 := 0) rfl e8 hi9 dX11_minutes_14 ?_
    refine lv_goto (tgt := 19) hx hb dX11_minutes_15 (by decide) ?_
    exact J4 _ h _ _ _ hW hS (lv_sub hl [] rfl)

theorem dX11_minutesByTable_0 : decode cX11_minutesByTable 0 = .ok (.aload_n 0, 1) := by decide +kernel
theorem dX11_minutesByTable_1 : decode cX11_minutesByTable 1 = .ok (.iload_n 1, 1) := by decide +kernel
theorem dX11_minutesByTable_2 : decode cX11_minutesByTable 2 = .ok (.iload_n 2, 1) := by decide +kernel
theorem dX11_minutesByTable_3 : decode cX11_minutesByTable 3 = .ok (.invokevirtual 128, 3) := by decide +kernel
theorem dX11_minutesByTable_6 : decode cX11_minutesByTable 6 = .ok (.ireturn, 1) := by decide +kernel
abbrev rmX11_minutesByTable : Room := { frames := 6, cells := 0, slots := 0, locals := 152 }
set_option maxHeartbeats 4000000 in
set_option maxRecDepth 100000 in
theorem metX11_minutesByTable {l : Launch} {s0 : State} {b B : Nat} {D : va_G} {T : Nat → ClassId} (F : FX l s0 b D T B) {X : Nat → Prop} (hX : ∀ o, o < 12 → ¬ X (B + o)) {N : Nat} {μ : Mem} {a0 : Nat} {a1 : Int32} {a2 : Int32} {r : Mem × Int32} (k0 : IsMo a0) (h : fX11_minutesByTable N μ a0 a1 a2 = some r) : gMet l yX11_minutesByTable cX11_minutesByTable 3 (some .int) rmX11_minutesByTable [.ref (B + a0), .int a1, .int a2] (gWM D T B μ) (KC s0 X) (some (.int r.2)) (gWM D T B r.1) (gA B X) 0 0 := by
  refine gI_of RX11 (by decide +kernel) rfl (Nat.le_of_ble_eq_true rfl) ?_
  intro p e s m args below meth c ls Q hx hb hlocks hml hown hts hW hk hl hS hend
  have hC := FX_C F hk hx hb hown hts
  have hA := gA_allM hX
  have hl : lv_has ls 3 [(0, .ref (B + a0)), (1, .int a1), (2, .int a2)] := hl
  unfold fX11_minutesByTable at h
  refine lv_aload_n hx hb dX11_minutesByTable_0 rfl (lv_at hl 0 rfl) ?_
  refine lv_iload_n hx hb dX11_minutesByTable_1 rfl (lv_at hl 1 rfl) ?_
  refine lv_iload_n hx hb dX11_minutesByTable_2 rfl (lv_at hl 2 rfl) ?_
  obtain ⟨r1, hcall, h⟩ := bd_out h
  refine g0_callV (As := [.int a1, .int a2]) hC hml hS hW (KC_at hk hS F.2.2.2.2) KC_blind (metX11_minutes F hX k0 hcall) ml_X11_128 (gw_recv hC hW k0.1 (k0.2.1 T B (μ a0)) rfl) ⟨rfl, rfl, Nat.le_of_ble_eq_true rfl, Nat.le_of_ble_eq_true rfl⟩ rfl hl.1 rfl (Nat.le_of_ble_eq_true rfl) dX11_minutesByTable_3 ⟨Nat.le_of_ble_eq_true rfl, Nat.le_of_ble_eq_true rfl⟩ (fun H locs hW hS => ?_)
  cases h
  exact hend dX11_minutesByTable_6 hW hS (Nat.le_of_ble_eq_true rfl) (Nat.le_of_ble_eq_true rfl)

theorem dX11_wayLegs_0 : decode cX11_wayLegs 0 = .ok (.aload_n 0, 1) := by decide +kernel
theorem dX11_wayLegs_1 : decode cX11_wayLegs 1 = .ok (.iload_n 1, 1) := by decide +kernel
theorem dX11_wayLegs_2 : decode cX11_wayLegs 2 = .ok (.iload_n 2, 1) := by decide +kernel
theorem dX11_wayLegs_3 : decode cX11_wayLegs 3 = .ok (.invokevirtual 125, 3) := by decide +kernel
theorem dX11_wayLegs_6 : decode cX11_wayLegs 6 = .ok (.ifCond .eq 12, 3) := by decide +kernel
theorem dX11_wayLegs_9 : decode cX11_wayLegs 9 = .ok (.aload_n 0, 1) := by decide +kernel
theorem dX11_wayLegs_10 : decode cX11_wayLegs 10 = .ok (.getfield 25, 3) := by decide +kernel
theorem dX11_wayLegs_13 : decode cX11_wayLegs 13 = .ok (.iload_n 1, 1) := by decide +kernel
theorem dX11_wayLegs_14 : decode cX11_wayLegs 14 = .ok (.iaload, 1) := by decide +kernel
theorem dX11_wayLegs_15 : decode cX11_wayLegs 15 = .ok (.goto 4, 3) := by decide +kernel
theorem dX11_wayLegs_18 : decode cX11_wayLegs 18 = .ok (.iconst 0, 1) := by decide +kernel
theorem dX11_wayLegs_19 : decode cX11_wayLegs 19 = .ok (.ireturn, 1) := by decide +kernel
abbrev rmX11_wayLegs : Room := { frames := 5, cells := 0, slots := 0, locals := 130 }
set_option maxHeartbeats 4000000 in
set_option maxRecDepth 100000 in
theorem metX11_wayLegs {l : Launch} {s0 : State} {b B : Nat} {D : va_G} {T : Nat → ClassId} (F : FX l s0 b D T B) {X : Nat → Prop} (hX : ∀ o, o < 12 → ¬ X (B + o)) {N : Nat} {μ : Mem} {a0 : Nat} {a1 : Int32} {a2 : Int32} {r : Mem × Int32} (k0 : IsMo a0) (h : fX11_wayLegs N μ a0 a1 a2 = some r) : gMet l yX11_wayLegs cX11_wayLegs 3 (some .int) rmX11_wayLegs [.ref (B + a0), .int a1, .int a2] (gWM D T B μ) (KC s0 X) (some (.int r.2)) (gWM D T B r.1) (gA B X) 0 0 := by
  refine gI_of RX11 (by decide +kernel) rfl (Nat.le_of_ble_eq_true rfl) ?_
  intro p e s m args below meth c ls Q hx hb hlocks hml hown hts hW hk hl hS hend
  have hC := FX_C F hk hx hb hown hts
  have hA := gA_allM hX
  have hl : lv_has ls 3 [(0, .ref (B + a0)), (1, .int a1), (2, .int a2)] := hl
  unfold fX11_wayLegs at h
  refine lv_aload_n hx hb dX11_wayLegs_0 rfl (lv_at hl 0 rfl) ?_
  refine lv_iload_n hx hb dX11_wayLegs_1 rfl (lv_at hl 1 rfl) ?_
  refine lv_iload_n hx hb dX11_wayLegs_2 rfl (lv_at hl 2 rfl) ?_
  obtain ⟨r1, hcall, h⟩ := bd_out h
  refine g0_callV (As := [.int a1, .int a2]) hC hml hS hW (KC_at hk hS F.2.2.2.2) KC_blind (metX11_asksWay F hX k0 hcall) ml_X11_125 (gw_recv hC hW k0.1 (k0.2.1 T B (μ a0)) rfl) ⟨rfl, rfl, Nat.le_of_ble_eq_true rfl, Nat.le_of_ble_eq_true rfl⟩ rfl hl.1 rfl (Nat.le_of_ble_eq_true rfl) dX11_wayLegs_3 ⟨Nat.le_of_ble_eq_true rfl, Nat.le_of_ble_eq_true rfl⟩ (fun H locs hW hS => ?_)
  obtain ⟨j3, hj5, h⟩ := jn1_o h
  have J4 : ∀ (y2 : Int32), j3 y2 = some r → ∀ (H : Heap) (locs : List Loc) (ls : Array Slot), gWM D T B r1.1 H → va_S (gA B X) s.heap H locs → lv_has ls 3 [] → W p l e rmX11_wayLegs s m args below meth c H locs 0 0 Q (F0 m 19 ls [.int y2]) := by
    clear h hW hS hl
    intro y2 h H locs ls hW hS hl
    replace h := (hj5 y2).symm.trans h
    cases h
    exact hend dX11_wayLegs_19 hW hS (Nat.le_of_ble_eq_true rfl) (Nat.le_of_ble_eq_true rfl)
  refine gw_if_eqZ (tgt := 18) hx hb dX11_wayLegs_6 (by decide) (fun c6 => ?_) (fun c6 => ?_)
  · replace h := cond_f c6 h
    refine lv_iconst (v := 0) hx hb dX11_wayLegs_18 (by decide) ?_
    exact J4 _ h _ _ _ hW hS (lv_sub hl [] rfl)
  · replace h := cond_t c6 h
    refine lv_aload_n hx hb dX11_wayLegs_9 rfl (lv_at hl 0 rfl) ?_
    refine gw_get (v := .ref (B + (a0 + 6))) hC hW fl_X11_25 k0.1 (k0.2.1 T B (r1.1 a0)) rfl dX11_wayLegs_10 ?_
    refine lv_iload_n hx hb dX11_wayLegs_13 rfl (lv_at hl 1 rfl) ?_
    obtain ⟨v7, e8, hi9, h⟩ := ag_o h
    refine gq_iald hC hW k0.2.2.2.2.2.2.2.1.1 (k0.2.2.2.2.2.2.2.1.2 T B (r1.1 (a0 + 6))) (t0 := 0) rfl e8 hi9 dX11_wayLegs_14 ?_
    refine lv_goto (tgt := 19) hx hb dX11_wayLegs_15 (by decide) ?_
    exact J4 _ h _ _ _ hW hS (lv_sub hl [] rfl)

theorem dX11_wayRoom_0 : decode cX11_wayRoom 0 = .ok (.aload_n 0, 1) := by decide +kernel
theorem dX11_wayRoom_1 : decode cX11_wayRoom 1 = .ok (.iload_n 1, 1) := by decide +kernel
theorem dX11_wayRoom_2 : decode cX11_wayRoom 2 = .ok (.iload_n 2, 1) := by decide +kernel
theorem dX11_wayRoom_3 : decode cX11_wayRoom 3 = .ok (.invokevirtual 125, 3) := by decide +kernel
theorem dX11_wayRoom_6 : decode cX11_wayRoom 6 = .ok (.ifCond .ne 5, 3) := by decide +kernel
theorem dX11_wayRoom_9 : decode cX11_wayRoom 9 = .ok (.iconst 0, 1) := by decide +kernel
theorem dX11_wayRoom_10 : decode cX11_wayRoom 10 = .ok (.ireturn, 1) := by decide +kernel
theorem dX11_wayRoom_11 : decode cX11_wayRoom 11 = .ok (.iload_n 3, 1) := by decide +kernel
theorem dX11_wayRoom_12 : decode cX11_wayRoom 12 = .ok (.iconst 0, 1) := by decide +kernel
theorem dX11_wayRoom_13 : decode cX11_wayRoom 13 = .ok (.aload_n 0, 1) := by decide +kernel
theorem dX11_wayRoom_14 : decode cX11_wayRoom 14 = .ok (.getfield 25, 3) := by decide +kernel
theorem dX11_wayRoom_17 : decode cX11_wayRoom 17 = .ok (.iload_n 1, 1) := by decide +kernel
theorem dX11_wayRoom_18 : decode cX11_wayRoom 18 = .ok (.iaload, 1) := by decide +kernel
theorem dX11_wayRoom_19 : decode cX11_wayRoom 19 = .ok (.invokestatic 73, 3) := by decide +kernel
theorem dX11_wayRoom_22 : decode cX11_wayRoom 22 = .ok (.ifCond .ne 9, 3) := by decide +kernel
theorem dX11_wayRoom_25 : decode cX11_wayRoom 25 = .ok (.aload_n 0, 1) := by decide +kernel
theorem dX11_wayRoom_26 : decode cX11_wayRoom 26 = .ok (.iconst 2, 1) := by decide +kernel
theorem dX11_wayRoom_27 : decode cX11_wayRoom 27 = .ok (.invokevirtual 69, 3) := by decide +kernel
theorem dX11_wayRoom_30 : decode cX11_wayRoom 30 = .ok (.ireturn, 1) := by decide +kernel
theorem dX11_wayRoom_31 : decode cX11_wayRoom 31 = .ok (.iload_n 1, 1) := by decide +kernel
theorem dX11_wayRoom_32 : decode cX11_wayRoom 32 = .ok (.istore 4, 2) := by decide +kernel
theorem dX11_wayRoom_34 : decode cX11_wayRoom 34 = .ok (.iconst 0, 1) := by decide +kernel
theorem dX11_wayRoom_35 : decode cX11_wayRoom 35 = .ok (.istore 5, 2) := by decide +kernel
theorem dX11_wayRoom_37 : decode cX11_wayRoom 37 = .ok (.iload 5, 2) := by decide +kernel
theorem dX11_wayRoom_39 : decode cX11_wayRoom 39 = .ok (.iload_n 3, 1) := by decide +kernel
theorem dX11_wayRoom_40 : decode cX11_wayRoom 40 = .ok (.if_icmp .ge 17, 3) := by decide +kernel
theorem dX11_wayRoom_43 : decode cX11_wayRoom 43 = .ok (.aload_n 0, 1) := by decide +kernel
theorem dX11_wayRoom_44 : decode cX11_wayRoom 44 = .ok (.iload 4, 2) := by decide +kernel
theorem dX11_wayRoom_46 : decode cX11_wayRoom 46 = .ok (.invokevirtual 131, 3) := by decide +kernel
theorem dX11_wayRoom_49 : decode cX11_wayRoom 49 = .ok (.istore 4, 2) := by decide +kernel
theorem dX11_wayRoom_51 : decode cX11_wayRoom 51 = .ok (.iinc 5 1, 3) := by decide +kernel
theorem dX11_wayRoom_54 : decode cX11_wayRoom 54 = .ok (.goto (-17), 3) := by decide +kernel
theorem dX11_wayRoom_57 : decode cX11_wayRoom 57 = .ok (.iload 4, 2) := by decide +kernel
theorem dX11_wayRoom_59 : decode cX11_wayRoom 59 = .ok (.ireturn, 1) := by decide +kernel
abbrev rmX11_wayRoom : Room := { frames := 5, cells := 0, slots := 0, locals := 130 }
set_option maxHeartbeats 4000000 in
set_option maxRecDepth 100000 in
theorem metX11_wayRoom {l : Launch} {s0 : State} {b B : Nat} {D : va_G} {T : Nat → ClassId} (F : FX l s0 b D T B) {X : Nat → Prop} (hX : ∀ o, o < 12 → ¬ X (B + o)) {N : Nat} {μ : Mem} {a0 : Nat} {a1 : Int32} {a2 : Int32} {a3 : Int32} {r : Mem × Int32} (k0 : IsMo a0) (h : fX11_wayRoom N μ a0 a1 a2 a3 = some r) : gMet l yX11_wayRoom cX11_wayRoom 6 (some .int) rmX11_wayRoom [.ref (B + a0), .int a1, .int a2, .int a3] (gWM D T B μ) (KC s0 X) (some (.int r.2)) (gWM D T B r.1) (gA B X) 0 0 := by
  refine gI_of RX11 (by decide +kernel) rfl (Nat.le_of_ble_eq_true rfl) ?_
  intro p e s m args below meth c ls Q hx hb hlocks hml hown hts hW hk hl hS hend
  have hC := FX_C F hk hx hb hown hts
  have hA := gA_allM hX
  have hl : lv_has ls 6 [(0, .ref (B + a0)), (1, .int a1), (2, .int a2), (3, .int a3)] := hl
  unfold fX11_wayRoom at h
  refine lv_aload_n hx hb dX11_wayRoom_0 rfl (lv_at hl 0 rfl) ?_
  refine lv_iload_n hx hb dX11_wayRoom_1 rfl (lv_at hl 1 rfl) ?_
  refine lv_iload_n hx hb dX11_wayRoom_2 rfl (lv_at hl 2 rfl) ?_
  obtain ⟨r1, hcall, h⟩ := bd_out h
  refine g0_callV (As := [.int a1, .int a2]) hC hml hS hW (KC_at hk hS F.2.2.2.2) KC_blind (metX11_asksWay F hX k0 hcall) ml_X11_125 (gw_recv hC hW k0.1 (k0.2.1 T B (μ a0)) rfl) ⟨rfl, rfl, Nat.le_of_ble_eq_true rfl, Nat.le_of_ble_eq_true rfl⟩ rfl hl.1 rfl (Nat.le_of_ble_eq_true rfl) dX11_wayRoom_3 ⟨Nat.le_of_ble_eq_true rfl, Nat.le_of_ble_eq_true rfl⟩ (fun H locs hW hS => ?_)
  refine gw_if_neZ (tgt := 11) hx hb dX11_wayRoom_6 (by decide) (fun c2 => ?_) (fun c2 => ?_)
  · replace h := cond_t c2 h
    refine lv_iload_n hx hb dX11_wayRoom_11 rfl (lv_at hl 3 rfl) ?_
    refine lv_iconst (v := 0) hx hb dX11_wayRoom_12 (by decide) ?_
    refine lv_aload_n hx hb dX11_wayRoom_13 rfl (lv_at hl 0 rfl) ?_
    refine gw_get (v := .ref (B + (a0 + 6))) hC hW fl_X11_25 k0.1 (k0.2.1 T B (r1.1 a0)) rfl dX11_wayRoom_14 ?_
    refine lv_iload_n hx hb dX11_wayRoom_17 rfl (lv_at hl 1 rfl) ?_
    obtain ⟨v3, e4, hi5, h⟩ := ag_o h
    refine gq_iald hC hW k0.2.2.2.2.2.2.2.1.1 (k0.2.2.2.2.2.2.2.1.2 T B (r1.1 (a0 + 6))) (t0 := 0) rfl e4 hi5 dX11_wayRoom_18 ?_
    obtain ⟨r6, hcall, h⟩ := bd_out h
    refine g0_callS (As := [.int a3, .int 0, .int v3]) hC hml hS hW (KC_at hk hS F.2.2.2.2) KC_blind (metX11_in F hX  hcall) ml_X11_73 ⟨rfl, rfl, Nat.le_of_ble_eq_true rfl, Nat.le_of_ble_eq_true rfl⟩ rfl hl.1 rfl (Nat.le_of_ble_eq_true rfl) dX11_wayRoom_19 ⟨Nat.le_of_ble_eq_true rfl, Nat.le_of_ble_eq_true rfl⟩ (fun H locs hW hS => ?_)
    refine gw_if_neZ (tgt := 31) hx hb dX11_wayRoom_22 (by decide) (fun c7 => ?_) (fun c7 => ?_)
    · replace h := cond_t c7 h
      refine lv_iload_n hx hb dX11_wayRoom_31 rfl (lv_at hl 1 rfl) ?_
      refine lv_istore (lv' := [(4, .int a1), (0, .ref (B + a0)), (1, .int a1), (2, .int a2), (3, .int a3)]) hx hb dX11_wayRoom_32 hl (by decide) rfl (fun ls hl => ?_)
      refine lv_iconst (v := 0) hx hb dX11_wayRoom_34 (by decide) ?_
      refine lv_istore (lv' := [(5, .int 0), (4, .int a1), (0, .ref (B + a0)), (1, .int a1), (2, .int a2), (3, .int a3)]) hx hb dX11_wayRoom_35 hl (by decide) rfl (fun ls hl => ?_)
      refine fix2_ind (fun (x8 : Int32) (x9 : Int32) => ∀ (H : Heap) (locs : List Loc) (ls : Array Slot), gWM D T B r1.1 H → va_S (gA B X) s.heap H locs → lv_has ls 6 [(0, .ref (B + a0)), (3, .int a3), (4, .int x8), (5, .int x9)] → W p l e rmX11_wayRoom s m args below meth c H locs 0 0 Q (F0 m 37 ls [])) ?_ N _ _ h _ _ _ hW hS (lv_sub hl [2, 5, 1, 0] rfl)
      clear h hW hS hl
      intro self10 IH11 x8 x9 h H locs ls hW hS hl
      refine lv_iload hx hb dX11_wayRoom_37 (lv_at hl 3 rfl) ?_
      refine lv_iload_n hx hb dX11_wayRoom_39 rfl (lv_at hl 1 rfl) ?_
      refine lv_icmp_ge (tgt := 57) hx hb dX11_wayRoom_40 (by decide) (fun c12 => ?_) (fun c12 => ?_)
      · replace h := ite_t c12 h
        refine lv_iload hx hb dX11_wayRoom_57 (lv_at hl 2 rfl) ?_
        cases h
        exact hend dX11_wayRoom_59 hW hS (Nat.le_of_ble_eq_true rfl) (Nat.le_of_ble_eq_true rfl)
      · replace h := ite_f c12 h
        refine lv_aload_n hx hb dX11_wayRoom_43 rfl (lv_at hl 0 rfl) ?_
        refine lv_iload hx hb dX11_wayRoom_44 (lv_at hl 2 rfl) ?_
        obtain ⟨r13, hcall, h⟩ := bd_out h
        refine g0_callV (As := [.int x8]) hC hml hS hW (KC_at hk hS F.2.2.2.2) KC_blind (metX11_next F hX k0 hcall) ml_X11_131 (gw_recv hC hW k0.1 (k0.2.1 T B (r1.1 a0)) rfl) ⟨rfl, rfl, Nat.le_of_ble_eq_true rfl, Nat.le_of_ble_eq_true rfl⟩ rfl hl.1 rfl (Nat.le_of_ble_eq_true rfl) dX11_wayRoom_46 ⟨Nat.le_of_ble_eq_true rfl, Nat.le_of_ble_eq_true rfl⟩ (fun H locs hW hS => ?_)
        refine lv_istore (lv' := [(4, .int r13), (0, .ref (B + a0)), (3, .int a3), (5, .int x9)]) hx hb dX11_wayRoom_49 hl (by decide) rfl (fun ls hl => ?_)
        obtain ⟨v14, e15, h⟩ := lt_out h
        refine lv_iinc (v := v14) (lv' := [(5, .int v14), (4, .int r13), (0, .ref (B + a0)), (3, .int a3)]) hx hb dX11_wayRoom_51 hl (k := 3) rfl (by rw [e15]; rfl) (by decide) rfl (fun ls hl => ?_)
        refine lv_goto (tgt := 37) hx hb dX11_wayRoom_54 (by decide) ?_
        exact IH11 _ _ h _ _ _ hW hS (lv_sub hl [2, 3, 1, 0] rfl)
    · replace h := cond_f c7 h
      refine lv_aload_n hx hb dX11_wayRoom_25 rfl (lv_at hl 0 rfl) ?_
      refine lv_iconst (v := 2) hx hb dX11_wayRoom_26 (by decide) ?_
      obtain ⟨r16, hcall, h⟩ := bd_out h
      refine g0_callV (As := [.int 2]) hC hml hS hW (KC_at hk hS F.2.2.2.2) KC_blind (metX11_fails F hX k0 hcall) ml_X11_69 (gw_recv hC hW k0.1 (k0.2.1 T B (r1.1 a0)) rfl) ⟨rfl, rfl, Nat.le_of_ble_eq_true rfl, Nat.le_of_ble_eq_true rfl⟩ rfl hl.1 rfl (Nat.le_of_ble_eq_true rfl) dX11_wayRoom_27 ⟨Nat.le_of_ble_eq_true rfl, Nat.le_of_ble_eq_true rfl⟩ (fun H locs hW hS => ?_)
      cases h
      exact hend dX11_wayRoom_30 hW hS (Nat.le_of_ble_eq_true rfl) (Nat.le_of_ble_eq_true rfl)
  · replace h := cond_f c2 h
    refine lv_iconst (v := 0) hx hb dX11_wayRoom_9 (by decide) ?_
    cases h
    exact hend dX11_wayRoom_10 hW hS (Nat.le_of_ble_eq_true rfl) (Nat.le_of_ble_eq_true rfl)

theorem dX11_doAddExhibit_0 : decode cX11_doAddExhibit 0 = .ok (.aload_n 0, 1) := by decide +kernel
theorem dX11_doAddExhibit_1 : decode cX11_doAddExhibit 1 = .ok (.getfield 9, 3) := by decide +kernel
theorem dX11_doAddExhibit_4 : decode cX11_doAddExhibit 4 = .ok (.iconst 1, 1) := by decide +kernel
theorem dX11_doAddExhibit_5 : decode cX11_doAddExhibit 5 = .ok (.iaload, 1) := by decide +kernel
theorem dX11_doAddExhibit_6 : decode cX11_doAddExhibit 6 = .ok (.istore_n 3, 1) := by decide +kernel
theorem dX11_doAddExhibit_7 : decode cX11_doAddExhibit 7 = .ok (.aload_n 0, 1) := by decide +kernel
theorem dX11_doAddExhibit_8 : decode cX11_doAddExhibit 8 = .ok (.iload_n 1, 1) := by decide +kernel
theorem dX11_doAddExhibit_9 : decode cX11_doAddExhibit 9 = .ok (.invokevirtual 92, 3) := by decide +kernel
theorem dX11_doAddExhibit_12 : decode cX11_doAddExhibit 12 = .ok (.ifCond .ne 9, 3) := by decide +kernel
theorem dX11_doAddExhibit_15 : decode cX11_doAddExhibit 15 = .ok (.aload_n 0, 1) := by decide +kernel
theorem dX11_doAddExhibit_16 : decode cX11_doAddExhibit 16 = .ok (.iconst 1, 1) := by decide +kernel
theorem dX11_doAddExhibit_17 : decode cX11_doAddExhibit 17 = .ok (.invokevirtual 69, 3) := by decide +kernel
theorem dX11_doAddExhibit_20 : decode cX11_doAddExhibit 20 = .ok (.ireturn, 1) := by decide +kernel
theorem dX11_doAddExhibit_21 : decode cX11_doAddExhibit 21 = .ok (.iload_n 2, 1) := by decide +kernel
theorem dX11_doAddExhibit_22 : decode cX11_doAddExhibit 22 = .ok (.iconst 0, 1) := by decide +kernel
theorem dX11_doAddExhibit_23 : decode cX11_doAddExhibit 23 = .ok (.bipush 9, 2) := by decide +kernel
theorem dX11_doAddExhibit_25 : decode cX11_doAddExhibit 25 = .ok (.invokestatic 73, 3) := by decide +kernel
theorem dX11_doAddExhibit_28 : decode cX11_doAddExhibit 28 = .ok (.ifCond .ne 9, 3) := by decide +kernel
theorem dX11_doAddExhibit_31 : decode cX11_doAddExhibit 31 = .ok (.aload_n 0, 1) := by decide +kernel
theorem dX11_doAddExhibit_32 : decode cX11_doAddExhibit 32 = .ok (.iconst 2, 1) := by decide +kernel
theorem dX11_doAddExhibit_33 : decode cX11_doAddExhibit 33 = .ok (.invokevirtual 69, 3) := by decide +kernel
theorem dX11_doAddExhibit_36 : decode cX11_doAddExhibit 36 = .ok (.ireturn, 1) := by decide +kernel
theorem dX11_doAddExhibit_37 : decode cX11_doAddExhibit 37 = .ok (.iload_n 3, 1) := by decide +kernel
theorem dX11_doAddExhibit_38 : decode cX11_doAddExhibit 38 = .ok (.iconst 5, 1) := by decide +kernel
theorem dX11_doAddExhibit_39 : decode cX11_doAddExhibit 39 = .ok (.if_icmp .ne 9, 3) := by decide +kernel
theorem dX11_doAddExhibit_42 : decode cX11_doAddExhibit 42 = .ok (.aload_n 0, 1) := by decide +kernel
theorem dX11_doAddExhibit_43 : decode cX11_doAddExhibit 43 = .ok (.iconst 3, 1) := by decide +kernel
theorem dX11_doAddExhibit_44 : decode cX11_doAddExhibit 44 = .ok (.invokevirtual 69, 3) := by decide +kernel
theorem dX11_doAddExhibit_47 : decode cX11_doAddExhibit 47 = .ok (.ireturn, 1) := by decide +kernel
theorem dX11_doAddExhibit_48 : decode cX11_doAddExhibit 48 = .ok (.iconst 0, 1) := by decide +kernel
theorem dX11_doAddExhibit_49 : decode cX11_doAddExhibit 49 = .ok (.istore 4, 2) := by decide +kernel
theorem dX11_doAddExhibit_51 : decode cX11_doAddExhibit 51 = .ok (.iload 4, 2) := by decide +kernel
theorem dX11_doAddExhibit_53 : decode cX11_doAddExhibit 53 = .ok (.sipush 147, 3) := by decide +kernel
theorem dX11_doAddExhibit_56 : decode cX11_doAddExhibit 56 = .ok (.if_icmp .ge 17, 3) := by decide +kernel
theorem dX11_doAddExhibit_59 : decode cX11_doAddExhibit 59 = .ok (.aload_n 0, 1) := by decide +kernel
theorem dX11_doAddExhibit_60 : decode cX11_doAddExhibit 60 = .ok (.iload_n 3, 1) := by decide +kernel
theorem dX11_doAddExhibit_61 : decode cX11_doAddExhibit 61 = .ok (.iload 4, 2) := by decide +kernel
theorem dX11_doAddExhibit_63 : decode cX11_doAddExhibit 63 = .ok (.iconst 0, 1) := by decide +kernel
theorem dX11_doAddExhibit_64 : decode cX11_doAddExhibit 64 = .ok (.invokevirtual 134, 3) := by decide +kernel
theorem dX11_doAddExhibit_67 : decode cX11_doAddExhibit 67 = .ok (.iinc 4 1, 3) := by decide +kernel
theorem dX11_doAddExhibit_70 : decode cX11_doAddExhibit 70 = .ok (.goto (-19), 3) := by decide +kernel
theorem dX11_doAddExhibit_73 : decode cX11_doAddExhibit 73 = .ok (.aload_n 0, 1) := by decide +kernel
theorem dX11_doAddExhibit_74 : decode cX11_doAddExhibit 74 = .ok (.iload_n 3, 1) := by decide +kernel
theorem dX11_doAddExhibit_75 : decode cX11_doAddExhibit 75 = .ok (.iconst 0, 1) := by decide +kernel
theorem dX11_doAddExhibit_76 : decode cX11_doAddExhibit 76 = .ok (.iload_n 1, 1) := by decide +kernel
theorem dX11_doAddExhibit_77 : decode cX11_doAddExhibit 77 = .ok (.invokevirtual 134, 3) := by decide +kernel
theorem dX11_doAddExhibit_80 : decode cX11_doAddExhibit 80 = .ok (.aload_n 0, 1) := by decide +kernel
theorem dX11_doAddExhibit_81 : decode cX11_doAddExhibit 81 = .ok (.iload_n 3, 1) := by decide +kernel
theorem dX11_doAddExhibit_82 : decode cX11_doAddExhibit 82 = .ok (.iconst 1, 1) := by decide +kernel
theorem dX11_doAddExhibit_83 : decode cX11_doAddExhibit 83 = .ok (.iload_n 2, 1) := by decide +kernel
theorem dX11_doAddExhibit_84 : decode cX11_doAddExhibit 84 = .ok (.invokevirtual 134, 3) := by decide +kernel
theorem dX11_doAddExhibit_87 : decode cX11_doAddExhibit 87 = .ok (.aload_n 0, 1) := by decide +kernel
theorem dX11_doAddExhibit_88 : decode cX11_doAddExhibit 88 = .ok (.getfield 9, 3) := by decide +kernel
theorem dX11_doAddExhibit_91 : decode cX11_doAddExhibit 91 = .ok (.iconst 1, 1) := by decide +kernel
theorem dX11_doAddExhibit_92 : decode cX11_doAddExhibit 92 = .ok (.dup2, 1) := by decide +kernel
theorem dX11_doAddExhibit_93 : decode cX11_doAddExhibit 93 = .ok (.iaload, 1) := by decide +kernel
theorem dX11_doAddExhibit_94 : decode cX11_doAddExhibit 94 = .ok (.iconst 1, 1) := by decide +kernel
theorem dX11_doAddExhibit_95 : decode cX11_doAddExhibit 95 = .ok (.iadd, 1) := by decide +kernel
theorem dX11_doAddExhibit_96 : decode cX11_doAddExhibit 96 = .ok (.iastore, 1) := by decide +kernel
theorem dX11_doAddExhibit_97 : decode cX11_doAddExhibit 97 = .ok (.iload_n 3, 1) := by decide +kernel
theorem dX11_doAddExhibit_98 : decode cX11_doAddExhibit 98 = .ok (.ireturn, 1) := by decide +kernel
abbrev rmX11_doAddExhibit : Room := { frames := 4, cells := 0, slots := 0, locals := 103 }
set_option maxHeartbeats 4000000 in
set_option maxRecDepth 100000 in
theorem metX11_doAddExhibit {l : Launch} {s0 : State} {b B : Nat} {D : va_G} {T : Nat → ClassId} (F : FX l s0 b D T B) {X : Nat → Prop} (hX : ∀ o, o < 12 → ¬ X (B + o)) {N : Nat} {μ : Mem} {a0 : Nat} {a1 : Int32} {a2 : Int32} {r : Mem × Int32} (k0 : IsMo a0) (h : fX11_doAddExhibit N μ a0 a1 a2 = some r) : gMet l yX11_doAddExhibit cX11_doAddExhibit 5 (some .int) rmX11_doAddExhibit [.ref (B + a0), .int a1, .int a2] (gWM D T B μ) (KC s0 X) (some (.int r.2)) (gWM D T B r.1) (gA B X) 0 0 := by
  refine gI_of RX11 (by decide +kernel) rfl (Nat.le_of_ble_eq_true rfl) ?_
  intro p e s m args below meth c ls Q hx hb hlocks hml hown hts hW hk hl hS hend
  have hC := FX_C F hk hx hb hown hts
  have hA := gA_allM hX
  have hl : lv_has ls 5 [(0, .ref (B + a0)), (1, .int a1), (2, .int a2)] := hl
  unfold fX11_doAddExhibit at h
  refine lv_aload_n hx hb dX11_doAddExhibit_0 rfl (lv_at hl 0 rfl) ?_
  refine gw_get (v := .ref (B + (a0 + 1))) hC hW fl_X11_9 k0.1 (k0.2.1 T B (μ a0)) rfl dX11_doAddExhibit_1 ?_
  refine lv_iconst (v := 1) hx hb dX11_doAddExhibit_4 (by decide) ?_
  obtain ⟨v1, e2, hi3, h⟩ := ag_o h
  refine gq_iald hC hW k0.2.2.1.1 (k0.2.2.1.2 T B (μ (a0 + 1))) (t0 := 0) rfl e2 hi3 dX11_doAddExhibit_5 ?_
  refine lv_istore_n (lv' := [(3, .int v1), (0, .ref (B + a0)), (1, .int a1), (2, .int a2)]) hx hb dX11_doAddExhibit_6 rfl hl (by decide) rfl (fun ls hl => ?_)
  refine lv_aload_n hx hb dX11_doAddExhibit_7 rfl (lv_at hl 1 rfl) ?_
  refine lv_iload_n hx hb dX11_doAddExhibit_8 rfl (lv_at hl 2 rfl) ?_
  obtain ⟨r4, hcall, h⟩ := bd_out h
  refine g0_callV (As := [.int a1]) hC hml hS hW (KC_at hk hS F.2.2.2.2) KC_blind (metX11_isRoom F hX k0 hcall) ml_X11_92 (gw_recv hC hW k0.1 (k0.2.1 T B (μ a0)) rfl) ⟨rfl, rfl, Nat.le_of_ble_eq_true rfl, Nat.le_of_ble_eq_true rfl⟩ rfl hl.1 rfl (Nat.le_of_ble_eq_true rfl) dX11_doAddExhibit_9 ⟨Nat.le_of_ble_eq_true rfl, Nat.le_of_ble_eq_true rfl⟩ (fun H locs hW hS => ?_)
  refine gw_if_neZ (tgt := 21) hx hb dX11_doAddExhibit_12 (by decide) (fun c5 => ?_) (fun c5 => ?_)
  · replace h := cond_t c5 h
    refine lv_iload_n hx hb dX11_doAddExhibit_21 rfl (lv_at hl 3 rfl) ?_
    refine lv_iconst (v := 0) hx hb dX11_doAddExhibit_22 (by decide) ?_
    refine lv_bipush (v := 9) hx hb dX11_doAddExhibit_23 (by decide) ?_
    obtain ⟨r6, hcall, h⟩ := bd_out h
    refine g0_callS (As := [.int a2, .int 0, .int 9]) hC hml hS hW (KC_at hk hS F.2.2.2.2) KC_blind (metX11_in F hX  hcall) ml_X11_73 ⟨rfl, rfl, Nat.le_of_ble_eq_true rfl, Nat.le_of_ble_eq_true rfl⟩ rfl hl.1 rfl (Nat.le_of_ble_eq_true rfl) dX11_doAddExhibit_25 ⟨Nat.le_of_ble_eq_true rfl, Nat.le_of_ble_eq_true rfl⟩ (fun H locs hW hS => ?_)
    refine gw_if_neZ (tgt := 37) hx hb dX11_doAddExhibit_28 (by decide) (fun c7 => ?_) (fun c7 => ?_)
    · replace h := cond_t c7 h
      refine lv_iload_n hx hb dX11_doAddExhibit_37 rfl (lv_at hl 0 rfl) ?_
      refine lv_iconst (v := 5) hx hb dX11_doAddExhibit_38 (by decide) ?_
      refine lv_icmp_ne (tgt := 48) hx hb dX11_doAddExhibit_39 (by decide) (fun c8 => ?_) (fun c8 => ?_)
      · replace h := ite_f c8 h
        refine lv_iconst (v := 0) hx hb dX11_doAddExhibit_48 (by decide) ?_
        refine lv_istore (lv' := [(4, .int 0), (3, .int v1), (0, .ref (B + a0)), (1, .int a1), (2, .int a2)]) hx hb dX11_doAddExhibit_49 hl (by decide) rfl (fun ls hl => ?_)
        refine fix2_ind (fun (x9 : Int32) (μ10 : Mem) => ∀ (H : Heap) (locs : List Loc) (ls : Array Slot), gWM D T B μ10 H → va_S (gA B X) s.heap H locs → lv_has ls 5 [(0, .ref (B + a0)), (1, .int a1), (2, .int a2), (3, .int v1), (4, .int x9)] → W p l e rmX11_doAddExhibit s m args below meth c H locs 0 0 Q (F0 m 51 ls [])) ?_ N _ _ h _ _ _ hW hS (lv_sub hl [2, 3, 4, 1, 0] rfl)
        clear h hW hS hl
        intro self11 IH12 x9 μ10 h H locs ls hW hS hl
        refine lv_iload hx hb dX11_doAddExhibit_51 (lv_at hl 4 rfl) ?_
        refine lv_sipush (v := 147) hx hb dX11_doAddExhibit_53 (by decide) ?_
        refine lv_icmp_ge (tgt := 73) hx hb dX11_doAddExhibit_56 (by decide) (fun c13 => ?_) (fun c13 => ?_)
        · replace h := ite_t c13 h
          refine lv_aload_n hx hb dX11_doAddExhibit_73 rfl (lv_at hl 0 rfl) ?_
          refine lv_iload_n hx hb dX11_doAddExhibit_74 rfl (lv_at hl 3 rfl) ?_
          refine lv_iconst (v := 0) hx hb dX11_doAddExhibit_75 (by decide) ?_
          refine lv_iload_n hx hb dX11_doAddExhibit_76 rfl (lv_at hl 1 rfl) ?_
          obtain ⟨r14, hcall, h⟩ := bd_out h
          refine g0_callV (As := [.int v1, .int 0, .int a1]) hC hml hS hW (KC_at hk hS F.2.2.2.2) KC_blind (metX11_sets F hX k0 hcall) ml_X11_134 (gw_recv hC hW k0.1 (k0.2.1 T B (μ10 a0)) rfl) ⟨rfl, rfl, Nat.le_of_ble_eq_true rfl, Nat.le_of_ble_eq_true rfl⟩ rfl hl.1 rfl (Nat.le_of_ble_eq_true rfl) dX11_doAddExhibit_77 ⟨Nat.le_of_ble_eq_true rfl, Nat.le_of_ble_eq_true rfl⟩ (fun H locs hW hS => ?_)
          refine lv_aload_n hx hb dX11_doAddExhibit_80 rfl (lv_at hl 0 rfl) ?_
          refine lv_iload_n hx hb dX11_doAddExhibit_81 rfl (lv_at hl 3 rfl) ?_
          refine lv_iconst (v := 1) hx hb dX11_doAddExhibit_82 (by decide) ?_
          refine lv_iload_n hx hb dX11_doAddExhibit_83 rfl (lv_at hl 2 rfl) ?_
          obtain ⟨r15, hcall, h⟩ := bd_out h
          refine g0_callV (As := [.int v1, .int 1, .int a2]) hC hml hS hW (KC_at hk hS F.2.2.2.2) KC_blind (metX11_sets F hX k0 hcall) ml_X11_134 (gw_recv hC hW k0.1 (k0.2.1 T B (r14 a0)) rfl) ⟨rfl, rfl, Nat.le_of_ble_eq_true rfl, Nat.le_of_ble_eq_true rfl⟩ rfl hl.1 rfl (Nat.le_of_ble_eq_true rfl) dX11_doAddExhibit_84 ⟨Nat.le_of_ble_eq_true rfl, Nat.le_of_ble_eq_true rfl⟩ (fun H locs hW hS => ?_)
          refine lv_aload_n hx hb dX11_doAddExhibit_87 rfl (lv_at hl 0 rfl) ?_
          refine gw_get (v := .ref (B + (a0 + 1))) hC hW fl_X11_9 k0.1 (k0.2.1 T B (r15 a0)) rfl dX11_doAddExhibit_88 ?_
          refine lv_iconst (v := 1) hx hb dX11_doAddExhibit_91 (by decide) ?_
          refine lv_dup2_11 hx hb dX11_doAddExhibit_92 rfl rfl ?_
          obtain ⟨v16, e17, hi18, h⟩ := ag_o h
          refine gq_iald hC hW k0.2.2.1.1 (k0.2.2.1.2 T B (r15 (a0 + 1))) (t0 := 0) rfl e17 hi18 dX11_doAddExhibit_93 ?_
          refine lv_iconst (v := 1) hx hb dX11_doAddExhibit_94 (by decide) ?_
          refine lv_iadd hx hb dX11_doAddExhibit_95 ?_
          obtain ⟨μ19, e20, hi21, h⟩ := aw_o h
          refine gq_iast hC hS hW hA k0.2.2.1.1 (k0.2.2.1.2 T B) (t0 := 0) rfl e20 hi21 dX11_doAddExhibit_96 (fun H locs hW hS => ?_)
          refine lv_iload_n hx hb dX11_doAddExhibit_97 rfl (lv_at hl 3 rfl) ?_
          cases h
          exact hend dX11_doAddExhibit_98 hW hS (Nat.le_of_ble_eq_true rfl) (Nat.le_of_ble_eq_true rfl)
        · replace h := ite_f c13 h
          refine lv_aload_n hx hb dX11_doAddExhibit_59 rfl (lv_at hl 0 rfl) ?_
          refine lv_iload_n hx hb dX11_doAddExhibit_60 rfl (lv_at hl 3 rfl) ?_
          refine lv_iload hx hb dX11_doAddExhibit_61 (lv_at hl 4 rfl) ?_
          refine lv_iconst (v := 0) hx hb dX11_doAddExhibit_63 (by decide) ?_
          obtain ⟨r22, hcall, h⟩ := bd_out h
          refine g0_callV (As := [.int v1, .int x9, .int 0]) hC hml hS hW (KC_at hk hS F.2.2.2.2) KC_blind (metX11_sets F hX k0 hcall) ml_X11_134 (gw_recv hC hW k0.1 (k0.2.1 T B (μ10 a0)) rfl) ⟨rfl, rfl, Nat.le_of_ble_eq_true rfl, Nat.le_of_ble_eq_true rfl⟩ rfl hl.1 rfl (Nat.le_of_ble_eq_true rfl) dX11_doAddExhibit_64 ⟨Nat.le_of_ble_eq_true rfl, Nat.le_of_ble_eq_true rfl⟩ (fun H locs hW hS => ?_)
          obtain ⟨v23, e24, h⟩ := lt_out h
          refine lv_iinc (v := v23) (lv' := [(4, .int v23), (0, .ref (B + a0)), (1, .int a1), (2, .int a2), (3, .int v1)]) hx hb dX11_doAddExhibit_67 hl (k := 4) rfl (by rw [e24]; rfl) (by decide) rfl (fun ls hl => ?_)
          refine lv_goto (tgt := 51) hx hb dX11_doAddExhibit_70 (by decide) ?_
          exact IH12 _ _ h _ _ _ hW hS (lv_sub hl [1, 2, 3, 4, 0] rfl)
      · replace h := ite_t c8 h
        refine lv_aload_n hx hb dX11_doAddExhibit_42 rfl (lv_at hl 1 rfl) ?_
        refine lv_iconst (v := 3) hx hb dX11_doAddExhibit_43 (by decide) ?_
        obtain ⟨r25, hcall, h⟩ := bd_out h
        refine g0_callV (As := [.int 3]) hC hml hS hW (KC_at hk hS F.2.2.2.2) KC_blind (metX11_fails F hX k0 hcall) ml_X11_69 (gw_recv hC hW k0.1 (k0.2.1 T B (μ a0)) rfl) ⟨rfl, rfl, Nat.le_of_ble_eq_true rfl, Nat.le_of_ble_eq_true rfl⟩ rfl hl.1 rfl (Nat.le_of_ble_eq_true rfl) dX11_doAddExhibit_44 ⟨Nat.le_of_ble_eq_true rfl, Nat.le_of_ble_eq_true rfl⟩ (fun H locs hW hS => ?_)
        cases h
        exact hend dX11_doAddExhibit_47 hW hS (Nat.le_of_ble_eq_true rfl) (Nat.le_of_ble_eq_true rfl)
    · replace h := cond_f c7 h
      refine lv_aload_n hx hb dX11_doAddExhibit_31 rfl (lv_at hl 1 rfl) ?_
      refine lv_iconst (v := 2) hx hb dX11_doAddExhibit_32 (by decide) ?_
      obtain ⟨r26, hcall, h⟩ := bd_out h
      refine g0_callV (As := [.int 2]) hC hml hS hW (KC_at hk hS F.2.2.2.2) KC_blind (metX11_fails F hX k0 hcall) ml_X11_69 (gw_recv hC hW k0.1 (k0.2.1 T B (μ a0)) rfl) ⟨rfl, rfl, Nat.le_of_ble_eq_true rfl, Nat.le_of_ble_eq_true rfl⟩ rfl hl.1 rfl (Nat.le_of_ble_eq_true rfl) dX11_doAddExhibit_33 ⟨Nat.le_of_ble_eq_true rfl, Nat.le_of_ble_eq_true rfl⟩ (fun H locs hW hS => ?_)
      cases h
      exact hend dX11_doAddExhibit_36 hW hS (Nat.le_of_ble_eq_true rfl) (Nat.le_of_ble_eq_true rfl)
  · replace h := cond_f c5 h
    refine lv_aload_n hx hb dX11_doAddExhibit_15 rfl (lv_at hl 1 rfl) ?_
    refine lv_iconst (v := 1) hx hb dX11_doAddExhibit_16 (by decide) ?_
    obtain ⟨r27, hcall, h⟩ := bd_out h
    refine g0_callV (As := [.int 1]) hC hml hS hW (KC_at hk hS F.2.2.2.2) KC_blind (metX11_fails F hX k0 hcall) ml_X11_69 (gw_recv hC hW k0.1 (k0.2.1 T B (μ a0)) rfl) ⟨rfl, rfl, Nat.le_of_ble_eq_true rfl, Nat.le_of_ble_eq_true rfl⟩ rfl hl.1 rfl (Nat.le_of_ble_eq_true rfl) dX11_doAddExhibit_17 ⟨Nat.le_of_ble_eq_true rfl, Nat.le_of_ble_eq_true rfl⟩ (fun H locs hW hS => ?_)
    cases h
    exact hend dX11_doAddExhibit_20 hW hS (Nat.le_of_ble_eq_true rfl) (Nat.le_of_ble_eq_true rfl)

theorem dX11_addExhibit_0 : decode cX11_addExhibit 0 = .ok (.aload_n 0, 1) := by decide +kernel
theorem dX11_addExhibit_1 : decode cX11_addExhibit 1 = .ok (.invokevirtual 83, 3) := by decide +kernel
theorem dX11_addExhibit_4 : decode cX11_addExhibit 4 = .ok (.aload_n 0, 1) := by decide +kernel
theorem dX11_addExhibit_5 : decode cX11_addExhibit 5 = .ok (.aload_n 0, 1) := by decide +kernel
theorem dX11_addExhibit_6 : decode cX11_addExhibit 6 = .ok (.iload_n 1, 1) := by decide +kernel
theorem dX11_addExhibit_7 : decode cX11_addExhibit 7 = .ok (.iload_n 2, 1) := by decide +kernel
theorem dX11_addExhibit_8 : decode cX11_addExhibit 8 = .ok (.invokevirtual 138, 3) := by decide +kernel
theorem dX11_addExhibit_11 : decode cX11_addExhibit 11 = .ok (.invokevirtual 89, 3) := by decide +kernel
theorem dX11_addExhibit_14 : decode cX11_addExhibit 14 = .ok (.ireturn, 1) := by decide +kernel
abbrev rmX11_addExhibit : Room := { frames := 5, cells := 0, slots := 0, locals := 127 }
set_option maxHeartbeats 4000000 in
set_option maxRecDepth 100000 in
theorem metX11_addExhibit {l : Launch} {s0 : State} {b B : Nat} {D : va_G} {T : Nat → ClassId} (F : FX l s0 b D T B) {X : Nat → Prop} (hX : ∀ o, o < 12 → ¬ X (B + o)) {N : Nat} {μ : Mem} {a0 : Nat} {a1 : Int32} {a2 : Int32} {r : Mem × Int32} (k0 : IsMo a0) (h : fX11_addExhibit N μ a0 a1 a2 = some r) : gMet l yX11_addExhibit cX11_addExhibit 3 (some .int) rmX11_addExhibit [.ref (B + a0), .int a1, .int a2] (gWM D T B μ) (KC s0 X) (some (.int r.2)) (gWM D T B r.1) (gA B X) 0 0 := by
  refine gI_of RX11 (by decide +kernel) rfl (Nat.le_of_ble_eq_true rfl) ?_
  intro p e s m args below meth c ls Q hx hb hlocks hml hown hts hW hk hl hS hend
  have hC := FX_C F hk hx hb hown hts
  have hA := gA_allM hX
  have hl : lv_has ls 3 [(0, .ref (B + a0)), (1, .int a1), (2, .int a2)] := hl
  unfold fX11_addExhibit at h
  refine lv_aload_n hx hb dX11_addExhibit_0 rfl (lv_at hl 0 rfl) ?_
  obtain ⟨r1, hcall, h⟩ := bd_out h
  refine g0_callV (As := []) hC hml hS hW (KC_at hk hS F.2.2.2.2) KC_blind (metX11_keep F hX k0 hcall) ml_X11_83 (gw_recv hC hW k0.1 (k0.2.1 T B (μ a0)) rfl) ⟨rfl, rfl, Nat.le_of_ble_eq_true rfl, Nat.le_of_ble_eq_true rfl⟩ rfl hl.1 rfl (Nat.le_of_ble_eq_true rfl) dX11_addExhibit_1 ⟨Nat.le_of_ble_eq_true rfl, Nat.le_of_ble_eq_true rfl⟩ (fun H locs hW hS => ?_)
  refine lv_aload_n hx hb dX11_addExhibit_4 rfl (lv_at hl 0 rfl) ?_
  refine lv_aload_n hx hb dX11_addExhibit_5 rfl (lv_at hl 0 rfl) ?_
  refine lv_iload_n hx hb dX11_addExhibit_6 rfl (lv_at hl 1 rfl) ?_
  refine lv_iload_n hx hb dX11_addExhibit_7 rfl (lv_at hl 2 rfl) ?_
  obtain ⟨r2, hcall, h⟩ := bd_out h
  refine g0_callV (As := [.int a1, .int a2]) hC hml hS hW (KC_at hk hS F.2.2.2.2) KC_blind (metX11_doAddExhibit F hX k0 hcall) ml_X11_138 (gw_recv hC hW k0.1 (k0.2.1 T B (r1 a0)) rfl) ⟨rfl, rfl, Nat.le_of_ble_eq_true rfl, Nat.le_of_ble_eq_true rfl⟩ rfl hl.1 rfl (Nat.le_of_ble_eq_true rfl) dX11_addExhibit_8 ⟨Nat.le_of_ble_eq_true rfl, Nat.le_of_ble_eq_true rfl⟩ (fun H locs hW hS => ?_)
  obtain ⟨r3, hcall, h⟩ := bd_out h
  refine g0_callV (As := [.int r2.2]) hC hml hS hW (KC_at hk hS F.2.2.2.2) KC_blind (metX11_ends F hX k0 hcall) ml_X11_89 (gw_recv hC hW k0.1 (k0.2.1 T B (r2.1 a0)) rfl) ⟨rfl, rfl, Nat.le_of_ble_eq_true rfl, Nat.le_of_ble_eq_true rfl⟩ rfl hl.1 rfl (Nat.le_of_ble_eq_true rfl) dX11_addExhibit_11 ⟨Nat.le_of_ble_eq_true rfl, Nat.le_of_ble_eq_true rfl⟩ (fun H locs hW hS => ?_)
  cases h
  exact hend dX11_addExhibit_14 hW hS (Nat.le_of_ble_eq_true rfl) (Nat.le_of_ble_eq_true rfl)

theorem dX11_doSetLimit_0 : decode cX11_doSetLimit 0 = .ok (.aload_n 0, 1) := by decide +kernel
theorem dX11_doSetLimit_1 : decode cX11_doSetLimit 1 = .ok (.iload_n 1, 1) := by decide +kernel
theorem dX11_doSetLimit_2 : decode cX11_doSetLimit 2 = .ok (.invokevirtual 141, 3) := by decide +kernel
theorem dX11_doSetLimit_5 : decode cX11_doSetLimit 5 = .ok (.ifCond .ne 9, 3) := by decide +kernel
theorem dX11_doSetLimit_8 : decode cX11_doSetLimit 8 = .ok (.aload_n 0, 1) := by decide +kernel
theorem dX11_doSetLimit_9 : decode cX11_doSetLimit 9 = .ok (.iconst 1, 1) := by decide +kernel
theorem dX11_doSetLimit_10 : decode cX11_doSetLimit 10 = .ok (.invokevirtual 69, 3) := by decide +kernel
theorem dX11_doSetLimit_13 : decode cX11_doSetLimit 13 = .ok (.ireturn, 1) := by decide +kernel
theorem dX11_doSetLimit_14 : decode cX11_doSetLimit 14 = .ok (.iload_n 2, 1) := by decide +kernel
theorem dX11_doSetLimit_15 : decode cX11_doSetLimit 15 = .ok (.iconst 0, 1) := by decide +kernel
theorem dX11_doSetLimit_16 : decode cX11_doSetLimit 16 = .ok (.bipush 9, 2) := by decide +kernel
theorem dX11_doSetLimit_18 : decode cX11_doSetLimit 18 = .ok (.invokestatic 73, 3) := by decide +kernel
theorem dX11_doSetLimit_21 : decode cX11_doSetLimit 21 = .ok (.ifCond .ne 9, 3) := by decide +kernel
theorem dX11_doSetLimit_24 : decode cX11_doSetLimit 24 = .ok (.aload_n 0, 1) := by decide +kernel
theorem dX11_doSetLimit_25 : decode cX11_doSetLimit 25 = .ok (.iconst 2, 1) := by decide +kernel
theorem dX11_doSetLimit_26 : decode cX11_doSetLimit 26 = .ok (.invokevirtual 69, 3) := by decide +kernel
theorem dX11_doSetLimit_29 : decode cX11_doSetLimit 29 = .ok (.ireturn, 1) := by decide +kernel
theorem dX11_doSetLimit_30 : decode cX11_doSetLimit 30 = .ok (.aload_n 0, 1) := by decide +kernel
theorem dX11_doSetLimit_31 : decode cX11_doSetLimit 31 = .ok (.iload_n 1, 1) := by decide +kernel
theorem dX11_doSetLimit_32 : decode cX11_doSetLimit 32 = .ok (.iconst 1, 1) := by decide +kernel
theorem dX11_doSetLimit_33 : decode cX11_doSetLimit 33 = .ok (.invokevirtual 144, 3) := by decide +kernel
theorem dX11_doSetLimit_36 : decode cX11_doSetLimit 36 = .ok (.istore_n 3, 1) := by decide +kernel
theorem dX11_doSetLimit_37 : decode cX11_doSetLimit 37 = .ok (.aload_n 0, 1) := by decide +kernel
theorem dX11_doSetLimit_38 : decode cX11_doSetLimit 38 = .ok (.iload_n 1, 1) := by decide +kernel
theorem dX11_doSetLimit_39 : decode cX11_doSetLimit 39 = .ok (.iconst 1, 1) := by decide +kernel
theorem dX11_doSetLimit_40 : decode cX11_doSetLimit 40 = .ok (.iload_n 2, 1) := by decide +kernel
theorem dX11_doSetLimit_41 : decode cX11_doSetLimit 41 = .ok (.invokevirtual 134, 3) := by decide +kernel
theorem dX11_doSetLimit_44 : decode cX11_doSetLimit 44 = .ok (.iload_n 3, 1) := by decide +kernel
theorem dX11_doSetLimit_45 : decode cX11_doSetLimit 45 = .ok (.ireturn, 1) := by decide +kernel
abbrev rmX11_doSetLimit : Room := { frames := 4, cells := 0, slots := 0, locals := 103 }
set_option maxHeartbeats 4000000 in
set_option maxRecDepth 100000 in
theorem metX11_doSetLimit {l : Launch} {s0 : State} {b B : Nat} {D : va_G} {T : Nat → ClassId} (F : FX l s0 b D T B) {X : Nat → Prop} (hX : ∀ o, o < 12 → ¬ X (B + o)) {N : Nat} {μ : Mem} {a0 : Nat} {a1 : Int32} {a2 : Int32} {r : Mem × Int32} (k0 : IsMo a0) (h : fX11_doSetLimit N μ a0 a1 a2 = some r) : gMet l yX11_doSetLimit cX11_doSetLimit 4 (some .int) rmX11_doSetLimit [.ref (B + a0), .int a1, .int a2] (gWM D T B μ) (KC s0 X) (some (.int r.2)) (gWM D T B r.1) (gA B X) 0 0 := by
  refine gI_of RX11 (by decide +kernel) rfl (Nat.le_of_ble_eq_true rfl) ?_
  intro p e s m args below meth c ls Q hx hb hlocks hml hown hts hW hk hl hS hend
  have hC := FX_C F hk hx hb hown hts
  have hA := gA_allM hX
  have hl : lv_has ls 4 [(0, .ref (B + a0)), (1, .int a1), (2, .int a2)] := hl
  unfold fX11_doSetLimit at h
  refine lv_aload_n hx hb dX11_doSetLimit_0 rfl (lv_at hl 0 rfl) ?_
  refine lv_iload_n hx hb dX11_doSetLimit_1 rfl (lv_at hl 1 rfl) ?_
  obtain ⟨r1, hcall, h⟩ := bd_out h
  refine g0_callV (As := [.int a1]) hC hml hS hW (KC_at hk hS F.2.2.2.2) KC_blind (metX11_isExhibit F hX k0 hcall) ml_X11_141 (gw_recv hC hW k0.1 (k0.2.1 T B (μ a0)) rfl) ⟨rfl, rfl, Nat.le_of_ble_eq_true rfl, Nat.le_of_ble_eq_true rfl⟩ rfl hl.1 rfl (Nat.le_of_ble_eq_true rfl) dX11_doSetLimit_2 ⟨Nat.le_of_ble_eq_true rfl, Nat.le_of_ble_eq_true rfl⟩ (fun H locs hW hS => ?_)
  refine gw_if_neZ (tgt := 14) hx hb dX11_doSetLimit_5 (by decide) (fun c2 => ?_) (fun c2 => ?_)
  · replace h := cond_t c2 h
    refine lv_iload_n hx hb dX11_doSetLimit_14 rfl (lv_at hl 2 rfl) ?_
    refine lv_iconst (v := 0) hx hb dX11_doSetLimit_15 (by decide) ?_
    refine lv_bipush (v := 9) hx hb dX11_doSetLimit_16 (by decide) ?_
    obtain ⟨r3, hcall, h⟩ := bd_out h
    refine g0_callS (As := [.int a2, .int 0, .int 9]) hC hml hS hW (KC_at hk hS F.2.2.2.2) KC_blind (metX11_in F hX  hcall) ml_X11_73 ⟨rfl, rfl, Nat.le_of_ble_eq_true rfl, Nat.le_of_ble_eq_true rfl⟩ rfl hl.1 rfl (Nat.le_of_ble_eq_true rfl) dX11_doSetLimit_18 ⟨Nat.le_of_ble_eq_true rfl, Nat.le_of_ble_eq_true rfl⟩ (fun H locs hW hS => ?_)
    refine gw_if_neZ (tgt := 30) hx hb dX11_doSetLimit_21 (by decide) (fun c4 => ?_) (fun c4 => ?_)
    · replace h := cond_t c4 h
      refine lv_aload_n hx hb dX11_doSetLimit_30 rfl (lv_at hl 0 rfl) ?_
      refine lv_iload_n hx hb dX11_doSetLimit_31 rfl (lv_at hl 1 rfl) ?_
      refine lv_iconst (v := 1) hx hb dX11_doSetLimit_32 (by decide) ?_
      obtain ⟨r5, hcall, h⟩ := bd_out h
      refine g0_callV (As := [.int a1, .int 1]) hC hml hS hW (KC_at hk hS F.2.2.2.2) KC_blind (metX11_of F hX k0 hcall) ml_X11_144 (gw_recv hC hW k0.1 (k0.2.1 T B (μ a0)) rfl) ⟨rfl, rfl, Nat.le_of_ble_eq_true rfl, Nat.le_of_ble_eq_true rfl⟩ rfl hl.1 rfl (Nat.le_of_ble_eq_true rfl) dX11_doSetLimit_33 ⟨Nat.le_of_ble_eq_true rfl, Nat.le_of_ble_eq_true rfl⟩ (fun H locs hW hS => ?_)
      refine lv_istore_n (lv' := [(3, .int r5), (0, .ref (B + a0)), (1, .int a1), (2, .int a2)]) hx hb dX11_doSetLimit_36 rfl hl (by decide) rfl (fun ls hl => ?_)
      refine lv_aload_n hx hb dX11_doSetLimit_37 rfl (lv_at hl 1 rfl) ?_
      refine lv_iload_n hx hb dX11_doSetLimit_38 rfl (lv_at hl 2 rfl) ?_
      refine lv_iconst (v := 1) hx hb dX11_doSetLimit_39 (by decide) ?_
      refine lv_iload_n hx hb dX11_doSetLimit_40 rfl (lv_at hl 3 rfl) ?_
      obtain ⟨r6, hcall, h⟩ := bd_out h
      refine g0_callV (As := [.int a1, .int 1, .int a2]) hC hml hS hW (KC_at hk hS F.2.2.2.2) KC_blind (metX11_sets F hX k0 hcall) ml_X11_134 (gw_recv hC hW k0.1 (k0.2.1 T B (μ a0)) rfl) ⟨rfl, rfl, Nat.le_of_ble_eq_true rfl, Nat.le_of_ble_eq_true rfl⟩ rfl hl.1 rfl (Nat.le_of_ble_eq_true rfl) dX11_doSetLimit_41 ⟨Nat.le_of_ble_eq_true rfl, Nat.le_of_ble_eq_true rfl⟩ (fun H locs hW hS => ?_)
      refine lv_iload_n hx hb dX11_doSetLimit_44 rfl (lv_at hl 0 rfl) ?_
      cases h
      exact hend dX11_doSetLimit_45 hW hS (Nat.le_of_ble_eq_true rfl) (Nat.le_of_ble_eq_true rfl)
    · replace h := cond_f c4 h
      refine lv_aload_n hx hb dX11_doSetLimit_24 rfl (lv_at hl 0 rfl) ?_
      refine lv_iconst (v := 2) hx hb dX11_doSetLimit_25 (by decide) ?_
      obtain ⟨r7, hcall, h⟩ := bd_out h
      refine g0_callV (As := [.int 2]) hC hml hS hW (KC_at hk hS F.2.2.2.2) KC_blind (metX11_fails F hX k0 hcall) ml_X11_69 (gw_recv hC hW k0.1 (k0.2.1 T B (μ a0)) rfl) ⟨rfl, rfl, Nat.le_of_ble_eq_true rfl, Nat.le_of_ble_eq_true rfl⟩ rfl hl.1 rfl (Nat.le_of_ble_eq_true rfl) dX11_doSetLimit_26 ⟨Nat.le_of_ble_eq_true rfl, Nat.le_of_ble_eq_true rfl⟩ (fun H locs hW hS => ?_)
      cases h
      exact hend dX11_doSetLimit_29 hW hS (Nat.le_of_ble_eq_true rfl) (Nat.le_of_ble_eq_true rfl)
  · replace h := cond_f c2 h
    refine lv_aload_n hx hb dX11_doSetLimit_8 rfl (lv_at hl 0 rfl) ?_
    refine lv_iconst (v := 1) hx hb dX11_doSetLimit_9 (by decide) ?_
    obtain ⟨r8, hcall, h⟩ := bd_out h
    refine g0_callV (As := [.int 1]) hC hml hS hW (KC_at hk hS F.2.2.2.2) KC_blind (metX11_fails F hX k0 hcall) ml_X11_69 (gw_recv hC hW k0.1 (k0.2.1 T B (μ a0)) rfl) ⟨rfl, rfl, Nat.le_of_ble_eq_true rfl, Nat.le_of_ble_eq_true rfl⟩ rfl hl.1 rfl (Nat.le_of_ble_eq_true rfl) dX11_doSetLimit_10 ⟨Nat.le_of_ble_eq_true rfl, Nat.le_of_ble_eq_true rfl⟩ (fun H locs hW hS => ?_)
    cases h
    exact hend dX11_doSetLimit_13 hW hS (Nat.le_of_ble_eq_true rfl) (Nat.le_of_ble_eq_true rfl)

theorem dX11_setLimit_0 : decode cX11_setLimit 0 = .ok (.aload_n 0, 1) := by decide +kernel
theorem dX11_setLimit_1 : decode cX11_setLimit 1 = .ok (.invokevirtual 83, 3) := by decide +kernel
theorem dX11_setLimit_4 : decode cX11_setLimit 4 = .ok (.aload_n 0, 1) := by decide +kernel
theorem dX11_setLimit_5 : decode cX11_setLimit 5 = .ok (.aload_n 0, 1) := by decide +kernel
theorem dX11_setLimit_6 : decode cX11_setLimit 6 = .ok (.iload_n 1, 1) := by decide +kernel
theorem dX11_setLimit_7 : decode cX11_setLimit 7 = .ok (.iload_n 2, 1) := by decide +kernel
theorem dX11_setLimit_8 : decode cX11_setLimit 8 = .ok (.invokevirtual 147, 3) := by decide +kernel
theorem dX11_setLimit_11 : decode cX11_setLimit 11 = .ok (.invokevirtual 89, 3) := by decide +kernel
theorem dX11_setLimit_14 : decode cX11_setLimit 14 = .ok (.ireturn, 1) := by decide +kernel
abbrev rmX11_setLimit : Room := { frames := 5, cells := 0, slots := 0, locals := 126 }
set_option maxHeartbeats 4000000 in
set_option maxRecDepth 100000 in
theorem metX11_setLimit {l : Launch} {s0 : State} {b B : Nat} {D : va_G} {T : Nat → ClassId} (F : FX l s0 b D T B) {X : Nat → Prop} (hX : ∀ o, o < 12 → ¬ X (B + o)) {N : Nat} {μ : Mem} {a0 : Nat} {a1 : Int32} {a2 : Int32} {r : Mem × Int32} (k0 : IsMo a0) (h : fX11_setLimit N μ a0 a1 a2 = some r) : gMet l yX11_setLimit cX11_setLimit 3 (some .int) rmX11_setLimit [.ref (B + a0), .int a1, .int a2] (gWM D T B μ) (KC s0 X) (some (.int r.2)) (gWM D T B r.1) (gA B X) 0 0 := by
  refine gI_of RX11 (by decide +kernel) rfl (Nat.le_of_ble_eq_true rfl) ?_
  intro p e s m args below meth c ls Q hx hb hlocks hml hown hts hW hk hl hS hend
  have hC := FX_C F hk hx hb hown hts
  have hA := gA_allM hX
  have hl : lv_has ls 3 [(0, .ref (B + a0)), (1, .int a1), (2, .int a2)] := hl
  unfold fX11_setLimit at h
  refine lv_aload_n hx hb dX11_setLimit_0 rfl (lv_at hl 0 rfl) ?_
  obtain ⟨r1, hcall, h⟩ := bd_out h
  refine g0_callV (As := []) hC hml hS hW (KC_at hk hS F.2.2.2.2) KC_blind (metX11_keep F hX k0 hcall) ml_X11_83 (gw_recv hC hW k0.1 (k0.2.1 T B (μ a0)) rfl) ⟨rfl, rfl, Nat.le_of_ble_eq_true rfl, Nat.le_of_ble_eq_true rfl⟩ rfl hl.1 rfl (Nat.le_of_ble_eq_true rfl) dX11_setLimit_1 ⟨Nat.le_of_ble_eq_true rfl, Nat.le_of_ble_eq_true rfl⟩ (fun H locs hW hS => ?_)
  refine lv_aload_n hx hb dX11_setLimit_4 rfl (lv_at hl 0 rfl) ?_
  refine lv_aload_n hx hb dX11_setLimit_5 rfl (lv_at hl 0 rfl) ?_
  refine lv_iload_n hx hb dX11_setLimit_6 rfl (lv_at hl 1 rfl) ?_
  refine lv_iload_n hx hb dX11_setLimit_7 rfl (lv_at hl 2 rfl) ?_
  obtain ⟨r2, hcall, h⟩ := bd_out h
  refine g0_callV (As := [.int a1, .int a2]) hC hml hS hW (KC_at hk hS F.2.2.2.2) KC_blind (metX11_doSetLimit F hX k0 hcall) ml_X11_147 (gw_recv hC hW k0.1 (k0.2.1 T B (r1 a0)) rfl) ⟨rfl, rfl, Nat.le_of_ble_eq_true rfl, Nat.le_of_ble_eq_true rfl⟩ rfl hl.1 rfl (Nat.le_of_ble_eq_true rfl) dX11_setLimit_8 ⟨Nat.le_of_ble_eq_true rfl, Nat.le_of_ble_eq_true rfl⟩ (fun H locs hW hS => ?_)
  obtain ⟨r3, hcall, h⟩ := bd_out h
  refine g0_callV (As := [.int r2.2]) hC hml hS hW (KC_at hk hS F.2.2.2.2) KC_blind (metX11_ends F hX k0 hcall) ml_X11_89 (gw_recv hC hW k0.1 (k0.2.1 T B (r2.1 a0)) rfl) ⟨rfl, rfl, Nat.le_of_ble_eq_true rfl, Nat.le_of_ble_eq_true rfl⟩ rfl hl.1 rfl (Nat.le_of_ble_eq_true rfl) dX11_setLimit_11 ⟨Nat.le_of_ble_eq_true rfl, Nat.le_of_ble_eq_true rfl⟩ (fun H locs hW hS => ?_)
  cases h
  exact hend dX11_setLimit_14 hW hS (Nat.le_of_ble_eq_true rfl) (Nat.le_of_ble_eq_true rfl)

theorem dX11_takesPile_0 : decode cX11_takesPile 0 = .ok (.aload_n 0, 1) := by decide +kernel
theorem dX11_takesPile_1 : decode cX11_takesPile 1 = .ok (.getfield 9, 3) := by decide +kernel
theorem dX11_takesPile_4 : decode cX11_takesPile 4 = .ok (.bipush 82, 2) := by decide +kernel
theorem dX11_takesPile_6 : decode cX11_takesPile 6 = .ok (.sipush 147, 3) := by decide +kernel
theorem dX11_takesPile_9 : decode cX11_takesPile 9 = .ok (.iload_n 1, 1) := by decide +kernel
theorem dX11_takesPile_10 : decode cX11_takesPile 10 = .ok (.imul, 1) := by decide +kernel
theorem dX11_takesPile_11 : decode cX11_takesPile 11 = .ok (.iadd, 1) := by decide +kernel
theorem dX11_takesPile_12 : decode cX11_takesPile 12 = .ok (.bipush 7, 2) := by decide +kernel
theorem dX11_takesPile_14 : decode cX11_takesPile 14 = .ok (.iadd, 1) := by decide +kernel
theorem dX11_takesPile_15 : decode cX11_takesPile 15 = .ok (.aload_n 0, 1) := by decide +kernel
theorem dX11_takesPile_16 : decode cX11_takesPile 16 = .ok (.getfield 28, 3) := by decide +kernel
theorem dX11_takesPile_19 : decode cX11_takesPile 19 = .ok (.iconst 0, 1) := by decide +kernel
theorem dX11_takesPile_20 : decode cX11_takesPile 20 = .ok (.bipush 16, 2) := by decide +kernel
theorem dX11_takesPile_22 : decode cX11_takesPile 22 = .ok (.invokestatic 54, 3) := by decide +kernel
theorem dX11_takesPile_25 : decode cX11_takesPile 25 = .ok (.return_, 1) := by decide +kernel
abbrev rmX11_takesPile : Room := { frames := 2, cells := 0, slots := 0, locals := 60 }
set_option maxHeartbeats 4000000 in
set_option maxRecDepth 100000 in
theorem metX11_takesPile {l : Launch} {s0 : State} {b B : Nat} {D : va_G} {T : Nat → ClassId} (F : FX l s0 b D T B) {X : Nat → Prop} (hX : ∀ o, o < 12 → ¬ X (B + o)) {N : Nat} {μ : Mem} {a0 : Nat} {a1 : Int32} {r : Mem} (k0 : IsMo a0) (h : fX11_takesPile N μ a0 a1 = some r) : gMet l yX11_takesPile cX11_takesPile 2 none rmX11_takesPile [.ref (B + a0), .int a1] (gWM D T B μ) (KC s0 X) none (gWM D T B r) (gA B X) 0 0 := by
  refine gV_of RX11 (by decide +kernel) rfl (Nat.le_of_ble_eq_true rfl) ?_
  intro p e s m args below meth c ls Q hx hb hlocks hml hown hts hW hk hl hS hend
  have hC := FX_C F hk hx hb hown hts
  have hA := gA_allM hX
  have hl : lv_has ls 2 [(0, .ref (B + a0)), (1, .int a1)] := hl
  unfold fX11_takesPile at h
  refine lv_aload_n hx hb dX11_takesPile_0 rfl (lv_at hl 0 rfl) ?_
  refine gw_get (v := .ref (B + (a0 + 1))) hC hW fl_X11_9 k0.1 (k0.2.1 T B (μ a0)) rfl dX11_takesPile_1 ?_
  refine lv_bipush (v := 82) hx hb dX11_takesPile_4 (by decide) ?_
  refine lv_sipush (v := 147) hx hb dX11_takesPile_6 (by decide) ?_
  refine lv_iload_n hx hb dX11_takesPile_9 rfl (lv_at hl 1 rfl) ?_
  refine lv_imul hx hb dX11_takesPile_10 ?_
  refine lv_iadd hx hb dX11_takesPile_11 ?_
  refine lv_bipush (v := 7) hx hb dX11_takesPile_12 (by decide) ?_
  refine lv_iadd hx hb dX11_takesPile_14 ?_
  refine lv_aload_n hx hb dX11_takesPile_15 rfl (lv_at hl 0 rfl) ?_
  refine gw_get (v := .ref (B + (a0 + 7))) hC hW fl_X11_28 k0.1 (k0.2.1 T B (μ a0)) rfl dX11_takesPile_16 ?_
  refine lv_iconst (v := 0) hx hb dX11_takesPile_19 (by decide) ?_
  refine lv_bipush (v := 16) hx hb dX11_takesPile_20 (by decide) ?_
  obtain ⟨μ1, e2, hc3, h⟩ := acp_o h
  refine gw_copy hC (hml.trans hl.1.symm) lm_X11_54 lb_copy.1 lb_copy.2.1 lb_copy.2.2 hS hW hA k0.2.2.1.1 k0.2.2.2.2.2.2.2.2.1.1 (k0.2.2.1.2 T B) (k0.2.2.2.2.2.2.2.2.1.2 T B) (t0 := 0) rfl e2 hc3 (Nat.le_of_ble_eq_true rfl) (Nat.le_of_ble_eq_true rfl) dX11_takesPile_22 (fun H locs hW hS => ?_)
  cases h
  exact hend dX11_takesPile_25 hW hS (Nat.le_of_ble_eq_true rfl) (Nat.le_of_ble_eq_true rfl)

theorem dX11_beside_0 : decode cX11_beside 0 = .ok (.iload_n 0, 1) := by decide +kernel
theorem dX11_beside_1 : decode cX11_beside 1 = .ok (.iconst 4, 1) := by decide +kernel
theorem dX11_beside_2 : decode cX11_beside 2 = .ok (.irem, 1) := by decide +kernel
theorem dX11_beside_3 : decode cX11_beside 3 = .ok (.iload_n 1, 1) := by decide +kernel
theorem dX11_beside_4 : decode cX11_beside 4 = .ok (.ifCond .ne 7, 3) := by decide +kernel
theorem dX11_beside_7 : decode cX11_beside 7 = .ok (.iconst 1, 1) := by decide +kernel
theorem dX11_beside_8 : decode cX11_beside 8 = .ok (.goto 13, 3) := by decide +kernel
theorem dX11_beside_11 : decode cX11_beside 11 = .ok (.iload_n 1, 1) := by decide +kernel
theorem dX11_beside_12 : decode cX11_beside 12 = .ok (.iconst 1, 1) := by decide +kernel
theorem dX11_beside_13 : decode cX11_beside 13 = .ok (.if_icmp .ne 7, 3) := by decide +kernel
theorem dX11_beside_16 : decode cX11_beside 16 = .ok (.iconst (-1), 1) := by decide +kernel
theorem dX11_beside_17 : decode cX11_beside 17 = .ok (.goto 4, 3) := by decide +kernel
theorem dX11_beside_20 : decode cX11_beside 20 = .ok (.iconst 0, 1) := by decide +kernel
theorem dX11_beside_21 : decode cX11_beside 21 = .ok (.iadd, 1) := by decide +kernel
theorem dX11_beside_22 : decode cX11_beside 22 = .ok (.istore_n 2, 1) := by decide +kernel
theorem dX11_beside_23 : decode cX11_beside 23 = .ok (.iload_n 0, 1) := by decide +kernel
theorem dX11_beside_24 : decode cX11_beside 24 = .ok (.iconst 4, 1) := by decide +kernel
theorem dX11_beside_25 : decode cX11_beside 25 = .ok (.idiv, 1) := by decide +kernel
theorem dX11_beside_26 : decode cX11_beside 26 = .ok (.iload_n 1, 1) := by decide +kernel
theorem dX11_beside_27 : decode cX11_beside 27 = .ok (.iconst 2, 1) := by decide +kernel
theorem dX11_beside_28 : decode cX11_beside 28 = .ok (.if_icmp .ne 7, 3) := by decide +kernel
theorem dX11_beside_31 : decode cX11_beside 31 = .ok (.iconst 1, 1) := by decide +kernel
theorem dX11_beside_32 : decode cX11_beside 32 = .ok (.goto 13, 3) := by decide +kernel
theorem dX11_beside_35 : decode cX11_beside 35 = .ok (.iload_n 1, 1) := by decide +kernel
theorem dX11_beside_36 : decode cX11_beside 36 = .ok (.iconst 3, 1) := by decide +kernel
theorem dX11_beside_37 : decode cX11_beside 37 = .ok (.if_icmp .ne 7, 3) := by decide +kernel
theorem dX11_beside_40 : decode cX11_beside 40 = .ok (.iconst (-1), 1) := by decide +kernel
theorem dX11_beside_41 : decode cX11_beside 41 = .ok (.goto 4, 3) := by decide +kernel
theorem dX11_beside_44 : decode cX11_beside 44 = .ok (.iconst 0, 1) := by decide +kernel
theorem dX11_beside_45 : decode cX11_beside 45 = .ok (.iadd, 1) := by decide +kernel
theorem dX11_beside_46 : decode cX11_beside 46 = .ok (.istore_n 3, 1) := by decide +kernel
theorem dX11_beside_47 : decode cX11_beside 47 = .ok (.iload_n 2, 1) := by decide +kernel
theorem dX11_beside_48 : decode cX11_beside 48 = .ok (.iconst 0, 1) := by decide +kernel
theorem dX11_beside_49 : decode cX11_beside 49 = .ok (.iconst 3, 1) := by decide +kernel
theorem dX11_beside_50 : decode cX11_beside 50 = .ok (.invokestatic 73, 3) := by decide +kernel
theorem dX11_beside_53 : decode cX11_beside 53 = .ok (.ifCond .eq 20, 3) := by decide +kernel
theorem dX11_beside_56 : decode cX11_beside 56 = .ok (.iload_n 3, 1) := by decide +kernel
theorem dX11_beside_57 : decode cX11_beside 57 = .ok (.iconst 0, 1) := by decide +kernel
theorem dX11_beside_58 : decode cX11_beside 58 = .ok (.iconst 3, 1) := by decide +kernel
theorem dX11_beside_59 : decode cX11_beside 59 = .ok (.invokestatic 73, 3) := by decide +kernel
theorem dX11_beside_62 : decode cX11_beside 62 = .ok (.ifCond .eq 11, 3) := by decide +kernel
theorem dX11_beside_65 : decode cX11_beside 65 = .ok (.iconst 4, 1) := by decide +kernel
theorem dX11_beside_66 : decode cX11_beside 66 = .ok (.iload_n 3, 1) := by decide +kernel
theorem dX11_beside_67 : decode cX11_beside 67 = .ok (.imul, 1) := by decide +kernel
theorem dX11_beside_68 : decode cX11_beside 68 = .ok (.iload_n 2, 1) := by decide +kernel
theorem dX11_beside_69 : decode cX11_beside 69 = .ok (.iadd, 1) := by decide +kernel
theorem dX11_beside_70 : decode cX11_beside 70 = .ok (.goto 4, 3) := by decide +kernel
theorem dX11_beside_73 : decode cX11_beside 73 = .ok (.iconst (-1), 1) := by decide +kernel
theorem dX11_beside_74 : decode cX11_beside 74 = .ok (.ireturn, 1) := by decide +kernel
abbrev rmX11_beside : Room := { frames := 3, cells := 0, slots := 0, locals := 82 }
set_option maxHeartbeats 4000000 in
set_option maxRecDepth 100000 in
theorem metX11_beside {l : Launch} {s0 : State} {b B : Nat} {D : va_G} {T : Nat → ClassId} (F : FX l s0 b D T B) {X : Nat → Prop} (hX : ∀ o, o < 12 → ¬ X (B + o)) {N : Nat} {μ : Mem} {a0 : Int32} {a1 : Int32} {r : Int32}  (h : fX11_beside N μ a0 a1 = some r) : gMet l yX11_beside cX11_beside 4 (some .int) rmX11_beside [.int a0, .int a1] (gWM D T B μ) (KC s0 X) (some (.int r)) (gWM D T B μ) (gA B X) 0 0 := by
  refine gI_of RX11 (by decide +kernel) rfl (Nat.le_of_ble_eq_true rfl) ?_
  intro p e s m args below meth c ls Q hx hb hlocks hml hown hts hW hk hl hS hend
  have hC := FX_C F hk hx hb hown hts
  have hA := gA_allM hX
  have hl : lv_has ls 4 [(0, .int a0), (1, .int a1)] := hl
  unfold fX11_beside at h
  refine lv_iload_n hx hb dX11_beside_0 rfl (lv_at hl 0 rfl) ?_
  refine lv_iconst (v := 4) hx hb dX11_beside_1 (by decide) ?_
  refine lv_irem hx hb dX11_beside_2 (by decide) ?_
  refine lv_iload_n hx hb dX11_beside_3 rfl (lv_at hl 1 rfl) ?_
  obtain ⟨j2, hj4, h⟩ := jn1_o h
  have J3 : ∀ (y1 : Int32), j2 y1 = some r → ∀ (H : Heap) (locs : List Loc) (ls : Array Slot), gWM D T B μ H → va_S (gA B X) s.heap H locs → lv_has ls 4 [(0, .int a0), (1, .int a1)] → W p l e rmX11_beside s m args below meth c H locs 0 0 Q (F0 m 21 ls [.int y1, .int (a0 - a0 / 4 * 4)]) := by
    clear h hW hS hl
    intro y1 h H locs ls hW hS hl
    replace h := (hj4 y1).symm.trans h
    refine lv_iadd hx hb dX11_beside_21 ?_
    obtain ⟨v5, e6, h⟩ := lt_out h
    rw [← e6]
    refine lv_istore_n (lv' := [(2, .int v5), (0, .int a0), (1, .int a1)]) hx hb dX11_beside_22 rfl hl (by decide) rfl (fun ls hl => ?_)
    refine lv_iload_n hx hb dX11_beside_23 rfl (lv_at hl 1 rfl) ?_
    refine lv_iconst (v := 4) hx hb dX11_beside_24 (by decide) ?_
    refine lv_idiv hx hb dX11_beside_25 (by decide) ?_
    refine lv_iload_n hx hb dX11_beside_26 rfl (lv_at hl 2 rfl) ?_
    refine lv_iconst (v := 2) hx hb dX11_beside_27 (by decide) ?_
    obtain ⟨j8, hj10, h⟩ := jn1_o h
    have J9 : ∀ (y7 : Int32), j8 y7 = some r → ∀ (H : Heap) (locs : List Loc) (ls : Array Slot), gWM D T B μ H → va_S (gA B X) s.heap H locs → lv_has ls 4 [(2, .int v5)] → W p l e rmX11_beside s m args below meth c H locs 0 0 Q (F0 m 45 ls [.int y7, .int (a0 / 4)]) := by
      clear h hW hS hl
      intro y7 h H locs ls hW hS hl
      replace h := (hj10 y7).symm.trans h
      refine lv_iadd hx hb dX11_beside_45 ?_
      obtain ⟨v11, e12, h⟩ := lt_out h
      rw [← e12]
      refine lv_istore_n (lv' := [(3, .int v11), (2, .int v5)]) hx hb dX11_beside_46 rfl hl (by decide) rfl (fun ls hl => ?_)
      refine lv_iload_n hx hb dX11_beside_47 rfl (lv_at hl 1 rfl) ?_
      refine lv_iconst (v := 0) hx hb dX11_beside_48 (by decide) ?_
      refine lv_iconst (v := 3) hx hb dX11_beside_49 (by decide) ?_
      obtain ⟨r13, hcall, h⟩ := bd_out h
      refine g0_callS (As := [.int v5, .int 0, .int 3]) hC hml hS hW (KC_at hk hS F.2.2.2.2) KC_blind (metX11_in F hX  hcall) ml_X11_73 ⟨rfl, rfl, Nat.le_of_ble_eq_true rfl, Nat.le_of_ble_eq_true rfl⟩ rfl hl.1 rfl (Nat.le_of_ble_eq_true rfl) dX11_beside_50 ⟨Nat.le_of_ble_eq_true rfl, Nat.le_of_ble_eq_true rfl⟩ (fun H locs hW hS => ?_)
      obtain ⟨j15, hj17, h⟩ := jn1_o h
      have J16 : ∀ (y14 : Int32), j15 y14 = some r → ∀ (H : Heap) (locs : List Loc) (ls : Array Slot), gWM D T B μ H → va_S (gA B X) s.heap H locs → lv_has ls 4 [] → W p l e rmX11_beside s m args below meth c H locs 0 0 Q (F0 m 74 ls [.int y14]) := by
        clear h hW hS hl
        intro y14 h H locs ls hW hS hl
        replace h := (hj17 y14).symm.trans h
        cases h
        exact hend dX11_beside_74 hW hS (Nat.le_of_ble_eq_true rfl) (Nat.le_of_ble_eq_true rfl)
      obtain ⟨j19, hj21, h⟩ := jn1_o h
      have J20 : ∀ (u18 : Unit), j19 u18 = some r → ∀ (H : Heap) (locs : List Loc) (ls : Array Slot), gWM D T B μ H → va_S (gA B X) s.heap H locs → lv_has ls 4 [] → W p l e rmX11_beside s m args below meth c H locs 0 0 Q (F0 m 73 ls []) := by
        clear h hW hS hl
        intro u18 h H locs ls hW hS hl
        replace h := (hj21 u18).symm.trans h
        refine lv_iconst (v := (-1)) hx hb dX11_beside_73 (by decide) ?_
        exact J16 _ h _ _ _ hW hS (lv_sub hl [] rfl)
      refine gw_if_eqZ (tgt := 73) hx hb dX11_beside_53 (by decide) (fun c22 => ?_) (fun c22 => ?_)
      · replace h := cond_f c22 h
        exact J20 _ h _ _ _ hW hS (lv_sub hl [] rfl)
      · replace h := cond_t c22 h
        refine lv_iload_n hx hb dX11_beside_56 rfl (lv_at hl 0 rfl) ?_
        refine lv_iconst (v := 0) hx hb dX11_beside_57 (by decide) ?_
        refine lv_iconst (v := 3) hx hb dX11_beside_58 (by decide) ?_
        obtain ⟨r23, hcall, h⟩ := bd_out h
        refine g0_callS (As := [.int v11, .int 0, .int 3]) hC hml hS hW (KC_at hk hS F.2.2.2.2) KC_blind (metX11_in F hX  hcall) ml_X11_73 ⟨rfl, rfl, Nat.le_of_ble_eq_true rfl, Nat.le_of_ble_eq_true rfl⟩ rfl hl.1 rfl (Nat.le_of_ble_eq_true rfl) dX11_beside_59 ⟨Nat.le_of_ble_eq_true rfl, Nat.le_of_ble_eq_true rfl⟩ (fun H locs hW hS => ?_)
        refine gw_if_eqZ (tgt := 73) hx hb dX11_beside_62 (by decide) (fun c24 => ?_) (fun c24 => ?_)
        · replace h := cond_f c24 h
          exact J20 _ h _ _ _ hW hS (lv_sub hl [] rfl)
        · replace h := cond_t c24 h
          refine lv_iconst (v := 4) hx hb dX11_beside_65 (by decide) ?_
          refine lv_iload_n hx hb dX11_beside_66 rfl (lv_at hl 0 rfl) ?_
          refine lv_imul hx hb dX11_beside_67 ?_
          refine lv_iload_n hx hb dX11_beside_68 rfl (lv_at hl 1 rfl) ?_
          refine lv_iadd hx hb dX11_beside_69 ?_
          refine lv_goto (tgt := 74) hx hb dX11_beside_70 (by decide) ?_
          exact J16 _ h _ _ _ hW hS (lv_sub hl [] rfl)
    refine lv_icmp_ne (tgt := 35) hx hb dX11_beside_28 (by decide) (fun c25 => ?_) (fun c25 => ?_)
    · replace h := ite_f c25 h
      refine lv_iload_n hx hb dX11_beside_35 rfl (lv_at hl 2 rfl) ?_
      refine lv_iconst (v := 3) hx hb dX11_beside_36 (by decide) ?_
      refine lv_icmp_ne (tgt := 44) hx hb dX11_beside_37 (by decide) (fun c26 => ?_) (fun c26 => ?_)
      · replace h := ite_f c26 h
        refine lv_iconst (v := 0) hx hb dX11_beside_44 (by decide) ?_
        exact J9 _ h _ _ _ hW hS (lv_sub hl [0] rfl)
      · replace h := ite_t c26 h
        refine lv_iconst (v := (-1)) hx hb dX11_beside_40 (by decide) ?_
        refine lv_goto (tgt := 45) hx hb dX11_beside_41 (by decide) ?_
        exact J9 _ h _ _ _ hW hS (lv_sub hl [0] rfl)
    · replace h := ite_t c25 h
      refine lv_iconst (v := 1) hx hb dX11_beside_31 (by decide) ?_
      refine lv_goto (tgt := 45) hx hb dX11_beside_32 (by decide) ?_
      exact J9 _ h _ _ _ hW hS (lv_sub hl [0] rfl)
  refine lv_if_ne (tgt := 11) hx hb dX11_beside_4 (by decide) (fun c27 => ?_) (fun c27 => ?_)
  · replace h := ite_f c27 h
    refine lv_iload_n hx hb dX11_beside_11 rfl (lv_at hl 1 rfl) ?_
    refine lv_iconst (v := 1) hx hb dX11_beside_12 (by decide) ?_
    refine lv_icmp_ne (tgt := 20) hx hb dX11_beside_13 (by decide) (fun c28 => ?_) (fun c28 => ?_)
    · replace h := ite_f c28 h
      refine lv_iconst (v := 0) hx hb dX11_beside_20 (by decide) ?_
      exact J3 _ h _ _ _ hW hS (lv_sub hl [0, 1] rfl)
    · replace h := ite_t c28 h
      refine lv_iconst (v := (-1)) hx hb dX11_beside_16 (by decide) ?_
      refine lv_goto (tgt := 21) hx hb dX11_beside_17 (by decide) ?_
      exact J3 _ h _ _ _ hW hS (lv_sub hl [0, 1] rfl)
  · replace h := ite_t c27 h
    refine lv_iconst (v := 1) hx hb dX11_beside_7 (by decide) ?_
    refine lv_goto (tgt := 21) hx hb dX11_beside_8 (by decide) ?_
    exact J3 _ h _ _ _ hW hS (lv_sub hl [0, 1] rfl)

theorem dX11_settles_0 : decode cX11_settles 0 = .ok (.iconst 0, 1) := by decide +kernel
theorem dX11_settles_1 : decode cX11_settles 1 = .ok (.istore_n 1, 1) := by decide +kernel
theorem dX11_settles_2 : decode cX11_settles 2 = .ok (.aload_n 0, 1) := by decide +kernel
theorem dX11_settles_3 : decode cX11_settles 3 = .ok (.iconst 0, 1) := by decide +kernel
theorem dX11_settles_4 : decode cX11_settles 4 = .ok (.putfield 150, 3) := by decide +kernel
theorem dX11_settles_7 : decode cX11_settles 7 = .ok (.iconst 0, 1) := by decide +kernel
theorem dX11_settles_8 : decode cX11_settles 8 = .ok (.istore_n 2, 1) := by decide +kernel
theorem dX11_settles_9 : decode cX11_settles 9 = .ok (.iload_n 2, 1) := by decide +kernel
theorem dX11_settles_10 : decode cX11_settles 10 = .ok (.bipush 16, 2) := by decide +kernel
theorem dX11_settles_12 : decode cX11_settles 12 = .ok (.if_icmp .ge 16, 3) := by decide +kernel
theorem dX11_settles_15 : decode cX11_settles 15 = .ok (.aload_n 0, 1) := by decide +kernel
theorem dX11_settles_16 : decode cX11_settles 16 = .ok (.getfield 31, 3) := by decide +kernel
theorem dX11_settles_19 : decode cX11_settles 19 = .ok (.iload_n 2, 1) := by decide +kernel
theorem dX11_settles_20 : decode cX11_settles 20 = .ok (.iconst 0, 1) := by decide +kernel
theorem dX11_settles_21 : decode cX11_settles 21 = .ok (.iastore, 1) := by decide +kernel
theorem dX11_settles_22 : decode cX11_settles 22 = .ok (.iinc 2 1, 3) := by decide +kernel
theorem dX11_settles_25 : decode cX11_settles 25 = .ok (.goto (-16), 3) := by decide +kernel
theorem dX11_settles_28 : decode cX11_settles 28 = .ok (.iconst 0, 1) := by decide +kernel
theorem dX11_settles_29 : decode cX11_settles 29 = .ok (.istore_n 2, 1) := by decide +kernel
theorem dX11_settles_30 : decode cX11_settles 30 = .ok (.iload_n 2, 1) := by decide +kernel
theorem dX11_settles_31 : decode cX11_settles 31 = .ok (.bipush 16, 2) := by decide +kernel
theorem dX11_settles_33 : decode cX11_settles 33 = .ok (.if_icmp .ge 136, 3) := by decide +kernel
theorem dX11_settles_36 : decode cX11_settles 36 = .ok (.aload_n 0, 1) := by decide +kernel
theorem dX11_settles_37 : decode cX11_settles 37 = .ok (.getfield 28, 3) := by decide +kernel
theorem dX11_settles_40 : decode cX11_settles 40 = .ok (.iload_n 2, 1) := by decide +kernel
theorem dX11_settles_41 : decode cX11_settles 41 = .ok (.iaload, 1) := by decide +kernel
theorem dX11_settles_42 : decode cX11_settles 42 = .ok (.iconst 4, 1) := by decide +kernel
theorem dX11_settles_43 : decode cX11_settles 43 = .ok (.if_icmp .lt 7, 3) := by decide +kernel
theorem dX11_settles_46 : decode cX11_settles 46 = .ok (.iconst 1, 1) := by decide +kernel
theorem dX11_settles_47 : decode cX11_settles 47 = .ok (.goto 4, 3) := by decide +kernel
theorem dX11_settles_50 : decode cX11_settles 50 = .ok (.iconst 0, 1) := by decide +kernel
theorem dX11_settles_51 : decode cX11_settles 51 = .ok (.istore_n 3, 1) := by decide +kernel
theorem dX11_settles_52 : decode cX11_settles 52 = .ok (.iconst 0, 1) := by decide +kernel
theorem dX11_settles_53 : decode cX11_settles 53 = .ok (.istore 4, 2) := by decide +kernel
theorem dX11_settles_55 : decode cX11_settles 55 = .ok (.iload 4, 2) := by decide +kernel
theorem dX11_settles_57 : decode cX11_settles 57 = .ok (.iconst 4, 1) := by decide +kernel
theorem dX11_settles_58 : decode cX11_settles 58 = .ok (.if_icmp .ge 66, 3) := by decide +kernel
theorem dX11_settles_61 : decode cX11_settles 61 = .ok (.iload_n 3, 1) := by decide +kernel
theorem dX11_settles_62 : decode cX11_settles 62 = .ok (.ifCond .eq 62, 3) := by decide +kernel
theorem dX11_settles_65 : decode cX11_settles 65 = .ok (.iload_n 2, 1) := by decide +kernel
theorem dX11_settles_66 : decode cX11_settles 66 = .ok (.iload 4, 2) := by decide +kernel
theorem dX11_settles_68 : decode cX11_settles 68 = .ok (.invokestatic 153, 3) := by decide +kernel
theorem dX11_settles_71 : decode cX11_settles 71 = .ok (.istore 5, 2) := by decide +kernel
theorem dX11_settles_73 : decode cX11_settles 73 = .ok (.aload_n 0, 1) := by decide +kernel
theorem dX11_settles_74 : decode cX11_settles 74 = .ok (.getfield 28, 3) := by decide +kernel
theorem dX11_settles_77 : decode cX11_settles 77 = .ok (.iload_n 2, 1) := by decide +kernel
theorem dX11_settles_78 : decode cX11_settles 78 = .ok (.dup2, 1) := by decide +kernel
theorem dX11_settles_79 : decode cX11_settles 79 = .ok (.iaload, 1) := by decide +kernel
theorem dX11_settles_80 : decode cX11_settles 80 = .ok (.iconst 1, 1) := by decide +kernel
theorem dX11_settles_81 : decode cX11_settles 81 = .ok (.isub, 1) := by decide +kernel
theorem dX11_settles_82 : decode cX11_settles 82 = .ok (.iastore, 1) := by decide +kernel
theorem dX11_settles_83 : decode cX11_settles 83 = .ok (.aload_n 0, 1) := by decide +kernel
theorem dX11_settles_84 : decode cX11_settles 84 = .ok (.dup, 1) := by decide +kernel
theorem dX11_settles_85 : decode cX11_settles 85 = .ok (.getfield 150, 3) := by decide +kernel
theorem dX11_settles_88 : decode cX11_settles 88 = .ok (.iload 5, 2) := by decide +kernel
theorem dX11_settles_90 : decode cX11_settles 90 = .ok (.ifCond .ge 7, 3) := by decide +kernel
theorem dX11_settles_93 : decode cX11_settles 93 = .ok (.iconst 1, 1) := by decide +kernel
theorem dX11_settles_94 : decode cX11_settles 94 = .ok (.goto 4, 3) := by decide +kernel
theorem dX11_settles_97 : decode cX11_settles 97 = .ok (.iconst 0, 1) := by decide +kernel
theorem dX11_settles_98 : decode cX11_settles 98 = .ok (.iadd, 1) := by decide +kernel
theorem dX11_settles_99 : decode cX11_settles 99 = .ok (.putfield 150, 3) := by decide +kernel
theorem dX11_settles_102 : decode cX11_settles 102 = .ok (.iload 5, 2) := by decide +kernel
theorem dX11_settles_104 : decode cX11_settles 104 = .ok (.ifCond .lt 14, 3) := by decide +kernel
theorem dX11_settles_107 : decode cX11_settles 107 = .ok (.aload_n 0, 1) := by decide +kernel
theorem dX11_settles_108 : decode cX11_settles 108 = .ok (.getfield 28, 3) := by decide +kernel
theorem dX11_settles_111 : decode cX11_settles 111 = .ok (.iload 5, 2) := by decide +kernel
theorem dX11_settles_113 : decode cX11_settles 113 = .ok (.dup2, 1) := by decide +kernel
theorem dX11_settles_114 : decode cX11_settles 114 = .ok (.iaload, 1) := by decide +kernel
theorem dX11_settles_115 : decode cX11_settles 115 = .ok (.iconst 1, 1) := by decide +kernel
theorem dX11_settles_116 : decode cX11_settles 116 = .ok (.iadd, 1) := by decide +kernel
theorem dX11_settles_117 : decode cX11_settles 117 = .ok (.iastore, 1) := by decide +kernel
theorem dX11_settles_118 : decode cX11_settles 118 = .ok (.iinc 4 1, 3) := by decide +kernel
theorem dX11_settles_121 : decode cX11_settles 121 = .ok (.goto (-66), 3) := by decide +kernel
theorem dX11_settles_124 : decode cX11_settles 124 = .ok (.aload_n 0, 1) := by decide +kernel
theorem dX11_settles_125 : decode cX11_settles 125 = .ok (.getfield 31, 3) := by decide +kernel
theorem dX11_settles_128 : decode cX11_settles 128 = .ok (.iload_n 2, 1) := by decide +kernel
theorem dX11_settles_129 : decode cX11_settles 129 = .ok (.dup2, 1) := by decide +kernel
theorem dX11_settles_130 : decode cX11_settles 130 = .ok (.iaload, 1) := by decide +kernel
theorem dX11_settles_131 : decode cX11_settles 131 = .ok (.iload_n 3, 1) := by decide +kernel
theorem dX11_settles_132 : decode cX11_settles 132 = .ok (.ifCond .eq 7, 3) := by decide +kernel
theorem dX11_settles_135 : decode cX11_settles 135 = .ok (.iconst 1, 1) := by decide +kernel
theorem dX11_settles_136 : decode cX11_settles 136 = .ok (.goto 4, 3) := by decide +kernel
theorem dX11_settles_139 : decode cX11_settles 139 = .ok (.iconst 0, 1) := by decide +kernel
theorem dX11_settles_140 : decode cX11_settles 140 = .ok (.iadd, 1) := by decide +kernel
theorem dX11_settles_141 : decode cX11_settles 141 = .ok (.iastore, 1) := by decide +kernel
theorem dX11_settles_142 : decode cX11_settles 142 = .ok (.iload_n 1, 1) := by decide +kernel
theorem dX11_settles_143 : decode cX11_settles 143 = .ok (.iload_n 3, 1) := by decide +kernel
theorem dX11_settles_144 : decode cX11_settles 144 = .ok (.ifCond .eq 7, 3) := by decide +kernel
theorem dX11_settles_147 : decode cX11_settles 147 = .ok (.iconst 1, 1) := by decide +kernel
theorem dX11_settles_148 : decode cX11_settles 148 = .ok (.goto 4, 3) := by decide +kernel
theorem dX11_settles_151 : decode cX11_settles 151 = .ok (.iconst 0, 1) := by decide +kernel
theorem dX11_settles_152 : decode cX11_settles 152 = .ok (.iadd, 1) := by decide +kernel
theorem dX11_settles_153 : decode cX11_settles 153 = .ok (.istore_n 1, 1) := by decide +kernel
theorem dX11_settles_154 : decode cX11_settles 154 = .ok (.iload_n 3, 1) := by decide +kernel
theorem dX11_settles_155 : decode cX11_settles 155 = .ok (.ifCond .eq 7, 3) := by decide +kernel
theorem dX11_settles_158 : decode cX11_settles 158 = .ok (.iconst 0, 1) := by decide +kernel
theorem dX11_settles_159 : decode cX11_settles 159 = .ok (.goto 6, 3) := by decide +kernel
theorem dX11_settles_162 : decode cX11_settles 162 = .ok (.iload_n 2, 1) := by decide +kernel
theorem dX11_settles_163 : decode cX11_settles 163 = .ok (.iconst 1, 1) := by decide +kernel
theorem dX11_settles_164 : decode cX11_settles 164 = .ok (.iadd, 1) := by decide +kernel
theorem dX11_settles_165 : decode cX11_settles 165 = .ok (.istore_n 2, 1) := by decide +kernel
theorem dX11_settles_166 : decode cX11_settles 166 = .ok (.goto (-136), 3) := by decide +kernel
theorem dX11_settles_169 : decode cX11_settles 169 = .ok (.iload_n 1, 1) := by decide +kernel
theorem dX11_settles_170 : decode cX11_settles 170 = .ok (.ireturn, 1) := by decide +kernel
abbrev rmX11_settles : Room := { frames := 4, cells := 0, slots := 0, locals := 105 }
set_option maxHeartbeats 4000000 in
set_option maxRecDepth 100000 in
theorem metX11_settles {l : Launch} {s0 : State} {b B : Nat} {D : va_G} {T : Nat → ClassId} (F : FX l s0 b D T B) {X : Nat → Prop} (hX : ∀ o, o < 12 → ¬ X (B + o)) {N : Nat} {μ : Mem} {a0 : Nat} {r : Mem × Int32} (k0 : IsMo a0) (h : fX11_settles N μ a0 = some r) : gMet l yX11_settles cX11_settles 6 (some .int) rmX11_settles [.ref (B + a0)] (gWM D T B μ) (KC s0 X) (some (.int r.2)) (gWM D T B r.1) (gA B X) 0 0 := by
  refine gI_of RX11 (by decide +kernel) rfl (Nat.le_of_ble_eq_true rfl) ?_
  intro p e s m args below meth c ls Q hx hb hlocks hml hown hts hW hk hl hS hend
  have hC := FX_C F hk hx hb hown hts
  have hA := gA_allM hX
  have hl : lv_has ls 6 [(0, .ref (B + a0))] := hl
  unfold fX11_settles at h
  refine lv_iconst (v := 0) hx hb dX11_settles_0 (by decide) ?_
  refine lv_istore_n (lv' := [(1, .int 0), (0, .ref (B + a0))]) hx hb dX11_settles_1 rfl hl (by decide) rfl (fun ls hl => ?_)
  refine lv_aload_n hx hb dX11_settles_2 rfl (lv_at hl 1 rfl) ?_
  refine lv_iconst (v := 0) hx hb dX11_settles_3 (by decide) ?_
  obtain ⟨μ1, e2, h⟩ := lt_out h
  refine gq_put hC hS hW hA fl_X11_150 k0.1 (k0.2.1 T B) (Nat.le_of_ble_eq_true rfl) rfl rfl rfl e2 dX11_settles_4 (fun H locs hW hS => ?_)
  refine lv_iconst (v := 0) hx hb dX11_settles_7 (by decide) ?_
  refine lv_istore_n (lv' := [(2, .int 0), (1, .int 0), (0, .ref (B + a0))]) hx hb dX11_settles_8 rfl hl (by decide) rfl (fun ls hl => ?_)
  refine fix2_ind (fun (x3 : Int32) (μ4 : Mem) => ∀ (H : Heap) (locs : List Loc) (ls : Array Slot), gWM D T B μ4 H → va_S (gA B X) s.heap H locs → lv_has ls 6 [(0, .ref (B + a0)), (1, .int 0), (2, .int x3)] → W p l e rmX11_settles s m args below meth c H locs 0 0 Q (F0 m 9 ls [])) ?_ N _ _ h _ _ _ hW hS (lv_sub hl [2, 1, 0] rfl)
  clear h hW hS hl
  intro self5 IH6 x3 μ4 h H locs ls hW hS hl
  refine lv_iload_n hx hb dX11_settles_9 rfl (lv_at hl 2 rfl) ?_
  refine lv_bipush (v := 16) hx hb dX11_settles_10 (by decide) ?_
  refine lv_icmp_ge (tgt := 28) hx hb dX11_settles_12 (by decide) (fun c7 => ?_) (fun c7 => ?_)
  · replace h := ite_t c7 h
    refine lv_iconst (v := 0) hx hb dX11_settles_28 (by decide) ?_
    refine lv_istore_n (lv' := [(2, .int 0), (0, .ref (B + a0)), (1, .int 0)]) hx hb dX11_settles_29 rfl hl (by decide) rfl (fun ls hl => ?_)
    refine fix3_ind (fun (x8 : Int32) (x9 : Int32) (μ10 : Mem) => ∀ (H : Heap) (locs : List Loc) (ls : Array Slot), gWM D T B μ10 H → va_S (gA B X) s.heap H locs → lv_has ls 6 [(0, .ref (B + a0)), (1, .int x8), (2, .int x9)] → W p l e rmX11_settles s m args below meth c H locs 0 0 Q (F0 m 30 ls [])) ?_ N _ _ _ h _ _ _ hW hS (lv_sub hl [1, 2, 0] rfl)
    clear h hW hS hl
    intro self11 IH12 x8 x9 μ10 h H locs ls hW hS hl
    refine lv_iload_n hx hb dX11_settles_30 rfl (lv_at hl 2 rfl) ?_
    refine lv_bipush (v := 16) hx hb dX11_settles_31 (by decide) ?_
    refine lv_icmp_ge (tgt := 169) hx hb dX11_settles_33 (by decide) (fun c13 => ?_) (fun c13 => ?_)
    · replace h := ite_t c13 h
      refine lv_iload_n hx hb dX11_settles_169 rfl (lv_at hl 1 rfl) ?_
      cases h
      exact hend dX11_settles_170 hW hS (Nat.le_of_ble_eq_true rfl) (Nat.le_of_ble_eq_true rfl)
    · replace h := ite_f c13 h
      refine lv_aload_n hx hb dX11_settles_36 rfl (lv_at hl 0 rfl) ?_
      refine gw_get (v := .ref (B + (a0 + 7))) hC hW fl_X11_28 k0.1 (k0.2.1 T B (μ10 a0)) rfl dX11_settles_37 ?_
      refine lv_iload_n hx hb dX11_settles_40 rfl (lv_at hl 2 rfl) ?_
      obtain ⟨v14, e15, hi16, h⟩ := ag_o h
      refine gq_iald hC hW k0.2.2.2.2.2.2.2.2.1.1 (k0.2.2.2.2.2.2.2.2.1.2 T B (μ10 (a0 + 7))) (t0 := 0) rfl e15 hi16 dX11_settles_41 ?_
      refine lv_iconst (v := 4) hx hb dX11_settles_42 (by decide) ?_
      obtain ⟨j18, hj20, h⟩ := jn1_o h
      have J19 : ∀ (y17 : Bool), j18 y17 = some r → ∀ (H : Heap) (locs : List Loc) (ls : Array Slot), gWM D T B μ10 H → va_S (gA B X) s.heap H locs → lv_has ls 6 [(0, .ref (B + a0)), (1, .int x8), (2, .int x9)] → W p l e rmX11_settles s m args below meth c H locs 0 0 Q (F0 m 51 ls [.int (b2i y17)]) := by
        clear h hW hS hl
        intro y17 h H locs ls hW hS hl
        replace h := (hj20 y17).symm.trans h
        refine lv_istore_n (lv' := [(3, .int (b2i y17)), (0, .ref (B + a0)), (1, .int x8), (2, .int x9)]) hx hb dX11_settles_51 rfl hl (by decide) rfl (fun ls hl => ?_)
        refine lv_iconst (v := 0) hx hb dX11_settles_52 (by decide) ?_
        refine lv_istore (lv' := [(4, .int 0), (3, .int (b2i y17)), (0, .ref (B + a0)), (1, .int x8), (2, .int x9)]) hx hb dX11_settles_53 hl (by decide) rfl (fun ls hl => ?_)
        refine fix2_ind (fun (x21 : Int32) (μ22 : Mem) => ∀ (H : Heap) (locs : List Loc) (ls : Array Slot), gWM D T B μ22 H → va_S (gA B X) s.heap H locs → lv_has ls 6 [(0, .ref (B + a0)), (1, .int x8), (2, .int x9), (3, .int (b2i y17)), (4, .int x21)] → W p l e rmX11_settles s m args below meth c H locs 0 0 Q (F0 m 55 ls [])) ?_ N _ _ h _ _ _ hW hS (lv_sub hl [2, 3, 4, 1, 0] rfl)
        clear h hW hS hl
        intro self23 IH24 x21 μ22 h H locs ls hW hS hl
        refine lv_iload hx hb dX11_settles_55 (lv_at hl 4 rfl) ?_
        refine lv_iconst (v := 4) hx hb dX11_settles_57 (by decide) ?_
        obtain ⟨j26, hj28, h⟩ := jn1_o h
        have J27 : ∀ (u25 : Unit), j26 u25 = some r → ∀ (H : Heap) (locs : List Loc) (ls : Array Slot), gWM D T B μ22 H → va_S (gA B X) s.heap H locs → lv_has ls 6 [(0, .ref (B + a0)), (1, .int x8), (2, .int x9), (3, .int (b2i y17))] → W p l e rmX11_settles s m args below meth c H locs 0 0 Q (F0 m 124 ls []) := by
          clear h hW hS hl
          intro u25 h H locs ls hW hS hl
          replace h := (hj28 u25).symm.trans h
          refine lv_aload_n hx hb dX11_settles_124 rfl (lv_at hl 0 rfl) ?_
          refine gw_get (v := .ref (B + (a0 + 8))) hC hW fl_X11_31 k0.1 (k0.2.1 T B (μ22 a0)) rfl dX11_settles_125 ?_
          refine lv_iload_n hx hb dX11_settles_128 rfl (lv_at hl 2 rfl) ?_
          refine lv_dup2_11 hx hb dX11_settles_129 rfl rfl ?_
          obtain ⟨v29, e30, hi31, h⟩ := ag_o h
          refine gq_iald hC hW k0.2.2.2.2.2.2.2.2.2.1.1 (k0.2.2.2.2.2.2.2.2.2.1.2 T B (μ22 (a0 + 8))) (t0 := 0) rfl e30 hi31 dX11_settles_130 ?_
          refine lv_iload_n hx hb dX11_settles_131 rfl (lv_at hl 3 rfl) ?_
          obtain ⟨j33, hj35, h⟩ := jn1_o h
          have J34 : ∀ (y32 : Bool), j33 y32 = some r → ∀ (H : Heap) (locs : List Loc) (ls : Array Slot), gWM D T B μ22 H → va_S (gA B X) s.heap H locs → lv_has ls 6 [(0, .ref (B + a0)), (1, .int x8), (2, .int x9), (3, .int (b2i y17))] → W p l e rmX11_settles s m args below meth c H locs 0 0 Q (F0 m 140 ls [.int (b2i y32), .int v29, .int x9, .ref (B + (a0 + 8))]) := by
            clear h hW hS hl
            intro y32 h H locs ls hW hS hl
            replace h := (hj35 y32).symm.trans h
            refine lv_iadd hx hb dX11_settles_140 ?_
            obtain ⟨μ36, e37, hi38, h⟩ := aw_o h
            refine gq_iast hC hS hW hA k0.2.2.2.2.2.2.2.2.2.1.1 (k0.2.2.2.2.2.2.2.2.2.1.2 T B) (t0 := 0) rfl e37 hi38 dX11_settles_141 (fun H locs hW hS => ?_)
            refine lv_iload_n hx hb dX11_settles_142 rfl (lv_at hl 1 rfl) ?_
            refine lv_iload_n hx hb dX11_settles_143 rfl (lv_at hl 3 rfl) ?_
            obtain ⟨j40, hj42, h⟩ := jn1_o h
            have J41 : ∀ (y39 : Bool), j40 y39 = some r → ∀ (H : Heap) (locs : List Loc) (ls : Array Slot), gWM D T B μ36 H → va_S (gA B X) s.heap H locs → lv_has ls 6 [(0, .ref (B + a0)), (2, .int x9), (3, .int (b2i y17))] → W p l e rmX11_settles s m args below meth c H locs 0 0 Q (F0 m 152 ls [.int (b2i y39), .int x8]) := by
              clear h hW hS hl
              intro y39 h H locs ls hW hS hl
              replace h := (hj42 y39).symm.trans h
              refine lv_iadd hx hb dX11_settles_152 ?_
              obtain ⟨v43, e44, h⟩ := lt_out h
              rw [← e44]
              refine lv_istore_n (lv' := [(1, .int v43), (0, .ref (B + a0)), (2, .int x9), (3, .int (b2i y17))]) hx hb dX11_settles_153 rfl hl (by decide) rfl (fun ls hl => ?_)
              refine lv_iload_n hx hb dX11_settles_154 rfl (lv_at hl 3 rfl) ?_
              obtain ⟨j46, hj48, h⟩ := jn1_o h
              have J47 : ∀ (y45 : Int32), j46 y45 = some r → ∀ (H : Heap) (locs : List Loc) (ls : Array Slot), gWM D T B μ36 H → va_S (gA B X) s.heap H locs → lv_has ls 6 [(0, .ref (B + a0)), (1, .int v43)] → W p l e rmX11_settles s m args below meth c H locs 0 0 Q (F0 m 165 ls [.int y45]) := by
                clear h hW hS hl
                intro y45 h H locs ls hW hS hl
                replace h := (hj48 y45).symm.trans h
                refine lv_istore_n (lv' := [(2, .int y45), (0, .ref (B + a0)), (1, .int v43)]) hx hb dX11_settles_165 rfl hl (by decide) rfl (fun ls hl => ?_)
                refine lv_goto (tgt := 30) hx hb dX11_settles_166 (by decide) ?_
                exact IH12 _ _ _ h _ _ _ hW hS (lv_sub hl [1, 2, 0] rfl)
              refine gw_if_eqZ (tgt := 162) hx hb dX11_settles_155 (by decide) (fun c49 => ?_) (fun c49 => ?_)
              · replace h := cond_f c49 h
                refine lv_iload_n hx hb dX11_settles_162 rfl (lv_at hl 2 rfl) ?_
                refine lv_iconst (v := 1) hx hb dX11_settles_163 (by decide) ?_
                refine lv_iadd hx hb dX11_settles_164 ?_
                exact J47 _ h _ _ _ hW hS (lv_sub hl [1, 0] rfl)
              · replace h := cond_t c49 h
                refine lv_iconst (v := 0) hx hb dX11_settles_158 (by decide) ?_
                refine lv_goto (tgt := 165) hx hb dX11_settles_159 (by decide) ?_
                exact J47 _ h _ _ _ hW hS (lv_sub hl [1, 0] rfl)
            refine gw_if_eqZ (tgt := 151) hx hb dX11_settles_144 (by decide) (fun c50 => ?_) (fun c50 => ?_)
            · replace h := cond_f c50 h
              refine lv_iconst (v := 0) hx hb dX11_settles_151 (by decide) ?_
              exact J41 _ h _ _ _ hW hS (lv_sub hl [0, 2, 3] rfl)
            · replace h := cond_t c50 h
              refine lv_iconst (v := 1) hx hb dX11_settles_147 (by decide) ?_
              refine lv_goto (tgt := 152) hx hb dX11_settles_148 (by decide) ?_
              exact J41 _ h _ _ _ hW hS (lv_sub hl [0, 2, 3] rfl)
          refine gw_if_eqZ (tgt := 139) hx hb dX11_settles_132 (by decide) (fun c51 => ?_) (fun c51 => ?_)
          · replace h := cond_f c51 h
            refine lv_iconst (v := 0) hx hb dX11_settles_139 (by decide) ?_
            exact J34 _ h _ _ _ hW hS (lv_sub hl [0, 1, 2, 3] rfl)
          · replace h := cond_t c51 h
            refine lv_iconst (v := 1) hx hb dX11_settles_135 (by decide) ?_
            refine lv_goto (tgt := 140) hx hb dX11_settles_136 (by decide) ?_
            exact J34 _ h _ _ _ hW hS (lv_sub hl [0, 1, 2, 3] rfl)
        refine lv_icmp_ge (tgt := 124) hx hb dX11_settles_58 (by decide) (fun c52 => ?_) (fun c52 => ?_)
        · replace h := ite_t c52 h
          exact J27 _ h _ _ _ hW hS (lv_sub hl [0, 1, 2, 3] rfl)
        · replace h := ite_f c52 h
          refine lv_iload_n hx hb dX11_settles_61 rfl (lv_at hl 3 rfl) ?_
          refine gw_if_eqZ (tgt := 124) hx hb dX11_settles_62 (by decide) (fun c53 => ?_) (fun c53 => ?_)
          · replace h := cond_f c53 h
            exact J27 _ h _ _ _ hW hS (lv_sub hl [0, 1, 2, 3] rfl)
          · replace h := cond_t c53 h
            refine lv_iload_n hx hb dX11_settles_65 rfl (lv_at hl 2 rfl) ?_
            refine lv_iload hx hb dX11_settles_66 (lv_at hl 4 rfl) ?_
            obtain ⟨r54, hcall, h⟩ := bd_out h
            refine g0_callS (As := [.int x9, .int x21]) hC hml hS hW (KC_at hk hS F.2.2.2.2) KC_blind (metX11_beside F hX  hcall) ml_X11_153 ⟨rfl, rfl, Nat.le_of_ble_eq_true rfl, Nat.le_of_ble_eq_true rfl⟩ rfl hl.1 rfl (Nat.le_of_ble_eq_true rfl) dX11_settles_68 ⟨Nat.le_of_ble_eq_true rfl, Nat.le_of_ble_eq_true rfl⟩ (fun H locs hW hS => ?_)
            refine lv_istore (lv' := [(5, .int r54), (0, .ref (B + a0)), (1, .int x8), (2, .int x9), (3, .int (b2i y17)), (4, .int x21)]) hx hb dX11_settles_71 hl (by decide) rfl (fun ls hl => ?_)
            refine lv_aload_n hx hb dX11_settles_73 rfl (lv_at hl 1 rfl) ?_
            refine gw_get (v := .ref (B + (a0 + 7))) hC hW fl_X11_28 k0.1 (k0.2.1 T B (μ22 a0)) rfl dX11_settles_74 ?_
            refine lv_iload_n hx hb dX11_settles_77 rfl (lv_at hl 3 rfl) ?_
            refine lv_dup2_11 hx hb dX11_settles_78 rfl rfl ?_
            obtain ⟨v55, e56, hi57, h⟩ := ag_o h
            refine gq_iald hC hW k0.2.2.2.2.2.2.2.2.1.1 (k0.2.2.2.2.2.2.2.2.1.2 T B (μ22 (a0 + 7))) (t0 := 0) rfl e56 hi57 dX11_settles_79 ?_
            refine lv_iconst (v := 1) hx hb dX11_settles_80 (by decide) ?_
            refine lv_isub hx hb dX11_settles_81 ?_
            obtain ⟨μ58, e59, hi60, h⟩ := aw_o h
            refine gq_iast hC hS hW hA k0.2.2.2.2.2.2.2.2.1.1 (k0.2.2.2.2.2.2.2.2.1.2 T B) (t0 := 0) rfl e59 hi60 dX11_settles_82 (fun H locs hW hS => ?_)
            refine lv_aload_n hx hb dX11_settles_83 rfl (lv_at hl 1 rfl) ?_
            refine lv_dup hx hb dX11_settles_84 rfl ?_
            refine gw_get (v := .int (μ58 a0 13)) hC hW fl_X11_150.1 k0.1 (k0.2.1 T B (μ58 a0)) rfl dX11_settles_85 ?_
            refine lv_iload hx hb dX11_settles_88 (lv_at hl 0 rfl) ?_
            obtain ⟨j62, hj64, h⟩ := jn1_o h
            have J63 : ∀ (y61 : Bool), j62 y61 = some r → ∀ (H : Heap) (locs : List Loc) (ls : Array Slot), gWM D T B μ58 H → va_S (gA B X) s.heap H locs → lv_has ls 6 [(0, .ref (B + a0)), (1, .int x8), (2, .int x9), (3, .int (b2i y17)), (4, .int x21), (5, .int r54)] → W p l e rmX11_settles s m args below meth c H locs 0 0 Q (F0 m 98 ls [.int (b2i y61), .int (μ58 a0 13), .ref (B + a0)]) := by
              clear h hW hS hl
              intro y61 h H locs ls hW hS hl
              replace h := (hj64 y61).symm.trans h
              refine lv_iadd hx hb dX11_settles_98 ?_
              obtain ⟨μ65, e66, h⟩ := lt_out h
              refine gq_put hC hS hW hA fl_X11_150 k0.1 (k0.2.1 T B) (Nat.le_of_ble_eq_true rfl) rfl rfl rfl e66 dX11_settles_99 (fun H locs hW hS => ?_)
              refine lv_iload hx hb dX11_settles_102 (lv_at hl 5 rfl) ?_
              obtain ⟨j68, hj70, h⟩ := jn1_o h
              have J69 : ∀ (μ67 : Mem), j68 μ67 = some r → ∀ (H : Heap) (locs : List Loc) (ls : Array Slot), gWM D T B μ67 H → va_S (gA B X) s.heap H locs → lv_has ls 6 [(0, .ref (B + a0)), (1, .int x8), (2, .int x9), (3, .int (b2i y17)), (4, .int x21)] → W p l e rmX11_settles s m args below meth c H locs 0 0 Q (F0 m 118 ls []) := by
                clear h hW hS hl
                intro μ67 h H locs ls hW hS hl
                replace h := (hj70 μ67).symm.trans h
                obtain ⟨v71, e72, h⟩ := lt_out h
                refine lv_iinc (v := v71) (lv' := [(4, .int v71), (0, .ref (B + a0)), (1, .int x8), (2, .int x9), (3, .int (b2i y17))]) hx hb dX11_settles_118 hl (k := 4) rfl (by rw [e72]; rfl) (by decide) rfl (fun ls hl => ?_)
                refine lv_goto (tgt := 55) hx hb dX11_settles_121 (by decide) ?_
                exact IH24 _ _ h _ _ _ hW hS (lv_sub hl [1, 2, 3, 4, 0] rfl)
              refine lv_if_lt (tgt := 118) hx hb dX11_settles_104 (by decide) (fun c73 => ?_) (fun c73 => ?_)
              · replace h := ite_t c73 h
                exact J69 _ h _ _ _ hW hS (lv_sub hl [0, 1, 2, 3, 4] rfl)
              · replace h := ite_f c73 h
                refine lv_aload_n hx hb dX11_settles_107 rfl (lv_at hl 0 rfl) ?_
                refine gw_get (v := .ref (B + (a0 + 7))) hC hW fl_X11_28 k0.1 (k0.2.1 T B (μ65 a0)) rfl dX11_settles_108 ?_
                refine lv_iload hx hb dX11_settles_111 (lv_at hl 5 rfl) ?_
                refine lv_dup2_11 hx hb dX11_settles_113 rfl rfl ?_
                obtain ⟨v74, e75, hi76, h⟩ := ag_o h
                refine gq_iald hC hW k0.2.2.2.2.2.2.2.2.1.1 (k0.2.2.2.2.2.2.2.2.1.2 T B (μ65 (a0 + 7))) (t0 := 0) rfl e75 hi76 dX11_settles_114 ?_
                refine lv_iconst (v := 1) hx hb dX11_settles_115 (by decide) ?_
                refine lv_iadd hx hb dX11_settles_116 ?_
                obtain ⟨μ77, e78, hi79, h⟩ := aw_o h
                refine gq_iast hC hS hW hA k0.2.2.2.2.2.2.2.2.1.1 (k0.2.2.2.2.2.2.2.2.1.2 T B) (t0 := 0) rfl e78 hi79 dX11_settles_117 (fun H locs hW hS => ?_)
                exact J69 _ h _ _ _ hW hS (lv_sub hl [0, 1, 2, 3, 4] rfl)
            refine lv_if_ge (tgt := 97) hx hb dX11_settles_90 (by decide) (fun c80 => ?_) (fun c80 => ?_)
            · replace h := ite_t c80 h
              refine lv_iconst (v := 0) hx hb dX11_settles_97 (by decide) ?_
              exact J63 _ h _ _ _ hW hS (lv_sub hl [1, 2, 3, 4, 5, 0] rfl)
            · replace h := ite_f c80 h
              refine lv_iconst (v := 1) hx hb dX11_settles_93 (by decide) ?_
              refine lv_goto (tgt := 98) hx hb dX11_settles_94 (by decide) ?_
              exact J63 _ h _ _ _ hW hS (lv_sub hl [1, 2, 3, 4, 5, 0] rfl)
      refine lv_icmp_lt (tgt := 50) hx hb dX11_settles_43 (by decide) (fun c81 => ?_) (fun c81 => ?_)
      · replace h := ite_t c81 h
        refine lv_iconst (v := 0) hx hb dX11_settles_50 (by decide) ?_
        exact J19 _ h _ _ _ hW hS (lv_sub hl [0, 1, 2] rfl)
      · replace h := ite_f c81 h
        refine lv_iconst (v := 1) hx hb dX11_settles_46 (by decide) ?_
        refine lv_goto (tgt := 51) hx hb dX11_settles_47 (by decide) ?_
        exact J19 _ h _ _ _ hW hS (lv_sub hl [0, 1, 2] rfl)
  · replace h := ite_f c7 h
    refine lv_aload_n hx hb dX11_settles_15 rfl (lv_at hl 0 rfl) ?_
    refine gw_get (v := .ref (B + (a0 + 8))) hC hW fl_X11_31 k0.1 (k0.2.1 T B (μ4 a0)) rfl dX11_settles_16 ?_
    refine lv_iload_n hx hb dX11_settles_19 rfl (lv_at hl 2 rfl) ?_
    refine lv_iconst (v := 0) hx hb dX11_settles_20 (by decide) ?_
    obtain ⟨μ82, e83, hi84, h⟩ := aw_o h
    refine gq_iast hC hS hW hA k0.2.2.2.2.2.2.2.2.2.1.1 (k0.2.2.2.2.2.2.2.2.2.1.2 T B) (t0 := 0) rfl e83 hi84 dX11_settles_21 (fun H locs hW hS => ?_)
    obtain ⟨v85, e86, h⟩ := lt_out h
    refine lv_iinc (v := v85) (lv' := [(2, .int v85), (0, .ref (B + a0)), (1, .int 0)]) hx hb dX11_settles_22 hl (k := 2) rfl (by rw [e86]; rfl) (by decide) rfl (fun ls hl => ?_)
    refine lv_goto (tgt := 9) hx hb dX11_settles_25 (by decide) ?_
    exact IH6 _ _ h _ _ _ hW hS (lv_sub hl [1, 2, 0] rfl)

theorem dX11_wrongDrop_0 : decode cX11_wrongDrop 0 = .ok (.aload_n 0, 1) := by decide +kernel
theorem dX11_wrongDrop_1 : decode cX11_wrongDrop 1 = .ok (.iload_n 1, 1) := by decide +kernel
theorem dX11_wrongDrop_2 : decode cX11_wrongDrop 2 = .ok (.invokevirtual 141, 3) := by decide +kernel
theorem dX11_wrongDrop_5 : decode cX11_wrongDrop 5 = .ok (.ifCond .ne 7, 3) := by decide +kernel
theorem dX11_wrongDrop_8 : decode cX11_wrongDrop 8 = .ok (.iconst 1, 1) := by decide +kernel
theorem dX11_wrongDrop_9 : decode cX11_wrongDrop 9 = .ok (.goto 37, 3) := by decide +kernel
theorem dX11_wrongDrop_12 : decode cX11_wrongDrop 12 = .ok (.iload_n 2, 1) := by decide +kernel
theorem dX11_wrongDrop_13 : decode cX11_wrongDrop 13 = .ok (.iconst 0, 1) := by decide +kernel
theorem dX11_wrongDrop_14 : decode cX11_wrongDrop 14 = .ok (.iconst 3, 1) := by decide +kernel
theorem dX11_wrongDrop_15 : decode cX11_wrongDrop 15 = .ok (.invokestatic 73, 3) := by decide +kernel
theorem dX11_wrongDrop_18 : decode cX11_wrongDrop 18 = .ok (.ifCond .eq 23, 3) := by decide +kernel
theorem dX11_wrongDrop_21 : decode cX11_wrongDrop 21 = .ok (.iload_n 3, 1) := by decide +kernel
theorem dX11_wrongDrop_22 : decode cX11_wrongDrop 22 = .ok (.iconst 0, 1) := by decide +kernel
theorem dX11_wrongDrop_23 : decode cX11_wrongDrop 23 = .ok (.iconst 3, 1) := by decide +kernel
theorem dX11_wrongDrop_24 : decode cX11_wrongDrop 24 = .ok (.invokestatic 73, 3) := by decide +kernel
theorem dX11_wrongDrop_27 : decode cX11_wrongDrop 27 = .ok (.ifCond .eq 14, 3) := by decide +kernel
theorem dX11_wrongDrop_30 : decode cX11_wrongDrop 30 = .ok (.iload 4, 2) := by decide +kernel
theorem dX11_wrongDrop_32 : decode cX11_wrongDrop 32 = .ok (.iconst 1, 1) := by decide +kernel
theorem dX11_wrongDrop_33 : decode cX11_wrongDrop 33 = .ok (.bipush 40, 2) := by decide +kernel
theorem dX11_wrongDrop_35 : decode cX11_wrongDrop 35 = .ok (.invokestatic 73, 3) := by decide +kernel
theorem dX11_wrongDrop_38 : decode cX11_wrongDrop 38 = .ok (.ifCond .ne 7, 3) := by decide +kernel
theorem dX11_wrongDrop_41 : decode cX11_wrongDrop 41 = .ok (.iconst 2, 1) := by decide +kernel
theorem dX11_wrongDrop_42 : decode cX11_wrongDrop 42 = .ok (.goto 4, 3) := by decide +kernel
theorem dX11_wrongDrop_45 : decode cX11_wrongDrop 45 = .ok (.iconst 0, 1) := by decide +kernel
theorem dX11_wrongDrop_46 : decode cX11_wrongDrop 46 = .ok (.ireturn, 1) := by decide +kernel
abbrev rmX11_wrongDrop : Room := { frames := 4, cells := 0, slots := 0, locals := 103 }
set_option maxHeartbeats 4000000 in
set_option maxRecDepth 100000 in
theorem metX11_wrongDrop {l : Launch} {s0 : State} {b B : Nat} {D : va_G} {T : Nat → ClassId} (F : FX l s0 b D T B) {X : Nat → Prop} (hX : ∀ o, o < 12 → ¬ X (B + o)) {N : Nat} {μ : Mem} {a0 : Nat} {a1 : Int32} {a2 : Int32} {a3 : Int32} {a4 : Int32} {r : Int32} (k0 : IsMo a0) (h : fX11_wrongDrop N μ a0 a1 a2 a3 a4 = some r) : gMet l yX11_wrongDrop cX11_wrongDrop 5 (some .int) rmX11_wrongDrop [.ref (B + a0), .int a1, .int a2, .int a3, .int a4] (gWM D T B μ) (KC s0 X) (some (.int r)) (gWM D T B μ) (gA B X) 0 0 := by
  refine gI_of RX11 (by decide +kernel) rfl (Nat.le_of_ble_eq_true rfl) ?_
  intro p e s m args below meth c ls Q hx hb hlocks hml hown hts hW hk hl hS hend
  have hC := FX_C F hk hx hb hown hts
  have hA := gA_allM hX
  have hl : lv_has ls 5 [(0, .ref (B + a0)), (1, .int a1), (2, .int a2), (3, .int a3), (4, .int a4)] := hl
  unfold fX11_wrongDrop at h
  refine lv_aload_n hx hb dX11_wrongDrop_0 rfl (lv_at hl 0 rfl) ?_
  refine lv_iload_n hx hb dX11_wrongDrop_1 rfl (lv_at hl 1 rfl) ?_
  obtain ⟨r1, hcall, h⟩ := bd_out h
  refine g0_callV (As := [.int a1]) hC hml hS hW (KC_at hk hS F.2.2.2.2) KC_blind (metX11_isExhibit F hX k0 hcall) ml_X11_141 (gw_recv hC hW k0.1 (k0.2.1 T B (μ a0)) rfl) ⟨rfl, rfl, Nat.le_of_ble_eq_true rfl, Nat.le_of_ble_eq_true rfl⟩ rfl hl.1 rfl (Nat.le_of_ble_eq_true rfl) dX11_wrongDrop_2 ⟨Nat.le_of_ble_eq_true rfl, Nat.le_of_ble_eq_true rfl⟩ (fun H locs hW hS => ?_)
  obtain ⟨j3, hj5, h⟩ := jn1_o h
  have J4 : ∀ (y2 : Int32), j3 y2 = some r → ∀ (H : Heap) (locs : List Loc) (ls : Array Slot), gWM D T B μ H → va_S (gA B X) s.heap H locs → lv_has ls 5 [] → W p l e rmX11_wrongDrop s m args below meth c H locs 0 0 Q (F0 m 46 ls [.int y2]) := by
    clear h hW hS hl
    intro y2 h H locs ls hW hS hl
    replace h := (hj5 y2).symm.trans h
    cases h
    exact hend dX11_wrongDrop_46 hW hS (Nat.le_of_ble_eq_true rfl) (Nat.le_of_ble_eq_true rfl)
  refine gw_if_neZ (tgt := 12) hx hb dX11_wrongDrop_5 (by decide) (fun c6 => ?_) (fun c6 => ?_)
  · replace h := cond_t c6 h
    refine lv_iload_n hx hb dX11_wrongDrop_12 rfl (lv_at hl 2 rfl) ?_
    refine lv_iconst (v := 0) hx hb dX11_wrongDrop_13 (by decide) ?_
    refine lv_iconst (v := 3) hx hb dX11_wrongDrop_14 (by decide) ?_
    obtain ⟨r7, hcall, h⟩ := bd_out h
    refine g0_callS (As := [.int a2, .int 0, .int 3]) hC hml hS hW (KC_at hk hS F.2.2.2.2) KC_blind (metX11_in F hX  hcall) ml_X11_73 ⟨rfl, rfl, Nat.le_of_ble_eq_true rfl, Nat.le_of_ble_eq_true rfl⟩ rfl hl.1 rfl (Nat.le_of_ble_eq_true rfl) dX11_wrongDrop_15 ⟨Nat.le_of_ble_eq_true rfl, Nat.le_of_ble_eq_true rfl⟩ (fun H locs hW hS => ?_)
    obtain ⟨j9, hj11, h⟩ := jn1_o h
    have J10 : ∀ (u8 : Unit), j9 u8 = some r → ∀ (H : Heap) (locs : List Loc) (ls : Array Slot), gWM D T B μ H → va_S (gA B X) s.heap H locs → lv_has ls 5 [] → W p l e rmX11_wrongDrop s m args below meth c H locs 0 0 Q (F0 m 41 ls []) := by
      clear h hW hS hl
      intro u8 h H locs ls hW hS hl
      replace h := (hj11 u8).symm.trans h
      refine lv_iconst (v := 2) hx hb dX11_wrongDrop_41 (by decide) ?_
      refine lv_goto (tgt := 46) hx hb dX11_wrongDrop_42 (by decide) ?_
      exact J4 _ h _ _ _ hW hS (lv_sub hl [] rfl)
    refine gw_if_eqZ (tgt := 41) hx hb dX11_wrongDrop_18 (by decide) (fun c12 => ?_) (fun c12 => ?_)
    · replace h := cond_f c12 h
      exact J10 _ h _ _ _ hW hS (lv_sub hl [] rfl)
    · replace h := cond_t c12 h
      refine lv_iload_n hx hb dX11_wrongDrop_21 rfl (lv_at hl 3 rfl) ?_
      refine lv_iconst (v := 0) hx hb dX11_wrongDrop_22 (by decide) ?_
      refine lv_iconst (v := 3) hx hb dX11_wrongDrop_23 (by decide) ?_
      obtain ⟨r13, hcall, h⟩ := bd_out h
      refine g0_callS (As := [.int a3, .int 0, .int 3]) hC hml hS hW (KC_at hk hS F.2.2.2.2) KC_blind (metX11_in F hX  hcall) ml_X11_73 ⟨rfl, rfl, Nat.le_of_ble_eq_true rfl, Nat.le_of_ble_eq_true rfl⟩ rfl hl.1 rfl (Nat.le_of_ble_eq_true rfl) dX11_wrongDrop_24 ⟨Nat.le_of_ble_eq_true rfl, Nat.le_of_ble_eq_true rfl⟩ (fun H locs hW hS => ?_)
      refine gw_if_eqZ (tgt := 41) hx hb dX11_wrongDrop_27 (by decide) (fun c14 => ?_) (fun c14 => ?_)
      · replace h := cond_f c14 h
        exact J10 _ h _ _ _ hW hS (lv_sub hl [] rfl)
      · replace h := cond_t c14 h
        refine lv_iload hx hb dX11_wrongDrop_30 (lv_at hl 4 rfl) ?_
        refine lv_iconst (v := 1) hx hb dX11_wrongDrop_32 (by decide) ?_
        refine lv_bipush (v := 40) hx hb dX11_wrongDrop_33 (by decide) ?_
        obtain ⟨r15, hcall, h⟩ := bd_out h
        refine g0_callS (As := [.int a4, .int 1, .int 40]) hC hml hS hW (KC_at hk hS F.2.2.2.2) KC_blind (metX11_in F hX  hcall) ml_X11_73 ⟨rfl, rfl, Nat.le_of_ble_eq_true rfl, Nat.le_of_ble_eq_true rfl⟩ rfl hl.1 rfl (Nat.le_of_ble_eq_true rfl) dX11_wrongDrop_35 ⟨Nat.le_of_ble_eq_true rfl, Nat.le_of_ble_eq_true rfl⟩ (fun H locs hW hS => ?_)
        refine gw_if_neZ (tgt := 45) hx hb dX11_wrongDrop_38 (by decide) (fun c16 => ?_) (fun c16 => ?_)
        · replace h := cond_t c16 h
          refine lv_iconst (v := 0) hx hb dX11_wrongDrop_45 (by decide) ?_
          exact J4 _ h _ _ _ hW hS (lv_sub hl [] rfl)
        · replace h := cond_f c16 h
          exact J10 _ h _ _ _ hW hS (lv_sub hl [] rfl)
  · replace h := cond_f c6 h
    refine lv_iconst (v := 1) hx hb dX11_wrongDrop_8 (by decide) ?_
    refine lv_goto (tgt := 46) hx hb dX11_wrongDrop_9 (by decide) ?_
    exact J4 _ h _ _ _ hW hS (lv_sub hl [] rfl)

theorem dX11_tries_0 : decode cX11_tries 0 = .ok (.aload_n 0, 1) := by decide +kernel
theorem dX11_tries_1 : decode cX11_tries 1 = .ok (.iload_n 1, 1) := by decide +kernel
theorem dX11_tries_2 : decode cX11_tries 2 = .ok (.invokevirtual 156, 3) := by decide +kernel
theorem dX11_tries_5 : decode cX11_tries 5 = .ok (.aload_n 0, 1) := by decide +kernel
theorem dX11_tries_6 : decode cX11_tries 6 = .ok (.getfield 28, 3) := by decide +kernel
theorem dX11_tries_9 : decode cX11_tries 9 = .ok (.iconst 4, 1) := by decide +kernel
theorem dX11_tries_10 : decode cX11_tries 10 = .ok (.iload_n 3, 1) := by decide +kernel
theorem dX11_tries_11 : decode cX11_tries 11 = .ok (.imul, 1) := by decide +kernel
theorem dX11_tries_12 : decode cX11_tries 12 = .ok (.iload_n 2, 1) := by decide +kernel
theorem dX11_tries_13 : decode cX11_tries 13 = .ok (.iadd, 1) := by decide +kernel
theorem dX11_tries_14 : decode cX11_tries 14 = .ok (.dup2, 1) := by decide +kernel
theorem dX11_tries_15 : decode cX11_tries 15 = .ok (.iaload, 1) := by decide +kernel
theorem dX11_tries_16 : decode cX11_tries 16 = .ok (.iload 4, 2) := by decide +kernel
theorem dX11_tries_18 : decode cX11_tries 18 = .ok (.iadd, 1) := by decide +kernel
theorem dX11_tries_19 : decode cX11_tries 19 = .ok (.iastore, 1) := by decide +kernel
theorem dX11_tries_20 : decode cX11_tries 20 = .ok (.aload_n 0, 1) := by decide +kernel
theorem dX11_tries_21 : decode cX11_tries 21 = .ok (.invokevirtual 159, 3) := by decide +kernel
theorem dX11_tries_24 : decode cX11_tries 24 = .ok (.ireturn, 1) := by decide +kernel
abbrev rmX11_tries : Room := { frames := 5, cells := 0, slots := 0, locals := 130 }
set_option maxHeartbeats 4000000 in
set_option maxRecDepth 100000 in
theorem metX11_tries {l : Launch} {s0 : State} {b B : Nat} {D : va_G} {T : Nat → ClassId} (F : FX l s0 b D T B) {X : Nat → Prop} (hX : ∀ o, o < 12 → ¬ X (B + o)) {N : Nat} {μ : Mem} {a0 : Nat} {a1 : Int32} {a2 : Int32} {a3 : Int32} {a4 : Int32} {r : Mem × Int32} (k0 : IsMo a0) (h : fX11_tries N μ a0 a1 a2 a3 a4 = some r) : gMet l yX11_tries cX11_tries 5 (some .int) rmX11_tries [.ref (B + a0), .int a1, .int a2, .int a3, .int a4] (gWM D T B μ) (KC s0 X) (some (.int r.2)) (gWM D T B r.1) (gA B X) 0 0 := by
  refine gI_of RX11 (by decide +kernel) rfl (Nat.le_of_ble_eq_true rfl) ?_
  intro p e s m args below meth c ls Q hx hb hlocks hml hown hts hW hk hl hS hend
  have hC := FX_C F hk hx hb hown hts
  have hA := gA_allM hX
  have hl : lv_has ls 5 [(0, .ref (B + a0)), (1, .int a1), (2, .int a2), (3, .int a3), (4, .int a4)] := hl
  unfold fX11_tries at h
  refine lv_aload_n hx hb dX11_tries_0 rfl (lv_at hl 0 rfl) ?_
  refine lv_iload_n hx hb dX11_tries_1 rfl (lv_at hl 1 rfl) ?_
  obtain ⟨r1, hcall, h⟩ := bd_out h
  refine g0_callV (As := [.int a1]) hC hml hS hW (KC_at hk hS F.2.2.2.2) KC_blind (metX11_takesPile F hX k0 hcall) ml_X11_156 (gw_recv hC hW k0.1 (k0.2.1 T B (μ a0)) rfl) ⟨rfl, rfl, Nat.le_of_ble_eq_true rfl, Nat.le_of_ble_eq_true rfl⟩ rfl hl.1 rfl (Nat.le_of_ble_eq_true rfl) dX11_tries_2 ⟨Nat.le_of_ble_eq_true rfl, Nat.le_of_ble_eq_true rfl⟩ (fun H locs hW hS => ?_)
  refine lv_aload_n hx hb dX11_tries_5 rfl (lv_at hl 0 rfl) ?_
  refine gw_get (v := .ref (B + (a0 + 7))) hC hW fl_X11_28 k0.1 (k0.2.1 T B (r1 a0)) rfl dX11_tries_6 ?_
  refine lv_iconst (v := 4) hx hb dX11_tries_9 (by decide) ?_
  refine lv_iload_n hx hb dX11_tries_10 rfl (lv_at hl 3 rfl) ?_
  refine lv_imul hx hb dX11_tries_11 ?_
  refine lv_iload_n hx hb dX11_tries_12 rfl (lv_at hl 2 rfl) ?_
  refine lv_iadd hx hb dX11_tries_13 ?_
  refine lv_dup2_11 hx hb dX11_tries_14 rfl rfl ?_
  obtain ⟨v2, e3, hi4, h⟩ := ag_o h
  refine gq_iald hC hW k0.2.2.2.2.2.2.2.2.1.1 (k0.2.2.2.2.2.2.2.2.1.2 T B (r1 (a0 + 7))) (t0 := 0) rfl e3 hi4 dX11_tries_15 ?_
  refine lv_iload hx hb dX11_tries_16 (lv_at hl 4 rfl) ?_
  refine lv_iadd hx hb dX11_tries_18 ?_
  obtain ⟨μ5, e6, hi7, h⟩ := aw_o h
  refine gq_iast hC hS hW hA k0.2.2.2.2.2.2.2.2.1.1 (k0.2.2.2.2.2.2.2.2.1.2 T B) (t0 := 0) rfl e6 hi7 dX11_tries_19 (fun H locs hW hS => ?_)
  refine lv_aload_n hx hb dX11_tries_20 rfl (lv_at hl 0 rfl) ?_
  obtain ⟨r8, hcall, h⟩ := bd_out h
  refine g0_callV (As := []) hC hml hS hW (KC_at hk hS F.2.2.2.2) KC_blind (metX11_settles F hX k0 hcall) ml_X11_159 (gw_recv hC hW k0.1 (k0.2.1 T B (μ5 a0)) rfl) ⟨rfl, rfl, Nat.le_of_ble_eq_true rfl, Nat.le_of_ble_eq_true rfl⟩ rfl hl.1 rfl (Nat.le_of_ble_eq_true rfl) dX11_tries_21 ⟨Nat.le_of_ble_eq_true rfl, Nat.le_of_ble_eq_true rfl⟩ (fun H locs hW hS => ?_)
  cases h
  exact hend dX11_tries_24 hW hS (Nat.le_of_ble_eq_true rfl) (Nat.le_of_ble_eq_true rfl)

theorem dX11_doDrop_0 : decode cX11_doDrop 0 = .ok (.aload_n 0, 1) := by decide +kernel
theorem dX11_doDrop_1 : decode cX11_doDrop 1 = .ok (.iload_n 1, 1) := by decide +kernel
theorem dX11_doDrop_2 : decode cX11_doDrop 2 = .ok (.iload_n 2, 1) := by decide +kernel
theorem dX11_doDrop_3 : decode cX11_doDrop 3 = .ok (.iload_n 3, 1) := by decide +kernel
theorem dX11_doDrop_4 : decode cX11_doDrop 4 = .ok (.iload 4, 2) := by decide +kernel
theorem dX11_doDrop_6 : decode cX11_doDrop 6 = .ok (.invokevirtual 163, 3) := by decide +kernel
theorem dX11_doDrop_9 : decode cX11_doDrop 9 = .ok (.istore 5, 2) := by decide +kernel
theorem dX11_doDrop_11 : decode cX11_doDrop 11 = .ok (.iload 5, 2) := by decide +kernel
theorem dX11_doDrop_13 : decode cX11_doDrop 13 = .ok (.ifCond .le 10, 3) := by decide +kernel
theorem dX11_doDrop_16 : decode cX11_doDrop 16 = .ok (.aload_n 0, 1) := by decide +kernel
theorem dX11_doDrop_17 : decode cX11_doDrop 17 = .ok (.iload 5, 2) := by decide +kernel
theorem dX11_doDrop_19 : decode cX11_doDrop 19 = .ok (.invokevirtual 69, 3) := by decide +kernel
theorem dX11_doDrop_22 : decode cX11_doDrop 22 = .ok (.ireturn, 1) := by decide +kernel
theorem dX11_doDrop_23 : decode cX11_doDrop 23 = .ok (.aload_n 0, 1) := by decide +kernel
theorem dX11_doDrop_24 : decode cX11_doDrop 24 = .ok (.iload_n 1, 1) := by decide +kernel
theorem dX11_doDrop_25 : decode cX11_doDrop 25 = .ok (.iload_n 2, 1) := by decide +kernel
theorem dX11_doDrop_26 : decode cX11_doDrop 26 = .ok (.iload_n 3, 1) := by decide +kernel
theorem dX11_doDrop_27 : decode cX11_doDrop 27 = .ok (.iload 4, 2) := by decide +kernel
theorem dX11_doDrop_29 : decode cX11_doDrop 29 = .ok (.invokevirtual 166, 3) := by decide +kernel
theorem dX11_doDrop_32 : decode cX11_doDrop 32 = .ok (.istore 6, 2) := by decide +kernel
theorem dX11_doDrop_34 : decode cX11_doDrop 34 = .ok (.aload_n 0, 1) := by decide +kernel
theorem dX11_doDrop_35 : decode cX11_doDrop 35 = .ok (.getfield 28, 3) := by decide +kernel
theorem dX11_doDrop_38 : decode cX11_doDrop 38 = .ok (.iconst 0, 1) := by decide +kernel
theorem dX11_doDrop_39 : decode cX11_doDrop 39 = .ok (.aload_n 0, 1) := by decide +kernel
theorem dX11_doDrop_40 : decode cX11_doDrop 40 = .ok (.getfield 9, 3) := by decide +kernel
theorem dX11_doDrop_43 : decode cX11_doDrop 43 = .ok (.bipush 82, 2) := by decide +kernel
theorem dX11_doDrop_45 : decode cX11_doDrop 45 = .ok (.sipush 147, 3) := by decide +kernel
theorem dX11_doDrop_48 : decode cX11_doDrop 48 = .ok (.iload_n 1, 1) := by decide +kernel
theorem dX11_doDrop_49 : decode cX11_doDrop 49 = .ok (.imul, 1) := by decide +kernel
theorem dX11_doDrop_50 : decode cX11_doDrop 50 = .ok (.iadd, 1) := by decide +kernel
theorem dX11_doDrop_51 : decode cX11_doDrop 51 = .ok (.bipush 7, 2) := by decide +kernel
theorem dX11_doDrop_53 : decode cX11_doDrop 53 = .ok (.iadd, 1) := by decide +kernel
theorem dX11_doDrop_54 : decode cX11_doDrop 54 = .ok (.bipush 16, 2) := by decide +kernel
theorem dX11_doDrop_56 : decode cX11_doDrop 56 = .ok (.invokestatic 54, 3) := by decide +kernel
theorem dX11_doDrop_59 : decode cX11_doDrop 59 = .ok (.aload_n 0, 1) := by decide +kernel
theorem dX11_doDrop_60 : decode cX11_doDrop 60 = .ok (.iload_n 1, 1) := by decide +kernel
theorem dX11_doDrop_61 : decode cX11_doDrop 61 = .ok (.iconst 2, 1) := by decide +kernel
theorem dX11_doDrop_62 : decode cX11_doDrop 62 = .ok (.aload_n 0, 1) := by decide +kernel
theorem dX11_doDrop_63 : decode cX11_doDrop 63 = .ok (.iload_n 1, 1) := by decide +kernel
theorem dX11_doDrop_64 : decode cX11_doDrop 64 = .ok (.iconst 2, 1) := by decide +kernel
theorem dX11_doDrop_65 : decode cX11_doDrop 65 = .ok (.invokevirtual 144, 3) := by decide +kernel
theorem dX11_doDrop_68 : decode cX11_doDrop 68 = .ok (.iload 4, 2) := by decide +kernel
theorem dX11_doDrop_70 : decode cX11_doDrop 70 = .ok (.iadd, 1) := by decide +kernel
theorem dX11_doDrop_71 : decode cX11_doDrop 71 = .ok (.invokevirtual 134, 3) := by decide +kernel
theorem dX11_doDrop_74 : decode cX11_doDrop 74 = .ok (.aload_n 0, 1) := by decide +kernel
theorem dX11_doDrop_75 : decode cX11_doDrop 75 = .ok (.iload_n 1, 1) := by decide +kernel
theorem dX11_doDrop_76 : decode cX11_doDrop 76 = .ok (.iconst 3, 1) := by decide +kernel
theorem dX11_doDrop_77 : decode cX11_doDrop 77 = .ok (.aload_n 0, 1) := by decide +kernel
theorem dX11_doDrop_78 : decode cX11_doDrop 78 = .ok (.iload_n 1, 1) := by decide +kernel
theorem dX11_doDrop_79 : decode cX11_doDrop 79 = .ok (.iconst 3, 1) := by decide +kernel
theorem dX11_doDrop_80 : decode cX11_doDrop 80 = .ok (.invokevirtual 144, 3) := by decide +kernel
theorem dX11_doDrop_83 : decode cX11_doDrop 83 = .ok (.aload_n 0, 1) := by decide +kernel
theorem dX11_doDrop_84 : decode cX11_doDrop 84 = .ok (.getfield 150, 3) := by decide +kernel
theorem dX11_doDrop_87 : decode cX11_doDrop 87 = .ok (.iadd, 1) := by decide +kernel
theorem dX11_doDrop_88 : decode cX11_doDrop 88 = .ok (.invokevirtual 134, 3) := by decide +kernel
theorem dX11_doDrop_91 : decode cX11_doDrop 91 = .ok (.iload 6, 2) := by decide +kernel
theorem dX11_doDrop_93 : decode cX11_doDrop 93 = .ok (.ireturn, 1) := by decide +kernel
abbrev rmX11_doDrop : Room := { frames := 6, cells := 0, slots := 0, locals := 154 }
set_option maxHeartbeats 4000000 in
set_option maxRecDepth 100000 in
theorem metX11_doDrop {l : Launch} {s0 : State} {b B : Nat} {D : va_G} {T : Nat → ClassId} (F : FX l s0 b D T B) {X : Nat → Prop} (hX : ∀ o, o < 12 → ¬ X (B + o)) {N : Nat} {μ : Mem} {a0 : Nat} {a1 : Int32} {a2 : Int32} {a3 : Int32} {a4 : Int32} {r : Mem × Int32} (k0 : IsMo a0) (h : fX11_doDrop N μ a0 a1 a2 a3 a4 = some r) : gMet l yX11_doDrop cX11_doDrop 7 (some .int) rmX11_doDrop [.ref (B + a0), .int a1, .int a2, .int a3, .int a4] (gWM D T B μ) (KC s0 X) (some (.int r.2)) (gWM D T B r.1) (gA B X) 0 0 := by
  refine gI_of RX11 (by decide +kernel) rfl (Nat.le_of_ble_eq_true rfl) ?_
  intro p e s m args below meth c ls Q hx hb hlocks hml hown hts hW hk hl hS hend
  have hC := FX_C F hk hx hb hown hts
  have hA := gA_allM hX
  have hl : lv_has ls 7 [(0, .ref (B + a0)), (1, .int a1), (2, .int a2), (3, .int a3), (4, .int a4)] := hl
  unfold fX11_doDrop at h
  refine lv_aload_n hx hb dX11_doDrop_0 rfl (lv_at hl 0 rfl) ?_
  refine lv_iload_n hx hb dX11_doDrop_1 rfl (lv_at hl 1 rfl) ?_
  refine lv_iload_n hx hb dX11_doDrop_2 rfl (lv_at hl 2 rfl) ?_
  refine lv_iload_n hx hb dX11_doDrop_3 rfl (lv_at hl 3 rfl) ?_
  refine lv_iload hx hb dX11_doDrop_4 (lv_at hl 4 rfl) ?_
  obtain ⟨r1, hcall, h⟩ := bd_out h
  refine g0_callV (As := [.int a1, .int a2, .int a3, .int a4]) hC hml hS hW (KC_at hk hS F.2.2.2.2) KC_blind (metX11_wrongDrop F hX k0 hcall) ml_X11_163 (gw_recv hC hW k0.1 (k0.2.1 T B (μ a0)) rfl) ⟨rfl, rfl, Nat.le_of_ble_eq_true rfl, Nat.le_of_ble_eq_true rfl⟩ rfl hl.1 rfl (Nat.le_of_ble_eq_true rfl) dX11_doDrop_6 ⟨Nat.le_of_ble_eq_true rfl, Nat.le_of_ble_eq_true rfl⟩ (fun H locs hW hS => ?_)
  refine lv_istore (lv' := [(5, .int r1), (0, .ref (B + a0)), (1, .int a1), (2, .int a2), (3, .int a3), (4, .int a4)]) hx hb dX11_doDrop_9 hl (by decide) rfl (fun ls hl => ?_)
  refine lv_iload hx hb dX11_doDrop_11 (lv_at hl 0 rfl) ?_
  refine lv_if_le (tgt := 23) hx hb dX11_doDrop_13 (by decide) (fun c2 => ?_) (fun c2 => ?_)
  · replace h := ite_t c2 h
    refine lv_aload_n hx hb dX11_doDrop_23 rfl (lv_at hl 1 rfl) ?_
    refine lv_iload_n hx hb dX11_doDrop_24 rfl (lv_at hl 2 rfl) ?_
    refine lv_iload_n hx hb dX11_doDrop_25 rfl (lv_at hl 3 rfl) ?_
    refine lv_iload_n hx hb dX11_doDrop_26 rfl (lv_at hl 4 rfl) ?_
    refine lv_iload hx hb dX11_doDrop_27 (lv_at hl 5 rfl) ?_
    obtain ⟨r3, hcall, h⟩ := bd_out h
    refine g0_callV (As := [.int a1, .int a2, .int a3, .int a4]) hC hml hS hW (KC_at hk hS F.2.2.2.2) KC_blind (metX11_tries F hX k0 hcall) ml_X11_166 (gw_recv hC hW k0.1 (k0.2.1 T B (μ a0)) rfl) ⟨rfl, rfl, Nat.le_of_ble_eq_true rfl, Nat.le_of_ble_eq_true rfl⟩ rfl hl.1 rfl (Nat.le_of_ble_eq_true rfl) dX11_doDrop_29 ⟨Nat.le_of_ble_eq_true rfl, Nat.le_of_ble_eq_true rfl⟩ (fun H locs hW hS => ?_)
    refine lv_istore (lv' := [(6, .int r3.2), (5, .int r1), (0, .ref (B + a0)), (1, .int a1), (2, .int a2), (3, .int a3), (4, .int a4)]) hx hb dX11_doDrop_32 hl (by decide) rfl (fun ls hl => ?_)
    refine lv_aload_n hx hb dX11_doDrop_34 rfl (lv_at hl 2 rfl) ?_
    refine gw_get (v := .ref (B + (a0 + 7))) hC hW fl_X11_28 k0.1 (k0.2.1 T B (r3.1 a0)) rfl dX11_doDrop_35 ?_
    refine lv_iconst (v := 0) hx hb dX11_doDrop_38 (by decide) ?_
    refine lv_aload_n hx hb dX11_doDrop_39 rfl (lv_at hl 2 rfl) ?_
    refine gw_get (v := .ref (B + (a0 + 1))) hC hW fl_X11_9 k0.1 (k0.2.1 T B (r3.1 a0)) rfl dX11_doDrop_40 ?_
    refine lv_bipush (v := 82) hx hb dX11_doDrop_43 (by decide) ?_
    refine lv_sipush (v := 147) hx hb dX11_doDrop_45 (by decide) ?_
    refine lv_iload_n hx hb dX11_doDrop_48 rfl (lv_at hl 3 rfl) ?_
    refine lv_imul hx hb dX11_doDrop_49 ?_
    refine lv_iadd hx hb dX11_doDrop_50 ?_
    refine lv_bipush (v := 7) hx hb dX11_doDrop_51 (by decide) ?_
    refine lv_iadd hx hb dX11_doDrop_53 ?_
    refine lv_bipush (v := 16) hx hb dX11_doDrop_54 (by decide) ?_
    obtain ⟨μ4, e5, hc6, h⟩ := acp_o h
    refine gw_copy hC (hml.trans hl.1.symm) lm_X11_54 lb_copy.1 lb_copy.2.1 lb_copy.2.2 hS hW hA k0.2.2.2.2.2.2.2.2.1.1 k0.2.2.1.1 (k0.2.2.2.2.2.2.2.2.1.2 T B) (k0.2.2.1.2 T B) (t0 := 0) rfl e5 hc6 (Nat.le_of_ble_eq_true rfl) (Nat.le_of_ble_eq_true rfl) dX11_doDrop_56 (fun H locs hW hS => ?_)
    refine lv_aload_n hx hb dX11_doDrop_59 rfl (lv_at hl 2 rfl) ?_
    refine lv_iload_n hx hb dX11_doDrop_60 rfl (lv_at hl 3 rfl) ?_
    refine lv_iconst (v := 2) hx hb dX11_doDrop_61 (by decide) ?_
    refine lv_aload_n hx hb dX11_doDrop_62 rfl (lv_at hl 2 rfl) ?_
    refine lv_iload_n hx hb dX11_doDrop_63 rfl (lv_at hl 3 rfl) ?_
    refine lv_iconst (v := 2) hx hb dX11_doDrop_64 (by decide) ?_
    obtain ⟨r7, hcall, h⟩ := bd_out h
    refine g0_callV (As := [.int a1, .int 2]) hC hml hS hW (KC_at hk hS F.2.2.2.2) KC_blind (metX11_of F hX k0 hcall) ml_X11_144 (gw_recv hC hW k0.1 (k0.2.1 T B (μ4 a0)) rfl) ⟨rfl, rfl, Nat.le_of_ble_eq_true rfl, Nat.le_of_ble_eq_true rfl⟩ rfl hl.1 rfl (Nat.le_of_ble_eq_true rfl) dX11_doDrop_65 ⟨Nat.le_of_ble_eq_true rfl, Nat.le_of_ble_eq_true rfl⟩ (fun H locs hW hS => ?_)
    refine lv_iload hx hb dX11_doDrop_68 (lv_at hl 6 rfl) ?_
    refine lv_iadd hx hb dX11_doDrop_70 ?_
    obtain ⟨r8, hcall, h⟩ := bd_out h
    refine g0_callV (As := [.int a1, .int 2, .int (r7 + a4)]) hC hml hS hW (KC_at hk hS F.2.2.2.2) KC_blind (metX11_sets F hX k0 hcall) ml_X11_134 (gw_recv hC hW k0.1 (k0.2.1 T B (μ4 a0)) rfl) ⟨rfl, rfl, Nat.le_of_ble_eq_true rfl, Nat.le_of_ble_eq_true rfl⟩ rfl hl.1 rfl (Nat.le_of_ble_eq_true rfl) dX11_doDrop_71 ⟨Nat.le_of_ble_eq_true rfl, Nat.le_of_ble_eq_true rfl⟩ (fun H locs hW hS => ?_)
    refine lv_aload_n hx hb dX11_doDrop_74 rfl (lv_at hl 2 rfl) ?_
    refine lv_iload_n hx hb dX11_doDrop_75 rfl (lv_at hl 3 rfl) ?_
    refine lv_iconst (v := 3) hx hb dX11_doDrop_76 (by decide) ?_
    refine lv_aload_n hx hb dX11_doDrop_77 rfl (lv_at hl 2 rfl) ?_
    refine lv_iload_n hx hb dX11_doDrop_78 rfl (lv_at hl 3 rfl) ?_
    refine lv_iconst (v := 3) hx hb dX11_doDrop_79 (by decide) ?_
    obtain ⟨r9, hcall, h⟩ := bd_out h
    refine g0_callV (As := [.int a1, .int 3]) hC hml hS hW (KC_at hk hS F.2.2.2.2) KC_blind (metX11_of F hX k0 hcall) ml_X11_144 (gw_recv hC hW k0.1 (k0.2.1 T B (r8 a0)) rfl) ⟨rfl, rfl, Nat.le_of_ble_eq_true rfl, Nat.le_of_ble_eq_true rfl⟩ rfl hl.1 rfl (Nat.le_of_ble_eq_true rfl) dX11_doDrop_80 ⟨Nat.le_of_ble_eq_true rfl, Nat.le_of_ble_eq_true rfl⟩ (fun H locs hW hS => ?_)
    refine lv_aload_n hx hb dX11_doDrop_83 rfl (lv_at hl 2 rfl) ?_
    refine gw_get (v := .int (r8 a0 13)) hC hW fl_X11_150.1 k0.1 (k0.2.1 T B (r8 a0)) rfl dX11_doDrop_84 ?_
    refine lv_iadd hx hb dX11_doDrop_87 ?_
    obtain ⟨r10, hcall, h⟩ := bd_out h
    refine g0_callV (As := [.int a1, .int 3, .int (r9 + (r8 a0 13))]) hC hml hS hW (KC_at hk hS F.2.2.2.2) KC_blind (metX11_sets F hX k0 hcall) ml_X11_134 (gw_recv hC hW k0.1 (k0.2.1 T B (r8 a0)) rfl) ⟨rfl, rfl, Nat.le_of_ble_eq_true rfl, Nat.le_of_ble_eq_true rfl⟩ rfl hl.1 rfl (Nat.le_of_ble_eq_true rfl) dX11_doDrop_88 ⟨Nat.le_of_ble_eq_true rfl, Nat.le_of_ble_eq_true rfl⟩ (fun H locs hW hS => ?_)
    refine lv_iload hx hb dX11_doDrop_91 (lv_at hl 0 rfl) ?_
    cases h
    exact hend dX11_doDrop_93 hW hS (Nat.le_of_ble_eq_true rfl) (Nat.le_of_ble_eq_true rfl)
  · replace h := ite_f c2 h
    refine lv_aload_n hx hb dX11_doDrop_16 rfl (lv_at hl 1 rfl) ?_
    refine lv_iload hx hb dX11_doDrop_17 (lv_at hl 0 rfl) ?_
    obtain ⟨r11, hcall, h⟩ := bd_out h
    refine g0_callV (As := [.int r1]) hC hml hS hW (KC_at hk hS F.2.2.2.2) KC_blind (metX11_fails F hX k0 hcall) ml_X11_69 (gw_recv hC hW k0.1 (k0.2.1 T B (μ a0)) rfl) ⟨rfl, rfl, Nat.le_of_ble_eq_true rfl, Nat.le_of_ble_eq_true rfl⟩ rfl hl.1 rfl (Nat.le_of_ble_eq_true rfl) dX11_doDrop_19 ⟨Nat.le_of_ble_eq_true rfl, Nat.le_of_ble_eq_true rfl⟩ (fun H locs hW hS => ?_)
    cases h
    exact hend dX11_doDrop_22 hW hS (Nat.le_of_ble_eq_true rfl) (Nat.le_of_ble_eq_true rfl)

theorem dX11_drop_0 : decode cX11_drop 0 = .ok (.aload_n 0, 1) := by decide +kernel
theorem dX11_drop_1 : decode cX11_drop 1 = .ok (.invokevirtual 83, 3) := by decide +kernel
theorem dX11_drop_4 : decode cX11_drop 4 = .ok (.aload_n 0, 1) := by decide +kernel
theorem dX11_drop_5 : decode cX11_drop 5 = .ok (.aload_n 0, 1) := by decide +kernel
theorem dX11_drop_6 : decode cX11_drop 6 = .ok (.iload_n 1, 1) := by decide +kernel
theorem dX11_drop_7 : decode cX11_drop 7 = .ok (.iload_n 2, 1) := by decide +kernel
theorem dX11_drop_8 : decode cX11_drop 8 = .ok (.iload_n 3, 1) := by decide +kernel
theorem dX11_drop_9 : decode cX11_drop 9 = .ok (.iload 4, 2) := by decide +kernel
theorem dX11_drop_11 : decode cX11_drop 11 = .ok (.invokevirtual 169, 3) := by decide +kernel
theorem dX11_drop_14 : decode cX11_drop 14 = .ok (.invokevirtual 89, 3) := by decide +kernel
theorem dX11_drop_17 : decode cX11_drop 17 = .ok (.ireturn, 1) := by decide +kernel
abbrev rmX11_drop : Room := { frames := 7, cells := 0, slots := 0, locals := 180 }
set_option maxHeartbeats 4000000 in
set_option maxRecDepth 100000 in
theorem metX11_drop {l : Launch} {s0 : State} {b B : Nat} {D : va_G} {T : Nat → ClassId} (F : FX l s0 b D T B) {X : Nat → Prop} (hX : ∀ o, o < 12 → ¬ X (B + o)) {N : Nat} {μ : Mem} {a0 : Nat} {a1 : Int32} {a2 : Int32} {a3 : Int32} {a4 : Int32} {r : Mem × Int32} (k0 : IsMo a0) (h : fX11_drop N μ a0 a1 a2 a3 a4 = some r) : gMet l yX11_drop cX11_drop 5 (some .int) rmX11_drop [.ref (B + a0), .int a1, .int a2, .int a3, .int a4] (gWM D T B μ) (KC s0 X) (some (.int r.2)) (gWM D T B r.1) (gA B X) 0 0 := by
  refine gI_of RX11 (by decide +kernel) rfl (Nat.le_of_ble_eq_true rfl) ?_
  intro p e s m args below meth c ls Q hx hb hlocks hml hown hts hW hk hl hS hend
  have hC := FX_C F hk hx hb hown hts
  have hA := gA_allM hX
  have hl : lv_has ls 5 [(0, .ref (B + a0)), (1, .int a1), (2, .int a2), (3, .int a3), (4, .int a4)] := hl
  unfold fX11_drop at h
  refine lv_aload_n hx hb dX11_drop_0 rfl (lv_at hl 0 rfl) ?_
  obtain ⟨r1, hcall, h⟩ := bd_out h
  refine g0_callV (As := []) hC hml hS hW (KC_at hk hS F.2.2.2.2) KC_blind (metX11_keep F hX k0 hcall) ml_X11_83 (gw_recv hC hW k0.1 (k0.2.1 T B (μ a0)) rfl) ⟨rfl, rfl, Nat.le_of_ble_eq_true rfl, Nat.le_of_ble_eq_true rfl⟩ rfl hl.1 rfl (Nat.le_of_ble_eq_true rfl) dX11_drop_1 ⟨Nat.le_of_ble_eq_true rfl, Nat.le_of_ble_eq_true rfl⟩ (fun H locs hW hS => ?_)
  refine lv_aload_n hx hb dX11_drop_4 rfl (lv_at hl 0 rfl) ?_
  refine lv_aload_n hx hb dX11_drop_5 rfl (lv_at hl 0 rfl) ?_
  refine lv_iload_n hx hb dX11_drop_6 rfl (lv_at hl 1 rfl) ?_
  refine lv_iload_n hx hb dX11_drop_7 rfl (lv_at hl 2 rfl) ?_
  refine lv_iload_n hx hb dX11_drop_8 rfl (lv_at hl 3 rfl) ?_
  refine lv_iload hx hb dX11_drop_9 (lv_at hl 4 rfl) ?_
  obtain ⟨r2, hcall, h⟩ := bd_out h
  refine g0_callV (As := [.int a1, .int a2, .int a3, .int a4]) hC hml hS hW (KC_at hk hS F.2.2.2.2) KC_blind (metX11_doDrop F hX k0 hcall) ml_X11_169 (gw_recv hC hW k0.1 (k0.2.1 T B (r1 a0)) rfl) ⟨rfl, rfl, Nat.le_of_ble_eq_true rfl, Nat.le_of_ble_eq_true rfl⟩ rfl hl.1 rfl (Nat.le_of_ble_eq_true rfl) dX11_drop_11 ⟨Nat.le_of_ble_eq_true rfl, Nat.le_of_ble_eq_true rfl⟩ (fun H locs hW hS => ?_)
  obtain ⟨r3, hcall, h⟩ := bd_out h
  refine g0_callV (As := [.int r2.2]) hC hml hS hW (KC_at hk hS F.2.2.2.2) KC_blind (metX11_ends F hX k0 hcall) ml_X11_89 (gw_recv hC hW k0.1 (k0.2.1 T B (r2.1 a0)) rfl) ⟨rfl, rfl, Nat.le_of_ble_eq_true rfl, Nat.le_of_ble_eq_true rfl⟩ rfl hl.1 rfl (Nat.le_of_ble_eq_true rfl) dX11_drop_14 ⟨Nat.le_of_ble_eq_true rfl, Nat.le_of_ble_eq_true rfl⟩ (fun H locs hW hS => ?_)
  cases h
  exact hend dX11_drop_17 hW hS (Nat.le_of_ble_eq_true rfl) (Nat.le_of_ble_eq_true rfl)

theorem dX11_topplingsIf_0 : decode cX11_topplingsIf 0 = .ok (.aload_n 0, 1) := by decide +kernel
theorem dX11_topplingsIf_1 : decode cX11_topplingsIf 1 = .ok (.aload_n 0, 1) := by decide +kernel
theorem dX11_topplingsIf_2 : decode cX11_topplingsIf 2 = .ok (.iload_n 1, 1) := by decide +kernel
theorem dX11_topplingsIf_3 : decode cX11_topplingsIf 3 = .ok (.iload_n 2, 1) := by decide +kernel
theorem dX11_topplingsIf_4 : decode cX11_topplingsIf 4 = .ok (.iload_n 3, 1) := by decide +kernel
theorem dX11_topplingsIf_5 : decode cX11_topplingsIf 5 = .ok (.iload 4, 2) := by decide +kernel
theorem dX11_topplingsIf_7 : decode cX11_topplingsIf 7 = .ok (.invokevirtual 163, 3) := by decide +kernel
theorem dX11_topplingsIf_10 : decode cX11_topplingsIf 10 = .ok (.putfield 51, 3) := by decide +kernel
theorem dX11_topplingsIf_13 : decode cX11_topplingsIf 13 = .ok (.aload_n 0, 1) := by decide +kernel
theorem dX11_topplingsIf_14 : decode cX11_topplingsIf 14 = .ok (.getfield 51, 3) := by decide +kernel
theorem dX11_topplingsIf_17 : decode cX11_topplingsIf 17 = .ok (.ifCond .le 7, 3) := by decide +kernel
theorem dX11_topplingsIf_20 : decode cX11_topplingsIf 20 = .ok (.iconst 0, 1) := by decide +kernel
theorem dX11_topplingsIf_21 : decode cX11_topplingsIf 21 = .ok (.goto 12, 3) := by decide +kernel
theorem dX11_topplingsIf_24 : decode cX11_topplingsIf 24 = .ok (.aload_n 0, 1) := by decide +kernel
theorem dX11_topplingsIf_25 : decode cX11_topplingsIf 25 = .ok (.iload_n 1, 1) := by decide +kernel
theorem dX11_topplingsIf_26 : decode cX11_topplingsIf 26 = .ok (.iload_n 2, 1) := by decide +kernel
theorem dX11_topplingsIf_27 : decode cX11_topplingsIf 27 = .ok (.iload_n 3, 1) := by decide +kernel
theorem dX11_topplingsIf_28 : decode cX11_topplingsIf 28 = .ok (.iload 4, 2) := by decide +kernel
theorem dX11_topplingsIf_30 : decode cX11_topplingsIf 30 = .ok (.invokevirtual 166, 3) := by decide +kernel
theorem dX11_topplingsIf_33 : decode cX11_topplingsIf 33 = .ok (.ireturn, 1) := by decide +kernel
abbrev rmX11_topplingsIf : Room := { frames := 6, cells := 0, slots := 0, locals := 154 }
set_option maxHeartbeats 4000000 in
set_option maxRecDepth 100000 in
theorem metX11_topplingsIf {l : Launch} {s0 : State} {b B : Nat} {D : va_G} {T : Nat → ClassId} (F : FX l s0 b D T B) {X : Nat → Prop} (hX : ∀ o, o < 12 → ¬ X (B + o)) {N : Nat} {μ : Mem} {a0 : Nat} {a1 : Int32} {a2 : Int32} {a3 : Int32} {a4 : Int32} {r : Mem × Int32} (k0 : IsMo a0) (h : fX11_topplingsIf N μ a0 a1 a2 a3 a4 = some r) : gMet l yX11_topplingsIf cX11_topplingsIf 5 (some .int) rmX11_topplingsIf [.ref (B + a0), .int a1, .int a2, .int a3, .int a4] (gWM D T B μ) (KC s0 X) (some (.int r.2)) (gWM D T B r.1) (gA B X) 0 0 := by
  refine gI_of RX11 (by decide +kernel) rfl (Nat.le_of_ble_eq_true rfl) ?_
  intro p e s m args below meth c ls Q hx hb hlocks hml hown hts hW hk hl hS hend
  have hC := FX_C F hk hx hb hown hts
  have hA := gA_allM hX
  have hl : lv_has ls 5 [(0, .ref (B + a0)), (1, .int a1), (2, .int a2), (3, .int a3), (4, .int a4)] := hl
  unfold fX11_topplingsIf at h
  refine lv_aload_n hx hb dX11_topplingsIf_0 rfl (lv_at hl 0 rfl) ?_
  refine lv_aload_n hx hb dX11_topplingsIf_1 rfl (lv_at hl 0 rfl) ?_
  refine lv_iload_n hx hb dX11_topplingsIf_2 rfl (lv_at hl 1 rfl) ?_
  refine lv_iload_n hx hb dX11_topplingsIf_3 rfl (lv_at hl 2 rfl) ?_
  refine lv_iload_n hx hb dX11_topplingsIf_4 rfl (lv_at hl 3 rfl) ?_
  refine lv_iload hx hb dX11_topplingsIf_5 (lv_at hl 4 rfl) ?_
  obtain ⟨r1, hcall, h⟩ := bd_out h
  refine g0_callV (As := [.int a1, .int a2, .int a3, .int a4]) hC hml hS hW (KC_at hk hS F.2.2.2.2) KC_blind (metX11_wrongDrop F hX k0 hcall) ml_X11_163 (gw_recv hC hW k0.1 (k0.2.1 T B (μ a0)) rfl) ⟨rfl, rfl, Nat.le_of_ble_eq_true rfl, Nat.le_of_ble_eq_true rfl⟩ rfl hl.1 rfl (Nat.le_of_ble_eq_true rfl) dX11_topplingsIf_7 ⟨Nat.le_of_ble_eq_true rfl, Nat.le_of_ble_eq_true rfl⟩ (fun H locs hW hS => ?_)
  obtain ⟨μ2, e3, h⟩ := lt_out h
  refine gq_put hC hS hW hA fl_X11_51 k0.1 (k0.2.1 T B) (Nat.le_of_ble_eq_true rfl) rfl rfl rfl e3 dX11_topplingsIf_10 (fun H locs hW hS => ?_)
  refine lv_aload_n hx hb dX11_topplingsIf_13 rfl (lv_at hl 0 rfl) ?_
  refine gw_get (v := .int (μ2 a0 6)) hC hW fl_X11_51.1 k0.1 (k0.2.1 T B (μ2 a0)) rfl dX11_topplingsIf_14 ?_
  obtain ⟨j6, hj8, h⟩ := jn2_o h
  have J7 : ∀ (y4 : Int32) (μ5 : Mem), j6 y4 μ5 = some r → ∀ (H : Heap) (locs : List Loc) (ls : Array Slot), gWM D T B μ5 H → va_S (gA B X) s.heap H locs → lv_has ls 5 [] → W p l e rmX11_topplingsIf s m args below meth c H locs 0 0 Q (F0 m 33 ls [.int y4]) := by
    clear h hW hS hl
    intro y4 μ5 h H locs ls hW hS hl
    replace h := (hj8 y4 μ5).symm.trans h
    cases h
    exact hend dX11_topplingsIf_33 hW hS (Nat.le_of_ble_eq_true rfl) (Nat.le_of_ble_eq_true rfl)
  refine lv_if_le (tgt := 24) hx hb dX11_topplingsIf_17 (by decide) (fun c9 => ?_) (fun c9 => ?_)
  · replace h := ite_t c9 h
    refine lv_aload_n hx hb dX11_topplingsIf_24 rfl (lv_at hl 0 rfl) ?_
    refine lv_iload_n hx hb dX11_topplingsIf_25 rfl (lv_at hl 1 rfl) ?_
    refine lv_iload_n hx hb dX11_topplingsIf_26 rfl (lv_at hl 2 rfl) ?_
    refine lv_iload_n hx hb dX11_topplingsIf_27 rfl (lv_at hl 3 rfl) ?_
    refine lv_iload hx hb dX11_topplingsIf_28 (lv_at hl 4 rfl) ?_
    obtain ⟨r10, hcall, h⟩ := bd_out h
    refine g0_callV (As := [.int a1, .int a2, .int a3, .int a4]) hC hml hS hW (KC_at hk hS F.2.2.2.2) KC_blind (metX11_tries F hX k0 hcall) ml_X11_166 (gw_recv hC hW k0.1 (k0.2.1 T B (μ2 a0)) rfl) ⟨rfl, rfl, Nat.le_of_ble_eq_true rfl, Nat.le_of_ble_eq_true rfl⟩ rfl hl.1 rfl (Nat.le_of_ble_eq_true rfl) dX11_topplingsIf_30 ⟨Nat.le_of_ble_eq_true rfl, Nat.le_of_ble_eq_true rfl⟩ (fun H locs hW hS => ?_)
    exact J7 _ _ h _ _ _ hW hS (lv_sub hl [] rfl)
  · replace h := ite_f c9 h
    refine lv_iconst (v := 0) hx hb dX11_topplingsIf_20 (by decide) ?_
    refine lv_goto (tgt := 33) hx hb dX11_topplingsIf_21 (by decide) ?_
    exact J7 _ _ h _ _ _ hW hS (lv_sub hl [] rfl)

theorem dX11_topplingsIfByRounds_0 : decode cX11_topplingsIfByRounds 0 = .ok (.aload_n 0, 1) := by decide +kernel
theorem dX11_topplingsIfByRounds_1 : decode cX11_topplingsIfByRounds 1 = .ok (.iload_n 1, 1) := by decide +kernel
theorem dX11_topplingsIfByRounds_2 : decode cX11_topplingsIfByRounds 2 = .ok (.iload_n 2, 1) := by decide +kernel
theorem dX11_topplingsIfByRounds_3 : decode cX11_topplingsIfByRounds 3 = .ok (.iload_n 3, 1) := by decide +kernel
theorem dX11_topplingsIfByRounds_4 : decode cX11_topplingsIfByRounds 4 = .ok (.iload 4, 2) := by decide +kernel
theorem dX11_topplingsIfByRounds_6 : decode cX11_topplingsIfByRounds 6 = .ok (.invokevirtual 172, 3) := by decide +kernel
theorem dX11_topplingsIfByRounds_9 : decode cX11_topplingsIfByRounds 9 = .ok (.ireturn, 1) := by decide +kernel
abbrev rmX11_topplingsIfByRounds : Room := { frames := 7, cells := 0, slots := 0, locals := 178 }
set_option maxHeartbeats 4000000 in
set_option maxRecDepth 100000 in
theorem metX11_topplingsIfByRounds {l : Launch} {s0 : State} {b B : Nat} {D : va_G} {T : Nat → ClassId} (F : FX l s0 b D T B) {X : Nat → Prop} (hX : ∀ o, o < 12 → ¬ X (B + o)) {N : Nat} {μ : Mem} {a0 : Nat} {a1 : Int32} {a2 : Int32} {a3 : Int32} {a4 : Int32} {r : Mem × Int32} (k0 : IsMo a0) (h : fX11_topplingsIfByRounds N μ a0 a1 a2 a3 a4 = some r) : gMet l yX11_topplingsIfByRounds cX11_topplingsIfByRounds 5 (some .int) rmX11_topplingsIfByRounds [.ref (B + a0), .int a1, .int a2, .int a3, .int a4] (gWM D T B μ) (KC s0 X) (some (.int r.2)) (gWM D T B r.1) (gA B X) 0 0 := by
  refine gI_of RX11 (by decide +kernel) rfl (Nat.le_of_ble_eq_true rfl) ?_
  intro p e s m args below meth c ls Q hx hb hlocks hml hown hts hW hk hl hS hend
  have hC := FX_C F hk hx hb hown hts
  have hA := gA_allM hX
  have hl : lv_has ls 5 [(0, .ref (B + a0)), (1, .int a1), (2, .int a2), (3, .int a3), (4, .int a4)] := hl
  unfold fX11_topplingsIfByRounds at h
  refine lv_aload_n hx hb dX11_topplingsIfByRounds_0 rfl (lv_at hl 0 rfl) ?_
  refine lv_iload_n hx hb dX11_topplingsIfByRounds_1 rfl (lv_at hl 1 rfl) ?_
  refine lv_iload_n hx hb dX11_topplingsIfByRounds_2 rfl (lv_at hl 2 rfl) ?_
  refine lv_iload_n hx hb dX11_topplingsIfByRounds_3 rfl (lv_at hl 3 rfl) ?_
  refine lv_iload hx hb dX11_topplingsIfByRounds_4 (lv_at hl 4 rfl) ?_
  obtain ⟨r1, hcall, h⟩ := bd_out h
  refine g0_callV (As := [.int a1, .int a2, .int a3, .int a4]) hC hml hS hW (KC_at hk hS F.2.2.2.2) KC_blind (metX11_topplingsIf F hX k0 hcall) ml_X11_172 (gw_recv hC hW k0.1 (k0.2.1 T B (μ a0)) rfl) ⟨rfl, rfl, Nat.le_of_ble_eq_true rfl, Nat.le_of_ble_eq_true rfl⟩ rfl hl.1 rfl (Nat.le_of_ble_eq_true rfl) dX11_topplingsIfByRounds_6 ⟨Nat.le_of_ble_eq_true rfl, Nat.le_of_ble_eq_true rfl⟩ (fun H locs hW hS => ?_)
  cases h
  exact hend dX11_topplingsIfByRounds_9 hW hS (Nat.le_of_ble_eq_true rfl) (Nat.le_of_ble_eq_true rfl)

theorem dX11_exhibitCount_0 : decode cX11_exhibitCount 0 = .ok (.aload_n 0, 1) := by decide +kernel
theorem dX11_exhibitCount_1 : decode cX11_exhibitCount 1 = .ok (.iconst 0, 1) := by decide +kernel
theorem dX11_exhibitCount_2 : decode cX11_exhibitCount 2 = .ok (.putfield 51, 3) := by decide +kernel
theorem dX11_exhibitCount_5 : decode cX11_exhibitCount 5 = .ok (.aload_n 0, 1) := by decide +kernel
theorem dX11_exhibitCount_6 : decode cX11_exhibitCount 6 = .ok (.getfield 9, 3) := by decide +kernel
theorem dX11_exhibitCount_9 : decode cX11_exhibitCount 9 = .ok (.iconst 1, 1) := by decide +kernel
theorem dX11_exhibitCount_10 : decode cX11_exhibitCount 10 = .ok (.iaload, 1) := by decide +kernel
theorem dX11_exhibitCount_11 : decode cX11_exhibitCount 11 = .ok (.ireturn, 1) := by decide +kernel
abbrev rmX11_exhibitCount : Room := { frames := 2, cells := 0, slots := 0, locals := 60 }
set_option maxHeartbeats 4000000 in
set_option maxRecDepth 100000 in
theorem metX11_exhibitCount {l : Launch} {s0 : State} {b B : Nat} {D : va_G} {T : Nat → ClassId} (F : FX l s0 b D T B) {X : Nat → Prop} (hX : ∀ o, o < 12 → ¬ X (B + o)) {N : Nat} {μ : Mem} {a0 : Nat} {r : Mem × Int32} (k0 : IsMo a0) (h : fX11_exhibitCount N μ a0 = some r) : gMet l yX11_exhibitCount cX11_exhibitCount 1 (some .int) rmX11_exhibitCount [.ref (B + a0)] (gWM D T B μ) (KC s0 X) (some (.int r.2)) (gWM D T B r.1) (gA B X) 0 0 := by
  refine gI_of RX11 (by decide +kernel) rfl (Nat.le_of_ble_eq_true rfl) ?_
  intro p e s m args below meth c ls Q hx hb hlocks hml hown hts hW hk hl hS hend
  have hC := FX_C F hk hx hb hown hts
  have hA := gA_allM hX
  have hl : lv_has ls 1 [(0, .ref (B + a0))] := hl
  unfold fX11_exhibitCount at h
  refine lv_aload_n hx hb dX11_exhibitCount_0 rfl (lv_at hl 0 rfl) ?_
  refine lv_iconst (v := 0) hx hb dX11_exhibitCount_1 (by decide) ?_
  obtain ⟨μ1, e2, h⟩ := lt_out h
  refine gq_put hC hS hW hA fl_X11_51 k0.1 (k0.2.1 T B) (Nat.le_of_ble_eq_true rfl) rfl rfl rfl e2 dX11_exhibitCount_2 (fun H locs hW hS => ?_)
  refine lv_aload_n hx hb dX11_exhibitCount_5 rfl (lv_at hl 0 rfl) ?_
  refine gw_get (v := .ref (B + (a0 + 1))) hC hW fl_X11_9 k0.1 (k0.2.1 T B (μ1 a0)) rfl dX11_exhibitCount_6 ?_
  refine lv_iconst (v := 1) hx hb dX11_exhibitCount_9 (by decide) ?_
  obtain ⟨v3, e4, hi5, h⟩ := ag_o h
  refine gq_iald hC hW k0.2.2.1.1 (k0.2.2.1.2 T B (μ1 (a0 + 1))) (t0 := 0) rfl e4 hi5 dX11_exhibitCount_10 ?_
  cases h
  exact hend dX11_exhibitCount_11 hW hS (Nat.le_of_ble_eq_true rfl) (Nat.le_of_ble_eq_true rfl)

theorem dX11_tells_0 : decode cX11_tells 0 = .ok (.aload_n 0, 1) := by decide +kernel
theorem dX11_tells_1 : decode cX11_tells 1 = .ok (.aload_n 0, 1) := by decide +kernel
theorem dX11_tells_2 : decode cX11_tells 2 = .ok (.iload_n 1, 1) := by decide +kernel
theorem dX11_tells_3 : decode cX11_tells 3 = .ok (.invokevirtual 141, 3) := by decide +kernel
theorem dX11_tells_6 : decode cX11_tells 6 = .ok (.invokevirtual 113, 3) := by decide +kernel
theorem dX11_tells_9 : decode cX11_tells 9 = .ok (.ifCond .eq 12, 3) := by decide +kernel
theorem dX11_tells_12 : decode cX11_tells 12 = .ok (.aload_n 0, 1) := by decide +kernel
theorem dX11_tells_13 : decode cX11_tells 13 = .ok (.iload_n 1, 1) := by decide +kernel
theorem dX11_tells_14 : decode cX11_tells 14 = .ok (.iload_n 2, 1) := by decide +kernel
theorem dX11_tells_15 : decode cX11_tells 15 = .ok (.invokevirtual 144, 3) := by decide +kernel
theorem dX11_tells_18 : decode cX11_tells 18 = .ok (.goto 4, 3) := by decide +kernel
theorem dX11_tells_21 : decode cX11_tells 21 = .ok (.iconst 0, 1) := by decide +kernel
theorem dX11_tells_22 : decode cX11_tells 22 = .ok (.ireturn, 1) := by decide +kernel
abbrev rmX11_tells : Room := { frames := 4, cells := 0, slots := 0, locals := 103 }
set_option maxHeartbeats 4000000 in
set_option maxRecDepth 100000 in
theorem metX11_tells {l : Launch} {s0 : State} {b B : Nat} {D : va_G} {T : Nat → ClassId} (F : FX l s0 b D T B) {X : Nat → Prop} (hX : ∀ o, o < 12 → ¬ X (B + o)) {N : Nat} {μ : Mem} {a0 : Nat} {a1 : Int32} {a2 : Int32} {r : Mem × Int32} (k0 : IsMo a0) (h : fX11_tells N μ a0 a1 a2 = some r) : gMet l yX11_tells cX11_tells 3 (some .int) rmX11_tells [.ref (B + a0), .int a1, .int a2] (gWM D T B μ) (KC s0 X) (some (.int r.2)) (gWM D T B r.1) (gA B X) 0 0 := by
  refine gI_of RX11 (by decide +kernel) rfl (Nat.le_of_ble_eq_true rfl) ?_
  intro p e s m args below meth c ls Q hx hb hlocks hml hown hts hW hk hl hS hend
  have hC := FX_C F hk hx hb hown hts
  have hA := gA_allM hX
  have hl : lv_has ls 3 [(0, .ref (B + a0)), (1, .int a1), (2, .int a2)] := hl
  unfold fX11_tells at h
  refine lv_aload_n hx hb dX11_tells_0 rfl (lv_at hl 0 rfl) ?_
  refine lv_aload_n hx hb dX11_tells_1 rfl (lv_at hl 0 rfl) ?_
  refine lv_iload_n hx hb dX11_tells_2 rfl (lv_at hl 1 rfl) ?_
  obtain ⟨r1, hcall, h⟩ := bd_out h
  refine g0_callV (As := [.int a1]) hC hml hS hW (KC_at hk hS F.2.2.2.2) KC_blind (metX11_isExhibit F hX k0 hcall) ml_X11_141 (gw_recv hC hW k0.1 (k0.2.1 T B (μ a0)) rfl) ⟨rfl, rfl, Nat.le_of_ble_eq_true rfl, Nat.le_of_ble_eq_true rfl⟩ rfl hl.1 rfl (Nat.le_of_ble_eq_true rfl) dX11_tells_3 ⟨Nat.le_of_ble_eq_true rfl, Nat.le_of_ble_eq_true rfl⟩ (fun H locs hW hS => ?_)
  obtain ⟨r2, hcall, h⟩ := bd_out h
  refine g0_callV (As := [.int (b2i r1)]) hC hml hS hW (KC_at hk hS F.2.2.2.2) KC_blind (metX11_isThere F hX k0 hcall) ml_X11_113 (gw_recv hC hW k0.1 (k0.2.1 T B (μ a0)) rfl) ⟨rfl, rfl, Nat.le_of_ble_eq_true rfl, Nat.le_of_ble_eq_true rfl⟩ rfl hl.1 rfl (Nat.le_of_ble_eq_true rfl) dX11_tells_6 ⟨Nat.le_of_ble_eq_true rfl, Nat.le_of_ble_eq_true rfl⟩ (fun H locs hW hS => ?_)
  obtain ⟨j4, hj6, h⟩ := jn1_o h
  have J5 : ∀ (y3 : Int32), j4 y3 = some r → ∀ (H : Heap) (locs : List Loc) (ls : Array Slot), gWM D T B r2.1 H → va_S (gA B X) s.heap H locs → lv_has ls 3 [] → W p l e rmX11_tells s m args below meth c H locs 0 0 Q (F0 m 22 ls [.int y3]) := by
    clear h hW hS hl
    intro y3 h H locs ls hW hS hl
    replace h := (hj6 y3).symm.trans h
    cases h
    exact hend dX11_tells_22 hW hS (Nat.le_of_ble_eq_true rfl) (Nat.le_of_ble_eq_true rfl)
  refine gw_if_eqZ (tgt := 21) hx hb dX11_tells_9 (by decide) (fun c7 => ?_) (fun c7 => ?_)
  · replace h := cond_f c7 h
    refine lv_iconst (v := 0) hx hb dX11_tells_21 (by decide) ?_
    exact J5 _ h _ _ _ hW hS (lv_sub hl [] rfl)
  · replace h := cond_t c7 h
    refine lv_aload_n hx hb dX11_tells_12 rfl (lv_at hl 0 rfl) ?_
    refine lv_iload_n hx hb dX11_tells_13 rfl (lv_at hl 1 rfl) ?_
    refine lv_iload_n hx hb dX11_tells_14 rfl (lv_at hl 2 rfl) ?_
    obtain ⟨r8, hcall, h⟩ := bd_out h
    refine g0_callV (As := [.int a1, .int a2]) hC hml hS hW (KC_at hk hS F.2.2.2.2) KC_blind (metX11_of F hX k0 hcall) ml_X11_144 (gw_recv hC hW k0.1 (k0.2.1 T B (r2.1 a0)) rfl) ⟨rfl, rfl, Nat.le_of_ble_eq_true rfl, Nat.le_of_ble_eq_true rfl⟩ rfl hl.1 rfl (Nat.le_of_ble_eq_true rfl) dX11_tells_15 ⟨Nat.le_of_ble_eq_true rfl, Nat.le_of_ble_eq_true rfl⟩ (fun H locs hW hS => ?_)
    refine lv_goto (tgt := 22) hx hb dX11_tells_18 (by decide) ?_
    exact J5 _ h _ _ _ hW hS (lv_sub hl [] rfl)

theorem dX11_roomOf_0 : decode cX11_roomOf 0 = .ok (.aload_n 0, 1) := by decide +kernel
theorem dX11_roomOf_1 : decode cX11_roomOf 1 = .ok (.iload_n 1, 1) := by decide +kernel
theorem dX11_roomOf_2 : decode cX11_roomOf 2 = .ok (.iconst 0, 1) := by decide +kernel
theorem dX11_roomOf_3 : decode cX11_roomOf 3 = .ok (.invokevirtual 175, 3) := by decide +kernel
theorem dX11_roomOf_6 : decode cX11_roomOf 6 = .ok (.ireturn, 1) := by decide +kernel
abbrev rmX11_roomOf : Room := { frames := 5, cells := 0, slots := 0, locals := 125 }
set_option maxHeartbeats 4000000 in
set_option maxRecDepth 100000 in
theorem metX11_roomOf {l : Launch} {s0 : State} {b B : Nat} {D : va_G} {T : Nat → ClassId} (F : FX l s0 b D T B) {X : Nat → Prop} (hX : ∀ o, o < 12 → ¬ X (B + o)) {N : Nat} {μ : Mem} {a0 : Nat} {a1 : Int32} {r : Mem × Int32} (k0 : IsMo a0) (h : fX11_roomOf N μ a0 a1 = some r) : gMet l yX11_roomOf cX11_roomOf 2 (some .int) rmX11_roomOf [.ref (B + a0), .int a1] (gWM D T B μ) (KC s0 X) (some (.int r.2)) (gWM D T B r.1) (gA B X) 0 0 := by
  refine gI_of RX11 (by decide +kernel) rfl (Nat.le_of_ble_eq_true rfl) ?_
  intro p e s m args below meth c ls Q hx hb hlocks hml hown hts hW hk hl hS hend
  have hC := FX_C F hk hx hb hown hts
  have hA := gA_allM hX
  have hl : lv_has ls 2 [(0, .ref (B + a0)), (1, .int a1)] := hl
  unfold fX11_roomOf at h
  refine lv_aload_n hx hb dX11_roomOf_0 rfl (lv_at hl 0 rfl) ?_
  refine lv_iload_n hx hb dX11_roomOf_1 rfl (lv_at hl 1 rfl) ?_
  refine lv_iconst (v := 0) hx hb dX11_roomOf_2 (by decide) ?_
  obtain ⟨r1, hcall, h⟩ := bd_out h
  refine g0_callV (As := [.int a1, .int 0]) hC hml hS hW (KC_at hk hS F.2.2.2.2) KC_blind (metX11_tells F hX k0 hcall) ml_X11_175 (gw_recv hC hW k0.1 (k0.2.1 T B (μ a0)) rfl) ⟨rfl, rfl, Nat.le_of_ble_eq_true rfl, Nat.le_of_ble_eq_true rfl⟩ rfl hl.1 rfl (Nat.le_of_ble_eq_true rfl) dX11_roomOf_3 ⟨Nat.le_of_ble_eq_true rfl, Nat.le_of_ble_eq_true rfl⟩ (fun H locs hW hS => ?_)
  cases h
  exact hend dX11_roomOf_6 hW hS (Nat.le_of_ble_eq_true rfl) (Nat.le_of_ble_eq_true rfl)

theorem dX11_limit_0 : decode cX11_limit 0 = .ok (.aload_n 0, 1) := by decide +kernel
theorem dX11_limit_1 : decode cX11_limit 1 = .ok (.iload_n 1, 1) := by decide +kernel
theorem dX11_limit_2 : decode cX11_limit 2 = .ok (.iconst 1, 1) := by decide +kernel
theorem dX11_limit_3 : decode cX11_limit 3 = .ok (.invokevirtual 175, 3) := by decide +kernel
theorem dX11_limit_6 : decode cX11_limit 6 = .ok (.ireturn, 1) := by decide +kernel
abbrev rmX11_limit : Room := { frames := 5, cells := 0, slots := 0, locals := 125 }
set_option maxHeartbeats 4000000 in
set_option maxRecDepth 100000 in
theorem metX11_limit {l : Launch} {s0 : State} {b B : Nat} {D : va_G} {T : Nat → ClassId} (F : FX l s0 b D T B) {X : Nat → Prop} (hX : ∀ o, o < 12 → ¬ X (B + o)) {N : Nat} {μ : Mem} {a0 : Nat} {a1 : Int32} {r : Mem × Int32} (k0 : IsMo a0) (h : fX11_limit N μ a0 a1 = some r) : gMet l yX11_limit cX11_limit 2 (some .int) rmX11_limit [.ref (B + a0), .int a1] (gWM D T B μ) (KC s0 X) (some (.int r.2)) (gWM D T B r.1) (gA B X) 0 0 := by
  refine gI_of RX11 (by decide +kernel) rfl (Nat.le_of_ble_eq_true rfl) ?_
  intro p e s m args below meth c ls Q hx hb hlocks hml hown hts hW hk hl hS hend
  have hC := FX_C F hk hx hb hown hts
  have hA := gA_allM hX
  have hl : lv_has ls 2 [(0, .ref (B + a0)), (1, .int a1)] := hl
  unfold fX11_limit at h
  refine lv_aload_n hx hb dX11_limit_0 rfl (lv_at hl 0 rfl) ?_
  refine lv_iload_n hx hb dX11_limit_1 rfl (lv_at hl 1 rfl) ?_
  refine lv_iconst (v := 1) hx hb dX11_limit_2 (by decide) ?_
  obtain ⟨r1, hcall, h⟩ := bd_out h
  refine g0_callV (As := [.int a1, .int 1]) hC hml hS hW (KC_at hk hS F.2.2.2.2) KC_blind (metX11_tells F hX k0 hcall) ml_X11_175 (gw_recv hC hW k0.1 (k0.2.1 T B (μ a0)) rfl) ⟨rfl, rfl, Nat.le_of_ble_eq_true rfl, Nat.le_of_ble_eq_true rfl⟩ rfl hl.1 rfl (Nat.le_of_ble_eq_true rfl) dX11_limit_3 ⟨Nat.le_of_ble_eq_true rfl, Nat.le_of_ble_eq_true rfl⟩ (fun H locs hW hS => ?_)
  cases h
  exact hend dX11_limit_6 hW hS (Nat.le_of_ble_eq_true rfl) (Nat.le_of_ble_eq_true rfl)

theorem dX11_grainsAt_0 : decode cX11_grainsAt 0 = .ok (.aload_n 0, 1) := by decide +kernel
theorem dX11_grainsAt_1 : decode cX11_grainsAt 1 = .ok (.aload_n 0, 1) := by decide +kernel
theorem dX11_grainsAt_2 : decode cX11_grainsAt 2 = .ok (.iload_n 1, 1) := by decide +kernel
theorem dX11_grainsAt_3 : decode cX11_grainsAt 3 = .ok (.iload_n 2, 1) := by decide +kernel
theorem dX11_grainsAt_4 : decode cX11_grainsAt 4 = .ok (.iload_n 3, 1) := by decide +kernel
theorem dX11_grainsAt_5 : decode cX11_grainsAt 5 = .ok (.iconst 1, 1) := by decide +kernel
theorem dX11_grainsAt_6 : decode cX11_grainsAt 6 = .ok (.invokevirtual 163, 3) := by decide +kernel
theorem dX11_grainsAt_9 : decode cX11_grainsAt 9 = .ok (.putfield 51, 3) := by decide +kernel
theorem dX11_grainsAt_12 : decode cX11_grainsAt 12 = .ok (.aload_n 0, 1) := by decide +kernel
theorem dX11_grainsAt_13 : decode cX11_grainsAt 13 = .ok (.getfield 51, 3) := by decide +kernel
theorem dX11_grainsAt_16 : decode cX11_grainsAt 16 = .ok (.ifCond .le 7, 3) := by decide +kernel
theorem dX11_grainsAt_19 : decode cX11_grainsAt 19 = .ok (.iconst 0, 1) := by decide +kernel
theorem dX11_grainsAt_20 : decode cX11_grainsAt 20 = .ok (.goto 16, 3) := by decide +kernel
theorem dX11_grainsAt_23 : decode cX11_grainsAt 23 = .ok (.aload_n 0, 1) := by decide +kernel
theorem dX11_grainsAt_24 : decode cX11_grainsAt 24 = .ok (.iload_n 1, 1) := by decide +kernel
theorem dX11_grainsAt_25 : decode cX11_grainsAt 25 = .ok (.bipush 7, 2) := by decide +kernel
theorem dX11_grainsAt_27 : decode cX11_grainsAt 27 = .ok (.iconst 4, 1) := by decide +kernel
theorem dX11_grainsAt_28 : decode cX11_grainsAt 28 = .ok (.iload_n 3, 1) := by decide +kernel
theorem dX11_grainsAt_29 : decode cX11_grainsAt 29 = .ok (.imul, 1) := by decide +kernel
theorem dX11_grainsAt_30 : decode cX11_grainsAt 30 = .ok (.iadd, 1) := by decide +kernel
theorem dX11_grainsAt_31 : decode cX11_grainsAt 31 = .ok (.iload_n 2, 1) := by decide +kernel
theorem dX11_grainsAt_32 : decode cX11_grainsAt 32 = .ok (.iadd, 1) := by decide +kernel
theorem dX11_grainsAt_33 : decode cX11_grainsAt 33 = .ok (.invokevirtual 144, 3) := by decide +kernel
theorem dX11_grainsAt_36 : decode cX11_grainsAt 36 = .ok (.ireturn, 1) := by decide +kernel
abbrev rmX11_grainsAt : Room := { frames := 5, cells := 0, slots := 0, locals := 127 }
set_option maxHeartbeats 4000000 in
set_option maxRecDepth 100000 in
theorem metX11_grainsAt {l : Launch} {s0 : State} {b B : Nat} {D : va_G} {T : Nat → ClassId} (F : FX l s0 b D T B) {X : Nat → Prop} (hX : ∀ o, o < 12 → ¬ X (B + o)) {N : Nat} {μ : Mem} {a0 : Nat} {a1 : Int32} {a2 : Int32} {a3 : Int32} {r : Mem × Int32} (k0 : IsMo a0) (h : fX11_grainsAt N μ a0 a1 a2 a3 = some r) : gMet l yX11_grainsAt cX11_grainsAt 4 (some .int) rmX11_grainsAt [.ref (B + a0), .int a1, .int a2, .int a3] (gWM D T B μ) (KC s0 X) (some (.int r.2)) (gWM D T B r.1) (gA B X) 0 0 := by
  refine gI_of RX11 (by decide +kernel) rfl (Nat.le_of_ble_eq_true rfl) ?_
  intro p e s m args below meth c ls Q hx hb hlocks hml hown hts hW hk hl hS hend
  have hC := FX_C F hk hx hb hown hts
  have hA := gA_allM hX
  have hl : lv_has ls 4 [(0, .ref (B + a0)), (1, .int a1), (2, .int a2), (3, .int a3)] := hl
  unfold fX11_grainsAt at h
  refine lv_aload_n hx hb dX11_grainsAt_0 rfl (lv_at hl 0 rfl) ?_
  refine lv_aload_n hx hb dX11_grainsAt_1 rfl (lv_at hl 0 rfl) ?_
  refine lv_iload_n hx hb dX11_grainsAt_2 rfl (lv_at hl 1 rfl) ?_
  refine lv_iload_n hx hb dX11_grainsAt_3 rfl (lv_at hl 2 rfl) ?_
  refine lv_iload_n hx hb dX11_grainsAt_4 rfl (lv_at hl 3 rfl) ?_
  refine lv_iconst (v := 1) hx hb dX11_grainsAt_5 (by decide) ?_
  obtain ⟨r1, hcall, h⟩ := bd_out h
  refine g0_callV (As := [.int a1, .int a2, .int a3, .int 1]) hC hml hS hW (KC_at hk hS F.2.2.2.2) KC_blind (metX11_wrongDrop F hX k0 hcall) ml_X11_163 (gw_recv hC hW k0.1 (k0.2.1 T B (μ a0)) rfl) ⟨rfl, rfl, Nat.le_of_ble_eq_true rfl, Nat.le_of_ble_eq_true rfl⟩ rfl hl.1 rfl (Nat.le_of_ble_eq_true rfl) dX11_grainsAt_6 ⟨Nat.le_of_ble_eq_true rfl, Nat.le_of_ble_eq_true rfl⟩ (fun H locs hW hS => ?_)
  obtain ⟨μ2, e3, h⟩ := lt_out h
  refine gq_put hC hS hW hA fl_X11_51 k0.1 (k0.2.1 T B) (Nat.le_of_ble_eq_true rfl) rfl rfl rfl e3 dX11_grainsAt_9 (fun H locs hW hS => ?_)
  refine lv_aload_n hx hb dX11_grainsAt_12 rfl (lv_at hl 0 rfl) ?_
  refine gw_get (v := .int (μ2 a0 6)) hC hW fl_X11_51.1 k0.1 (k0.2.1 T B (μ2 a0)) rfl dX11_grainsAt_13 ?_
  obtain ⟨j5, hj7, h⟩ := jn1_o h
  have J6 : ∀ (y4 : Int32), j5 y4 = some r → ∀ (H : Heap) (locs : List Loc) (ls : Array Slot), gWM D T B μ2 H → va_S (gA B X) s.heap H locs → lv_has ls 4 [] → W p l e rmX11_grainsAt s m args below meth c H locs 0 0 Q (F0 m 36 ls [.int y4]) := by
    clear h hW hS hl
    intro y4 h H locs ls hW hS hl
    replace h := (hj7 y4).symm.trans h
    cases h
    exact hend dX11_grainsAt_36 hW hS (Nat.le_of_ble_eq_true rfl) (Nat.le_of_ble_eq_true rfl)
  refine lv_if_le (tgt := 23) hx hb dX11_grainsAt_16 (by decide) (fun c8 => ?_) (fun c8 => ?_)
  · replace h := ite_t c8 h
    refine lv_aload_n hx hb dX11_grainsAt_23 rfl (lv_at hl 0 rfl) ?_
    refine lv_iload_n hx hb dX11_grainsAt_24 rfl (lv_at hl 1 rfl) ?_
    refine lv_bipush (v := 7) hx hb dX11_grainsAt_25 (by decide) ?_
    refine lv_iconst (v := 4) hx hb dX11_grainsAt_27 (by decide) ?_
    refine lv_iload_n hx hb dX11_grainsAt_28 rfl (lv_at hl 3 rfl) ?_
    refine lv_imul hx hb dX11_grainsAt_29 ?_
    refine lv_iadd hx hb dX11_grainsAt_30 ?_
    refine lv_iload_n hx hb dX11_grainsAt_31 rfl (lv_at hl 2 rfl) ?_
    refine lv_iadd hx hb dX11_grainsAt_32 ?_
    obtain ⟨r9, hcall, h⟩ := bd_out h
    refine g0_callV (As := [.int a1, .int ((7 + (4 * a3)) + a2)]) hC hml hS hW (KC_at hk hS F.2.2.2.2) KC_blind (metX11_of F hX k0 hcall) ml_X11_144 (gw_recv hC hW k0.1 (k0.2.1 T B (μ2 a0)) rfl) ⟨rfl, rfl, Nat.le_of_ble_eq_true rfl, Nat.le_of_ble_eq_true rfl⟩ rfl hl.1 rfl (Nat.le_of_ble_eq_true rfl) dX11_grainsAt_33 ⟨Nat.le_of_ble_eq_true rfl, Nat.le_of_ble_eq_true rfl⟩ (fun H locs hW hS => ?_)
    exact J6 _ h _ _ _ hW hS (lv_sub hl [] rfl)
  · replace h := ite_f c8 h
    refine lv_iconst (v := 0) hx hb dX11_grainsAt_19 (by decide) ?_
    refine lv_goto (tgt := 36) hx hb dX11_grainsAt_20 (by decide) ?_
    exact J6 _ h _ _ _ hW hS (lv_sub hl [] rfl)

theorem dX11_all_0 : decode cX11_all 0 = .ok (.iconst 0, 1) := by decide +kernel
theorem dX11_all_1 : decode cX11_all 1 = .ok (.istore_n 2, 1) := by decide +kernel
theorem dX11_all_2 : decode cX11_all 2 = .ok (.iconst 0, 1) := by decide +kernel
theorem dX11_all_3 : decode cX11_all 3 = .ok (.istore_n 3, 1) := by decide +kernel
theorem dX11_all_4 : decode cX11_all 4 = .ok (.iload_n 3, 1) := by decide +kernel
theorem dX11_all_5 : decode cX11_all 5 = .ok (.bipush 16, 2) := by decide +kernel
theorem dX11_all_7 : decode cX11_all 7 = .ok (.if_icmp .ge 21, 3) := by decide +kernel
theorem dX11_all_10 : decode cX11_all 10 = .ok (.iload_n 2, 1) := by decide +kernel
theorem dX11_all_11 : decode cX11_all 11 = .ok (.aload_n 0, 1) := by decide +kernel
theorem dX11_all_12 : decode cX11_all 12 = .ok (.iload_n 1, 1) := by decide +kernel
theorem dX11_all_13 : decode cX11_all 13 = .ok (.bipush 7, 2) := by decide +kernel
theorem dX11_all_15 : decode cX11_all 15 = .ok (.iload_n 3, 1) := by decide +kernel
theorem dX11_all_16 : decode cX11_all 16 = .ok (.iadd, 1) := by decide +kernel
theorem dX11_all_17 : decode cX11_all 17 = .ok (.invokevirtual 144, 3) := by decide +kernel
theorem dX11_all_20 : decode cX11_all 20 = .ok (.iadd, 1) := by decide +kernel
theorem dX11_all_21 : decode cX11_all 21 = .ok (.istore_n 2, 1) := by decide +kernel
theorem dX11_all_22 : decode cX11_all 22 = .ok (.iinc 3 1, 3) := by decide +kernel
theorem dX11_all_25 : decode cX11_all 25 = .ok (.goto (-21), 3) := by decide +kernel
theorem dX11_all_28 : decode cX11_all 28 = .ok (.iload_n 2, 1) := by decide +kernel
theorem dX11_all_29 : decode cX11_all 29 = .ok (.ireturn, 1) := by decide +kernel
abbrev rmX11_all : Room := { frames := 3, cells := 0, slots := 0, locals := 82 }
set_option maxHeartbeats 4000000 in
set_option maxRecDepth 100000 in
theorem metX11_all {l : Launch} {s0 : State} {b B : Nat} {D : va_G} {T : Nat → ClassId} (F : FX l s0 b D T B) {X : Nat → Prop} (hX : ∀ o, o < 12 → ¬ X (B + o)) {N : Nat} {μ : Mem} {a0 : Nat} {a1 : Int32} {r : Int32} (k0 : IsMo a0) (h : fX11_all N μ a0 a1 = some r) : gMet l yX11_all cX11_all 4 (some .int) rmX11_all [.ref (B + a0), .int a1] (gWM D T B μ) (KC s0 X) (some (.int r)) (gWM D T B μ) (gA B X) 0 0 := by
  refine gI_of RX11 (by decide +kernel) rfl (Nat.le_of_ble_eq_true rfl) ?_
  intro p e s m args below meth c ls Q hx hb hlocks hml hown hts hW hk hl hS hend
  have hC := FX_C F hk hx hb hown hts
  have hA := gA_allM hX
  have hl : lv_has ls 4 [(0, .ref (B + a0)), (1, .int a1)] := hl
  unfold fX11_all at h
  refine lv_iconst (v := 0) hx hb dX11_all_0 (by decide) ?_
  refine lv_istore_n (lv' := [(2, .int 0), (0, .ref (B + a0)), (1, .int a1)]) hx hb dX11_all_1 rfl hl (by decide) rfl (fun ls hl => ?_)
  refine lv_iconst (v := 0) hx hb dX11_all_2 (by decide) ?_
  refine lv_istore_n (lv' := [(3, .int 0), (2, .int 0), (0, .ref (B + a0)), (1, .int a1)]) hx hb dX11_all_3 rfl hl (by decide) rfl (fun ls hl => ?_)
  refine fix2_ind (fun (x1 : Int32) (x2 : Int32) => ∀ (H : Heap) (locs : List Loc) (ls : Array Slot), gWM D T B μ H → va_S (gA B X) s.heap H locs → lv_has ls 4 [(0, .ref (B + a0)), (1, .int a1), (2, .int x1), (3, .int x2)] → W p l e rmX11_all s m args below meth c H locs 0 0 Q (F0 m 4 ls [])) ?_ N _ _ h _ _ _ hW hS (lv_sub hl [2, 3, 1, 0] rfl)
  clear h hW hS hl
  intro self3 IH4 x1 x2 h H locs ls hW hS hl
  refine lv_iload_n hx hb dX11_all_4 rfl (lv_at hl 3 rfl) ?_
  refine lv_bipush (v := 16) hx hb dX11_all_5 (by decide) ?_
  refine lv_icmp_ge (tgt := 28) hx hb dX11_all_7 (by decide) (fun c5 => ?_) (fun c5 => ?_)
  · replace h := ite_t c5 h
    refine lv_iload_n hx hb dX11_all_28 rfl (lv_at hl 2 rfl) ?_
    cases h
    exact hend dX11_all_29 hW hS (Nat.le_of_ble_eq_true rfl) (Nat.le_of_ble_eq_true rfl)
  · replace h := ite_f c5 h
    refine lv_iload_n hx hb dX11_all_10 rfl (lv_at hl 2 rfl) ?_
    refine lv_aload_n hx hb dX11_all_11 rfl (lv_at hl 0 rfl) ?_
    refine lv_iload_n hx hb dX11_all_12 rfl (lv_at hl 1 rfl) ?_
    refine lv_bipush (v := 7) hx hb dX11_all_13 (by decide) ?_
    refine lv_iload_n hx hb dX11_all_15 rfl (lv_at hl 3 rfl) ?_
    refine lv_iadd hx hb dX11_all_16 ?_
    obtain ⟨r6, hcall, h⟩ := bd_out h
    refine g0_callV (As := [.int a1, .int (7 + x2)]) hC hml hS hW (KC_at hk hS F.2.2.2.2) KC_blind (metX11_of F hX k0 hcall) ml_X11_144 (gw_recv hC hW k0.1 (k0.2.1 T B (μ a0)) rfl) ⟨rfl, rfl, Nat.le_of_ble_eq_true rfl, Nat.le_of_ble_eq_true rfl⟩ rfl hl.1 rfl (Nat.le_of_ble_eq_true rfl) dX11_all_17 ⟨Nat.le_of_ble_eq_true rfl, Nat.le_of_ble_eq_true rfl⟩ (fun H locs hW hS => ?_)
    refine lv_iadd hx hb dX11_all_20 ?_
    obtain ⟨v7, e8, h⟩ := lt_out h
    rw [← e8]
    refine lv_istore_n (lv' := [(2, .int v7), (0, .ref (B + a0)), (1, .int a1), (3, .int x2)]) hx hb dX11_all_21 rfl hl (by decide) rfl (fun ls hl => ?_)
    obtain ⟨v9, e10, h⟩ := lt_out h
    refine lv_iinc (v := v9) (lv' := [(3, .int v9), (2, .int v7), (0, .ref (B + a0)), (1, .int a1)]) hx hb dX11_all_22 hl (k := 3) rfl (by rw [e10]; rfl) (by decide) rfl (fun ls hl => ?_)
    refine lv_goto (tgt := 4) hx hb dX11_all_25 (by decide) ?_
    exact IH4 _ _ h _ _ _ hW hS (lv_sub hl [2, 3, 1, 0] rfl)

theorem dX11_grains_0 : decode cX11_grains 0 = .ok (.aload_n 0, 1) := by decide +kernel
theorem dX11_grains_1 : decode cX11_grains 1 = .ok (.aload_n 0, 1) := by decide +kernel
theorem dX11_grains_2 : decode cX11_grains 2 = .ok (.iload_n 1, 1) := by decide +kernel
theorem dX11_grains_3 : decode cX11_grains 3 = .ok (.invokevirtual 141, 3) := by decide +kernel
theorem dX11_grains_6 : decode cX11_grains 6 = .ok (.invokevirtual 113, 3) := by decide +kernel
theorem dX11_grains_9 : decode cX11_grains 9 = .ok (.ifCond .eq 11, 3) := by decide +kernel
theorem dX11_grains_12 : decode cX11_grains 12 = .ok (.aload_n 0, 1) := by decide +kernel
theorem dX11_grains_13 : decode cX11_grains 13 = .ok (.iload_n 1, 1) := by decide +kernel
theorem dX11_grains_14 : decode cX11_grains 14 = .ok (.invokevirtual 178, 3) := by decide +kernel
theorem dX11_grains_17 : decode cX11_grains 17 = .ok (.goto 4, 3) := by decide +kernel
theorem dX11_grains_20 : decode cX11_grains 20 = .ok (.iconst 0, 1) := by decide +kernel
theorem dX11_grains_21 : decode cX11_grains 21 = .ok (.ireturn, 1) := by decide +kernel
abbrev rmX11_grains : Room := { frames := 4, cells := 0, slots := 0, locals := 105 }
set_option maxHeartbeats 4000000 in
set_option maxRecDepth 100000 in
theorem metX11_grains {l : Launch} {s0 : State} {b B : Nat} {D : va_G} {T : Nat → ClassId} (F : FX l s0 b D T B) {X : Nat → Prop} (hX : ∀ o, o < 12 → ¬ X (B + o)) {N : Nat} {μ : Mem} {a0 : Nat} {a1 : Int32} {r : Mem × Int32} (k0 : IsMo a0) (h : fX11_grains N μ a0 a1 = some r) : gMet l yX11_grains cX11_grains 2 (some .int) rmX11_grains [.ref (B + a0), .int a1] (gWM D T B μ) (KC s0 X) (some (.int r.2)) (gWM D T B r.1) (gA B X) 0 0 := by
  refine gI_of RX11 (by decide +kernel) rfl (Nat.le_of_ble_eq_true rfl) ?_
  intro p e s m args below meth c ls Q hx hb hlocks hml hown hts hW hk hl hS hend
  have hC := FX_C F hk hx hb hown hts
  have hA := gA_allM hX
  have hl : lv_has ls 2 [(0, .ref (B + a0)), (1, .int a1)] := hl
  unfold fX11_grains at h
  refine lv_aload_n hx hb dX11_grains_0 rfl (lv_at hl 0 rfl) ?_
  refine lv_aload_n hx hb dX11_grains_1 rfl (lv_at hl 0 rfl) ?_
  refine lv_iload_n hx hb dX11_grains_2 rfl (lv_at hl 1 rfl) ?_
  obtain ⟨r1, hcall, h⟩ := bd_out h
  refine g0_callV (As := [.int a1]) hC hml hS hW (KC_at hk hS F.2.2.2.2) KC_blind (metX11_isExhibit F hX k0 hcall) ml_X11_141 (gw_recv hC hW k0.1 (k0.2.1 T B (μ a0)) rfl) ⟨rfl, rfl, Nat.le_of_ble_eq_true rfl, Nat.le_of_ble_eq_true rfl⟩ rfl hl.1 rfl (Nat.le_of_ble_eq_true rfl) dX11_grains_3 ⟨Nat.le_of_ble_eq_true rfl, Nat.le_of_ble_eq_true rfl⟩ (fun H locs hW hS => ?_)
  obtain ⟨r2, hcall, h⟩ := bd_out h
  refine g0_callV (As := [.int (b2i r1)]) hC hml hS hW (KC_at hk hS F.2.2.2.2) KC_blind (metX11_isThere F hX k0 hcall) ml_X11_113 (gw_recv hC hW k0.1 (k0.2.1 T B (μ a0)) rfl) ⟨rfl, rfl, Nat.le_of_ble_eq_true rfl, Nat.le_of_ble_eq_true rfl⟩ rfl hl.1 rfl (Nat.le_of_ble_eq_true rfl) dX11_grains_6 ⟨Nat.le_of_ble_eq_true rfl, Nat.le_of_ble_eq_true rfl⟩ (fun H locs hW hS => ?_)
  obtain ⟨j4, hj6, h⟩ := jn1_o h
  have J5 : ∀ (y3 : Int32), j4 y3 = some r → ∀ (H : Heap) (locs : List Loc) (ls : Array Slot), gWM D T B r2.1 H → va_S (gA B X) s.heap H locs → lv_has ls 2 [] → W p l e rmX11_grains s m args below meth c H locs 0 0 Q (F0 m 21 ls [.int y3]) := by
    clear h hW hS hl
    intro y3 h H locs ls hW hS hl
    replace h := (hj6 y3).symm.trans h
    cases h
    exact hend dX11_grains_21 hW hS (Nat.le_of_ble_eq_true rfl) (Nat.le_of_ble_eq_true rfl)
  refine gw_if_eqZ (tgt := 20) hx hb dX11_grains_9 (by decide) (fun c7 => ?_) (fun c7 => ?_)
  · replace h := cond_f c7 h
    refine lv_iconst (v := 0) hx hb dX11_grains_20 (by decide) ?_
    exact J5 _ h _ _ _ hW hS (lv_sub hl [] rfl)
  · replace h := cond_t c7 h
    refine lv_aload_n hx hb dX11_grains_12 rfl (lv_at hl 0 rfl) ?_
    refine lv_iload_n hx hb dX11_grains_13 rfl (lv_at hl 1 rfl) ?_
    obtain ⟨r8, hcall, h⟩ := bd_out h
    refine g0_callV (As := [.int a1]) hC hml hS hW (KC_at hk hS F.2.2.2.2) KC_blind (metX11_all F hX k0 hcall) ml_X11_178 (gw_recv hC hW k0.1 (k0.2.1 T B (r2.1 a0)) rfl) ⟨rfl, rfl, Nat.le_of_ble_eq_true rfl, Nat.le_of_ble_eq_true rfl⟩ rfl hl.1 rfl (Nat.le_of_ble_eq_true rfl) dX11_grains_14 ⟨Nat.le_of_ble_eq_true rfl, Nat.le_of_ble_eq_true rfl⟩ (fun H locs hW hS => ?_)
    refine lv_goto (tgt := 21) hx hb dX11_grains_17 (by decide) ?_
    exact J5 _ h _ _ _ hW hS (lv_sub hl [] rfl)

theorem dX11_lasts_0 : decode cX11_lasts 0 = .ok (.aload_n 0, 1) := by decide +kernel
theorem dX11_lasts_1 : decode cX11_lasts 1 = .ok (.aload_n 0, 1) := by decide +kernel
theorem dX11_lasts_2 : decode cX11_lasts 2 = .ok (.iload_n 1, 1) := by decide +kernel
theorem dX11_lasts_3 : decode cX11_lasts 3 = .ok (.invokevirtual 141, 3) := by decide +kernel
theorem dX11_lasts_6 : decode cX11_lasts 6 = .ok (.invokevirtual 113, 3) := by decide +kernel
theorem dX11_lasts_9 : decode cX11_lasts 9 = .ok (.ifCond .ne 5, 3) := by decide +kernel
theorem dX11_lasts_12 : decode cX11_lasts 12 = .ok (.iconst 0, 1) := by decide +kernel
theorem dX11_lasts_13 : decode cX11_lasts 13 = .ok (.ireturn, 1) := by decide +kernel
theorem dX11_lasts_14 : decode cX11_lasts 14 = .ok (.ldc 181, 2) := by decide +kernel
theorem dX11_lasts_16 : decode cX11_lasts 16 = .ok (.istore_n 2, 1) := by decide +kernel
theorem dX11_lasts_17 : decode cX11_lasts 17 = .ok (.iconst 1, 1) := by decide +kernel
theorem dX11_lasts_18 : decode cX11_lasts 18 = .ok (.istore_n 3, 1) := by decide +kernel
theorem dX11_lasts_19 : decode cX11_lasts 19 = .ok (.iload_n 3, 1) := by decide +kernel
theorem dX11_lasts_20 : decode cX11_lasts 20 = .ok (.ifCond .eq 112, 3) := by decide +kernel
theorem dX11_lasts_23 : decode cX11_lasts 23 = .ok (.iconst 0, 1) := by decide +kernel
theorem dX11_lasts_24 : decode cX11_lasts 24 = .ok (.istore_n 3, 1) := by decide +kernel
theorem dX11_lasts_25 : decode cX11_lasts 25 = .ok (.iconst 0, 1) := by decide +kernel
theorem dX11_lasts_26 : decode cX11_lasts 26 = .ok (.istore 4, 2) := by decide +kernel
theorem dX11_lasts_28 : decode cX11_lasts 28 = .ok (.iload 4, 2) := by decide +kernel
theorem dX11_lasts_30 : decode cX11_lasts 30 = .ok (.bipush 16, 2) := by decide +kernel
theorem dX11_lasts_32 : decode cX11_lasts 32 = .ok (.if_icmp .ge 97, 3) := by decide +kernel
theorem dX11_lasts_35 : decode cX11_lasts 35 = .ok (.iconst 0, 1) := by decide +kernel
theorem dX11_lasts_36 : decode cX11_lasts 36 = .ok (.istore 5, 2) := by decide +kernel
theorem dX11_lasts_38 : decode cX11_lasts 38 = .ok (.iconst 0, 1) := by decide +kernel
theorem dX11_lasts_39 : decode cX11_lasts 39 = .ok (.istore 6, 2) := by decide +kernel
theorem dX11_lasts_41 : decode cX11_lasts 41 = .ok (.iload 6, 2) := by decide +kernel
theorem dX11_lasts_43 : decode cX11_lasts 43 = .ok (.iconst 4, 1) := by decide +kernel
theorem dX11_lasts_44 : decode cX11_lasts 44 = .ok (.if_icmp .ge 43, 3) := by decide +kernel
theorem dX11_lasts_47 : decode cX11_lasts 47 = .ok (.iload 4, 2) := by decide +kernel
theorem dX11_lasts_49 : decode cX11_lasts 49 = .ok (.iload 6, 2) := by decide +kernel
theorem dX11_lasts_51 : decode cX11_lasts 51 = .ok (.invokestatic 153, 3) := by decide +kernel
theorem dX11_lasts_54 : decode cX11_lasts 54 = .ok (.istore 7, 2) := by decide +kernel
theorem dX11_lasts_56 : decode cX11_lasts 56 = .ok (.iload 5, 2) := by decide +kernel
theorem dX11_lasts_58 : decode cX11_lasts 58 = .ok (.iload 7, 2) := by decide +kernel
theorem dX11_lasts_60 : decode cX11_lasts 60 = .ok (.ifCond .lt 17, 3) := by decide +kernel
theorem dX11_lasts_63 : decode cX11_lasts 63 = .ok (.iload_n 2, 1) := by decide +kernel
theorem dX11_lasts_64 : decode cX11_lasts 64 = .ok (.iload 7, 2) := by decide +kernel
theorem dX11_lasts_66 : decode cX11_lasts 66 = .ok (.ishr, 1) := by decide +kernel
theorem dX11_lasts_67 : decode cX11_lasts 67 = .ok (.iconst 1, 1) := by decide +kernel
theorem dX11_lasts_68 : decode cX11_lasts 68 = .ok (.iand, 1) := by decide +kernel
theorem dX11_lasts_69 : decode cX11_lasts 69 = .ok (.iconst 1, 1) := by decide +kernel
theorem dX11_lasts_70 : decode cX11_lasts 70 = .ok (.if_icmp .ne 7, 3) := by decide +kernel
theorem dX11_lasts_73 : decode cX11_lasts 73 = .ok (.iconst 1, 1) := by decide +kernel
theorem dX11_lasts_74 : decode cX11_lasts 74 = .ok (.goto 4, 3) := by decide +kernel
theorem dX11_lasts_77 : decode cX11_lasts 77 = .ok (.iconst 0, 1) := by decide +kernel
theorem dX11_lasts_78 : decode cX11_lasts 78 = .ok (.iadd, 1) := by decide +kernel
theorem dX11_lasts_79 : decode cX11_lasts 79 = .ok (.istore 5, 2) := by decide +kernel
theorem dX11_lasts_81 : decode cX11_lasts 81 = .ok (.iinc 6 1, 3) := by decide +kernel
theorem dX11_lasts_84 : decode cX11_lasts 84 = .ok (.goto (-43), 3) := by decide +kernel
theorem dX11_lasts_87 : decode cX11_lasts 87 = .ok (.iload_n 2, 1) := by decide +kernel
theorem dX11_lasts_88 : decode cX11_lasts 88 = .ok (.iload 4, 2) := by decide +kernel
theorem dX11_lasts_90 : decode cX11_lasts 90 = .ok (.ishr, 1) := by decide +kernel
theorem dX11_lasts_91 : decode cX11_lasts 91 = .ok (.iconst 1, 1) := by decide +kernel
theorem dX11_lasts_92 : decode cX11_lasts 92 = .ok (.iand, 1) := by decide +kernel
theorem dX11_lasts_93 : decode cX11_lasts 93 = .ok (.iconst 1, 1) := by decide +kernel
theorem dX11_lasts_94 : decode cX11_lasts 94 = .ok (.if_icmp .ne 29, 3) := by decide +kernel
theorem dX11_lasts_97 : decode cX11_lasts 97 = .ok (.aload_n 0, 1) := by decide +kernel
theorem dX11_lasts_98 : decode cX11_lasts 98 = .ok (.iload_n 1, 1) := by decide +kernel
theorem dX11_lasts_99 : decode cX11_lasts 99 = .ok (.bipush 7, 2) := by decide +kernel
theorem dX11_lasts_101 : decode cX11_lasts 101 = .ok (.iload 4, 2) := by decide +kernel
theorem dX11_lasts_103 : decode cX11_lasts 103 = .ok (.iadd, 1) := by decide +kernel
theorem dX11_lasts_104 : decode cX11_lasts 104 = .ok (.invokevirtual 144, 3) := by decide +kernel
theorem dX11_lasts_107 : decode cX11_lasts 107 = .ok (.iload 5, 2) := by decide +kernel
theorem dX11_lasts_109 : decode cX11_lasts 109 = .ok (.if_icmp .lt 14, 3) := by decide +kernel
theorem dX11_lasts_112 : decode cX11_lasts 112 = .ok (.iload_n 2, 1) := by decide +kernel
theorem dX11_lasts_113 : decode cX11_lasts 113 = .ok (.iconst 1, 1) := by decide +kernel
theorem dX11_lasts_114 : decode cX11_lasts 114 = .ok (.iload 4, 2) := by decide +kernel
theorem dX11_lasts_116 : decode cX11_lasts 116 = .ok (.ishl, 1) := by decide +kernel
theorem dX11_lasts_117 : decode cX11_lasts 117 = .ok (.iconst (-1), 1) := by decide +kernel
theorem dX11_lasts_118 : decode cX11_lasts 118 = .ok (.ixor, 1) := by decide +kernel
theorem dX11_lasts_119 : decode cX11_lasts 119 = .ok (.iand, 1) := by decide +kernel
theorem dX11_lasts_120 : decode cX11_lasts 120 = .ok (.istore_n 2, 1) := by decide +kernel
theorem dX11_lasts_121 : decode cX11_lasts 121 = .ok (.iconst 1, 1) := by decide +kernel
theorem dX11_lasts_122 : decode cX11_lasts 122 = .ok (.istore_n 3, 1) := by decide +kernel
theorem dX11_lasts_123 : decode cX11_lasts 123 = .ok (.iinc 4 1, 3) := by decide +kernel
theorem dX11_lasts_126 : decode cX11_lasts 126 = .ok (.goto (-98), 3) := by decide +kernel
theorem dX11_lasts_129 : decode cX11_lasts 129 = .ok (.goto (-110), 3) := by decide +kernel
theorem dX11_lasts_132 : decode cX11_lasts 132 = .ok (.iload_n 2, 1) := by decide +kernel
theorem dX11_lasts_133 : decode cX11_lasts 133 = .ok (.ifCond .ne 7, 3) := by decide +kernel
theorem dX11_lasts_136 : decode cX11_lasts 136 = .ok (.iconst 1, 1) := by decide +kernel
theorem dX11_lasts_137 : decode cX11_lasts 137 = .ok (.goto 4, 3) := by decide +kernel
theorem dX11_lasts_140 : decode cX11_lasts 140 = .ok (.iconst 0, 1) := by decide +kernel
theorem dX11_lasts_141 : decode cX11_lasts 141 = .ok (.ireturn, 1) := by decide +kernel
abbrev rmX11_lasts : Room := { frames := 4, cells := 0, slots := 0, locals := 105 }
set_option maxHeartbeats 4000000 in
set_option maxRecDepth 100000 in
theorem metX11_lasts {l : Launch} {s0 : State} {b B : Nat} {D : va_G} {T : Nat → ClassId} (F : FX l s0 b D T B) {X : Nat → Prop} (hX : ∀ o, o < 12 → ¬ X (B + o)) {N : Nat} {μ : Mem} {a0 : Nat} {a1 : Int32} {r : Mem × Bool} (k0 : IsMo a0) (h : fX11_lasts N μ a0 a1 = some r) : gMet l yX11_lasts cX11_lasts 8 (some .boolean) rmX11_lasts [.ref (B + a0), .int a1] (gWM D T B μ) (KC s0 X) (some (.int (b2i r.2))) (gWM D T B r.1) (gA B X) 0 0 := by
  refine gZ_of RX11 (by decide +kernel) rfl (Nat.le_of_ble_eq_true rfl) ?_
  intro p e s m args below meth c ls Q hx hb hlocks hml hown hts hW hk hl hS hend
  have hC := FX_C F hk hx hb hown hts
  have hA := gA_allM hX
  have hl : lv_has ls 8 [(0, .ref (B + a0)), (1, .int a1)] := hl
  unfold fX11_lasts at h
  refine lv_aload_n hx hb dX11_lasts_0 rfl (lv_at hl 0 rfl) ?_
  refine lv_aload_n hx hb dX11_lasts_1 rfl (lv_at hl 0 rfl) ?_
  refine lv_iload_n hx hb dX11_lasts_2 rfl (lv_at hl 1 rfl) ?_
  obtain ⟨r1, hcall, h⟩ := bd_out h
  refine g0_callV (As := [.int a1]) hC hml hS hW (KC_at hk hS F.2.2.2.2) KC_blind (metX11_isExhibit F hX k0 hcall) ml_X11_141 (gw_recv hC hW k0.1 (k0.2.1 T B (μ a0)) rfl) ⟨rfl, rfl, Nat.le_of_ble_eq_true rfl, Nat.le_of_ble_eq_true rfl⟩ rfl hl.1 rfl (Nat.le_of_ble_eq_true rfl) dX11_lasts_3 ⟨Nat.le_of_ble_eq_true rfl, Nat.le_of_ble_eq_true rfl⟩ (fun H locs hW hS => ?_)
  obtain ⟨r2, hcall, h⟩ := bd_out h
  refine g0_callV (As := [.int (b2i r1)]) hC hml hS hW (KC_at hk hS F.2.2.2.2) KC_blind (metX11_isThere F hX k0 hcall) ml_X11_113 (gw_recv hC hW k0.1 (k0.2.1 T B (μ a0)) rfl) ⟨rfl, rfl, Nat.le_of_ble_eq_true rfl, Nat.le_of_ble_eq_true rfl⟩ rfl hl.1 rfl (Nat.le_of_ble_eq_true rfl) dX11_lasts_6 ⟨Nat.le_of_ble_eq_true rfl, Nat.le_of_ble_eq_true rfl⟩ (fun H locs hW hS => ?_)
  refine gw_if_neZ (tgt := 14) hx hb dX11_lasts_9 (by decide) (fun c3 => ?_) (fun c3 => ?_)
  · replace h := cond_t c3 h
    refine lv_ldc (v := 65535) hx hb hown (hts _ kc_X11_181) dX11_lasts_14 ?_
    refine lv_istore_n (lv' := [(2, .int 65535), (0, .ref (B + a0)), (1, .int a1)]) hx hb dX11_lasts_16 rfl hl (by decide) rfl (fun ls hl => ?_)
    refine lv_iconst (v := 1) hx hb dX11_lasts_17 (by decide) ?_
    refine lv_istore_n (lv' := [(3, .int 1), (2, .int 65535), (0, .ref (B + a0)), (1, .int a1)]) hx hb dX11_lasts_18 rfl hl (by decide) rfl (fun ls hl => ?_)
    refine fix2_ind (fun (x4 : Int32) (x5 : Bool) => ∀ (H : Heap) (locs : List Loc) (ls : Array Slot), gWM D T B r2.1 H → va_S (gA B X) s.heap H locs → lv_has ls 8 [(0, .ref (B + a0)), (1, .int a1), (2, .int x4), (3, .int (b2i x5))] → W p l e rmX11_lasts s m args below meth c H locs 0 0 Q (F0 m 19 ls [])) ?_ N _ _ h _ _ _ hW hS (lv_sub hl [2, 3, 1, 0] rfl)
    clear h hW hS hl
    intro self6 IH7 x4 x5 h H locs ls hW hS hl
    refine lv_iload_n hx hb dX11_lasts_19 rfl (lv_at hl 3 rfl) ?_
    refine gw_if_eqZ (tgt := 132) hx hb dX11_lasts_20 (by decide) (fun c8 => ?_) (fun c8 => ?_)
    · replace h := cond_f c8 h
      refine lv_iload_n hx hb dX11_lasts_132 rfl (lv_at hl 2 rfl) ?_
      obtain ⟨j10, hj12, h⟩ := jn1_o h
      have J11 : ∀ (y9 : Bool), j10 y9 = some r → ∀ (H : Heap) (locs : List Loc) (ls : Array Slot), gWM D T B r2.1 H → va_S (gA B X) s.heap H locs → lv_has ls 8 [] → W p l e rmX11_lasts s m args below meth c H locs 0 0 Q (F0 m 141 ls [.int (b2i y9)]) := by
        clear h hW hS hl
        intro y9 h H locs ls hW hS hl
        replace h := (hj12 y9).symm.trans h
        cases h
        exact hend dX11_lasts_141 hW hS (Nat.le_of_ble_eq_true rfl) (Nat.le_of_ble_eq_true rfl)
      refine lv_if_ne (tgt := 140) hx hb dX11_lasts_133 (by decide) (fun c13 => ?_) (fun c13 => ?_)
      · replace h := ite_f c13 h
        refine lv_iconst (v := 0) hx hb dX11_lasts_140 (by decide) ?_
        exact J11 _ h _ _ _ hW hS (lv_sub hl [] rfl)
      · replace h := ite_t c13 h
        refine lv_iconst (v := 1) hx hb dX11_lasts_136 (by decide) ?_
        refine lv_goto (tgt := 141) hx hb dX11_lasts_137 (by decide) ?_
        exact J11 _ h _ _ _ hW hS (lv_sub hl [] rfl)
    · replace h := cond_t c8 h
      refine lv_iconst (v := 0) hx hb dX11_lasts_23 (by decide) ?_
      refine lv_istore_n (lv' := [(3, .int 0), (0, .ref (B + a0)), (1, .int a1), (2, .int x4)]) hx hb dX11_lasts_24 rfl hl (by decide) rfl (fun ls hl => ?_)
      refine lv_iconst (v := 0) hx hb dX11_lasts_25 (by decide) ?_
      refine lv_istore (lv' := [(4, .int 0), (3, .int 0), (0, .ref (B + a0)), (1, .int a1), (2, .int x4)]) hx hb dX11_lasts_26 hl (by decide) rfl (fun ls hl => ?_)
      refine fix3_ind (fun (x14 : Int32) (x15 : Bool) (x16 : Int32) => ∀ (H : Heap) (locs : List Loc) (ls : Array Slot), gWM D T B r2.1 H → va_S (gA B X) s.heap H locs → lv_has ls 8 [(0, .ref (B + a0)), (1, .int a1), (2, .int x14), (3, .int (b2i x15)), (4, .int x16)] → W p l e rmX11_lasts s m args below meth c H locs 0 0 Q (F0 m 28 ls [])) ?_ N _ _ _ h _ _ _ hW hS (lv_sub hl [2, 3, 4, 1, 0] rfl)
      clear h hW hS hl
      intro self17 IH18 x14 x15 x16 h H locs ls hW hS hl
      refine lv_iload hx hb dX11_lasts_28 (lv_at hl 4 rfl) ?_
      refine lv_bipush (v := 16) hx hb dX11_lasts_30 (by decide) ?_
      refine lv_icmp_ge (tgt := 129) hx hb dX11_lasts_32 (by decide) (fun c19 => ?_) (fun c19 => ?_)
      · replace h := ite_t c19 h
        refine lv_goto (tgt := 19) hx hb dX11_lasts_129 (by decide) ?_
        exact IH7 _ _ h _ _ _ hW hS (lv_sub hl [0, 1, 2, 3] rfl)
      · replace h := ite_f c19 h
        refine lv_iconst (v := 0) hx hb dX11_lasts_35 (by decide) ?_
        refine lv_istore (lv' := [(5, .int 0), (0, .ref (B + a0)), (1, .int a1), (2, .int x14), (3, .int (b2i x15)), (4, .int x16)]) hx hb dX11_lasts_36 hl (by decide) rfl (fun ls hl => ?_)
        refine lv_iconst (v := 0) hx hb dX11_lasts_38 (by decide) ?_
        refine lv_istore (lv' := [(6, .int 0), (5, .int 0), (0, .ref (B + a0)), (1, .int a1), (2, .int x14), (3, .int (b2i x15)), (4, .int x16)]) hx hb dX11_lasts_39 hl (by decide) rfl (fun ls hl => ?_)
        refine fix2_ind (fun (x20 : Int32) (x21 : Int32) => ∀ (H : Heap) (locs : List Loc) (ls : Array Slot), gWM D T B r2.1 H → va_S (gA B X) s.heap H locs → lv_has ls 8 [(0, .ref (B + a0)), (1, .int a1), (2, .int x14), (3, .int (b2i x15)), (4, .int x16), (5, .int x20), (6, .int x21)] → W p l e rmX11_lasts s m args below meth c H locs 0 0 Q (F0 m 41 ls [])) ?_ N _ _ h _ _ _ hW hS (lv_sub hl [2, 3, 4, 5, 6, 1, 0] rfl)
        clear h hW hS hl
        intro self22 IH23 x20 x21 h H locs ls hW hS hl
        refine lv_iload hx hb dX11_lasts_41 (lv_at hl 6 rfl) ?_
        refine lv_iconst (v := 4) hx hb dX11_lasts_43 (by decide) ?_
        refine lv_icmp_ge (tgt := 87) hx hb dX11_lasts_44 (by decide) (fun c24 => ?_) (fun c24 => ?_)
        · replace h := ite_t c24 h
          refine lv_iload_n hx hb dX11_lasts_87 rfl (lv_at hl 2 rfl) ?_
          refine lv_iload hx hb dX11_lasts_88 (lv_at hl 4 rfl) ?_
          refine lv_ishr hx hb dX11_lasts_90 ?_
          refine lv_iconst (v := 1) hx hb dX11_lasts_91 (by decide) ?_
          refine lv_iand hx hb dX11_lasts_92 ?_
          refine lv_iconst (v := 1) hx hb dX11_lasts_93 (by decide) ?_
          obtain ⟨j27, hj29, h⟩ := jn2_o h
          have J28 : ∀ (y25 : Int32) (y26 : Bool), j27 y25 y26 = some r → ∀ (H : Heap) (locs : List Loc) (ls : Array Slot), gWM D T B r2.1 H → va_S (gA B X) s.heap H locs → lv_has ls 8 [(0, .ref (B + a0)), (1, .int a1), (2, .int y25), (3, .int (b2i y26)), (4, .int x16)] → W p l e rmX11_lasts s m args below meth c H locs 0 0 Q (F0 m 123 ls []) := by
            clear h hW hS hl
            intro y25 y26 h H locs ls hW hS hl
            replace h := (hj29 y25 y26).symm.trans h
            obtain ⟨v30, e31, h⟩ := lt_out h
            refine lv_iinc (v := v30) (lv' := [(4, .int v30), (0, .ref (B + a0)), (1, .int a1), (2, .int y25), (3, .int (b2i y26))]) hx hb dX11_lasts_123 hl (k := 4) rfl (by rw [e31]; rfl) (by decide) rfl (fun ls hl => ?_)
            refine lv_goto (tgt := 28) hx hb dX11_lasts_126 (by decide) ?_
            exact IH18 _ _ _ h _ _ _ hW hS (lv_sub hl [1, 2, 3, 4, 0] rfl)
          refine lv_icmp_ne (tgt := 123) hx hb dX11_lasts_94 (by decide) (fun c32 => ?_) (fun c32 => ?_)
          · replace h := ite_f c32 h
            exact J28 _ _ h _ _ _ hW hS (lv_sub hl [0, 1, 2, 3, 4] rfl)
          · replace h := ite_t c32 h
            refine lv_aload_n hx hb dX11_lasts_97 rfl (lv_at hl 0 rfl) ?_
            refine lv_iload_n hx hb dX11_lasts_98 rfl (lv_at hl 1 rfl) ?_
            refine lv_bipush (v := 7) hx hb dX11_lasts_99 (by decide) ?_
            refine lv_iload hx hb dX11_lasts_101 (lv_at hl 4 rfl) ?_
            refine lv_iadd hx hb dX11_lasts_103 ?_
            obtain ⟨r33, hcall, h⟩ := bd_out h
            refine g0_callV (As := [.int a1, .int (7 + x16)]) hC hml hS hW (KC_at hk hS F.2.2.2.2) KC_blind (metX11_of F hX k0 hcall) ml_X11_144 (gw_recv hC hW k0.1 (k0.2.1 T B (r2.1 a0)) rfl) ⟨rfl, rfl, Nat.le_of_ble_eq_true rfl, Nat.le_of_ble_eq_true rfl⟩ rfl hl.1 rfl (Nat.le_of_ble_eq_true rfl) dX11_lasts_104 ⟨Nat.le_of_ble_eq_true rfl, Nat.le_of_ble_eq_true rfl⟩ (fun H locs hW hS => ?_)
            refine lv_iload hx hb dX11_lasts_107 (lv_at hl 5 rfl) ?_
            refine lv_icmp_lt (tgt := 123) hx hb dX11_lasts_109 (by decide) (fun c34 => ?_) (fun c34 => ?_)
            · replace h := ite_t c34 h
              exact J28 _ _ h _ _ _ hW hS (lv_sub hl [0, 1, 2, 3, 4] rfl)
            · replace h := ite_f c34 h
              refine lv_iload_n hx hb dX11_lasts_112 rfl (lv_at hl 2 rfl) ?_
              refine lv_iconst (v := 1) hx hb dX11_lasts_113 (by decide) ?_
              refine lv_iload hx hb dX11_lasts_114 (lv_at hl 4 rfl) ?_
              refine lv_ishl hx hb dX11_lasts_116 ?_
              refine lv_iconst (v := (-1)) hx hb dX11_lasts_117 (by decide) ?_
              refine lv_ixor hx hb dX11_lasts_118 ?_
              refine lv_iand hx hb dX11_lasts_119 ?_
              obtain ⟨v35, e36, h⟩ := lt_out h
              rw [← e36]
              refine lv_istore_n (lv' := [(2, .int v35), (0, .ref (B + a0)), (1, .int a1), (3, .int (b2i x15)), (4, .int x16), (5, .int x20), (6, .int x21)]) hx hb dX11_lasts_120 rfl hl (by decide) rfl (fun ls hl => ?_)
              refine lv_iconst (v := 1) hx hb dX11_lasts_121 (by decide) ?_
              refine lv_istore_n (lv' := [(3, .int 1), (2, .int v35), (0, .ref (B + a0)), (1, .int a1), (4, .int x16), (5, .int x20), (6, .int x21)]) hx hb dX11_lasts_122 rfl hl (by decide) rfl (fun ls hl => ?_)
              exact J28 _ _ h _ _ _ hW hS (lv_sub hl [2, 3, 1, 0, 4] rfl)
        · replace h := ite_f c24 h
          refine lv_iload hx hb dX11_lasts_47 (lv_at hl 4 rfl) ?_
          refine lv_iload hx hb dX11_lasts_49 (lv_at hl 6 rfl) ?_
          obtain ⟨r37, hcall, h⟩ := bd_out h
          refine g0_callS (As := [.int x16, .int x21]) hC hml hS hW (KC_at hk hS F.2.2.2.2) KC_blind (metX11_beside F hX  hcall) ml_X11_153 ⟨rfl, rfl, Nat.le_of_ble_eq_true rfl, Nat.le_of_ble_eq_true rfl⟩ rfl hl.1 rfl (Nat.le_of_ble_eq_true rfl) dX11_lasts_51 ⟨Nat.le_of_ble_eq_true rfl, Nat.le_of_ble_eq_true rfl⟩ (fun H locs hW hS => ?_)
          refine lv_istore (lv' := [(7, .int r37), (0, .ref (B + a0)), (1, .int a1), (2, .int x14), (3, .int (b2i x15)), (4, .int x16), (5, .int x20), (6, .int x21)]) hx hb dX11_lasts_54 hl (by decide) rfl (fun ls hl => ?_)
          refine lv_iload hx hb dX11_lasts_56 (lv_at hl 6 rfl) ?_
          refine lv_iload hx hb dX11_lasts_58 (lv_at hl 0 rfl) ?_
          obtain ⟨j39, hj41, h⟩ := jn1_o h
          have J40 : ∀ (y38 : Bool), j39 y38 = some r → ∀ (H : Heap) (locs : List Loc) (ls : Array Slot), gWM D T B r2.1 H → va_S (gA B X) s.heap H locs → lv_has ls 8 [(0, .ref (B + a0)), (1, .int a1), (2, .int x14), (3, .int (b2i x15)), (4, .int x16), (6, .int x21)] → W p l e rmX11_lasts s m args below meth c H locs 0 0 Q (F0 m 78 ls [.int (b2i y38), .int x20]) := by
            clear h hW hS hl
            intro y38 h H locs ls hW hS hl
            replace h := (hj41 y38).symm.trans h
            refine lv_iadd hx hb dX11_lasts_78 ?_
            obtain ⟨v42, e43, h⟩ := lt_out h
            rw [← e43]
            refine lv_istore (lv' := [(5, .int v42), (0, .ref (B + a0)), (1, .int a1), (2, .int x14), (3, .int (b2i x15)), (4, .int x16), (6, .int x21)]) hx hb dX11_lasts_79 hl (by decide) rfl (fun ls hl => ?_)
            obtain ⟨v44, e45, h⟩ := lt_out h
            refine lv_iinc (v := v44) (lv' := [(6, .int v44), (5, .int v42), (0, .ref (B + a0)), (1, .int a1), (2, .int x14), (3, .int (b2i x15)), (4, .int x16)]) hx hb dX11_lasts_81 hl (k := 6) rfl (by rw [e45]; rfl) (by decide) rfl (fun ls hl => ?_)
            refine lv_goto (tgt := 41) hx hb dX11_lasts_84 (by decide) ?_
            exact IH23 _ _ h _ _ _ hW hS (lv_sub hl [2, 3, 4, 5, 6, 1, 0] rfl)
          obtain ⟨j47, hj49, h⟩ := jn1_o h
          have J48 : ∀ (u46 : Unit), j47 u46 = some r → ∀ (H : Heap) (locs : List Loc) (ls : Array Slot), gWM D T B r2.1 H → va_S (gA B X) s.heap H locs → lv_has ls 8 [(0, .ref (B + a0)), (1, .int a1), (2, .int x14), (3, .int (b2i x15)), (4, .int x16), (6, .int x21)] → W p l e rmX11_lasts s m args below meth c H locs 0 0 Q (F0 m 77 ls [.int x20]) := by
            clear h hW hS hl
            intro u46 h H locs ls hW hS hl
            replace h := (hj49 u46).symm.trans h
            refine lv_iconst (v := 0) hx hb dX11_lasts_77 (by decide) ?_
            exact J40 _ h _ _ _ hW hS (lv_sub hl [0, 1, 2, 3, 4, 5] rfl)
          refine lv_if_lt (tgt := 77) hx hb dX11_lasts_60 (by decide) (fun c50 => ?_) (fun c50 => ?_)
          · replace h := ite_t c50 h
            exact J48 _ h _ _ _ hW hS (lv_sub hl [1, 2, 3, 4, 5, 7] rfl)
          · replace h := ite_f c50 h
            refine lv_iload_n hx hb dX11_lasts_63 rfl (lv_at hl 3 rfl) ?_
            refine lv_iload hx hb dX11_lasts_64 (lv_at hl 0 rfl) ?_
            refine lv_ishr hx hb dX11_lasts_66 ?_
            refine lv_iconst (v := 1) hx hb dX11_lasts_67 (by decide) ?_
            refine lv_iand hx hb dX11_lasts_68 ?_
            refine lv_iconst (v := 1) hx hb dX11_lasts_69 (by decide) ?_
            refine lv_icmp_ne (tgt := 77) hx hb dX11_lasts_70 (by decide) (fun c51 => ?_) (fun c51 => ?_)
            · replace h := ite_f c51 h
              exact J48 _ h _ _ _ hW hS (lv_sub hl [1, 2, 3, 4, 5, 7] rfl)
            · replace h := ite_t c51 h
              refine lv_iconst (v := 1) hx hb dX11_lasts_73 (by decide) ?_
              refine lv_goto (tgt := 78) hx hb dX11_lasts_74 (by decide) ?_
              exact J40 _ h _ _ _ hW hS (lv_sub hl [1, 2, 3, 4, 5, 7] rfl)
  · replace h := cond_f c3 h
    refine lv_iconst (v := 0) hx hb dX11_lasts_12 (by decide) ?_
    cases h
    exact hend dX11_lasts_13 hW hS (Nat.le_of_ble_eq_true rfl) (Nat.le_of_ble_eq_true rfl)

theorem dX11_lastsByToppling_0 : decode cX11_lastsByToppling 0 = .ok (.aload_n 0, 1) := by decide +kernel
theorem dX11_lastsByToppling_1 : decode cX11_lastsByToppling 1 = .ok (.iload_n 1, 1) := by decide +kernel
theorem dX11_lastsByToppling_2 : decode cX11_lastsByToppling 2 = .ok (.invokevirtual 182, 3) := by decide +kernel
theorem dX11_lastsByToppling_5 : decode cX11_lastsByToppling 5 = .ok (.ireturn, 1) := by decide +kernel
abbrev rmX11_lastsByToppling : Room := { frames := 5, cells := 0, slots := 0, locals := 132 }
set_option maxHeartbeats 4000000 in
set_option maxRecDepth 100000 in
theorem metX11_lastsByToppling {l : Launch} {s0 : State} {b B : Nat} {D : va_G} {T : Nat → ClassId} (F : FX l s0 b D T B) {X : Nat → Prop} (hX : ∀ o, o < 12 → ¬ X (B + o)) {N : Nat} {μ : Mem} {a0 : Nat} {a1 : Int32} {r : Mem × Bool} (k0 : IsMo a0) (h : fX11_lastsByToppling N μ a0 a1 = some r) : gMet l yX11_lastsByToppling cX11_lastsByToppling 2 (some .boolean) rmX11_lastsByToppling [.ref (B + a0), .int a1] (gWM D T B μ) (KC s0 X) (some (.int (b2i r.2))) (gWM D T B r.1) (gA B X) 0 0 := by
  refine gZ_of RX11 (by decide +kernel) rfl (Nat.le_of_ble_eq_true rfl) ?_
  intro p e s m args below meth c ls Q hx hb hlocks hml hown hts hW hk hl hS hend
  have hC := FX_C F hk hx hb hown hts
  have hA := gA_allM hX
  have hl : lv_has ls 2 [(0, .ref (B + a0)), (1, .int a1)] := hl
  unfold fX11_lastsByToppling at h
  refine lv_aload_n hx hb dX11_lastsByToppling_0 rfl (lv_at hl 0 rfl) ?_
  refine lv_iload_n hx hb dX11_lastsByToppling_1 rfl (lv_at hl 1 rfl) ?_
  obtain ⟨r1, hcall, h⟩ := bd_out h
  refine g0_callV (As := [.int a1]) hC hml hS hW (KC_at hk hS F.2.2.2.2) KC_blind (metX11_lasts F hX k0 hcall) ml_X11_182 (gw_recv hC hW k0.1 (k0.2.1 T B (μ a0)) rfl) ⟨rfl, rfl, Nat.le_of_ble_eq_true rfl, Nat.le_of_ble_eq_true rfl⟩ rfl hl.1 rfl (Nat.le_of_ble_eq_true rfl) dX11_lastsByToppling_2 ⟨Nat.le_of_ble_eq_true rfl, Nat.le_of_ble_eq_true rfl⟩ (fun H locs hW hS => ?_)
  cases h
  exact hend dX11_lastsByToppling_5 hW hS (Nat.le_of_ble_eq_true rfl) (Nat.le_of_ble_eq_true rfl)

theorem dX11_dropped_0 : decode cX11_dropped 0 = .ok (.aload_n 0, 1) := by decide +kernel
theorem dX11_dropped_1 : decode cX11_dropped 1 = .ok (.iload_n 1, 1) := by decide +kernel
theorem dX11_dropped_2 : decode cX11_dropped 2 = .ok (.iconst 2, 1) := by decide +kernel
theorem dX11_dropped_3 : decode cX11_dropped 3 = .ok (.invokevirtual 175, 3) := by decide +kernel
theorem dX11_dropped_6 : decode cX11_dropped 6 = .ok (.ireturn, 1) := by decide +kernel
abbrev rmX11_dropped : Room := { frames := 5, cells := 0, slots := 0, locals := 125 }
set_option maxHeartbeats 4000000 in
set_option maxRecDepth 100000 in
theorem metX11_dropped {l : Launch} {s0 : State} {b B : Nat} {D : va_G} {T : Nat → ClassId} (F : FX l s0 b D T B) {X : Nat → Prop} (hX : ∀ o, o < 12 → ¬ X (B + o)) {N : Nat} {μ : Mem} {a0 : Nat} {a1 : Int32} {r : Mem × Int32} (k0 : IsMo a0) (h : fX11_dropped N μ a0 a1 = some r) : gMet l yX11_dropped cX11_dropped 2 (some .int) rmX11_dropped [.ref (B + a0), .int a1] (gWM D T B μ) (KC s0 X) (some (.int r.2)) (gWM D T B r.1) (gA B X) 0 0 := by
  refine gI_of RX11 (by decide +kernel) rfl (Nat.le_of_ble_eq_true rfl) ?_
  intro p e s m args below meth c ls Q hx hb hlocks hml hown hts hW hk hl hS hend
  have hC := FX_C F hk hx hb hown hts
  have hA := gA_allM hX
  have hl : lv_has ls 2 [(0, .ref (B + a0)), (1, .int a1)] := hl
  unfold fX11_dropped at h
  refine lv_aload_n hx hb dX11_dropped_0 rfl (lv_at hl 0 rfl) ?_
  refine lv_iload_n hx hb dX11_dropped_1 rfl (lv_at hl 1 rfl) ?_
  refine lv_iconst (v := 2) hx hb dX11_dropped_2 (by decide) ?_
  obtain ⟨r1, hcall, h⟩ := bd_out h
  refine g0_callV (As := [.int a1, .int 2]) hC hml hS hW (KC_at hk hS F.2.2.2.2) KC_blind (metX11_tells F hX k0 hcall) ml_X11_175 (gw_recv hC hW k0.1 (k0.2.1 T B (μ a0)) rfl) ⟨rfl, rfl, Nat.le_of_ble_eq_true rfl, Nat.le_of_ble_eq_true rfl⟩ rfl hl.1 rfl (Nat.le_of_ble_eq_true rfl) dX11_dropped_3 ⟨Nat.le_of_ble_eq_true rfl, Nat.le_of_ble_eq_true rfl⟩ (fun H locs hW hS => ?_)
  cases h
  exact hend dX11_dropped_6 hW hS (Nat.le_of_ble_eq_true rfl) (Nat.le_of_ble_eq_true rfl)

theorem dX11_spilled_0 : decode cX11_spilled 0 = .ok (.aload_n 0, 1) := by decide +kernel
theorem dX11_spilled_1 : decode cX11_spilled 1 = .ok (.iload_n 1, 1) := by decide +kernel
theorem dX11_spilled_2 : decode cX11_spilled 2 = .ok (.iconst 3, 1) := by decide +kernel
theorem dX11_spilled_3 : decode cX11_spilled 3 = .ok (.invokevirtual 175, 3) := by decide +kernel
theorem dX11_spilled_6 : decode cX11_spilled 6 = .ok (.ireturn, 1) := by decide +kernel
abbrev rmX11_spilled : Room := { frames := 5, cells := 0, slots := 0, locals := 125 }
set_option maxHeartbeats 4000000 in
set_option maxRecDepth 100000 in
theorem metX11_spilled {l : Launch} {s0 : State} {b B : Nat} {D : va_G} {T : Nat → ClassId} (F : FX l s0 b D T B) {X : Nat → Prop} (hX : ∀ o, o < 12 → ¬ X (B + o)) {N : Nat} {μ : Mem} {a0 : Nat} {a1 : Int32} {r : Mem × Int32} (k0 : IsMo a0) (h : fX11_spilled N μ a0 a1 = some r) : gMet l yX11_spilled cX11_spilled 2 (some .int) rmX11_spilled [.ref (B + a0), .int a1] (gWM D T B μ) (KC s0 X) (some (.int r.2)) (gWM D T B r.1) (gA B X) 0 0 := by
  refine gI_of RX11 (by decide +kernel) rfl (Nat.le_of_ble_eq_true rfl) ?_
  intro p e s m args below meth c ls Q hx hb hlocks hml hown hts hW hk hl hS hend
  have hC := FX_C F hk hx hb hown hts
  have hA := gA_allM hX
  have hl : lv_has ls 2 [(0, .ref (B + a0)), (1, .int a1)] := hl
  unfold fX11_spilled at h
  refine lv_aload_n hx hb dX11_spilled_0 rfl (lv_at hl 0 rfl) ?_
  refine lv_iload_n hx hb dX11_spilled_1 rfl (lv_at hl 1 rfl) ?_
  refine lv_iconst (v := 3) hx hb dX11_spilled_2 (by decide) ?_
  obtain ⟨r1, hcall, h⟩ := bd_out h
  refine g0_callV (As := [.int a1, .int 3]) hC hml hS hW (KC_at hk hS F.2.2.2.2) KC_blind (metX11_tells F hX k0 hcall) ml_X11_175 (gw_recv hC hW k0.1 (k0.2.1 T B (μ a0)) rfl) ⟨rfl, rfl, Nat.le_of_ble_eq_true rfl, Nat.le_of_ble_eq_true rfl⟩ rfl hl.1 rfl (Nat.le_of_ble_eq_true rfl) dX11_spilled_3 ⟨Nat.le_of_ble_eq_true rfl, Nat.le_of_ble_eq_true rfl⟩ (fun H locs hW hS => ?_)
  cases h
  exact hend dX11_spilled_6 hW hS (Nat.le_of_ble_eq_true rfl) (Nat.le_of_ble_eq_true rfl)

theorem dX11_melted_0 : decode cX11_melted 0 = .ok (.aload_n 0, 1) := by decide +kernel
theorem dX11_melted_1 : decode cX11_melted 1 = .ok (.iload_n 1, 1) := by decide +kernel
theorem dX11_melted_2 : decode cX11_melted 2 = .ok (.iconst 4, 1) := by decide +kernel
theorem dX11_melted_3 : decode cX11_melted 3 = .ok (.invokevirtual 175, 3) := by decide +kernel
theorem dX11_melted_6 : decode cX11_melted 6 = .ok (.ireturn, 1) := by decide +kernel
abbrev rmX11_melted : Room := { frames := 5, cells := 0, slots := 0, locals := 125 }
set_option maxHeartbeats 4000000 in
set_option maxRecDepth 100000 in
theorem metX11_melted {l : Launch} {s0 : State} {b B : Nat} {D : va_G} {T : Nat → ClassId} (F : FX l s0 b D T B) {X : Nat → Prop} (hX : ∀ o, o < 12 → ¬ X (B + o)) {N : Nat} {μ : Mem} {a0 : Nat} {a1 : Int32} {r : Mem × Int32} (k0 : IsMo a0) (h : fX11_melted N μ a0 a1 = some r) : gMet l yX11_melted cX11_melted 2 (some .int) rmX11_melted [.ref (B + a0), .int a1] (gWM D T B μ) (KC s0 X) (some (.int r.2)) (gWM D T B r.1) (gA B X) 0 0 := by
  refine gI_of RX11 (by decide +kernel) rfl (Nat.le_of_ble_eq_true rfl) ?_
  intro p e s m args below meth c ls Q hx hb hlocks hml hown hts hW hk hl hS hend
  have hC := FX_C F hk hx hb hown hts
  have hA := gA_allM hX
  have hl : lv_has ls 2 [(0, .ref (B + a0)), (1, .int a1)] := hl
  unfold fX11_melted at h
  refine lv_aload_n hx hb dX11_melted_0 rfl (lv_at hl 0 rfl) ?_
  refine lv_iload_n hx hb dX11_melted_1 rfl (lv_at hl 1 rfl) ?_
  refine lv_iconst (v := 4) hx hb dX11_melted_2 (by decide) ?_
  obtain ⟨r1, hcall, h⟩ := bd_out h
  refine g0_callV (As := [.int a1, .int 4]) hC hml hS hW (KC_at hk hS F.2.2.2.2) KC_blind (metX11_tells F hX k0 hcall) ml_X11_175 (gw_recv hC hW k0.1 (k0.2.1 T B (μ a0)) rfl) ⟨rfl, rfl, Nat.le_of_ble_eq_true rfl, Nat.le_of_ble_eq_true rfl⟩ rfl hl.1 rfl (Nat.le_of_ble_eq_true rfl) dX11_melted_3 ⟨Nat.le_of_ble_eq_true rfl, Nat.le_of_ble_eq_true rfl⟩ (fun H locs hW hS => ?_)
  cases h
  exact hend dX11_melted_6 hW hS (Nat.le_of_ble_eq_true rfl) (Nat.le_of_ble_eq_true rfl)

theorem dX11_melts_0 : decode cX11_melts 0 = .ok (.iconst 0, 1) := by decide +kernel
theorem dX11_melts_1 : decode cX11_melts 1 = .ok (.istore_n 3, 1) := by decide +kernel
theorem dX11_melts_2 : decode cX11_melts 2 = .ok (.iload_n 3, 1) := by decide +kernel
theorem dX11_melts_3 : decode cX11_melts 3 = .ok (.iload_n 2, 1) := by decide +kernel
theorem dX11_melts_4 : decode cX11_melts 4 = .ok (.if_icmp .ge 90, 3) := by decide +kernel
theorem dX11_melts_7 : decode cX11_melts 7 = .ok (.aload_n 0, 1) := by decide +kernel
theorem dX11_melts_8 : decode cX11_melts 8 = .ok (.iload_n 1, 1) := by decide +kernel
theorem dX11_melts_9 : decode cX11_melts 9 = .ok (.invokevirtual 178, 3) := by decide +kernel
theorem dX11_melts_12 : decode cX11_melts 12 = .ok (.ifCond .le 82, 3) := by decide +kernel
theorem dX11_melts_15 : decode cX11_melts 15 = .ok (.iconst 0, 1) := by decide +kernel
theorem dX11_melts_16 : decode cX11_melts 16 = .ok (.istore 4, 2) := by decide +kernel
theorem dX11_melts_18 : decode cX11_melts 18 = .ok (.iconst 1, 1) := by decide +kernel
theorem dX11_melts_19 : decode cX11_melts 19 = .ok (.istore 5, 2) := by decide +kernel
theorem dX11_melts_21 : decode cX11_melts 21 = .ok (.iload 5, 2) := by decide +kernel
theorem dX11_melts_23 : decode cX11_melts 23 = .ok (.bipush 16, 2) := by decide +kernel
theorem dX11_melts_25 : decode cX11_melts 25 = .ok (.if_icmp .ge 41, 3) := by decide +kernel
theorem dX11_melts_28 : decode cX11_melts 28 = .ok (.aload_n 0, 1) := by decide +kernel
theorem dX11_melts_29 : decode cX11_melts 29 = .ok (.iload_n 1, 1) := by decide +kernel
theorem dX11_melts_30 : decode cX11_melts 30 = .ok (.bipush 7, 2) := by decide +kernel
theorem dX11_melts_32 : decode cX11_melts 32 = .ok (.iload 5, 2) := by decide +kernel
theorem dX11_melts_34 : decode cX11_melts 34 = .ok (.iadd, 1) := by decide +kernel
theorem dX11_melts_35 : decode cX11_melts 35 = .ok (.invokevirtual 144, 3) := by decide +kernel
theorem dX11_melts_38 : decode cX11_melts 38 = .ok (.aload_n 0, 1) := by decide +kernel
theorem dX11_melts_39 : decode cX11_melts 39 = .ok (.iload_n 1, 1) := by decide +kernel
theorem dX11_melts_40 : decode cX11_melts 40 = .ok (.bipush 7, 2) := by decide +kernel
theorem dX11_melts_42 : decode cX11_melts 42 = .ok (.iload 4, 2) := by decide +kernel
theorem dX11_melts_44 : decode cX11_melts 44 = .ok (.iadd, 1) := by decide +kernel
theorem dX11_melts_45 : decode cX11_melts 45 = .ok (.invokevirtual 144, 3) := by decide +kernel
theorem dX11_melts_48 : decode cX11_melts 48 = .ok (.if_icmp .le 8, 3) := by decide +kernel
theorem dX11_melts_51 : decode cX11_melts 51 = .ok (.iload 5, 2) := by decide +kernel
theorem dX11_melts_53 : decode cX11_melts 53 = .ok (.goto 5, 3) := by decide +kernel
theorem dX11_melts_56 : decode cX11_melts 56 = .ok (.iload 4, 2) := by decide +kernel
theorem dX11_melts_58 : decode cX11_melts 58 = .ok (.istore 4, 2) := by decide +kernel
theorem dX11_melts_60 : decode cX11_melts 60 = .ok (.iinc 5 1, 3) := by decide +kernel
theorem dX11_melts_63 : decode cX11_melts 63 = .ok (.goto (-42), 3) := by decide +kernel
theorem dX11_melts_66 : decode cX11_melts 66 = .ok (.aload_n 0, 1) := by decide +kernel
theorem dX11_melts_67 : decode cX11_melts 67 = .ok (.iload_n 1, 1) := by decide +kernel
theorem dX11_melts_68 : decode cX11_melts 68 = .ok (.bipush 7, 2) := by decide +kernel
theorem dX11_melts_70 : decode cX11_melts 70 = .ok (.iload 4, 2) := by decide +kernel
theorem dX11_melts_72 : decode cX11_melts 72 = .ok (.iadd, 1) := by decide +kernel
theorem dX11_melts_73 : decode cX11_melts 73 = .ok (.aload_n 0, 1) := by decide +kernel
theorem dX11_melts_74 : decode cX11_melts 74 = .ok (.iload_n 1, 1) := by decide +kernel
theorem dX11_melts_75 : decode cX11_melts 75 = .ok (.bipush 7, 2) := by decide +kernel
theorem dX11_melts_77 : decode cX11_melts 77 = .ok (.iload 4, 2) := by decide +kernel
theorem dX11_melts_79 : decode cX11_melts 79 = .ok (.iadd, 1) := by decide +kernel
theorem dX11_melts_80 : decode cX11_melts 80 = .ok (.invokevirtual 144, 3) := by decide +kernel
theorem dX11_melts_83 : decode cX11_melts 83 = .ok (.iconst 1, 1) := by decide +kernel
theorem dX11_melts_84 : decode cX11_melts 84 = .ok (.isub, 1) := by decide +kernel
theorem dX11_melts_85 : decode cX11_melts 85 = .ok (.invokevirtual 134, 3) := by decide +kernel
theorem dX11_melts_88 : decode cX11_melts 88 = .ok (.iinc 3 1, 3) := by decide +kernel
theorem dX11_melts_91 : decode cX11_melts 91 = .ok (.goto (-89), 3) := by decide +kernel
theorem dX11_melts_94 : decode cX11_melts 94 = .ok (.aload_n 0, 1) := by decide +kernel
theorem dX11_melts_95 : decode cX11_melts 95 = .ok (.iload_n 1, 1) := by decide +kernel
theorem dX11_melts_96 : decode cX11_melts 96 = .ok (.iconst 4, 1) := by decide +kernel
theorem dX11_melts_97 : decode cX11_melts 97 = .ok (.aload_n 0, 1) := by decide +kernel
theorem dX11_melts_98 : decode cX11_melts 98 = .ok (.iload_n 1, 1) := by decide +kernel
theorem dX11_melts_99 : decode cX11_melts 99 = .ok (.iconst 4, 1) := by decide +kernel
theorem dX11_melts_100 : decode cX11_melts 100 = .ok (.invokevirtual 144, 3) := by decide +kernel
theorem dX11_melts_103 : decode cX11_melts 103 = .ok (.iload_n 3, 1) := by decide +kernel
theorem dX11_melts_104 : decode cX11_melts 104 = .ok (.iadd, 1) := by decide +kernel
theorem dX11_melts_105 : decode cX11_melts 105 = .ok (.invokevirtual 134, 3) := by decide +kernel
theorem dX11_melts_108 : decode cX11_melts 108 = .ok (.iload_n 3, 1) := by decide +kernel
theorem dX11_melts_109 : decode cX11_melts 109 = .ok (.ireturn, 1) := by decide +kernel
abbrev rmX11_melts : Room := { frames := 4, cells := 0, slots := 0, locals := 105 }
set_option maxHeartbeats 4000000 in
set_option maxRecDepth 100000 in
theorem metX11_melts {l : Launch} {s0 : State} {b B : Nat} {D : va_G} {T : Nat → ClassId} (F : FX l s0 b D T B) {X : Nat → Prop} (hX : ∀ o, o < 12 → ¬ X (B + o)) {N : Nat} {μ : Mem} {a0 : Nat} {a1 : Int32} {a2 : Int32} {r : Mem × Int32} (k0 : IsMo a0) (h : fX11_melts N μ a0 a1 a2 = some r) : gMet l yX11_melts cX11_melts 6 (some .int) rmX11_melts [.ref (B + a0), .int a1, .int a2] (gWM D T B μ) (KC s0 X) (some (.int r.2)) (gWM D T B r.1) (gA B X) 0 0 := by
  refine gI_of RX11 (by decide +kernel) rfl (Nat.le_of_ble_eq_true rfl) ?_
  intro p e s m args below meth c ls Q hx hb hlocks hml hown hts hW hk hl hS hend
  have hC := FX_C F hk hx hb hown hts
  have hA := gA_allM hX
  have hl : lv_has ls 6 [(0, .ref (B + a0)), (1, .int a1), (2, .int a2)] := hl
  unfold fX11_melts at h
  refine lv_iconst (v := 0) hx hb dX11_melts_0 (by decide) ?_
  refine lv_istore_n (lv' := [(3, .int 0), (0, .ref (B + a0)), (1, .int a1), (2, .int a2)]) hx hb dX11_melts_1 rfl hl (by decide) rfl (fun ls hl => ?_)
  refine fix2_ind (fun (x1 : Int32) (μ2 : Mem) => ∀ (H : Heap) (locs : List Loc) (ls : Array Slot), gWM D T B μ2 H → va_S (gA B X) s.heap H locs → lv_has ls 6 [(0, .ref (B + a0)), (1, .int a1), (2, .int a2), (3, .int x1)] → W p l e rmX11_melts s m args below meth c H locs 0 0 Q (F0 m 2 ls [])) ?_ N _ _ h _ _ _ hW hS (lv_sub hl [1, 2, 3, 0] rfl)
  clear h hW hS hl
  intro self3 IH4 x1 μ2 h H locs ls hW hS hl
  refine lv_iload_n hx hb dX11_melts_2 rfl (lv_at hl 3 rfl) ?_
  refine lv_iload_n hx hb dX11_melts_3 rfl (lv_at hl 2 rfl) ?_
  obtain ⟨j6, hj8, h⟩ := jn1_o h
  have J7 : ∀ (u5 : Unit), j6 u5 = some r → ∀ (H : Heap) (locs : List Loc) (ls : Array Slot), gWM D T B μ2 H → va_S (gA B X) s.heap H locs → lv_has ls 6 [(0, .ref (B + a0)), (1, .int a1), (3, .int x1)] → W p l e rmX11_melts s m args below meth c H locs 0 0 Q (F0 m 94 ls []) := by
    clear h hW hS hl
    intro u5 h H locs ls hW hS hl
    replace h := (hj8 u5).symm.trans h
    refine lv_aload_n hx hb dX11_melts_94 rfl (lv_at hl 0 rfl) ?_
    refine lv_iload_n hx hb dX11_melts_95 rfl (lv_at hl 1 rfl) ?_
    refine lv_iconst (v := 4) hx hb dX11_melts_96 (by decide) ?_
    refine lv_aload_n hx hb dX11_melts_97 rfl (lv_at hl 0 rfl) ?_
    refine lv_iload_n hx hb dX11_melts_98 rfl (lv_at hl 1 rfl) ?_
    refine lv_iconst (v := 4) hx hb dX11_melts_99 (by decide) ?_
    obtain ⟨r9, hcall, h⟩ := bd_out h
    refine g0_callV (As := [.int a1, .int 4]) hC hml hS hW (KC_at hk hS F.2.2.2.2) KC_blind (metX11_of F hX k0 hcall) ml_X11_144 (gw_recv hC hW k0.1 (k0.2.1 T B (μ2 a0)) rfl) ⟨rfl, rfl, Nat.le_of_ble_eq_true rfl, Nat.le_of_ble_eq_true rfl⟩ rfl hl.1 rfl (Nat.le_of_ble_eq_true rfl) dX11_melts_100 ⟨Nat.le_of_ble_eq_true rfl, Nat.le_of_ble_eq_true rfl⟩ (fun H locs hW hS => ?_)
    refine lv_iload_n hx hb dX11_melts_103 rfl (lv_at hl 2 rfl) ?_
    refine lv_iadd hx hb dX11_melts_104 ?_
    obtain ⟨r10, hcall, h⟩ := bd_out h
    refine g0_callV (As := [.int a1, .int 4, .int (r9 + x1)]) hC hml hS hW (KC_at hk hS F.2.2.2.2) KC_blind (metX11_sets F hX k0 hcall) ml_X11_134 (gw_recv hC hW k0.1 (k0.2.1 T B (μ2 a0)) rfl) ⟨rfl, rfl, Nat.le_of_ble_eq_true rfl, Nat.le_of_ble_eq_true rfl⟩ rfl hl.1 rfl (Nat.le_of_ble_eq_true rfl) dX11_melts_105 ⟨Nat.le_of_ble_eq_true rfl, Nat.le_of_ble_eq_true rfl⟩ (fun H locs hW hS => ?_)
    refine lv_iload_n hx hb dX11_melts_108 rfl (lv_at hl 2 rfl) ?_
    cases h
    exact hend dX11_melts_109 hW hS (Nat.le_of_ble_eq_true rfl) (Nat.le_of_ble_eq_true rfl)
  refine lv_icmp_ge (tgt := 94) hx hb dX11_melts_4 (by decide) (fun c11 => ?_) (fun c11 => ?_)
  · replace h := ite_t c11 h
    exact J7 _ h _ _ _ hW hS (lv_sub hl [0, 1, 3] rfl)
  · replace h := ite_f c11 h
    refine lv_aload_n hx hb dX11_melts_7 rfl (lv_at hl 0 rfl) ?_
    refine lv_iload_n hx hb dX11_melts_8 rfl (lv_at hl 1 rfl) ?_
    obtain ⟨r12, hcall, h⟩ := bd_out h
    refine g0_callV (As := [.int a1]) hC hml hS hW (KC_at hk hS F.2.2.2.2) KC_blind (metX11_all F hX k0 hcall) ml_X11_178 (gw_recv hC hW k0.1 (k0.2.1 T B (μ2 a0)) rfl) ⟨rfl, rfl, Nat.le_of_ble_eq_true rfl, Nat.le_of_ble_eq_true rfl⟩ rfl hl.1 rfl (Nat.le_of_ble_eq_true rfl) dX11_melts_9 ⟨Nat.le_of_ble_eq_true rfl, Nat.le_of_ble_eq_true rfl⟩ (fun H locs hW hS => ?_)
    refine lv_if_le (tgt := 94) hx hb dX11_melts_12 (by decide) (fun c13 => ?_) (fun c13 => ?_)
    · replace h := ite_t c13 h
      exact J7 _ h _ _ _ hW hS (lv_sub hl [0, 1, 3] rfl)
    · replace h := ite_f c13 h
      refine lv_iconst (v := 0) hx hb dX11_melts_15 (by decide) ?_
      refine lv_istore (lv' := [(4, .int 0), (0, .ref (B + a0)), (1, .int a1), (2, .int a2), (3, .int x1)]) hx hb dX11_melts_16 hl (by decide) rfl (fun ls hl => ?_)
      refine lv_iconst (v := 1) hx hb dX11_melts_18 (by decide) ?_
      refine lv_istore (lv' := [(5, .int 1), (4, .int 0), (0, .ref (B + a0)), (1, .int a1), (2, .int a2), (3, .int x1)]) hx hb dX11_melts_19 hl (by decide) rfl (fun ls hl => ?_)
      refine fix2_ind (fun (x14 : Int32) (x15 : Int32) => ∀ (H : Heap) (locs : List Loc) (ls : Array Slot), gWM D T B μ2 H → va_S (gA B X) s.heap H locs → lv_has ls 6 [(0, .ref (B + a0)), (1, .int a1), (2, .int a2), (3, .int x1), (4, .int x14), (5, .int x15)] → W p l e rmX11_melts s m args below meth c H locs 0 0 Q (F0 m 21 ls [])) ?_ N _ _ h _ _ _ hW hS (lv_sub hl [2, 3, 4, 5, 1, 0] rfl)
      clear h hW hS hl
      intro self16 IH17 x14 x15 h H locs ls hW hS hl
      refine lv_iload hx hb dX11_melts_21 (lv_at hl 5 rfl) ?_
      refine lv_bipush (v := 16) hx hb dX11_melts_23 (by decide) ?_
      refine lv_icmp_ge (tgt := 66) hx hb dX11_melts_25 (by decide) (fun c18 => ?_) (fun c18 => ?_)
      · replace h := ite_t c18 h
        refine lv_aload_n hx hb dX11_melts_66 rfl (lv_at hl 0 rfl) ?_
        refine lv_iload_n hx hb dX11_melts_67 rfl (lv_at hl 1 rfl) ?_
        refine lv_bipush (v := 7) hx hb dX11_melts_68 (by decide) ?_
        refine lv_iload hx hb dX11_melts_70 (lv_at hl 4 rfl) ?_
        refine lv_iadd hx hb dX11_melts_72 ?_
        refine lv_aload_n hx hb dX11_melts_73 rfl (lv_at hl 0 rfl) ?_
        refine lv_iload_n hx hb dX11_melts_74 rfl (lv_at hl 1 rfl) ?_
        refine lv_bipush (v := 7) hx hb dX11_melts_75 (by decide) ?_
        refine lv_iload hx hb dX11_melts_77 (lv_at hl 4 rfl) ?_
        refine lv_iadd hx hb dX11_melts_79 ?_
        obtain ⟨r19, hcall, h⟩ := bd_out h
        refine g0_callV (As := [.int a1, .int (7 + x14)]) hC hml hS hW (KC_at hk hS F.2.2.2.2) KC_blind (metX11_of F hX k0 hcall) ml_X11_144 (gw_recv hC hW k0.1 (k0.2.1 T B (μ2 a0)) rfl) ⟨rfl, rfl, Nat.le_of_ble_eq_true rfl, Nat.le_of_ble_eq_true rfl⟩ rfl hl.1 rfl (Nat.le_of_ble_eq_true rfl) dX11_melts_80 ⟨Nat.le_of_ble_eq_true rfl, Nat.le_of_ble_eq_true rfl⟩ (fun H locs hW hS => ?_)
        refine lv_iconst (v := 1) hx hb dX11_melts_83 (by decide) ?_
        refine lv_isub hx hb dX11_melts_84 ?_
        obtain ⟨r20, hcall, h⟩ := bd_out h
        refine g0_callV (As := [.int a1, .int (7 + x14), .int (r19 - 1)]) hC hml hS hW (KC_at hk hS F.2.2.2.2) KC_blind (metX11_sets F hX k0 hcall) ml_X11_134 (gw_recv hC hW k0.1 (k0.2.1 T B (μ2 a0)) rfl) ⟨rfl, rfl, Nat.le_of_ble_eq_true rfl, Nat.le_of_ble_eq_true rfl⟩ rfl hl.1 rfl (Nat.le_of_ble_eq_true rfl) dX11_melts_85 ⟨Nat.le_of_ble_eq_true rfl, Nat.le_of_ble_eq_true rfl⟩ (fun H locs hW hS => ?_)
        obtain ⟨v21, e22, h⟩ := lt_out h
        refine lv_iinc (v := v21) (lv' := [(3, .int v21), (0, .ref (B + a0)), (1, .int a1), (2, .int a2), (4, .int x14), (5, .int x15)]) hx hb dX11_melts_88 hl (k := 3) rfl (by rw [e22]; rfl) (by decide) rfl (fun ls hl => ?_)
        refine lv_goto (tgt := 2) hx hb dX11_melts_91 (by decide) ?_
        exact IH4 _ _ h _ _ _ hW hS (lv_sub hl [1, 2, 3, 0] rfl)
      · replace h := ite_f c18 h
        refine lv_aload_n hx hb dX11_melts_28 rfl (lv_at hl 0 rfl) ?_
        refine lv_iload_n hx hb dX11_melts_29 rfl (lv_at hl 1 rfl) ?_
        refine lv_bipush (v := 7) hx hb dX11_melts_30 (by decide) ?_
        refine lv_iload hx hb dX11_melts_32 (lv_at hl 5 rfl) ?_
        refine lv_iadd hx hb dX11_melts_34 ?_
        obtain ⟨r23, hcall, h⟩ := bd_out h
        refine g0_callV (As := [.int a1, .int (7 + x15)]) hC hml hS hW (KC_at hk hS F.2.2.2.2) KC_blind (metX11_of F hX k0 hcall) ml_X11_144 (gw_recv hC hW k0.1 (k0.2.1 T B (μ2 a0)) rfl) ⟨rfl, rfl, Nat.le_of_ble_eq_true rfl, Nat.le_of_ble_eq_true rfl⟩ rfl hl.1 rfl (Nat.le_of_ble_eq_true rfl) dX11_melts_35 ⟨Nat.le_of_ble_eq_true rfl, Nat.le_of_ble_eq_true rfl⟩ (fun H locs hW hS => ?_)
        refine lv_aload_n hx hb dX11_melts_38 rfl (lv_at hl 0 rfl) ?_
        refine lv_iload_n hx hb dX11_melts_39 rfl (lv_at hl 1 rfl) ?_
        refine lv_bipush (v := 7) hx hb dX11_melts_40 (by decide) ?_
        refine lv_iload hx hb dX11_melts_42 (lv_at hl 4 rfl) ?_
        refine lv_iadd hx hb dX11_melts_44 ?_
        obtain ⟨r24, hcall, h⟩ := bd_out h
        refine g0_callV (As := [.int a1, .int (7 + x14)]) hC hml hS hW (KC_at hk hS F.2.2.2.2) KC_blind (metX11_of F hX k0 hcall) ml_X11_144 (gw_recv hC hW k0.1 (k0.2.1 T B (μ2 a0)) rfl) ⟨rfl, rfl, Nat.le_of_ble_eq_true rfl, Nat.le_of_ble_eq_true rfl⟩ rfl hl.1 rfl (Nat.le_of_ble_eq_true rfl) dX11_melts_45 ⟨Nat.le_of_ble_eq_true rfl, Nat.le_of_ble_eq_true rfl⟩ (fun H locs hW hS => ?_)
        obtain ⟨j26, hj28, h⟩ := jn1_o h
        have J27 : ∀ (y25 : Int32), j26 y25 = some r → ∀ (H : Heap) (locs : List Loc) (ls : Array Slot), gWM D T B μ2 H → va_S (gA B X) s.heap H locs → lv_has ls 6 [(0, .ref (B + a0)), (1, .int a1), (2, .int a2), (3, .int x1), (5, .int x15)] → W p l e rmX11_melts s m args below meth c H locs 0 0 Q (F0 m 58 ls [.int y25]) := by
          clear h hW hS hl
          intro y25 h H locs ls hW hS hl
          replace h := (hj28 y25).symm.trans h
          refine lv_istore (lv' := [(4, .int y25), (0, .ref (B + a0)), (1, .int a1), (2, .int a2), (3, .int x1), (5, .int x15)]) hx hb dX11_melts_58 hl (by decide) rfl (fun ls hl => ?_)
          obtain ⟨v29, e30, h⟩ := lt_out h
          refine lv_iinc (v := v29) (lv' := [(5, .int v29), (4, .int y25), (0, .ref (B + a0)), (1, .int a1), (2, .int a2), (3, .int x1)]) hx hb dX11_melts_60 hl (k := 5) rfl (by rw [e30]; rfl) (by decide) rfl (fun ls hl => ?_)
          refine lv_goto (tgt := 21) hx hb dX11_melts_63 (by decide) ?_
          exact IH17 _ _ h _ _ _ hW hS (lv_sub hl [2, 3, 4, 5, 1, 0] rfl)
        refine lv_icmp_le (tgt := 56) hx hb dX11_melts_48 (by decide) (fun c31 => ?_) (fun c31 => ?_)
        · replace h := ite_t c31 h
          refine lv_iload hx hb dX11_melts_56 (lv_at hl 4 rfl) ?_
          exact J27 _ h _ _ _ hW hS (lv_sub hl [0, 1, 2, 3, 5] rfl)
        · replace h := ite_f c31 h
          refine lv_iload hx hb dX11_melts_51 (lv_at hl 5 rfl) ?_
          refine lv_goto (tgt := 58) hx hb dX11_melts_53 (by decide) ?_
          exact J27 _ h _ _ _ hW hS (lv_sub hl [0, 1, 2, 3, 5] rfl)

