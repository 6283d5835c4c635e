/-! Printed by program out of the decode rows: what each method of the class does, and its contract. -/
theorem dX8_letDaysPass_0 : decode cX8_letDaysPass 0 = .ok (.iconst 0, 1) := by decide +kernel
theorem dX8_letDaysPass_1 : decode cX8_letDaysPass 1 = .ok (.istore_n 2, 1) := by decide +kernel
theorem dX8_letDaysPass_2 : decode cX8_letDaysPass 2 = .ok (.iconst 0, 1) := by decide +kernel
theorem dX8_letDaysPass_3 : decode cX8_letDaysPass 3 = .ok (.istore_n 3, 1) := by decide +kernel
theorem dX8_letDaysPass_4 : decode cX8_letDaysPass 4 = .ok (.iload_n 3, 1) := by decide +kernel
theorem dX8_letDaysPass_5 : decode cX8_letDaysPass 5 = .ok (.iload_n 1, 1) := by decide +kernel
theorem dX8_letDaysPass_6 : decode cX8_letDaysPass 6 = .ok (.if_icmp .ge 16, 3) := by decide +kernel
theorem dX8_letDaysPass_9 : decode cX8_letDaysPass 9 = .ok (.iload_n 2, 1) := by decide +kernel
theorem dX8_letDaysPass_10 : decode cX8_letDaysPass 10 = .ok (.aload_n 0, 1) := by decide +kernel
theorem dX8_letDaysPass_11 : decode cX8_letDaysPass 11 = .ok (.invokevirtual 80, 3) := by decide +kernel
theorem dX8_letDaysPass_14 : decode cX8_letDaysPass 14 = .ok (.iadd, 1) := by decide +kernel
theorem dX8_letDaysPass_15 : decode cX8_letDaysPass 15 = .ok (.istore_n 2, 1) := by decide +kernel
theorem dX8_letDaysPass_16 : decode cX8_letDaysPass 16 = .ok (.iinc 3 1, 3) := by decide +kernel
theorem dX8_letDaysPass_19 : decode cX8_letDaysPass 19 = .ok (.goto (-15), 3) := by decide +kernel
theorem dX8_letDaysPass_22 : decode cX8_letDaysPass 22 = .ok (.iload_n 2, 1) := by decide +kernel
theorem dX8_letDaysPass_23 : decode cX8_letDaysPass 23 = .ok (.ireturn, 1) := by decide +kernel
abbrev rmX8_letDaysPass : Room := { frames := 5, cells := 0, slots := 0, locals := 129 }
set_option maxHeartbeats 4000000 in
set_option maxRecDepth 100000 in
theorem metX8_letDaysPass {l : Launch} {s0 : State} {b B : Nat} {D : va_G} {T : Nat → ClassId} (F : FX l s0 b D T B) {X : Nat → Prop} (hX : ∀ o, o < 560 → ¬ X (B + o)) {N : Nat} {μ : Mem} {a0 : Nat} {a1 : Int32} {r : Mem × Int32} (k0 : IsSt a0) (h : fX8_letDaysPass N μ a0 a1 = some r) : gMet l yX8_letDaysPass cX8_letDaysPass 4 (some .int) rmX8_letDaysPass [.ref (B + a0), .int a1] (gWC s0 D T B μ) (KC s0 X) (some (.int r.2)) (gWC s0 D T B r.1) (gA B X) 0 0 := by
  refine gI_of RX8 (by decide +kernel) rfl (Nat.le_of_ble_eq_true rfl) ?_
  intro p e s m args below meth c ls Q hx hb hlocks hml hown hts hW hk hl hS hend
  have hC := FX_C F hk hx hb hown hts
  have hA := gA_all hX
  have hl : lv_has ls 4 [(0, .ref (B + a0)), (1, .int a1)] := hl
  unfold fX8_letDaysPass at h
  refine lv_iconst (v := 0) hx hb dX8_letDaysPass_0 (by decide) ?_
  refine lv_istore_n (lv' := [(2, .int 0), (0, .ref (B + a0)), (1, .int a1)]) hx hb dX8_letDaysPass_1 rfl hl (by decide) rfl (fun ls hl => ?_)
  refine lv_iconst (v := 0) hx hb dX8_letDaysPass_2 (by decide) ?_
  refine lv_istore_n (lv' := [(3, .int 0), (2, .int 0), (0, .ref (B + a0)), (1, .int a1)]) hx hb dX8_letDaysPass_3 rfl hl (by decide) rfl (fun ls hl => ?_)
  refine fix3_ind (fun (x1 : Int32) (x2 : Int32) (μ3 : Mem) => ∀ (H : Heap) (locs : List Loc) (ls : Array Slot), gWC s0 D T B μ3 H → va_S (gA B X) s.heap H locs → lv_has ls 4 [(0, .ref (B + a0)), (1, .int a1), (2, .int x1), (3, .int x2)] → W p l e rmX8_letDaysPass s m args below meth c H locs 0 0 Q (F0 m 4 ls [])) ?_ N _ _ _ h _ _ _ hW hS (lv_sub hl [2, 3, 1, 0] rfl)
  clear h hW hS hl
  intro self4 IH5 x1 x2 μ3 h H locs ls hW hS hl
  refine lv_iload_n hx hb dX8_letDaysPass_4 rfl (lv_at hl 3 rfl) ?_
  refine lv_iload_n hx hb dX8_letDaysPass_5 rfl (lv_at hl 1 rfl) ?_
  refine lv_icmp_ge (tgt := 22) hx hb dX8_letDaysPass_6 (by decide) (fun c6 => ?_) (fun c6 => ?_)
  · replace h := ite_t c6 h
    refine lv_iload_n hx hb dX8_letDaysPass_22 rfl (lv_at hl 2 rfl) ?_
    cases h
    exact hend dX8_letDaysPass_23 hW hS (Nat.le_of_ble_eq_true rfl) (Nat.le_of_ble_eq_true rfl)
  · replace h := ite_f c6 h
    refine lv_iload_n hx hb dX8_letDaysPass_9 rfl (lv_at hl 2 rfl) ?_
    refine lv_aload_n hx hb dX8_letDaysPass_10 rfl (lv_at hl 0 rfl) ?_
    obtain ⟨r7, hcall, h⟩ := bd_out h
    refine g0_callV (As := []) hC hml hS hW (KC_at hk hS F.2.2.2.2) KC_blind (metX8_letDayPass F hX k0 hcall) ml_X8_80 (gw_recv hC hW k0.1 (k0.2.1 (gfm s0) T B (μ3 a0)) rfl) ⟨rfl, rfl, (Nat.le_of_ble_eq_true rfl), (Nat.le_of_ble_eq_true rfl)⟩ rfl hl.1 rfl (Nat.le_of_ble_eq_true rfl) dX8_letDaysPass_11 ⟨(Nat.le_of_ble_eq_true rfl), (Nat.le_of_ble_eq_true rfl)⟩ (fun H locs hW hS => ?_)
    refine lv_iadd hx hb dX8_letDaysPass_14 ?_
    obtain ⟨v8, e9, h⟩ := lt_out h
    rw [← e9]
    refine lv_istore_n (lv' := [(2, .int v8), (0, .ref (B + a0)), (1, .int a1), (3, .int x2)]) hx hb dX8_letDaysPass_15 rfl hl (by decide) rfl (fun ls hl => ?_)
    obtain ⟨v10, e11, h⟩ := lt_out h
    refine lv_iinc (v := v10) (lv' := [(3, .int v10), (2, .int v8), (0, .ref (B + a0)), (1, .int a1)]) hx hb dX8_letDaysPass_16 hl (k := 3) rfl (by rw [e11]; rfl) (by decide) rfl (fun ls hl => ?_)
    refine lv_goto (tgt := 4) hx hb dX8_letDaysPass_19 (by decide) ?_
    exact IH5 _ _ _ h _ _ _ hW hS (lv_sub hl [2, 3, 1, 0] rfl)

theorem dX9_weighMinutes_0 : decode cX9_weighMinutes 0 = .ok (.iconst 0, 1) := by decide +kernel
theorem dX9_weighMinutes_1 : decode cX9_weighMinutes 1 = .ok (.istore_n 2, 1) := by decide +kernel
theorem dX9_weighMinutes_2 : decode cX9_weighMinutes 2 = .ok (.iload_n 2, 1) := by decide +kernel
theorem dX9_weighMinutes_3 : decode cX9_weighMinutes 3 = .ok (.aload_n 1, 1) := by decide +kernel
theorem dX9_weighMinutes_4 : decode cX9_weighMinutes 4 = .ok (.getfield 34, 3) := by decide +kernel
theorem dX9_weighMinutes_7 : decode cX9_weighMinutes 7 = .ok (.if_icmp .ge 60, 3) := by decide +kernel
theorem dX9_weighMinutes_10 : decode cX9_weighMinutes 10 = .ok (.iconst 0, 1) := by decide +kernel
theorem dX9_weighMinutes_11 : decode cX9_weighMinutes 11 = .ok (.istore_n 3, 1) := by decide +kernel
theorem dX9_weighMinutes_12 : decode cX9_weighMinutes 12 = .ok (.iload_n 3, 1) := by decide +kernel
theorem dX9_weighMinutes_13 : decode cX9_weighMinutes 13 = .ok (.aload_n 1, 1) := by decide +kernel
theorem dX9_weighMinutes_14 : decode cX9_weighMinutes 14 = .ok (.getfield 34, 3) := by decide +kernel
theorem dX9_weighMinutes_17 : decode cX9_weighMinutes 17 = .ok (.if_icmp .ge 44, 3) := by decide +kernel
theorem dX9_weighMinutes_20 : decode cX9_weighMinutes 20 = .ok (.aload_n 0, 1) := by decide +kernel
theorem dX9_weighMinutes_21 : decode cX9_weighMinutes 21 = .ok (.getfield 17, 3) := by decide +kernel
theorem dX9_weighMinutes_24 : decode cX9_weighMinutes 24 = .ok (.iload_n 2, 1) := by decide +kernel
theorem dX9_weighMinutes_25 : decode cX9_weighMinutes 25 = .ok (.aaload, 1) := by decide +kernel
theorem dX9_weighMinutes_26 : decode cX9_weighMinutes 26 = .ok (.iload_n 3, 1) := by decide +kernel
theorem dX9_weighMinutes_27 : decode cX9_weighMinutes 27 = .ok (.aload_n 1, 1) := by decide +kernel
theorem dX9_weighMinutes_28 : decode cX9_weighMinutes 28 = .ok (.iload_n 2, 1) := by decide +kernel
theorem dX9_weighMinutes_29 : decode cX9_weighMinutes 29 = .ok (.iload_n 3, 1) := by decide +kernel
theorem dX9_weighMinutes_30 : decode cX9_weighMinutes 30 = .ok (.invokevirtual 55, 3) := by decide +kernel
theorem dX9_weighMinutes_33 : decode cX9_weighMinutes 33 = .ok (.ifCond .eq 19, 3) := by decide +kernel
theorem dX9_weighMinutes_36 : decode cX9_weighMinutes 36 = .ok (.aload_n 1, 1) := by decide +kernel
theorem dX9_weighMinutes_37 : decode cX9_weighMinutes 37 = .ok (.getfield 59, 3) := by decide +kernel
theorem dX9_weighMinutes_40 : decode cX9_weighMinutes 40 = .ok (.iload_n 2, 1) := by decide +kernel
theorem dX9_weighMinutes_41 : decode cX9_weighMinutes 41 = .ok (.aaload, 1) := by decide +kernel
theorem dX9_weighMinutes_42 : decode cX9_weighMinutes 42 = .ok (.iload_n 3, 1) := by decide +kernel
theorem dX9_weighMinutes_43 : decode cX9_weighMinutes 43 = .ok (.iaload, 1) := by decide +kernel
theorem dX9_weighMinutes_44 : decode cX9_weighMinutes 44 = .ok (.bipush 8, 2) := by decide +kernel
theorem dX9_weighMinutes_46 : decode cX9_weighMinutes 46 = .ok (.imul, 1) := by decide +kernel
theorem dX9_weighMinutes_47 : decode cX9_weighMinutes 47 = .ok (.iconst 1, 1) := by decide +kernel
theorem dX9_weighMinutes_48 : decode cX9_weighMinutes 48 = .ok (.iadd, 1) := by decide +kernel
theorem dX9_weighMinutes_49 : decode cX9_weighMinutes 49 = .ok (.goto 5, 3) := by decide +kernel
theorem dX9_weighMinutes_52 : decode cX9_weighMinutes 52 = .ok (.ldc 47, 2) := by decide +kernel
theorem dX9_weighMinutes_54 : decode cX9_weighMinutes 54 = .ok (.iastore, 1) := by decide +kernel
theorem dX9_weighMinutes_55 : decode cX9_weighMinutes 55 = .ok (.iinc 3 1, 3) := by decide +kernel
theorem dX9_weighMinutes_58 : decode cX9_weighMinutes 58 = .ok (.goto (-46), 3) := by decide +kernel
theorem dX9_weighMinutes_61 : decode cX9_weighMinutes 61 = .ok (.iinc 2 1, 3) := by decide +kernel
theorem dX9_weighMinutes_64 : decode cX9_weighMinutes 64 = .ok (.goto (-62), 3) := by decide +kernel
theorem dX9_weighMinutes_67 : decode cX9_weighMinutes 67 = .ok (.return_, 1) := by decide +kernel
abbrev rmX9_weighMinutes : Room := { frames := 3, cells := 0, slots := 0, locals := 82 }
set_option maxHeartbeats 4000000 in
set_option maxRecDepth 100000 in
theorem metX9_weighMinutes {l : Launch} {s0 : State} {b B : Nat} {D : va_G} {T : Nat → ClassId} (F : FX l s0 b D T B) {X : Nat → Prop} (hX : ∀ o, o < 560 → ¬ X (B + o)) {N : Nat} {μ : Mem} {a0 : Nat} {a1 : Nat} {r : Mem} (k0 : IsWy a0) (k1 : IsSt a1) (h : fX9_weighMinutes N μ a0 a1 = some r) : gMet l yX9_weighMinutes cX9_weighMinutes 4 none rmX9_weighMinutes [.ref (B + a0), .ref (B + a1)] (gWC s0 D T B μ) (KC s0 X) none (gWC s0 D T B r) (gA B X) 0 0 := by
  refine gV_of RX9 (by decide +kernel) rfl (Nat.le_of_ble_eq_true rfl) ?_
  intro p e s m args below meth c ls Q hx hb hlocks hml hown hts hW hk hl hS hend
  have hC := FX_C F hk hx hb hown hts
  have hA := gA_all hX
  have hl : lv_has ls 4 [(0, .ref (B + a0)), (1, .ref (B + a1))] := hl
  unfold fX9_weighMinutes at h
  refine lv_iconst (v := 0) hx hb dX9_weighMinutes_0 (by decide) ?_
  refine lv_istore_n (lv' := [(2, .int 0), (0, .ref (B + a0)), (1, .ref (B + a1))]) hx hb dX9_weighMinutes_1 rfl hl (by decide) rfl (fun ls hl => ?_)
  refine fix2_ind (fun (x1 : Int32) (μ2 : Mem) => ∀ (H : Heap) (locs : List Loc) (ls : Array Slot), gWC s0 D T B μ2 H → va_S (gA B X) s.heap H locs → lv_has ls 4 [(0, .ref (B + a0)), (1, .ref (B + a1)), (2, .int x1)] → W p l e rmX9_weighMinutes s m args below meth c H locs 0 0 Q (F0 m 2 ls [])) ?_ N _ _ h _ _ _ hW hS (lv_sub hl [1, 2, 0] rfl)
  clear h hW hS hl
  intro self3 IH4 x1 μ2 h H locs ls hW hS hl
  refine lv_iload_n hx hb dX9_weighMinutes_2 rfl (lv_at hl 2 rfl) ?_
  refine lv_aload_n hx hb dX9_weighMinutes_3 rfl (lv_at hl 1 rfl) ?_
  refine gw_get (v := .int (μ2 a1 0)) hC hW fl_X9_34.1 k1.1 (k1.2.1 (gfm s0) T B (μ2 a1)) rfl dX9_weighMinutes_4 ?_
  refine lv_icmp_ge (tgt := 67) hx hb dX9_weighMinutes_7 (by decide) (fun c5 => ?_) (fun c5 => ?_)
  · replace h := ite_t c5 h
    cases h
    exact hend dX9_weighMinutes_67 hW hS (Nat.le_of_ble_eq_true rfl) (Nat.le_of_ble_eq_true rfl)
  · replace h := ite_f c5 h
    refine lv_iconst (v := 0) hx hb dX9_weighMinutes_10 (by decide) ?_
    refine lv_istore_n (lv' := [(3, .int 0), (0, .ref (B + a0)), (1, .ref (B + a1)), (2, .int x1)]) hx hb dX9_weighMinutes_11 rfl hl (by decide) rfl (fun ls hl => ?_)
    refine fix2_ind (fun (x6 : Int32) (μ7 : Mem) => ∀ (H : Heap) (locs : List Loc) (ls : Array Slot), gWC s0 D T B μ7 H → va_S (gA B X) s.heap H locs → lv_has ls 4 [(0, .ref (B + a0)), (1, .ref (B + a1)), (2, .int x1), (3, .int x6)] → W p l e rmX9_weighMinutes s m args below meth c H locs 0 0 Q (F0 m 12 ls [])) ?_ N _ _ h _ _ _ hW hS (lv_sub hl [1, 2, 3, 0] rfl)
    clear h hW hS hl
    intro self8 IH9 x6 μ7 h H locs ls hW hS hl
    refine lv_iload_n hx hb dX9_weighMinutes_12 rfl (lv_at hl 3 rfl) ?_
    refine lv_aload_n hx hb dX9_weighMinutes_13 rfl (lv_at hl 1 rfl) ?_
    refine gw_get (v := .int (μ7 a1 0)) hC hW fl_X9_34.1 k1.1 (k1.2.1 (gfm s0) T B (μ7 a1)) rfl dX9_weighMinutes_14 ?_
    refine lv_icmp_ge (tgt := 61) hx hb dX9_weighMinutes_17 (by decide) (fun c10 => ?_) (fun c10 => ?_)
    · replace h := ite_t c10 h
      obtain ⟨v11, e12, h⟩ := lt_out h
      refine lv_iinc (v := v11) (lv' := [(2, .int v11), (0, .ref (B + a0)), (1, .ref (B + a1)), (3, .int x6)]) hx hb dX9_weighMinutes_61 hl (k := 2) rfl (by rw [e12]; rfl) (by decide) rfl (fun ls hl => ?_)
      refine lv_goto (tgt := 2) hx hb dX9_weighMinutes_64 (by decide) ?_
      exact IH4 _ _ h _ _ _ hW hS (lv_sub hl [1, 2, 0] rfl)
    · replace h := ite_f c10 h
      refine lv_aload_n hx hb dX9_weighMinutes_20 rfl (lv_at hl 0 rfl) ?_
      refine gw_get (v := .ref (B + (a0 + 2))) hC hW fl_X9_17 k0.1 (k0.2.1 (gfm s0) T B (μ7 a0)) rfl dX9_weighMinutes_21 ?_
      refine lv_iload_n hx hb dX9_weighMinutes_24 rfl (lv_at hl 2 rfl) ?_
      obtain ⟨q13, e14, hq15, hi16, h⟩ := ar_o h
      refine gq_aald hC hW k0.2.2.2.1.1 (k0.2.2.2.1.2.1 (gfm s0) T B (μ7 (a0 + 2))) (t0 := 3) rfl rfl e14 hi16 dX9_weighMinutes_25 ?_
      refine lv_iload_n hx hb dX9_weighMinutes_26 rfl (lv_at hl 3 rfl) ?_
      refine lv_aload_n hx hb dX9_weighMinutes_27 rfl (lv_at hl 1 rfl) ?_
      refine lv_iload_n hx hb dX9_weighMinutes_28 rfl (lv_at hl 2 rfl) ?_
      refine lv_iload_n hx hb dX9_weighMinutes_29 rfl (lv_at hl 3 rfl) ?_
      obtain ⟨r17, hcall, h⟩ := bd_out h
      refine g0_callV (As := [.int x1, .int x6]) hC hml hS hW (KC_at hk hS F.2.2.2.2) KC_blind (metX8_joins F hX k1 hcall) ml_X9_55 (gw_recv hC hW k1.1 (k1.2.1 (gfm s0) T B (μ7 a1)) rfl) ⟨rfl, rfl, (Nat.le_of_ble_eq_true rfl), (Nat.le_of_ble_eq_true rfl)⟩ rfl hl.1 rfl (Nat.le_of_ble_eq_true rfl) dX9_weighMinutes_30 ⟨(Nat.le_of_ble_eq_true rfl), (Nat.le_of_ble_eq_true rfl)⟩ (fun H locs hW hS => ?_)
      obtain ⟨j19, hj21, h⟩ := jn1_o h
      have J20 : ∀ (y18 : Int32), j19 y18 = some r → ∀ (H : Heap) (locs : List Loc) (ls : Array Slot), gWC s0 D T B μ7 H → va_S (gA B X) s.heap H locs → lv_has ls 4 [(0, .ref (B + a0)), (1, .ref (B + a1)), (2, .int x1), (3, .int x6)] → W p l e rmX9_weighMinutes s m args below meth c H locs 0 0 Q (F0 m 54 ls [.int y18, .int x6, .ref (B + ((a0 + 2) + 1 + 1 * q13))]) := by
        clear h hW hS hl
        intro y18 h H locs ls hW hS hl
        replace h := (hj21 y18).symm.trans h
        obtain ⟨μ22, e23, hi24, h⟩ := aw_o h
        refine gq_iast hC hS hW hA (k0.2.2.2.1.2.2 q13 hq15).1 ((k0.2.2.2.1.2.2 q13 hq15).2 (gfm s0) T B) (t0 := 0) rfl e23 hi24 dX9_weighMinutes_54 (fun H locs hW hS => ?_)
        obtain ⟨v25, e26, h⟩ := lt_out h
        refine lv_iinc (v := v25) (lv' := [(3, .int v25), (0, .ref (B + a0)), (1, .ref (B + a1)), (2, .int x1)]) hx hb dX9_weighMinutes_55 hl (k := 3) rfl (by rw [e26]; rfl) (by decide) rfl (fun ls hl => ?_)
        refine lv_goto (tgt := 12) hx hb dX9_weighMinutes_58 (by decide) ?_
        exact IH9 _ _ h _ _ _ hW hS (lv_sub hl [1, 2, 3, 0] rfl)
      refine gw_if_eqZ (tgt := 52) hx hb dX9_weighMinutes_33 (by decide) (fun c27 => ?_) (fun c27 => ?_)
      · replace h := cond_f c27 h
        refine lv_ldc (v := 1000000) hx hb hown (hts _ kc_X9_47) dX9_weighMinutes_52 ?_
        exact J20 _ h _ _ _ hW hS (lv_sub hl [0, 1, 2, 3] rfl)
      · replace h := cond_t c27 h
        refine lv_aload_n hx hb dX9_weighMinutes_36 rfl (lv_at hl 1 rfl) ?_
        refine gw_get (v := .ref (B + (a1 + 2))) hC hW fl_X9_59 k1.1 (k1.2.1 (gfm s0) T B (μ7 a1)) rfl dX9_weighMinutes_37 ?_
        refine lv_iload_n hx hb dX9_weighMinutes_40 rfl (lv_at hl 2 rfl) ?_
        obtain ⟨q28, e29, hq30, hi31, h⟩ := ar_o h
        refine gq_aald hC hW k1.2.2.2.1.1 (k1.2.2.2.1.2.1 (gfm s0) T B (μ7 (a1 + 2))) (t0 := 3) rfl rfl e29 hi31 dX9_weighMinutes_41 ?_
        refine lv_iload_n hx hb dX9_weighMinutes_42 rfl (lv_at hl 3 rfl) ?_
        obtain ⟨v32, e33, hi34, h⟩ := ag_o h
        refine gq_iald hC hW (k1.2.2.2.1.2.2 q28 hq30).1 ((k1.2.2.2.1.2.2 q28 hq30).2 (gfm s0) T B (μ7 ((a1 + 2) + 1 + 1 * q28))) (t0 := 0) rfl e33 hi34 dX9_weighMinutes_43 ?_
        refine lv_bipush (v := 8) hx hb dX9_weighMinutes_44 (by decide) ?_
        refine lv_imul hx hb dX9_weighMinutes_46 ?_
        refine lv_iconst (v := 1) hx hb dX9_weighMinutes_47 (by decide) ?_
        refine lv_iadd hx hb dX9_weighMinutes_48 ?_
        refine lv_goto (tgt := 54) hx hb dX9_weighMinutes_49 (by decide) ?_
        exact J20 _ h _ _ _ hW hS (lv_sub hl [0, 1, 2, 3] rfl)

theorem dX9_startAt_0 : decode cX9_startAt 0 = .ok (.iconst 0, 1) := by decide +kernel
theorem dX9_startAt_1 : decode cX9_startAt 1 = .ok (.istore_n 2, 1) := by decide +kernel
theorem dX9_startAt_2 : decode cX9_startAt 2 = .ok (.iload_n 2, 1) := by decide +kernel
theorem dX9_startAt_3 : decode cX9_startAt 3 = .ok (.bipush 6, 2) := by decide +kernel
theorem dX9_startAt_5 : decode cX9_startAt 5 = .ok (.if_icmp .ge 24, 3) := by decide +kernel
theorem dX9_startAt_8 : decode cX9_startAt 8 = .ok (.aload_n 0, 1) := by decide +kernel
theorem dX9_startAt_9 : decode cX9_startAt 9 = .ok (.getfield 23, 3) := by decide +kernel
theorem dX9_startAt_12 : decode cX9_startAt 12 = .ok (.iload_n 2, 1) := by decide +kernel
theorem dX9_startAt_13 : decode cX9_startAt 13 = .ok (.ldc 47, 2) := by decide +kernel
theorem dX9_startAt_15 : decode cX9_startAt 15 = .ok (.iastore, 1) := by decide +kernel
theorem dX9_startAt_16 : decode cX9_startAt 16 = .ok (.aload_n 0, 1) := by decide +kernel
theorem dX9_startAt_17 : decode cX9_startAt 17 = .ok (.getfield 26, 3) := by decide +kernel
theorem dX9_startAt_20 : decode cX9_startAt 20 = .ok (.iload_n 2, 1) := by decide +kernel
theorem dX9_startAt_21 : decode cX9_startAt 21 = .ok (.iconst 0, 1) := by decide +kernel
theorem dX9_startAt_22 : decode cX9_startAt 22 = .ok (.bastore, 1) := by decide +kernel
theorem dX9_startAt_23 : decode cX9_startAt 23 = .ok (.iinc 2 1, 3) := by decide +kernel
theorem dX9_startAt_26 : decode cX9_startAt 26 = .ok (.goto (-24), 3) := by decide +kernel
theorem dX9_startAt_29 : decode cX9_startAt 29 = .ok (.aload_n 0, 1) := by decide +kernel
theorem dX9_startAt_30 : decode cX9_startAt 30 = .ok (.getfield 23, 3) := by decide +kernel
theorem dX9_startAt_33 : decode cX9_startAt 33 = .ok (.iload_n 1, 1) := by decide +kernel
theorem dX9_startAt_34 : decode cX9_startAt 34 = .ok (.iconst 0, 1) := by decide +kernel
theorem dX9_startAt_35 : decode cX9_startAt 35 = .ok (.iastore, 1) := by decide +kernel
theorem dX9_startAt_36 : decode cX9_startAt 36 = .ok (.return_, 1) := by decide +kernel
abbrev rmX9_startAt : Room := { frames := 2, cells := 0, slots := 0, locals := 60 }
set_option maxHeartbeats 4000000 in
set_option maxRecDepth 100000 in
theorem metX9_startAt {l : Launch} {s0 : State} {b B : Nat} {D : va_G} {T : Nat → ClassId} (F : FX l s0 b D T B) {X : Nat → Prop} (hX : ∀ o, o < 560 → ¬ X (B + o)) {N : Nat} {μ : Mem} {a0 : Nat} {a1 : Int32} {r : Mem} (k0 : IsWy a0) (h : fX9_startAt N μ a0 a1 = some r) : gMet l yX9_startAt cX9_startAt 3 none rmX9_startAt [.ref (B + a0), .int a1] (gWC s0 D T B μ) (KC s0 X) none (gWC s0 D T B r) (gA B X) 0 0 := by
  refine gV_of RX9 (by decide +kernel) rfl (Nat.le_of_ble_eq_true rfl) ?_
  intro p e s m args below meth c ls Q hx hb hlocks hml hown hts hW hk hl hS hend
  have hC := FX_C F hk hx hb hown hts
  have hA := gA_all hX
  have hl : lv_has ls 3 [(0, .ref (B + a0)), (1, .int a1)] := hl
  unfold fX9_startAt at h
  refine lv_iconst (v := 0) hx hb dX9_startAt_0 (by decide) ?_
  refine lv_istore_n (lv' := [(2, .int 0), (0, .ref (B + a0)), (1, .int a1)]) hx hb dX9_startAt_1 rfl hl (by decide) rfl (fun ls hl => ?_)
  refine fix2_ind (fun (x1 : Int32) (μ2 : Mem) => ∀ (H : Heap) (locs : List Loc) (ls : Array Slot), gWC s0 D T B μ2 H → va_S (gA B X) s.heap H locs → lv_has ls 3 [(0, .ref (B + a0)), (1, .int a1), (2, .int x1)] → W p l e rmX9_startAt s m args below meth c H locs 0 0 Q (F0 m 2 ls [])) ?_ N _ _ h _ _ _ hW hS (lv_sub hl [1, 2, 0] rfl)
  clear h hW hS hl
  intro self3 IH4 x1 μ2 h H locs ls hW hS hl
  refine lv_iload_n hx hb dX9_startAt_2 rfl (lv_at hl 2 rfl) ?_
  refine lv_bipush (v := 6) hx hb dX9_startAt_3 (by decide) ?_
  refine lv_icmp_ge (tgt := 29) hx hb dX9_startAt_5 (by decide) (fun c5 => ?_) (fun c5 => ?_)
  · replace h := ite_t c5 h
    refine lv_aload_n hx hb dX9_startAt_29 rfl (lv_at hl 0 rfl) ?_
    refine gw_get (v := .ref (B + (a0 + 16))) hC hW fl_X9_23 k0.1 (k0.2.1 (gfm s0) T B (μ2 a0)) rfl dX9_startAt_30 ?_
    refine lv_iload_n hx hb dX9_startAt_33 rfl (lv_at hl 1 rfl) ?_
    refine lv_iconst (v := 0) hx hb dX9_startAt_34 (by decide) ?_
    obtain ⟨μ6, e7, hi8, h⟩ := aw_o h
    refine gq_iast hC hS hW hA k0.2.2.2.2.2.1.1 (k0.2.2.2.2.2.1.2 (gfm s0) T B) (t0 := 0) rfl e7 hi8 dX9_startAt_35 (fun H locs hW hS => ?_)
    cases h
    exact hend dX9_startAt_36 hW hS (Nat.le_of_ble_eq_true rfl) (Nat.le_of_ble_eq_true rfl)
  · replace h := ite_f c5 h
    refine lv_aload_n hx hb dX9_startAt_8 rfl (lv_at hl 0 rfl) ?_
    refine gw_get (v := .ref (B + (a0 + 16))) hC hW fl_X9_23 k0.1 (k0.2.1 (gfm s0) T B (μ2 a0)) rfl dX9_startAt_9 ?_
    refine lv_iload_n hx hb dX9_startAt_12 rfl (lv_at hl 2 rfl) ?_
    refine lv_ldc (v := 1000000) hx hb hown (hts _ kc_X9_47) dX9_startAt_13 ?_
    obtain ⟨μ9, e10, hi11, h⟩ := aw_o h
    refine gq_iast hC hS hW hA k0.2.2.2.2.2.1.1 (k0.2.2.2.2.2.1.2 (gfm s0) T B) (t0 := 0) rfl e10 hi11 dX9_startAt_15 (fun H locs hW hS => ?_)
    refine lv_aload_n hx hb dX9_startAt_16 rfl (lv_at hl 0 rfl) ?_
    refine gw_get (v := .ref (B + (a0 + 17))) hC hW fl_X9_26 k0.1 (k0.2.1 (gfm s0) T B (μ9 a0)) rfl dX9_startAt_17 ?_
    refine lv_iload_n hx hb dX9_startAt_20 rfl (lv_at hl 2 rfl) ?_
    refine lv_iconst (v := 0) hx hb dX9_startAt_21 (by decide) ?_
    obtain ⟨μ12, e13, hi14, h⟩ := aw_o h
    refine gq_zast hC hS hW hA k0.2.2.2.2.2.2.1 (k0.2.2.2.2.2.2.2 (gfm s0) T B) (t0 := 1) rfl e13 hi14 dX9_startAt_22 (fun H locs hW hS => ?_)
    obtain ⟨v15, e16, h⟩ := lt_out h
    refine lv_iinc (v := v15) (lv' := [(2, .int v15), (0, .ref (B + a0)), (1, .int a1)]) hx hb dX9_startAt_23 hl (k := 2) rfl (by rw [e16]; rfl) (by decide) rfl (fun ls hl => ?_)
    refine lv_goto (tgt := 2) hx hb dX9_startAt_26 (by decide) ?_
    exact IH4 _ _ h _ _ _ hW hS (lv_sub hl [1, 2, 0] rfl)

theorem dX9_nearestUnsettled_0 : decode cX9_nearestUnsettled 0 = .ok (.iconst (-1), 1) := by decide +kernel
theorem dX9_nearestUnsettled_1 : decode cX9_nearestUnsettled 1 = .ok (.istore_n 2, 1) := by decide +kernel
theorem dX9_nearestUnsettled_2 : decode cX9_nearestUnsettled 2 = .ok (.ldc 47, 2) := by decide +kernel
theorem dX9_nearestUnsettled_4 : decode cX9_nearestUnsettled 4 = .ok (.istore_n 3, 1) := by decide +kernel
theorem dX9_nearestUnsettled_5 : decode cX9_nearestUnsettled 5 = .ok (.iconst 0, 1) := by decide +kernel
theorem dX9_nearestUnsettled_6 : decode cX9_nearestUnsettled 6 = .ok (.istore 4, 2) := by decide +kernel
theorem dX9_nearestUnsettled_8 : decode cX9_nearestUnsettled 8 = .ok (.iload 4, 2) := by decide +kernel
theorem dX9_nearestUnsettled_10 : decode cX9_nearestUnsettled 10 = .ok (.iload_n 1, 1) := by decide +kernel
theorem dX9_nearestUnsettled_11 : decode cX9_nearestUnsettled 11 = .ok (.if_icmp .ge 41, 3) := by decide +kernel
theorem dX9_nearestUnsettled_14 : decode cX9_nearestUnsettled 14 = .ok (.aload_n 0, 1) := by decide +kernel
theorem dX9_nearestUnsettled_15 : decode cX9_nearestUnsettled 15 = .ok (.getfield 26, 3) := by decide +kernel
theorem dX9_nearestUnsettled_18 : decode cX9_nearestUnsettled 18 = .ok (.iload 4, 2) := by decide +kernel
theorem dX9_nearestUnsettled_20 : decode cX9_nearestUnsettled 20 = .ok (.baload, 1) := by decide +kernel
theorem dX9_nearestUnsettled_21 : decode cX9_nearestUnsettled 21 = .ok (.ifCond .ne 25, 3) := by decide +kernel
theorem dX9_nearestUnsettled_24 : decode cX9_nearestUnsettled 24 = .ok (.aload_n 0, 1) := by decide +kernel
theorem dX9_nearestUnsettled_25 : decode cX9_nearestUnsettled 25 = .ok (.getfield 23, 3) := by decide +kernel
theorem dX9_nearestUnsettled_28 : decode cX9_nearestUnsettled 28 = .ok (.iload 4, 2) := by decide +kernel
theorem dX9_nearestUnsettled_30 : decode cX9_nearestUnsettled 30 = .ok (.iaload, 1) := by decide +kernel
theorem dX9_nearestUnsettled_31 : decode cX9_nearestUnsettled 31 = .ok (.iload_n 3, 1) := by decide +kernel
theorem dX9_nearestUnsettled_32 : decode cX9_nearestUnsettled 32 = .ok (.if_icmp .ge 14, 3) := by decide +kernel
theorem dX9_nearestUnsettled_35 : decode cX9_nearestUnsettled 35 = .ok (.iload 4, 2) := by decide +kernel
theorem dX9_nearestUnsettled_37 : decode cX9_nearestUnsettled 37 = .ok (.istore_n 2, 1) := by decide +kernel
theorem dX9_nearestUnsettled_38 : decode cX9_nearestUnsettled 38 = .ok (.aload_n 0, 1) := by decide +kernel
theorem dX9_nearestUnsettled_39 : decode cX9_nearestUnsettled 39 = .ok (.getfield 23, 3) := by decide +kernel
theorem dX9_nearestUnsettled_42 : decode cX9_nearestUnsettled 42 = .ok (.iload 4, 2) := by decide +kernel
theorem dX9_nearestUnsettled_44 : decode cX9_nearestUnsettled 44 = .ok (.iaload, 1) := by decide +kernel
theorem dX9_nearestUnsettled_45 : decode cX9_nearestUnsettled 45 = .ok (.istore_n 3, 1) := by decide +kernel
theorem dX9_nearestUnsettled_46 : decode cX9_nearestUnsettled 46 = .ok (.iinc 4 1, 3) := by decide +kernel
theorem dX9_nearestUnsettled_49 : decode cX9_nearestUnsettled 49 = .ok (.goto (-41), 3) := by decide +kernel
theorem dX9_nearestUnsettled_52 : decode cX9_nearestUnsettled 52 = .ok (.iload_n 2, 1) := by decide +kernel
theorem dX9_nearestUnsettled_53 : decode cX9_nearestUnsettled 53 = .ok (.ireturn, 1) := by decide +kernel
abbrev rmX9_nearestUnsettled : Room := { frames := 2, cells := 0, slots := 0, locals := 60 }
set_option maxHeartbeats 4000000 in
set_option maxRecDepth 100000 in
theorem metX9_nearestUnsettled {l : Launch} {s0 : State} {b B : Nat} {D : va_G} {T : Nat → ClassId} (F : FX l s0 b D T B) {X : Nat → Prop} (hX : ∀ o, o < 560 → ¬ X (B + o)) {N : Nat} {μ : Mem} {a0 : Nat} {a1 : Int32} {r : Int32} (k0 : IsWy a0) (h : fX9_nearestUnsettled N μ a0 a1 = some r) : gMet l yX9_nearestUnsettled cX9_nearestUnsettled 5 (some .int) rmX9_nearestUnsettled [.ref (B + a0), .int a1] (gWC s0 D T B μ) (KC s0 X) (some (.int r)) (gWC s0 D T B μ) (gA B X) 0 0 := by
  refine gI_of RX9 (by decide +kernel) rfl (Nat.le_of_ble_eq_true rfl) ?_
  intro p e s m args below meth c ls Q hx hb hlocks hml hown hts hW hk hl hS hend
  have hC := FX_C F hk hx hb hown hts
  have hA := gA_all hX
  have hl : lv_has ls 5 [(0, .ref (B + a0)), (1, .int a1)] := hl
  unfold fX9_nearestUnsettled at h
  refine lv_iconst (v := (-1)) hx hb dX9_nearestUnsettled_0 (by decide) ?_
  refine lv_istore_n (lv' := [(2, .int (-1)), (0, .ref (B + a0)), (1, .int a1)]) hx hb dX9_nearestUnsettled_1 rfl hl (by decide) rfl (fun ls hl => ?_)
  refine lv_ldc (v := 1000000) hx hb hown (hts _ kc_X9_47) dX9_nearestUnsettled_2 ?_
  refine lv_istore_n (lv' := [(3, .int 1000000), (2, .int (-1)), (0, .ref (B + a0)), (1, .int a1)]) hx hb dX9_nearestUnsettled_4 rfl hl (by decide) rfl (fun ls hl => ?_)
  refine lv_iconst (v := 0) hx hb dX9_nearestUnsettled_5 (by decide) ?_
  refine lv_istore (lv' := [(4, .int 0), (3, .int 1000000), (2, .int (-1)), (0, .ref (B + a0)), (1, .int a1)]) hx hb dX9_nearestUnsettled_6 hl (by decide) rfl (fun ls hl => ?_)
  refine fix3_ind (fun (x1 : Int32) (x2 : Int32) (x3 : Int32) => ∀ (H : Heap) (locs : List Loc) (ls : Array Slot), gWC s0 D T B μ H → va_S (gA B X) s.heap H locs → lv_has ls 5 [(0, .ref (B + a0)), (1, .int a1), (2, .int x1), (3, .int x2), (4, .int x3)] → W p l e rmX9_nearestUnsettled s m args below meth c H locs 0 0 Q (F0 m 8 ls [])) ?_ N _ _ _ h _ _ _ hW hS (lv_sub hl [3, 4, 2, 1, 0] rfl)
  clear h hW hS hl
  intro self4 IH5 x1 x2 x3 h H locs ls hW hS hl
  refine lv_iload hx hb dX9_nearestUnsettled_8 (lv_at hl 4 rfl) ?_
  refine lv_iload_n hx hb dX9_nearestUnsettled_10 rfl (lv_at hl 1 rfl) ?_
  refine lv_icmp_ge (tgt := 52) hx hb dX9_nearestUnsettled_11 (by decide) (fun c6 => ?_) (fun c6 => ?_)
  · replace h := ite_t c6 h
    refine lv_iload_n hx hb dX9_nearestUnsettled_52 rfl (lv_at hl 2 rfl) ?_
    cases h
    exact hend dX9_nearestUnsettled_53 hW hS (Nat.le_of_ble_eq_true rfl) (Nat.le_of_ble_eq_true rfl)
  · replace h := ite_f c6 h
    refine lv_aload_n hx hb dX9_nearestUnsettled_14 rfl (lv_at hl 0 rfl) ?_
    refine gw_get (v := .ref (B + (a0 + 17))) hC hW fl_X9_26 k0.1 (k0.2.1 (gfm s0) T B (μ a0)) rfl dX9_nearestUnsettled_15 ?_
    refine lv_iload hx hb dX9_nearestUnsettled_18 (lv_at hl 4 rfl) ?_
    obtain ⟨v7, e8, hi9, h⟩ := ag_o h
    refine gq_zald hC hW k0.2.2.2.2.2.2.1 (k0.2.2.2.2.2.2.2 (gfm s0) T B (μ (a0 + 17))) (t0 := 1) rfl e8 hi9 dX9_nearestUnsettled_20 ?_
    obtain ⟨j12, hj14, h⟩ := jn2_o h
    have J13 : ∀ (y10 : Int32) (y11 : Int32), j12 y10 y11 = some r → ∀ (H : Heap) (locs : List Loc) (ls : Array Slot), gWC s0 D T B μ H → va_S (gA B X) s.heap H locs → lv_has ls 5 [(0, .ref (B + a0)), (1, .int a1), (2, .int y10), (3, .int y11), (4, .int x3)] → W p l e rmX9_nearestUnsettled s m args below meth c H locs 0 0 Q (F0 m 46 ls []) := by
      clear h hW hS hl
      intro y10 y11 h H locs ls hW hS hl
      replace h := (hj14 y10 y11).symm.trans h
      obtain ⟨v15, e16, h⟩ := lt_out h
      refine lv_iinc (v := v15) (lv' := [(4, .int v15), (0, .ref (B + a0)), (1, .int a1), (2, .int y10), (3, .int y11)]) hx hb dX9_nearestUnsettled_46 hl (k := 4) rfl (by rw [e16]; rfl) (by decide) rfl (fun ls hl => ?_)
      refine lv_goto (tgt := 8) hx hb dX9_nearestUnsettled_49 (by decide) ?_
      exact IH5 _ _ _ h _ _ _ hW hS (lv_sub hl [1, 2, 3, 4, 0] rfl)
    refine lv_if_ne (tgt := 46) hx hb dX9_nearestUnsettled_21 (by decide) (fun c17 => ?_) (fun c17 => ?_)
    · replace h := ite_f c17 h
      exact J13 _ _ h _ _ _ hW hS (lv_sub hl [0, 1, 2, 3, 4] rfl)
    · replace h := ite_t c17 h
      refine lv_aload_n hx hb dX9_nearestUnsettled_24 rfl (lv_at hl 0 rfl) ?_
      refine gw_get (v := .ref (B + (a0 + 16))) hC hW fl_X9_23 k0.1 (k0.2.1 (gfm s0) T B (μ a0)) rfl dX9_nearestUnsettled_25 ?_
      refine lv_iload hx hb dX9_nearestUnsettled_28 (lv_at hl 4 rfl) ?_
      obtain ⟨v18, e19, hi20, h⟩ := ag_o h
      refine gq_iald hC hW k0.2.2.2.2.2.1.1 (k0.2.2.2.2.2.1.2 (gfm s0) T B (μ (a0 + 16))) (t0 := 0) rfl e19 hi20 dX9_nearestUnsettled_30 ?_
      refine lv_iload_n hx hb dX9_nearestUnsettled_31 rfl (lv_at hl 3 rfl) ?_
      refine lv_icmp_ge (tgt := 46) hx hb dX9_nearestUnsettled_32 (by decide) (fun c21 => ?_) (fun c21 => ?_)
      · replace h := ite_t c21 h
        exact J13 _ _ h _ _ _ hW hS (lv_sub hl [0, 1, 2, 3, 4] rfl)
      · replace h := ite_f c21 h
        refine lv_iload hx hb dX9_nearestUnsettled_35 (lv_at hl 4 rfl) ?_
        refine lv_istore_n (lv' := [(2, .int x3), (0, .ref (B + a0)), (1, .int a1), (3, .int x2), (4, .int x3)]) hx hb dX9_nearestUnsettled_37 rfl hl (by decide) rfl (fun ls hl => ?_)
        refine lv_aload_n hx hb dX9_nearestUnsettled_38 rfl (lv_at hl 1 rfl) ?_
        refine gw_get (v := .ref (B + (a0 + 16))) hC hW fl_X9_23 k0.1 (k0.2.1 (gfm s0) T B (μ a0)) rfl dX9_nearestUnsettled_39 ?_
        refine lv_iload hx hb dX9_nearestUnsettled_42 (lv_at hl 4 rfl) ?_
        obtain ⟨v22, e23, hi24, h⟩ := ag_o h
        refine gq_iald hC hW k0.2.2.2.2.2.1.1 (k0.2.2.2.2.2.1.2 (gfm s0) T B (μ (a0 + 16))) (t0 := 0) rfl e23 hi24 dX9_nearestUnsettled_44 ?_
        refine lv_istore_n (lv' := [(3, .int v22), (2, .int x3), (0, .ref (B + a0)), (1, .int a1), (4, .int x3)]) hx hb dX9_nearestUnsettled_45 rfl hl (by decide) rfl (fun ls hl => ?_)
        exact J13 _ _ h _ _ _ hW hS (lv_sub hl [2, 3, 1, 0, 4] rfl)

theorem dX9_settleFrom_0 : decode cX9_settleFrom 0 = .ok (.aload_n 0, 1) := by decide +kernel
theorem dX9_settleFrom_1 : decode cX9_settleFrom 1 = .ok (.iload_n 1, 1) := by decide +kernel
theorem dX9_settleFrom_2 : decode cX9_settleFrom 2 = .ok (.invokevirtual 82, 3) := by decide +kernel
theorem dX9_settleFrom_5 : decode cX9_settleFrom 5 = .ok (.iconst 0, 1) := by decide +kernel
theorem dX9_settleFrom_6 : decode cX9_settleFrom 6 = .ok (.istore_n 3, 1) := by decide +kernel
theorem dX9_settleFrom_7 : decode cX9_settleFrom 7 = .ok (.iload_n 3, 1) := by decide +kernel
theorem dX9_settleFrom_8 : decode cX9_settleFrom 8 = .ok (.iload_n 2, 1) := by decide +kernel
theorem dX9_settleFrom_9 : decode cX9_settleFrom 9 = .ok (.if_icmp .ge 83, 3) := by decide +kernel
theorem dX9_settleFrom_12 : decode cX9_settleFrom 12 = .ok (.aload_n 0, 1) := by decide +kernel
theorem dX9_settleFrom_13 : decode cX9_settleFrom 13 = .ok (.iload_n 2, 1) := by decide +kernel
theorem dX9_settleFrom_14 : decode cX9_settleFrom 14 = .ok (.invokevirtual 96, 3) := by decide +kernel
theorem dX9_settleFrom_17 : decode cX9_settleFrom 17 = .ok (.istore 4, 2) := by decide +kernel
theorem dX9_settleFrom_19 : decode cX9_settleFrom 19 = .ok (.iload 4, 2) := by decide +kernel
theorem dX9_settleFrom_21 : decode cX9_settleFrom 21 = .ok (.iconst (-1), 1) := by decide +kernel
theorem dX9_settleFrom_22 : decode cX9_settleFrom 22 = .ok (.if_icmp .ne 6, 3) := by decide +kernel
theorem dX9_settleFrom_25 : decode cX9_settleFrom 25 = .ok (.goto 67, 3) := by decide +kernel
theorem dX9_settleFrom_28 : decode cX9_settleFrom 28 = .ok (.aload_n 0, 1) := by decide +kernel
theorem dX9_settleFrom_29 : decode cX9_settleFrom 29 = .ok (.getfield 26, 3) := by decide +kernel
theorem dX9_settleFrom_32 : decode cX9_settleFrom 32 = .ok (.iload 4, 2) := by decide +kernel
theorem dX9_settleFrom_34 : decode cX9_settleFrom 34 = .ok (.iconst 1, 1) := by decide +kernel
theorem dX9_settleFrom_35 : decode cX9_settleFrom 35 = .ok (.bastore, 1) := by decide +kernel
theorem dX9_settleFrom_36 : decode cX9_settleFrom 36 = .ok (.iconst 0, 1) := by decide +kernel
theorem dX9_settleFrom_37 : decode cX9_settleFrom 37 = .ok (.istore 5, 2) := by decide +kernel
theorem dX9_settleFrom_39 : decode cX9_settleFrom 39 = .ok (.iload 5, 2) := by decide +kernel
theorem dX9_settleFrom_41 : decode cX9_settleFrom 41 = .ok (.iload_n 2, 1) := by decide +kernel
theorem dX9_settleFrom_42 : decode cX9_settleFrom 42 = .ok (.if_icmp .ge 44, 3) := by decide +kernel
theorem dX9_settleFrom_45 : decode cX9_settleFrom 45 = .ok (.aload_n 0, 1) := by decide +kernel
theorem dX9_settleFrom_46 : decode cX9_settleFrom 46 = .ok (.getfield 23, 3) := by decide +kernel
theorem dX9_settleFrom_49 : decode cX9_settleFrom 49 = .ok (.iload 5, 2) := by decide +kernel
theorem dX9_settleFrom_51 : decode cX9_settleFrom 51 = .ok (.aload_n 0, 1) := by decide +kernel
theorem dX9_settleFrom_52 : decode cX9_settleFrom 52 = .ok (.getfield 23, 3) := by decide +kernel
theorem dX9_settleFrom_55 : decode cX9_settleFrom 55 = .ok (.iload 5, 2) := by decide +kernel
theorem dX9_settleFrom_57 : decode cX9_settleFrom 57 = .ok (.iaload, 1) := by decide +kernel
theorem dX9_settleFrom_58 : decode cX9_settleFrom 58 = .ok (.aload_n 0, 1) := by decide +kernel
theorem dX9_settleFrom_59 : decode cX9_settleFrom 59 = .ok (.getfield 23, 3) := by decide +kernel
theorem dX9_settleFrom_62 : decode cX9_settleFrom 62 = .ok (.iload 4, 2) := by decide +kernel
theorem dX9_settleFrom_64 : decode cX9_settleFrom 64 = .ok (.iaload, 1) := by decide +kernel
theorem dX9_settleFrom_65 : decode cX9_settleFrom 65 = .ok (.aload_n 0, 1) := by decide +kernel
theorem dX9_settleFrom_66 : decode cX9_settleFrom 66 = .ok (.getfield 17, 3) := by decide +kernel
theorem dX9_settleFrom_69 : decode cX9_settleFrom 69 = .ok (.iload 4, 2) := by decide +kernel
theorem dX9_settleFrom_71 : decode cX9_settleFrom 71 = .ok (.aaload, 1) := by decide +kernel
theorem dX9_settleFrom_72 : decode cX9_settleFrom 72 = .ok (.iload 5, 2) := by decide +kernel
theorem dX9_settleFrom_74 : decode cX9_settleFrom 74 = .ok (.iaload, 1) := by decide +kernel
theorem dX9_settleFrom_75 : decode cX9_settleFrom 75 = .ok (.iadd, 1) := by decide +kernel
theorem dX9_settleFrom_76 : decode cX9_settleFrom 76 = .ok (.invokestatic 65, 3) := by decide +kernel
theorem dX9_settleFrom_79 : decode cX9_settleFrom 79 = .ok (.iastore, 1) := by decide +kernel
theorem dX9_settleFrom_80 : decode cX9_settleFrom 80 = .ok (.iinc 5 1, 3) := by decide +kernel
theorem dX9_settleFrom_83 : decode cX9_settleFrom 83 = .ok (.goto (-44), 3) := by decide +kernel
theorem dX9_settleFrom_86 : decode cX9_settleFrom 86 = .ok (.iinc 3 1, 3) := by decide +kernel
theorem dX9_settleFrom_89 : decode cX9_settleFrom 89 = .ok (.goto (-82), 3) := by decide +kernel
theorem dX9_settleFrom_92 : decode cX9_settleFrom 92 = .ok (.return_, 1) := by decide +kernel
abbrev rmX9_settleFrom : Room := { frames := 3, cells := 0, slots := 0, locals := 84 }
set_option maxHeartbeats 4000000 in
set_option maxRecDepth 100000 in
theorem metX9_settleFrom {l : Launch} {s0 : State} {b B : Nat} {D : va_G} {T : Nat → ClassId} (F : FX l s0 b D T B) {X : Nat → Prop} (hX : ∀ o, o < 560 → ¬ X (B + o)) {N : Nat} {μ : Mem} {a0 : Nat} {a1 : Int32} {a2 : Int32} {r : Mem} (k0 : IsWy a0) (h : fX9_settleFrom N μ a0 a1 a2 = some r) : gMet l yX9_settleFrom cX9_settleFrom 6 none rmX9_settleFrom [.ref (B + a0), .int a1, .int a2] (gWC s0 D T B μ) (KC s0 X) none (gWC s0 D T B r) (gA B X) 0 0 := by
  refine gV_of RX9 (by decide +kernel) rfl (Nat.le_of_ble_eq_true rfl) ?_
  intro p e s m args below meth c ls Q hx hb hlocks hml hown hts hW hk hl hS hend
  have hC := FX_C F hk hx hb hown hts
  have hA := gA_all hX
  have hl : lv_has ls 6 [(0, .ref (B + a0)), (1, .int a1), (2, .int a2)] := hl
  unfold fX9_settleFrom at h
  refine lv_aload_n hx hb dX9_settleFrom_0 rfl (lv_at hl 0 rfl) ?_
  refine lv_iload_n hx hb dX9_settleFrom_1 rfl (lv_at hl 1 rfl) ?_
  obtain ⟨r1, hcall, h⟩ := bd_out h
  refine g0_callV (As := [.int a1]) hC hml hS hW (KC_at hk hS F.2.2.2.2) KC_blind (metX9_startAt F hX k0 hcall) ml_X9_82 (gw_recv hC hW k0.1 (k0.2.1 (gfm s0) T B (μ a0)) rfl) ⟨rfl, rfl, (Nat.le_of_ble_eq_true rfl), (Nat.le_of_ble_eq_true rfl)⟩ rfl hl.1 rfl (Nat.le_of_ble_eq_true rfl) dX9_settleFrom_2 ⟨(Nat.le_of_ble_eq_true rfl), (Nat.le_of_ble_eq_true rfl)⟩ (fun H locs hW hS => ?_)
  refine lv_iconst (v := 0) hx hb dX9_settleFrom_5 (by decide) ?_
  refine lv_istore_n (lv' := [(3, .int 0), (0, .ref (B + a0)), (1, .int a1), (2, .int a2)]) hx hb dX9_settleFrom_6 rfl hl (by decide) rfl (fun ls hl => ?_)
  refine fix2_ind (fun (x2 : Int32) (μ3 : Mem) => ∀ (H : Heap) (locs : List Loc) (ls : Array Slot), gWC s0 D T B μ3 H → va_S (gA B X) s.heap H locs → lv_has ls 6 [(0, .ref (B + a0)), (2, .int a2), (3, .int x2)] → W p l e rmX9_settleFrom s m args below meth c H locs 0 0 Q (F0 m 7 ls [])) ?_ N _ _ h _ _ _ hW hS (lv_sub hl [1, 3, 0] rfl)
  clear h hW hS hl
  intro self4 IH5 x2 μ3 h H locs ls hW hS hl
  refine lv_iload_n hx hb dX9_settleFrom_7 rfl (lv_at hl 2 rfl) ?_
  refine lv_iload_n hx hb dX9_settleFrom_8 rfl (lv_at hl 1 rfl) ?_
  obtain ⟨j7, hj9, h⟩ := jn1_o h
  have J8 : ∀ (u6 : Unit), j7 u6 = some r → ∀ (H : Heap) (locs : List Loc) (ls : Array Slot), gWC s0 D T B μ3 H → va_S (gA B X) s.heap H locs → lv_has ls 6 [] → W p l e rmX9_settleFrom s m args below meth c H locs 0 0 Q (F0 m 92 ls []) := by
    clear h hW hS hl
    intro u6 h H locs ls hW hS hl
    replace h := (hj9 u6).symm.trans h
    cases h
    exact hend dX9_settleFrom_92 hW hS (Nat.le_of_ble_eq_true rfl) (Nat.le_of_ble_eq_true rfl)
  refine lv_icmp_ge (tgt := 92) hx hb dX9_settleFrom_9 (by decide) (fun c10 => ?_) (fun c10 => ?_)
  · replace h := ite_t c10 h
    exact J8 _ h _ _ _ hW hS (lv_sub hl [] rfl)
  · replace h := ite_f c10 h
    refine lv_aload_n hx hb dX9_settleFrom_12 rfl (lv_at hl 0 rfl) ?_
    refine lv_iload_n hx hb dX9_settleFrom_13 rfl (lv_at hl 1 rfl) ?_
    obtain ⟨r11, hcall, h⟩ := bd_out h
    refine g0_callV (As := [.int a2]) hC hml hS hW (KC_at hk hS F.2.2.2.2) KC_blind (metX9_nearestUnsettled F hX k0 hcall) ml_X9_96 (gw_recv hC hW k0.1 (k0.2.1 (gfm s0) T B (μ3 a0)) rfl) ⟨rfl, rfl, (Nat.le_of_ble_eq_true rfl), (Nat.le_of_ble_eq_true rfl)⟩ rfl hl.1 rfl (Nat.le_of_ble_eq_true rfl) dX9_settleFrom_14 ⟨(Nat.le_of_ble_eq_true rfl), (Nat.le_of_ble_eq_true rfl)⟩ (fun H locs hW hS => ?_)
    refine lv_istore (lv' := [(4, .int r11), (0, .ref (B + a0)), (2, .int a2), (3, .int x2)]) hx hb dX9_settleFrom_17 hl (by decide) rfl (fun ls hl => ?_)
    refine lv_iload hx hb dX9_settleFrom_19 (lv_at hl 0 rfl) ?_
    refine lv_iconst (v := (-1)) hx hb dX9_settleFrom_21 (by decide) ?_
    refine lv_icmp_ne (tgt := 28) hx hb dX9_settleFrom_22 (by decide) (fun c12 => ?_) (fun c12 => ?_)
    · replace h := ite_f c12 h
      refine lv_aload_n hx hb dX9_settleFrom_28 rfl (lv_at hl 1 rfl) ?_
      refine gw_get (v := .ref (B + (a0 + 17))) hC hW fl_X9_26 k0.1 (k0.2.1 (gfm s0) T B (μ3 a0)) rfl dX9_settleFrom_29 ?_
      refine lv_iload hx hb dX9_settleFrom_32 (lv_at hl 0 rfl) ?_
      refine lv_iconst (v := 1) hx hb dX9_settleFrom_34 (by decide) ?_
      obtain ⟨μ13, e14, hi15, h⟩ := aw_o h
      refine gq_zast hC hS hW hA k0.2.2.2.2.2.2.1 (k0.2.2.2.2.2.2.2 (gfm s0) T B) (t0 := 1) rfl e14 hi15 dX9_settleFrom_35 (fun H locs hW hS => ?_)
      refine lv_iconst (v := 0) hx hb dX9_settleFrom_36 (by decide) ?_
      refine lv_istore (lv' := [(5, .int 0), (4, .int r11), (0, .ref (B + a0)), (2, .int a2), (3, .int x2)]) hx hb dX9_settleFrom_37 hl (by decide) rfl (fun ls hl => ?_)
      refine fix2_ind (fun (x16 : Int32) (μ17 : Mem) => ∀ (H : Heap) (locs : List Loc) (ls : Array Slot), gWC s0 D T B μ17 H → va_S (gA B X) s.heap H locs → lv_has ls 6 [(0, .ref (B + a0)), (2, .int a2), (3, .int x2), (4, .int r11), (5, .int x16)] → W p l e rmX9_settleFrom s m args below meth c H locs 0 0 Q (F0 m 39 ls [])) ?_ N _ _ h _ _ _ hW hS (lv_sub hl [2, 3, 4, 1, 0] rfl)
      clear h hW hS hl
      intro self18 IH19 x16 μ17 h H locs ls hW hS hl
      refine lv_iload hx hb dX9_settleFrom_39 (lv_at hl 4 rfl) ?_
      refine lv_iload_n hx hb dX9_settleFrom_41 rfl (lv_at hl 1 rfl) ?_
      refine lv_icmp_ge (tgt := 86) hx hb dX9_settleFrom_42 (by decide) (fun c20 => ?_) (fun c20 => ?_)
      · replace h := ite_t c20 h
        obtain ⟨v21, e22, h⟩ := lt_out h
        refine lv_iinc (v := v21) (lv' := [(3, .int v21), (0, .ref (B + a0)), (2, .int a2), (4, .int r11), (5, .int x16)]) hx hb dX9_settleFrom_86 hl (k := 2) rfl (by rw [e22]; rfl) (by decide) rfl (fun ls hl => ?_)
        refine lv_goto (tgt := 7) hx hb dX9_settleFrom_89 (by decide) ?_
        exact IH5 _ _ h _ _ _ hW hS (lv_sub hl [1, 2, 0] rfl)
      · replace h := ite_f c20 h
        refine lv_aload_n hx hb dX9_settleFrom_45 rfl (lv_at hl 0 rfl) ?_
        refine gw_get (v := .ref (B + (a0 + 16))) hC hW fl_X9_23 k0.1 (k0.2.1 (gfm s0) T B (μ17 a0)) rfl dX9_settleFrom_46 ?_
        refine lv_iload hx hb dX9_settleFrom_49 (lv_at hl 4 rfl) ?_
        refine lv_aload_n hx hb dX9_settleFrom_51 rfl (lv_at hl 0 rfl) ?_
        refine gw_get (v := .ref (B + (a0 + 16))) hC hW fl_X9_23 k0.1 (k0.2.1 (gfm s0) T B (μ17 a0)) rfl dX9_settleFrom_52 ?_
        refine lv_iload hx hb dX9_settleFrom_55 (lv_at hl 4 rfl) ?_
        obtain ⟨v23, e24, hi25, h⟩ := ag_o h
        refine gq_iald hC hW k0.2.2.2.2.2.1.1 (k0.2.2.2.2.2.1.2 (gfm s0) T B (μ17 (a0 + 16))) (t0 := 0) rfl e24 hi25 dX9_settleFrom_57 ?_
        refine lv_aload_n hx hb dX9_settleFrom_58 rfl (lv_at hl 0 rfl) ?_
        refine gw_get (v := .ref (B + (a0 + 16))) hC hW fl_X9_23 k0.1 (k0.2.1 (gfm s0) T B (μ17 a0)) rfl dX9_settleFrom_59 ?_
        refine lv_iload hx hb dX9_settleFrom_62 (lv_at hl 3 rfl) ?_
        obtain ⟨v26, e27, hi28, h⟩ := ag_o h
        refine gq_iald hC hW k0.2.2.2.2.2.1.1 (k0.2.2.2.2.2.1.2 (gfm s0) T B (μ17 (a0 + 16))) (t0 := 0) rfl e27 hi28 dX9_settleFrom_64 ?_
        refine lv_aload_n hx hb dX9_settleFrom_65 rfl (lv_at hl 0 rfl) ?_
        refine gw_get (v := .ref (B + (a0 + 2))) hC hW fl_X9_17 k0.1 (k0.2.1 (gfm s0) T B (μ17 a0)) rfl dX9_settleFrom_66 ?_
        refine lv_iload hx hb dX9_settleFrom_69 (lv_at hl 3 rfl) ?_
        obtain ⟨q29, e30, hq31, hi32, h⟩ := ar_o h
        refine gq_aald hC hW k0.2.2.2.1.1 (k0.2.2.2.1.2.1 (gfm s0) T B (μ17 (a0 + 2))) (t0 := 3) rfl rfl e30 hi32 dX9_settleFrom_71 ?_
        refine lv_iload hx hb dX9_settleFrom_72 (lv_at hl 4 rfl) ?_
        obtain ⟨v33, e34, hi35, h⟩ := ag_o h
        refine gq_iald hC hW (k0.2.2.2.1.2.2 q29 hq31).1 ((k0.2.2.2.1.2.2 q29 hq31).2 (gfm s0) T B (μ17 ((a0 + 2) + 1 + 1 * q29))) (t0 := 0) rfl e34 hi35 dX9_settleFrom_74 ?_
        refine lv_iadd hx hb dX9_settleFrom_75 ?_
        refine gw_min hC (hml.trans hl.1.symm) lm_X9_65 lb_min.1 lb_min.2.1 lb_min.2.2 (Nat.le_of_ble_eq_true rfl) (Nat.le_of_ble_eq_true rfl) (Nat.le_of_ble_eq_true rfl) (Nat.le_of_ble_eq_true rfl) dX9_settleFrom_76 ?_
        obtain ⟨μ36, e37, hi38, h⟩ := aw_o h
        refine gq_iast hC hS hW hA k0.2.2.2.2.2.1.1 (k0.2.2.2.2.2.1.2 (gfm s0) T B) (t0 := 0) rfl e37 hi38 dX9_settleFrom_79 (fun H locs hW hS => ?_)
        obtain ⟨v39, e40, h⟩ := lt_out h
        refine lv_iinc (v := v39) (lv' := [(5, .int v39), (0, .ref (B + a0)), (2, .int a2), (3, .int x2), (4, .int r11)]) hx hb dX9_settleFrom_80 hl (k := 4) rfl (by rw [e40]; rfl) (by decide) rfl (fun ls hl => ?_)
        refine lv_goto (tgt := 39) hx hb dX9_settleFrom_83 (by decide) ?_
        exact IH19 _ _ h _ _ _ hW hS (lv_sub hl [1, 2, 3, 4, 0] rfl)
    · replace h := ite_t c12 h
      refine lv_goto (tgt := 92) hx hb dX9_settleFrom_25 (by decide) ?_
      exact J8 _ h _ _ _ hW hS (lv_sub hl [] rfl)

theorem dX9_nextRoom_0 : decode cX9_nextRoom 0 = .ok (.iconst 0, 1) := by decide +kernel
theorem dX9_nextRoom_1 : decode cX9_nextRoom 1 = .ok (.istore_n 3, 1) := by decide +kernel
theorem dX9_nextRoom_2 : decode cX9_nextRoom 2 = .ok (.iload_n 3, 1) := by decide +kernel
theorem dX9_nextRoom_3 : decode cX9_nextRoom 3 = .ok (.iload_n 2, 1) := by decide +kernel
theorem dX9_nextRoom_4 : decode cX9_nextRoom 4 = .ok (.if_icmp .ge 35, 3) := by decide +kernel
theorem dX9_nextRoom_7 : decode cX9_nextRoom 7 = .ok (.aload_n 0, 1) := by decide +kernel
theorem dX9_nextRoom_8 : decode cX9_nextRoom 8 = .ok (.getfield 17, 3) := by decide +kernel
theorem dX9_nextRoom_11 : decode cX9_nextRoom 11 = .ok (.iload_n 1, 1) := by decide +kernel
theorem dX9_nextRoom_12 : decode cX9_nextRoom 12 = .ok (.aaload, 1) := by decide +kernel
theorem dX9_nextRoom_13 : decode cX9_nextRoom 13 = .ok (.iload_n 3, 1) := by decide +kernel
theorem dX9_nextRoom_14 : decode cX9_nextRoom 14 = .ok (.iaload, 1) := by decide +kernel
theorem dX9_nextRoom_15 : decode cX9_nextRoom 15 = .ok (.aload_n 0, 1) := by decide +kernel
theorem dX9_nextRoom_16 : decode cX9_nextRoom 16 = .ok (.getfield 23, 3) := by decide +kernel
theorem dX9_nextRoom_19 : decode cX9_nextRoom 19 = .ok (.iload_n 3, 1) := by decide +kernel
theorem dX9_nextRoom_20 : decode cX9_nextRoom 20 = .ok (.iaload, 1) := by decide +kernel
theorem dX9_nextRoom_21 : decode cX9_nextRoom 21 = .ok (.iadd, 1) := by decide +kernel
theorem dX9_nextRoom_22 : decode cX9_nextRoom 22 = .ok (.aload_n 0, 1) := by decide +kernel
theorem dX9_nextRoom_23 : decode cX9_nextRoom 23 = .ok (.getfield 23, 3) := by decide +kernel
theorem dX9_nextRoom_26 : decode cX9_nextRoom 26 = .ok (.iload_n 1, 1) := by decide +kernel
theorem dX9_nextRoom_27 : decode cX9_nextRoom 27 = .ok (.iaload, 1) := by decide +kernel
theorem dX9_nextRoom_28 : decode cX9_nextRoom 28 = .ok (.if_icmp .ne 5, 3) := by decide +kernel
theorem dX9_nextRoom_31 : decode cX9_nextRoom 31 = .ok (.iload_n 3, 1) := by decide +kernel
theorem dX9_nextRoom_32 : decode cX9_nextRoom 32 = .ok (.ireturn, 1) := by decide +kernel
theorem dX9_nextRoom_33 : decode cX9_nextRoom 33 = .ok (.iinc 3 1, 3) := by decide +kernel
theorem dX9_nextRoom_36 : decode cX9_nextRoom 36 = .ok (.goto (-34), 3) := by decide +kernel
theorem dX9_nextRoom_39 : decode cX9_nextRoom 39 = .ok (.iload_n 1, 1) := by decide +kernel
theorem dX9_nextRoom_40 : decode cX9_nextRoom 40 = .ok (.ireturn, 1) := by decide +kernel
abbrev rmX9_nextRoom : Room := { frames := 2, cells := 0, slots := 0, locals := 60 }
set_option maxHeartbeats 4000000 in
set_option maxRecDepth 100000 in
theorem metX9_nextRoom {l : Launch} {s0 : State} {b B : Nat} {D : va_G} {T : Nat → ClassId} (F : FX l s0 b D T B) {X : Nat → Prop} (hX : ∀ o, o < 560 → ¬ X (B + o)) {N : Nat} {μ : Mem} {a0 : Nat} {a1 : Int32} {a2 : Int32} {r : Int32} (k0 : IsWy a0) (h : fX9_nextRoom N μ a0 a1 a2 = some r) : gMet l yX9_nextRoom cX9_nextRoom 4 (some .int) rmX9_nextRoom [.ref (B + a0), .int a1, .int a2] (gWC s0 D T B μ) (KC s0 X) (some (.int r)) (gWC s0 D T B μ) (gA B X) 0 0 := by
  refine gI_of RX9 (by decide +kernel) rfl (Nat.le_of_ble_eq_true rfl) ?_
  intro p e s m args below meth c ls Q hx hb hlocks hml hown hts hW hk hl hS hend
  have hC := FX_C F hk hx hb hown hts
  have hA := gA_all hX
  have hl : lv_has ls 4 [(0, .ref (B + a0)), (1, .int a1), (2, .int a2)] := hl
  unfold fX9_nextRoom at h
  refine lv_iconst (v := 0) hx hb dX9_nextRoom_0 (by decide) ?_
  refine lv_istore_n (lv' := [(3, .int 0), (0, .ref (B + a0)), (1, .int a1), (2, .int a2)]) hx hb dX9_nextRoom_1 rfl hl (by decide) rfl (fun ls hl => ?_)
  refine fix1_ind (fun (x1 : Int32) => ∀ (H : Heap) (locs : List Loc) (ls : Array Slot), gWC s0 D T B μ H → va_S (gA B X) s.heap H locs → lv_has ls 4 [(0, .ref (B + a0)), (1, .int a1), (2, .int a2), (3, .int x1)] → W p l e rmX9_nextRoom s m args below meth c H locs 0 0 Q (F0 m 2 ls [])) ?_ N _ h _ _ _ hW hS (lv_sub hl [1, 2, 3, 0] rfl)
  clear h hW hS hl
  intro self2 IH3 x1 h H locs ls hW hS hl
  refine lv_iload_n hx hb dX9_nextRoom_2 rfl (lv_at hl 3 rfl) ?_
  refine lv_iload_n hx hb dX9_nextRoom_3 rfl (lv_at hl 2 rfl) ?_
  refine lv_icmp_ge (tgt := 39) hx hb dX9_nextRoom_4 (by decide) (fun c4 => ?_) (fun c4 => ?_)
  · replace h := ite_t c4 h
    refine lv_iload_n hx hb dX9_nextRoom_39 rfl (lv_at hl 1 rfl) ?_
    cases h
    exact hend dX9_nextRoom_40 hW hS (Nat.le_of_ble_eq_true rfl) (Nat.le_of_ble_eq_true rfl)
  · replace h := ite_f c4 h
    refine lv_aload_n hx hb dX9_nextRoom_7 rfl (lv_at hl 0 rfl) ?_
    refine gw_get (v := .ref (B + (a0 + 2))) hC hW fl_X9_17 k0.1 (k0.2.1 (gfm s0) T B (μ a0)) rfl dX9_nextRoom_8 ?_
    refine lv_iload_n hx hb dX9_nextRoom_11 rfl (lv_at hl 1 rfl) ?_
    obtain ⟨q5, e6, hq7, hi8, h⟩ := ar_o h
    refine gq_aald hC hW k0.2.2.2.1.1 (k0.2.2.2.1.2.1 (gfm s0) T B (μ (a0 + 2))) (t0 := 3) rfl rfl e6 hi8 dX9_nextRoom_12 ?_
    refine lv_iload_n hx hb dX9_nextRoom_13 rfl (lv_at hl 3 rfl) ?_
    obtain ⟨v9, e10, hi11, h⟩ := ag_o h
    refine gq_iald hC hW (k0.2.2.2.1.2.2 q5 hq7).1 ((k0.2.2.2.1.2.2 q5 hq7).2 (gfm s0) T B (μ ((a0 + 2) + 1 + 1 * q5))) (t0 := 0) rfl e10 hi11 dX9_nextRoom_14 ?_
    refine lv_aload_n hx hb dX9_nextRoom_15 rfl (lv_at hl 0 rfl) ?_
    refine gw_get (v := .ref (B + (a0 + 16))) hC hW fl_X9_23 k0.1 (k0.2.1 (gfm s0) T B (μ a0)) rfl dX9_nextRoom_16 ?_
    refine lv_iload_n hx hb dX9_nextRoom_19 rfl (lv_at hl 3 rfl) ?_
    obtain ⟨v12, e13, hi14, h⟩ := ag_o h
    refine gq_iald hC hW k0.2.2.2.2.2.1.1 (k0.2.2.2.2.2.1.2 (gfm s0) T B (μ (a0 + 16))) (t0 := 0) rfl e13 hi14 dX9_nextRoom_20 ?_
    refine lv_iadd hx hb dX9_nextRoom_21 ?_
    refine lv_aload_n hx hb dX9_nextRoom_22 rfl (lv_at hl 0 rfl) ?_
    refine gw_get (v := .ref (B + (a0 + 16))) hC hW fl_X9_23 k0.1 (k0.2.1 (gfm s0) T B (μ a0)) rfl dX9_nextRoom_23 ?_
    refine lv_iload_n hx hb dX9_nextRoom_26 rfl (lv_at hl 1 rfl) ?_
    obtain ⟨v15, e16, hi17, h⟩ := ag_o h
    refine gq_iald hC hW k0.2.2.2.2.2.1.1 (k0.2.2.2.2.2.1.2 (gfm s0) T B (μ (a0 + 16))) (t0 := 0) rfl e16 hi17 dX9_nextRoom_27 ?_
    refine lv_icmp_ne (tgt := 33) hx hb dX9_nextRoom_28 (by decide) (fun c18 => ?_) (fun c18 => ?_)
    · replace h := ite_f c18 h
      obtain ⟨v19, e20, h⟩ := lt_out h
      refine lv_iinc (v := v19) (lv' := [(3, .int v19), (0, .ref (B + a0)), (1, .int a1), (2, .int a2)]) hx hb dX9_nextRoom_33 hl (k := 3) rfl (by rw [e20]; rfl) (by decide) rfl (fun ls hl => ?_)
      refine lv_goto (tgt := 2) hx hb dX9_nextRoom_36 (by decide) ?_
      exact IH3 _ h _ _ _ hW hS (lv_sub hl [1, 2, 3, 0] rfl)
    · replace h := ite_t c18 h
      refine lv_iload_n hx hb dX9_nextRoom_31 rfl (lv_at hl 3 rfl) ?_
      cases h
      exact hend dX9_nextRoom_32 hW hS (Nat.le_of_ble_eq_true rfl) (Nat.le_of_ble_eq_true rfl)

theorem dX9_findWay_0 : decode cX9_findWay 0 = .ok (.aload_n 0, 1) := by decide +kernel
theorem dX9_findWay_1 : decode cX9_findWay 1 = .ok (.aload_n 1, 1) := by decide +kernel
theorem dX9_findWay_2 : decode cX9_findWay 2 = .ok (.invokevirtual 30, 3) := by decide +kernel
theorem dX9_findWay_5 : decode cX9_findWay 5 = .ok (.aload_n 0, 1) := by decide +kernel
theorem dX9_findWay_6 : decode cX9_findWay 6 = .ok (.iload_n 3, 1) := by decide +kernel
theorem dX9_findWay_7 : decode cX9_findWay 7 = .ok (.aload_n 1, 1) := by decide +kernel
theorem dX9_findWay_8 : decode cX9_findWay 8 = .ok (.getfield 34, 3) := by decide +kernel
theorem dX9_findWay_11 : decode cX9_findWay 11 = .ok (.invokevirtual 40, 3) := by decide +kernel
theorem dX9_findWay_14 : decode cX9_findWay 14 = .ok (.aload_n 0, 1) := by decide +kernel
theorem dX9_findWay_15 : decode cX9_findWay 15 = .ok (.iconst 0, 1) := by decide +kernel
theorem dX9_findWay_16 : decode cX9_findWay 16 = .ok (.putfield 44, 3) := by decide +kernel
theorem dX9_findWay_19 : decode cX9_findWay 19 = .ok (.aload_n 0, 1) := by decide +kernel
theorem dX9_findWay_20 : decode cX9_findWay 20 = .ok (.getfield 23, 3) := by decide +kernel
theorem dX9_findWay_23 : decode cX9_findWay 23 = .ok (.iload_n 2, 1) := by decide +kernel
theorem dX9_findWay_24 : decode cX9_findWay 24 = .ok (.iaload, 1) := by decide +kernel
theorem dX9_findWay_25 : decode cX9_findWay 25 = .ok (.ldc 47, 2) := by decide +kernel
theorem dX9_findWay_27 : decode cX9_findWay 27 = .ok (.if_icmp .lt 5, 3) := by decide +kernel
theorem dX9_findWay_30 : decode cX9_findWay 30 = .ok (.iconst 0, 1) := by decide +kernel
theorem dX9_findWay_31 : decode cX9_findWay 31 = .ok (.ireturn, 1) := by decide +kernel
theorem dX9_findWay_32 : decode cX9_findWay 32 = .ok (.aload_n 0, 1) := by decide +kernel
theorem dX9_findWay_33 : decode cX9_findWay 33 = .ok (.aload_n 0, 1) := by decide +kernel
theorem dX9_findWay_34 : decode cX9_findWay 34 = .ok (.getfield 23, 3) := by decide +kernel
theorem dX9_findWay_37 : decode cX9_findWay 37 = .ok (.iload_n 2, 1) := by decide +kernel
theorem dX9_findWay_38 : decode cX9_findWay 38 = .ok (.iaload, 1) := by decide +kernel
theorem dX9_findWay_39 : decode cX9_findWay 39 = .ok (.bipush 8, 2) := by decide +kernel
theorem dX9_findWay_41 : decode cX9_findWay 41 = .ok (.idiv, 1) := by decide +kernel
theorem dX9_findWay_42 : decode cX9_findWay 42 = .ok (.putfield 48, 3) := by decide +kernel
theorem dX9_findWay_45 : decode cX9_findWay 45 = .ok (.iload_n 2, 1) := by decide +kernel
theorem dX9_findWay_46 : decode cX9_findWay 46 = .ok (.istore 4, 2) := by decide +kernel
theorem dX9_findWay_48 : decode cX9_findWay 48 = .ok (.iconst 0, 1) := by decide +kernel
theorem dX9_findWay_49 : decode cX9_findWay 49 = .ok (.istore 5, 2) := by decide +kernel
theorem dX9_findWay_51 : decode cX9_findWay 51 = .ok (.iload 5, 2) := by decide +kernel
theorem dX9_findWay_53 : decode cX9_findWay 53 = .ok (.bipush 6, 2) := by decide +kernel
theorem dX9_findWay_55 : decode cX9_findWay 55 = .ok (.if_icmp .ge 51, 3) := by decide +kernel
theorem dX9_findWay_58 : decode cX9_findWay 58 = .ok (.aload_n 0, 1) := by decide +kernel
theorem dX9_findWay_59 : decode cX9_findWay 59 = .ok (.getfield 44, 3) := by decide +kernel
theorem dX9_findWay_62 : decode cX9_findWay 62 = .ok (.ifCond .ne 44, 3) := by decide +kernel
theorem dX9_findWay_65 : decode cX9_findWay 65 = .ok (.aload_n 0, 1) := by decide +kernel
theorem dX9_findWay_66 : decode cX9_findWay 66 = .ok (.getfield 9, 3) := by decide +kernel
theorem dX9_findWay_69 : decode cX9_findWay 69 = .ok (.iload 5, 2) := by decide +kernel
theorem dX9_findWay_71 : decode cX9_findWay 71 = .ok (.iload 4, 2) := by decide +kernel
theorem dX9_findWay_73 : decode cX9_findWay 73 = .ok (.iastore, 1) := by decide +kernel
theorem dX9_findWay_74 : decode cX9_findWay 74 = .ok (.iload 4, 2) := by decide +kernel
theorem dX9_findWay_76 : decode cX9_findWay 76 = .ok (.iload_n 3, 1) := by decide +kernel
theorem dX9_findWay_77 : decode cX9_findWay 77 = .ok (.if_icmp .ne 11, 3) := by decide +kernel
theorem dX9_findWay_80 : decode cX9_findWay 80 = .ok (.aload_n 0, 1) := by decide +kernel
theorem dX9_findWay_81 : decode cX9_findWay 81 = .ok (.iload 5, 2) := by decide +kernel
theorem dX9_findWay_83 : decode cX9_findWay 83 = .ok (.iconst 1, 1) := by decide +kernel
theorem dX9_findWay_84 : decode cX9_findWay 84 = .ok (.iadd, 1) := by decide +kernel
theorem dX9_findWay_85 : decode cX9_findWay 85 = .ok (.putfield 44, 3) := by decide +kernel
theorem dX9_findWay_88 : decode cX9_findWay 88 = .ok (.aload_n 0, 1) := by decide +kernel
theorem dX9_findWay_89 : decode cX9_findWay 89 = .ok (.iload 4, 2) := by decide +kernel
theorem dX9_findWay_91 : decode cX9_findWay 91 = .ok (.aload_n 1, 1) := by decide +kernel
theorem dX9_findWay_92 : decode cX9_findWay 92 = .ok (.getfield 34, 3) := by decide +kernel
theorem dX9_findWay_95 : decode cX9_findWay 95 = .ok (.invokevirtual 51, 3) := by decide +kernel
theorem dX9_findWay_98 : decode cX9_findWay 98 = .ok (.istore 4, 2) := by decide +kernel
theorem dX9_findWay_100 : decode cX9_findWay 100 = .ok (.iinc 5 1, 3) := by decide +kernel
theorem dX9_findWay_103 : decode cX9_findWay 103 = .ok (.goto (-52), 3) := by decide +kernel
theorem dX9_findWay_106 : decode cX9_findWay 106 = .ok (.aload_n 0, 1) := by decide +kernel
theorem dX9_findWay_107 : decode cX9_findWay 107 = .ok (.getfield 44, 3) := by decide +kernel
theorem dX9_findWay_110 : decode cX9_findWay 110 = .ok (.ifCond .le 7, 3) := by decide +kernel
theorem dX9_findWay_113 : decode cX9_findWay 113 = .ok (.iconst 1, 1) := by decide +kernel
theorem dX9_findWay_114 : decode cX9_findWay 114 = .ok (.goto 4, 3) := by decide +kernel
theorem dX9_findWay_117 : decode cX9_findWay 117 = .ok (.iconst 0, 1) := by decide +kernel
theorem dX9_findWay_118 : decode cX9_findWay 118 = .ok (.ireturn, 1) := by decide +kernel
abbrev rmX9_findWay : Room := { frames := 4, cells := 0, slots := 0, locals := 109 }
set_option maxHeartbeats 4000000 in
set_option maxRecDepth 100000 in
theorem metX9_findWay {l : Launch} {s0 : State} {b B : Nat} {D : va_G} {T : Nat → ClassId} (F : FX l s0 b D T B) {X : Nat → Prop} (hX : ∀ o, o < 560 → ¬ X (B + o)) {N : Nat} {μ : Mem} {a0 : Nat} {a1 : Nat} {a2 : Int32} {a3 : Int32} {r : Mem × Bool} (k0 : IsWy a0) (k1 : IsSt a1) (h : fX9_findWay N μ a0 a1 a2 a3 = some r) : gMet l yX9_findWay cX9_findWay 6 (some .boolean) rmX9_findWay [.ref (B + a0), .ref (B + a1), .int a2, .int a3] (gWC s0 D T B μ) (KC s0 X) (some (.int (b2i r.2))) (gWC s0 D T B r.1) (gA B X) 0 0 := by
  refine gZ_of RX9 (by decide +kernel) rfl (Nat.le_of_ble_eq_true rfl) ?_
  intro p e s m args below meth c ls Q hx hb hlocks hml hown hts hW hk hl hS hend
  have hC := FX_C F hk hx hb hown hts
  have hA := gA_all hX
  have hl : lv_has ls 6 [(0, .ref (B + a0)), (1, .ref (B + a1)), (2, .int a2), (3, .int a3)] := hl
  unfold fX9_findWay at h
  refine lv_aload_n hx hb dX9_findWay_0 rfl (lv_at hl 0 rfl) ?_
  refine lv_aload_n hx hb dX9_findWay_1 rfl (lv_at hl 1 rfl) ?_
  obtain ⟨r1, hcall, h⟩ := bd_out h
  refine g0_callV (As := [.ref (B + a1)]) hC hml hS hW (KC_at hk hS F.2.2.2.2) KC_blind (metX9_weighMinutes F hX k0 k1 hcall) ml_X9_30 (gw_recv hC hW k0.1 (k0.2.1 (gfm s0) T B (μ a0)) rfl) ⟨rfl, rfl, (Nat.le_of_ble_eq_true rfl), (Nat.le_of_ble_eq_true rfl)⟩ rfl hl.1 rfl (Nat.le_of_ble_eq_true rfl) dX9_findWay_2 ⟨(Nat.le_of_ble_eq_true rfl), (Nat.le_of_ble_eq_true rfl)⟩ (fun H locs hW hS => ?_)
  refine lv_aload_n hx hb dX9_findWay_5 rfl (lv_at hl 0 rfl) ?_
  refine lv_iload_n hx hb dX9_findWay_6 rfl (lv_at hl 3 rfl) ?_
  refine lv_aload_n hx hb dX9_findWay_7 rfl (lv_at hl 1 rfl) ?_
  refine gw_get (v := .int (r1 a1 0)) hC hW fl_X9_34.1 k1.1 (k1.2.1 (gfm s0) T B (r1 a1)) rfl dX9_findWay_8 ?_
  obtain ⟨r2, hcall, h⟩ := bd_out h
  refine g0_callV (As := [.int a3, .int (r1 a1 0)]) hC hml hS hW (KC_at hk hS F.2.2.2.2) KC_blind (metX9_settleFrom F hX k0 hcall) ml_X9_40 (gw_recv hC hW k0.1 (k0.2.1 (gfm s0) T B (r1 a0)) rfl) ⟨rfl, rfl, (Nat.le_of_ble_eq_true rfl), (Nat.le_of_ble_eq_true rfl)⟩ rfl hl.1 rfl (Nat.le_of_ble_eq_true rfl) dX9_findWay_11 ⟨(Nat.le_of_ble_eq_true rfl), (Nat.le_of_ble_eq_true rfl)⟩ (fun H locs hW hS => ?_)
  refine lv_aload_n hx hb dX9_findWay_14 rfl (lv_at hl 0 rfl) ?_
  refine lv_iconst (v := 0) hx hb dX9_findWay_15 (by decide) ?_
  obtain ⟨μ3, e4, h⟩ := lt_out h
  refine gq_put hC hS hW hA fl_X9_44 k0.1 (k0.2.1 (gfm s0) T B) (Nat.le_of_ble_eq_true rfl) rfl rfl rfl e4 dX9_findWay_16 (fun H locs hW hS => ?_)
  refine lv_aload_n hx hb dX9_findWay_19 rfl (lv_at hl 0 rfl) ?_
  refine gw_get (v := .ref (B + (a0 + 16))) hC hW fl_X9_23 k0.1 (k0.2.1 (gfm s0) T B (μ3 a0)) rfl dX9_findWay_20 ?_
  refine lv_iload_n hx hb dX9_findWay_23 rfl (lv_at hl 2 rfl) ?_
  obtain ⟨v5, e6, hi7, h⟩ := ag_o h
  refine gq_iald hC hW k0.2.2.2.2.2.1.1 (k0.2.2.2.2.2.1.2 (gfm s0) T B (μ3 (a0 + 16))) (t0 := 0) rfl e6 hi7 dX9_findWay_24 ?_
  refine lv_ldc (v := 1000000) hx hb hown (hts _ kc_X9_47) dX9_findWay_25 ?_
  refine lv_icmp_lt (tgt := 32) hx hb dX9_findWay_27 (by decide) (fun c8 => ?_) (fun c8 => ?_)
  · replace h := ite_t c8 h
    refine lv_aload_n hx hb dX9_findWay_32 rfl (lv_at hl 0 rfl) ?_
    refine lv_aload_n hx hb dX9_findWay_33 rfl (lv_at hl 0 rfl) ?_
    refine gw_get (v := .ref (B + (a0 + 16))) hC hW fl_X9_23 k0.1 (k0.2.1 (gfm s0) T B (μ3 a0)) rfl dX9_findWay_34 ?_
    refine lv_iload_n hx hb dX9_findWay_37 rfl (lv_at hl 2 rfl) ?_
    obtain ⟨v9, e10, hi11, h⟩ := ag_o h
    refine gq_iald hC hW k0.2.2.2.2.2.1.1 (k0.2.2.2.2.2.1.2 (gfm s0) T B (μ3 (a0 + 16))) (t0 := 0) rfl e10 hi11 dX9_findWay_38 ?_
    refine lv_bipush (v := 8) hx hb dX9_findWay_39 (by decide) ?_
    refine lv_idiv hx hb dX9_findWay_41 (by decide) ?_
    obtain ⟨μ12, e13, h⟩ := lt_out h
    refine gq_put hC hS hW hA fl_X9_48 k0.1 (k0.2.1 (gfm s0) T B) (Nat.le_of_ble_eq_true rfl) rfl rfl rfl e13 dX9_findWay_42 (fun H locs hW hS => ?_)
    refine lv_iload_n hx hb dX9_findWay_45 rfl (lv_at hl 2 rfl) ?_
    refine lv_istore (lv' := [(4, .int a2), (0, .ref (B + a0)), (1, .ref (B + a1)), (2, .int a2), (3, .int a3)]) hx hb dX9_findWay_46 hl (by decide) rfl (fun ls hl => ?_)
    refine lv_iconst (v := 0) hx hb dX9_findWay_48 (by decide) ?_
    refine lv_istore (lv' := [(5, .int 0), (4, .int a2), (0, .ref (B + a0)), (1, .ref (B + a1)), (2, .int a2), (3, .int a3)]) hx hb dX9_findWay_49 hl (by decide) rfl (fun ls hl => ?_)
    refine fix3_ind (fun (x14 : Int32) (x15 : Int32) (μ16 : Mem) => ∀ (H : Heap) (locs : List Loc) (ls : Array Slot), gWC s0 D T B μ16 H → va_S (gA B X) s.heap H locs → lv_has ls 6 [(0, .ref (B + a0)), (1, .ref (B + a1)), (3, .int a3), (4, .int x14), (5, .int x15)] → W p l e rmX9_findWay s m args below meth c H locs 0 0 Q (F0 m 51 ls [])) ?_ N _ _ _ h _ _ _ hW hS (lv_sub hl [2, 3, 5, 1, 0] rfl)
    clear h hW hS hl
    intro self17 IH18 x14 x15 μ16 h H locs ls hW hS hl
    refine lv_iload hx hb dX9_findWay_51 (lv_at hl 4 rfl) ?_
    refine lv_bipush (v := 6) hx hb dX9_findWay_53 (by decide) ?_
    obtain ⟨j20, hj22, h⟩ := jn1_o h
    have J21 : ∀ (u19 : Unit), j20 u19 = some r → ∀ (H : Heap) (locs : List Loc) (ls : Array Slot), gWC s0 D T B μ16 H → va_S (gA B X) s.heap H locs → lv_has ls 6 [(0, .ref (B + a0))] → W p l e rmX9_findWay s m args below meth c H locs 0 0 Q (F0 m 106 ls []) := by
      clear h hW hS hl
      intro u19 h H locs ls hW hS hl
      replace h := (hj22 u19).symm.trans h
      refine lv_aload_n hx hb dX9_findWay_106 rfl (lv_at hl 0 rfl) ?_
      refine gw_get (v := .int (μ16 a0 1)) hC hW fl_X9_44.1 k0.1 (k0.2.1 (gfm s0) T B (μ16 a0)) rfl dX9_findWay_107 ?_
      obtain ⟨j24, hj26, h⟩ := jn1_o h
      have J25 : ∀ (y23 : Bool), j24 y23 = some r → ∀ (H : Heap) (locs : List Loc) (ls : Array Slot), gWC s0 D T B μ16 H → va_S (gA B X) s.heap H locs → lv_has ls 6 [] → W p l e rmX9_findWay s m args below meth c H locs 0 0 Q (F0 m 118 ls [.int (b2i y23)]) := by
        clear h hW hS hl
        intro y23 h H locs ls hW hS hl
        replace h := (hj26 y23).symm.trans h
        cases h
        exact hend dX9_findWay_118 hW hS (Nat.le_of_ble_eq_true rfl) (Nat.le_of_ble_eq_true rfl)
      refine lv_if_le (tgt := 117) hx hb dX9_findWay_110 (by decide) (fun c27 => ?_) (fun c27 => ?_)
      · replace h := ite_t c27 h
        refine lv_iconst (v := 0) hx hb dX9_findWay_117 (by decide) ?_
        exact J25 _ h _ _ _ hW hS (lv_sub hl [] rfl)
      · replace h := ite_f c27 h
        refine lv_iconst (v := 1) hx hb dX9_findWay_113 (by decide) ?_
        refine lv_goto (tgt := 118) hx hb dX9_findWay_114 (by decide) ?_
        exact J25 _ h _ _ _ hW hS (lv_sub hl [] rfl)
    refine lv_icmp_ge (tgt := 106) hx hb dX9_findWay_55 (by decide) (fun c28 => ?_) (fun c28 => ?_)
    · replace h := ite_t c28 h
      exact J21 _ h _ _ _ hW hS (lv_sub hl [0] rfl)
    · replace h := ite_f c28 h
      refine lv_aload_n hx hb dX9_findWay_58 rfl (lv_at hl 0 rfl) ?_
      refine gw_get (v := .int (μ16 a0 1)) hC hW fl_X9_44.1 k0.1 (k0.2.1 (gfm s0) T B (μ16 a0)) rfl dX9_findWay_59 ?_
      refine lv_if_ne (tgt := 106) hx hb dX9_findWay_62 (by decide) (fun c29 => ?_) (fun c29 => ?_)
      · replace h := ite_f c29 h
        exact J21 _ h _ _ _ hW hS (lv_sub hl [0] rfl)
      · replace h := ite_t c29 h
        refine lv_aload_n hx hb dX9_findWay_65 rfl (lv_at hl 0 rfl) ?_
        refine gw_get (v := .ref (B + (a0 + 1))) hC hW fl_X9_9 k0.1 (k0.2.1 (gfm s0) T B (μ16 a0)) rfl dX9_findWay_66 ?_
        refine lv_iload hx hb dX9_findWay_69 (lv_at hl 4 rfl) ?_
        refine lv_iload hx hb dX9_findWay_71 (lv_at hl 3 rfl) ?_
        obtain ⟨μ30, e31, hi32, h⟩ := aw_o h
        refine gq_iast hC hS hW hA k0.2.2.1.1 (k0.2.2.1.2 (gfm s0) T B) (t0 := 0) rfl e31 hi32 dX9_findWay_73 (fun H locs hW hS => ?_)
        refine lv_iload hx hb dX9_findWay_74 (lv_at hl 3 rfl) ?_
        refine lv_iload_n hx hb dX9_findWay_76 rfl (lv_at hl 2 rfl) ?_
        obtain ⟨j34, hj36, h⟩ := jn1_o h
        have J35 : ∀ (μ33 : Mem), j34 μ33 = some r → ∀ (H : Heap) (locs : List Loc) (ls : Array Slot), gWC s0 D T B μ33 H → va_S (gA B X) s.heap H locs → lv_has ls 6 [(0, .ref (B + a0)), (1, .ref (B + a1)), (3, .int a3), (4, .int x14), (5, .int x15)] → W p l e rmX9_findWay s m args below meth c H locs 0 0 Q (F0 m 88 ls []) := by
          clear h hW hS hl
          intro μ33 h H locs ls hW hS hl
          replace h := (hj36 μ33).symm.trans h
          refine lv_aload_n hx hb dX9_findWay_88 rfl (lv_at hl 0 rfl) ?_
          refine lv_iload hx hb dX9_findWay_89 (lv_at hl 3 rfl) ?_
          refine lv_aload_n hx hb dX9_findWay_91 rfl (lv_at hl 1 rfl) ?_
          refine gw_get (v := .int (μ33 a1 0)) hC hW fl_X9_34.1 k1.1 (k1.2.1 (gfm s0) T B (μ33 a1)) rfl dX9_findWay_92 ?_
          obtain ⟨r37, hcall, h⟩ := bd_out h
          refine g0_callV (As := [.int x14, .int (μ33 a1 0)]) hC hml hS hW (KC_at hk hS F.2.2.2.2) KC_blind (metX9_nextRoom F hX k0 hcall) ml_X9_51 (gw_recv hC hW k0.1 (k0.2.1 (gfm s0) T B (μ33 a0)) rfl) ⟨rfl, rfl, (Nat.le_of_ble_eq_true rfl), (Nat.le_of_ble_eq_true rfl)⟩ rfl hl.1 rfl (Nat.le_of_ble_eq_true rfl) dX9_findWay_95 ⟨(Nat.le_of_ble_eq_true rfl), (Nat.le_of_ble_eq_true rfl)⟩ (fun H locs hW hS => ?_)
          refine lv_istore (lv' := [(4, .int r37), (0, .ref (B + a0)), (1, .ref (B + a1)), (3, .int a3), (5, .int x15)]) hx hb dX9_findWay_98 hl (by decide) rfl (fun ls hl => ?_)
          obtain ⟨v38, e39, h⟩ := lt_out h
          refine lv_iinc (v := v38) (lv' := [(5, .int v38), (4, .int r37), (0, .ref (B + a0)), (1, .ref (B + a1)), (3, .int a3)]) hx hb dX9_findWay_100 hl (k := 4) rfl (by rw [e39]; rfl) (by decide) rfl (fun ls hl => ?_)
          refine lv_goto (tgt := 51) hx hb dX9_findWay_103 (by decide) ?_
          exact IH18 _ _ _ h _ _ _ hW hS (lv_sub hl [2, 3, 4, 1, 0] rfl)
        refine lv_icmp_ne (tgt := 88) hx hb dX9_findWay_77 (by decide) (fun c40 => ?_) (fun c40 => ?_)
        · replace h := ite_f c40 h
          exact J35 _ h _ _ _ hW hS (lv_sub hl [0, 1, 2, 3, 4] rfl)
        · replace h := ite_t c40 h
          refine lv_aload_n hx hb dX9_findWay_80 rfl (lv_at hl 0 rfl) ?_
          refine lv_iload hx hb dX9_findWay_81 (lv_at hl 4 rfl) ?_
          refine lv_iconst (v := 1) hx hb dX9_findWay_83 (by decide) ?_
          refine lv_iadd hx hb dX9_findWay_84 ?_
          obtain ⟨μ41, e42, h⟩ := lt_out h
          refine gq_put hC hS hW hA fl_X9_44 k0.1 (k0.2.1 (gfm s0) T B) (Nat.le_of_ble_eq_true rfl) rfl rfl rfl e42 dX9_findWay_85 (fun H locs hW hS => ?_)
          exact J35 _ h _ _ _ hW hS (lv_sub hl [0, 1, 2, 3, 4] rfl)
  · replace h := ite_f c8 h
    refine lv_iconst (v := 0) hx hb dX9_findWay_30 (by decide) ?_
    cases h
    exact hend dX9_findWay_31 hW hS (Nat.le_of_ble_eq_true rfl) (Nat.le_of_ble_eq_true rfl)

theorem dX9_minutesBySettling_0 : decode cX9_minutesBySettling 0 = .ok (.aload_n 0, 1) := by decide +kernel
theorem dX9_minutesBySettling_1 : decode cX9_minutesBySettling 1 = .ok (.aload_n 1, 1) := by decide +kernel
theorem dX9_minutesBySettling_2 : decode cX9_minutesBySettling 2 = .ok (.invokevirtual 30, 3) := by decide +kernel
theorem dX9_minutesBySettling_5 : decode cX9_minutesBySettling 5 = .ok (.aload_n 0, 1) := by decide +kernel
theorem dX9_minutesBySettling_6 : decode cX9_minutesBySettling 6 = .ok (.iload_n 2, 1) := by decide +kernel
theorem dX9_minutesBySettling_7 : decode cX9_minutesBySettling 7 = .ok (.aload_n 1, 1) := by decide +kernel
theorem dX9_minutesBySettling_8 : decode cX9_minutesBySettling 8 = .ok (.getfield 34, 3) := by decide +kernel
theorem dX9_minutesBySettling_11 : decode cX9_minutesBySettling 11 = .ok (.invokevirtual 40, 3) := by decide +kernel
theorem dX9_minutesBySettling_14 : decode cX9_minutesBySettling 14 = .ok (.aload_n 0, 1) := by decide +kernel
theorem dX9_minutesBySettling_15 : decode cX9_minutesBySettling 15 = .ok (.getfield 23, 3) := by decide +kernel
theorem dX9_minutesBySettling_18 : decode cX9_minutesBySettling 18 = .ok (.iload_n 3, 1) := by decide +kernel
theorem dX9_minutesBySettling_19 : decode cX9_minutesBySettling 19 = .ok (.iaload, 1) := by decide +kernel
theorem dX9_minutesBySettling_20 : decode cX9_minutesBySettling 20 = .ok (.ldc 47, 2) := by decide +kernel
theorem dX9_minutesBySettling_22 : decode cX9_minutesBySettling 22 = .ok (.if_icmp .lt 7, 3) := by decide +kernel
theorem dX9_minutesBySettling_25 : decode cX9_minutesBySettling 25 = .ok (.iconst (-1), 1) := by decide +kernel
theorem dX9_minutesBySettling_26 : decode cX9_minutesBySettling 26 = .ok (.goto 12, 3) := by decide +kernel
theorem dX9_minutesBySettling_29 : decode cX9_minutesBySettling 29 = .ok (.aload_n 0, 1) := by decide +kernel
theorem dX9_minutesBySettling_30 : decode cX9_minutesBySettling 30 = .ok (.getfield 23, 3) := by decide +kernel
theorem dX9_minutesBySettling_33 : decode cX9_minutesBySettling 33 = .ok (.iload_n 3, 1) := by decide +kernel
theorem dX9_minutesBySettling_34 : decode cX9_minutesBySettling 34 = .ok (.iaload, 1) := by decide +kernel
theorem dX9_minutesBySettling_35 : decode cX9_minutesBySettling 35 = .ok (.bipush 8, 2) := by decide +kernel
theorem dX9_minutesBySettling_37 : decode cX9_minutesBySettling 37 = .ok (.idiv, 1) := by decide +kernel
theorem dX9_minutesBySettling_38 : decode cX9_minutesBySettling 38 = .ok (.ireturn, 1) := by decide +kernel
abbrev rmX9_minutesBySettling : Room := { frames := 4, cells := 0, slots := 0, locals := 109 }
set_option maxHeartbeats 4000000 in
set_option maxRecDepth 100000 in
theorem metX9_minutesBySettling {l : Launch} {s0 : State} {b B : Nat} {D : va_G} {T : Nat → ClassId} (F : FX l s0 b D T B) {X : Nat → Prop} (hX : ∀ o, o < 560 → ¬ X (B + o)) {N : Nat} {μ : Mem} {a0 : Nat} {a1 : Nat} {a2 : Int32} {a3 : Int32} {r : Mem × Int32} (k0 : IsWy a0) (k1 : IsSt a1) (h : fX9_minutesBySettling N μ a0 a1 a2 a3 = some r) : gMet l yX9_minutesBySettling cX9_minutesBySettling 4 (some .int) rmX9_minutesBySettling [.ref (B + a0), .ref (B + a1), .int a2, .int a3] (gWC s0 D T B μ) (KC s0 X) (some (.int r.2)) (gWC s0 D T B r.1) (gA B X) 0 0 := by
  refine gI_of RX9 (by decide +kernel) rfl (Nat.le_of_ble_eq_true rfl) ?_
  intro p e s m args below meth c ls Q hx hb hlocks hml hown hts hW hk hl hS hend
  have hC := FX_C F hk hx hb hown hts
  have hA := gA_all hX
  have hl : lv_has ls 4 [(0, .ref (B + a0)), (1, .ref (B + a1)), (2, .int a2), (3, .int a3)] := hl
  unfold fX9_minutesBySettling at h
  refine lv_aload_n hx hb dX9_minutesBySettling_0 rfl (lv_at hl 0 rfl) ?_
  refine lv_aload_n hx hb dX9_minutesBySettling_1 rfl (lv_at hl 1 rfl) ?_
  obtain ⟨r1, hcall, h⟩ := bd_out h
  refine g0_callV (As := [.ref (B + a1)]) hC hml hS hW (KC_at hk hS F.2.2.2.2) KC_blind (metX9_weighMinutes F hX k0 k1 hcall) ml_X9_30 (gw_recv hC hW k0.1 (k0.2.1 (gfm s0) T B (μ a0)) rfl) ⟨rfl, rfl, (Nat.le_of_ble_eq_true rfl), (Nat.le_of_ble_eq_true rfl)⟩ rfl hl.1 rfl (Nat.le_of_ble_eq_true rfl) dX9_minutesBySettling_2 ⟨(Nat.le_of_ble_eq_true rfl), (Nat.le_of_ble_eq_true rfl)⟩ (fun H locs hW hS => ?_)
  refine lv_aload_n hx hb dX9_minutesBySettling_5 rfl (lv_at hl 0 rfl) ?_
  refine lv_iload_n hx hb dX9_minutesBySettling_6 rfl (lv_at hl 2 rfl) ?_
  refine lv_aload_n hx hb dX9_minutesBySettling_7 rfl (lv_at hl 1 rfl) ?_
  refine gw_get (v := .int (r1 a1 0)) hC hW fl_X9_34.1 k1.1 (k1.2.1 (gfm s0) T B (r1 a1)) rfl dX9_minutesBySettling_8 ?_
  obtain ⟨r2, hcall, h⟩ := bd_out h
  refine g0_callV (As := [.int a2, .int (r1 a1 0)]) hC hml hS hW (KC_at hk hS F.2.2.2.2) KC_blind (metX9_settleFrom F hX k0 hcall) ml_X9_40 (gw_recv hC hW k0.1 (k0.2.1 (gfm s0) T B (r1 a0)) rfl) ⟨rfl, rfl, (Nat.le_of_ble_eq_true rfl), (Nat.le_of_ble_eq_true rfl)⟩ rfl hl.1 rfl (Nat.le_of_ble_eq_true rfl) dX9_minutesBySettling_11 ⟨(Nat.le_of_ble_eq_true rfl), (Nat.le_of_ble_eq_true rfl)⟩ (fun H locs hW hS => ?_)
  refine lv_aload_n hx hb dX9_minutesBySettling_14 rfl (lv_at hl 0 rfl) ?_
  refine gw_get (v := .ref (B + (a0 + 16))) hC hW fl_X9_23 k0.1 (k0.2.1 (gfm s0) T B (r2 a0)) rfl dX9_minutesBySettling_15 ?_
  refine lv_iload_n hx hb dX9_minutesBySettling_18 rfl (lv_at hl 3 rfl) ?_
  obtain ⟨v3, e4, hi5, h⟩ := ag_o h
  refine gq_iald hC hW k0.2.2.2.2.2.1.1 (k0.2.2.2.2.2.1.2 (gfm s0) T B (r2 (a0 + 16))) (t0 := 0) rfl e4 hi5 dX9_minutesBySettling_19 ?_
  refine lv_ldc (v := 1000000) hx hb hown (hts _ kc_X9_47) dX9_minutesBySettling_20 ?_
  obtain ⟨j7, hj9, h⟩ := jn1_o h
  have J8 : ∀ (y6 : Int32), j7 y6 = some r → ∀ (H : Heap) (locs : List Loc) (ls : Array Slot), gWC s0 D T B r2 H → va_S (gA B X) s.heap H locs → lv_has ls 4 [] → W p l e rmX9_minutesBySettling s m args below meth c H locs 0 0 Q (F0 m 38 ls [.int y6]) := by
    clear h hW hS hl
    intro y6 h H locs ls hW hS hl
    replace h := (hj9 y6).symm.trans h
    cases h
    exact hend dX9_minutesBySettling_38 hW hS (Nat.le_of_ble_eq_true rfl) (Nat.le_of_ble_eq_true rfl)
  refine lv_icmp_lt (tgt := 29) hx hb dX9_minutesBySettling_22 (by decide) (fun c10 => ?_) (fun c10 => ?_)
  · replace h := ite_t c10 h
    refine lv_aload_n hx hb dX9_minutesBySettling_29 rfl (lv_at hl 0 rfl) ?_
    refine gw_get (v := .ref (B + (a0 + 16))) hC hW fl_X9_23 k0.1 (k0.2.1 (gfm s0) T B (r2 a0)) rfl dX9_minutesBySettling_30 ?_
    refine lv_iload_n hx hb dX9_minutesBySettling_33 rfl (lv_at hl 3 rfl) ?_
    obtain ⟨v11, e12, hi13, h⟩ := ag_o h
    refine gq_iald hC hW k0.2.2.2.2.2.1.1 (k0.2.2.2.2.2.1.2 (gfm s0) T B (r2 (a0 + 16))) (t0 := 0) rfl e12 hi13 dX9_minutesBySettling_34 ?_
    refine lv_bipush (v := 8) hx hb dX9_minutesBySettling_35 (by decide) ?_
    refine lv_idiv hx hb dX9_minutesBySettling_37 (by decide) ?_
    exact J8 _ h _ _ _ hW hS (lv_sub hl [] rfl)
  · replace h := ite_f c10 h
    refine lv_iconst (v := (-1)) hx hb dX9_minutesBySettling_25 (by decide) ?_
    refine lv_goto (tgt := 38) hx hb dX9_minutesBySettling_26 (by decide) ?_
    exact J8 _ h _ _ _ hW hS (lv_sub hl [] rfl)

theorem dX9_shortenOver_0 : decode cX9_shortenOver 0 = .ok (.iconst 0, 1) := by decide +kernel
theorem dX9_shortenOver_1 : decode cX9_shortenOver 1 = .ok (.istore_n 3, 1) := by decide +kernel
theorem dX9_shortenOver_2 : decode cX9_shortenOver 2 = .ok (.iload_n 3, 1) := by decide +kernel
theorem dX9_shortenOver_3 : decode cX9_shortenOver 3 = .ok (.iload_n 2, 1) := by decide +kernel
theorem dX9_shortenOver_4 : decode cX9_shortenOver 4 = .ok (.if_icmp .ge 63, 3) := by decide +kernel
theorem dX9_shortenOver_7 : decode cX9_shortenOver 7 = .ok (.iconst 0, 1) := by decide +kernel
theorem dX9_shortenOver_8 : decode cX9_shortenOver 8 = .ok (.istore 4, 2) := by decide +kernel
theorem dX9_shortenOver_10 : decode cX9_shortenOver 10 = .ok (.iload 4, 2) := by decide +kernel
theorem dX9_shortenOver_12 : decode cX9_shortenOver 12 = .ok (.iload_n 2, 1) := by decide +kernel
theorem dX9_shortenOver_13 : decode cX9_shortenOver 13 = .ok (.if_icmp .ge 48, 3) := by decide +kernel
theorem dX9_shortenOver_16 : decode cX9_shortenOver 16 = .ok (.aload_n 0, 1) := by decide +kernel
theorem dX9_shortenOver_17 : decode cX9_shortenOver 17 = .ok (.getfield 20, 3) := by decide +kernel
theorem dX9_shortenOver_20 : decode cX9_shortenOver 20 = .ok (.iload_n 3, 1) := by decide +kernel
theorem dX9_shortenOver_21 : decode cX9_shortenOver 21 = .ok (.aaload, 1) := by decide +kernel
theorem dX9_shortenOver_22 : decode cX9_shortenOver 22 = .ok (.iload 4, 2) := by decide +kernel
theorem dX9_shortenOver_24 : decode cX9_shortenOver 24 = .ok (.aload_n 0, 1) := by decide +kernel
theorem dX9_shortenOver_25 : decode cX9_shortenOver 25 = .ok (.getfield 20, 3) := by decide +kernel
theorem dX9_shortenOver_28 : decode cX9_shortenOver 28 = .ok (.iload_n 3, 1) := by decide +kernel
theorem dX9_shortenOver_29 : decode cX9_shortenOver 29 = .ok (.aaload, 1) := by decide +kernel
theorem dX9_shortenOver_30 : decode cX9_shortenOver 30 = .ok (.iload 4, 2) := by decide +kernel
theorem dX9_shortenOver_32 : decode cX9_shortenOver 32 = .ok (.iaload, 1) := by decide +kernel
theorem dX9_shortenOver_33 : decode cX9_shortenOver 33 = .ok (.aload_n 0, 1) := by decide +kernel
theorem dX9_shortenOver_34 : decode cX9_shortenOver 34 = .ok (.getfield 20, 3) := by decide +kernel
theorem dX9_shortenOver_37 : decode cX9_shortenOver 37 = .ok (.iload_n 3, 1) := by decide +kernel
theorem dX9_shortenOver_38 : decode cX9_shortenOver 38 = .ok (.aaload, 1) := by decide +kernel
theorem dX9_shortenOver_39 : decode cX9_shortenOver 39 = .ok (.iload_n 1, 1) := by decide +kernel
theorem dX9_shortenOver_40 : decode cX9_shortenOver 40 = .ok (.iaload, 1) := by decide +kernel
theorem dX9_shortenOver_41 : decode cX9_shortenOver 41 = .ok (.aload_n 0, 1) := by decide +kernel
theorem dX9_shortenOver_42 : decode cX9_shortenOver 42 = .ok (.getfield 20, 3) := by decide +kernel
theorem dX9_shortenOver_45 : decode cX9_shortenOver 45 = .ok (.iload_n 1, 1) := by decide +kernel
theorem dX9_shortenOver_46 : decode cX9_shortenOver 46 = .ok (.aaload, 1) := by decide +kernel
theorem dX9_shortenOver_47 : decode cX9_shortenOver 47 = .ok (.iload 4, 2) := by decide +kernel
theorem dX9_shortenOver_49 : decode cX9_shortenOver 49 = .ok (.iaload, 1) := by decide +kernel
theorem dX9_shortenOver_50 : decode cX9_shortenOver 50 = .ok (.iadd, 1) := by decide +kernel
theorem dX9_shortenOver_51 : decode cX9_shortenOver 51 = .ok (.invokestatic 65, 3) := by decide +kernel
theorem dX9_shortenOver_54 : decode cX9_shortenOver 54 = .ok (.iastore, 1) := by decide +kernel
theorem dX9_shortenOver_55 : decode cX9_shortenOver 55 = .ok (.iinc 4 1, 3) := by decide +kernel
theorem dX9_shortenOver_58 : decode cX9_shortenOver 58 = .ok (.goto (-48), 3) := by decide +kernel
theorem dX9_shortenOver_61 : decode cX9_shortenOver 61 = .ok (.iinc 3 1, 3) := by decide +kernel
theorem dX9_shortenOver_64 : decode cX9_shortenOver 64 = .ok (.goto (-62), 3) := by decide +kernel
theorem dX9_shortenOver_67 : decode cX9_shortenOver 67 = .ok (.return_, 1) := by decide +kernel
abbrev rmX9_shortenOver : Room := { frames := 2, cells := 0, slots := 0, locals := 60 }
set_option maxHeartbeats 4000000 in
set_option maxRecDepth 100000 in
theorem metX9_shortenOver {l : Launch} {s0 : State} {b B : Nat} {D : va_G} {T : Nat → ClassId} (F : FX l s0 b D T B) {X : Nat → Prop} (hX : ∀ o, o < 560 → ¬ X (B + o)) {N : Nat} {μ : Mem} {a0 : Nat} {a1 : Int32} {a2 : Int32} {r : Mem} (k0 : IsWy a0) (h : fX9_shortenOver N μ a0 a1 a2 = some r) : gMet l yX9_shortenOver cX9_shortenOver 5 none rmX9_shortenOver [.ref (B + a0), .int a1, .int a2] (gWC s0 D T B μ) (KC s0 X) none (gWC s0 D T B r) (gA B X) 0 0 := by
  refine gV_of RX9 (by decide +kernel) rfl (Nat.le_of_ble_eq_true rfl) ?_
  intro p e s m args below meth c ls Q hx hb hlocks hml hown hts hW hk hl hS hend
  have hC := FX_C F hk hx hb hown hts
  have hA := gA_all hX
  have hl : lv_has ls 5 [(0, .ref (B + a0)), (1, .int a1), (2, .int a2)] := hl
  unfold fX9_shortenOver at h
  refine lv_iconst (v := 0) hx hb dX9_shortenOver_0 (by decide) ?_
  refine lv_istore_n (lv' := [(3, .int 0), (0, .ref (B + a0)), (1, .int a1), (2, .int a2)]) hx hb dX9_shortenOver_1 rfl hl (by decide) rfl (fun ls hl => ?_)
  refine fix2_ind (fun (x1 : Int32) (μ2 : Mem) => ∀ (H : Heap) (locs : List Loc) (ls : Array Slot), gWC s0 D T B μ2 H → va_S (gA B X) s.heap H locs → lv_has ls 5 [(0, .ref (B + a0)), (1, .int a1), (2, .int a2), (3, .int x1)] → W p l e rmX9_shortenOver s m args below meth c H locs 0 0 Q (F0 m 2 ls [])) ?_ N _ _ h _ _ _ hW hS (lv_sub hl [1, 2, 3, 0] rfl)
  clear h hW hS hl
  intro self3 IH4 x1 μ2 h H locs ls hW hS hl
  refine lv_iload_n hx hb dX9_shortenOver_2 rfl (lv_at hl 3 rfl) ?_
  refine lv_iload_n hx hb dX9_shortenOver_3 rfl (lv_at hl 2 rfl) ?_
  refine lv_icmp_ge (tgt := 67) hx hb dX9_shortenOver_4 (by decide) (fun c5 => ?_) (fun c5 => ?_)
  · replace h := ite_t c5 h
    cases h
    exact hend dX9_shortenOver_67 hW hS (Nat.le_of_ble_eq_true rfl) (Nat.le_of_ble_eq_true rfl)
  · replace h := ite_f c5 h
    refine lv_iconst (v := 0) hx hb dX9_shortenOver_7 (by decide) ?_
    refine lv_istore (lv' := [(4, .int 0), (0, .ref (B + a0)), (1, .int a1), (2, .int a2), (3, .int x1)]) hx hb dX9_shortenOver_8 hl (by decide) rfl (fun ls hl => ?_)
    refine fix2_ind (fun (x6 : Int32) (μ7 : Mem) => ∀ (H : Heap) (locs : List Loc) (ls : Array Slot), gWC s0 D T B μ7 H → va_S (gA B X) s.heap H locs → lv_has ls 5 [(0, .ref (B + a0)), (1, .int a1), (2, .int a2), (3, .int x1), (4, .int x6)] → W p l e rmX9_shortenOver s m args below meth c H locs 0 0 Q (F0 m 10 ls [])) ?_ N _ _ h _ _ _ hW hS (lv_sub hl [1, 2, 3, 4, 0] rfl)
    clear h hW hS hl
    intro self8 IH9 x6 μ7 h H locs ls hW hS hl
    refine lv_iload hx hb dX9_shortenOver_10 (lv_at hl 4 rfl) ?_
    refine lv_iload_n hx hb dX9_shortenOver_12 rfl (lv_at hl 2 rfl) ?_
    refine lv_icmp_ge (tgt := 61) hx hb dX9_shortenOver_13 (by decide) (fun c10 => ?_) (fun c10 => ?_)
    · replace h := ite_t c10 h
      obtain ⟨v11, e12, h⟩ := lt_out h
      refine lv_iinc (v := v11) (lv' := [(3, .int v11), (0, .ref (B + a0)), (1, .int a1), (2, .int a2), (4, .int x6)]) hx hb dX9_shortenOver_61 hl (k := 3) rfl (by rw [e12]; rfl) (by decide) rfl (fun ls hl => ?_)
      refine lv_goto (tgt := 2) hx hb dX9_shortenOver_64 (by decide) ?_
      exact IH4 _ _ h _ _ _ hW hS (lv_sub hl [1, 2, 3, 0] rfl)
    · replace h := ite_f c10 h
      refine lv_aload_n hx hb dX9_shortenOver_16 rfl (lv_at hl 0 rfl) ?_
      refine gw_get (v := .ref (B + (a0 + 9))) hC hW fl_X9_20 k0.1 (k0.2.1 (gfm s0) T B (μ7 a0)) rfl dX9_shortenOver_17 ?_
      refine lv_iload_n hx hb dX9_shortenOver_20 rfl (lv_at hl 3 rfl) ?_
      obtain ⟨q13, e14, hq15, hi16, h⟩ := ar_o h
      refine gq_aald hC hW k0.2.2.2.2.1.1 (k0.2.2.2.2.1.2.1 (gfm s0) T B (μ7 (a0 + 9))) (t0 := 3) rfl rfl e14 hi16 dX9_shortenOver_21 ?_
      refine lv_iload hx hb dX9_shortenOver_22 (lv_at hl 4 rfl) ?_
      refine lv_aload_n hx hb dX9_shortenOver_24 rfl (lv_at hl 0 rfl) ?_
      refine gw_get (v := .ref (B + (a0 + 9))) hC hW fl_X9_20 k0.1 (k0.2.1 (gfm s0) T B (μ7 a0)) rfl dX9_shortenOver_25 ?_
      refine lv_iload_n hx hb dX9_shortenOver_28 rfl (lv_at hl 3 rfl) ?_
      obtain ⟨q17, e18, hq19, hi20, h⟩ := ar_o h
      refine gq_aald hC hW k0.2.2.2.2.1.1 (k0.2.2.2.2.1.2.1 (gfm s0) T B (μ7 (a0 + 9))) (t0 := 3) rfl rfl e18 hi20 dX9_shortenOver_29 ?_
      refine lv_iload hx hb dX9_shortenOver_30 (lv_at hl 4 rfl) ?_
      obtain ⟨v21, e22, hi23, h⟩ := ag_o h
      refine gq_iald hC hW (k0.2.2.2.2.1.2.2 q17 hq19).1 ((k0.2.2.2.2.1.2.2 q17 hq19).2 (gfm s0) T B (μ7 ((a0 + 9) + 1 + 1 * q17))) (t0 := 0) rfl e22 hi23 dX9_shortenOver_32 ?_
      refine lv_aload_n hx hb dX9_shortenOver_33 rfl (lv_at hl 0 rfl) ?_
      refine gw_get (v := .ref (B + (a0 + 9))) hC hW fl_X9_20 k0.1 (k0.2.1 (gfm s0) T B (μ7 a0)) rfl dX9_shortenOver_34 ?_
      refine lv_iload_n hx hb dX9_shortenOver_37 rfl (lv_at hl 3 rfl) ?_
      obtain ⟨q24, e25, hq26, hi27, h⟩ := ar_o h
      refine gq_aald hC hW k0.2.2.2.2.1.1 (k0.2.2.2.2.1.2.1 (gfm s0) T B (μ7 (a0 + 9))) (t0 := 3) rfl rfl e25 hi27 dX9_shortenOver_38 ?_
      refine lv_iload_n hx hb dX9_shortenOver_39 rfl (lv_at hl 1 rfl) ?_
      obtain ⟨v28, e29, hi30, h⟩ := ag_o h
      refine gq_iald hC hW (k0.2.2.2.2.1.2.2 q24 hq26).1 ((k0.2.2.2.2.1.2.2 q24 hq26).2 (gfm s0) T B (μ7 ((a0 + 9) + 1 + 1 * q24))) (t0 := 0) rfl e29 hi30 dX9_shortenOver_40 ?_
      refine lv_aload_n hx hb dX9_shortenOver_41 rfl (lv_at hl 0 rfl) ?_
      refine gw_get (v := .ref (B + (a0 + 9))) hC hW fl_X9_20 k0.1 (k0.2.1 (gfm s0) T B (μ7 a0)) rfl dX9_shortenOver_42 ?_
      refine lv_iload_n hx hb dX9_shortenOver_45 rfl (lv_at hl 1 rfl) ?_
      obtain ⟨q31, e32, hq33, hi34, h⟩ := ar_o h
      refine gq_aald hC hW k0.2.2.2.2.1.1 (k0.2.2.2.2.1.2.1 (gfm s0) T B (μ7 (a0 + 9))) (t0 := 3) rfl rfl e32 hi34 dX9_shortenOver_46 ?_
      refine lv_iload hx hb dX9_shortenOver_47 (lv_at hl 4 rfl) ?_
      obtain ⟨v35, e36, hi37, h⟩ := ag_o h
      refine gq_iald hC hW (k0.2.2.2.2.1.2.2 q31 hq33).1 ((k0.2.2.2.2.1.2.2 q31 hq33).2 (gfm s0) T B (μ7 ((a0 + 9) + 1 + 1 * q31))) (t0 := 0) rfl e36 hi37 dX9_shortenOver_49 ?_
      refine lv_iadd hx hb dX9_shortenOver_50 ?_
      refine gw_min hC (hml.trans hl.1.symm) lm_X9_65 lb_min.1 lb_min.2.1 lb_min.2.2 (Nat.le_of_ble_eq_true rfl) (Nat.le_of_ble_eq_true rfl) (Nat.le_of_ble_eq_true rfl) (Nat.le_of_ble_eq_true rfl) dX9_shortenOver_51 ?_
      obtain ⟨μ38, e39, hi40, h⟩ := aw_o h
      refine gq_iast hC hS hW hA (k0.2.2.2.2.1.2.2 q13 hq15).1 ((k0.2.2.2.2.1.2.2 q13 hq15).2 (gfm s0) T B) (t0 := 0) rfl e39 hi40 dX9_shortenOver_54 (fun H locs hW hS => ?_)
      obtain ⟨v41, e42, h⟩ := lt_out h
      refine lv_iinc (v := v41) (lv' := [(4, .int v41), (0, .ref (B + a0)), (1, .int a1), (2, .int a2), (3, .int x1)]) hx hb dX9_shortenOver_55 hl (k := 4) rfl (by rw [e42]; rfl) (by decide) rfl (fun ls hl => ?_)
      refine lv_goto (tgt := 10) hx hb dX9_shortenOver_58 (by decide) ?_
      exact IH9 _ _ h _ _ _ hW hS (lv_sub hl [1, 2, 3, 4, 0] rfl)

theorem dX9_fillTable_0 : decode cX9_fillTable 0 = .ok (.iconst 0, 1) := by decide +kernel
theorem dX9_fillTable_1 : decode cX9_fillTable 1 = .ok (.istore_n 2, 1) := by decide +kernel
theorem dX9_fillTable_2 : decode cX9_fillTable 2 = .ok (.iload_n 2, 1) := by decide +kernel
theorem dX9_fillTable_3 : decode cX9_fillTable 3 = .ok (.aload_n 1, 1) := by decide +kernel
theorem dX9_fillTable_4 : decode cX9_fillTable 4 = .ok (.getfield 34, 3) := by decide +kernel
theorem dX9_fillTable_7 : decode cX9_fillTable 7 = .ok (.if_icmp .ge 64, 3) := by decide +kernel
theorem dX9_fillTable_10 : decode cX9_fillTable 10 = .ok (.iconst 0, 1) := by decide +kernel
theorem dX9_fillTable_11 : decode cX9_fillTable 11 = .ok (.istore_n 3, 1) := by decide +kernel
theorem dX9_fillTable_12 : decode cX9_fillTable 12 = .ok (.iload_n 3, 1) := by decide +kernel
theorem dX9_fillTable_13 : decode cX9_fillTable 13 = .ok (.aload_n 1, 1) := by decide +kernel
theorem dX9_fillTable_14 : decode cX9_fillTable 14 = .ok (.getfield 34, 3) := by decide +kernel
theorem dX9_fillTable_17 : decode cX9_fillTable 17 = .ok (.if_icmp .ge 39, 3) := by decide +kernel
theorem dX9_fillTable_20 : decode cX9_fillTable 20 = .ok (.aload_n 0, 1) := by decide +kernel
theorem dX9_fillTable_21 : decode cX9_fillTable 21 = .ok (.getfield 20, 3) := by decide +kernel
theorem dX9_fillTable_24 : decode cX9_fillTable 24 = .ok (.iload_n 2, 1) := by decide +kernel
theorem dX9_fillTable_25 : decode cX9_fillTable 25 = .ok (.aaload, 1) := by decide +kernel
theorem dX9_fillTable_26 : decode cX9_fillTable 26 = .ok (.iload_n 3, 1) := by decide +kernel
theorem dX9_fillTable_27 : decode cX9_fillTable 27 = .ok (.aload_n 1, 1) := by decide +kernel
theorem dX9_fillTable_28 : decode cX9_fillTable 28 = .ok (.iload_n 2, 1) := by decide +kernel
theorem dX9_fillTable_29 : decode cX9_fillTable 29 = .ok (.iload_n 3, 1) := by decide +kernel
theorem dX9_fillTable_30 : decode cX9_fillTable 30 = .ok (.invokevirtual 55, 3) := by decide +kernel
theorem dX9_fillTable_33 : decode cX9_fillTable 33 = .ok (.ifCond .eq 14, 3) := by decide +kernel
theorem dX9_fillTable_36 : decode cX9_fillTable 36 = .ok (.aload_n 1, 1) := by decide +kernel
theorem dX9_fillTable_37 : decode cX9_fillTable 37 = .ok (.getfield 59, 3) := by decide +kernel
theorem dX9_fillTable_40 : decode cX9_fillTable 40 = .ok (.iload_n 2, 1) := by decide +kernel
theorem dX9_fillTable_41 : decode cX9_fillTable 41 = .ok (.aaload, 1) := by decide +kernel
theorem dX9_fillTable_42 : decode cX9_fillTable 42 = .ok (.iload_n 3, 1) := by decide +kernel
theorem dX9_fillTable_43 : decode cX9_fillTable 43 = .ok (.iaload, 1) := by decide +kernel
theorem dX9_fillTable_44 : decode cX9_fillTable 44 = .ok (.goto 5, 3) := by decide +kernel
theorem dX9_fillTable_47 : decode cX9_fillTable 47 = .ok (.ldc 47, 2) := by decide +kernel
theorem dX9_fillTable_49 : decode cX9_fillTable 49 = .ok (.iastore, 1) := by decide +kernel
theorem dX9_fillTable_50 : decode cX9_fillTable 50 = .ok (.iinc 3 1, 3) := by decide +kernel
theorem dX9_fillTable_53 : decode cX9_fillTable 53 = .ok (.goto (-41), 3) := by decide +kernel
theorem dX9_fillTable_56 : decode cX9_fillTable 56 = .ok (.aload_n 0, 1) := by decide +kernel
theorem dX9_fillTable_57 : decode cX9_fillTable 57 = .ok (.getfield 20, 3) := by decide +kernel
theorem dX9_fillTable_60 : decode cX9_fillTable 60 = .ok (.iload_n 2, 1) := by decide +kernel
theorem dX9_fillTable_61 : decode cX9_fillTable 61 = .ok (.aaload, 1) := by decide +kernel
theorem dX9_fillTable_62 : decode cX9_fillTable 62 = .ok (.iload_n 2, 1) := by decide +kernel
theorem dX9_fillTable_63 : decode cX9_fillTable 63 = .ok (.iconst 0, 1) := by decide +kernel
theorem dX9_fillTable_64 : decode cX9_fillTable 64 = .ok (.iastore, 1) := by decide +kernel
theorem dX9_fillTable_65 : decode cX9_fillTable 65 = .ok (.iinc 2 1, 3) := by decide +kernel
theorem dX9_fillTable_68 : decode cX9_fillTable 68 = .ok (.goto (-66), 3) := by decide +kernel
theorem dX9_fillTable_71 : decode cX9_fillTable 71 = .ok (.iconst 0, 1) := by decide +kernel
theorem dX9_fillTable_72 : decode cX9_fillTable 72 = .ok (.istore_n 2, 1) := by decide +kernel
theorem dX9_fillTable_73 : decode cX9_fillTable 73 = .ok (.iload_n 2, 1) := by decide +kernel
theorem dX9_fillTable_74 : decode cX9_fillTable 74 = .ok (.aload_n 1, 1) := by decide +kernel
theorem dX9_fillTable_75 : decode cX9_fillTable 75 = .ok (.getfield 34, 3) := by decide +kernel
theorem dX9_fillTable_78 : decode cX9_fillTable 78 = .ok (.if_icmp .ge 18, 3) := by decide +kernel
theorem dX9_fillTable_81 : decode cX9_fillTable 81 = .ok (.aload_n 0, 1) := by decide +kernel
theorem dX9_fillTable_82 : decode cX9_fillTable 82 = .ok (.iload_n 2, 1) := by decide +kernel
theorem dX9_fillTable_83 : decode cX9_fillTable 83 = .ok (.aload_n 1, 1) := by decide +kernel
theorem dX9_fillTable_84 : decode cX9_fillTable 84 = .ok (.getfield 34, 3) := by decide +kernel
theorem dX9_fillTable_87 : decode cX9_fillTable 87 = .ok (.invokevirtual 62, 3) := by decide +kernel
theorem dX9_fillTable_90 : decode cX9_fillTable 90 = .ok (.iinc 2 1, 3) := by decide +kernel
theorem dX9_fillTable_93 : decode cX9_fillTable 93 = .ok (.goto (-20), 3) := by decide +kernel
theorem dX9_fillTable_96 : decode cX9_fillTable 96 = .ok (.return_, 1) := by decide +kernel
abbrev rmX9_fillTable : Room := { frames := 3, cells := 0, slots := 0, locals := 84 }
set_option maxHeartbeats 4000000 in
set_option maxRecDepth 100000 in
theorem metX9_fillTable {l : Launch} {s0 : State} {b B : Nat} {D : va_G} {T : Nat → ClassId} (F : FX l s0 b D T B) {X : Nat → Prop} (hX : ∀ o, o < 560 → ¬ X (B + o)) {N : Nat} {μ : Mem} {a0 : Nat} {a1 : Nat} {r : Mem} (k0 : IsWy a0) (k1 : IsSt a1) (h : fX9_fillTable N μ a0 a1 = some r) : gMet l yX9_fillTable cX9_fillTable 4 none rmX9_fillTable [.ref (B + a0), .ref (B + a1)] (gWC s0 D T B μ) (KC s0 X) none (gWC s0 D T B r) (gA B X) 0 0 := by
  refine gV_of RX9 (by decide +kernel) rfl (Nat.le_of_ble_eq_true rfl) ?_
  intro p e s m args below meth c ls Q hx hb hlocks hml hown hts hW hk hl hS hend
  have hC := FX_C F hk hx hb hown hts
  have hA := gA_all hX
  have hl : lv_has ls 4 [(0, .ref (B + a0)), (1, .ref (B + a1))] := hl
  unfold fX9_fillTable at h
  refine lv_iconst (v := 0) hx hb dX9_fillTable_0 (by decide) ?_
  refine lv_istore_n (lv' := [(2, .int 0), (0, .ref (B + a0)), (1, .ref (B + a1))]) hx hb dX9_fillTable_1 rfl hl (by decide) rfl (fun ls hl => ?_)
  refine fix2_ind (fun (x1 : Int32) (μ2 : Mem) => ∀ (H : Heap) (locs : List Loc) (ls : Array Slot), gWC s0 D T B μ2 H → va_S (gA B X) s.heap H locs → lv_has ls 4 [(0, .ref (B + a0)), (1, .ref (B + a1)), (2, .int x1)] → W p l e rmX9_fillTable s m args below meth c H locs 0 0 Q (F0 m 2 ls [])) ?_ N _ _ h _ _ _ hW hS (lv_sub hl [1, 2, 0] rfl)
  clear h hW hS hl
  intro self3 IH4 x1 μ2 h H locs ls hW hS hl
  refine lv_iload_n hx hb dX9_fillTable_2 rfl (lv_at hl 2 rfl) ?_
  refine lv_aload_n hx hb dX9_fillTable_3 rfl (lv_at hl 1 rfl) ?_
  refine gw_get (v := .int (μ2 a1 0)) hC hW fl_X9_34.1 k1.1 (k1.2.1 (gfm s0) T B (μ2 a1)) rfl dX9_fillTable_4 ?_
  refine lv_icmp_ge (tgt := 71) hx hb dX9_fillTable_7 (by decide) (fun c5 => ?_) (fun c5 => ?_)
  · replace h := ite_t c5 h
    refine lv_iconst (v := 0) hx hb dX9_fillTable_71 (by decide) ?_
    refine lv_istore_n (lv' := [(2, .int 0), (0, .ref (B + a0)), (1, .ref (B + a1))]) hx hb dX9_fillTable_72 rfl hl (by decide) rfl (fun ls hl => ?_)
    refine fix2_ind (fun (x6 : Int32) (μ7 : Mem) => ∀ (H : Heap) (locs : List Loc) (ls : Array Slot), gWC s0 D T B μ7 H → va_S (gA B X) s.heap H locs → lv_has ls 4 [(0, .ref (B + a0)), (1, .ref (B + a1)), (2, .int x6)] → W p l e rmX9_fillTable s m args below meth c H locs 0 0 Q (F0 m 73 ls [])) ?_ N _ _ h _ _ _ hW hS (lv_sub hl [1, 2, 0] rfl)
    clear h hW hS hl
    intro self8 IH9 x6 μ7 h H locs ls hW hS hl
    refine lv_iload_n hx hb dX9_fillTable_73 rfl (lv_at hl 2 rfl) ?_
    refine lv_aload_n hx hb dX9_fillTable_74 rfl (lv_at hl 1 rfl) ?_
    refine gw_get (v := .int (μ7 a1 0)) hC hW fl_X9_34.1 k1.1 (k1.2.1 (gfm s0) T B (μ7 a1)) rfl dX9_fillTable_75 ?_
    refine lv_icmp_ge (tgt := 96) hx hb dX9_fillTable_78 (by decide) (fun c10 => ?_) (fun c10 => ?_)
    · replace h := ite_t c10 h
      cases h
      exact hend dX9_fillTable_96 hW hS (Nat.le_of_ble_eq_true rfl) (Nat.le_of_ble_eq_true rfl)
    · replace h := ite_f c10 h
      refine lv_aload_n hx hb dX9_fillTable_81 rfl (lv_at hl 0 rfl) ?_
      refine lv_iload_n hx hb dX9_fillTable_82 rfl (lv_at hl 2 rfl) ?_
      refine lv_aload_n hx hb dX9_fillTable_83 rfl (lv_at hl 1 rfl) ?_
      refine gw_get (v := .int (μ7 a1 0)) hC hW fl_X9_34.1 k1.1 (k1.2.1 (gfm s0) T B (μ7 a1)) rfl dX9_fillTable_84 ?_
      obtain ⟨r11, hcall, h⟩ := bd_out h
      refine g0_callV (As := [.int x6, .int (μ7 a1 0)]) hC hml hS hW (KC_at hk hS F.2.2.2.2) KC_blind (metX9_shortenOver F hX k0 hcall) ml_X9_62 (gw_recv hC hW k0.1 (k0.2.1 (gfm s0) T B (μ7 a0)) rfl) ⟨rfl, rfl, (Nat.le_of_ble_eq_true rfl), (Nat.le_of_ble_eq_true rfl)⟩ rfl hl.1 rfl (Nat.le_of_ble_eq_true rfl) dX9_fillTable_87 ⟨(Nat.le_of_ble_eq_true rfl), (Nat.le_of_ble_eq_true rfl)⟩ (fun H locs hW hS => ?_)
      obtain ⟨v12, e13, h⟩ := lt_out h
      refine lv_iinc (v := v12) (lv' := [(2, .int v12), (0, .ref (B + a0)), (1, .ref (B + a1))]) hx hb dX9_fillTable_90 hl (k := 2) rfl (by rw [e13]; rfl) (by decide) rfl (fun ls hl => ?_)
      refine lv_goto (tgt := 73) hx hb dX9_fillTable_93 (by decide) ?_
      exact IH9 _ _ h _ _ _ hW hS (lv_sub hl [1, 2, 0] rfl)
  · replace h := ite_f c5 h
    refine lv_iconst (v := 0) hx hb dX9_fillTable_10 (by decide) ?_
    refine lv_istore_n (lv' := [(3, .int 0), (0, .ref (B + a0)), (1, .ref (B + a1)), (2, .int x1)]) hx hb dX9_fillTable_11 rfl hl (by decide) rfl (fun ls hl => ?_)
    refine fix2_ind (fun (x14 : Int32) (μ15 : Mem) => ∀ (H : Heap) (locs : List Loc) (ls : Array Slot), gWC s0 D T B μ15 H → va_S (gA B X) s.heap H locs → lv_has ls 4 [(0, .ref (B + a0)), (1, .ref (B + a1)), (2, .int x1), (3, .int x14)] → W p l e rmX9_fillTable s m args below meth c H locs 0 0 Q (F0 m 12 ls [])) ?_ N _ _ h _ _ _ hW hS (lv_sub hl [1, 2, 3, 0] rfl)
    clear h hW hS hl
    intro self16 IH17 x14 μ15 h H locs ls hW hS hl
    refine lv_iload_n hx hb dX9_fillTable_12 rfl (lv_at hl 3 rfl) ?_
    refine lv_aload_n hx hb dX9_fillTable_13 rfl (lv_at hl 1 rfl) ?_
    refine gw_get (v := .int (μ15 a1 0)) hC hW fl_X9_34.1 k1.1 (k1.2.1 (gfm s0) T B (μ15 a1)) rfl dX9_fillTable_14 ?_
    refine lv_icmp_ge (tgt := 56) hx hb dX9_fillTable_17 (by decide) (fun c18 => ?_) (fun c18 => ?_)
    · replace h := ite_t c18 h
      refine lv_aload_n hx hb dX9_fillTable_56 rfl (lv_at hl 0 rfl) ?_
      refine gw_get (v := .ref (B + (a0 + 9))) hC hW fl_X9_20 k0.1 (k0.2.1 (gfm s0) T B (μ15 a0)) rfl dX9_fillTable_57 ?_
      refine lv_iload_n hx hb dX9_fillTable_60 rfl (lv_at hl 2 rfl) ?_
      obtain ⟨q19, e20, hq21, hi22, h⟩ := ar_o h
      refine gq_aald hC hW k0.2.2.2.2.1.1 (k0.2.2.2.2.1.2.1 (gfm s0) T B (μ15 (a0 + 9))) (t0 := 3) rfl rfl e20 hi22 dX9_fillTable_61 ?_
      refine lv_iload_n hx hb dX9_fillTable_62 rfl (lv_at hl 2 rfl) ?_
      refine lv_iconst (v := 0) hx hb dX9_fillTable_63 (by decide) ?_
      obtain ⟨μ23, e24, hi25, h⟩ := aw_o h
      refine gq_iast hC hS hW hA (k0.2.2.2.2.1.2.2 q19 hq21).1 ((k0.2.2.2.2.1.2.2 q19 hq21).2 (gfm s0) T B) (t0 := 0) rfl e24 hi25 dX9_fillTable_64 (fun H locs hW hS => ?_)
      obtain ⟨v26, e27, h⟩ := lt_out h
      refine lv_iinc (v := v26) (lv' := [(2, .int v26), (0, .ref (B + a0)), (1, .ref (B + a1)), (3, .int x14)]) hx hb dX9_fillTable_65 hl (k := 2) rfl (by rw [e27]; rfl) (by decide) rfl (fun ls hl => ?_)
      refine lv_goto (tgt := 2) hx hb dX9_fillTable_68 (by decide) ?_
      exact IH4 _ _ h _ _ _ hW hS (lv_sub hl [1, 2, 0] rfl)
    · replace h := ite_f c18 h
      refine lv_aload_n hx hb dX9_fillTable_20 rfl (lv_at hl 0 rfl) ?_
      refine gw_get (v := .ref (B + (a0 + 9))) hC hW fl_X9_20 k0.1 (k0.2.1 (gfm s0) T B (μ15 a0)) rfl dX9_fillTable_21 ?_
      refine lv_iload_n hx hb dX9_fillTable_24 rfl (lv_at hl 2 rfl) ?_
      obtain ⟨q28, e29, hq30, hi31, h⟩ := ar_o h
      refine gq_aald hC hW k0.2.2.2.2.1.1 (k0.2.2.2.2.1.2.1 (gfm s0) T B (μ15 (a0 + 9))) (t0 := 3) rfl rfl e29 hi31 dX9_fillTable_25 ?_
      refine lv_iload_n hx hb dX9_fillTable_26 rfl (lv_at hl 3 rfl) ?_
      refine lv_aload_n hx hb dX9_fillTable_27 rfl (lv_at hl 1 rfl) ?_
      refine lv_iload_n hx hb dX9_fillTable_28 rfl (lv_at hl 2 rfl) ?_
      refine lv_iload_n hx hb dX9_fillTable_29 rfl (lv_at hl 3 rfl) ?_
      obtain ⟨r32, hcall, h⟩ := bd_out h
      refine g0_callV (As := [.int x1, .int x14]) hC hml hS hW (KC_at hk hS F.2.2.2.2) KC_blind (metX8_joins F hX k1 hcall) ml_X9_55 (gw_recv hC hW k1.1 (k1.2.1 (gfm s0) T B (μ15 a1)) rfl) ⟨rfl, rfl, (Nat.le_of_ble_eq_true rfl), (Nat.le_of_ble_eq_true rfl)⟩ rfl hl.1 rfl (Nat.le_of_ble_eq_true rfl) dX9_fillTable_30 ⟨(Nat.le_of_ble_eq_true rfl), (Nat.le_of_ble_eq_true rfl)⟩ (fun H locs hW hS => ?_)
      obtain ⟨j34, hj36, h⟩ := jn1_o h
      have J35 : ∀ (y33 : Int32), j34 y33 = some r → ∀ (H : Heap) (locs : List Loc) (ls : Array Slot), gWC s0 D T B μ15 H → va_S (gA B X) s.heap H locs → lv_has ls 4 [(0, .ref (B + a0)), (1, .ref (B + a1)), (2, .int x1), (3, .int x14)] → W p l e rmX9_fillTable s m args below meth c H locs 0 0 Q (F0 m 49 ls [.int y33, .int x14, .ref (B + ((a0 + 9) + 1 + 1 * q28))]) := by
        clear h hW hS hl
        intro y33 h H locs ls hW hS hl
        replace h := (hj36 y33).symm.trans h
        obtain ⟨μ37, e38, hi39, h⟩ := aw_o h
        refine gq_iast hC hS hW hA (k0.2.2.2.2.1.2.2 q28 hq30).1 ((k0.2.2.2.2.1.2.2 q28 hq30).2 (gfm s0) T B) (t0 := 0) rfl e38 hi39 dX9_fillTable_49 (fun H locs hW hS => ?_)
        obtain ⟨v40, e41, h⟩ := lt_out h
        refine lv_iinc (v := v40) (lv' := [(3, .int v40), (0, .ref (B + a0)), (1, .ref (B + a1)), (2, .int x1)]) hx hb dX9_fillTable_50 hl (k := 3) rfl (by rw [e41]; rfl) (by decide) rfl (fun ls hl => ?_)
        refine lv_goto (tgt := 12) hx hb dX9_fillTable_53 (by decide) ?_
        exact IH17 _ _ h _ _ _ hW hS (lv_sub hl [1, 2, 3, 0] rfl)
      refine gw_if_eqZ (tgt := 47) hx hb dX9_fillTable_33 (by decide) (fun c42 => ?_) (fun c42 => ?_)
      · replace h := cond_f c42 h
        refine lv_ldc (v := 1000000) hx hb hown (hts _ kc_X9_47) dX9_fillTable_47 ?_
        exact J35 _ h _ _ _ hW hS (lv_sub hl [0, 1, 2, 3] rfl)
      · replace h := cond_t c42 h
        refine lv_aload_n hx hb dX9_fillTable_36 rfl (lv_at hl 1 rfl) ?_
        refine gw_get (v := .ref (B + (a1 + 2))) hC hW fl_X9_59 k1.1 (k1.2.1 (gfm s0) T B (μ15 a1)) rfl dX9_fillTable_37 ?_
        refine lv_iload_n hx hb dX9_fillTable_40 rfl (lv_at hl 2 rfl) ?_
        obtain ⟨q43, e44, hq45, hi46, h⟩ := ar_o h
        refine gq_aald hC hW k1.2.2.2.1.1 (k1.2.2.2.1.2.1 (gfm s0) T B (μ15 (a1 + 2))) (t0 := 3) rfl rfl e44 hi46 dX9_fillTable_41 ?_
        refine lv_iload_n hx hb dX9_fillTable_42 rfl (lv_at hl 3 rfl) ?_
        obtain ⟨v47, e48, hi49, h⟩ := ag_o h
        refine gq_iald hC hW (k1.2.2.2.1.2.2 q43 hq45).1 ((k1.2.2.2.1.2.2 q43 hq45).2 (gfm s0) T B (μ15 ((a1 + 2) + 1 + 1 * q43))) (t0 := 0) rfl e48 hi49 dX9_fillTable_43 ?_
        refine lv_goto (tgt := 49) hx hb dX9_fillTable_44 (by decide) ?_
        exact J35 _ h _ _ _ hW hS (lv_sub hl [0, 1, 2, 3] rfl)

theorem dX9_minutesInTable_0 : decode cX9_minutesInTable 0 = .ok (.aload_n 0, 1) := by decide +kernel
theorem dX9_minutesInTable_1 : decode cX9_minutesInTable 1 = .ok (.getfield 20, 3) := by decide +kernel
theorem dX9_minutesInTable_4 : decode cX9_minutesInTable 4 = .ok (.iload_n 1, 1) := by decide +kernel
theorem dX9_minutesInTable_5 : decode cX9_minutesInTable 5 = .ok (.aaload, 1) := by decide +kernel
theorem dX9_minutesInTable_6 : decode cX9_minutesInTable 6 = .ok (.iload_n 2, 1) := by decide +kernel
theorem dX9_minutesInTable_7 : decode cX9_minutesInTable 7 = .ok (.iaload, 1) := by decide +kernel
theorem dX9_minutesInTable_8 : decode cX9_minutesInTable 8 = .ok (.ldc 47, 2) := by decide +kernel
theorem dX9_minutesInTable_10 : decode cX9_minutesInTable 10 = .ok (.if_icmp .lt 7, 3) := by decide +kernel
theorem dX9_minutesInTable_13 : decode cX9_minutesInTable 13 = .ok (.iconst (-1), 1) := by decide +kernel
theorem dX9_minutesInTable_14 : decode cX9_minutesInTable 14 = .ok (.goto 11, 3) := by decide +kernel
theorem dX9_minutesInTable_17 : decode cX9_minutesInTable 17 = .ok (.aload_n 0, 1) := by decide +kernel
theorem dX9_minutesInTable_18 : decode cX9_minutesInTable 18 = .ok (.getfield 20, 3) := by decide +kernel
theorem dX9_minutesInTable_21 : decode cX9_minutesInTable 21 = .ok (.iload_n 1, 1) := by decide +kernel
theorem dX9_minutesInTable_22 : decode cX9_minutesInTable 22 = .ok (.aaload, 1) := by decide +kernel
theorem dX9_minutesInTable_23 : decode cX9_minutesInTable 23 = .ok (.iload_n 2, 1) := by decide +kernel
theorem dX9_minutesInTable_24 : decode cX9_minutesInTable 24 = .ok (.iaload, 1) := by decide +kernel
theorem dX9_minutesInTable_25 : decode cX9_minutesInTable 25 = .ok (.ireturn, 1) := by decide +kernel
abbrev rmX9_minutesInTable : Room := { frames := 2, cells := 0, slots := 0, locals := 60 }
set_option maxHeartbeats 4000000 in
set_option maxRecDepth 100000 in
theorem metX9_minutesInTable {l : Launch} {s0 : State} {b B : Nat} {D : va_G} {T : Nat → ClassId} (F : FX l s0 b D T B) {X : Nat → Prop} (hX : ∀ o, o < 560 → ¬ X (B + o)) {N : Nat} {μ : Mem} {a0 : Nat} {a1 : Int32} {a2 : Int32} {r : Int32} (k0 : IsWy a0) (h : fX9_minutesInTable N μ a0 a1 a2 = some r) : gMet l yX9_minutesInTable cX9_minutesInTable 3 (some .int) rmX9_minutesInTable [.ref (B + a0), .int a1, .int a2] (gWC s0 D T B μ) (KC s0 X) (some (.int r)) (gWC s0 D T B μ) (gA B X) 0 0 := by
  refine gI_of RX9 (by decide +kernel) rfl (Nat.le_of_ble_eq_true rfl) ?_
  intro p e s m args below meth c ls Q hx hb hlocks hml hown hts hW hk hl hS hend
  have hC := FX_C F hk hx hb hown hts
  have hA := gA_all hX
  have hl : lv_has ls 3 [(0, .ref (B + a0)), (1, .int a1), (2, .int a2)] := hl
  unfold fX9_minutesInTable at h
  refine lv_aload_n hx hb dX9_minutesInTable_0 rfl (lv_at hl 0 rfl) ?_
  refine gw_get (v := .ref (B + (a0 + 9))) hC hW fl_X9_20 k0.1 (k0.2.1 (gfm s0) T B (μ a0)) rfl dX9_minutesInTable_1 ?_
  refine lv_iload_n hx hb dX9_minutesInTable_4 rfl (lv_at hl 1 rfl) ?_
  obtain ⟨q1, e2, hq3, hi4, h⟩ := ar_o h
  refine gq_aald hC hW k0.2.2.2.2.1.1 (k0.2.2.2.2.1.2.1 (gfm s0) T B (μ (a0 + 9))) (t0 := 3) rfl rfl e2 hi4 dX9_minutesInTable_5 ?_
  refine lv_iload_n hx hb dX9_minutesInTable_6 rfl (lv_at hl 2 rfl) ?_
  obtain ⟨v5, e6, hi7, h⟩ := ag_o h
  refine gq_iald hC hW (k0.2.2.2.2.1.2.2 q1 hq3).1 ((k0.2.2.2.2.1.2.2 q1 hq3).2 (gfm s0) T B (μ ((a0 + 9) + 1 + 1 * q1))) (t0 := 0) rfl e6 hi7 dX9_minutesInTable_7 ?_
  refine lv_ldc (v := 1000000) hx hb hown (hts _ kc_X9_47) dX9_minutesInTable_8 ?_
  obtain ⟨j9, hj11, h⟩ := jn1_o h
  have J10 : ∀ (y8 : Int32), j9 y8 = some r → ∀ (H : Heap) (locs : List Loc) (ls : Array Slot), gWC s0 D T B μ H → va_S (gA B X) s.heap H locs → lv_has ls 3 [] → W p l e rmX9_minutesInTable s m args below meth c H locs 0 0 Q (F0 m 25 ls [.int y8]) := by
    clear h hW hS hl
    intro y8 h H locs ls hW hS hl
    replace h := (hj11 y8).symm.trans h
    cases h
    exact hend dX9_minutesInTable_25 hW hS (Nat.le_of_ble_eq_true rfl) (Nat.le_of_ble_eq_true rfl)
  refine lv_icmp_lt (tgt := 17) hx hb dX9_minutesInTable_10 (by decide) (fun c12 => ?_) (fun c12 => ?_)
  · replace h := ite_t c12 h
    refine lv_aload_n hx hb dX9_minutesInTable_17 rfl (lv_at hl 0 rfl) ?_
    refine gw_get (v := .ref (B + (a0 + 9))) hC hW fl_X9_20 k0.1 (k0.2.1 (gfm s0) T B (μ a0)) rfl dX9_minutesInTable_18 ?_
    refine lv_iload_n hx hb dX9_minutesInTable_21 rfl (lv_at hl 1 rfl) ?_
    obtain ⟨q13, e14, hq15, hi16, h⟩ := ar_o h
    refine gq_aald hC hW k0.2.2.2.2.1.1 (k0.2.2.2.2.1.2.1 (gfm s0) T B (μ (a0 + 9))) (t0 := 3) rfl rfl e14 hi16 dX9_minutesInTable_22 ?_
    refine lv_iload_n hx hb dX9_minutesInTable_23 rfl (lv_at hl 2 rfl) ?_
    obtain ⟨v17, e18, hi19, h⟩ := ag_o h
    refine gq_iald hC hW (k0.2.2.2.2.1.2.2 q13 hq15).1 ((k0.2.2.2.2.1.2.2 q13 hq15).2 (gfm s0) T B (μ ((a0 + 9) + 1 + 1 * q13))) (t0 := 0) rfl e18 hi19 dX9_minutesInTable_24 ?_
    exact J10 _ h _ _ _ hW hS (lv_sub hl [] rfl)
  · replace h := ite_f c12 h
    refine lv_iconst (v := (-1)) hx hb dX9_minutesInTable_13 (by decide) ?_
    refine lv_goto (tgt := 25) hx hb dX9_minutesInTable_14 (by decide) ?_
    exact J10 _ h _ _ _ hW hS (lv_sub hl [] rfl)

theorem dX9_weighPassed_0 : decode cX9_weighPassed 0 = .ok (.iconst 0, 1) := by decide +kernel
theorem dX9_weighPassed_1 : decode cX9_weighPassed 1 = .ok (.istore_n 3, 1) := by decide +kernel
theorem dX9_weighPassed_2 : decode cX9_weighPassed 2 = .ok (.iload_n 3, 1) := by decide +kernel
theorem dX9_weighPassed_3 : decode cX9_weighPassed 3 = .ok (.aload_n 1, 1) := by decide +kernel
theorem dX9_weighPassed_4 : decode cX9_weighPassed 4 = .ok (.getfield 34, 3) := by decide +kernel
theorem dX9_weighPassed_7 : decode cX9_weighPassed 7 = .ok (.if_icmp .ge 64, 3) := by decide +kernel
theorem dX9_weighPassed_10 : decode cX9_weighPassed 10 = .ok (.iconst 0, 1) := by decide +kernel
theorem dX9_weighPassed_11 : decode cX9_weighPassed 11 = .ok (.istore 4, 2) := by decide +kernel
theorem dX9_weighPassed_13 : decode cX9_weighPassed 13 = .ok (.iload 4, 2) := by decide +kernel
theorem dX9_weighPassed_15 : decode cX9_weighPassed 15 = .ok (.aload_n 1, 1) := by decide +kernel
theorem dX9_weighPassed_16 : decode cX9_weighPassed 16 = .ok (.getfield 34, 3) := by decide +kernel
theorem dX9_weighPassed_19 : decode cX9_weighPassed 19 = .ok (.if_icmp .ge 46, 3) := by decide +kernel
theorem dX9_weighPassed_22 : decode cX9_weighPassed 22 = .ok (.aload_n 0, 1) := by decide +kernel
theorem dX9_weighPassed_23 : decode cX9_weighPassed 23 = .ok (.getfield 17, 3) := by decide +kernel
theorem dX9_weighPassed_26 : decode cX9_weighPassed 26 = .ok (.iload_n 3, 1) := by decide +kernel
theorem dX9_weighPassed_27 : decode cX9_weighPassed 27 = .ok (.aaload, 1) := by decide +kernel
theorem dX9_weighPassed_28 : decode cX9_weighPassed 28 = .ok (.iload 4, 2) := by decide +kernel
theorem dX9_weighPassed_30 : decode cX9_weighPassed 30 = .ok (.aload_n 1, 1) := by decide +kernel
theorem dX9_weighPassed_31 : decode cX9_weighPassed 31 = .ok (.iload_n 3, 1) := by decide +kernel
theorem dX9_weighPassed_32 : decode cX9_weighPassed 32 = .ok (.iload 4, 2) := by decide +kernel
theorem dX9_weighPassed_34 : decode cX9_weighPassed 34 = .ok (.invokevirtual 55, 3) := by decide +kernel
theorem dX9_weighPassed_37 : decode cX9_weighPassed 37 = .ok (.ifCond .eq 19, 3) := by decide +kernel
theorem dX9_weighPassed_40 : decode cX9_weighPassed 40 = .ok (.aload_n 1, 1) := by decide +kernel
theorem dX9_weighPassed_41 : decode cX9_weighPassed 41 = .ok (.getfield 90, 3) := by decide +kernel
theorem dX9_weighPassed_44 : decode cX9_weighPassed 44 = .ok (.iload_n 3, 1) := by decide +kernel
theorem dX9_weighPassed_45 : decode cX9_weighPassed 45 = .ok (.aaload, 1) := by decide +kernel
theorem dX9_weighPassed_46 : decode cX9_weighPassed 46 = .ok (.iload 4, 2) := by decide +kernel
theorem dX9_weighPassed_48 : decode cX9_weighPassed 48 = .ok (.iaload, 1) := by decide +kernel
theorem dX9_weighPassed_49 : decode cX9_weighPassed 49 = .ok (.iload_n 2, 1) := by decide +kernel
theorem dX9_weighPassed_50 : decode cX9_weighPassed 50 = .ok (.invokestatic 93, 3) := by decide +kernel
theorem dX9_weighPassed_53 : decode cX9_weighPassed 53 = .ok (.goto 5, 3) := by decide +kernel
theorem dX9_weighPassed_56 : decode cX9_weighPassed 56 = .ok (.ldc 47, 2) := by decide +kernel
theorem dX9_weighPassed_58 : decode cX9_weighPassed 58 = .ok (.iastore, 1) := by decide +kernel
theorem dX9_weighPassed_59 : decode cX9_weighPassed 59 = .ok (.iinc 4 1, 3) := by decide +kernel
theorem dX9_weighPassed_62 : decode cX9_weighPassed 62 = .ok (.goto (-49), 3) := by decide +kernel
theorem dX9_weighPassed_65 : decode cX9_weighPassed 65 = .ok (.iinc 3 1, 3) := by decide +kernel
theorem dX9_weighPassed_68 : decode cX9_weighPassed 68 = .ok (.goto (-66), 3) := by decide +kernel
theorem dX9_weighPassed_71 : decode cX9_weighPassed 71 = .ok (.return_, 1) := by decide +kernel
abbrev rmX9_weighPassed : Room := { frames := 3, cells := 0, slots := 0, locals := 82 }
set_option maxHeartbeats 4000000 in
set_option maxRecDepth 100000 in
theorem metX9_weighPassed {l : Launch} {s0 : State} {b B : Nat} {D : va_G} {T : Nat → ClassId} (F : FX l s0 b D T B) {X : Nat → Prop} (hX : ∀ o, o < 560 → ¬ X (B + o)) {N : Nat} {μ : Mem} {a0 : Nat} {a1 : Nat} {a2 : Int32} {r : Mem} (k0 : IsWy a0) (k1 : IsSt a1) (h : fX9_weighPassed N μ a0 a1 a2 = some r) : gMet l yX9_weighPassed cX9_weighPassed 5 none rmX9_weighPassed [.ref (B + a0), .ref (B + a1), .int a2] (gWC s0 D T B μ) (KC s0 X) none (gWC s0 D T B r) (gA B X) 0 0 := by
  refine gV_of RX9 (by decide +kernel) rfl (Nat.le_of_ble_eq_true rfl) ?_
  intro p e s m args below meth c ls Q hx hb hlocks hml hown hts hW hk hl hS hend
  have hC := FX_C F hk hx hb hown hts
  have hA := gA_all hX
  have hl : lv_has ls 5 [(0, .ref (B + a0)), (1, .ref (B + a1)), (2, .int a2)] := hl
  unfold fX9_weighPassed at h
  refine lv_iconst (v := 0) hx hb dX9_weighPassed_0 (by decide) ?_
  refine lv_istore_n (lv' := [(3, .int 0), (0, .ref (B + a0)), (1, .ref (B + a1)), (2, .int a2)]) hx hb dX9_weighPassed_1 rfl hl (by decide) rfl (fun ls hl => ?_)
  refine fix2_ind (fun (x1 : Int32) (μ2 : Mem) => ∀ (H : Heap) (locs : List Loc) (ls : Array Slot), gWC s0 D T B μ2 H → va_S (gA B X) s.heap H locs → lv_has ls 5 [(0, .ref (B + a0)), (1, .ref (B + a1)), (2, .int a2), (3, .int x1)] → W p l e rmX9_weighPassed s m args below meth c H locs 0 0 Q (F0 m 2 ls [])) ?_ N _ _ h _ _ _ hW hS (lv_sub hl [1, 2, 3, 0] rfl)
  clear h hW hS hl
  intro self3 IH4 x1 μ2 h H locs ls hW hS hl
  refine lv_iload_n hx hb dX9_weighPassed_2 rfl (lv_at hl 3 rfl) ?_
  refine lv_aload_n hx hb dX9_weighPassed_3 rfl (lv_at hl 1 rfl) ?_
  refine gw_get (v := .int (μ2 a1 0)) hC hW fl_X9_34.1 k1.1 (k1.2.1 (gfm s0) T B (μ2 a1)) rfl dX9_weighPassed_4 ?_
  refine lv_icmp_ge (tgt := 71) hx hb dX9_weighPassed_7 (by decide) (fun c5 => ?_) (fun c5 => ?_)
  · replace h := ite_t c5 h
    cases h
    exact hend dX9_weighPassed_71 hW hS (Nat.le_of_ble_eq_true rfl) (Nat.le_of_ble_eq_true rfl)
  · replace h := ite_f c5 h
    refine lv_iconst (v := 0) hx hb dX9_weighPassed_10 (by decide) ?_
    refine lv_istore (lv' := [(4, .int 0), (0, .ref (B + a0)), (1, .ref (B + a1)), (2, .int a2), (3, .int x1)]) hx hb dX9_weighPassed_11 hl (by decide) rfl (fun ls hl => ?_)
    refine fix2_ind (fun (x6 : Int32) (μ7 : Mem) => ∀ (H : Heap) (locs : List Loc) (ls : Array Slot), gWC s0 D T B μ7 H → va_S (gA B X) s.heap H locs → lv_has ls 5 [(0, .ref (B + a0)), (1, .ref (B + a1)), (2, .int a2), (3, .int x1), (4, .int x6)] → W p l e rmX9_weighPassed s m args below meth c H locs 0 0 Q (F0 m 13 ls [])) ?_ N _ _ h _ _ _ hW hS (lv_sub hl [1, 2, 3, 4, 0] rfl)
    clear h hW hS hl
    intro self8 IH9 x6 μ7 h H locs ls hW hS hl
    refine lv_iload hx hb dX9_weighPassed_13 (lv_at hl 4 rfl) ?_
    refine lv_aload_n hx hb dX9_weighPassed_15 rfl (lv_at hl 1 rfl) ?_
    refine gw_get (v := .int (μ7 a1 0)) hC hW fl_X9_34.1 k1.1 (k1.2.1 (gfm s0) T B (μ7 a1)) rfl dX9_weighPassed_16 ?_
    refine lv_icmp_ge (tgt := 65) hx hb dX9_weighPassed_19 (by decide) (fun c10 => ?_) (fun c10 => ?_)
    · replace h := ite_t c10 h
      obtain ⟨v11, e12, h⟩ := lt_out h
      refine lv_iinc (v := v11) (lv' := [(3, .int v11), (0, .ref (B + a0)), (1, .ref (B + a1)), (2, .int a2), (4, .int x6)]) hx hb dX9_weighPassed_65 hl (k := 3) rfl (by rw [e12]; rfl) (by decide) rfl (fun ls hl => ?_)
      refine lv_goto (tgt := 2) hx hb dX9_weighPassed_68 (by decide) ?_
      exact IH4 _ _ h _ _ _ hW hS (lv_sub hl [1, 2, 3, 0] rfl)
    · replace h := ite_f c10 h
      refine lv_aload_n hx hb dX9_weighPassed_22 rfl (lv_at hl 0 rfl) ?_
      refine gw_get (v := .ref (B + (a0 + 2))) hC hW fl_X9_17 k0.1 (k0.2.1 (gfm s0) T B (μ7 a0)) rfl dX9_weighPassed_23 ?_
      refine lv_iload_n hx hb dX9_weighPassed_26 rfl (lv_at hl 3 rfl) ?_
      obtain ⟨q13, e14, hq15, hi16, h⟩ := ar_o h
      refine gq_aald hC hW k0.2.2.2.1.1 (k0.2.2.2.1.2.1 (gfm s0) T B (μ7 (a0 + 2))) (t0 := 3) rfl rfl e14 hi16 dX9_weighPassed_27 ?_
      refine lv_iload hx hb dX9_weighPassed_28 (lv_at hl 4 rfl) ?_
      refine lv_aload_n hx hb dX9_weighPassed_30 rfl (lv_at hl 1 rfl) ?_
      refine lv_iload_n hx hb dX9_weighPassed_31 rfl (lv_at hl 3 rfl) ?_
      refine lv_iload hx hb dX9_weighPassed_32 (lv_at hl 4 rfl) ?_
      obtain ⟨r17, hcall, h⟩ := bd_out h
      refine g0_callV (As := [.int x1, .int x6]) hC hml hS hW (KC_at hk hS F.2.2.2.2) KC_blind (metX8_joins F hX k1 hcall) ml_X9_55 (gw_recv hC hW k1.1 (k1.2.1 (gfm s0) T B (μ7 a1)) rfl) ⟨rfl, rfl, (Nat.le_of_ble_eq_true rfl), (Nat.le_of_ble_eq_true rfl)⟩ rfl hl.1 rfl (Nat.le_of_ble_eq_true rfl) dX9_weighPassed_34 ⟨(Nat.le_of_ble_eq_true rfl), (Nat.le_of_ble_eq_true rfl)⟩ (fun H locs hW hS => ?_)
      obtain ⟨j19, hj21, h⟩ := jn1_o h
      have J20 : ∀ (y18 : Int32), j19 y18 = some r → ∀ (H : Heap) (locs : List Loc) (ls : Array Slot), gWC s0 D T B μ7 H → va_S (gA B X) s.heap H locs → lv_has ls 5 [(0, .ref (B + a0)), (1, .ref (B + a1)), (2, .int a2), (3, .int x1), (4, .int x6)] → W p l e rmX9_weighPassed s m args below meth c H locs 0 0 Q (F0 m 58 ls [.int y18, .int x6, .ref (B + ((a0 + 2) + 1 + 1 * q13))]) := by
        clear h hW hS hl
        intro y18 h H locs ls hW hS hl
        replace h := (hj21 y18).symm.trans h
        obtain ⟨μ22, e23, hi24, h⟩ := aw_o h
        refine gq_iast hC hS hW hA (k0.2.2.2.1.2.2 q13 hq15).1 ((k0.2.2.2.1.2.2 q13 hq15).2 (gfm s0) T B) (t0 := 0) rfl e23 hi24 dX9_weighPassed_58 (fun H locs hW hS => ?_)
        obtain ⟨v25, e26, h⟩ := lt_out h
        refine lv_iinc (v := v25) (lv' := [(4, .int v25), (0, .ref (B + a0)), (1, .ref (B + a1)), (2, .int a2), (3, .int x1)]) hx hb dX9_weighPassed_59 hl (k := 4) rfl (by rw [e26]; rfl) (by decide) rfl (fun ls hl => ?_)
        refine lv_goto (tgt := 13) hx hb dX9_weighPassed_62 (by decide) ?_
        exact IH9 _ _ h _ _ _ hW hS (lv_sub hl [1, 2, 3, 4, 0] rfl)
      refine gw_if_eqZ (tgt := 56) hx hb dX9_weighPassed_37 (by decide) (fun c27 => ?_) (fun c27 => ?_)
      · replace h := cond_f c27 h
        refine lv_ldc (v := 1000000) hx hb hown (hts _ kc_X9_47) dX9_weighPassed_56 ?_
        exact J20 _ h _ _ _ hW hS (lv_sub hl [0, 1, 2, 3, 4] rfl)
      · replace h := cond_t c27 h
        refine lv_aload_n hx hb dX9_weighPassed_40 rfl (lv_at hl 1 rfl) ?_
        refine gw_get (v := .ref (B + (a1 + 9))) hC hW fl_X9_90 k1.1 (k1.2.1 (gfm s0) T B (μ7 a1)) rfl dX9_weighPassed_41 ?_
        refine lv_iload_n hx hb dX9_weighPassed_44 rfl (lv_at hl 3 rfl) ?_
        obtain ⟨q28, e29, hq30, hi31, h⟩ := ar_o h
        refine gq_aald hC hW k1.2.2.2.2.1.1 (k1.2.2.2.2.1.2.1 (gfm s0) T B (μ7 (a1 + 9))) (t0 := 3) rfl rfl e29 hi31 dX9_weighPassed_45 ?_
        refine lv_iload hx hb dX9_weighPassed_46 (lv_at hl 4 rfl) ?_
        obtain ⟨v32, e33, hi34, h⟩ := ag_o h
        refine gq_iald hC hW (k1.2.2.2.2.1.2.2 q28 hq30).1 ((k1.2.2.2.2.1.2.2 q28 hq30).2 (gfm s0) T B (μ7 ((a1 + 9) + 1 + 1 * q28))) (t0 := 0) rfl e33 hi34 dX9_weighPassed_48 ?_
        refine lv_iload_n hx hb dX9_weighPassed_49 rfl (lv_at hl 2 rfl) ?_
        obtain ⟨r35, hcall, h⟩ := bd_out h
        refine g0_callSN (As := [.int v32, .int a2]) hC hml hS hW (KC_at hk hS F.2.2.2.2) KC_blind (metX10_passedBy F hX  hcall) nw_X9_93 (FX_N F hk _ nl_X9_93) ⟨rfl, rfl, (Nat.le_of_ble_eq_true rfl), (Nat.le_of_ble_eq_true rfl)⟩ rfl hl.1 rfl (Nat.le_of_ble_eq_true rfl) dX9_weighPassed_50 ⟨(Nat.le_of_ble_eq_true rfl), (Nat.le_of_ble_eq_true rfl)⟩ (fun H locs hW hS => ?_)
        refine lv_goto (tgt := 58) hx hb dX9_weighPassed_53 (by decide) ?_
        exact J20 _ h _ _ _ hW hS (lv_sub hl [0, 1, 2, 3, 4] rfl)

theorem dX9_passedBySettling_0 : decode cX9_passedBySettling 0 = .ok (.aload_n 0, 1) := by decide +kernel
theorem dX9_passedBySettling_1 : decode cX9_passedBySettling 1 = .ok (.aload_n 1, 1) := by decide +kernel
theorem dX9_passedBySettling_2 : decode cX9_passedBySettling 2 = .ok (.aload_n 2, 1) := by decide +kernel
theorem dX9_passedBySettling_3 : decode cX9_passedBySettling 3 = .ok (.getfield 70, 3) := by decide +kernel
theorem dX9_passedBySettling_6 : decode cX9_passedBySettling 6 = .ok (.invokevirtual 75, 3) := by decide +kernel
theorem dX9_passedBySettling_9 : decode cX9_passedBySettling 9 = .ok (.aload_n 0, 1) := by decide +kernel
theorem dX9_passedBySettling_10 : decode cX9_passedBySettling 10 = .ok (.aload_n 2, 1) := by decide +kernel
theorem dX9_passedBySettling_11 : decode cX9_passedBySettling 11 = .ok (.getfield 79, 3) := by decide +kernel
theorem dX9_passedBySettling_14 : decode cX9_passedBySettling 14 = .ok (.aload_n 1, 1) := by decide +kernel
theorem dX9_passedBySettling_15 : decode cX9_passedBySettling 15 = .ok (.getfield 34, 3) := by decide +kernel
theorem dX9_passedBySettling_18 : decode cX9_passedBySettling 18 = .ok (.invokevirtual 40, 3) := by decide +kernel
theorem dX9_passedBySettling_21 : decode cX9_passedBySettling 21 = .ok (.aload_n 0, 1) := by decide +kernel
theorem dX9_passedBySettling_22 : decode cX9_passedBySettling 22 = .ok (.getfield 23, 3) := by decide +kernel
theorem dX9_passedBySettling_25 : decode cX9_passedBySettling 25 = .ok (.iload_n 3, 1) := by decide +kernel
theorem dX9_passedBySettling_26 : decode cX9_passedBySettling 26 = .ok (.iaload, 1) := by decide +kernel
theorem dX9_passedBySettling_27 : decode cX9_passedBySettling 27 = .ok (.ldc 47, 2) := by decide +kernel
theorem dX9_passedBySettling_29 : decode cX9_passedBySettling 29 = .ok (.if_icmp .lt 7, 3) := by decide +kernel
theorem dX9_passedBySettling_32 : decode cX9_passedBySettling 32 = .ok (.iconst (-1), 1) := by decide +kernel
theorem dX9_passedBySettling_33 : decode cX9_passedBySettling 33 = .ok (.goto 9, 3) := by decide +kernel
theorem dX9_passedBySettling_36 : decode cX9_passedBySettling 36 = .ok (.aload_n 0, 1) := by decide +kernel
theorem dX9_passedBySettling_37 : decode cX9_passedBySettling 37 = .ok (.getfield 23, 3) := by decide +kernel
theorem dX9_passedBySettling_40 : decode cX9_passedBySettling 40 = .ok (.iload_n 3, 1) := by decide +kernel
theorem dX9_passedBySettling_41 : decode cX9_passedBySettling 41 = .ok (.iaload, 1) := by decide +kernel
theorem dX9_passedBySettling_42 : decode cX9_passedBySettling 42 = .ok (.ireturn, 1) := by decide +kernel
abbrev rmX9_passedBySettling : Room := { frames := 4, cells := 0, slots := 0, locals := 109 }
set_option maxHeartbeats 4000000 in
set_option maxRecDepth 100000 in
theorem metX9_passedBySettling {l : Launch} {s0 : State} {b B : Nat} {D : va_G} {T : Nat → ClassId} (F : FX l s0 b D T B) {X : Nat → Prop} (hX : ∀ o, o < 560 → ¬ X (B + o)) {N : Nat} {μ : Mem} {a0 : Nat} {a1 : Nat} {a2 : Nat} {a3 : Int32} {r : Mem × Int32} (k0 : IsWy a0) (k1 : IsSt a1) (k2 : IsEx a2) (h : fX9_passedBySettling N μ a0 a1 a2 a3 = some r) : gMet l yX9_passedBySettling cX9_passedBySettling 4 (some .int) rmX9_passedBySettling [.ref (B + a0), .ref (B + a1), .ref (B + a2), .int a3] (gWC s0 D T B μ) (KC s0 X) (some (.int r.2)) (gWC s0 D T B r.1) (gA B X) 0 0 := by
  refine gI_of RX9 (by decide +kernel) rfl (Nat.le_of_ble_eq_true rfl) ?_
  intro p e s m args below meth c ls Q hx hb hlocks hml hown hts hW hk hl hS hend
  have hC := FX_C F hk hx hb hown hts
  have hA := gA_all hX
  have hl : lv_has ls 4 [(0, .ref (B + a0)), (1, .ref (B + a1)), (2, .ref (B + a2)), (3, .int a3)] := hl
  unfold fX9_passedBySettling at h
  refine lv_aload_n hx hb dX9_passedBySettling_0 rfl (lv_at hl 0 rfl) ?_
  refine lv_aload_n hx hb dX9_passedBySettling_1 rfl (lv_at hl 1 rfl) ?_
  refine lv_aload_n hx hb dX9_passedBySettling_2 rfl (lv_at hl 2 rfl) ?_
  refine gw_get (v := .int (μ a2 1)) hC hW fl_X9_70.1 k2.1 (k2.2.1 (gfm s0) T B (μ a2)) rfl dX9_passedBySettling_3 ?_
  obtain ⟨r1, hcall, h⟩ := bd_out h
  refine g0_callV (As := [.ref (B + a1), .int (μ a2 1)]) hC hml hS hW (KC_at hk hS F.2.2.2.2) KC_blind (metX9_weighPassed F hX k0 k1 hcall) ml_X9_75 (gw_recv hC hW k0.1 (k0.2.1 (gfm s0) T B (μ a0)) rfl) ⟨rfl, rfl, (Nat.le_of_ble_eq_true rfl), (Nat.le_of_ble_eq_true rfl)⟩ rfl hl.1 rfl (Nat.le_of_ble_eq_true rfl) dX9_passedBySettling_6 ⟨(Nat.le_of_ble_eq_true rfl), (Nat.le_of_ble_eq_true rfl)⟩ (fun H locs hW hS => ?_)
  refine lv_aload_n hx hb dX9_passedBySettling_9 rfl (lv_at hl 0 rfl) ?_
  refine lv_aload_n hx hb dX9_passedBySettling_10 rfl (lv_at hl 2 rfl) ?_
  refine gw_get (v := .int (r1 a2 0)) hC hW fl_X9_79.1 k2.1 (k2.2.1 (gfm s0) T B (r1 a2)) rfl dX9_passedBySettling_11 ?_
  refine lv_aload_n hx hb dX9_passedBySettling_14 rfl (lv_at hl 1 rfl) ?_
  refine gw_get (v := .int (r1 a1 0)) hC hW fl_X9_34.1 k1.1 (k1.2.1 (gfm s0) T B (r1 a1)) rfl dX9_passedBySettling_15 ?_
  obtain ⟨r2, hcall, h⟩ := bd_out h
  refine g0_callV (As := [.int (r1 a2 0), .int (r1 a1 0)]) hC hml hS hW (KC_at hk hS F.2.2.2.2) KC_blind (metX9_settleFrom F hX k0 hcall) ml_X9_40 (gw_recv hC hW k0.1 (k0.2.1 (gfm s0) T B (r1 a0)) rfl) ⟨rfl, rfl, (Nat.le_of_ble_eq_true rfl), (Nat.le_of_ble_eq_true rfl)⟩ rfl hl.1 rfl (Nat.le_of_ble_eq_true rfl) dX9_passedBySettling_18 ⟨(Nat.le_of_ble_eq_true rfl), (Nat.le_of_ble_eq_true rfl)⟩ (fun H locs hW hS => ?_)
  refine lv_aload_n hx hb dX9_passedBySettling_21 rfl (lv_at hl 0 rfl) ?_
  refine gw_get (v := .ref (B + (a0 + 16))) hC hW fl_X9_23 k0.1 (k0.2.1 (gfm s0) T B (r2 a0)) rfl dX9_passedBySettling_22 ?_
  refine lv_iload_n hx hb dX9_passedBySettling_25 rfl (lv_at hl 3 rfl) ?_
  obtain ⟨v3, e4, hi5, h⟩ := ag_o h
  refine gq_iald hC hW k0.2.2.2.2.2.1.1 (k0.2.2.2.2.2.1.2 (gfm s0) T B (r2 (a0 + 16))) (t0 := 0) rfl e4 hi5 dX9_passedBySettling_26 ?_
  refine lv_ldc (v := 1000000) hx hb hown (hts _ kc_X9_47) dX9_passedBySettling_27 ?_
  obtain ⟨j7, hj9, h⟩ := jn1_o h
  have J8 : ∀ (y6 : Int32), j7 y6 = some r → ∀ (H : Heap) (locs : List Loc) (ls : Array Slot), gWC s0 D T B r2 H → va_S (gA B X) s.heap H locs → lv_has ls 4 [] → W p l e rmX9_passedBySettling s m args below meth c H locs 0 0 Q (F0 m 42 ls [.int y6]) := by
    clear h hW hS hl
    intro y6 h H locs ls hW hS hl
    replace h := (hj9 y6).symm.trans h
    cases h
    exact hend dX9_passedBySettling_42 hW hS (Nat.le_of_ble_eq_true rfl) (Nat.le_of_ble_eq_true rfl)
  refine lv_icmp_lt (tgt := 36) hx hb dX9_passedBySettling_29 (by decide) (fun c10 => ?_) (fun c10 => ?_)
  · replace h := ite_t c10 h
    refine lv_aload_n hx hb dX9_passedBySettling_36 rfl (lv_at hl 0 rfl) ?_
    refine gw_get (v := .ref (B + (a0 + 16))) hC hW fl_X9_23 k0.1 (k0.2.1 (gfm s0) T B (r2 a0)) rfl dX9_passedBySettling_37 ?_
    refine lv_iload_n hx hb dX9_passedBySettling_40 rfl (lv_at hl 3 rfl) ?_
    obtain ⟨v11, e12, hi13, h⟩ := ag_o h
    refine gq_iald hC hW k0.2.2.2.2.2.1.1 (k0.2.2.2.2.2.1.2 (gfm s0) T B (r2 (a0 + 16))) (t0 := 0) rfl e12 hi13 dX9_passedBySettling_41 ?_
    exact J8 _ h _ _ _ hW hS (lv_sub hl [] rfl)
  · replace h := ite_f c10 h
    refine lv_iconst (v := (-1)) hx hb dX9_passedBySettling_32 (by decide) ?_
    refine lv_goto (tgt := 42) hx hb dX9_passedBySettling_33 (by decide) ?_
    exact J8 _ h _ _ _ hW hS (lv_sub hl [] rfl)

theorem dX9_lookAtLegs_0 : decode cX9_lookAtLegs 0 = .ok (.iconst 0, 1) := by decide +kernel
theorem dX9_lookAtLegs_1 : decode cX9_lookAtLegs 1 = .ok (.istore_n 3, 1) := by decide +kernel
theorem dX9_lookAtLegs_2 : decode cX9_lookAtLegs 2 = .ok (.iconst 0, 1) := by decide +kernel
theorem dX9_lookAtLegs_3 : decode cX9_lookAtLegs 3 = .ok (.istore 4, 2) := by decide +kernel
theorem dX9_lookAtLegs_5 : decode cX9_lookAtLegs 5 = .ok (.iload 4, 2) := by decide +kernel
theorem dX9_lookAtLegs_7 : decode cX9_lookAtLegs 7 = .ok (.aload_n 1, 1) := by decide +kernel
theorem dX9_lookAtLegs_8 : decode cX9_lookAtLegs 8 = .ok (.getfield 34, 3) := by decide +kernel
theorem dX9_lookAtLegs_11 : decode cX9_lookAtLegs 11 = .ok (.if_icmp .ge 85, 3) := by decide +kernel
theorem dX9_lookAtLegs_14 : decode cX9_lookAtLegs 14 = .ok (.iconst 0, 1) := by decide +kernel
theorem dX9_lookAtLegs_15 : decode cX9_lookAtLegs 15 = .ok (.istore 5, 2) := by decide +kernel
theorem dX9_lookAtLegs_17 : decode cX9_lookAtLegs 17 = .ok (.iload 5, 2) := by decide +kernel
theorem dX9_lookAtLegs_19 : decode cX9_lookAtLegs 19 = .ok (.aload_n 1, 1) := by decide +kernel
theorem dX9_lookAtLegs_20 : decode cX9_lookAtLegs 20 = .ok (.getfield 34, 3) := by decide +kernel
theorem dX9_lookAtLegs_23 : decode cX9_lookAtLegs 23 = .ok (.if_icmp .ge 67, 3) := by decide +kernel
theorem dX9_lookAtLegs_26 : decode cX9_lookAtLegs 26 = .ok (.aload_n 0, 1) := by decide +kernel
theorem dX9_lookAtLegs_27 : decode cX9_lookAtLegs 27 = .ok (.getfield 23, 3) := by decide +kernel
theorem dX9_lookAtLegs_30 : decode cX9_lookAtLegs 30 = .ok (.iload 4, 2) := by decide +kernel
theorem dX9_lookAtLegs_32 : decode cX9_lookAtLegs 32 = .ok (.iaload, 1) := by decide +kernel
theorem dX9_lookAtLegs_33 : decode cX9_lookAtLegs 33 = .ok (.aload_n 1, 1) := by decide +kernel
theorem dX9_lookAtLegs_34 : decode cX9_lookAtLegs 34 = .ok (.getfield 90, 3) := by decide +kernel
theorem dX9_lookAtLegs_37 : decode cX9_lookAtLegs 37 = .ok (.iload 4, 2) := by decide +kernel
theorem dX9_lookAtLegs_39 : decode cX9_lookAtLegs 39 = .ok (.aaload, 1) := by decide +kernel
theorem dX9_lookAtLegs_40 : decode cX9_lookAtLegs 40 = .ok (.iload 5, 2) := by decide +kernel
theorem dX9_lookAtLegs_42 : decode cX9_lookAtLegs 42 = .ok (.iaload, 1) := by decide +kernel
theorem dX9_lookAtLegs_43 : decode cX9_lookAtLegs 43 = .ok (.iload_n 2, 1) := by decide +kernel
theorem dX9_lookAtLegs_44 : decode cX9_lookAtLegs 44 = .ok (.invokestatic 93, 3) := by decide +kernel
theorem dX9_lookAtLegs_47 : decode cX9_lookAtLegs 47 = .ok (.iadd, 1) := by decide +kernel
theorem dX9_lookAtLegs_48 : decode cX9_lookAtLegs 48 = .ok (.istore 6, 2) := by decide +kernel
theorem dX9_lookAtLegs_50 : decode cX9_lookAtLegs 50 = .ok (.aload_n 1, 1) := by decide +kernel
theorem dX9_lookAtLegs_51 : decode cX9_lookAtLegs 51 = .ok (.iload 4, 2) := by decide +kernel
theorem dX9_lookAtLegs_53 : decode cX9_lookAtLegs 53 = .ok (.iload 5, 2) := by decide +kernel
theorem dX9_lookAtLegs_55 : decode cX9_lookAtLegs 55 = .ok (.invokevirtual 55, 3) := by decide +kernel
theorem dX9_lookAtLegs_58 : decode cX9_lookAtLegs 58 = .ok (.ifCond .eq 26, 3) := by decide +kernel
theorem dX9_lookAtLegs_61 : decode cX9_lookAtLegs 61 = .ok (.iload 6, 2) := by decide +kernel
theorem dX9_lookAtLegs_63 : decode cX9_lookAtLegs 63 = .ok (.aload_n 0, 1) := by decide +kernel
theorem dX9_lookAtLegs_64 : decode cX9_lookAtLegs 64 = .ok (.getfield 23, 3) := by decide +kernel
theorem dX9_lookAtLegs_67 : decode cX9_lookAtLegs 67 = .ok (.iload 5, 2) := by decide +kernel
theorem dX9_lookAtLegs_69 : decode cX9_lookAtLegs 69 = .ok (.iaload, 1) := by decide +kernel
theorem dX9_lookAtLegs_70 : decode cX9_lookAtLegs 70 = .ok (.if_icmp .ge 14, 3) := by decide +kernel
theorem dX9_lookAtLegs_73 : decode cX9_lookAtLegs 73 = .ok (.aload_n 0, 1) := by decide +kernel
theorem dX9_lookAtLegs_74 : decode cX9_lookAtLegs 74 = .ok (.getfield 23, 3) := by decide +kernel
theorem dX9_lookAtLegs_77 : decode cX9_lookAtLegs 77 = .ok (.iload 5, 2) := by decide +kernel
theorem dX9_lookAtLegs_79 : decode cX9_lookAtLegs 79 = .ok (.iload 6, 2) := by decide +kernel
theorem dX9_lookAtLegs_81 : decode cX9_lookAtLegs 81 = .ok (.iastore, 1) := by decide +kernel
theorem dX9_lookAtLegs_82 : decode cX9_lookAtLegs 82 = .ok (.iconst 1, 1) := by decide +kernel
theorem dX9_lookAtLegs_83 : decode cX9_lookAtLegs 83 = .ok (.istore_n 3, 1) := by decide +kernel
theorem dX9_lookAtLegs_84 : decode cX9_lookAtLegs 84 = .ok (.iinc 5 1, 3) := by decide +kernel
theorem dX9_lookAtLegs_87 : decode cX9_lookAtLegs 87 = .ok (.goto (-70), 3) := by decide +kernel
theorem dX9_lookAtLegs_90 : decode cX9_lookAtLegs 90 = .ok (.iinc 4 1, 3) := by decide +kernel
theorem dX9_lookAtLegs_93 : decode cX9_lookAtLegs 93 = .ok (.goto (-88), 3) := by decide +kernel
theorem dX9_lookAtLegs_96 : decode cX9_lookAtLegs 96 = .ok (.iload_n 3, 1) := by decide +kernel
theorem dX9_lookAtLegs_97 : decode cX9_lookAtLegs 97 = .ok (.ireturn, 1) := by decide +kernel
abbrev rmX9_lookAtLegs : Room := { frames := 3, cells := 0, slots := 0, locals := 82 }
set_option maxHeartbeats 4000000 in
set_option maxRecDepth 100000 in
theorem metX9_lookAtLegs {l : Launch} {s0 : State} {b B : Nat} {D : va_G} {T : Nat → ClassId} (F : FX l s0 b D T B) {X : Nat → Prop} (hX : ∀ o, o < 560 → ¬ X (B + o)) {N : Nat} {μ : Mem} {a0 : Nat} {a1 : Nat} {a2 : Int32} {r : Mem × Bool} (k0 : IsWy a0) (k1 : IsSt a1) (h : fX9_lookAtLegs N μ a0 a1 a2 = some r) : gMet l yX9_lookAtLegs cX9_lookAtLegs 7 (some .boolean) rmX9_lookAtLegs [.ref (B + a0), .ref (B + a1), .int a2] (gWC s0 D T B μ) (KC s0 X) (some (.int (b2i r.2))) (gWC s0 D T B r.1) (gA B X) 0 0 := by
  refine gZ_of RX9 (by decide +kernel) rfl (Nat.le_of_ble_eq_true rfl) ?_
  intro p e s m args below meth c ls Q hx hb hlocks hml hown hts hW hk hl hS hend
  have hC := FX_C F hk hx hb hown hts
  have hA := gA_all hX
  have hl : lv_has ls 7 [(0, .ref (B + a0)), (1, .ref (B + a1)), (2, .int a2)] := hl
  unfold fX9_lookAtLegs at h
  refine lv_iconst (v := 0) hx hb dX9_lookAtLegs_0 (by decide) ?_
  refine lv_istore_n (lv' := [(3, .int 0), (0, .ref (B + a0)), (1, .ref (B + a1)), (2, .int a2)]) hx hb dX9_lookAtLegs_1 rfl hl (by decide) rfl (fun ls hl => ?_)
  refine lv_iconst (v := 0) hx hb dX9_lookAtLegs_2 (by decide) ?_
  refine lv_istore (lv' := [(4, .int 0), (3, .int 0), (0, .ref (B + a0)), (1, .ref (B + a1)), (2, .int a2)]) hx hb dX9_lookAtLegs_3 hl (by decide) rfl (fun ls hl => ?_)
  refine fix3_ind (fun (x1 : Bool) (x2 : Int32) (μ3 : Mem) => ∀ (H : Heap) (locs : List Loc) (ls : Array Slot), gWC s0 D T B μ3 H → va_S (gA B X) s.heap H locs → lv_has ls 7 [(0, .ref (B + a0)), (1, .ref (B + a1)), (2, .int a2), (3, .int (b2i x1)), (4, .int x2)] → W p l e rmX9_lookAtLegs s m args below meth c H locs 0 0 Q (F0 m 5 ls [])) ?_ N _ _ _ h _ _ _ hW hS (lv_sub hl [2, 3, 4, 1, 0] rfl)
  clear h hW hS hl
  intro self4 IH5 x1 x2 μ3 h H locs ls hW hS hl
  refine lv_iload hx hb dX9_lookAtLegs_5 (lv_at hl 4 rfl) ?_
  refine lv_aload_n hx hb dX9_lookAtLegs_7 rfl (lv_at hl 1 rfl) ?_
  refine gw_get (v := .int (μ3 a1 0)) hC hW fl_X9_34.1 k1.1 (k1.2.1 (gfm s0) T B (μ3 a1)) rfl dX9_lookAtLegs_8 ?_
  refine lv_icmp_ge (tgt := 96) hx hb dX9_lookAtLegs_11 (by decide) (fun c6 => ?_) (fun c6 => ?_)
  · replace h := ite_t c6 h
    refine lv_iload_n hx hb dX9_lookAtLegs_96 rfl (lv_at hl 3 rfl) ?_
    cases h
    exact hend dX9_lookAtLegs_97 hW hS (Nat.le_of_ble_eq_true rfl) (Nat.le_of_ble_eq_true rfl)
  · replace h := ite_f c6 h
    refine lv_iconst (v := 0) hx hb dX9_lookAtLegs_14 (by decide) ?_
    refine lv_istore (lv' := [(5, .int 0), (0, .ref (B + a0)), (1, .ref (B + a1)), (2, .int a2), (3, .int (b2i x1)), (4, .int x2)]) hx hb dX9_lookAtLegs_15 hl (by decide) rfl (fun ls hl => ?_)
    refine fix3_ind (fun (x7 : Bool) (x8 : Int32) (μ9 : Mem) => ∀ (H : Heap) (locs : List Loc) (ls : Array Slot), gWC s0 D T B μ9 H → va_S (gA B X) s.heap H locs → lv_has ls 7 [(0, .ref (B + a0)), (1, .ref (B + a1)), (2, .int a2), (3, .int (b2i x7)), (4, .int x2), (5, .int x8)] → W p l e rmX9_lookAtLegs s m args below meth c H locs 0 0 Q (F0 m 17 ls [])) ?_ N _ _ _ h _ _ _ hW hS (lv_sub hl [1, 2, 3, 4, 5, 0] rfl)
    clear h hW hS hl
    intro self10 IH11 x7 x8 μ9 h H locs ls hW hS hl
    refine lv_iload hx hb dX9_lookAtLegs_17 (lv_at hl 5 rfl) ?_
    refine lv_aload_n hx hb dX9_lookAtLegs_19 rfl (lv_at hl 1 rfl) ?_
    refine gw_get (v := .int (μ9 a1 0)) hC hW fl_X9_34.1 k1.1 (k1.2.1 (gfm s0) T B (μ9 a1)) rfl dX9_lookAtLegs_20 ?_
    refine lv_icmp_ge (tgt := 90) hx hb dX9_lookAtLegs_23 (by decide) (fun c12 => ?_) (fun c12 => ?_)
    · replace h := ite_t c12 h
      obtain ⟨v13, e14, h⟩ := lt_out h
      refine lv_iinc (v := v13) (lv' := [(4, .int v13), (0, .ref (B + a0)), (1, .ref (B + a1)), (2, .int a2), (3, .int (b2i x7)), (5, .int x8)]) hx hb dX9_lookAtLegs_90 hl (k := 4) rfl (by rw [e14]; rfl) (by decide) rfl (fun ls hl => ?_)
      refine lv_goto (tgt := 5) hx hb dX9_lookAtLegs_93 (by decide) ?_
      exact IH5 _ _ _ h _ _ _ hW hS (lv_sub hl [1, 2, 3, 4, 0] rfl)
    · replace h := ite_f c12 h
      refine lv_aload_n hx hb dX9_lookAtLegs_26 rfl (lv_at hl 0 rfl) ?_
      refine gw_get (v := .ref (B + (a0 + 16))) hC hW fl_X9_23 k0.1 (k0.2.1 (gfm s0) T B (μ9 a0)) rfl dX9_lookAtLegs_27 ?_
      refine lv_iload hx hb dX9_lookAtLegs_30 (lv_at hl 4 rfl) ?_
      obtain ⟨v15, e16, hi17, h⟩ := ag_o h
      refine gq_iald hC hW k0.2.2.2.2.2.1.1 (k0.2.2.2.2.2.1.2 (gfm s0) T B (μ9 (a0 + 16))) (t0 := 0) rfl e16 hi17 dX9_lookAtLegs_32 ?_
      refine lv_aload_n hx hb dX9_lookAtLegs_33 rfl (lv_at hl 1 rfl) ?_
      refine gw_get (v := .ref (B + (a1 + 9))) hC hW fl_X9_90 k1.1 (k1.2.1 (gfm s0) T B (μ9 a1)) rfl dX9_lookAtLegs_34 ?_
      refine lv_iload hx hb dX9_lookAtLegs_37 (lv_at hl 4 rfl) ?_
      obtain ⟨q18, e19, hq20, hi21, h⟩ := ar_o h
      refine gq_aald hC hW k1.2.2.2.2.1.1 (k1.2.2.2.2.1.2.1 (gfm s0) T B (μ9 (a1 + 9))) (t0 := 3) rfl rfl e19 hi21 dX9_lookAtLegs_39 ?_
      refine lv_iload hx hb dX9_lookAtLegs_40 (lv_at hl 5 rfl) ?_
      obtain ⟨v22, e23, hi24, h⟩ := ag_o h
      refine gq_iald hC hW (k1.2.2.2.2.1.2.2 q18 hq20).1 ((k1.2.2.2.2.1.2.2 q18 hq20).2 (gfm s0) T B (μ9 ((a1 + 9) + 1 + 1 * q18))) (t0 := 0) rfl e23 hi24 dX9_lookAtLegs_42 ?_
      refine lv_iload_n hx hb dX9_lookAtLegs_43 rfl (lv_at hl 2 rfl) ?_
      obtain ⟨r25, hcall, h⟩ := bd_out h
      refine g0_callSN (As := [.int v22, .int a2]) hC hml hS hW (KC_at hk hS F.2.2.2.2) KC_blind (metX10_passedBy F hX  hcall) nw_X9_93 (FX_N F hk _ nl_X9_93) ⟨rfl, rfl, (Nat.le_of_ble_eq_true rfl), (Nat.le_of_ble_eq_true rfl)⟩ rfl hl.1 rfl (Nat.le_of_ble_eq_true rfl) dX9_lookAtLegs_44 ⟨(Nat.le_of_ble_eq_true rfl), (Nat.le_of_ble_eq_true rfl)⟩ (fun H locs hW hS => ?_)
      refine lv_iadd hx hb dX9_lookAtLegs_47 ?_
      obtain ⟨v26, e27, h⟩ := lt_out h
      rw [← e27]
      refine lv_istore (lv' := [(6, .int v26), (0, .ref (B + a0)), (1, .ref (B + a1)), (2, .int a2), (3, .int (b2i x7)), (4, .int x2), (5, .int x8)]) hx hb dX9_lookAtLegs_48 hl (by decide) rfl (fun ls hl => ?_)
      refine lv_aload_n hx hb dX9_lookAtLegs_50 rfl (lv_at hl 2 rfl) ?_
      refine lv_iload hx hb dX9_lookAtLegs_51 (lv_at hl 5 rfl) ?_
      refine lv_iload hx hb dX9_lookAtLegs_53 (lv_at hl 6 rfl) ?_
      obtain ⟨r28, hcall, h⟩ := bd_out h
      refine g0_callV (As := [.int x2, .int x8]) hC hml hS hW (KC_at hk hS F.2.2.2.2) KC_blind (metX8_joins F hX k1 hcall) ml_X9_55 (gw_recv hC hW k1.1 (k1.2.1 (gfm s0) T B (μ9 a1)) rfl) ⟨rfl, rfl, (Nat.le_of_ble_eq_true rfl), (Nat.le_of_ble_eq_true rfl)⟩ rfl hl.1 rfl (Nat.le_of_ble_eq_true rfl) dX9_lookAtLegs_55 ⟨(Nat.le_of_ble_eq_true rfl), (Nat.le_of_ble_eq_true rfl)⟩ (fun H locs hW hS => ?_)
      obtain ⟨j31, hj33, h⟩ := jn2_o h
      have J32 : ∀ (y29 : Bool) (μ30 : Mem), j31 y29 μ30 = some r → ∀ (H : Heap) (locs : List Loc) (ls : Array Slot), gWC s0 D T B μ30 H → va_S (gA B X) s.heap H locs → lv_has ls 7 [(0, .ref (B + a0)), (1, .ref (B + a1)), (2, .int a2), (3, .int (b2i y29)), (4, .int x2), (5, .int x8)] → W p l e rmX9_lookAtLegs s m args below meth c H locs 0 0 Q (F0 m 84 ls []) := by
        clear h hW hS hl
        intro y29 μ30 h H locs ls hW hS hl
        replace h := (hj33 y29 μ30).symm.trans h
        obtain ⟨v34, e35, h⟩ := lt_out h
        refine lv_iinc (v := v34) (lv' := [(5, .int v34), (0, .ref (B + a0)), (1, .ref (B + a1)), (2, .int a2), (3, .int (b2i y29)), (4, .int x2)]) hx hb dX9_lookAtLegs_84 hl (k := 5) rfl (by rw [e35]; rfl) (by decide) rfl (fun ls hl => ?_)
        refine lv_goto (tgt := 17) hx hb dX9_lookAtLegs_87 (by decide) ?_
        exact IH11 _ _ _ h _ _ _ hW hS (lv_sub hl [1, 2, 3, 4, 5, 0] rfl)
      refine gw_if_eqZ (tgt := 84) hx hb dX9_lookAtLegs_58 (by decide) (fun c36 => ?_) (fun c36 => ?_)
      · replace h := cond_f c36 h
        exact J32 _ _ h _ _ _ hW hS (lv_sub hl [1, 2, 3, 4, 5, 6] rfl)
      · replace h := cond_t c36 h
        refine lv_iload hx hb dX9_lookAtLegs_61 (lv_at hl 0 rfl) ?_
        refine lv_aload_n hx hb dX9_lookAtLegs_63 rfl (lv_at hl 1 rfl) ?_
        refine gw_get (v := .ref (B + (a0 + 16))) hC hW fl_X9_23 k0.1 (k0.2.1 (gfm s0) T B (μ9 a0)) rfl dX9_lookAtLegs_64 ?_
        refine lv_iload hx hb dX9_lookAtLegs_67 (lv_at hl 6 rfl) ?_
        obtain ⟨v37, e38, hi39, h⟩ := ag_o h
        refine gq_iald hC hW k0.2.2.2.2.2.1.1 (k0.2.2.2.2.2.1.2 (gfm s0) T B (μ9 (a0 + 16))) (t0 := 0) rfl e38 hi39 dX9_lookAtLegs_69 ?_
        refine lv_icmp_ge (tgt := 84) hx hb dX9_lookAtLegs_70 (by decide) (fun c40 => ?_) (fun c40 => ?_)
        · replace h := ite_t c40 h
          exact J32 _ _ h _ _ _ hW hS (lv_sub hl [1, 2, 3, 4, 5, 6] rfl)
        · replace h := ite_f c40 h
          refine lv_aload_n hx hb dX9_lookAtLegs_73 rfl (lv_at hl 1 rfl) ?_
          refine gw_get (v := .ref (B + (a0 + 16))) hC hW fl_X9_23 k0.1 (k0.2.1 (gfm s0) T B (μ9 a0)) rfl dX9_lookAtLegs_74 ?_
          refine lv_iload hx hb dX9_lookAtLegs_77 (lv_at hl 6 rfl) ?_
          refine lv_iload hx hb dX9_lookAtLegs_79 (lv_at hl 0 rfl) ?_
          obtain ⟨μ41, e42, hi43, h⟩ := aw_o h
          refine gq_iast hC hS hW hA k0.2.2.2.2.2.1.1 (k0.2.2.2.2.2.1.2 (gfm s0) T B) (t0 := 0) rfl e42 hi43 dX9_lookAtLegs_81 (fun H locs hW hS => ?_)
          refine lv_iconst (v := 1) hx hb dX9_lookAtLegs_82 (by decide) ?_
          refine lv_istore_n (lv' := [(3, .int 1), (6, .int v26), (0, .ref (B + a0)), (1, .ref (B + a1)), (2, .int a2), (4, .int x2), (5, .int x8)]) hx hb dX9_lookAtLegs_83 rfl hl (by decide) rfl (fun ls hl => ?_)
          exact J32 _ _ h _ _ _ hW hS (lv_sub hl [2, 3, 4, 0, 5, 6] rfl)

theorem dX9_passedByRounds_0 : decode cX9_passedByRounds 0 = .ok (.aload_n 0, 1) := by decide +kernel
theorem dX9_passedByRounds_1 : decode cX9_passedByRounds 1 = .ok (.aload_n 2, 1) := by decide +kernel
theorem dX9_passedByRounds_2 : decode cX9_passedByRounds 2 = .ok (.getfield 79, 3) := by decide +kernel
theorem dX9_passedByRounds_5 : decode cX9_passedByRounds 5 = .ok (.invokevirtual 82, 3) := by decide +kernel
theorem dX9_passedByRounds_8 : decode cX9_passedByRounds 8 = .ok (.iconst 1, 1) := by decide +kernel
theorem dX9_passedByRounds_9 : decode cX9_passedByRounds 9 = .ok (.istore 4, 2) := by decide +kernel
theorem dX9_passedByRounds_11 : decode cX9_passedByRounds 11 = .ok (.iconst 0, 1) := by decide +kernel
theorem dX9_passedByRounds_12 : decode cX9_passedByRounds 12 = .ok (.istore 5, 2) := by decide +kernel
theorem dX9_passedByRounds_14 : decode cX9_passedByRounds 14 = .ok (.iload 5, 2) := by decide +kernel
theorem dX9_passedByRounds_16 : decode cX9_passedByRounds 16 = .ok (.bipush 6, 2) := by decide +kernel
theorem dX9_passedByRounds_18 : decode cX9_passedByRounds 18 = .ok (.if_icmp .ge 25, 3) := by decide +kernel
theorem dX9_passedByRounds_21 : decode cX9_passedByRounds 21 = .ok (.iload 4, 2) := by decide +kernel
theorem dX9_passedByRounds_23 : decode cX9_passedByRounds 23 = .ok (.ifCond .eq 20, 3) := by decide +kernel
theorem dX9_passedByRounds_26 : decode cX9_passedByRounds 26 = .ok (.aload_n 0, 1) := by decide +kernel
theorem dX9_passedByRounds_27 : decode cX9_passedByRounds 27 = .ok (.aload_n 1, 1) := by decide +kernel
theorem dX9_passedByRounds_28 : decode cX9_passedByRounds 28 = .ok (.aload_n 2, 1) := by decide +kernel
theorem dX9_passedByRounds_29 : decode cX9_passedByRounds 29 = .ok (.getfield 70, 3) := by decide +kernel
theorem dX9_passedByRounds_32 : decode cX9_passedByRounds 32 = .ok (.invokevirtual 86, 3) := by decide +kernel
theorem dX9_passedByRounds_35 : decode cX9_passedByRounds 35 = .ok (.istore 4, 2) := by decide +kernel
theorem dX9_passedByRounds_37 : decode cX9_passedByRounds 37 = .ok (.iinc 5 1, 3) := by decide +kernel
theorem dX9_passedByRounds_40 : decode cX9_passedByRounds 40 = .ok (.goto (-26), 3) := by decide +kernel
theorem dX9_passedByRounds_43 : decode cX9_passedByRounds 43 = .ok (.aload_n 0, 1) := by decide +kernel
theorem dX9_passedByRounds_44 : decode cX9_passedByRounds 44 = .ok (.getfield 23, 3) := by decide +kernel
theorem dX9_passedByRounds_47 : decode cX9_passedByRounds 47 = .ok (.iload_n 3, 1) := by decide +kernel
theorem dX9_passedByRounds_48 : decode cX9_passedByRounds 48 = .ok (.iaload, 1) := by decide +kernel
theorem dX9_passedByRounds_49 : decode cX9_passedByRounds 49 = .ok (.ldc 47, 2) := by decide +kernel
theorem dX9_passedByRounds_51 : decode cX9_passedByRounds 51 = .ok (.if_icmp .lt 7, 3) := by decide +kernel
theorem dX9_passedByRounds_54 : decode cX9_passedByRounds 54 = .ok (.iconst (-1), 1) := by decide +kernel
theorem dX9_passedByRounds_55 : decode cX9_passedByRounds 55 = .ok (.goto 9, 3) := by decide +kernel
theorem dX9_passedByRounds_58 : decode cX9_passedByRounds 58 = .ok (.aload_n 0, 1) := by decide +kernel
theorem dX9_passedByRounds_59 : decode cX9_passedByRounds 59 = .ok (.getfield 23, 3) := by decide +kernel
theorem dX9_passedByRounds_62 : decode cX9_passedByRounds 62 = .ok (.iload_n 3, 1) := by decide +kernel
theorem dX9_passedByRounds_63 : decode cX9_passedByRounds 63 = .ok (.iaload, 1) := by decide +kernel
theorem dX9_passedByRounds_64 : decode cX9_passedByRounds 64 = .ok (.ireturn, 1) := by decide +kernel
abbrev rmX9_passedByRounds : Room := { frames := 4, cells := 0, slots := 0, locals := 108 }
set_option maxHeartbeats 4000000 in
set_option maxRecDepth 100000 in
theorem metX9_passedByRounds {l : Launch} {s0 : State} {b B : Nat} {D : va_G} {T : Nat → ClassId} (F : FX l s0 b D T B) {X : Nat → Prop} (hX : ∀ o, o < 560 → ¬ X (B + o)) {N : Nat} {μ : Mem} {a0 : Nat} {a1 : Nat} {a2 : Nat} {a3 : Int32} {r : Mem × Int32} (k0 : IsWy a0) (k1 : IsSt a1) (k2 : IsEx a2) (h : fX9_passedByRounds N μ a0 a1 a2 a3 = some r) : gMet l yX9_passedByRounds cX9_passedByRounds 6 (some .int) rmX9_passedByRounds [.ref (B + a0), .ref (B + a1), .ref (B + a2), .int a3] (gWC s0 D T B μ) (KC s0 X) (some (.int r.2)) (gWC s0 D T B r.1) (gA B X) 0 0 := by
  refine gI_of RX9 (by decide +kernel) rfl (Nat.le_of_ble_eq_true rfl) ?_
  intro p e s m args below meth c ls Q hx hb hlocks hml hown hts hW hk hl hS hend
  have hC := FX_C F hk hx hb hown hts
  have hA := gA_all hX
  have hl : lv_has ls 6 [(0, .ref (B + a0)), (1, .ref (B + a1)), (2, .ref (B + a2)), (3, .int a3)] := hl
  unfold fX9_passedByRounds at h
  refine lv_aload_n hx hb dX9_passedByRounds_0 rfl (lv_at hl 0 rfl) ?_
  refine lv_aload_n hx hb dX9_passedByRounds_1 rfl (lv_at hl 2 rfl) ?_
  refine gw_get (v := .int (μ a2 0)) hC hW fl_X9_79.1 k2.1 (k2.2.1 (gfm s0) T B (μ a2)) rfl dX9_passedByRounds_2 ?_
  obtain ⟨r1, hcall, h⟩ := bd_out h
  refine g0_callV (As := [.int (μ a2 0)]) hC hml hS hW (KC_at hk hS F.2.2.2.2) KC_blind (metX9_startAt F hX k0 hcall) ml_X9_82 (gw_recv hC hW k0.1 (k0.2.1 (gfm s0) T B (μ a0)) rfl) ⟨rfl, rfl, (Nat.le_of_ble_eq_true rfl), (Nat.le_of_ble_eq_true rfl)⟩ rfl hl.1 rfl (Nat.le_of_ble_eq_true rfl) dX9_passedByRounds_5 ⟨(Nat.le_of_ble_eq_true rfl), (Nat.le_of_ble_eq_true rfl)⟩ (fun H locs hW hS => ?_)
  refine lv_iconst (v := 1) hx hb dX9_passedByRounds_8 (by decide) ?_
  refine lv_istore (lv' := [(4, .int 1), (0, .ref (B + a0)), (1, .ref (B + a1)), (2, .ref (B + a2)), (3, .int a3)]) hx hb dX9_passedByRounds_9 hl (by decide) rfl (fun ls hl => ?_)
  refine lv_iconst (v := 0) hx hb dX9_passedByRounds_11 (by decide) ?_
  refine lv_istore (lv' := [(5, .int 0), (4, .int 1), (0, .ref (B + a0)), (1, .ref (B + a1)), (2, .ref (B + a2)), (3, .int a3)]) hx hb dX9_passedByRounds_12 hl (by decide) rfl (fun ls hl => ?_)
  refine fix3_ind (fun (x2 : Bool) (x3 : Int32) (μ4 : Mem) => ∀ (H : Heap) (locs : List Loc) (ls : Array Slot), gWC s0 D T B μ4 H → va_S (gA B X) s.heap H locs → lv_has ls 6 [(0, .ref (B + a0)), (1, .ref (B + a1)), (2, .ref (B + a2)), (3, .int a3), (4, .int (b2i x2)), (5, .int x3)] → W p l e rmX9_passedByRounds s m args below meth c H locs 0 0 Q (F0 m 14 ls [])) ?_ N _ _ _ h _ _ _ hW hS (lv_sub hl [2, 3, 4, 5, 1, 0] rfl)
  clear h hW hS hl
  intro self5 IH6 x2 x3 μ4 h H locs ls hW hS hl
  refine lv_iload hx hb dX9_passedByRounds_14 (lv_at hl 5 rfl) ?_
  refine lv_bipush (v := 6) hx hb dX9_passedByRounds_16 (by decide) ?_
  obtain ⟨j8, hj10, h⟩ := jn1_o h
  have J9 : ∀ (u7 : Unit), j8 u7 = some r → ∀ (H : Heap) (locs : List Loc) (ls : Array Slot), gWC s0 D T B μ4 H → va_S (gA B X) s.heap H locs → lv_has ls 6 [(0, .ref (B + a0)), (3, .int a3)] → W p l e rmX9_passedByRounds s m args below meth c H locs 0 0 Q (F0 m 43 ls []) := by
    clear h hW hS hl
    intro u7 h H locs ls hW hS hl
    replace h := (hj10 u7).symm.trans h
    refine lv_aload_n hx hb dX9_passedByRounds_43 rfl (lv_at hl 0 rfl) ?_
    refine gw_get (v := .ref (B + (a0 + 16))) hC hW fl_X9_23 k0.1 (k0.2.1 (gfm s0) T B (μ4 a0)) rfl dX9_passedByRounds_44 ?_
    refine lv_iload_n hx hb dX9_passedByRounds_47 rfl (lv_at hl 1 rfl) ?_
    obtain ⟨v11, e12, hi13, h⟩ := ag_o h
    refine gq_iald hC hW k0.2.2.2.2.2.1.1 (k0.2.2.2.2.2.1.2 (gfm s0) T B (μ4 (a0 + 16))) (t0 := 0) rfl e12 hi13 dX9_passedByRounds_48 ?_
    refine lv_ldc (v := 1000000) hx hb hown (hts _ kc_X9_47) dX9_passedByRounds_49 ?_
    obtain ⟨j15, hj17, h⟩ := jn1_o h
    have J16 : ∀ (y14 : Int32), j15 y14 = some r → ∀ (H : Heap) (locs : List Loc) (ls : Array Slot), gWC s0 D T B μ4 H → va_S (gA B X) s.heap H locs → lv_has ls 6 [] → W p l e rmX9_passedByRounds s m args below meth c H locs 0 0 Q (F0 m 64 ls [.int y14]) := by
      clear h hW hS hl
      intro y14 h H locs ls hW hS hl
      replace h := (hj17 y14).symm.trans h
      cases h
      exact hend dX9_passedByRounds_64 hW hS (Nat.le_of_ble_eq_true rfl) (Nat.le_of_ble_eq_true rfl)
    refine lv_icmp_lt (tgt := 58) hx hb dX9_passedByRounds_51 (by decide) (fun c18 => ?_) (fun c18 => ?_)
    · replace h := ite_t c18 h
      refine lv_aload_n hx hb dX9_passedByRounds_58 rfl (lv_at hl 0 rfl) ?_
      refine gw_get (v := .ref (B + (a0 + 16))) hC hW fl_X9_23 k0.1 (k0.2.1 (gfm s0) T B (μ4 a0)) rfl dX9_passedByRounds_59 ?_
      refine lv_iload_n hx hb dX9_passedByRounds_62 rfl (lv_at hl 1 rfl) ?_
      obtain ⟨v19, e20, hi21, h⟩ := ag_o h
      refine gq_iald hC hW k0.2.2.2.2.2.1.1 (k0.2.2.2.2.2.1.2 (gfm s0) T B (μ4 (a0 + 16))) (t0 := 0) rfl e20 hi21 dX9_passedByRounds_63 ?_
      exact J16 _ h _ _ _ hW hS (lv_sub hl [] rfl)
    · replace h := ite_f c18 h
      refine lv_iconst (v := (-1)) hx hb dX9_passedByRounds_54 (by decide) ?_
      refine lv_goto (tgt := 64) hx hb dX9_passedByRounds_55 (by decide) ?_
      exact J16 _ h _ _ _ hW hS (lv_sub hl [] rfl)
  refine lv_icmp_ge (tgt := 43) hx hb dX9_passedByRounds_18 (by decide) (fun c22 => ?_) (fun c22 => ?_)
  · replace h := ite_t c22 h
    exact J9 _ h _ _ _ hW hS (lv_sub hl [0, 3] rfl)
  · replace h := ite_f c22 h
    refine lv_iload hx hb dX9_passedByRounds_21 (lv_at hl 4 rfl) ?_
    refine gw_if_eqZ (tgt := 43) hx hb dX9_passedByRounds_23 (by decide) (fun c23 => ?_) (fun c23 => ?_)
    · replace h := cond_f c23 h
      exact J9 _ h _ _ _ hW hS (lv_sub hl [0, 3] rfl)
    · replace h := cond_t c23 h
      refine lv_aload_n hx hb dX9_passedByRounds_26 rfl (lv_at hl 0 rfl) ?_
      refine lv_aload_n hx hb dX9_passedByRounds_27 rfl (lv_at hl 1 rfl) ?_
      refine lv_aload_n hx hb dX9_passedByRounds_28 rfl (lv_at hl 2 rfl) ?_
      refine gw_get (v := .int (μ4 a2 1)) hC hW fl_X9_70.1 k2.1 (k2.2.1 (gfm s0) T B (μ4 a2)) rfl dX9_passedByRounds_29 ?_
      obtain ⟨r24, hcall, h⟩ := bd_out h
      refine g0_callV (As := [.ref (B + a1), .int (μ4 a2 1)]) hC hml hS hW (KC_at hk hS F.2.2.2.2) KC_blind (metX9_lookAtLegs F hX k0 k1 hcall) ml_X9_86 (gw_recv hC hW k0.1 (k0.2.1 (gfm s0) T B (μ4 a0)) rfl) ⟨rfl, rfl, (Nat.le_of_ble_eq_true rfl), (Nat.le_of_ble_eq_true rfl)⟩ rfl hl.1 rfl (Nat.le_of_ble_eq_true rfl) dX9_passedByRounds_32 ⟨(Nat.le_of_ble_eq_true rfl), (Nat.le_of_ble_eq_true rfl)⟩ (fun H locs hW hS => ?_)
      refine lv_istore (lv' := [(4, .int (b2i r24.2)), (0, .ref (B + a0)), (1, .ref (B + a1)), (2, .ref (B + a2)), (3, .int a3), (5, .int x3)]) hx hb dX9_passedByRounds_35 hl (by decide) rfl (fun ls hl => ?_)
      obtain ⟨v25, e26, h⟩ := lt_out h
      refine lv_iinc (v := v25) (lv' := [(5, .int v25), (4, .int (b2i r24.2)), (0, .ref (B + a0)), (1, .ref (B + a1)), (2, .ref (B + a2)), (3, .int a3)]) hx hb dX9_passedByRounds_37 hl (k := 5) rfl (by rw [e26]; rfl) (by decide) rfl (fun ls hl => ?_)
      refine lv_goto (tgt := 14) hx hb dX9_passedByRounds_40 (by decide) ?_
      exact IH6 _ _ _ h _ _ _ hW hS (lv_sub hl [2, 3, 4, 5, 1, 0] rfl)

theorem dX10_digitFault_0 : decode cX10_digitFault 0 = .ok (.iconst 0, 1) := by decide +kernel
theorem dX10_digitFault_1 : decode cX10_digitFault 1 = .ok (.iload_n 0, 1) := by decide +kernel
theorem dX10_digitFault_2 : decode cX10_digitFault 2 = .ok (.bipush 9, 2) := by decide +kernel
theorem dX10_digitFault_4 : decode cX10_digitFault 4 = .ok (.invokestatic 447, 3) := by decide +kernel
theorem dX10_digitFault_7 : decode cX10_digitFault 7 = .ok (.ifCond .eq 9, 3) := by decide +kernel
theorem dX10_digitFault_10 : decode cX10_digitFault 10 = .ok (.getstatic 451, 3) := by decide +kernel
theorem dX10_digitFault_13 : decode cX10_digitFault 13 = .ok (.goto 6, 3) := by decide +kernel
theorem dX10_digitFault_16 : decode cX10_digitFault 16 = .ok (.getstatic 416, 3) := by decide +kernel
theorem dX10_digitFault_19 : decode cX10_digitFault 19 = .ok (.areturn, 1) := by decide +kernel
abbrev rmX10_digitFault : Room := { frames := 3, cells := 0, slots := 0, locals := 82 }
set_option maxHeartbeats 4000000 in
set_option maxRecDepth 100000 in
theorem metX10_digitFault {l : Launch} {s0 : State} {b B : Nat} {D : va_G} {T : Nat → ClassId} (F : FX l s0 b D T B) {X : Nat → Prop} (hX : ∀ o, o < 560 → ¬ X (B + o)) {N : Nat} {μ : Mem} {a0 : Int32} {r : Nat}  (h : fX10_digitFault N μ a0 = some r) : gMet l yX10_digitFault cX10_digitFault 1 (some (.object "AvalancheGallery$Fault")) rmX10_digitFault [.int a0] (gWC s0 D T B μ) (KC s0 X) (some (.ref (gfa s0 r))) (gWC s0 D T B μ) (gA B X) 0 0 := by
  refine gR_of RX10 (by decide +kernel) rfl (Nat.le_of_ble_eq_true rfl) ?_
  intro p e s m args below meth c ls Q hx hb hlocks hml hown hts hW hk hl hS hend
  have hC := FX_C F hk hx hb hown hts
  have hA := gA_all hX
  have hl : lv_has ls 1 [(0, .int a0)] := hl
  unfold fX10_digitFault at h
  refine lv_iconst (v := 0) hx hb dX10_digitFault_0 (by decide) ?_
  refine lv_iload_n hx hb dX10_digitFault_1 rfl (lv_at hl 0 rfl) ?_
  refine lv_bipush (v := 9) hx hb dX10_digitFault_2 (by decide) ?_
  obtain ⟨r1, hcall, h⟩ := bd_out h
  refine g0_callS (As := [.int 0, .int a0, .int 9]) hC hml hS hW (KC_at hk hS F.2.2.2.2) KC_blind (metX10_isFrom F hX  hcall) ml_X10_447 ⟨rfl, rfl, (Nat.le_of_ble_eq_true rfl), (Nat.le_of_ble_eq_true rfl)⟩ rfl hl.1 rfl (Nat.le_of_ble_eq_true rfl) dX10_digitFault_4 ⟨(Nat.le_of_ble_eq_true rfl), (Nat.le_of_ble_eq_true rfl)⟩ (fun H locs hW hS => ?_)
  obtain ⟨j3, hj5, h⟩ := jn1_o h
  have J4 : ∀ (y2 : Nat), j3 y2 = some r → ∀ (H : Heap) (locs : List Loc) (ls : Array Slot), gWC s0 D T B μ H → va_S (gA B X) s.heap H locs → lv_has ls 1 [] → W p l e rmX10_digitFault s m args below meth c H locs 0 0 Q (F0 m 19 ls [.ref (gfa s0 y2)]) := by
    clear h hW hS hl
    intro y2 h H locs ls hW hS hl
    replace h := (hj5 y2).symm.trans h
    cases h
    exact hend dX10_digitFault_19 hW hS (Nat.le_of_ble_eq_true rfl) (Nat.le_of_ble_eq_true rfl)
  refine gw_if_eqZ (tgt := 16) hx hb dX10_digitFault_7 (by decide) (fun c6 => ?_) (fun c6 => ?_)
  · replace h := cond_f c6 h
    refine gw_gets hC (zF_2 F hk) hS fs_X10_416 dX10_digitFault_16 ?_
    exact J4 _ h _ _ _ hW hS (lv_sub hl [] rfl)
  · replace h := cond_t c6 h
    refine gw_gets hC (zF_0 F hk) hS fs_X10_451 dX10_digitFault_10 ?_
    refine lv_goto (tgt := 19) hx hb dX10_digitFault_13 (by decide) ?_
    exact J4 _ h _ _ _ hW hS (lv_sub hl [] rfl)

theorem dX10_roomFault_0 : decode cX10_roomFault 0 = .ok (.iload_n 1, 1) := by decide +kernel
theorem dX10_roomFault_1 : decode cX10_roomFault 1 = .ok (.invokestatic 86, 3) := by decide +kernel
theorem dX10_roomFault_4 : decode cX10_roomFault 4 = .ok (.getstatic 451, 3) := by decide +kernel
theorem dX10_roomFault_7 : decode cX10_roomFault 7 = .ok (.if_acmp .eq 7, 3) := by decide +kernel
theorem dX10_roomFault_10 : decode cX10_roomFault 10 = .ok (.getstatic 416, 3) := by decide +kernel
theorem dX10_roomFault_13 : decode cX10_roomFault 13 = .ok (.areturn, 1) := by decide +kernel
theorem dX10_roomFault_14 : decode cX10_roomFault 14 = .ok (.aload_n 0, 1) := by decide +kernel
theorem dX10_roomFault_15 : decode cX10_roomFault 15 = .ok (.getfield 12, 3) := by decide +kernel
theorem dX10_roomFault_18 : decode cX10_roomFault 18 = .ok (.getfield 105, 3) := by decide +kernel
theorem dX10_roomFault_21 : decode cX10_roomFault 21 = .ok (.bipush 6, 2) := by decide +kernel
theorem dX10_roomFault_23 : decode cX10_roomFault 23 = .ok (.if_icmp .lt 9, 3) := by decide +kernel
theorem dX10_roomFault_26 : decode cX10_roomFault 26 = .ok (.getstatic 421, 3) := by decide +kernel
theorem dX10_roomFault_29 : decode cX10_roomFault 29 = .ok (.goto 6, 3) := by decide +kernel
theorem dX10_roomFault_32 : decode cX10_roomFault 32 = .ok (.getstatic 451, 3) := by decide +kernel
theorem dX10_roomFault_35 : decode cX10_roomFault 35 = .ok (.areturn, 1) := by decide +kernel
abbrev rmX10_roomFault : Room := { frames := 4, cells := 0, slots := 0, locals := 102 }
set_option maxHeartbeats 4000000 in
set_option maxRecDepth 100000 in
theorem metX10_roomFault {l : Launch} {s0 : State} {b B : Nat} {D : va_G} {T : Nat → ClassId} (F : FX l s0 b D T B) {X : Nat → Prop} (hX : ∀ o, o < 560 → ¬ X (B + o)) {N : Nat} {μ : Mem} {a0 : Nat} {a1 : Int32} {r : Nat} (k0 : IsGa a0) (h : fX10_roomFault N μ a0 a1 = some r) : gMet l yX10_roomFault cX10_roomFault 2 (some (.object "AvalancheGallery$Fault")) rmX10_roomFault [.ref (B + a0), .int a1] (gWC s0 D T B μ) (KC s0 X) (some (.ref (gfa s0 r))) (gWC s0 D T B μ) (gA B X) 0 0 := by
  refine gR_of RX10 (by decide +kernel) rfl (Nat.le_of_ble_eq_true rfl) ?_
  intro p e s m args below meth c ls Q hx hb hlocks hml hown hts hW hk hl hS hend
  have hC := FX_C F hk hx hb hown hts
  have hA := gA_all hX
  have hl : lv_has ls 2 [(0, .ref (B + a0)), (1, .int a1)] := hl
  unfold fX10_roomFault at h
  refine lv_iload_n hx hb dX10_roomFault_0 rfl (lv_at hl 1 rfl) ?_
  obtain ⟨r1, hcall, h⟩ := bd_out h
  refine g0_callS (As := [.int a1]) hC hml hS hW (KC_at hk hS F.2.2.2.2) KC_blind (metX10_digitFault F hX  hcall) ml_X10_86 ⟨rfl, rfl, (Nat.le_of_ble_eq_true rfl), (Nat.le_of_ble_eq_true rfl)⟩ rfl hl.1 rfl (Nat.le_of_ble_eq_true rfl) dX10_roomFault_1 ⟨(Nat.le_of_ble_eq_true rfl), (Nat.le_of_ble_eq_true rfl)⟩ (fun H locs hW hS => ?_)
  refine gw_gets hC (zF_0 F hk) hS fs_X10_451 dX10_roomFault_4 ?_
  refine gw_aeF (tgt := 14) F hx hb dX10_roomFault_7 (by decide) (fun c2 => ?_) (fun c2 => ?_)
  · replace h := ite_t c2 h
    refine lv_aload_n hx hb dX10_roomFault_14 rfl (lv_at hl 0 rfl) ?_
    refine gw_get (v := .ref (B + 1)) hC hW fl_X10_12 k0.1 (k0.2.2.1 (gfm s0) T B (μ a0)) rfl dX10_roomFault_15 ?_
    refine gw_get (v := .int (μ 1 0)) hC hW fl_X10_105.1 k0.2.2.2.1.1 (k0.2.2.2.1.2.1 (gfm s0) T B (μ 1)) rfl dX10_roomFault_18 ?_
    refine lv_bipush (v := 6) hx hb dX10_roomFault_21 (by decide) ?_
    obtain ⟨j4, hj6, h⟩ := jn1_o h
    have J5 : ∀ (y3 : Nat), j4 y3 = some r → ∀ (H : Heap) (locs : List Loc) (ls : Array Slot), gWC s0 D T B μ H → va_S (gA B X) s.heap H locs → lv_has ls 2 [] → W p l e rmX10_roomFault s m args below meth c H locs 0 0 Q (F0 m 35 ls [.ref (gfa s0 y3)]) := by
      clear h hW hS hl
      intro y3 h H locs ls hW hS hl
      replace h := (hj6 y3).symm.trans h
      cases h
      exact hend dX10_roomFault_35 hW hS (Nat.le_of_ble_eq_true rfl) (Nat.le_of_ble_eq_true rfl)
    refine lv_icmp_lt (tgt := 32) hx hb dX10_roomFault_23 (by decide) (fun c7 => ?_) (fun c7 => ?_)
    · replace h := ite_t c7 h
      refine gw_gets hC (zF_0 F hk) hS fs_X10_451 dX10_roomFault_32 ?_
      exact J5 _ h _ _ _ hW hS (lv_sub hl [] rfl)
    · replace h := ite_f c7 h
      refine gw_gets hC (zF_3 F hk) hS fs_X10_421 dX10_roomFault_26 ?_
      refine lv_goto (tgt := 35) hx hb dX10_roomFault_29 (by decide) ?_
      exact J5 _ h _ _ _ hW hS (lv_sub hl [] rfl)
  · replace h := ite_f c2 h
    refine gw_gets hC (zF_2 F hk) hS fs_X10_416 dX10_roomFault_10 ?_
    cases h
    exact hend dX10_roomFault_13 hW hS (Nat.le_of_ble_eq_true rfl) (Nat.le_of_ble_eq_true rfl)

theorem dX10_stopIf_0 : decode cX10_stopIf 0 = .ok (.aload_n 0, 1) := by decide +kernel
theorem dX10_stopIf_1 : decode cX10_stopIf 1 = .ok (.getstatic 408, 3) := by decide +kernel
theorem dX10_stopIf_4 : decode cX10_stopIf 4 = .ok (.if_acmp .ne 14, 3) := by decide +kernel
theorem dX10_stopIf_7 : decode cX10_stopIf 7 = .ok (.new 331, 3) := by decide +kernel
theorem dX10_stopIf_10 : decode cX10_stopIf 10 = .ok (.dup, 1) := by decide +kernel
theorem dX10_stopIf_11 : decode cX10_stopIf 11 = .ok (.ldc_w 414, 3) := by decide +kernel
theorem dX10_stopIf_14 : decode cX10_stopIf 14 = .ok (.invokespecial 335, 3) := by decide +kernel
theorem dX10_stopIf_17 : decode cX10_stopIf 17 = .ok (.athrow, 1) := by decide +kernel
theorem dX10_stopIf_18 : decode cX10_stopIf 18 = .ok (.aload_n 0, 1) := by decide +kernel
theorem dX10_stopIf_19 : decode cX10_stopIf 19 = .ok (.getstatic 416, 3) := by decide +kernel
theorem dX10_stopIf_22 : decode cX10_stopIf 22 = .ok (.if_acmp .ne 14, 3) := by decide +kernel
theorem dX10_stopIf_25 : decode cX10_stopIf 25 = .ok (.new 365, 3) := by decide +kernel
theorem dX10_stopIf_28 : decode cX10_stopIf 28 = .ok (.dup, 1) := by decide +kernel
theorem dX10_stopIf_29 : decode cX10_stopIf 29 = .ok (.ldc_w 419, 3) := by decide +kernel
theorem dX10_stopIf_32 : decode cX10_stopIf 32 = .ok (.invokespecial 369, 3) := by decide +kernel
theorem dX10_stopIf_35 : decode cX10_stopIf 35 = .ok (.athrow, 1) := by decide +kernel
theorem dX10_stopIf_36 : decode cX10_stopIf 36 = .ok (.aload_n 0, 1) := by decide +kernel
theorem dX10_stopIf_37 : decode cX10_stopIf 37 = .ok (.getstatic 421, 3) := by decide +kernel
theorem dX10_stopIf_40 : decode cX10_stopIf 40 = .ok (.if_acmp .ne 14, 3) := by decide +kernel
theorem dX10_stopIf_43 : decode cX10_stopIf 43 = .ok (.new 353, 3) := by decide +kernel
theorem dX10_stopIf_46 : decode cX10_stopIf 46 = .ok (.dup, 1) := by decide +kernel
theorem dX10_stopIf_47 : decode cX10_stopIf 47 = .ok (.ldc_w 424, 3) := by decide +kernel
theorem dX10_stopIf_50 : decode cX10_stopIf 50 = .ok (.invokespecial 357, 3) := by decide +kernel
theorem dX10_stopIf_53 : decode cX10_stopIf 53 = .ok (.athrow, 1) := by decide +kernel
theorem dX10_stopIf_54 : decode cX10_stopIf 54 = .ok (.aload_n 0, 1) := by decide +kernel
theorem dX10_stopIf_55 : decode cX10_stopIf 55 = .ok (.getstatic 426, 3) := by decide +kernel
theorem dX10_stopIf_58 : decode cX10_stopIf 58 = .ok (.if_acmp .ne 14, 3) := by decide +kernel
theorem dX10_stopIf_61 : decode cX10_stopIf 61 = .ok (.new 139, 3) := by decide +kernel
theorem dX10_stopIf_64 : decode cX10_stopIf 64 = .ok (.dup, 1) := by decide +kernel
theorem dX10_stopIf_65 : decode cX10_stopIf 65 = .ok (.ldc_w 429, 3) := by decide +kernel
theorem dX10_stopIf_68 : decode cX10_stopIf 68 = .ok (.invokespecial 143, 3) := by decide +kernel
theorem dX10_stopIf_71 : decode cX10_stopIf 71 = .ok (.athrow, 1) := by decide +kernel
theorem dX10_stopIf_72 : decode cX10_stopIf 72 = .ok (.aload_n 0, 1) := by decide +kernel
theorem dX10_stopIf_73 : decode cX10_stopIf 73 = .ok (.getstatic 431, 3) := by decide +kernel
theorem dX10_stopIf_76 : decode cX10_stopIf 76 = .ok (.if_acmp .ne 14, 3) := by decide +kernel
theorem dX10_stopIf_79 : decode cX10_stopIf 79 = .ok (.new 383, 3) := by decide +kernel
theorem dX10_stopIf_82 : decode cX10_stopIf 82 = .ok (.dup, 1) := by decide +kernel
theorem dX10_stopIf_83 : decode cX10_stopIf 83 = .ok (.ldc_w 434, 3) := by decide +kernel
theorem dX10_stopIf_86 : decode cX10_stopIf 86 = .ok (.invokespecial 387, 3) := by decide +kernel
theorem dX10_stopIf_89 : decode cX10_stopIf 89 = .ok (.athrow, 1) := by decide +kernel
theorem dX10_stopIf_90 : decode cX10_stopIf 90 = .ok (.return_, 1) := by decide +kernel
abbrev rmX10_stopIf : Room := { frames := 6, cells := 1, slots := 6, locals := 120 }
set_option maxHeartbeats 4000000 in
set_option maxRecDepth 100000 in
theorem metX10_stopIf {l : Launch} {s0 : State} {b B : Nat} {D : va_G} {T : Nat → ClassId} (F : FX l s0 b D T B) {X : Nat → Prop} (hX : ∀ o, o < 560 → ¬ X (B + o)) {N : Nat} {μ : Mem} {a0 : Nat} {r : Mem × (Nat ⊕ Unit)}  (h : fX10_stopIf N μ a0 = some r) : gXMet l yX10_stopIf cX10_stopIf 1 none rmX10_stopIf [.ref (gfa s0 a0)] (gWC s0 D T B μ) (KC s0 X) (oV r.2) (gWC s0 D T B r.1) (gA B X) 1 6 := by
  refine gXV_of RX10 (by decide +kernel) rfl (Nat.le_of_ble_eq_true rfl) ?_
  intro p e s m args below meth c ls Q hx hb hlocks hml hown hts hW hk hl hS hE
  obtain ⟨hend, hthr, htb, hQ⟩ := hE
  have hC := FX_C F hk hx hb hown hts
  have hA := gA_all hX
  have hl : lv_has ls 1 [(0, .ref (gfa s0 a0))] := hl
  unfold fX10_stopIf at h
  refine lv_aload_n hx hb dX10_stopIf_0 rfl (lv_at hl 0 rfl) ?_
  refine gw_gets hC (zF_1 F hk) hS fs_X10_408 dX10_stopIf_1 ?_
  refine gw_anF (tgt := 18) F hx hb dX10_stopIf_4 (by decide) (fun c1 => ?_) (fun c1 => ?_)
  · replace h := ite_f c1 h
    refine lv_aload_n hx hb dX10_stopIf_18 rfl (lv_at hl 0 rfl) ?_
    refine gw_gets hC (zF_2 F hk) hS fs_X10_416 dX10_stopIf_19 ?_
    refine gw_anF (tgt := 36) F hx hb dX10_stopIf_22 (by decide) (fun c2 => ?_) (fun c2 => ?_)
    · replace h := ite_f c2 h
      refine lv_aload_n hx hb dX10_stopIf_36 rfl (lv_at hl 0 rfl) ?_
      refine gw_gets hC (zF_3 F hk) hS fs_X10_421 dX10_stopIf_37 ?_
      refine gw_anF (tgt := 54) F hx hb dX10_stopIf_40 (by decide) (fun c3 => ?_) (fun c3 => ?_)
      · replace h := ite_f c3 h
        refine lv_aload_n hx hb dX10_stopIf_54 rfl (lv_at hl 0 rfl) ?_
        refine gw_gets hC (zF_4 F hk) hS fs_X10_426 dX10_stopIf_55 ?_
        refine gw_anF (tgt := 72) F hx hb dX10_stopIf_58 (by decide) (fun c4 => ?_) (fun c4 => ?_)
        · replace h := ite_f c4 h
          refine lv_aload_n hx hb dX10_stopIf_72 rfl (lv_at hl 0 rfl) ?_
          refine gw_gets hC (zF_5 F hk) hS fs_X10_431 dX10_stopIf_73 ?_
          refine gw_anF (tgt := 90) F hx hb dX10_stopIf_76 (by decide) (fun c5 => ?_) (fun c5 => ?_)
          · replace h := ite_f c5 h
            cases h
            exact hend _ rfl dX10_stopIf_90 hW hS (Nat.le_of_ble_eq_true rfl) (Nat.le_of_ble_eq_true rfl)
          · replace h := ite_t c5 h
            cases h
            exact gx_throwW (k := 4) F hk hC hml hlocks htb hQ rfl hW hS dX10_stopIf_79 dX10_stopIf_82 dX10_stopIf_83 dX10_stopIf_86 dX10_stopIf_89 tw_X10_383_434_387 hl.1 (Nat.le_of_ble_eq_true rfl) (Nat.le_of_ble_eq_true rfl) ⟨Nat.le_of_ble_eq_true rfl, Nat.le_of_ble_eq_true rfl⟩ (Nat.le_of_ble_eq_true rfl) (Nat.le_of_ble_eq_true rfl)
        · replace h := ite_t c4 h
          cases h
          exact gx_throwNW F hk hC hml hlocks htb hQ rfl hW hS dX10_stopIf_61 dX10_stopIf_64 dX10_stopIf_65 dX10_stopIf_68 dX10_stopIf_71 tw_X10_139_429_143 hl.1 (Nat.le_of_ble_eq_true rfl) (Nat.le_of_ble_eq_true rfl) ⟨Nat.le_of_ble_eq_true rfl, Nat.le_of_ble_eq_true rfl⟩ (Nat.le_of_ble_eq_true rfl) (Nat.le_of_ble_eq_true rfl)
      · replace h := ite_t c3 h
        cases h
        exact gx_throwW (k := 2) F hk hC hml hlocks htb hQ rfl hW hS dX10_stopIf_43 dX10_stopIf_46 dX10_stopIf_47 dX10_stopIf_50 dX10_stopIf_53 tw_X10_353_424_357 hl.1 (Nat.le_of_ble_eq_true rfl) (Nat.le_of_ble_eq_true rfl) ⟨Nat.le_of_ble_eq_true rfl, Nat.le_of_ble_eq_true rfl⟩ (Nat.le_of_ble_eq_true rfl) (Nat.le_of_ble_eq_true rfl)
    · replace h := ite_t c2 h
      cases h
      exact gx_throwW (k := 1) F hk hC hml hlocks htb hQ rfl hW hS dX10_stopIf_25 dX10_stopIf_28 dX10_stopIf_29 dX10_stopIf_32 dX10_stopIf_35 tw_X10_365_419_369 hl.1 (Nat.le_of_ble_eq_true rfl) (Nat.le_of_ble_eq_true rfl) ⟨Nat.le_of_ble_eq_true rfl, Nat.le_of_ble_eq_true rfl⟩ (Nat.le_of_ble_eq_true rfl) (Nat.le_of_ble_eq_true rfl)
  · replace h := ite_t c1 h
    cases h
    exact gx_throwW (k := 0) F hk hC hml hlocks htb hQ rfl hW hS dX10_stopIf_7 dX10_stopIf_10 dX10_stopIf_11 dX10_stopIf_14 dX10_stopIf_17 tw_X10_331_414_335 hl.1 (Nat.le_of_ble_eq_true rfl) (Nat.le_of_ble_eq_true rfl) ⟨Nat.le_of_ble_eq_true rfl, Nat.le_of_ble_eq_true rfl⟩ (Nat.le_of_ble_eq_true rfl) (Nat.le_of_ble_eq_true rfl)

theorem dX10_remember_0 : decode cX10_remember 0 = .ok (.aload_n 0, 1) := by decide +kernel
theorem dX10_remember_1 : decode cX10_remember 1 = .ok (.getfield 22, 3) := by decide +kernel
theorem dX10_remember_4 : decode cX10_remember 4 = .ok (.aload_n 0, 1) := by decide +kernel
theorem dX10_remember_5 : decode cX10_remember 5 = .ok (.getfield 12, 3) := by decide +kernel
theorem dX10_remember_8 : decode cX10_remember 8 = .ok (.invokevirtual 370, 3) := by decide +kernel
theorem dX10_remember_11 : decode cX10_remember 11 = .ok (.aload_n 0, 1) := by decide +kernel
theorem dX10_remember_12 : decode cX10_remember 12 = .ok (.getfield 22, 3) := by decide +kernel
theorem dX10_remember_15 : decode cX10_remember 15 = .ok (.invokevirtual 388, 3) := by decide +kernel
theorem dX10_remember_18 : decode cX10_remember 18 = .ok (.return_, 1) := by decide +kernel
abbrev rmX10_remember : Room := { frames := 5, cells := 0, slots := 0, locals := 124 }
set_option maxHeartbeats 4000000 in
set_option maxRecDepth 100000 in
theorem metX10_remember {l : Launch} {s0 : State} {b B : Nat} {D : va_G} {T : Nat → ClassId} (F : FX l s0 b D T B) {X : Nat → Prop} (hX : ∀ o, o < 560 → ¬ X (B + o)) {N : Nat} {μ : Mem} {a0 : Nat} {r : Mem} (k0 : IsGa a0) (h : fX10_remember N μ a0 = some r) : gMet l yX10_remember cX10_remember 1 none rmX10_remember [.ref (B + a0)] (gWC s0 D T B μ) (KC s0 X) none (gWC s0 D T B r) (gA B X) 0 0 := by
  refine gV_of RX10 (by decide +kernel) rfl (Nat.le_of_ble_eq_true rfl) ?_
  intro p e s m args below meth c ls Q hx hb hlocks hml hown hts hW hk hl hS hend
  have hC := FX_C F hk hx hb hown hts
  have hA := gA_all hX
  have hl : lv_has ls 1 [(0, .ref (B + a0))] := hl
  unfold fX10_remember at h
  refine lv_aload_n hx hb dX10_remember_0 rfl (lv_at hl 0 rfl) ?_
  refine gw_get (v := .ref (B + 95)) hC hW fl_X10_22 k0.1 (k0.2.2.1 (gfm s0) T B (μ a0)) rfl dX10_remember_1 ?_
  refine lv_aload_n hx hb dX10_remember_4 rfl (lv_at hl 0 rfl) ?_
  refine gw_get (v := .ref (B + 1)) hC hW fl_X10_12 k0.1 (k0.2.2.1 (gfm s0) T B (μ a0)) rfl dX10_remember_5 ?_
  obtain ⟨r1, hcall, h⟩ := bd_out h
  refine g0_callV (As := [.ref (B + 1)]) hC hml hS hW (KC_at hk hS F.2.2.2.2) KC_blind (metX4_note F hX k0.2.2.2.2.2.1 k0.2.2.2.1 hcall) ml_X10_370 (gw_recv hC hW k0.2.2.2.2.2.1.1 (k0.2.2.2.2.2.1.2.1 (gfm s0) T B (μ 95)) rfl) ⟨rfl, rfl, (Nat.le_of_ble_eq_true rfl), (Nat.le_of_ble_eq_true rfl)⟩ rfl hl.1 rfl (Nat.le_of_ble_eq_true rfl) dX10_remember_8 ⟨(Nat.le_of_ble_eq_true rfl), (Nat.le_of_ble_eq_true rfl)⟩ (fun H locs hW hS => ?_)
  refine lv_aload_n hx hb dX10_remember_11 rfl (lv_at hl 0 rfl) ?_
  refine gw_get (v := .ref (B + 95)) hC hW fl_X10_22 k0.1 (k0.2.2.1 (gfm s0) T B (r1 a0)) rfl dX10_remember_12 ?_
  obtain ⟨r2, hcall, h⟩ := bd_out h
  refine g0_callV (As := []) hC hml hS hW (KC_at hk hS F.2.2.2.2) KC_blind (metX4_keep F hX k0.2.2.2.2.2.1 hcall) ml_X10_388 (gw_recv hC hW k0.2.2.2.2.2.1.1 (k0.2.2.2.2.2.1.2.1 (gfm s0) T B (r1 95)) rfl) ⟨rfl, rfl, (Nat.le_of_ble_eq_true rfl), (Nat.le_of_ble_eq_true rfl)⟩ rfl hl.1 rfl (Nat.le_of_ble_eq_true rfl) dX10_remember_15 ⟨(Nat.le_of_ble_eq_true rfl), (Nat.le_of_ble_eq_true rfl)⟩ (fun H locs hW hS => ?_)
  cases h
  exact hend dX10_remember_18 hW hS (Nat.le_of_ble_eq_true rfl) (Nat.le_of_ble_eq_true rfl)

theorem dX10_addRoom_0 : decode cX10_addRoom 0 = .ok (.aload_n 0, 1) := by decide +kernel
theorem dX10_addRoom_1 : decode cX10_addRoom 1 = .ok (.iload_n 1, 1) := by decide +kernel
theorem dX10_addRoom_2 : decode cX10_addRoom 2 = .ok (.invokevirtual 68, 3) := by decide +kernel
theorem dX10_addRoom_5 : decode cX10_addRoom 5 = .ok (.invokestatic 72, 3) := by decide +kernel
theorem dX10_addRoom_8 : decode cX10_addRoom 8 = .ok (.aload_n 0, 1) := by decide +kernel
theorem dX10_addRoom_9 : decode cX10_addRoom 9 = .ok (.invokevirtual 76, 3) := by decide +kernel
theorem dX10_addRoom_12 : decode cX10_addRoom 12 = .ok (.aload_n 0, 1) := by decide +kernel
theorem dX10_addRoom_13 : decode cX10_addRoom 13 = .ok (.getfield 12, 3) := by decide +kernel
theorem dX10_addRoom_16 : decode cX10_addRoom 16 = .ok (.iload_n 1, 1) := by decide +kernel
theorem dX10_addRoom_17 : decode cX10_addRoom 17 = .ok (.invokevirtual 79, 3) := by decide +kernel
theorem dX10_addRoom_20 : decode cX10_addRoom 20 = .ok (.ireturn, 1) := by decide +kernel
abbrev rmX10_addRoom : Room := { frames := 7, cells := 1, slots := 6, locals := 144 }
set_option maxHeartbeats 4000000 in
set_option maxRecDepth 100000 in
theorem metX10_addRoom {l : Launch} {s0 : State} {b B : Nat} {D : va_G} {T : Nat → ClassId} (F : FX l s0 b D T B) {X : Nat → Prop} (hX : ∀ o, o < 560 → ¬ X (B + o)) {N : Nat} {μ : Mem} {a0 : Nat} {a1 : Int32} {r : Mem × (Nat ⊕ Int32)} (k0 : IsGa a0) (h : fX10_addRoom N μ a0 a1 = some r) : gXMet l yX10_addRoom cX10_addRoom 2 (some .int) rmX10_addRoom [.ref (B + a0), .int a1] (gWC s0 D T B μ) (KC s0 X) (oI r.2) (gWC s0 D T B r.1) (gA B X) 1 6 := by
  refine gXI_of RX10 (by decide +kernel) rfl (Nat.le_of_ble_eq_true rfl) ?_
  intro p e s m args below meth c ls Q hx hb hlocks hml hown hts hW hk hl hS hE
  obtain ⟨hend, hthr, htb, hQ⟩ := hE
  have hC := FX_C F hk hx hb hown hts
  have hA := gA_all hX
  have hl : lv_has ls 2 [(0, .ref (B + a0)), (1, .int a1)] := hl
  unfold fX10_addRoom at h
  refine lv_aload_n hx hb dX10_addRoom_0 rfl (lv_at hl 0 rfl) ?_
  refine lv_iload_n hx hb dX10_addRoom_1 rfl (lv_at hl 1 rfl) ?_
  obtain ⟨r1, hcall, h⟩ := bd_out h
  refine g0_callV (As := [.int a1]) hC hml hS hW (KC_at hk hS F.2.2.2.2) KC_blind (metX10_roomFault F hX k0 hcall) ml_X10_68 (gw_recv hC hW k0.1 (k0.2.2.1 (gfm s0) T B (μ a0)) rfl) ⟨rfl, rfl, (Nat.le_of_ble_eq_true rfl), (Nat.le_of_ble_eq_true rfl)⟩ rfl hl.1 rfl (Nat.le_of_ble_eq_true rfl) dX10_addRoom_2 ⟨(Nat.le_of_ble_eq_true rfl), (Nat.le_of_ble_eq_true rfl)⟩ (fun H locs hW hS => ?_)
  rcases tb_out h with ⟨μ3, n5, hcall, h9⟩ | ⟨μ3, r4, hcall, h⟩
  · cases h9
    exact gx_callS (As := [.ref (gfa s0 r1)]) hC hml hS hW (KC_at hk hS F.2.2.2.2) KC_blind (metX10_stopIf F hX  hcall) ml_X10_72 ⟨rfl, rfl, (Nat.le_of_ble_eq_true rfl), (Nat.le_of_ble_eq_true rfl)⟩ rfl hl.1 rfl (Nat.le_of_ble_eq_true rfl) dX10_addRoom_5 ⟨(Nat.le_of_ble_eq_true rfl), (Nat.le_of_ble_eq_true rfl)⟩ (fun v9 ho => by cases ho) (fun k9 ho H locs q9 ce9 hW hS hce hvm hcl => by cases ho; exact hthr _ rfl hW hS hce hvm hcl (Nat.le_of_ble_eq_true rfl) (Nat.le_of_ble_eq_true rfl))
  refine gx_callS (As := [.ref (gfa s0 r1)]) hC hml hS hW (KC_at hk hS F.2.2.2.2) KC_blind (metX10_stopIf F hX  hcall) ml_X10_72 ⟨rfl, rfl, (Nat.le_of_ble_eq_true rfl), (Nat.le_of_ble_eq_true rfl)⟩ rfl hl.1 rfl (Nat.le_of_ble_eq_true rfl) dX10_addRoom_5 ⟨(Nat.le_of_ble_eq_true rfl), (Nat.le_of_ble_eq_true rfl)⟩ (fun v9 ho H locs hW hS => ?_) (fun k9 ho => by cases ho)
  cases ho
  refine W.widen (k := 1) (n := 6) (Nat.le_of_ble_eq_true rfl) (Nat.le_of_ble_eq_true rfl) ?_
  refine lv_aload_n hx hb dX10_addRoom_8 rfl (lv_at hl 0 rfl) ?_
  obtain ⟨r6, hcall, h⟩ := bd_out h
  refine g0_callV (As := []) hC hml hS hW (KC_at hk hS F.2.2.2.2) KC_blind (metX10_remember F hX k0 hcall) ml_X10_76 (gw_recv hC hW k0.1 (k0.2.2.1 (gfm s0) T B (μ3 a0)) rfl) ⟨rfl, rfl, (Nat.le_of_ble_eq_true rfl), (Nat.le_of_ble_eq_true rfl)⟩ rfl hl.1 rfl (Nat.le_of_ble_eq_true rfl) dX10_addRoom_9 ⟨(Nat.le_of_ble_eq_true rfl), (Nat.le_of_ble_eq_true rfl)⟩ (fun H locs hW hS => ?_)
  refine lv_aload_n hx hb dX10_addRoom_12 rfl (lv_at hl 0 rfl) ?_
  refine gw_get (v := .ref (B + 1)) hC hW fl_X10_12 k0.1 (k0.2.2.1 (gfm s0) T B (r6 a0)) rfl dX10_addRoom_13 ?_
  refine lv_iload_n hx hb dX10_addRoom_16 rfl (lv_at hl 1 rfl) ?_
  obtain ⟨r7, hcall, h⟩ := bd_out h
  refine g0_callV (As := [.int a1]) hC hml hS hW (KC_at hk hS F.2.2.2.2) KC_blind (metX8_putRoom F hX k0.2.2.2.1 hcall) ml_X10_79 (gw_recv hC hW k0.2.2.2.1.1 (k0.2.2.2.1.2.1 (gfm s0) T B (r6 1)) rfl) ⟨rfl, rfl, (Nat.le_of_ble_eq_true rfl), (Nat.le_of_ble_eq_true rfl)⟩ rfl hl.1 rfl (Nat.le_of_ble_eq_true rfl) dX10_addRoom_17 ⟨(Nat.le_of_ble_eq_true rfl), (Nat.le_of_ble_eq_true rfl)⟩ (fun H locs hW hS => ?_)
  cases h
  exact hend _ rfl dX10_addRoom_20 hW hS (Nat.le_of_ble_eq_true rfl) (Nat.le_of_ble_eq_true rfl)

theorem dX10_setWarmth_0 : decode cX10_setWarmth 0 = .ok (.aload_n 0, 1) := by decide +kernel
theorem dX10_setWarmth_1 : decode cX10_setWarmth 1 = .ok (.getfield 12, 3) := by decide +kernel
theorem dX10_setWarmth_4 : decode cX10_setWarmth 4 = .ok (.iload_n 1, 1) := by decide +kernel
theorem dX10_setWarmth_5 : decode cX10_setWarmth 5 = .ok (.invokevirtual 83, 3) := by decide +kernel
theorem dX10_setWarmth_8 : decode cX10_setWarmth 8 = .ok (.invokestatic 72, 3) := by decide +kernel
theorem dX10_setWarmth_11 : decode cX10_setWarmth 11 = .ok (.iload_n 2, 1) := by decide +kernel
theorem dX10_setWarmth_12 : decode cX10_setWarmth 12 = .ok (.invokestatic 86, 3) := by decide +kernel
theorem dX10_setWarmth_15 : decode cX10_setWarmth 15 = .ok (.invokestatic 72, 3) := by decide +kernel
theorem dX10_setWarmth_18 : decode cX10_setWarmth 18 = .ok (.aload_n 0, 1) := by decide +kernel
theorem dX10_setWarmth_19 : decode cX10_setWarmth 19 = .ok (.invokevirtual 76, 3) := by decide +kernel
theorem dX10_setWarmth_22 : decode cX10_setWarmth 22 = .ok (.aload_n 0, 1) := by decide +kernel
theorem dX10_setWarmth_23 : decode cX10_setWarmth 23 = .ok (.getfield 12, 3) := by decide +kernel
theorem dX10_setWarmth_26 : decode cX10_setWarmth 26 = .ok (.getfield 89, 3) := by decide +kernel
theorem dX10_setWarmth_29 : decode cX10_setWarmth 29 = .ok (.iload_n 1, 1) := by decide +kernel
theorem dX10_setWarmth_30 : decode cX10_setWarmth 30 = .ok (.iaload, 1) := by decide +kernel
theorem dX10_setWarmth_31 : decode cX10_setWarmth 31 = .ok (.istore_n 3, 1) := by decide +kernel
theorem dX10_setWarmth_32 : decode cX10_setWarmth 32 = .ok (.aload_n 0, 1) := by decide +kernel
theorem dX10_setWarmth_33 : decode cX10_setWarmth 33 = .ok (.getfield 12, 3) := by decide +kernel
theorem dX10_setWarmth_36 : decode cX10_setWarmth 36 = .ok (.getfield 89, 3) := by decide +kernel
theorem dX10_setWarmth_39 : decode cX10_setWarmth 39 = .ok (.iload_n 1, 1) := by decide +kernel
theorem dX10_setWarmth_40 : decode cX10_setWarmth 40 = .ok (.iload_n 2, 1) := by decide +kernel
theorem dX10_setWarmth_41 : decode cX10_setWarmth 41 = .ok (.iastore, 1) := by decide +kernel
theorem dX10_setWarmth_42 : decode cX10_setWarmth 42 = .ok (.iload_n 3, 1) := by decide +kernel
theorem dX10_setWarmth_43 : decode cX10_setWarmth 43 = .ok (.ireturn, 1) := by decide +kernel
abbrev rmX10_setWarmth : Room := { frames := 7, cells := 2, slots := 12, locals := 144 }
set_option maxHeartbeats 4000000 in
set_option maxRecDepth 100000 in
theorem metX10_setWarmth {l : Launch} {s0 : State} {b B : Nat} {D : va_G} {T : Nat → ClassId} (F : FX l s0 b D T B) {X : Nat → Prop} (hX : ∀ o, o < 560 → ¬ X (B + o)) {N : Nat} {μ : Mem} {a0 : Nat} {a1 : Int32} {a2 : Int32} {r : Mem × (Nat ⊕ Int32)} (k0 : IsGa a0) (h : fX10_setWarmth N μ a0 a1 a2 = some r) : gXMet l yX10_setWarmth cX10_setWarmth 4 (some .int) rmX10_setWarmth [.ref (B + a0), .int a1, .int a2] (gWC s0 D T B μ) (KC s0 X) (oI r.2) (gWC s0 D T B r.1) (gA B X) 2 12 := by
  refine gXI_of RX10 (by decide +kernel) rfl (Nat.le_of_ble_eq_true rfl) ?_
  intro p e s m args below meth c ls Q hx hb hlocks hml hown hts hW hk hl hS hE
  obtain ⟨hend, hthr, htb, hQ⟩ := hE
  have hC := FX_C F hk hx hb hown hts
  have hA := gA_all hX
  have hl : lv_has ls 4 [(0, .ref (B + a0)), (1, .int a1), (2, .int a2)] := hl
  unfold fX10_setWarmth at h
  refine lv_aload_n hx hb dX10_setWarmth_0 rfl (lv_at hl 0 rfl) ?_
  refine gw_get (v := .ref (B + 1)) hC hW fl_X10_12 k0.1 (k0.2.2.1 (gfm s0) T B (μ a0)) rfl dX10_setWarmth_1 ?_
  refine lv_iload_n hx hb dX10_setWarmth_4 rfl (lv_at hl 1 rfl) ?_
  obtain ⟨r1, hcall, h⟩ := bd_out h
  refine g0_callV (As := [.int a1]) hC hml hS hW (KC_at hk hS F.2.2.2.2) KC_blind (metX8_roomIndexFault F hX k0.2.2.2.1 hcall) ml_X10_83 (gw_recv hC hW k0.2.2.2.1.1 (k0.2.2.2.1.2.1 (gfm s0) T B (μ 1)) rfl) ⟨rfl, rfl, (Nat.le_of_ble_eq_true rfl), (Nat.le_of_ble_eq_true rfl)⟩ rfl hl.1 rfl (Nat.le_of_ble_eq_true rfl) dX10_setWarmth_5 ⟨(Nat.le_of_ble_eq_true rfl), (Nat.le_of_ble_eq_true rfl)⟩ (fun H locs hW hS => ?_)
  rcases tb_out h with ⟨μ3, n5, hcall, h9⟩ | ⟨μ3, r4, hcall, h⟩
  · cases h9
    exact gx_callS (As := [.ref (gfa s0 r1)]) hC hml hS hW (KC_at hk hS F.2.2.2.2) KC_blind (metX10_stopIf F hX  hcall) ml_X10_72 ⟨rfl, rfl, (Nat.le_of_ble_eq_true rfl), (Nat.le_of_ble_eq_true rfl)⟩ rfl hl.1 rfl (Nat.le_of_ble_eq_true rfl) dX10_setWarmth_8 ⟨(Nat.le_of_ble_eq_true rfl), (Nat.le_of_ble_eq_true rfl)⟩ (fun v9 ho => by cases ho) (fun k9 ho H locs q9 ce9 hW hS hce hvm hcl => by cases ho; exact hthr _ rfl hW hS hce hvm hcl (Nat.le_of_ble_eq_true rfl) (Nat.le_of_ble_eq_true rfl))
  refine gx_callS (As := [.ref (gfa s0 r1)]) hC hml hS hW (KC_at hk hS F.2.2.2.2) KC_blind (metX10_stopIf F hX  hcall) ml_X10_72 ⟨rfl, rfl, (Nat.le_of_ble_eq_true rfl), (Nat.le_of_ble_eq_true rfl)⟩ rfl hl.1 rfl (Nat.le_of_ble_eq_true rfl) dX10_setWarmth_8 ⟨(Nat.le_of_ble_eq_true rfl), (Nat.le_of_ble_eq_true rfl)⟩ (fun v9 ho H locs hW hS => ?_) (fun k9 ho => by cases ho)
  cases ho
  refine W.widen (k := 1) (n := 6) (Nat.le_of_ble_eq_true rfl) (Nat.le_of_ble_eq_true rfl) ?_
  refine lv_iload_n hx hb dX10_setWarmth_11 rfl (lv_at hl 2 rfl) ?_
  obtain ⟨r6, hcall, h⟩ := bd_out h
  refine g0_callS (As := [.int a2]) hC hml hS hW (KC_at hk hS F.2.2.2.2) KC_blind (metX10_digitFault F hX  hcall) ml_X10_86 ⟨rfl, rfl, (Nat.le_of_ble_eq_true rfl), (Nat.le_of_ble_eq_true rfl)⟩ rfl hl.1 rfl (Nat.le_of_ble_eq_true rfl) dX10_setWarmth_12 ⟨(Nat.le_of_ble_eq_true rfl), (Nat.le_of_ble_eq_true rfl)⟩ (fun H locs hW hS => ?_)
  rcases tb_out h with ⟨μ8, n10, hcall, h9⟩ | ⟨μ8, r9, hcall, h⟩
  · cases h9
    exact gx_callS (As := [.ref (gfa s0 r6)]) hC hml hS hW (KC_at hk hS F.2.2.2.2) KC_blind (metX10_stopIf F hX  hcall) ml_X10_72 ⟨rfl, rfl, (Nat.le_of_ble_eq_true rfl), (Nat.le_of_ble_eq_true rfl)⟩ rfl hl.1 rfl (Nat.le_of_ble_eq_true rfl) dX10_setWarmth_15 ⟨(Nat.le_of_ble_eq_true rfl), (Nat.le_of_ble_eq_true rfl)⟩ (fun v9 ho => by cases ho) (fun k9 ho H locs q9 ce9 hW hS hce hvm hcl => by cases ho; exact hthr _ rfl hW hS hce hvm hcl (Nat.le_of_ble_eq_true rfl) (Nat.le_of_ble_eq_true rfl))
  refine gx_callS (As := [.ref (gfa s0 r6)]) hC hml hS hW (KC_at hk hS F.2.2.2.2) KC_blind (metX10_stopIf F hX  hcall) ml_X10_72 ⟨rfl, rfl, (Nat.le_of_ble_eq_true rfl), (Nat.le_of_ble_eq_true rfl)⟩ rfl hl.1 rfl (Nat.le_of_ble_eq_true rfl) dX10_setWarmth_15 ⟨(Nat.le_of_ble_eq_true rfl), (Nat.le_of_ble_eq_true rfl)⟩ (fun v9 ho H locs hW hS => ?_) (fun k9 ho => by cases ho)
  cases ho
  refine W.widen (k := 2) (n := 12) (Nat.le_of_ble_eq_true rfl) (Nat.le_of_ble_eq_true rfl) ?_
  refine lv_aload_n hx hb dX10_setWarmth_18 rfl (lv_at hl 0 rfl) ?_
  obtain ⟨r11, hcall, h⟩ := bd_out h
  refine g0_callV (As := []) hC hml hS hW (KC_at hk hS F.2.2.2.2) KC_blind (metX10_remember F hX k0 hcall) ml_X10_76 (gw_recv hC hW k0.1 (k0.2.2.1 (gfm s0) T B (μ8 a0)) rfl) ⟨rfl, rfl, (Nat.le_of_ble_eq_true rfl), (Nat.le_of_ble_eq_true rfl)⟩ rfl hl.1 rfl (Nat.le_of_ble_eq_true rfl) dX10_setWarmth_19 ⟨(Nat.le_of_ble_eq_true rfl), (Nat.le_of_ble_eq_true rfl)⟩ (fun H locs hW hS => ?_)
  refine lv_aload_n hx hb dX10_setWarmth_22 rfl (lv_at hl 0 rfl) ?_
  refine gw_get (v := .ref (B + 1)) hC hW fl_X10_12 k0.1 (k0.2.2.1 (gfm s0) T B (r11 a0)) rfl dX10_setWarmth_23 ?_
  refine gw_get (v := .ref (B + (1 + 1))) hC hW fl_X10_89 k0.2.2.2.1.1 (k0.2.2.2.1.2.1 (gfm s0) T B (r11 1)) rfl dX10_setWarmth_26 ?_
  refine lv_iload_n hx hb dX10_setWarmth_29 rfl (lv_at hl 1 rfl) ?_
  obtain ⟨v12, e13, hi14, h⟩ := ag_o h
  refine gq_iald hC hW k0.2.2.2.1.2.2.1.1 (k0.2.2.2.1.2.2.1.2 (gfm s0) T B (r11 (1 + 1))) (t0 := 0) rfl e13 hi14 dX10_setWarmth_30 ?_
  refine lv_istore_n (lv' := [(3, .int v12), (0, .ref (B + a0)), (1, .int a1), (2, .int a2)]) hx hb dX10_setWarmth_31 rfl hl (by decide) rfl (fun ls hl => ?_)
  refine lv_aload_n hx hb dX10_setWarmth_32 rfl (lv_at hl 1 rfl) ?_
  refine gw_get (v := .ref (B + 1)) hC hW fl_X10_12 k0.1 (k0.2.2.1 (gfm s0) T B (r11 a0)) rfl dX10_setWarmth_33 ?_
  refine gw_get (v := .ref (B + (1 + 1))) hC hW fl_X10_89 k0.2.2.2.1.1 (k0.2.2.2.1.2.1 (gfm s0) T B (r11 1)) rfl dX10_setWarmth_36 ?_
  refine lv_iload_n hx hb dX10_setWarmth_39 rfl (lv_at hl 2 rfl) ?_
  refine lv_iload_n hx hb dX10_setWarmth_40 rfl (lv_at hl 3 rfl) ?_
  obtain ⟨μ15, e16, hi17, h⟩ := aw_o h
  refine gq_iast hC hS hW hA k0.2.2.2.1.2.2.1.1 (k0.2.2.2.1.2.2.1.2 (gfm s0) T B) (t0 := 0) rfl e16 hi17 dX10_setWarmth_41 (fun H locs hW hS => ?_)
  refine lv_iload_n hx hb dX10_setWarmth_42 rfl (lv_at hl 0 rfl) ?_
  cases h
  exact hend _ rfl dX10_setWarmth_43 hW hS (Nat.le_of_ble_eq_true rfl) (Nat.le_of_ble_eq_true rfl)

theorem dX10_legFault_0 : decode cX10_legFault 0 = .ok (.aload_n 0, 1) := by decide +kernel
theorem dX10_legFault_1 : decode cX10_legFault 1 = .ok (.getfield 12, 3) := by decide +kernel
theorem dX10_legFault_4 : decode cX10_legFault 4 = .ok (.iload_n 1, 1) := by decide +kernel
theorem dX10_legFault_5 : decode cX10_legFault 5 = .ok (.iload_n 2, 1) := by decide +kernel
theorem dX10_legFault_6 : decode cX10_legFault 6 = .ok (.invokevirtual 115, 3) := by decide +kernel
theorem dX10_legFault_9 : decode cX10_legFault 9 = .ok (.getstatic 451, 3) := by decide +kernel
theorem dX10_legFault_12 : decode cX10_legFault 12 = .ok (.if_acmp .eq 7, 3) := by decide +kernel
theorem dX10_legFault_15 : decode cX10_legFault 15 = .ok (.getstatic 408, 3) := by decide +kernel
theorem dX10_legFault_18 : decode cX10_legFault 18 = .ok (.areturn, 1) := by decide +kernel
theorem dX10_legFault_19 : decode cX10_legFault 19 = .ok (.iload_n 1, 1) := by decide +kernel
theorem dX10_legFault_20 : decode cX10_legFault 20 = .ok (.iload_n 2, 1) := by decide +kernel
theorem dX10_legFault_21 : decode cX10_legFault 21 = .ok (.if_icmp .eq 13, 3) := by decide +kernel
theorem dX10_legFault_24 : decode cX10_legFault 24 = .ok (.iconst 1, 1) := by decide +kernel
theorem dX10_legFault_25 : decode cX10_legFault 25 = .ok (.iload_n 3, 1) := by decide +kernel
theorem dX10_legFault_26 : decode cX10_legFault 26 = .ok (.bipush 99, 2) := by decide +kernel
theorem dX10_legFault_28 : decode cX10_legFault 28 = .ok (.invokestatic 447, 3) := by decide +kernel
theorem dX10_legFault_31 : decode cX10_legFault 31 = .ok (.ifCond .ne 7, 3) := by decide +kernel
theorem dX10_legFault_34 : decode cX10_legFault 34 = .ok (.getstatic 416, 3) := by decide +kernel
theorem dX10_legFault_37 : decode cX10_legFault 37 = .ok (.areturn, 1) := by decide +kernel
theorem dX10_legFault_38 : decode cX10_legFault 38 = .ok (.iload 4, 2) := by decide +kernel
theorem dX10_legFault_40 : decode cX10_legFault 40 = .ok (.invokestatic 86, 3) := by decide +kernel
theorem dX10_legFault_43 : decode cX10_legFault 43 = .ok (.areturn, 1) := by decide +kernel
abbrev rmX10_legFault : Room := { frames := 4, cells := 0, slots := 0, locals := 103 }
set_option maxHeartbeats 4000000 in
set_option maxRecDepth 100000 in
theorem metX10_legFault {l : Launch} {s0 : State} {b B : Nat} {D : va_G} {T : Nat → ClassId} (F : FX l s0 b D T B) {X : Nat → Prop} (hX : ∀ o, o < 560 → ¬ X (B + o)) {N : Nat} {μ : Mem} {a0 : Nat} {a1 : Int32} {a2 : Int32} {a3 : Int32} {a4 : Int32} {r : Nat} (k0 : IsGa a0) (h : fX10_legFault N μ a0 a1 a2 a3 a4 = some r) : gMet l yX10_legFault cX10_legFault 5 (some (.object "AvalancheGallery$Fault")) rmX10_legFault [.ref (B + a0), .int a1, .int a2, .int a3, .int a4] (gWC s0 D T B μ) (KC s0 X) (some (.ref (gfa s0 r))) (gWC s0 D T B μ) (gA B X) 0 0 := by
  refine gR_of RX10 (by decide +kernel) rfl (Nat.le_of_ble_eq_true rfl) ?_
  intro p e s m args below meth c ls Q hx hb hlocks hml hown hts hW hk hl hS hend
  have hC := FX_C F hk hx hb hown hts
  have hA := gA_all hX
  have hl : lv_has ls 5 [(0, .ref (B + a0)), (1, .int a1), (2, .int a2), (3, .int a3), (4, .int a4)] := hl
  unfold fX10_legFault at h
  refine lv_aload_n hx hb dX10_legFault_0 rfl (lv_at hl 0 rfl) ?_
  refine gw_get (v := .ref (B + 1)) hC hW fl_X10_12 k0.1 (k0.2.2.1 (gfm s0) T B (μ a0)) rfl dX10_legFault_1 ?_
  refine lv_iload_n hx hb dX10_legFault_4 rfl (lv_at hl 1 rfl) ?_
  refine lv_iload_n hx hb dX10_legFault_5 rfl (lv_at hl 2 rfl) ?_
  obtain ⟨r1, hcall, h⟩ := bd_out h
  refine g0_callV (As := [.int a1, .int a2]) hC hml hS hW (KC_at hk hS F.2.2.2.2) KC_blind (metX8_pairFault F hX k0.2.2.2.1 hcall) ml_X10_115 (gw_recv hC hW k0.2.2.2.1.1 (k0.2.2.2.1.2.1 (gfm s0) T B (μ 1)) rfl) ⟨rfl, rfl, (Nat.le_of_ble_eq_true rfl), (Nat.le_of_ble_eq_true rfl)⟩ rfl hl.1 rfl (Nat.le_of_ble_eq_true rfl) dX10_legFault_6 ⟨(Nat.le_of_ble_eq_true rfl), (Nat.le_of_ble_eq_true rfl)⟩ (fun H locs hW hS => ?_)
  refine gw_gets hC (zF_0 F hk) hS fs_X10_451 dX10_legFault_9 ?_
  refine gw_aeF (tgt := 19) F hx hb dX10_legFault_12 (by decide) (fun c2 => ?_) (fun c2 => ?_)
  · replace h := ite_t c2 h
    refine lv_iload_n hx hb dX10_legFault_19 rfl (lv_at hl 1 rfl) ?_
    refine lv_iload_n hx hb dX10_legFault_20 rfl (lv_at hl 2 rfl) ?_
    obtain ⟨j4, hj6, h⟩ := jn1_o h
    have J5 : ∀ (u3 : Unit), j4 u3 = some r → ∀ (H : Heap) (locs : List Loc) (ls : Array Slot), gWC s0 D T B μ H → va_S (gA B X) s.heap H locs → lv_has ls 5 [] → W p l e rmX10_legFault s m args below meth c H locs 0 0 Q (F0 m 34 ls []) := by
      clear h hW hS hl
      intro u3 h H locs ls hW hS hl
      replace h := (hj6 u3).symm.trans h
      refine gw_gets hC (zF_2 F hk) hS fs_X10_416 dX10_legFault_34 ?_
      cases h
      exact hend dX10_legFault_37 hW hS (Nat.le_of_ble_eq_true rfl) (Nat.le_of_ble_eq_true rfl)
    refine lv_icmp_eq (tgt := 34) hx hb dX10_legFault_21 (by decide) (fun c7 => ?_) (fun c7 => ?_)
    · replace h := ite_t c7 h
      exact J5 _ h _ _ _ hW hS (lv_sub hl [] rfl)
    · replace h := ite_f c7 h
      refine lv_iconst (v := 1) hx hb dX10_legFault_24 (by decide) ?_
      refine lv_iload_n hx hb dX10_legFault_25 rfl (lv_at hl 3 rfl) ?_
      refine lv_bipush (v := 99) hx hb dX10_legFault_26 (by decide) ?_
      obtain ⟨r8, hcall, h⟩ := bd_out h
      refine g0_callS (As := [.int 1, .int a3, .int 99]) hC hml hS hW (KC_at hk hS F.2.2.2.2) KC_blind (metX10_isFrom F hX  hcall) ml_X10_447 ⟨rfl, rfl, (Nat.le_of_ble_eq_true rfl), (Nat.le_of_ble_eq_true rfl)⟩ rfl hl.1 rfl (Nat.le_of_ble_eq_true rfl) dX10_legFault_28 ⟨(Nat.le_of_ble_eq_true rfl), (Nat.le_of_ble_eq_true rfl)⟩ (fun H locs hW hS => ?_)
      refine gw_if_neZ (tgt := 38) hx hb dX10_legFault_31 (by decide) (fun c9 => ?_) (fun c9 => ?_)
      · replace h := cond_t c9 h
        refine lv_iload hx hb dX10_legFault_38 (lv_at hl 4 rfl) ?_
        obtain ⟨r10, hcall, h⟩ := bd_out h
        refine g0_callS (As := [.int a4]) hC hml hS hW (KC_at hk hS F.2.2.2.2) KC_blind (metX10_digitFault F hX  hcall) ml_X10_86 ⟨rfl, rfl, (Nat.le_of_ble_eq_true rfl), (Nat.le_of_ble_eq_true rfl)⟩ rfl hl.1 rfl (Nat.le_of_ble_eq_true rfl) dX10_legFault_40 ⟨(Nat.le_of_ble_eq_true rfl), (Nat.le_of_ble_eq_true rfl)⟩ (fun H locs hW hS => ?_)
        cases h
        exact hend dX10_legFault_43 hW hS (Nat.le_of_ble_eq_true rfl) (Nat.le_of_ble_eq_true rfl)
      · replace h := cond_f c9 h
        exact J5 _ h _ _ _ hW hS (lv_sub hl [] rfl)
  · replace h := ite_f c2 h
    refine gw_gets hC (zF_1 F hk) hS fs_X10_408 dX10_legFault_15 ?_
    cases h
    exact hend dX10_legFault_18 hW hS (Nat.le_of_ble_eq_true rfl) (Nat.le_of_ble_eq_true rfl)

theorem dX10_setLeg_0 : decode cX10_setLeg 0 = .ok (.aload_n 0, 1) := by decide +kernel
theorem dX10_setLeg_1 : decode cX10_setLeg 1 = .ok (.iload_n 1, 1) := by decide +kernel
theorem dX10_setLeg_2 : decode cX10_setLeg 2 = .ok (.iload_n 2, 1) := by decide +kernel
theorem dX10_setLeg_3 : decode cX10_setLeg 3 = .ok (.iload_n 3, 1) := by decide +kernel
theorem dX10_setLeg_4 : decode cX10_setLeg 4 = .ok (.iload 4, 2) := by decide +kernel
theorem dX10_setLeg_6 : decode cX10_setLeg 6 = .ok (.invokevirtual 93, 3) := by decide +kernel
theorem dX10_setLeg_9 : decode cX10_setLeg 9 = .ok (.invokestatic 72, 3) := by decide +kernel
theorem dX10_setLeg_12 : decode cX10_setLeg 12 = .ok (.aload_n 0, 1) := by decide +kernel
theorem dX10_setLeg_13 : decode cX10_setLeg 13 = .ok (.invokevirtual 76, 3) := by decide +kernel
theorem dX10_setLeg_16 : decode cX10_setLeg 16 = .ok (.aload_n 0, 1) := by decide +kernel
theorem dX10_setLeg_17 : decode cX10_setLeg 17 = .ok (.getfield 12, 3) := by decide +kernel
theorem dX10_setLeg_20 : decode cX10_setLeg 20 = .ok (.iload_n 1, 1) := by decide +kernel
theorem dX10_setLeg_21 : decode cX10_setLeg 21 = .ok (.iload_n 2, 1) := by decide +kernel
theorem dX10_setLeg_22 : decode cX10_setLeg 22 = .ok (.iload_n 3, 1) := by decide +kernel
theorem dX10_setLeg_23 : decode cX10_setLeg 23 = .ok (.iload 4, 2) := by decide +kernel
theorem dX10_setLeg_25 : decode cX10_setLeg 25 = .ok (.invokevirtual 97, 3) := by decide +kernel
theorem dX10_setLeg_28 : decode cX10_setLeg 28 = .ok (.ireturn, 1) := by decide +kernel
abbrev rmX10_setLeg : Room := { frames := 7, cells := 1, slots := 6, locals := 144 }
set_option maxHeartbeats 4000000 in
set_option maxRecDepth 100000 in
theorem metX10_setLeg {l : Launch} {s0 : State} {b B : Nat} {D : va_G} {T : Nat → ClassId} (F : FX l s0 b D T B) {X : Nat → Prop} (hX : ∀ o, o < 560 → ¬ X (B + o)) {N : Nat} {μ : Mem} {a0 : Nat} {a1 : Int32} {a2 : Int32} {a3 : Int32} {a4 : Int32} {r : Mem × (Nat ⊕ Int32)} (k0 : IsGa a0) (h : fX10_setLeg N μ a0 a1 a2 a3 a4 = some r) : gXMet l yX10_setLeg cX10_setLeg 5 (some .int) rmX10_setLeg [.ref (B + a0), .int a1, .int a2, .int a3, .int a4] (gWC s0 D T B μ) (KC s0 X) (oI r.2) (gWC s0 D T B r.1) (gA B X) 1 6 := by
  refine gXI_of RX10 (by decide +kernel) rfl (Nat.le_of_ble_eq_true rfl) ?_
  intro p e s m args below meth c ls Q hx hb hlocks hml hown hts hW hk hl hS hE
  obtain ⟨hend, hthr, htb, hQ⟩ := hE
  have hC := FX_C F hk hx hb hown hts
  have hA := gA_all hX
  have hl : lv_has ls 5 [(0, .ref (B + a0)), (1, .int a1), (2, .int a2), (3, .int a3), (4, .int a4)] := hl
  unfold fX10_setLeg at h
  refine lv_aload_n hx hb dX10_setLeg_0 rfl (lv_at hl 0 rfl) ?_
  refine lv_iload_n hx hb dX10_setLeg_1 rfl (lv_at hl 1 rfl) ?_
  refine lv_iload_n hx hb dX10_setLeg_2 rfl (lv_at hl 2 rfl) ?_
  refine lv_iload_n hx hb dX10_setLeg_3 rfl (lv_at hl 3 rfl) ?_
  refine lv_iload hx hb dX10_setLeg_4 (lv_at hl 4 rfl) ?_
  obtain ⟨r1, hcall, h⟩ := bd_out h
  refine g0_callV (As := [.int a1, .int a2, .int a3, .int a4]) hC hml hS hW (KC_at hk hS F.2.2.2.2) KC_blind (metX10_legFault F hX k0 hcall) ml_X10_93 (gw_recv hC hW k0.1 (k0.2.2.1 (gfm s0) T B (μ a0)) rfl) ⟨rfl, rfl, (Nat.le_of_ble_eq_true rfl), (Nat.le_of_ble_eq_true rfl)⟩ rfl hl.1 rfl (Nat.le_of_ble_eq_true rfl) dX10_setLeg_6 ⟨(Nat.le_of_ble_eq_true rfl), (Nat.le_of_ble_eq_true rfl)⟩ (fun H locs hW hS => ?_)
  rcases tb_out h with ⟨μ3, n5, hcall, h9⟩ | ⟨μ3, r4, hcall, h⟩
  · cases h9
    exact gx_callS (As := [.ref (gfa s0 r1)]) hC hml hS hW (KC_at hk hS F.2.2.2.2) KC_blind (metX10_stopIf F hX  hcall) ml_X10_72 ⟨rfl, rfl, (Nat.le_of_ble_eq_true rfl), (Nat.le_of_ble_eq_true rfl)⟩ rfl hl.1 rfl (Nat.le_of_ble_eq_true rfl) dX10_setLeg_9 ⟨(Nat.le_of_ble_eq_true rfl), (Nat.le_of_ble_eq_true rfl)⟩ (fun v9 ho => by cases ho) (fun k9 ho H locs q9 ce9 hW hS hce hvm hcl => by cases ho; exact hthr _ rfl hW hS hce hvm hcl (Nat.le_of_ble_eq_true rfl) (Nat.le_of_ble_eq_true rfl))
  refine gx_callS (As := [.ref (gfa s0 r1)]) hC hml hS hW (KC_at hk hS F.2.2.2.2) KC_blind (metX10_stopIf F hX  hcall) ml_X10_72 ⟨rfl, rfl, (Nat.le_of_ble_eq_true rfl), (Nat.le_of_ble_eq_true rfl)⟩ rfl hl.1 rfl (Nat.le_of_ble_eq_true rfl) dX10_setLeg_9 ⟨(Nat.le_of_ble_eq_true rfl), (Nat.le_of_ble_eq_true rfl)⟩ (fun v9 ho H locs hW hS => ?_) (fun k9 ho => by cases ho)
  cases ho
  refine W.widen (k := 1) (n := 6) (Nat.le_of_ble_eq_true rfl) (Nat.le_of_ble_eq_true rfl) ?_
  refine lv_aload_n hx hb dX10_setLeg_12 rfl (lv_at hl 0 rfl) ?_
  obtain ⟨r6, hcall, h⟩ := bd_out h
  refine g0_callV (As := []) hC hml hS hW (KC_at hk hS F.2.2.2.2) KC_blind (metX10_remember F hX k0 hcall) ml_X10_76 (gw_recv hC hW k0.1 (k0.2.2.1 (gfm s0) T B (μ3 a0)) rfl) ⟨rfl, rfl, (Nat.le_of_ble_eq_true rfl), (Nat.le_of_ble_eq_true rfl)⟩ rfl hl.1 rfl (Nat.le_of_ble_eq_true rfl) dX10_setLeg_13 ⟨(Nat.le_of_ble_eq_true rfl), (Nat.le_of_ble_eq_true rfl)⟩ (fun H locs hW hS => ?_)
  refine lv_aload_n hx hb dX10_setLeg_16 rfl (lv_at hl 0 rfl) ?_
  refine gw_get (v := .ref (B + 1)) hC hW fl_X10_12 k0.1 (k0.2.2.1 (gfm s0) T B (r6 a0)) rfl dX10_setLeg_17 ?_
  refine lv_iload_n hx hb dX10_setLeg_20 rfl (lv_at hl 1 rfl) ?_
  refine lv_iload_n hx hb dX10_setLeg_21 rfl (lv_at hl 2 rfl) ?_
  refine lv_iload_n hx hb dX10_setLeg_22 rfl (lv_at hl 3 rfl) ?_
  refine lv_iload hx hb dX10_setLeg_23 (lv_at hl 4 rfl) ?_
  obtain ⟨r7, hcall, h⟩ := bd_out h
  refine g0_callV (As := [.int a1, .int a2, .int a3, .int a4]) hC hml hS hW (KC_at hk hS F.2.2.2.2) KC_blind (metX8_putLeg F hX k0.2.2.2.1 hcall) ml_X10_97 (gw_recv hC hW k0.2.2.2.1.1 (k0.2.2.2.1.2.1 (gfm s0) T B (r6 1)) rfl) ⟨rfl, rfl, (Nat.le_of_ble_eq_true rfl), (Nat.le_of_ble_eq_true rfl)⟩ rfl hl.1 rfl (Nat.le_of_ble_eq_true rfl) dX10_setLeg_25 ⟨(Nat.le_of_ble_eq_true rfl), (Nat.le_of_ble_eq_true rfl)⟩ (fun H locs hW hS => ?_)
  cases h
  exact hend _ rfl dX10_setLeg_28 hW hS (Nat.le_of_ble_eq_true rfl) (Nat.le_of_ble_eq_true rfl)

theorem dX10_missingLegFault_0 : decode cX10_missingLegFault 0 = .ok (.aload_n 0, 1) := by decide +kernel
theorem dX10_missingLegFault_1 : decode cX10_missingLegFault 1 = .ok (.getfield 12, 3) := by decide +kernel
theorem dX10_missingLegFault_4 : decode cX10_missingLegFault 4 = .ok (.iload_n 1, 1) := by decide +kernel
theorem dX10_missingLegFault_5 : decode cX10_missingLegFault 5 = .ok (.iload_n 2, 1) := by decide +kernel
theorem dX10_missingLegFault_6 : decode cX10_missingLegFault 6 = .ok (.invokevirtual 115, 3) := by decide +kernel
theorem dX10_missingLegFault_9 : decode cX10_missingLegFault 9 = .ok (.getstatic 451, 3) := by decide +kernel
theorem dX10_missingLegFault_12 : decode cX10_missingLegFault 12 = .ok (.if_acmp .eq 7, 3) := by decide +kernel
theorem dX10_missingLegFault_15 : decode cX10_missingLegFault 15 = .ok (.getstatic 408, 3) := by decide +kernel
theorem dX10_missingLegFault_18 : decode cX10_missingLegFault 18 = .ok (.areturn, 1) := by decide +kernel
theorem dX10_missingLegFault_19 : decode cX10_missingLegFault 19 = .ok (.aload_n 0, 1) := by decide +kernel
theorem dX10_missingLegFault_20 : decode cX10_missingLegFault 20 = .ok (.getfield 12, 3) := by decide +kernel
theorem dX10_missingLegFault_23 : decode cX10_missingLegFault 23 = .ok (.iload_n 1, 1) := by decide +kernel
theorem dX10_missingLegFault_24 : decode cX10_missingLegFault 24 = .ok (.iload_n 2, 1) := by decide +kernel
theorem dX10_missingLegFault_25 : decode cX10_missingLegFault 25 = .ok (.invokevirtual 454, 3) := by decide +kernel
theorem dX10_missingLegFault_28 : decode cX10_missingLegFault 28 = .ok (.ifCond .eq 9, 3) := by decide +kernel
theorem dX10_missingLegFault_31 : decode cX10_missingLegFault 31 = .ok (.getstatic 451, 3) := by decide +kernel
theorem dX10_missingLegFault_34 : decode cX10_missingLegFault 34 = .ok (.goto 6, 3) := by decide +kernel
theorem dX10_missingLegFault_37 : decode cX10_missingLegFault 37 = .ok (.getstatic 426, 3) := by decide +kernel
theorem dX10_missingLegFault_40 : decode cX10_missingLegFault 40 = .ok (.areturn, 1) := by decide +kernel
abbrev rmX10_missingLegFault : Room := { frames := 4, cells := 0, slots := 0, locals := 103 }
set_option maxHeartbeats 4000000 in
set_option maxRecDepth 100000 in
theorem metX10_missingLegFault {l : Launch} {s0 : State} {b B : Nat} {D : va_G} {T : Nat → ClassId} (F : FX l s0 b D T B) {X : Nat → Prop} (hX : ∀ o, o < 560 → ¬ X (B + o)) {N : Nat} {μ : Mem} {a0 : Nat} {a1 : Int32} {a2 : Int32} {r : Nat} (k0 : IsGa a0) (h : fX10_missingLegFault N μ a0 a1 a2 = some r) : gMet l yX10_missingLegFault cX10_missingLegFault 3 (some (.object "AvalancheGallery$Fault")) rmX10_missingLegFault [.ref (B + a0), .int a1, .int a2] (gWC s0 D T B μ) (KC s0 X) (some (.ref (gfa s0 r))) (gWC s0 D T B μ) (gA B X) 0 0 := by
  refine gR_of RX10 (by decide +kernel) rfl (Nat.le_of_ble_eq_true rfl) ?_
  intro p e s m args below meth c ls Q hx hb hlocks hml hown hts hW hk hl hS hend
  have hC := FX_C F hk hx hb hown hts
  have hA := gA_all hX
  have hl : lv_has ls 3 [(0, .ref (B + a0)), (1, .int a1), (2, .int a2)] := hl
  unfold fX10_missingLegFault at h
  refine lv_aload_n hx hb dX10_missingLegFault_0 rfl (lv_at hl 0 rfl) ?_
  refine gw_get (v := .ref (B + 1)) hC hW fl_X10_12 k0.1 (k0.2.2.1 (gfm s0) T B (μ a0)) rfl dX10_missingLegFault_1 ?_
  refine lv_iload_n hx hb dX10_missingLegFault_4 rfl (lv_at hl 1 rfl) ?_
  refine lv_iload_n hx hb dX10_missingLegFault_5 rfl (lv_at hl 2 rfl) ?_
  obtain ⟨r1, hcall, h⟩ := bd_out h
  refine g0_callV (As := [.int a1, .int a2]) hC hml hS hW (KC_at hk hS F.2.2.2.2) KC_blind (metX8_pairFault F hX k0.2.2.2.1 hcall) ml_X10_115 (gw_recv hC hW k0.2.2.2.1.1 (k0.2.2.2.1.2.1 (gfm s0) T B (μ 1)) rfl) ⟨rfl, rfl, (Nat.le_of_ble_eq_true rfl), (Nat.le_of_ble_eq_true rfl)⟩ rfl hl.1 rfl (Nat.le_of_ble_eq_true rfl) dX10_missingLegFault_6 ⟨(Nat.le_of_ble_eq_true rfl), (Nat.le_of_ble_eq_true rfl)⟩ (fun H locs hW hS => ?_)
  refine gw_gets hC (zF_0 F hk) hS fs_X10_451 dX10_missingLegFault_9 ?_
  refine gw_aeF (tgt := 19) F hx hb dX10_missingLegFault_12 (by decide) (fun c2 => ?_) (fun c2 => ?_)
  · replace h := ite_t c2 h
    refine lv_aload_n hx hb dX10_missingLegFault_19 rfl (lv_at hl 0 rfl) ?_
    refine gw_get (v := .ref (B + 1)) hC hW fl_X10_12 k0.1 (k0.2.2.1 (gfm s0) T B (μ a0)) rfl dX10_missingLegFault_20 ?_
    refine lv_iload_n hx hb dX10_missingLegFault_23 rfl (lv_at hl 1 rfl) ?_
    refine lv_iload_n hx hb dX10_missingLegFault_24 rfl (lv_at hl 2 rfl) ?_
    obtain ⟨r3, hcall, h⟩ := bd_out h
    refine g0_callV (As := [.int a1, .int a2]) hC hml hS hW (KC_at hk hS F.2.2.2.2) KC_blind (metX8_joins F hX k0.2.2.2.1 hcall) ml_X10_454 (gw_recv hC hW k0.2.2.2.1.1 (k0.2.2.2.1.2.1 (gfm s0) T B (μ 1)) rfl) ⟨rfl, rfl, (Nat.le_of_ble_eq_true rfl), (Nat.le_of_ble_eq_true rfl)⟩ rfl hl.1 rfl (Nat.le_of_ble_eq_true rfl) dX10_missingLegFault_25 ⟨(Nat.le_of_ble_eq_true rfl), (Nat.le_of_ble_eq_true rfl)⟩ (fun H locs hW hS => ?_)
    obtain ⟨j5, hj7, h⟩ := jn1_o h
    have J6 : ∀ (y4 : Nat), j5 y4 = some r → ∀ (H : Heap) (locs : List Loc) (ls : Array Slot), gWC s0 D T B μ H → va_S (gA B X) s.heap H locs → lv_has ls 3 [] → W p l e rmX10_missingLegFault s m args below meth c H locs 0 0 Q (F0 m 40 ls [.ref (gfa s0 y4)]) := by
      clear h hW hS hl
      intro y4 h H locs ls hW hS hl
      replace h := (hj7 y4).symm.trans h
      cases h
      exact hend dX10_missingLegFault_40 hW hS (Nat.le_of_ble_eq_true rfl) (Nat.le_of_ble_eq_true rfl)
    refine gw_if_eqZ (tgt := 37) hx hb dX10_missingLegFault_28 (by decide) (fun c8 => ?_) (fun c8 => ?_)
    · replace h := cond_f c8 h
      refine gw_gets hC (zF_4 F hk) hS fs_X10_426 dX10_missingLegFault_37 ?_
      exact J6 _ h _ _ _ hW hS (lv_sub hl [] rfl)
    · replace h := cond_t c8 h
      refine gw_gets hC (zF_0 F hk) hS fs_X10_451 dX10_missingLegFault_31 ?_
      refine lv_goto (tgt := 40) hx hb dX10_missingLegFault_34 (by decide) ?_
      exact J6 _ h _ _ _ hW hS (lv_sub hl [] rfl)
  · replace h := ite_f c2 h
    refine gw_gets hC (zF_1 F hk) hS fs_X10_408 dX10_missingLegFault_15 ?_
    cases h
    exact hend dX10_missingLegFault_18 hW hS (Nat.le_of_ble_eq_true rfl) (Nat.le_of_ble_eq_true rfl)

theorem dX10_removeLeg_0 : decode cX10_removeLeg 0 = .ok (.aload_n 0, 1) := by decide +kernel
theorem dX10_removeLeg_1 : decode cX10_removeLeg 1 = .ok (.iload_n 1, 1) := by decide +kernel
theorem dX10_removeLeg_2 : decode cX10_removeLeg 2 = .ok (.iload_n 2, 1) := by decide +kernel
theorem dX10_removeLeg_3 : decode cX10_removeLeg 3 = .ok (.invokevirtual 101, 3) := by decide +kernel
theorem dX10_removeLeg_6 : decode cX10_removeLeg 6 = .ok (.invokestatic 72, 3) := by decide +kernel
theorem dX10_removeLeg_9 : decode cX10_removeLeg 9 = .ok (.aload_n 0, 1) := by decide +kernel
theorem dX10_removeLeg_10 : decode cX10_removeLeg 10 = .ok (.invokevirtual 76, 3) := by decide +kernel
theorem dX10_removeLeg_13 : decode cX10_removeLeg 13 = .ok (.aload_n 0, 1) := by decide +kernel
theorem dX10_removeLeg_14 : decode cX10_removeLeg 14 = .ok (.getfield 12, 3) := by decide +kernel
theorem dX10_removeLeg_17 : decode cX10_removeLeg 17 = .ok (.iload_n 1, 1) := by decide +kernel
theorem dX10_removeLeg_18 : decode cX10_removeLeg 18 = .ok (.iload_n 2, 1) := by decide +kernel
theorem dX10_removeLeg_19 : decode cX10_removeLeg 19 = .ok (.iconst 0, 1) := by decide +kernel
theorem dX10_removeLeg_20 : decode cX10_removeLeg 20 = .ok (.iconst 0, 1) := by decide +kernel
theorem dX10_removeLeg_21 : decode cX10_removeLeg 21 = .ok (.invokevirtual 97, 3) := by decide +kernel
theorem dX10_removeLeg_24 : decode cX10_removeLeg 24 = .ok (.ireturn, 1) := by decide +kernel
abbrev rmX10_removeLeg : Room := { frames := 7, cells := 1, slots := 6, locals := 144 }
set_option maxHeartbeats 4000000 in
set_option maxRecDepth 100000 in
theorem metX10_removeLeg {l : Launch} {s0 : State} {b B : Nat} {D : va_G} {T : Nat → ClassId} (F : FX l s0 b D T B) {X : Nat → Prop} (hX : ∀ o, o < 560 → ¬ X (B + o)) {N : Nat} {μ : Mem} {a0 : Nat} {a1 : Int32} {a2 : Int32} {r : Mem × (Nat ⊕ Int32)} (k0 : IsGa a0) (h : fX10_removeLeg N μ a0 a1 a2 = some r) : gXMet l yX10_removeLeg cX10_removeLeg 3 (some .int) rmX10_removeLeg [.ref (B + a0), .int a1, .int a2] (gWC s0 D T B μ) (KC s0 X) (oI r.2) (gWC s0 D T B r.1) (gA B X) 1 6 := by
  refine gXI_of RX10 (by decide +kernel) rfl (Nat.le_of_ble_eq_true rfl) ?_
  intro p e s m args below meth c ls Q hx hb hlocks hml hown hts hW hk hl hS hE
  obtain ⟨hend, hthr, htb, hQ⟩ := hE
  have hC := FX_C F hk hx hb hown hts
  have hA := gA_all hX
  have hl : lv_has ls 3 [(0, .ref (B + a0)), (1, .int a1), (2, .int a2)] := hl
  unfold fX10_removeLeg at h
  refine lv_aload_n hx hb dX10_removeLeg_0 rfl (lv_at hl 0 rfl) ?_
  refine lv_iload_n hx hb dX10_removeLeg_1 rfl (lv_at hl 1 rfl) ?_
  refine lv_iload_n hx hb dX10_removeLeg_2 rfl (lv_at hl 2 rfl) ?_
  obtain ⟨r1, hcall, h⟩ := bd_out h
  refine g0_callV (As := [.int a1, .int a2]) hC hml hS hW (KC_at hk hS F.2.2.2.2) KC_blind (metX10_missingLegFault F hX k0 hcall) ml_X10_101 (gw_recv hC hW k0.1 (k0.2.2.1 (gfm s0) T B (μ a0)) rfl) ⟨rfl, rfl, (Nat.le_of_ble_eq_true rfl), (Nat.le_of_ble_eq_true rfl)⟩ rfl hl.1 rfl (Nat.le_of_ble_eq_true rfl) dX10_removeLeg_3 ⟨(Nat.le_of_ble_eq_true rfl), (Nat.le_of_ble_eq_true rfl)⟩ (fun H locs hW hS => ?_)
  rcases tb_out h with ⟨μ3, n5, hcall, h9⟩ | ⟨μ3, r4, hcall, h⟩
  · cases h9
    exact gx_callS (As := [.ref (gfa s0 r1)]) hC hml hS hW (KC_at hk hS F.2.2.2.2) KC_blind (metX10_stopIf F hX  hcall) ml_X10_72 ⟨rfl, rfl, (Nat.le_of_ble_eq_true rfl), (Nat.le_of_ble_eq_true rfl)⟩ rfl hl.1 rfl (Nat.le_of_ble_eq_true rfl) dX10_removeLeg_6 ⟨(Nat.le_of_ble_eq_true rfl), (Nat.le_of_ble_eq_true rfl)⟩ (fun v9 ho => by cases ho) (fun k9 ho H locs q9 ce9 hW hS hce hvm hcl => by cases ho; exact hthr _ rfl hW hS hce hvm hcl (Nat.le_of_ble_eq_true rfl) (Nat.le_of_ble_eq_true rfl))
  refine gx_callS (As := [.ref (gfa s0 r1)]) hC hml hS hW (KC_at hk hS F.2.2.2.2) KC_blind (metX10_stopIf F hX  hcall) ml_X10_72 ⟨rfl, rfl, (Nat.le_of_ble_eq_true rfl), (Nat.le_of_ble_eq_true rfl)⟩ rfl hl.1 rfl (Nat.le_of_ble_eq_true rfl) dX10_removeLeg_6 ⟨(Nat.le_of_ble_eq_true rfl), (Nat.le_of_ble_eq_true rfl)⟩ (fun v9 ho H locs hW hS => ?_) (fun k9 ho => by cases ho)
  cases ho
  refine W.widen (k := 1) (n := 6) (Nat.le_of_ble_eq_true rfl) (Nat.le_of_ble_eq_true rfl) ?_
  refine lv_aload_n hx hb dX10_removeLeg_9 rfl (lv_at hl 0 rfl) ?_
  obtain ⟨r6, hcall, h⟩ := bd_out h
  refine g0_callV (As := []) hC hml hS hW (KC_at hk hS F.2.2.2.2) KC_blind (metX10_remember F hX k0 hcall) ml_X10_76 (gw_recv hC hW k0.1 (k0.2.2.1 (gfm s0) T B (μ3 a0)) rfl) ⟨rfl, rfl, (Nat.le_of_ble_eq_true rfl), (Nat.le_of_ble_eq_true rfl)⟩ rfl hl.1 rfl (Nat.le_of_ble_eq_true rfl) dX10_removeLeg_10 ⟨(Nat.le_of_ble_eq_true rfl), (Nat.le_of_ble_eq_true rfl)⟩ (fun H locs hW hS => ?_)
  refine lv_aload_n hx hb dX10_removeLeg_13 rfl (lv_at hl 0 rfl) ?_
  refine gw_get (v := .ref (B + 1)) hC hW fl_X10_12 k0.1 (k0.2.2.1 (gfm s0) T B (r6 a0)) rfl dX10_removeLeg_14 ?_
  refine lv_iload_n hx hb dX10_removeLeg_17 rfl (lv_at hl 1 rfl) ?_
  refine lv_iload_n hx hb dX10_removeLeg_18 rfl (lv_at hl 2 rfl) ?_
  refine lv_iconst (v := 0) hx hb dX10_removeLeg_19 (by decide) ?_
  refine lv_iconst (v := 0) hx hb dX10_removeLeg_20 (by decide) ?_
  obtain ⟨r7, hcall, h⟩ := bd_out h
  refine g0_callV (As := [.int a1, .int a2, .int 0, .int 0]) hC hml hS hW (KC_at hk hS F.2.2.2.2) KC_blind (metX8_putLeg F hX k0.2.2.2.1 hcall) ml_X10_97 (gw_recv hC hW k0.2.2.2.1.1 (k0.2.2.2.1.2.1 (gfm s0) T B (r6 1)) rfl) ⟨rfl, rfl, (Nat.le_of_ble_eq_true rfl), (Nat.le_of_ble_eq_true rfl)⟩ rfl hl.1 rfl (Nat.le_of_ble_eq_true rfl) dX10_removeLeg_21 ⟨(Nat.le_of_ble_eq_true rfl), (Nat.le_of_ble_eq_true rfl)⟩ (fun H locs hW hS => ?_)
  cases h
  exact hend _ rfl dX10_removeLeg_24 hW hS (Nat.le_of_ble_eq_true rfl) (Nat.le_of_ble_eq_true rfl)

theorem dX10_roomCount_0 : decode cX10_roomCount 0 = .ok (.aload_n 0, 1) := by decide +kernel
theorem dX10_roomCount_1 : decode cX10_roomCount 1 = .ok (.getfield 12, 3) := by decide +kernel
theorem dX10_roomCount_4 : decode cX10_roomCount 4 = .ok (.getfield 105, 3) := by decide +kernel
theorem dX10_roomCount_7 : decode cX10_roomCount 7 = .ok (.ireturn, 1) := by decide +kernel
abbrev rmX10_roomCount : Room := { frames := 2, cells := 0, slots := 0, locals := 60 }
set_option maxHeartbeats 4000000 in
set_option maxRecDepth 100000 in
theorem metX10_roomCount {l : Launch} {s0 : State} {b B : Nat} {D : va_G} {T : Nat → ClassId} (F : FX l s0 b D T B) {X : Nat → Prop} (hX : ∀ o, o < 560 → ¬ X (B + o)) {N : Nat} {μ : Mem} {a0 : Nat} {r : Int32} (k0 : IsGa a0) (h : fX10_roomCount N μ a0 = some r) : gMet l yX10_roomCount cX10_roomCount 1 (some .int) rmX10_roomCount [.ref (B + a0)] (gWC s0 D T B μ) (KC s0 X) (some (.int r)) (gWC s0 D T B μ) (gA B X) 0 0 := by
  refine gI_of RX10 (by decide +kernel) rfl (Nat.le_of_ble_eq_true rfl) ?_
  intro p e s m args below meth c ls Q hx hb hlocks hml hown hts hW hk hl hS hend
  have hC := FX_C F hk hx hb hown hts
  have hA := gA_all hX
  have hl : lv_has ls 1 [(0, .ref (B + a0))] := hl
  unfold fX10_roomCount at h
  refine lv_aload_n hx hb dX10_roomCount_0 rfl (lv_at hl 0 rfl) ?_
  refine gw_get (v := .ref (B + 1)) hC hW fl_X10_12 k0.1 (k0.2.2.1 (gfm s0) T B (μ a0)) rfl dX10_roomCount_1 ?_
  refine gw_get (v := .int (μ 1 0)) hC hW fl_X10_105.1 k0.2.2.2.1.1 (k0.2.2.2.1.2.1 (gfm s0) T B (μ 1)) rfl dX10_roomCount_4 ?_
  cases h
  exact hend dX10_roomCount_7 hW hS (Nat.le_of_ble_eq_true rfl) (Nat.le_of_ble_eq_true rfl)

theorem dX10_warmth_0 : decode cX10_warmth 0 = .ok (.aload_n 0, 1) := by decide +kernel
theorem dX10_warmth_1 : decode cX10_warmth 1 = .ok (.getfield 12, 3) := by decide +kernel
theorem dX10_warmth_4 : decode cX10_warmth 4 = .ok (.iload_n 1, 1) := by decide +kernel
theorem dX10_warmth_5 : decode cX10_warmth 5 = .ok (.invokevirtual 83, 3) := by decide +kernel
theorem dX10_warmth_8 : decode cX10_warmth 8 = .ok (.invokestatic 72, 3) := by decide +kernel
theorem dX10_warmth_11 : decode cX10_warmth 11 = .ok (.aload_n 0, 1) := by decide +kernel
theorem dX10_warmth_12 : decode cX10_warmth 12 = .ok (.getfield 12, 3) := by decide +kernel
theorem dX10_warmth_15 : decode cX10_warmth 15 = .ok (.getfield 89, 3) := by decide +kernel
theorem dX10_warmth_18 : decode cX10_warmth 18 = .ok (.iload_n 1, 1) := by decide +kernel
theorem dX10_warmth_19 : decode cX10_warmth 19 = .ok (.iaload, 1) := by decide +kernel
theorem dX10_warmth_20 : decode cX10_warmth 20 = .ok (.ireturn, 1) := by decide +kernel
abbrev rmX10_warmth : Room := { frames := 7, cells := 1, slots := 6, locals := 140 }
set_option maxHeartbeats 4000000 in
set_option maxRecDepth 100000 in
theorem metX10_warmth {l : Launch} {s0 : State} {b B : Nat} {D : va_G} {T : Nat → ClassId} (F : FX l s0 b D T B) {X : Nat → Prop} (hX : ∀ o, o < 560 → ¬ X (B + o)) {N : Nat} {μ : Mem} {a0 : Nat} {a1 : Int32} {r : Mem × (Nat ⊕ Int32)} (k0 : IsGa a0) (h : fX10_warmth N μ a0 a1 = some r) : gXMet l yX10_warmth cX10_warmth 2 (some .int) rmX10_warmth [.ref (B + a0), .int a1] (gWC s0 D T B μ) (KC s0 X) (oI r.2) (gWC s0 D T B r.1) (gA B X) 1 6 := by
  refine gXI_of RX10 (by decide +kernel) rfl (Nat.le_of_ble_eq_true rfl) ?_
  intro p e s m args below meth c ls Q hx hb hlocks hml hown hts hW hk hl hS hE
  obtain ⟨hend, hthr, htb, hQ⟩ := hE
  have hC := FX_C F hk hx hb hown hts
  have hA := gA_all hX
  have hl : lv_has ls 2 [(0, .ref (B + a0)), (1, .int a1)] := hl
  unfold fX10_warmth at h
  refine lv_aload_n hx hb dX10_warmth_0 rfl (lv_at hl 0 rfl) ?_
  refine gw_get (v := .ref (B + 1)) hC hW fl_X10_12 k0.1 (k0.2.2.1 (gfm s0) T B (μ a0)) rfl dX10_warmth_1 ?_
  refine lv_iload_n hx hb dX10_warmth_4 rfl (lv_at hl 1 rfl) ?_
  obtain ⟨r1, hcall, h⟩ := bd_out h
  refine g0_callV (As := [.int a1]) hC hml hS hW (KC_at hk hS F.2.2.2.2) KC_blind (metX8_roomIndexFault F hX k0.2.2.2.1 hcall) ml_X10_83 (gw_recv hC hW k0.2.2.2.1.1 (k0.2.2.2.1.2.1 (gfm s0) T B (μ 1)) rfl) ⟨rfl, rfl, (Nat.le_of_ble_eq_true rfl), (Nat.le_of_ble_eq_true rfl)⟩ rfl hl.1 rfl (Nat.le_of_ble_eq_true rfl) dX10_warmth_5 ⟨(Nat.le_of_ble_eq_true rfl), (Nat.le_of_ble_eq_true rfl)⟩ (fun H locs hW hS => ?_)
  rcases tb_out h with ⟨μ3, n5, hcall, h9⟩ | ⟨μ3, r4, hcall, h⟩
  · cases h9
    exact gx_callS (As := [.ref (gfa s0 r1)]) hC hml hS hW (KC_at hk hS F.2.2.2.2) KC_blind (metX10_stopIf F hX  hcall) ml_X10_72 ⟨rfl, rfl, (Nat.le_of_ble_eq_true rfl), (Nat.le_of_ble_eq_true rfl)⟩ rfl hl.1 rfl (Nat.le_of_ble_eq_true rfl) dX10_warmth_8 ⟨(Nat.le_of_ble_eq_true rfl), (Nat.le_of_ble_eq_true rfl)⟩ (fun v9 ho => by cases ho) (fun k9 ho H locs q9 ce9 hW hS hce hvm hcl => by cases ho; exact hthr _ rfl hW hS hce hvm hcl (Nat.le_of_ble_eq_true rfl) (Nat.le_of_ble_eq_true rfl))
  refine gx_callS (As := [.ref (gfa s0 r1)]) hC hml hS hW (KC_at hk hS F.2.2.2.2) KC_blind (metX10_stopIf F hX  hcall) ml_X10_72 ⟨rfl, rfl, (Nat.le_of_ble_eq_true rfl), (Nat.le_of_ble_eq_true rfl)⟩ rfl hl.1 rfl (Nat.le_of_ble_eq_true rfl) dX10_warmth_8 ⟨(Nat.le_of_ble_eq_true rfl), (Nat.le_of_ble_eq_true rfl)⟩ (fun v9 ho H locs hW hS => ?_) (fun k9 ho => by cases ho)
  cases ho
  refine W.widen (k := 1) (n := 6) (Nat.le_of_ble_eq_true rfl) (Nat.le_of_ble_eq_true rfl) ?_
  refine lv_aload_n hx hb dX10_warmth_11 rfl (lv_at hl 0 rfl) ?_
  refine gw_get (v := .ref (B + 1)) hC hW fl_X10_12 k0.1 (k0.2.2.1 (gfm s0) T B (μ3 a0)) rfl dX10_warmth_12 ?_
  refine gw_get (v := .ref (B + (1 + 1))) hC hW fl_X10_89 k0.2.2.2.1.1 (k0.2.2.2.1.2.1 (gfm s0) T B (μ3 1)) rfl dX10_warmth_15 ?_
  refine lv_iload_n hx hb dX10_warmth_18 rfl (lv_at hl 1 rfl) ?_
  obtain ⟨v6, e7, hi8, h⟩ := ag_o h
  refine gq_iald hC hW k0.2.2.2.1.2.2.1.1 (k0.2.2.2.1.2.2.1.2 (gfm s0) T B (μ3 (1 + 1))) (t0 := 0) rfl e7 hi8 dX10_warmth_19 ?_
  cases h
  exact hend _ rfl dX10_warmth_20 hW hS (Nat.le_of_ble_eq_true rfl) (Nat.le_of_ble_eq_true rfl)

theorem dX10_legMinutes_0 : decode cX10_legMinutes 0 = .ok (.aload_n 0, 1) := by decide +kernel
theorem dX10_legMinutes_1 : decode cX10_legMinutes 1 = .ok (.iload_n 1, 1) := by decide +kernel
theorem dX10_legMinutes_2 : decode cX10_legMinutes 2 = .ok (.iload_n 2, 1) := by decide +kernel
theorem dX10_legMinutes_3 : decode cX10_legMinutes 3 = .ok (.invokevirtual 101, 3) := by decide +kernel
theorem dX10_legMinutes_6 : decode cX10_legMinutes 6 = .ok (.invokestatic 72, 3) := by decide +kernel
theorem dX10_legMinutes_9 : decode cX10_legMinutes 9 = .ok (.aload_n 0, 1) := by decide +kernel
theorem dX10_legMinutes_10 : decode cX10_legMinutes 10 = .ok (.getfield 12, 3) := by decide +kernel
theorem dX10_legMinutes_13 : decode cX10_legMinutes 13 = .ok (.getfield 108, 3) := by decide +kernel
theorem dX10_legMinutes_16 : decode cX10_legMinutes 16 = .ok (.iload_n 1, 1) := by decide +kernel
theorem dX10_legMinutes_17 : decode cX10_legMinutes 17 = .ok (.aaload, 1) := by decide +kernel
theorem dX10_legMinutes_18 : decode cX10_legMinutes 18 = .ok (.iload_n 2, 1) := by decide +kernel
theorem dX10_legMinutes_19 : decode cX10_legMinutes 19 = .ok (.iaload, 1) := by decide +kernel
theorem dX10_legMinutes_20 : decode cX10_legMinutes 20 = .ok (.ireturn, 1) := by decide +kernel
abbrev rmX10_legMinutes : Room := { frames := 7, cells := 1, slots := 6, locals := 140 }
set_option maxHeartbeats 4000000 in
set_option maxRecDepth 100000 in
theorem metX10_legMinutes {l : Launch} {s0 : State} {b B : Nat} {D : va_G} {T : Nat → ClassId} (F : FX l s0 b D T B) {X : Nat → Prop} (hX : ∀ o, o < 560 → ¬ X (B + o)) {N : Nat} {μ : Mem} {a0 : Nat} {a1 : Int32} {a2 : Int32} {r : Mem × (Nat ⊕ Int32)} (k0 : IsGa a0) (h : fX10_legMinutes N μ a0 a1 a2 = some r) : gXMet l yX10_legMinutes cX10_legMinutes 3 (some .int) rmX10_legMinutes [.ref (B + a0), .int a1, .int a2] (gWC s0 D T B μ) (KC s0 X) (oI r.2) (gWC s0 D T B r.1) (gA B X) 1 6 := by
  refine gXI_of RX10 (by decide +kernel) rfl (Nat.le_of_ble_eq_true rfl) ?_
  intro p e s m args below meth c ls Q hx hb hlocks hml hown hts hW hk hl hS hE
  obtain ⟨hend, hthr, htb, hQ⟩ := hE
  have hC := FX_C F hk hx hb hown hts
  have hA := gA_all hX
  have hl : lv_has ls 3 [(0, .ref (B + a0)), (1, .int a1), (2, .int a2)] := hl
  unfold fX10_legMinutes at h
  refine lv_aload_n hx hb dX10_legMinutes_0 rfl (lv_at hl 0 rfl) ?_
  refine lv_iload_n hx hb dX10_legMinutes_1 rfl (lv_at hl 1 rfl) ?_
  refine lv_iload_n hx hb dX10_legMinutes_2 rfl (lv_at hl 2 rfl) ?_
  obtain ⟨r1, hcall, h⟩ := bd_out h
  refine g0_callV (As := [.int a1, .int a2]) hC hml hS hW (KC_at hk hS F.2.2.2.2) KC_blind (metX10_missingLegFault F hX k0 hcall) ml_X10_101 (gw_recv hC hW k0.1 (k0.2.2.1 (gfm s0) T B (μ a0)) rfl) ⟨rfl, rfl, (Nat.le_of_ble_eq_true rfl), (Nat.le_of_ble_eq_true rfl)⟩ rfl hl.1 rfl (Nat.le_of_ble_eq_true rfl) dX10_legMinutes_3 ⟨(Nat.le_of_ble_eq_true rfl), (Nat.le_of_ble_eq_true rfl)⟩ (fun H locs hW hS => ?_)
  rcases tb_out h with ⟨μ3, n5, hcall, h9⟩ | ⟨μ3, r4, hcall, h⟩
  · cases h9
    exact gx_callS (As := [.ref (gfa s0 r1)]) hC hml hS hW (KC_at hk hS F.2.2.2.2) KC_blind (metX10_stopIf F hX  hcall) ml_X10_72 ⟨rfl, rfl, (Nat.le_of_ble_eq_true rfl), (Nat.le_of_ble_eq_true rfl)⟩ rfl hl.1 rfl (Nat.le_of_ble_eq_true rfl) dX10_legMinutes_6 ⟨(Nat.le_of_ble_eq_true rfl), (Nat.le_of_ble_eq_true rfl)⟩ (fun v9 ho => by cases ho) (fun k9 ho H locs q9 ce9 hW hS hce hvm hcl => by cases ho; exact hthr _ rfl hW hS hce hvm hcl (Nat.le_of_ble_eq_true rfl) (Nat.le_of_ble_eq_true rfl))
  refine gx_callS (As := [.ref (gfa s0 r1)]) hC hml hS hW (KC_at hk hS F.2.2.2.2) KC_blind (metX10_stopIf F hX  hcall) ml_X10_72 ⟨rfl, rfl, (Nat.le_of_ble_eq_true rfl), (Nat.le_of_ble_eq_true rfl)⟩ rfl hl.1 rfl (Nat.le_of_ble_eq_true rfl) dX10_legMinutes_6 ⟨(Nat.le_of_ble_eq_true rfl), (Nat.le_of_ble_eq_true rfl)⟩ (fun v9 ho H locs hW hS => ?_) (fun k9 ho => by cases ho)
  cases ho
  refine W.widen (k := 1) (n := 6) (Nat.le_of_ble_eq_true rfl) (Nat.le_of_ble_eq_true rfl) ?_
  refine lv_aload_n hx hb dX10_legMinutes_9 rfl (lv_at hl 0 rfl) ?_
  refine gw_get (v := .ref (B + 1)) hC hW fl_X10_12 k0.1 (k0.2.2.1 (gfm s0) T B (μ3 a0)) rfl dX10_legMinutes_10 ?_
  refine gw_get (v := .ref (B + (1 + 2))) hC hW fl_X10_108 k0.2.2.2.1.1 (k0.2.2.2.1.2.1 (gfm s0) T B (μ3 1)) rfl dX10_legMinutes_13 ?_
  refine lv_iload_n hx hb dX10_legMinutes_16 rfl (lv_at hl 1 rfl) ?_
  obtain ⟨q6, e7, hq8, hi9, h⟩ := ar_o h
  refine gq_aald hC hW k0.2.2.2.1.2.2.2.1.1 (k0.2.2.2.1.2.2.2.1.2.1 (gfm s0) T B (μ3 (1 + 2))) (t0 := 3) rfl rfl e7 hi9 dX10_legMinutes_17 ?_
  refine lv_iload_n hx hb dX10_legMinutes_18 rfl (lv_at hl 2 rfl) ?_
  obtain ⟨v10, e11, hi12, h⟩ := ag_o h
  refine gq_iald hC hW (k0.2.2.2.1.2.2.2.1.2.2 q6 hq8).1 ((k0.2.2.2.1.2.2.2.1.2.2 q6 hq8).2 (gfm s0) T B (μ3 ((1 + 2) + 1 + 1 * q6))) (t0 := 0) rfl e11 hi12 dX10_legMinutes_19 ?_
  cases h
  exact hend _ rfl dX10_legMinutes_20 hW hS (Nat.le_of_ble_eq_true rfl) (Nat.le_of_ble_eq_true rfl)

theorem dX10_legWarmth_0 : decode cX10_legWarmth 0 = .ok (.aload_n 0, 1) := by decide +kernel
theorem dX10_legWarmth_1 : decode cX10_legWarmth 1 = .ok (.iload_n 1, 1) := by decide +kernel
theorem dX10_legWarmth_2 : decode cX10_legWarmth 2 = .ok (.iload_n 2, 1) := by decide +kernel
theorem dX10_legWarmth_3 : decode cX10_legWarmth 3 = .ok (.invokevirtual 101, 3) := by decide +kernel
theorem dX10_legWarmth_6 : decode cX10_legWarmth 6 = .ok (.invokestatic 72, 3) := by decide +kernel
theorem dX10_legWarmth_9 : decode cX10_legWarmth 9 = .ok (.aload_n 0, 1) := by decide +kernel
theorem dX10_legWarmth_10 : decode cX10_legWarmth 10 = .ok (.getfield 12, 3) := by decide +kernel
theorem dX10_legWarmth_13 : decode cX10_legWarmth 13 = .ok (.getfield 112, 3) := by decide +kernel
theorem dX10_legWarmth_16 : decode cX10_legWarmth 16 = .ok (.iload_n 1, 1) := by decide +kernel
theorem dX10_legWarmth_17 : decode cX10_legWarmth 17 = .ok (.aaload, 1) := by decide +kernel
theorem dX10_legWarmth_18 : decode cX10_legWarmth 18 = .ok (.iload_n 2, 1) := by decide +kernel
theorem dX10_legWarmth_19 : decode cX10_legWarmth 19 = .ok (.iaload, 1) := by decide +kernel
theorem dX10_legWarmth_20 : decode cX10_legWarmth 20 = .ok (.ireturn, 1) := by decide +kernel
abbrev rmX10_legWarmth : Room := { frames := 7, cells := 1, slots := 6, locals := 140 }
set_option maxHeartbeats 4000000 in
set_option maxRecDepth 100000 in
theorem metX10_legWarmth {l : Launch} {s0 : State} {b B : Nat} {D : va_G} {T : Nat → ClassId} (F : FX l s0 b D T B) {X : Nat → Prop} (hX : ∀ o, o < 560 → ¬ X (B + o)) {N : Nat} {μ : Mem} {a0 : Nat} {a1 : Int32} {a2 : Int32} {r : Mem × (Nat ⊕ Int32)} (k0 : IsGa a0) (h : fX10_legWarmth N μ a0 a1 a2 = some r) : gXMet l yX10_legWarmth cX10_legWarmth 3 (some .int) rmX10_legWarmth [.ref (B + a0), .int a1, .int a2] (gWC s0 D T B μ) (KC s0 X) (oI r.2) (gWC s0 D T B r.1) (gA B X) 1 6 := by
  refine gXI_of RX10 (by decide +kernel) rfl (Nat.le_of_ble_eq_true rfl) ?_
  intro p e s m args below meth c ls Q hx hb hlocks hml hown hts hW hk hl hS hE
  obtain ⟨hend, hthr, htb, hQ⟩ := hE
  have hC := FX_C F hk hx hb hown hts
  have hA := gA_all hX
  have hl : lv_has ls 3 [(0, .ref (B + a0)), (1, .int a1), (2, .int a2)] := hl
  unfold fX10_legWarmth at h
  refine lv_aload_n hx hb dX10_legWarmth_0 rfl (lv_at hl 0 rfl) ?_
  refine lv_iload_n hx hb dX10_legWarmth_1 rfl (lv_at hl 1 rfl) ?_
  refine lv_iload_n hx hb dX10_legWarmth_2 rfl (lv_at hl 2 rfl) ?_
  obtain ⟨r1, hcall, h⟩ := bd_out h
  refine g0_callV (As := [.int a1, .int a2]) hC hml hS hW (KC_at hk hS F.2.2.2.2) KC_blind (metX10_missingLegFault F hX k0 hcall) ml_X10_101 (gw_recv hC hW k0.1 (k0.2.2.1 (gfm s0) T B (μ a0)) rfl) ⟨rfl, rfl, (Nat.le_of_ble_eq_true rfl), (Nat.le_of_ble_eq_true rfl)⟩ rfl hl.1 rfl (Nat.le_of_ble_eq_true rfl) dX10_legWarmth_3 ⟨(Nat.le_of_ble_eq_true rfl), (Nat.le_of_ble_eq_true rfl)⟩ (fun H locs hW hS => ?_)
  rcases tb_out h with ⟨μ3, n5, hcall, h9⟩ | ⟨μ3, r4, hcall, h⟩
  · cases h9
    exact gx_callS (As := [.ref (gfa s0 r1)]) hC hml hS hW (KC_at hk hS F.2.2.2.2) KC_blind (metX10_stopIf F hX  hcall) ml_X10_72 ⟨rfl, rfl, (Nat.le_of_ble_eq_true rfl), (Nat.le_of_ble_eq_true rfl)⟩ rfl hl.1 rfl (Nat.le_of_ble_eq_true rfl) dX10_legWarmth_6 ⟨(Nat.le_of_ble_eq_true rfl), (Nat.le_of_ble_eq_true rfl)⟩ (fun v9 ho => by cases ho) (fun k9 ho H locs q9 ce9 hW hS hce hvm hcl => by cases ho; exact hthr _ rfl hW hS hce hvm hcl (Nat.le_of_ble_eq_true rfl) (Nat.le_of_ble_eq_true rfl))
  refine gx_callS (As := [.ref (gfa s0 r1)]) hC hml hS hW (KC_at hk hS F.2.2.2.2) KC_blind (metX10_stopIf F hX  hcall) ml_X10_72 ⟨rfl, rfl, (Nat.le_of_ble_eq_true rfl), (Nat.le_of_ble_eq_true rfl)⟩ rfl hl.1 rfl (Nat.le_of_ble_eq_true rfl) dX10_legWarmth_6 ⟨(Nat.le_of_ble_eq_true rfl), (Nat.le_of_ble_eq_true rfl)⟩ (fun v9 ho H locs hW hS => ?_) (fun k9 ho => by cases ho)
  cases ho
  refine W.widen (k := 1) (n := 6) (Nat.le_of_ble_eq_true rfl) (Nat.le_of_ble_eq_true rfl) ?_
  refine lv_aload_n hx hb dX10_legWarmth_9 rfl (lv_at hl 0 rfl) ?_
  refine gw_get (v := .ref (B + 1)) hC hW fl_X10_12 k0.1 (k0.2.2.1 (gfm s0) T B (μ3 a0)) rfl dX10_legWarmth_10 ?_
  refine gw_get (v := .ref (B + (1 + 9))) hC hW fl_X10_112 k0.2.2.2.1.1 (k0.2.2.2.1.2.1 (gfm s0) T B (μ3 1)) rfl dX10_legWarmth_13 ?_
  refine lv_iload_n hx hb dX10_legWarmth_16 rfl (lv_at hl 1 rfl) ?_
  obtain ⟨q6, e7, hq8, hi9, h⟩ := ar_o h
  refine gq_aald hC hW k0.2.2.2.1.2.2.2.2.1.1 (k0.2.2.2.1.2.2.2.2.1.2.1 (gfm s0) T B (μ3 (1 + 9))) (t0 := 3) rfl rfl e7 hi9 dX10_legWarmth_17 ?_
  refine lv_iload_n hx hb dX10_legWarmth_18 rfl (lv_at hl 2 rfl) ?_
  obtain ⟨v10, e11, hi12, h⟩ := ag_o h
  refine gq_iald hC hW (k0.2.2.2.1.2.2.2.2.1.2.2 q6 hq8).1 ((k0.2.2.2.1.2.2.2.2.1.2.2 q6 hq8).2 (gfm s0) T B (μ3 ((1 + 9) + 1 + 1 * q6))) (t0 := 0) rfl e11 hi12 dX10_legWarmth_19 ?_
  cases h
  exact hend _ rfl dX10_legWarmth_20 hW hS (Nat.le_of_ble_eq_true rfl) (Nat.le_of_ble_eq_true rfl)

theorem dX10_presentOnly_0 : decode cX10_presentOnly 0 = .ok (.iload_n 0, 1) := by decide +kernel
theorem dX10_presentOnly_1 : decode cX10_presentOnly 1 = .ok (.iconst (-1), 1) := by decide +kernel
theorem dX10_presentOnly_2 : decode cX10_presentOnly 2 = .ok (.if_icmp .ne 14, 3) := by decide +kernel
theorem dX10_presentOnly_5 : decode cX10_presentOnly 5 = .ok (.new 139, 3) := by decide +kernel
theorem dX10_presentOnly_8 : decode cX10_presentOnly 8 = .ok (.dup, 1) := by decide +kernel
theorem dX10_presentOnly_9 : decode cX10_presentOnly 9 = .ok (.ldc_w 436, 3) := by decide +kernel
theorem dX10_presentOnly_12 : decode cX10_presentOnly 12 = .ok (.invokespecial 143, 3) := by decide +kernel
theorem dX10_presentOnly_15 : decode cX10_presentOnly 15 = .ok (.athrow, 1) := by decide +kernel
theorem dX10_presentOnly_16 : decode cX10_presentOnly 16 = .ok (.iload_n 0, 1) := by decide +kernel
theorem dX10_presentOnly_17 : decode cX10_presentOnly 17 = .ok (.ireturn, 1) := by decide +kernel
abbrev rmX10_presentOnly : Room := { frames := 6, cells := 1, slots := 6, locals := 120 }
set_option maxHeartbeats 4000000 in
set_option maxRecDepth 100000 in
theorem metX10_presentOnly {l : Launch} {s0 : State} {b B : Nat} {D : va_G} {T : Nat → ClassId} (F : FX l s0 b D T B) {X : Nat → Prop} (hX : ∀ o, o < 560 → ¬ X (B + o)) {N : Nat} {μ : Mem} {a0 : Int32} {r : Mem × (Nat ⊕ Int32)}  (h : fX10_presentOnly N μ a0 = some r) : gXMet l yX10_presentOnly cX10_presentOnly 1 (some .int) rmX10_presentOnly [.int a0] (gWC s0 D T B μ) (KC s0 X) (oI r.2) (gWC s0 D T B r.1) (gA B X) 1 6 := by
  refine gXI_of RX10 (by decide +kernel) rfl (Nat.le_of_ble_eq_true rfl) ?_
  intro p e s m args below meth c ls Q hx hb hlocks hml hown hts hW hk hl hS hE
  obtain ⟨hend, hthr, htb, hQ⟩ := hE
  have hC := FX_C F hk hx hb hown hts
  have hA := gA_all hX
  have hl : lv_has ls 1 [(0, .int a0)] := hl
  unfold fX10_presentOnly at h
  refine lv_iload_n hx hb dX10_presentOnly_0 rfl (lv_at hl 0 rfl) ?_
  refine lv_iconst (v := (-1)) hx hb dX10_presentOnly_1 (by decide) ?_
  refine lv_icmp_ne (tgt := 16) hx hb dX10_presentOnly_2 (by decide) (fun c1 => ?_) (fun c1 => ?_)
  · replace h := ite_f c1 h
    refine lv_iload_n hx hb dX10_presentOnly_16 rfl (lv_at hl 0 rfl) ?_
    cases h
    exact hend _ rfl dX10_presentOnly_17 hW hS (Nat.le_of_ble_eq_true rfl) (Nat.le_of_ble_eq_true rfl)
  · replace h := ite_t c1 h
    cases h
    exact gx_throwNW F hk hC hml hlocks htb hQ rfl hW hS dX10_presentOnly_5 dX10_presentOnly_8 dX10_presentOnly_9 dX10_presentOnly_12 dX10_presentOnly_15 tw_X10_139_436_143 hl.1 (Nat.le_of_ble_eq_true rfl) (Nat.le_of_ble_eq_true rfl) ⟨Nat.le_of_ble_eq_true rfl, Nat.le_of_ble_eq_true rfl⟩ (Nat.le_of_ble_eq_true rfl) (Nat.le_of_ble_eq_true rfl)

theorem dX10_minutes_0 : decode cX10_minutes 0 = .ok (.aload_n 0, 1) := by decide +kernel
theorem dX10_minutes_1 : decode cX10_minutes 1 = .ok (.getfield 12, 3) := by decide +kernel
theorem dX10_minutes_4 : decode cX10_minutes 4 = .ok (.iload_n 1, 1) := by decide +kernel
theorem dX10_minutes_5 : decode cX10_minutes 5 = .ok (.iload_n 2, 1) := by decide +kernel
theorem dX10_minutes_6 : decode cX10_minutes 6 = .ok (.invokevirtual 115, 3) := by decide +kernel
theorem dX10_minutes_9 : decode cX10_minutes 9 = .ok (.invokestatic 72, 3) := by decide +kernel
theorem dX10_minutes_12 : decode cX10_minutes 12 = .ok (.aload_n 0, 1) := by decide +kernel
theorem dX10_minutes_13 : decode cX10_minutes 13 = .ok (.getfield 29, 3) := by decide +kernel
theorem dX10_minutes_16 : decode cX10_minutes 16 = .ok (.aload_n 0, 1) := by decide +kernel
theorem dX10_minutes_17 : decode cX10_minutes 17 = .ok (.getfield 12, 3) := by decide +kernel
theorem dX10_minutes_20 : decode cX10_minutes 20 = .ok (.iload_n 1, 1) := by decide +kernel
theorem dX10_minutes_21 : decode cX10_minutes 21 = .ok (.iload_n 2, 1) := by decide +kernel
theorem dX10_minutes_22 : decode cX10_minutes 22 = .ok (.invokevirtual 118, 3) := by decide +kernel
theorem dX10_minutes_25 : decode cX10_minutes 25 = .ok (.invokestatic 122, 3) := by decide +kernel
theorem dX10_minutes_28 : decode cX10_minutes 28 = .ok (.ireturn, 1) := by decide +kernel
abbrev rmX10_minutes : Room := { frames := 7, cells := 2, slots := 12, locals := 140 }
set_option maxHeartbeats 4000000 in
set_option maxRecDepth 100000 in
theorem metX10_minutes {l : Launch} {s0 : State} {b B : Nat} {D : va_G} {T : Nat → ClassId} (F : FX l s0 b D T B) {X : Nat → Prop} (hX : ∀ o, o < 560 → ¬ X (B + o)) {N : Nat} {μ : Mem} {a0 : Nat} {a1 : Int32} {a2 : Int32} {r : Mem × (Nat ⊕ Int32)} (k0 : IsGa a0) (h : fX10_minutes N μ a0 a1 a2 = some r) : gXMet l yX10_minutes cX10_minutes 3 (some .int) rmX10_minutes [.ref (B + a0), .int a1, .int a2] (gWC s0 D T B μ) (KC s0 X) (oI r.2) (gWC s0 D T B r.1) (gA B X) 2 12 := by
  refine gXI_of RX10 (by decide +kernel) rfl (Nat.le_of_ble_eq_true rfl) ?_
  intro p e s m args below meth c ls Q hx hb hlocks hml hown hts hW hk hl hS hE
  obtain ⟨hend, hthr, htb, hQ⟩ := hE
  have hC := FX_C F hk hx hb hown hts
  have hA := gA_all hX
  have hl : lv_has ls 3 [(0, .ref (B + a0)), (1, .int a1), (2, .int a2)] := hl
  unfold fX10_minutes at h
  refine lv_aload_n hx hb dX10_minutes_0 rfl (lv_at hl 0 rfl) ?_
  refine gw_get (v := .ref (B + 1)) hC hW fl_X10_12 k0.1 (k0.2.2.1 (gfm s0) T B (μ a0)) rfl dX10_minutes_1 ?_
  refine lv_iload_n hx hb dX10_minutes_4 rfl (lv_at hl 1 rfl) ?_
  refine lv_iload_n hx hb dX10_minutes_5 rfl (lv_at hl 2 rfl) ?_
  obtain ⟨r1, hcall, h⟩ := bd_out h
  refine g0_callV (As := [.int a1, .int a2]) hC hml hS hW (KC_at hk hS F.2.2.2.2) KC_blind (metX8_pairFault F hX k0.2.2.2.1 hcall) ml_X10_115 (gw_recv hC hW k0.2.2.2.1.1 (k0.2.2.2.1.2.1 (gfm s0) T B (μ 1)) rfl) ⟨rfl, rfl, (Nat.le_of_ble_eq_true rfl), (Nat.le_of_ble_eq_true rfl)⟩ rfl hl.1 rfl (Nat.le_of_ble_eq_true rfl) dX10_minutes_6 ⟨(Nat.le_of_ble_eq_true rfl), (Nat.le_of_ble_eq_true rfl)⟩ (fun H locs hW hS => ?_)
  rcases tb_out h with ⟨μ3, n5, hcall, h9⟩ | ⟨μ3, r4, hcall, h⟩
  · cases h9
    exact gx_callS (As := [.ref (gfa s0 r1)]) hC hml hS hW (KC_at hk hS F.2.2.2.2) KC_blind (metX10_stopIf F hX  hcall) ml_X10_72 ⟨rfl, rfl, (Nat.le_of_ble_eq_true rfl), (Nat.le_of_ble_eq_true rfl)⟩ rfl hl.1 rfl (Nat.le_of_ble_eq_true rfl) dX10_minutes_9 ⟨(Nat.le_of_ble_eq_true rfl), (Nat.le_of_ble_eq_true rfl)⟩ (fun v9 ho => by cases ho) (fun k9 ho H locs q9 ce9 hW hS hce hvm hcl => by cases ho; exact hthr _ rfl hW hS hce hvm hcl (Nat.le_of_ble_eq_true rfl) (Nat.le_of_ble_eq_true rfl))
  refine gx_callS (As := [.ref (gfa s0 r1)]) hC hml hS hW (KC_at hk hS F.2.2.2.2) KC_blind (metX10_stopIf F hX  hcall) ml_X10_72 ⟨rfl, rfl, (Nat.le_of_ble_eq_true rfl), (Nat.le_of_ble_eq_true rfl)⟩ rfl hl.1 rfl (Nat.le_of_ble_eq_true rfl) dX10_minutes_9 ⟨(Nat.le_of_ble_eq_true rfl), (Nat.le_of_ble_eq_true rfl)⟩ (fun v9 ho H locs hW hS => ?_) (fun k9 ho => by cases ho)
  cases ho
  refine W.widen (k := 1) (n := 6) (Nat.le_of_ble_eq_true rfl) (Nat.le_of_ble_eq_true rfl) ?_
  refine lv_aload_n hx hb dX10_minutes_12 rfl (lv_at hl 0 rfl) ?_
  refine gw_get (v := .ref (B + 520)) hC hW fl_X10_29 k0.1 (k0.2.2.1 (gfm s0) T B (μ3 a0)) rfl dX10_minutes_13 ?_
  refine lv_aload_n hx hb dX10_minutes_16 rfl (lv_at hl 0 rfl) ?_
  refine gw_get (v := .ref (B + 1)) hC hW fl_X10_12 k0.1 (k0.2.2.1 (gfm s0) T B (μ3 a0)) rfl dX10_minutes_17 ?_
  refine lv_iload_n hx hb dX10_minutes_20 rfl (lv_at hl 1 rfl) ?_
  refine lv_iload_n hx hb dX10_minutes_21 rfl (lv_at hl 2 rfl) ?_
  obtain ⟨r6, hcall, h⟩ := bd_out h
  refine g0_callV (As := [.ref (B + 1), .int a1, .int a2]) hC hml hS hW (KC_at hk hS F.2.2.2.2) KC_blind (metX9_minutesBySettling F hX k0.2.2.2.2.2.2.1 k0.2.2.2.1 hcall) ml_X10_118 (gw_recv hC hW k0.2.2.2.2.2.2.1.1 (k0.2.2.2.2.2.2.1.2.1 (gfm s0) T B (μ3 520)) rfl) ⟨rfl, rfl, (Nat.le_of_ble_eq_true rfl), (Nat.le_of_ble_eq_true rfl)⟩ rfl hl.1 rfl (Nat.le_of_ble_eq_true rfl) dX10_minutes_22 ⟨(Nat.le_of_ble_eq_true rfl), (Nat.le_of_ble_eq_true rfl)⟩ (fun H locs hW hS => ?_)
  rcases tb_out h with ⟨μ8, n10, hcall, h9⟩ | ⟨μ8, r9, hcall, h⟩
  · cases h9
    exact gx_callS (As := [.int r6.2]) hC hml hS hW (KC_at hk hS F.2.2.2.2) KC_blind (metX10_presentOnly F hX  hcall) ml_X10_122 ⟨rfl, rfl, (Nat.le_of_ble_eq_true rfl), (Nat.le_of_ble_eq_true rfl)⟩ rfl hl.1 rfl (Nat.le_of_ble_eq_true rfl) dX10_minutes_25 ⟨(Nat.le_of_ble_eq_true rfl), (Nat.le_of_ble_eq_true rfl)⟩ (fun v9 ho => by cases ho) (fun k9 ho H locs q9 ce9 hW hS hce hvm hcl => by cases ho; exact hthr _ rfl hW hS hce hvm hcl (Nat.le_of_ble_eq_true rfl) (Nat.le_of_ble_eq_true rfl))
  refine gx_callS (As := [.int r6.2]) hC hml hS hW (KC_at hk hS F.2.2.2.2) KC_blind (metX10_presentOnly F hX  hcall) ml_X10_122 ⟨rfl, rfl, (Nat.le_of_ble_eq_true rfl), (Nat.le_of_ble_eq_true rfl)⟩ rfl hl.1 rfl (Nat.le_of_ble_eq_true rfl) dX10_minutes_25 ⟨(Nat.le_of_ble_eq_true rfl), (Nat.le_of_ble_eq_true rfl)⟩ (fun v9 ho H locs hW hS => ?_) (fun k9 ho => by cases ho)
  cases ho
  refine W.widen (k := 2) (n := 12) (Nat.le_of_ble_eq_true rfl) (Nat.le_of_ble_eq_true rfl) ?_
  cases h
  exact hend _ rfl dX10_minutes_28 hW hS (Nat.le_of_ble_eq_true rfl) (Nat.le_of_ble_eq_true rfl)

theorem dX10_minutesByTable_0 : decode cX10_minutesByTable 0 = .ok (.aload_n 0, 1) := by decide +kernel
theorem dX10_minutesByTable_1 : decode cX10_minutesByTable 1 = .ok (.getfield 12, 3) := by decide +kernel
theorem dX10_minutesByTable_4 : decode cX10_minutesByTable 4 = .ok (.iload_n 1, 1) := by decide +kernel
theorem dX10_minutesByTable_5 : decode cX10_minutesByTable 5 = .ok (.iload_n 2, 1) := by decide +kernel
theorem dX10_minutesByTable_6 : decode cX10_minutesByTable 6 = .ok (.invokevirtual 115, 3) := by decide +kernel
theorem dX10_minutesByTable_9 : decode cX10_minutesByTable 9 = .ok (.invokestatic 72, 3) := by decide +kernel
theorem dX10_minutesByTable_12 : decode cX10_minutesByTable 12 = .ok (.aload_n 0, 1) := by decide +kernel
theorem dX10_minutesByTable_13 : decode cX10_minutesByTable 13 = .ok (.getfield 29, 3) := by decide +kernel
theorem dX10_minutesByTable_16 : decode cX10_minutesByTable 16 = .ok (.aload_n 0, 1) := by decide +kernel
theorem dX10_minutesByTable_17 : decode cX10_minutesByTable 17 = .ok (.getfield 12, 3) := by decide +kernel
theorem dX10_minutesByTable_20 : decode cX10_minutesByTable 20 = .ok (.invokevirtual 125, 3) := by decide +kernel
theorem dX10_minutesByTable_23 : decode cX10_minutesByTable 23 = .ok (.aload_n 0, 1) := by decide +kernel
theorem dX10_minutesByTable_24 : decode cX10_minutesByTable 24 = .ok (.getfield 29, 3) := by decide +kernel
theorem dX10_minutesByTable_27 : decode cX10_minutesByTable 27 = .ok (.iload_n 1, 1) := by decide +kernel
theorem dX10_minutesByTable_28 : decode cX10_minutesByTable 28 = .ok (.iload_n 2, 1) := by decide +kernel
theorem dX10_minutesByTable_29 : decode cX10_minutesByTable 29 = .ok (.invokevirtual 129, 3) := by decide +kernel
theorem dX10_minutesByTable_32 : decode cX10_minutesByTable 32 = .ok (.invokestatic 122, 3) := by decide +kernel
theorem dX10_minutesByTable_35 : decode cX10_minutesByTable 35 = .ok (.ireturn, 1) := by decide +kernel
abbrev rmX10_minutesByTable : Room := { frames := 7, cells := 2, slots := 12, locals := 140 }
set_option maxHeartbeats 4000000 in
set_option maxRecDepth 100000 in
theorem metX10_minutesByTable {l : Launch} {s0 : State} {b B : Nat} {D : va_G} {T : Nat → ClassId} (F : FX l s0 b D T B) {X : Nat → Prop} (hX : ∀ o, o < 560 → ¬ X (B + o)) {N : Nat} {μ : Mem} {a0 : Nat} {a1 : Int32} {a2 : Int32} {r : Mem × (Nat ⊕ Int32)} (k0 : IsGa a0) (h : fX10_minutesByTable N μ a0 a1 a2 = some r) : gXMet l yX10_minutesByTable cX10_minutesByTable 3 (some .int) rmX10_minutesByTable [.ref (B + a0), .int a1, .int a2] (gWC s0 D T B μ) (KC s0 X) (oI r.2) (gWC s0 D T B r.1) (gA B X) 2 12 := by
  refine gXI_of RX10 (by decide +kernel) rfl (Nat.le_of_ble_eq_true rfl) ?_
  intro p e s m args below meth c ls Q hx hb hlocks hml hown hts hW hk hl hS hE
  obtain ⟨hend, hthr, htb, hQ⟩ := hE
  have hC := FX_C F hk hx hb hown hts
  have hA := gA_all hX
  have hl : lv_has ls 3 [(0, .ref (B + a0)), (1, .int a1), (2, .int a2)] := hl
  unfold fX10_minutesByTable at h
  refine lv_aload_n hx hb dX10_minutesByTable_0 rfl (lv_at hl 0 rfl) ?_
  refine gw_get (v := .ref (B + 1)) hC hW fl_X10_12 k0.1 (k0.2.2.1 (gfm s0) T B (μ a0)) rfl dX10_minutesByTable_1 ?_
  refine lv_iload_n hx hb dX10_minutesByTable_4 rfl (lv_at hl 1 rfl) ?_
  refine lv_iload_n hx hb dX10_minutesByTable_5 rfl (lv_at hl 2 rfl) ?_
  obtain ⟨r1, hcall, h⟩ := bd_out h
  refine g0_callV (As := [.int a1, .int a2]) hC hml hS hW (KC_at hk hS F.2.2.2.2) KC_blind (metX8_pairFault F hX k0.2.2.2.1 hcall) ml_X10_115 (gw_recv hC hW k0.2.2.2.1.1 (k0.2.2.2.1.2.1 (gfm s0) T B (μ 1)) rfl) ⟨rfl, rfl, (Nat.le_of_ble_eq_true rfl), (Nat.le_of_ble_eq_true rfl)⟩ rfl hl.1 rfl (Nat.le_of_ble_eq_true rfl) dX10_minutesByTable_6 ⟨(Nat.le_of_ble_eq_true rfl), (Nat.le_of_ble_eq_true rfl)⟩ (fun H locs hW hS => ?_)
  rcases tb_out h with ⟨μ3, n5, hcall, h9⟩ | ⟨μ3, r4, hcall, h⟩
  · cases h9
    exact gx_callS (As := [.ref (gfa s0 r1)]) hC hml hS hW (KC_at hk hS F.2.2.2.2) KC_blind (metX10_stopIf F hX  hcall) ml_X10_72 ⟨rfl, rfl, (Nat.le_of_ble_eq_true rfl), (Nat.le_of_ble_eq_true rfl)⟩ rfl hl.1 rfl (Nat.le_of_ble_eq_true rfl) dX10_minutesByTable_9 ⟨(Nat.le_of_ble_eq_true rfl), (Nat.le_of_ble_eq_true rfl)⟩ (fun v9 ho => by cases ho) (fun k9 ho H locs q9 ce9 hW hS hce hvm hcl => by cases ho; exact hthr _ rfl hW hS hce hvm hcl (Nat.le_of_ble_eq_true rfl) (Nat.le_of_ble_eq_true rfl))
  refine gx_callS (As := [.ref (gfa s0 r1)]) hC hml hS hW (KC_at hk hS F.2.2.2.2) KC_blind (metX10_stopIf F hX  hcall) ml_X10_72 ⟨rfl, rfl, (Nat.le_of_ble_eq_true rfl), (Nat.le_of_ble_eq_true rfl)⟩ rfl hl.1 rfl (Nat.le_of_ble_eq_true rfl) dX10_minutesByTable_9 ⟨(Nat.le_of_ble_eq_true rfl), (Nat.le_of_ble_eq_true rfl)⟩ (fun v9 ho H locs hW hS => ?_) (fun k9 ho => by cases ho)
  cases ho
  refine W.widen (k := 1) (n := 6) (Nat.le_of_ble_eq_true rfl) (Nat.le_of_ble_eq_true rfl) ?_
  refine lv_aload_n hx hb dX10_minutesByTable_12 rfl (lv_at hl 0 rfl) ?_
  refine gw_get (v := .ref (B + 520)) hC hW fl_X10_29 k0.1 (k0.2.2.1 (gfm s0) T B (μ3 a0)) rfl dX10_minutesByTable_13 ?_
  refine lv_aload_n hx hb dX10_minutesByTable_16 rfl (lv_at hl 0 rfl) ?_
  refine gw_get (v := .ref (B + 1)) hC hW fl_X10_12 k0.1 (k0.2.2.1 (gfm s0) T B (μ3 a0)) rfl dX10_minutesByTable_17 ?_
  obtain ⟨r6, hcall, h⟩ := bd_out h
  refine g0_callV (As := [.ref (B + 1)]) hC hml hS hW (KC_at hk hS F.2.2.2.2) KC_blind (metX9_fillTable F hX k0.2.2.2.2.2.2.1 k0.2.2.2.1 hcall) ml_X10_125 (gw_recv hC hW k0.2.2.2.2.2.2.1.1 (k0.2.2.2.2.2.2.1.2.1 (gfm s0) T B (μ3 520)) rfl) ⟨rfl, rfl, (Nat.le_of_ble_eq_true rfl), (Nat.le_of_ble_eq_true rfl)⟩ rfl hl.1 rfl (Nat.le_of_ble_eq_true rfl) dX10_minutesByTable_20 ⟨(Nat.le_of_ble_eq_true rfl), (Nat.le_of_ble_eq_true rfl)⟩ (fun H locs hW hS => ?_)
  refine lv_aload_n hx hb dX10_minutesByTable_23 rfl (lv_at hl 0 rfl) ?_
  refine gw_get (v := .ref (B + 520)) hC hW fl_X10_29 k0.1 (k0.2.2.1 (gfm s0) T B (r6 a0)) rfl dX10_minutesByTable_24 ?_
  refine lv_iload_n hx hb dX10_minutesByTable_27 rfl (lv_at hl 1 rfl) ?_
  refine lv_iload_n hx hb dX10_minutesByTable_28 rfl (lv_at hl 2 rfl) ?_
  obtain ⟨r7, hcall, h⟩ := bd_out h
  refine g0_callV (As := [.int a1, .int a2]) hC hml hS hW (KC_at hk hS F.2.2.2.2) KC_blind (metX9_minutesInTable F hX k0.2.2.2.2.2.2.1 hcall) ml_X10_129 (gw_recv hC hW k0.2.2.2.2.2.2.1.1 (k0.2.2.2.2.2.2.1.2.1 (gfm s0) T B (r6 520)) rfl) ⟨rfl, rfl, (Nat.le_of_ble_eq_true rfl), (Nat.le_of_ble_eq_true rfl)⟩ rfl hl.1 rfl (Nat.le_of_ble_eq_true rfl) dX10_minutesByTable_29 ⟨(Nat.le_of_ble_eq_true rfl), (Nat.le_of_ble_eq_true rfl)⟩ (fun H locs hW hS => ?_)
  rcases tb_out h with ⟨μ9, n11, hcall, h9⟩ | ⟨μ9, r10, hcall, h⟩
  · cases h9
    exact gx_callS (As := [.int r7]) hC hml hS hW (KC_at hk hS F.2.2.2.2) KC_blind (metX10_presentOnly F hX  hcall) ml_X10_122 ⟨rfl, rfl, (Nat.le_of_ble_eq_true rfl), (Nat.le_of_ble_eq_true rfl)⟩ rfl hl.1 rfl (Nat.le_of_ble_eq_true rfl) dX10_minutesByTable_32 ⟨(Nat.le_of_ble_eq_true rfl), (Nat.le_of_ble_eq_true rfl)⟩ (fun v9 ho => by cases ho) (fun k9 ho H locs q9 ce9 hW hS hce hvm hcl => by cases ho; exact hthr _ rfl hW hS hce hvm hcl (Nat.le_of_ble_eq_true rfl) (Nat.le_of_ble_eq_true rfl))
  refine gx_callS (As := [.int r7]) hC hml hS hW (KC_at hk hS F.2.2.2.2) KC_blind (metX10_presentOnly F hX  hcall) ml_X10_122 ⟨rfl, rfl, (Nat.le_of_ble_eq_true rfl), (Nat.le_of_ble_eq_true rfl)⟩ rfl hl.1 rfl (Nat.le_of_ble_eq_true rfl) dX10_minutesByTable_32 ⟨(Nat.le_of_ble_eq_true rfl), (Nat.le_of_ble_eq_true rfl)⟩ (fun v9 ho H locs hW hS => ?_) (fun k9 ho => by cases ho)
  cases ho
  refine W.widen (k := 2) (n := 12) (Nat.le_of_ble_eq_true rfl) (Nat.le_of_ble_eq_true rfl) ?_
  cases h
  exact hend _ rfl dX10_minutesByTable_35 hW hS (Nat.le_of_ble_eq_true rfl) (Nat.le_of_ble_eq_true rfl)

theorem dX10_wayFault_0 : decode cX10_wayFault 0 = .ok (.aload_n 0, 1) := by decide +kernel
theorem dX10_wayFault_1 : decode cX10_wayFault 1 = .ok (.getfield 29, 3) := by decide +kernel
theorem dX10_wayFault_4 : decode cX10_wayFault 4 = .ok (.aload_n 0, 1) := by decide +kernel
theorem dX10_wayFault_5 : decode cX10_wayFault 5 = .ok (.getfield 12, 3) := by decide +kernel
theorem dX10_wayFault_8 : decode cX10_wayFault 8 = .ok (.iload_n 1, 1) := by decide +kernel
theorem dX10_wayFault_9 : decode cX10_wayFault 9 = .ok (.iload_n 2, 1) := by decide +kernel
theorem dX10_wayFault_10 : decode cX10_wayFault 10 = .ok (.invokevirtual 458, 3) := by decide +kernel
theorem dX10_wayFault_13 : decode cX10_wayFault 13 = .ok (.ifCond .eq 9, 3) := by decide +kernel
theorem dX10_wayFault_16 : decode cX10_wayFault 16 = .ok (.getstatic 451, 3) := by decide +kernel
theorem dX10_wayFault_19 : decode cX10_wayFault 19 = .ok (.goto 6, 3) := by decide +kernel
theorem dX10_wayFault_22 : decode cX10_wayFault 22 = .ok (.getstatic 426, 3) := by decide +kernel
theorem dX10_wayFault_25 : decode cX10_wayFault 25 = .ok (.areturn, 1) := by decide +kernel
abbrev rmX10_wayFault : Room := { frames := 5, cells := 0, slots := 0, locals := 134 }
set_option maxHeartbeats 4000000 in
set_option maxRecDepth 100000 in
theorem metX10_wayFault {l : Launch} {s0 : State} {b B : Nat} {D : va_G} {T : Nat → ClassId} (F : FX l s0 b D T B) {X : Nat → Prop} (hX : ∀ o, o < 560 → ¬ X (B + o)) {N : Nat} {μ : Mem} {a0 : Nat} {a1 : Int32} {a2 : Int32} {r : Mem × Nat} (k0 : IsGa a0) (h : fX10_wayFault N μ a0 a1 a2 = some r) : gMet l yX10_wayFault cX10_wayFault 3 (some (.object "AvalancheGallery$Fault")) rmX10_wayFault [.ref (B + a0), .int a1, .int a2] (gWC s0 D T B μ) (KC s0 X) (some (.ref (gfa s0 r.2))) (gWC s0 D T B r.1) (gA B X) 0 0 := by
  refine gR_of RX10 (by decide +kernel) rfl (Nat.le_of_ble_eq_true rfl) ?_
  intro p e s m args below meth c ls Q hx hb hlocks hml hown hts hW hk hl hS hend
  have hC := FX_C F hk hx hb hown hts
  have hA := gA_all hX
  have hl : lv_has ls 3 [(0, .ref (B + a0)), (1, .int a1), (2, .int a2)] := hl
  unfold fX10_wayFault at h
  refine lv_aload_n hx hb dX10_wayFault_0 rfl (lv_at hl 0 rfl) ?_
  refine gw_get (v := .ref (B + 520)) hC hW fl_X10_29 k0.1 (k0.2.2.1 (gfm s0) T B (μ a0)) rfl dX10_wayFault_1 ?_
  refine lv_aload_n hx hb dX10_wayFault_4 rfl (lv_at hl 0 rfl) ?_
  refine gw_get (v := .ref (B + 1)) hC hW fl_X10_12 k0.1 (k0.2.2.1 (gfm s0) T B (μ a0)) rfl dX10_wayFault_5 ?_
  refine lv_iload_n hx hb dX10_wayFault_8 rfl (lv_at hl 1 rfl) ?_
  refine lv_iload_n hx hb dX10_wayFault_9 rfl (lv_at hl 2 rfl) ?_
  obtain ⟨r1, hcall, h⟩ := bd_out h
  refine g0_callV (As := [.ref (B + 1), .int a1, .int a2]) hC hml hS hW (KC_at hk hS F.2.2.2.2) KC_blind (metX9_findWay F hX k0.2.2.2.2.2.2.1 k0.2.2.2.1 hcall) ml_X10_458 (gw_recv hC hW k0.2.2.2.2.2.2.1.1 (k0.2.2.2.2.2.2.1.2.1 (gfm s0) T B (μ 520)) rfl) ⟨rfl, rfl, (Nat.le_of_ble_eq_true rfl), (Nat.le_of_ble_eq_true rfl)⟩ rfl hl.1 rfl (Nat.le_of_ble_eq_true rfl) dX10_wayFault_10 ⟨(Nat.le_of_ble_eq_true rfl), (Nat.le_of_ble_eq_true rfl)⟩ (fun H locs hW hS => ?_)
  obtain ⟨j3, hj5, h⟩ := jn1_o h
  have J4 : ∀ (y2 : Nat), j3 y2 = some r → ∀ (H : Heap) (locs : List Loc) (ls : Array Slot), gWC s0 D T B r1.1 H → va_S (gA B X) s.heap H locs → lv_has ls 3 [] → W p l e rmX10_wayFault s m args below meth c H locs 0 0 Q (F0 m 25 ls [.ref (gfa s0 y2)]) := by
    clear h hW hS hl
    intro y2 h H locs ls hW hS hl
    replace h := (hj5 y2).symm.trans h
    cases h
    exact hend dX10_wayFault_25 hW hS (Nat.le_of_ble_eq_true rfl) (Nat.le_of_ble_eq_true rfl)
  refine gw_if_eqZ (tgt := 22) hx hb dX10_wayFault_13 (by decide) (fun c6 => ?_) (fun c6 => ?_)
  · replace h := cond_f c6 h
    refine gw_gets hC (zF_4 F hk) hS fs_X10_426 dX10_wayFault_22 ?_
    exact J4 _ h _ _ _ hW hS (lv_sub hl [] rfl)
  · replace h := cond_t c6 h
    refine gw_gets hC (zF_0 F hk) hS fs_X10_451 dX10_wayFault_16 ?_
    refine lv_goto (tgt := 25) hx hb dX10_wayFault_19 (by decide) ?_
    exact J4 _ h _ _ _ hW hS (lv_sub hl [] rfl)

theorem dX10_wayLegs_0 : decode cX10_wayLegs 0 = .ok (.aload_n 0, 1) := by decide +kernel
theorem dX10_wayLegs_1 : decode cX10_wayLegs 1 = .ok (.getfield 12, 3) := by decide +kernel
theorem dX10_wayLegs_4 : decode cX10_wayLegs 4 = .ok (.iload_n 1, 1) := by decide +kernel
theorem dX10_wayLegs_5 : decode cX10_wayLegs 5 = .ok (.iload_n 2, 1) := by decide +kernel
theorem dX10_wayLegs_6 : decode cX10_wayLegs 6 = .ok (.invokevirtual 115, 3) := by decide +kernel
theorem dX10_wayLegs_9 : decode cX10_wayLegs 9 = .ok (.invokestatic 72, 3) := by decide +kernel
theorem dX10_wayLegs_12 : decode cX10_wayLegs 12 = .ok (.aload_n 0, 1) := by decide +kernel
theorem dX10_wayLegs_13 : decode cX10_wayLegs 13 = .ok (.iload_n 1, 1) := by decide +kernel
theorem dX10_wayLegs_14 : decode cX10_wayLegs 14 = .ok (.iload_n 2, 1) := by decide +kernel
theorem dX10_wayLegs_15 : decode cX10_wayLegs 15 = .ok (.invokevirtual 133, 3) := by decide +kernel
theorem dX10_wayLegs_18 : decode cX10_wayLegs 18 = .ok (.invokestatic 72, 3) := by decide +kernel
theorem dX10_wayLegs_21 : decode cX10_wayLegs 21 = .ok (.aload_n 0, 1) := by decide +kernel
theorem dX10_wayLegs_22 : decode cX10_wayLegs 22 = .ok (.getfield 29, 3) := by decide +kernel
theorem dX10_wayLegs_25 : decode cX10_wayLegs 25 = .ok (.getfield 136, 3) := by decide +kernel
theorem dX10_wayLegs_28 : decode cX10_wayLegs 28 = .ok (.iconst 1, 1) := by decide +kernel
theorem dX10_wayLegs_29 : decode cX10_wayLegs 29 = .ok (.isub, 1) := by decide +kernel
theorem dX10_wayLegs_30 : decode cX10_wayLegs 30 = .ok (.ireturn, 1) := by decide +kernel
abbrev rmX10_wayLegs : Room := { frames := 7, cells := 2, slots := 12, locals := 156 }
set_option maxHeartbeats 4000000 in
set_option maxRecDepth 100000 in
theorem metX10_wayLegs {l : Launch} {s0 : State} {b B : Nat} {D : va_G} {T : Nat → ClassId} (F : FX l s0 b D T B) {X : Nat → Prop} (hX : ∀ o, o < 560 → ¬ X (B + o)) {N : Nat} {μ : Mem} {a0 : Nat} {a1 : Int32} {a2 : Int32} {r : Mem × (Nat ⊕ Int32)} (k0 : IsGa a0) (h : fX10_wayLegs N μ a0 a1 a2 = some r) : gXMet l yX10_wayLegs cX10_wayLegs 3 (some .int) rmX10_wayLegs [.ref (B + a0), .int a1, .int a2] (gWC s0 D T B μ) (KC s0 X) (oI r.2) (gWC s0 D T B r.1) (gA B X) 2 12 := by
  refine gXI_of RX10 (by decide +kernel) rfl (Nat.le_of_ble_eq_true rfl) ?_
  intro p e s m args below meth c ls Q hx hb hlocks hml hown hts hW hk hl hS hE
  obtain ⟨hend, hthr, htb, hQ⟩ := hE
  have hC := FX_C F hk hx hb hown hts
  have hA := gA_all hX
  have hl : lv_has ls 3 [(0, .ref (B + a0)), (1, .int a1), (2, .int a2)] := hl
  unfold fX10_wayLegs at h
  refine lv_aload_n hx hb dX10_wayLegs_0 rfl (lv_at hl 0 rfl) ?_
  refine gw_get (v := .ref (B + 1)) hC hW fl_X10_12 k0.1 (k0.2.2.1 (gfm s0) T B (μ a0)) rfl dX10_wayLegs_1 ?_
  refine lv_iload_n hx hb dX10_wayLegs_4 rfl (lv_at hl 1 rfl) ?_
  refine lv_iload_n hx hb dX10_wayLegs_5 rfl (lv_at hl 2 rfl) ?_
  obtain ⟨r1, hcall, h⟩ := bd_out h
  refine g0_callV (As := [.int a1, .int a2]) hC hml hS hW (KC_at hk hS F.2.2.2.2) KC_blind (metX8_pairFault F hX k0.2.2.2.1 hcall) ml_X10_115 (gw_recv hC hW k0.2.2.2.1.1 (k0.2.2.2.1.2.1 (gfm s0) T B (μ 1)) rfl) ⟨rfl, rfl, (Nat.le_of_ble_eq_true rfl), (Nat.le_of_ble_eq_true rfl)⟩ rfl hl.1 rfl (Nat.le_of_ble_eq_true rfl) dX10_wayLegs_6 ⟨(Nat.le_of_ble_eq_true rfl), (Nat.le_of_ble_eq_true rfl)⟩ (fun H locs hW hS => ?_)
  rcases tb_out h with ⟨μ3, n5, hcall, h9⟩ | ⟨μ3, r4, hcall, h⟩
  · cases h9
    exact gx_callS (As := [.ref (gfa s0 r1)]) hC hml hS hW (KC_at hk hS F.2.2.2.2) KC_blind (metX10_stopIf F hX  hcall) ml_X10_72 ⟨rfl, rfl, (Nat.le_of_ble_eq_true rfl), (Nat.le_of_ble_eq_true rfl)⟩ rfl hl.1 rfl (Nat.le_of_ble_eq_true rfl) dX10_wayLegs_9 ⟨(Nat.le_of_ble_eq_true rfl), (Nat.le_of_ble_eq_true rfl)⟩ (fun v9 ho => by cases ho) (fun k9 ho H locs q9 ce9 hW hS hce hvm hcl => by cases ho; exact hthr _ rfl hW hS hce hvm hcl (Nat.le_of_ble_eq_true rfl) (Nat.le_of_ble_eq_true rfl))
  refine gx_callS (As := [.ref (gfa s0 r1)]) hC hml hS hW (KC_at hk hS F.2.2.2.2) KC_blind (metX10_stopIf F hX  hcall) ml_X10_72 ⟨rfl, rfl, (Nat.le_of_ble_eq_true rfl), (Nat.le_of_ble_eq_true rfl)⟩ rfl hl.1 rfl (Nat.le_of_ble_eq_true rfl) dX10_wayLegs_9 ⟨(Nat.le_of_ble_eq_true rfl), (Nat.le_of_ble_eq_true rfl)⟩ (fun v9 ho H locs hW hS => ?_) (fun k9 ho => by cases ho)
  cases ho
  refine W.widen (k := 1) (n := 6) (Nat.le_of_ble_eq_true rfl) (Nat.le_of_ble_eq_true rfl) ?_
  refine lv_aload_n hx hb dX10_wayLegs_12 rfl (lv_at hl 0 rfl) ?_
  refine lv_iload_n hx hb dX10_wayLegs_13 rfl (lv_at hl 1 rfl) ?_
  refine lv_iload_n hx hb dX10_wayLegs_14 rfl (lv_at hl 2 rfl) ?_
  obtain ⟨r6, hcall, h⟩ := bd_out h
  refine g0_callV (As := [.int a1, .int a2]) hC hml hS hW (KC_at hk hS F.2.2.2.2) KC_blind (metX10_wayFault F hX k0 hcall) ml_X10_133 (gw_recv hC hW k0.1 (k0.2.2.1 (gfm s0) T B (μ3 a0)) rfl) ⟨rfl, rfl, (Nat.le_of_ble_eq_true rfl), (Nat.le_of_ble_eq_true rfl)⟩ rfl hl.1 rfl (Nat.le_of_ble_eq_true rfl) dX10_wayLegs_15 ⟨(Nat.le_of_ble_eq_true rfl), (Nat.le_of_ble_eq_true rfl)⟩ (fun H locs hW hS => ?_)
  rcases tb_out h with ⟨μ8, n10, hcall, h9⟩ | ⟨μ8, r9, hcall, h⟩
  · cases h9
    exact gx_callS (As := [.ref (gfa s0 r6.2)]) hC hml hS hW (KC_at hk hS F.2.2.2.2) KC_blind (metX10_stopIf F hX  hcall) ml_X10_72 ⟨rfl, rfl, (Nat.le_of_ble_eq_true rfl), (Nat.le_of_ble_eq_true rfl)⟩ rfl hl.1 rfl (Nat.le_of_ble_eq_true rfl) dX10_wayLegs_18 ⟨(Nat.le_of_ble_eq_true rfl), (Nat.le_of_ble_eq_true rfl)⟩ (fun v9 ho => by cases ho) (fun k9 ho H locs q9 ce9 hW hS hce hvm hcl => by cases ho; exact hthr _ rfl hW hS hce hvm hcl (Nat.le_of_ble_eq_true rfl) (Nat.le_of_ble_eq_true rfl))
  refine gx_callS (As := [.ref (gfa s0 r6.2)]) hC hml hS hW (KC_at hk hS F.2.2.2.2) KC_blind (metX10_stopIf F hX  hcall) ml_X10_72 ⟨rfl, rfl, (Nat.le_of_ble_eq_true rfl), (Nat.le_of_ble_eq_true rfl)⟩ rfl hl.1 rfl (Nat.le_of_ble_eq_true rfl) dX10_wayLegs_18 ⟨(Nat.le_of_ble_eq_true rfl), (Nat.le_of_ble_eq_true rfl)⟩ (fun v9 ho H locs hW hS => ?_) (fun k9 ho => by cases ho)
  cases ho
  refine W.widen (k := 2) (n := 12) (Nat.le_of_ble_eq_true rfl) (Nat.le_of_ble_eq_true rfl) ?_
  refine lv_aload_n hx hb dX10_wayLegs_21 rfl (lv_at hl 0 rfl) ?_
  refine gw_get (v := .ref (B + 520)) hC hW fl_X10_29 k0.1 (k0.2.2.1 (gfm s0) T B (μ8 a0)) rfl dX10_wayLegs_22 ?_
  refine gw_get (v := .int (μ8 520 1)) hC hW fl_X10_136.1 k0.2.2.2.2.2.2.1.1 (k0.2.2.2.2.2.2.1.2.1 (gfm s0) T B (μ8 520)) rfl dX10_wayLegs_25 ?_
  refine lv_iconst (v := 1) hx hb dX10_wayLegs_28 (by decide) ?_
  refine lv_isub hx hb dX10_wayLegs_29 ?_
  cases h
  exact hend _ rfl dX10_wayLegs_30 hW hS (Nat.le_of_ble_eq_true rfl) (Nat.le_of_ble_eq_true rfl)

theorem dX10_wayRoom_0 : decode cX10_wayRoom 0 = .ok (.aload_n 0, 1) := by decide +kernel
theorem dX10_wayRoom_1 : decode cX10_wayRoom 1 = .ok (.getfield 12, 3) := by decide +kernel
theorem dX10_wayRoom_4 : decode cX10_wayRoom 4 = .ok (.iload_n 1, 1) := by decide +kernel
theorem dX10_wayRoom_5 : decode cX10_wayRoom 5 = .ok (.iload_n 2, 1) := by decide +kernel
theorem dX10_wayRoom_6 : decode cX10_wayRoom 6 = .ok (.invokevirtual 115, 3) := by decide +kernel
theorem dX10_wayRoom_9 : decode cX10_wayRoom 9 = .ok (.invokestatic 72, 3) := by decide +kernel
theorem dX10_wayRoom_12 : decode cX10_wayRoom 12 = .ok (.aload_n 0, 1) := by decide +kernel
theorem dX10_wayRoom_13 : decode cX10_wayRoom 13 = .ok (.iload_n 1, 1) := by decide +kernel
theorem dX10_wayRoom_14 : decode cX10_wayRoom 14 = .ok (.iload_n 2, 1) := by decide +kernel
theorem dX10_wayRoom_15 : decode cX10_wayRoom 15 = .ok (.invokevirtual 133, 3) := by decide +kernel
theorem dX10_wayRoom_18 : decode cX10_wayRoom 18 = .ok (.invokestatic 72, 3) := by decide +kernel
theorem dX10_wayRoom_21 : decode cX10_wayRoom 21 = .ok (.iload_n 3, 1) := by decide +kernel
theorem dX10_wayRoom_22 : decode cX10_wayRoom 22 = .ok (.ifCond .lt 14, 3) := by decide +kernel
theorem dX10_wayRoom_25 : decode cX10_wayRoom 25 = .ok (.iload_n 3, 1) := by decide +kernel
theorem dX10_wayRoom_26 : decode cX10_wayRoom 26 = .ok (.aload_n 0, 1) := by decide +kernel
theorem dX10_wayRoom_27 : decode cX10_wayRoom 27 = .ok (.getfield 29, 3) := by decide +kernel
theorem dX10_wayRoom_30 : decode cX10_wayRoom 30 = .ok (.getfield 136, 3) := by decide +kernel
theorem dX10_wayRoom_33 : decode cX10_wayRoom 33 = .ok (.if_icmp .lt 13, 3) := by decide +kernel
theorem dX10_wayRoom_36 : decode cX10_wayRoom 36 = .ok (.new 139, 3) := by decide +kernel
theorem dX10_wayRoom_39 : decode cX10_wayRoom 39 = .ok (.dup, 1) := by decide +kernel
theorem dX10_wayRoom_40 : decode cX10_wayRoom 40 = .ok (.ldc 141, 2) := by decide +kernel
theorem dX10_wayRoom_42 : decode cX10_wayRoom 42 = .ok (.invokespecial 143, 3) := by decide +kernel
theorem dX10_wayRoom_45 : decode cX10_wayRoom 45 = .ok (.athrow, 1) := by decide +kernel
theorem dX10_wayRoom_46 : decode cX10_wayRoom 46 = .ok (.aload_n 0, 1) := by decide +kernel
theorem dX10_wayRoom_47 : decode cX10_wayRoom 47 = .ok (.getfield 29, 3) := by decide +kernel
theorem dX10_wayRoom_50 : decode cX10_wayRoom 50 = .ok (.getfield 146, 3) := by decide +kernel
theorem dX10_wayRoom_53 : decode cX10_wayRoom 53 = .ok (.iload_n 3, 1) := by decide +kernel
theorem dX10_wayRoom_54 : decode cX10_wayRoom 54 = .ok (.iaload, 1) := by decide +kernel
theorem dX10_wayRoom_55 : decode cX10_wayRoom 55 = .ok (.ireturn, 1) := by decide +kernel
abbrev rmX10_wayRoom : Room := { frames := 7, cells := 3, slots := 18, locals := 156 }
set_option maxHeartbeats 4000000 in
set_option maxRecDepth 100000 in
theorem metX10_wayRoom {l : Launch} {s0 : State} {b B : Nat} {D : va_G} {T : Nat → ClassId} (F : FX l s0 b D T B) {X : Nat → Prop} (hX : ∀ o, o < 560 → ¬ X (B + o)) {N : Nat} {μ : Mem} {a0 : Nat} {a1 : Int32} {a2 : Int32} {a3 : Int32} {r : Mem × (Nat ⊕ Int32)} (k0 : IsGa a0) (h : fX10_wayRoom N μ a0 a1 a2 a3 = some r) : gXMet l yX10_wayRoom cX10_wayRoom 4 (some .int) rmX10_wayRoom [.ref (B + a0), .int a1, .int a2, .int a3] (gWC s0 D T B μ) (KC s0 X) (oI r.2) (gWC s0 D T B r.1) (gA B X) 3 18 := by
  refine gXI_of RX10 (by decide +kernel) rfl (Nat.le_of_ble_eq_true rfl) ?_
  intro p e s m args below meth c ls Q hx hb hlocks hml hown hts hW hk hl hS hE
  obtain ⟨hend, hthr, htb, hQ⟩ := hE
  have hC := FX_C F hk hx hb hown hts
  have hA := gA_all hX
  have hl : lv_has ls 4 [(0, .ref (B + a0)), (1, .int a1), (2, .int a2), (3, .int a3)] := hl
  unfold fX10_wayRoom at h
  refine lv_aload_n hx hb dX10_wayRoom_0 rfl (lv_at hl 0 rfl) ?_
  refine gw_get (v := .ref (B + 1)) hC hW fl_X10_12 k0.1 (k0.2.2.1 (gfm s0) T B (μ a0)) rfl dX10_wayRoom_1 ?_
  refine lv_iload_n hx hb dX10_wayRoom_4 rfl (lv_at hl 1 rfl) ?_
  refine lv_iload_n hx hb dX10_wayRoom_5 rfl (lv_at hl 2 rfl) ?_
  obtain ⟨r1, hcall, h⟩ := bd_out h
  refine g0_callV (As := [.int a1, .int a2]) hC hml hS hW (KC_at hk hS F.2.2.2.2) KC_blind (metX8_pairFault F hX k0.2.2.2.1 hcall) ml_X10_115 (gw_recv hC hW k0.2.2.2.1.1 (k0.2.2.2.1.2.1 (gfm s0) T B (μ 1)) rfl) ⟨rfl, rfl, (Nat.le_of_ble_eq_true rfl), (Nat.le_of_ble_eq_true rfl)⟩ rfl hl.1 rfl (Nat.le_of_ble_eq_true rfl) dX10_wayRoom_6 ⟨(Nat.le_of_ble_eq_true rfl), (Nat.le_of_ble_eq_true rfl)⟩ (fun H locs hW hS => ?_)
  rcases tb_out h with ⟨μ3, n5, hcall, h9⟩ | ⟨μ3, r4, hcall, h⟩
  · cases h9
    exact gx_callS (As := [.ref (gfa s0 r1)]) hC hml hS hW (KC_at hk hS F.2.2.2.2) KC_blind (metX10_stopIf F hX  hcall) ml_X10_72 ⟨rfl, rfl, (Nat.le_of_ble_eq_true rfl), (Nat.le_of_ble_eq_true rfl)⟩ rfl hl.1 rfl (Nat.le_of_ble_eq_true rfl) dX10_wayRoom_9 ⟨(Nat.le_of_ble_eq_true rfl), (Nat.le_of_ble_eq_true rfl)⟩ (fun v9 ho => by cases ho) (fun k9 ho H locs q9 ce9 hW hS hce hvm hcl => by cases ho; exact hthr _ rfl hW hS hce hvm hcl (Nat.le_of_ble_eq_true rfl) (Nat.le_of_ble_eq_true rfl))
  refine gx_callS (As := [.ref (gfa s0 r1)]) hC hml hS hW (KC_at hk hS F.2.2.2.2) KC_blind (metX10_stopIf F hX  hcall) ml_X10_72 ⟨rfl, rfl, (Nat.le_of_ble_eq_true rfl), (Nat.le_of_ble_eq_true rfl)⟩ rfl hl.1 rfl (Nat.le_of_ble_eq_true rfl) dX10_wayRoom_9 ⟨(Nat.le_of_ble_eq_true rfl), (Nat.le_of_ble_eq_true rfl)⟩ (fun v9 ho H locs hW hS => ?_) (fun k9 ho => by cases ho)
  cases ho
  refine W.widen (k := 1) (n := 6) (Nat.le_of_ble_eq_true rfl) (Nat.le_of_ble_eq_true rfl) ?_
  refine lv_aload_n hx hb dX10_wayRoom_12 rfl (lv_at hl 0 rfl) ?_
  refine lv_iload_n hx hb dX10_wayRoom_13 rfl (lv_at hl 1 rfl) ?_
  refine lv_iload_n hx hb dX10_wayRoom_14 rfl (lv_at hl 2 rfl) ?_
  obtain ⟨r6, hcall, h⟩ := bd_out h
  refine g0_callV (As := [.int a1, .int a2]) hC hml hS hW (KC_at hk hS F.2.2.2.2) KC_blind (metX10_wayFault F hX k0 hcall) ml_X10_133 (gw_recv hC hW k0.1 (k0.2.2.1 (gfm s0) T B (μ3 a0)) rfl) ⟨rfl, rfl, (Nat.le_of_ble_eq_true rfl), (Nat.le_of_ble_eq_true rfl)⟩ rfl hl.1 rfl (Nat.le_of_ble_eq_true rfl) dX10_wayRoom_15 ⟨(Nat.le_of_ble_eq_true rfl), (Nat.le_of_ble_eq_true rfl)⟩ (fun H locs hW hS => ?_)
  rcases tb_out h with ⟨μ8, n10, hcall, h9⟩ | ⟨μ8, r9, hcall, h⟩
  · cases h9
    exact gx_callS (As := [.ref (gfa s0 r6.2)]) hC hml hS hW (KC_at hk hS F.2.2.2.2) KC_blind (metX10_stopIf F hX  hcall) ml_X10_72 ⟨rfl, rfl, (Nat.le_of_ble_eq_true rfl), (Nat.le_of_ble_eq_true rfl)⟩ rfl hl.1 rfl (Nat.le_of_ble_eq_true rfl) dX10_wayRoom_18 ⟨(Nat.le_of_ble_eq_true rfl), (Nat.le_of_ble_eq_true rfl)⟩ (fun v9 ho => by cases ho) (fun k9 ho H locs q9 ce9 hW hS hce hvm hcl => by cases ho; exact hthr _ rfl hW hS hce hvm hcl (Nat.le_of_ble_eq_true rfl) (Nat.le_of_ble_eq_true rfl))
  refine gx_callS (As := [.ref (gfa s0 r6.2)]) hC hml hS hW (KC_at hk hS F.2.2.2.2) KC_blind (metX10_stopIf F hX  hcall) ml_X10_72 ⟨rfl, rfl, (Nat.le_of_ble_eq_true rfl), (Nat.le_of_ble_eq_true rfl)⟩ rfl hl.1 rfl (Nat.le_of_ble_eq_true rfl) dX10_wayRoom_18 ⟨(Nat.le_of_ble_eq_true rfl), (Nat.le_of_ble_eq_true rfl)⟩ (fun v9 ho H locs hW hS => ?_) (fun k9 ho => by cases ho)
  cases ho
  refine W.widen (k := 2) (n := 12) (Nat.le_of_ble_eq_true rfl) (Nat.le_of_ble_eq_true rfl) ?_
  refine lv_iload_n hx hb dX10_wayRoom_21 rfl (lv_at hl 3 rfl) ?_
  obtain ⟨j12, hj14, h⟩ := jn1_o h
  have J13 : ∀ (u11 : Unit), j12 u11 = some r → ∀ (H : Heap) (locs : List Loc) (ls : Array Slot), gWC s0 D T B μ8 H → va_S (gA B X) s.heap H locs → lv_has ls 4 [] → W p l e rmX10_wayRoom s m args below meth c H locs 2 12 Q (F0 m 36 ls []) := by
    clear h hW hS hl
    intro u11 h H locs ls hW hS hl
    replace h := (hj14 u11).symm.trans h
    cases h
    exact gx_throwNS F hk hC hml hlocks htb hQ rfl hW hS dX10_wayRoom_36 dX10_wayRoom_39 dX10_wayRoom_40 dX10_wayRoom_42 dX10_wayRoom_45 tw_X10_139_141_143 hl.1 (Nat.le_of_ble_eq_true rfl) (Nat.le_of_ble_eq_true rfl) ⟨Nat.le_of_ble_eq_true rfl, Nat.le_of_ble_eq_true rfl⟩ (Nat.le_of_ble_eq_true rfl) (Nat.le_of_ble_eq_true rfl)
  refine lv_if_lt (tgt := 36) hx hb dX10_wayRoom_22 (by decide) (fun c15 => ?_) (fun c15 => ?_)
  · replace h := ite_t c15 h
    exact J13 _ h _ _ _ hW hS (lv_sub hl [] rfl)
  · replace h := ite_f c15 h
    refine lv_iload_n hx hb dX10_wayRoom_25 rfl (lv_at hl 3 rfl) ?_
    refine lv_aload_n hx hb dX10_wayRoom_26 rfl (lv_at hl 0 rfl) ?_
    refine gw_get (v := .ref (B + 520)) hC hW fl_X10_29 k0.1 (k0.2.2.1 (gfm s0) T B (μ8 a0)) rfl dX10_wayRoom_27 ?_
    refine gw_get (v := .int (μ8 520 1)) hC hW fl_X10_136.1 k0.2.2.2.2.2.2.1.1 (k0.2.2.2.2.2.2.1.2.1 (gfm s0) T B (μ8 520)) rfl dX10_wayRoom_30 ?_
    refine lv_icmp_lt (tgt := 46) hx hb dX10_wayRoom_33 (by decide) (fun c16 => ?_) (fun c16 => ?_)
    · replace h := ite_t c16 h
      refine lv_aload_n hx hb dX10_wayRoom_46 rfl (lv_at hl 0 rfl) ?_
      refine gw_get (v := .ref (B + 520)) hC hW fl_X10_29 k0.1 (k0.2.2.1 (gfm s0) T B (μ8 a0)) rfl dX10_wayRoom_47 ?_
      refine gw_get (v := .ref (B + (520 + 1))) hC hW fl_X10_146 k0.2.2.2.2.2.2.1.1 (k0.2.2.2.2.2.2.1.2.1 (gfm s0) T B (μ8 520)) rfl dX10_wayRoom_50 ?_
      refine lv_iload_n hx hb dX10_wayRoom_53 rfl (lv_at hl 3 rfl) ?_
      obtain ⟨v17, e18, hi19, h⟩ := ag_o h
      refine gq_iald hC hW k0.2.2.2.2.2.2.1.2.2.1.1 (k0.2.2.2.2.2.2.1.2.2.1.2 (gfm s0) T B (μ8 (520 + 1))) (t0 := 0) rfl e18 hi19 dX10_wayRoom_54 ?_
      cases h
      exact hend _ rfl dX10_wayRoom_55 hW hS (Nat.le_of_ble_eq_true rfl) (Nat.le_of_ble_eq_true rfl)
    · replace h := ite_f c16 h
      exact J13 _ h _ _ _ hW hS (lv_sub hl [] rfl)

theorem dX10_pileFault_0 : decode cX10_pileFault 0 = .ok (.aload_n 0, 1) := by decide +kernel
theorem dX10_pileFault_1 : decode cX10_pileFault 1 = .ok (.getfield 12, 3) := by decide +kernel
theorem dX10_pileFault_4 : decode cX10_pileFault 4 = .ok (.iload_n 1, 1) := by decide +kernel
theorem dX10_pileFault_5 : decode cX10_pileFault 5 = .ok (.invokevirtual 83, 3) := by decide +kernel
theorem dX10_pileFault_8 : decode cX10_pileFault 8 = .ok (.getstatic 451, 3) := by decide +kernel
theorem dX10_pileFault_11 : decode cX10_pileFault 11 = .ok (.if_acmp .eq 7, 3) := by decide +kernel
theorem dX10_pileFault_14 : decode cX10_pileFault 14 = .ok (.getstatic 408, 3) := by decide +kernel
theorem dX10_pileFault_17 : decode cX10_pileFault 17 = .ok (.areturn, 1) := by decide +kernel
theorem dX10_pileFault_18 : decode cX10_pileFault 18 = .ok (.iload_n 2, 1) := by decide +kernel
theorem dX10_pileFault_19 : decode cX10_pileFault 19 = .ok (.invokestatic 86, 3) := by decide +kernel
theorem dX10_pileFault_22 : decode cX10_pileFault 22 = .ok (.getstatic 451, 3) := by decide +kernel
theorem dX10_pileFault_25 : decode cX10_pileFault 25 = .ok (.if_acmp .eq 7, 3) := by decide +kernel
theorem dX10_pileFault_28 : decode cX10_pileFault 28 = .ok (.getstatic 416, 3) := by decide +kernel
theorem dX10_pileFault_31 : decode cX10_pileFault 31 = .ok (.areturn, 1) := by decide +kernel
theorem dX10_pileFault_32 : decode cX10_pileFault 32 = .ok (.aload_n 0, 1) := by decide +kernel
theorem dX10_pileFault_33 : decode cX10_pileFault 33 = .ok (.getfield 12, 3) := by decide +kernel
theorem dX10_pileFault_36 : decode cX10_pileFault 36 = .ok (.getfield 192, 3) := by decide +kernel
theorem dX10_pileFault_39 : decode cX10_pileFault 39 = .ok (.iconst 5, 1) := by decide +kernel
theorem dX10_pileFault_40 : decode cX10_pileFault 40 = .ok (.if_icmp .lt 9, 3) := by decide +kernel
theorem dX10_pileFault_43 : decode cX10_pileFault 43 = .ok (.getstatic 421, 3) := by decide +kernel
theorem dX10_pileFault_46 : decode cX10_pileFault 46 = .ok (.goto 6, 3) := by decide +kernel
theorem dX10_pileFault_49 : decode cX10_pileFault 49 = .ok (.getstatic 451, 3) := by decide +kernel
theorem dX10_pileFault_52 : decode cX10_pileFault 52 = .ok (.areturn, 1) := by decide +kernel
abbrev rmX10_pileFault : Room := { frames := 4, cells := 0, slots := 0, locals := 102 }
set_option maxHeartbeats 4000000 in
set_option maxRecDepth 100000 in
theorem metX10_pileFault {l : Launch} {s0 : State} {b B : Nat} {D : va_G} {T : Nat → ClassId} (F : FX l s0 b D T B) {X : Nat → Prop} (hX : ∀ o, o < 560 → ¬ X (B + o)) {N : Nat} {μ : Mem} {a0 : Nat} {a1 : Int32} {a2 : Int32} {r : Nat} (k0 : IsGa a0) (h : fX10_pileFault N μ a0 a1 a2 = some r) : gMet l yX10_pileFault cX10_pileFault 3 (some (.object "AvalancheGallery$Fault")) rmX10_pileFault [.ref (B + a0), .int a1, .int a2] (gWC s0 D T B μ) (KC s0 X) (some (.ref (gfa s0 r))) (gWC s0 D T B μ) (gA B X) 0 0 := by
  refine gR_of RX10 (by decide +kernel) rfl (Nat.le_of_ble_eq_true rfl) ?_
  intro p e s m args below meth c ls Q hx hb hlocks hml hown hts hW hk hl hS hend
  have hC := FX_C F hk hx hb hown hts
  have hA := gA_all hX
  have hl : lv_has ls 3 [(0, .ref (B + a0)), (1, .int a1), (2, .int a2)] := hl
  unfold fX10_pileFault at h
  refine lv_aload_n hx hb dX10_pileFault_0 rfl (lv_at hl 0 rfl) ?_
  refine gw_get (v := .ref (B + 1)) hC hW fl_X10_12 k0.1 (k0.2.2.1 (gfm s0) T B (μ a0)) rfl dX10_pileFault_1 ?_
  refine lv_iload_n hx hb dX10_pileFault_4 rfl (lv_at hl 1 rfl) ?_
  obtain ⟨r1, hcall, h⟩ := bd_out h
  refine g0_callV (As := [.int a1]) hC hml hS hW (KC_at hk hS F.2.2.2.2) KC_blind (metX8_roomIndexFault F hX k0.2.2.2.1 hcall) ml_X10_83 (gw_recv hC hW k0.2.2.2.1.1 (k0.2.2.2.1.2.1 (gfm s0) T B (μ 1)) rfl) ⟨rfl, rfl, (Nat.le_of_ble_eq_true rfl), (Nat.le_of_ble_eq_true rfl)⟩ rfl hl.1 rfl (Nat.le_of_ble_eq_true rfl) dX10_pileFault_5 ⟨(Nat.le_of_ble_eq_true rfl), (Nat.le_of_ble_eq_true rfl)⟩ (fun H locs hW hS => ?_)
  refine gw_gets hC (zF_0 F hk) hS fs_X10_451 dX10_pileFault_8 ?_
  refine gw_aeF (tgt := 18) F hx hb dX10_pileFault_11 (by decide) (fun c2 => ?_) (fun c2 => ?_)
  · replace h := ite_t c2 h
    refine lv_iload_n hx hb dX10_pileFault_18 rfl (lv_at hl 2 rfl) ?_
    obtain ⟨r3, hcall, h⟩ := bd_out h
    refine g0_callS (As := [.int a2]) hC hml hS hW (KC_at hk hS F.2.2.2.2) KC_blind (metX10_digitFault F hX  hcall) ml_X10_86 ⟨rfl, rfl, (Nat.le_of_ble_eq_true rfl), (Nat.le_of_ble_eq_true rfl)⟩ rfl hl.1 rfl (Nat.le_of_ble_eq_true rfl) dX10_pileFault_19 ⟨(Nat.le_of_ble_eq_true rfl), (Nat.le_of_ble_eq_true rfl)⟩ (fun H locs hW hS => ?_)
    refine gw_gets hC (zF_0 F hk) hS fs_X10_451 dX10_pileFault_22 ?_
    refine gw_aeF (tgt := 32) F hx hb dX10_pileFault_25 (by decide) (fun c4 => ?_) (fun c4 => ?_)
    · replace h := ite_t c4 h
      refine lv_aload_n hx hb dX10_pileFault_32 rfl (lv_at hl 0 rfl) ?_
      refine gw_get (v := .ref (B + 1)) hC hW fl_X10_12 k0.1 (k0.2.2.1 (gfm s0) T B (μ a0)) rfl dX10_pileFault_33 ?_
      refine gw_get (v := .int (μ 1 4)) hC hW fl_X10_192.1 k0.2.2.2.1.1 (k0.2.2.2.1.2.1 (gfm s0) T B (μ 1)) rfl dX10_pileFault_36 ?_
      refine lv_iconst (v := 5) hx hb dX10_pileFault_39 (by decide) ?_
      obtain ⟨j6, hj8, h⟩ := jn1_o h
      have J7 : ∀ (y5 : Nat), j6 y5 = some r → ∀ (H : Heap) (locs : List Loc) (ls : Array Slot), gWC s0 D T B μ H → va_S (gA B X) s.heap H locs → lv_has ls 3 [] → W p l e rmX10_pileFault s m args below meth c H locs 0 0 Q (F0 m 52 ls [.ref (gfa s0 y5)]) := by
        clear h hW hS hl
        intro y5 h H locs ls hW hS hl
        replace h := (hj8 y5).symm.trans h
        cases h
        exact hend dX10_pileFault_52 hW hS (Nat.le_of_ble_eq_true rfl) (Nat.le_of_ble_eq_true rfl)
      refine lv_icmp_lt (tgt := 49) hx hb dX10_pileFault_40 (by decide) (fun c9 => ?_) (fun c9 => ?_)
      · replace h := ite_t c9 h
        refine gw_gets hC (zF_0 F hk) hS fs_X10_451 dX10_pileFault_49 ?_
        exact J7 _ h _ _ _ hW hS (lv_sub hl [] rfl)
      · replace h := ite_f c9 h
        refine gw_gets hC (zF_3 F hk) hS fs_X10_421 dX10_pileFault_43 ?_
        refine lv_goto (tgt := 52) hx hb dX10_pileFault_46 (by decide) ?_
        exact J7 _ h _ _ _ hW hS (lv_sub hl [] rfl)
    · replace h := ite_f c4 h
      refine gw_gets hC (zF_2 F hk) hS fs_X10_416 dX10_pileFault_28 ?_
      cases h
      exact hend dX10_pileFault_31 hW hS (Nat.le_of_ble_eq_true rfl) (Nat.le_of_ble_eq_true rfl)
  · replace h := ite_f c2 h
    refine gw_gets hC (zF_1 F hk) hS fs_X10_408 dX10_pileFault_14 ?_
    cases h
    exact hend dX10_pileFault_17 hW hS (Nat.le_of_ble_eq_true rfl) (Nat.le_of_ble_eq_true rfl)

theorem dX10_addExhibit_0 : decode cX10_addExhibit 0 = .ok (.aload_n 0, 1) := by decide +kernel
theorem dX10_addExhibit_1 : decode cX10_addExhibit 1 = .ok (.iload_n 1, 1) := by decide +kernel
theorem dX10_addExhibit_2 : decode cX10_addExhibit 2 = .ok (.iload_n 2, 1) := by decide +kernel
theorem dX10_addExhibit_3 : decode cX10_addExhibit 3 = .ok (.invokevirtual 149, 3) := by decide +kernel
theorem dX10_addExhibit_6 : decode cX10_addExhibit 6 = .ok (.invokestatic 72, 3) := by decide +kernel
theorem dX10_addExhibit_9 : decode cX10_addExhibit 9 = .ok (.aload_n 0, 1) := by decide +kernel
theorem dX10_addExhibit_10 : decode cX10_addExhibit 10 = .ok (.invokevirtual 76, 3) := by decide +kernel
theorem dX10_addExhibit_13 : decode cX10_addExhibit 13 = .ok (.aload_n 0, 1) := by decide +kernel
theorem dX10_addExhibit_14 : decode cX10_addExhibit 14 = .ok (.getfield 12, 3) := by decide +kernel
theorem dX10_addExhibit_17 : decode cX10_addExhibit 17 = .ok (.iload_n 1, 1) := by decide +kernel
theorem dX10_addExhibit_18 : decode cX10_addExhibit 18 = .ok (.iload_n 2, 1) := by decide +kernel
theorem dX10_addExhibit_19 : decode cX10_addExhibit 19 = .ok (.invokevirtual 152, 3) := by decide +kernel
theorem dX10_addExhibit_22 : decode cX10_addExhibit 22 = .ok (.ireturn, 1) := by decide +kernel
abbrev rmX10_addExhibit : Room := { frames := 7, cells := 1, slots := 6, locals := 144 }
set_option maxHeartbeats 4000000 in
set_option maxRecDepth 100000 in
theorem metX10_addExhibit {l : Launch} {s0 : State} {b B : Nat} {D : va_G} {T : Nat → ClassId} (F : FX l s0 b D T B) {X : Nat → Prop} (hX : ∀ o, o < 560 → ¬ X (B + o)) {N : Nat} {μ : Mem} {a0 : Nat} {a1 : Int32} {a2 : Int32} {r : Mem × (Nat ⊕ Int32)} (k0 : IsGa a0) (h : fX10_addExhibit N μ a0 a1 a2 = some r) : gXMet l yX10_addExhibit cX10_addExhibit 3 (some .int) rmX10_addExhibit [.ref (B + a0), .int a1, .int a2] (gWC s0 D T B μ) (KC s0 X) (oI r.2) (gWC s0 D T B r.1) (gA B X) 1 6 := by
  refine gXI_of RX10 (by decide +kernel) rfl (Nat.le_of_ble_eq_true rfl) ?_
  intro p e s m args below meth c ls Q hx hb hlocks hml hown hts hW hk hl hS hE
  obtain ⟨hend, hthr, htb, hQ⟩ := hE
  have hC := FX_C F hk hx hb hown hts
  have hA := gA_all hX
  have hl : lv_has ls 3 [(0, .ref (B + a0)), (1, .int a1), (2, .int a2)] := hl
  unfold fX10_addExhibit at h
  refine lv_aload_n hx hb dX10_addExhibit_0 rfl (lv_at hl 0 rfl) ?_
  refine lv_iload_n hx hb dX10_addExhibit_1 rfl (lv_at hl 1 rfl) ?_
  refine lv_iload_n hx hb dX10_addExhibit_2 rfl (lv_at hl 2 rfl) ?_
  obtain ⟨r1, hcall, h⟩ := bd_out h
  refine g0_callV (As := [.int a1, .int a2]) hC hml hS hW (KC_at hk hS F.2.2.2.2) KC_blind (metX10_pileFault F hX k0 hcall) ml_X10_149 (gw_recv hC hW k0.1 (k0.2.2.1 (gfm s0) T B (μ a0)) rfl) ⟨rfl, rfl, (Nat.le_of_ble_eq_true rfl), (Nat.le_of_ble_eq_true rfl)⟩ rfl hl.1 rfl (Nat.le_of_ble_eq_true rfl) dX10_addExhibit_3 ⟨(Nat.le_of_ble_eq_true rfl), (Nat.le_of_ble_eq_true rfl)⟩ (fun H locs hW hS => ?_)
  rcases tb_out h with ⟨μ3, n5, hcall, h9⟩ | ⟨μ3, r4, hcall, h⟩
  · cases h9
    exact gx_callS (As := [.ref (gfa s0 r1)]) hC hml hS hW (KC_at hk hS F.2.2.2.2) KC_blind (metX10_stopIf F hX  hcall) ml_X10_72 ⟨rfl, rfl, (Nat.le_of_ble_eq_true rfl), (Nat.le_of_ble_eq_true rfl)⟩ rfl hl.1 rfl (Nat.le_of_ble_eq_true rfl) dX10_addExhibit_6 ⟨(Nat.le_of_ble_eq_true rfl), (Nat.le_of_ble_eq_true rfl)⟩ (fun v9 ho => by cases ho) (fun k9 ho H locs q9 ce9 hW hS hce hvm hcl => by cases ho; exact hthr _ rfl hW hS hce hvm hcl (Nat.le_of_ble_eq_true rfl) (Nat.le_of_ble_eq_true rfl))
  refine gx_callS (As := [.ref (gfa s0 r1)]) hC hml hS hW (KC_at hk hS F.2.2.2.2) KC_blind (metX10_stopIf F hX  hcall) ml_X10_72 ⟨rfl, rfl, (Nat.le_of_ble_eq_true rfl), (Nat.le_of_ble_eq_true rfl)⟩ rfl hl.1 rfl (Nat.le_of_ble_eq_true rfl) dX10_addExhibit_6 ⟨(Nat.le_of_ble_eq_true rfl), (Nat.le_of_ble_eq_true rfl)⟩ (fun v9 ho H locs hW hS => ?_) (fun k9 ho => by cases ho)
  cases ho
  refine W.widen (k := 1) (n := 6) (Nat.le_of_ble_eq_true rfl) (Nat.le_of_ble_eq_true rfl) ?_
  refine lv_aload_n hx hb dX10_addExhibit_9 rfl (lv_at hl 0 rfl) ?_
  obtain ⟨r6, hcall, h⟩ := bd_out h
  refine g0_callV (As := []) hC hml hS hW (KC_at hk hS F.2.2.2.2) KC_blind (metX10_remember F hX k0 hcall) ml_X10_76 (gw_recv hC hW k0.1 (k0.2.2.1 (gfm s0) T B (μ3 a0)) rfl) ⟨rfl, rfl, (Nat.le_of_ble_eq_true rfl), (Nat.le_of_ble_eq_true rfl)⟩ rfl hl.1 rfl (Nat.le_of_ble_eq_true rfl) dX10_addExhibit_10 ⟨(Nat.le_of_ble_eq_true rfl), (Nat.le_of_ble_eq_true rfl)⟩ (fun H locs hW hS => ?_)
  refine lv_aload_n hx hb dX10_addExhibit_13 rfl (lv_at hl 0 rfl) ?_
  refine gw_get (v := .ref (B + 1)) hC hW fl_X10_12 k0.1 (k0.2.2.1 (gfm s0) T B (r6 a0)) rfl dX10_addExhibit_14 ?_
  refine lv_iload_n hx hb dX10_addExhibit_17 rfl (lv_at hl 1 rfl) ?_
  refine lv_iload_n hx hb dX10_addExhibit_18 rfl (lv_at hl 2 rfl) ?_
  obtain ⟨r7, hcall, h⟩ := bd_out h
  refine g0_callV (As := [.int a1, .int a2]) hC hml hS hW (KC_at hk hS F.2.2.2.2) KC_blind (metX8_putExhibit F hX k0.2.2.2.1 hcall) ml_X10_152 (gw_recv hC hW k0.2.2.2.1.1 (k0.2.2.2.1.2.1 (gfm s0) T B (r6 1)) rfl) ⟨rfl, rfl, (Nat.le_of_ble_eq_true rfl), (Nat.le_of_ble_eq_true rfl)⟩ rfl hl.1 rfl (Nat.le_of_ble_eq_true rfl) dX10_addExhibit_19 ⟨(Nat.le_of_ble_eq_true rfl), (Nat.le_of_ble_eq_true rfl)⟩ (fun H locs hW hS => ?_)
  cases h
  exact hend _ rfl dX10_addExhibit_22 hW hS (Nat.le_of_ble_eq_true rfl) (Nat.le_of_ble_eq_true rfl)

theorem dX10_existing_0 : decode cX10_existing 0 = .ok (.aload_n 0, 1) := by decide +kernel
theorem dX10_existing_1 : decode cX10_existing 1 = .ok (.getfield 12, 3) := by decide +kernel
theorem dX10_existing_4 : decode cX10_existing 4 = .ok (.iload_n 1, 1) := by decide +kernel
theorem dX10_existing_5 : decode cX10_existing 5 = .ok (.invokevirtual 438, 3) := by decide +kernel
theorem dX10_existing_8 : decode cX10_existing 8 = .ok (.ifCond .ne 14, 3) := by decide +kernel
theorem dX10_existing_11 : decode cX10_existing 11 = .ok (.new 331, 3) := by decide +kernel
theorem dX10_existing_14 : decode cX10_existing 14 = .ok (.dup, 1) := by decide +kernel
theorem dX10_existing_15 : decode cX10_existing 15 = .ok (.ldc_w 442, 3) := by decide +kernel
theorem dX10_existing_18 : decode cX10_existing 18 = .ok (.invokespecial 335, 3) := by decide +kernel
theorem dX10_existing_21 : decode cX10_existing 21 = .ok (.athrow, 1) := by decide +kernel
theorem dX10_existing_22 : decode cX10_existing 22 = .ok (.aload_n 0, 1) := by decide +kernel
theorem dX10_existing_23 : decode cX10_existing 23 = .ok (.getfield 12, 3) := by decide +kernel
theorem dX10_existing_26 : decode cX10_existing 26 = .ok (.getfield 167, 3) := by decide +kernel
theorem dX10_existing_29 : decode cX10_existing 29 = .ok (.iload_n 1, 1) := by decide +kernel
theorem dX10_existing_30 : decode cX10_existing 30 = .ok (.aaload, 1) := by decide +kernel
theorem dX10_existing_31 : decode cX10_existing 31 = .ok (.areturn, 1) := by decide +kernel
abbrev rmX10_existing : Room := { frames := 6, cells := 1, slots := 6, locals := 120 }
set_option maxHeartbeats 4000000 in
set_option maxRecDepth 100000 in
theorem metX10_existing {l : Launch} {s0 : State} {b B : Nat} {D : va_G} {T : Nat → ClassId} (F : FX l s0 b D T B) {X : Nat → Prop} (hX : ∀ o, o < 560 → ¬ X (B + o)) {N : Nat} {μ : Mem} {a0 : Nat} {a1 : Int32} {r : Mem × (Nat ⊕ Nat)} (k0 : IsGa a0) (h : fX10_existing N μ a0 a1 = some r) : gXMet l yX10_existing cX10_existing 2 (some (.object "AvalancheGallery$Exhibit")) rmX10_existing [.ref (B + a0), .int a1] (gWC s0 D T B μ) (KC s0 X) (oR B r.2) (gWC s0 D T B r.1) (gA B X) 1 6 := by
  refine gXR_of RX10 (by decide +kernel) rfl (Nat.le_of_ble_eq_true rfl) ?_
  intro p e s m args below meth c ls Q hx hb hlocks hml hown hts hW hk hl hS hE
  obtain ⟨hend, hthr, htb, hQ⟩ := hE
  have hC := FX_C F hk hx hb hown hts
  have hA := gA_all hX
  have hl : lv_has ls 2 [(0, .ref (B + a0)), (1, .int a1)] := hl
  unfold fX10_existing at h
  refine lv_aload_n hx hb dX10_existing_0 rfl (lv_at hl 0 rfl) ?_
  refine gw_get (v := .ref (B + 1)) hC hW fl_X10_12 k0.1 (k0.2.2.1 (gfm s0) T B (μ a0)) rfl dX10_existing_1 ?_
  refine lv_iload_n hx hb dX10_existing_4 rfl (lv_at hl 1 rfl) ?_
  obtain ⟨r1, hcall, h⟩ := bd_out h
  refine g0_callV (As := [.int a1]) hC hml hS hW (KC_at hk hS F.2.2.2.2) KC_blind (metX8_hasExhibit F hX k0.2.2.2.1 hcall) ml_X10_438 (gw_recv hC hW k0.2.2.2.1.1 (k0.2.2.2.1.2.1 (gfm s0) T B (μ 1)) rfl) ⟨rfl, rfl, (Nat.le_of_ble_eq_true rfl), (Nat.le_of_ble_eq_true rfl)⟩ rfl hl.1 rfl (Nat.le_of_ble_eq_true rfl) dX10_existing_5 ⟨(Nat.le_of_ble_eq_true rfl), (Nat.le_of_ble_eq_true rfl)⟩ (fun H locs hW hS => ?_)
  refine gw_if_neZ (tgt := 22) hx hb dX10_existing_8 (by decide) (fun c2 => ?_) (fun c2 => ?_)
  · replace h := cond_t c2 h
    refine lv_aload_n hx hb dX10_existing_22 rfl (lv_at hl 0 rfl) ?_
    refine gw_get (v := .ref (B + 1)) hC hW fl_X10_12 k0.1 (k0.2.2.1 (gfm s0) T B (μ a0)) rfl dX10_existing_23 ?_
    refine gw_get (v := .ref (B + (1 + 16))) hC hW fl_X10_167 k0.2.2.2.1.1 (k0.2.2.2.1.2.1 (gfm s0) T B (μ 1)) rfl dX10_existing_26 ?_
    refine lv_iload_n hx hb dX10_existing_29 rfl (lv_at hl 1 rfl) ?_
    obtain ⟨q3, e4, hq5, hi6, h⟩ := ar_o h
    refine gq_aald hC hW k0.2.2.2.1.2.2.2.2.2.1 (k0.2.2.2.1.2.2.2.2.2.2.1 (gfm s0) T B (μ (1 + 16))) (t0 := 5) rfl rfl e4 hi6 dX10_existing_30 ?_
    cases h
    exact hend _ rfl dX10_existing_31 hW hS (Nat.le_of_ble_eq_true rfl) (Nat.le_of_ble_eq_true rfl)
  · replace h := cond_f c2 h
    cases h
    exact gx_throwW (k := 0) F hk hC hml hlocks htb hQ rfl hW hS dX10_existing_11 dX10_existing_14 dX10_existing_15 dX10_existing_18 dX10_existing_21 tw_X10_331_442_335 hl.1 (Nat.le_of_ble_eq_true rfl) (Nat.le_of_ble_eq_true rfl) ⟨Nat.le_of_ble_eq_true rfl, Nat.le_of_ble_eq_true rfl⟩ (Nat.le_of_ble_eq_true rfl) (Nat.le_of_ble_eq_true rfl)
theorem kdX10_existing {N : Nat} {μ μ1 : Mem} {a0 r : Nat} {a1 : Int32} (k0 : IsGa a0) (h : fX10_existing N μ a0 a1 = some (μ1, .inr r)) : IsEx r := by
  unfold fX10_existing at h
  obtain ⟨r1, hc, h⟩ := bd_out h
  cases r1 with
  | false => cases h
  | true =>
    replace h := cond_t rfl h
    obtain ⟨q, e, hq, hi, h⟩ := ar_o h
    cases h
    exact k0.2.2.2.1.2.2.2.2.2.2.2 q hq

theorem dX10_setLimit_0 : decode cX10_setLimit 0 = .ok (.aload_n 0, 1) := by decide +kernel
theorem dX10_setLimit_1 : decode cX10_setLimit 1 = .ok (.iload_n 1, 1) := by decide +kernel
theorem dX10_setLimit_2 : decode cX10_setLimit 2 = .ok (.invokevirtual 155, 3) := by decide +kernel
theorem dX10_setLimit_5 : decode cX10_setLimit 5 = .ok (.astore_n 3, 1) := by decide +kernel
theorem dX10_setLimit_6 : decode cX10_setLimit 6 = .ok (.iload_n 2, 1) := by decide +kernel
theorem dX10_setLimit_7 : decode cX10_setLimit 7 = .ok (.invokestatic 86, 3) := by decide +kernel
theorem dX10_setLimit_10 : decode cX10_setLimit 10 = .ok (.invokestatic 72, 3) := by decide +kernel
theorem dX10_setLimit_13 : decode cX10_setLimit 13 = .ok (.aload_n 0, 1) := by decide +kernel
theorem dX10_setLimit_14 : decode cX10_setLimit 14 = .ok (.invokevirtual 76, 3) := by decide +kernel
theorem dX10_setLimit_17 : decode cX10_setLimit 17 = .ok (.aload_n 3, 1) := by decide +kernel
theorem dX10_setLimit_18 : decode cX10_setLimit 18 = .ok (.getfield 159, 3) := by decide +kernel
theorem dX10_setLimit_21 : decode cX10_setLimit 21 = .ok (.istore 4, 2) := by decide +kernel
theorem dX10_setLimit_23 : decode cX10_setLimit 23 = .ok (.aload_n 3, 1) := by decide +kernel
theorem dX10_setLimit_24 : decode cX10_setLimit 24 = .ok (.iload_n 2, 1) := by decide +kernel
theorem dX10_setLimit_25 : decode cX10_setLimit 25 = .ok (.putfield 159, 3) := by decide +kernel
theorem dX10_setLimit_28 : decode cX10_setLimit 28 = .ok (.iload 4, 2) := by decide +kernel
theorem dX10_setLimit_30 : decode cX10_setLimit 30 = .ok (.ireturn, 1) := by decide +kernel
abbrev rmX10_setLimit : Room := { frames := 7, cells := 2, slots := 12, locals := 144 }
set_option maxHeartbeats 4000000 in
set_option maxRecDepth 100000 in
theorem metX10_setLimit {l : Launch} {s0 : State} {b B : Nat} {D : va_G} {T : Nat → ClassId} (F : FX l s0 b D T B) {X : Nat → Prop} (hX : ∀ o, o < 560 → ¬ X (B + o)) {N : Nat} {μ : Mem} {a0 : Nat} {a1 : Int32} {a2 : Int32} {r : Mem × (Nat ⊕ Int32)} (k0 : IsGa a0) (h : fX10_setLimit N μ a0 a1 a2 = some r) : gXMet l yX10_setLimit cX10_setLimit 5 (some .int) rmX10_setLimit [.ref (B + a0), .int a1, .int a2] (gWC s0 D T B μ) (KC s0 X) (oI r.2) (gWC s0 D T B r.1) (gA B X) 2 12 := by
  refine gXI_of RX10 (by decide +kernel) rfl (Nat.le_of_ble_eq_true rfl) ?_
  intro p e s m args below meth c ls Q hx hb hlocks hml hown hts hW hk hl hS hE
  obtain ⟨hend, hthr, htb, hQ⟩ := hE
  have hC := FX_C F hk hx hb hown hts
  have hA := gA_all hX
  have hl : lv_has ls 5 [(0, .ref (B + a0)), (1, .int a1), (2, .int a2)] := hl
  unfold fX10_setLimit at h
  refine lv_aload_n hx hb dX10_setLimit_0 rfl (lv_at hl 0 rfl) ?_
  refine lv_iload_n hx hb dX10_setLimit_1 rfl (lv_at hl 1 rfl) ?_
  rcases tb_out h with ⟨μ2, n4, hcall, h9⟩ | ⟨μ2, r3, hcall, h⟩
  · cases h9
    exact gx_callV (As := [.int a1]) hC hml hS hW (KC_at hk hS F.2.2.2.2) KC_blind (metX10_existing F hX k0 hcall) ml_X10_155 (gw_recv hC hW k0.1 (k0.2.2.1 (gfm s0) T B (μ a0)) rfl) ⟨rfl, rfl, (Nat.le_of_ble_eq_true rfl), (Nat.le_of_ble_eq_true rfl)⟩ rfl hl.1 rfl (Nat.le_of_ble_eq_true rfl) dX10_setLimit_2 ⟨(Nat.le_of_ble_eq_true rfl), (Nat.le_of_ble_eq_true rfl)⟩ (fun v9 ho => by cases ho) (fun k9 ho H locs q9 ce9 hW hS hce hvm hcl => by cases ho; exact hthr _ rfl hW hS hce hvm hcl (Nat.le_of_ble_eq_true rfl) (Nat.le_of_ble_eq_true rfl))
  refine gx_callV (As := [.int a1]) hC hml hS hW (KC_at hk hS F.2.2.2.2) KC_blind (metX10_existing F hX k0 hcall) ml_X10_155 (gw_recv hC hW k0.1 (k0.2.2.1 (gfm s0) T B (μ a0)) rfl) ⟨rfl, rfl, (Nat.le_of_ble_eq_true rfl), (Nat.le_of_ble_eq_true rfl)⟩ rfl hl.1 rfl (Nat.le_of_ble_eq_true rfl) dX10_setLimit_2 ⟨(Nat.le_of_ble_eq_true rfl), (Nat.le_of_ble_eq_true rfl)⟩ (fun v9 ho H locs hW hS => ?_) (fun k9 ho => by cases ho)
  cases ho
  refine W.widen (k := 1) (n := 6) (Nat.le_of_ble_eq_true rfl) (Nat.le_of_ble_eq_true rfl) ?_
  have kr5 := kdX10_existing k0 hcall
  refine lv_astore_n (lv' := [(3, .ref (B + r3)), (0, .ref (B + a0)), (1, .int a1), (2, .int a2)]) hx hb dX10_setLimit_5 rfl hl (by decide) rfl (fun ls hl => ?_)
  refine lv_iload_n hx hb dX10_setLimit_6 rfl (lv_at hl 3 rfl) ?_
  obtain ⟨r6, hcall, h⟩ := bd_out h
  refine g0_callS (As := [.int a2]) hC hml hS hW (KC_at hk hS F.2.2.2.2) KC_blind (metX10_digitFault F hX  hcall) ml_X10_86 ⟨rfl, rfl, (Nat.le_of_ble_eq_true rfl), (Nat.le_of_ble_eq_true rfl)⟩ rfl hl.1 rfl (Nat.le_of_ble_eq_true rfl) dX10_setLimit_7 ⟨(Nat.le_of_ble_eq_true rfl), (Nat.le_of_ble_eq_true rfl)⟩ (fun H locs hW hS => ?_)
  rcases tb_out h with ⟨μ8, n10, hcall, h9⟩ | ⟨μ8, r9, hcall, h⟩
  · cases h9
    exact gx_callS (As := [.ref (gfa s0 r6)]) hC hml hS hW (KC_at hk hS F.2.2.2.2) KC_blind (metX10_stopIf F hX  hcall) ml_X10_72 ⟨rfl, rfl, (Nat.le_of_ble_eq_true rfl), (Nat.le_of_ble_eq_true rfl)⟩ rfl hl.1 rfl (Nat.le_of_ble_eq_true rfl) dX10_setLimit_10 ⟨(Nat.le_of_ble_eq_true rfl), (Nat.le_of_ble_eq_true rfl)⟩ (fun v9 ho => by cases ho) (fun k9 ho H locs q9 ce9 hW hS hce hvm hcl => by cases ho; exact hthr _ rfl hW hS hce hvm hcl (Nat.le_of_ble_eq_true rfl) (Nat.le_of_ble_eq_true rfl))
  refine gx_callS (As := [.ref (gfa s0 r6)]) hC hml hS hW (KC_at hk hS F.2.2.2.2) KC_blind (metX10_stopIf F hX  hcall) ml_X10_72 ⟨rfl, rfl, (Nat.le_of_ble_eq_true rfl), (Nat.le_of_ble_eq_true rfl)⟩ rfl hl.1 rfl (Nat.le_of_ble_eq_true rfl) dX10_setLimit_10 ⟨(Nat.le_of_ble_eq_true rfl), (Nat.le_of_ble_eq_true rfl)⟩ (fun v9 ho H locs hW hS => ?_) (fun k9 ho => by cases ho)
  cases ho
  refine W.widen (k := 2) (n := 12) (Nat.le_of_ble_eq_true rfl) (Nat.le_of_ble_eq_true rfl) ?_
  refine lv_aload_n hx hb dX10_setLimit_13 rfl (lv_at hl 1 rfl) ?_
  obtain ⟨r11, hcall, h⟩ := bd_out h
  refine g0_callV (As := []) hC hml hS hW (KC_at hk hS F.2.2.2.2) KC_blind (metX10_remember F hX k0 hcall) ml_X10_76 (gw_recv hC hW k0.1 (k0.2.2.1 (gfm s0) T B (μ8 a0)) rfl) ⟨rfl, rfl, (Nat.le_of_ble_eq_true rfl), (Nat.le_of_ble_eq_true rfl)⟩ rfl hl.1 rfl (Nat.le_of_ble_eq_true rfl) dX10_setLimit_14 ⟨(Nat.le_of_ble_eq_true rfl), (Nat.le_of_ble_eq_true rfl)⟩ (fun H locs hW hS => ?_)
  refine lv_aload_n hx hb dX10_setLimit_17 rfl (lv_at hl 0 rfl) ?_
  refine gw_get (v := .int (r11 r3 1)) hC hW fl_X10_159.1 kr5.1 (kr5.2.1 (gfm s0) T B (r11 r3)) rfl dX10_setLimit_18 ?_
  obtain ⟨v12, e13, h⟩ := lt_out h
  rw [← e13]
  refine lv_istore (lv' := [(4, .int v12), (3, .ref (B + r3)), (0, .ref (B + a0)), (1, .int a1), (2, .int a2)]) hx hb dX10_setLimit_21 hl (by decide) rfl (fun ls hl => ?_)
  refine lv_aload_n hx hb dX10_setLimit_23 rfl (lv_at hl 1 rfl) ?_
  refine lv_iload_n hx hb dX10_setLimit_24 rfl (lv_at hl 4 rfl) ?_
  obtain ⟨μ14, e15, h⟩ := lt_out h
  refine gq_put hC hS hW hA fl_X10_159 kr5.1 (kr5.2.1 (gfm s0) T B) (Nat.le_of_ble_eq_true rfl) rfl rfl rfl e15 dX10_setLimit_25 (fun H locs hW hS => ?_)
  refine lv_iload hx hb dX10_setLimit_28 (lv_at hl 0 rfl) ?_
  cases h
  exact hend _ rfl dX10_setLimit_30 hW hS (Nat.le_of_ble_eq_true rfl) (Nat.le_of_ble_eq_true rfl)

theorem dX10_placeFault_0 : decode cX10_placeFault 0 = .ok (.iconst 0, 1) := by decide +kernel
theorem dX10_placeFault_1 : decode cX10_placeFault 1 = .ok (.iload_n 0, 1) := by decide +kernel
theorem dX10_placeFault_2 : decode cX10_placeFault 2 = .ok (.iconst 3, 1) := by decide +kernel
theorem dX10_placeFault_3 : decode cX10_placeFault 3 = .ok (.invokestatic 447, 3) := by decide +kernel
theorem dX10_placeFault_6 : decode cX10_placeFault 6 = .ok (.ifCond .eq 18, 3) := by decide +kernel
theorem dX10_placeFault_9 : decode cX10_placeFault 9 = .ok (.iconst 0, 1) := by decide +kernel
theorem dX10_placeFault_10 : decode cX10_placeFault 10 = .ok (.iload_n 1, 1) := by decide +kernel
theorem dX10_placeFault_11 : decode cX10_placeFault 11 = .ok (.iconst 3, 1) := by decide +kernel
theorem dX10_placeFault_12 : decode cX10_placeFault 12 = .ok (.invokestatic 447, 3) := by decide +kernel
theorem dX10_placeFault_15 : decode cX10_placeFault 15 = .ok (.ifCond .eq 9, 3) := by decide +kernel
theorem dX10_placeFault_18 : decode cX10_placeFault 18 = .ok (.getstatic 451, 3) := by decide +kernel
theorem dX10_placeFault_21 : decode cX10_placeFault 21 = .ok (.goto 6, 3) := by decide +kernel
theorem dX10_placeFault_24 : decode cX10_placeFault 24 = .ok (.getstatic 416, 3) := by decide +kernel
theorem dX10_placeFault_27 : decode cX10_placeFault 27 = .ok (.areturn, 1) := by decide +kernel
abbrev rmX10_placeFault : Room := { frames := 3, cells := 0, slots := 0, locals := 82 }
set_option maxHeartbeats 4000000 in
set_option maxRecDepth 100000 in
theorem metX10_placeFault {l : Launch} {s0 : State} {b B : Nat} {D : va_G} {T : Nat → ClassId} (F : FX l s0 b D T B) {X : Nat → Prop} (hX : ∀ o, o < 560 → ¬ X (B + o)) {N : Nat} {μ : Mem} {a0 : Int32} {a1 : Int32} {r : Nat}  (h : fX10_placeFault N μ a0 a1 = some r) : gMet l yX10_placeFault cX10_placeFault 2 (some (.object "AvalancheGallery$Fault")) rmX10_placeFault [.int a0, .int a1] (gWC s0 D T B μ) (KC s0 X) (some (.ref (gfa s0 r))) (gWC s0 D T B μ) (gA B X) 0 0 := by
  refine gR_of RX10 (by decide +kernel) rfl (Nat.le_of_ble_eq_true rfl) ?_
  intro p e s m args below meth c ls Q hx hb hlocks hml hown hts hW hk hl hS hend
  have hC := FX_C F hk hx hb hown hts
  have hA := gA_all hX
  have hl : lv_has ls 2 [(0, .int a0), (1, .int a1)] := hl
  unfold fX10_placeFault at h
  refine lv_iconst (v := 0) hx hb dX10_placeFault_0 (by decide) ?_
  refine lv_iload_n hx hb dX10_placeFault_1 rfl (lv_at hl 0 rfl) ?_
  refine lv_iconst (v := 3) hx hb dX10_placeFault_2 (by decide) ?_
  obtain ⟨r1, hcall, h⟩ := bd_out h
  refine g0_callS (As := [.int 0, .int a0, .int 3]) hC hml hS hW (KC_at hk hS F.2.2.2.2) KC_blind (metX10_isFrom F hX  hcall) ml_X10_447 ⟨rfl, rfl, (Nat.le_of_ble_eq_true rfl), (Nat.le_of_ble_eq_true rfl)⟩ rfl hl.1 rfl (Nat.le_of_ble_eq_true rfl) dX10_placeFault_3 ⟨(Nat.le_of_ble_eq_true rfl), (Nat.le_of_ble_eq_true rfl)⟩ (fun H locs hW hS => ?_)
  obtain ⟨j3, hj5, h⟩ := jn1_o h
  have J4 : ∀ (y2 : Nat), j3 y2 = some r → ∀ (H : Heap) (locs : List Loc) (ls : Array Slot), gWC s0 D T B μ H → va_S (gA B X) s.heap H locs → lv_has ls 2 [] → W p l e rmX10_placeFault s m args below meth c H locs 0 0 Q (F0 m 27 ls [.ref (gfa s0 y2)]) := by
    clear h hW hS hl
    intro y2 h H locs ls hW hS hl
    replace h := (hj5 y2).symm.trans h
    cases h
    exact hend dX10_placeFault_27 hW hS (Nat.le_of_ble_eq_true rfl) (Nat.le_of_ble_eq_true rfl)
  obtain ⟨j7, hj9, h⟩ := jn1_o h
  have J8 : ∀ (u6 : Unit), j7 u6 = some r → ∀ (H : Heap) (locs : List Loc) (ls : Array Slot), gWC s0 D T B μ H → va_S (gA B X) s.heap H locs → lv_has ls 2 [] → W p l e rmX10_placeFault s m args below meth c H locs 0 0 Q (F0 m 24 ls []) := by
    clear h hW hS hl
    intro u6 h H locs ls hW hS hl
    replace h := (hj9 u6).symm.trans h
    refine gw_gets hC (zF_2 F hk) hS fs_X10_416 dX10_placeFault_24 ?_
    exact J4 _ h _ _ _ hW hS (lv_sub hl [] rfl)
  refine gw_if_eqZ (tgt := 24) hx hb dX10_placeFault_6 (by decide) (fun c10 => ?_) (fun c10 => ?_)
  · replace h := cond_f c10 h
    exact J8 _ h _ _ _ hW hS (lv_sub hl [] rfl)
  · replace h := cond_t c10 h
    refine lv_iconst (v := 0) hx hb dX10_placeFault_9 (by decide) ?_
    refine lv_iload_n hx hb dX10_placeFault_10 rfl (lv_at hl 1 rfl) ?_
    refine lv_iconst (v := 3) hx hb dX10_placeFault_11 (by decide) ?_
    obtain ⟨r11, hcall, h⟩ := bd_out h
    refine g0_callS (As := [.int 0, .int a1, .int 3]) hC hml hS hW (KC_at hk hS F.2.2.2.2) KC_blind (metX10_isFrom F hX  hcall) ml_X10_447 ⟨rfl, rfl, (Nat.le_of_ble_eq_true rfl), (Nat.le_of_ble_eq_true rfl)⟩ rfl hl.1 rfl (Nat.le_of_ble_eq_true rfl) dX10_placeFault_12 ⟨(Nat.le_of_ble_eq_true rfl), (Nat.le_of_ble_eq_true rfl)⟩ (fun H locs hW hS => ?_)
    refine gw_if_eqZ (tgt := 24) hx hb dX10_placeFault_15 (by decide) (fun c12 => ?_) (fun c12 => ?_)
    · replace h := cond_f c12 h
      exact J8 _ h _ _ _ hW hS (lv_sub hl [] rfl)
    · replace h := cond_t c12 h
      refine gw_gets hC (zF_0 F hk) hS fs_X10_451 dX10_placeFault_18 ?_
      refine lv_goto (tgt := 27) hx hb dX10_placeFault_21 (by decide) ?_
      exact J4 _ h _ _ _ hW hS (lv_sub hl [] rfl)

theorem dX10_dropFault_0 : decode cX10_dropFault 0 = .ok (.aload_n 0, 1) := by decide +kernel
theorem dX10_dropFault_1 : decode cX10_dropFault 1 = .ok (.getfield 12, 3) := by decide +kernel
theorem dX10_dropFault_4 : decode cX10_dropFault 4 = .ok (.iload_n 1, 1) := by decide +kernel
theorem dX10_dropFault_5 : decode cX10_dropFault 5 = .ok (.invokevirtual 438, 3) := by decide +kernel
theorem dX10_dropFault_8 : decode cX10_dropFault 8 = .ok (.ifCond .ne 7, 3) := by decide +kernel
theorem dX10_dropFault_11 : decode cX10_dropFault 11 = .ok (.getstatic 408, 3) := by decide +kernel
theorem dX10_dropFault_14 : decode cX10_dropFault 14 = .ok (.areturn, 1) := by decide +kernel
theorem dX10_dropFault_15 : decode cX10_dropFault 15 = .ok (.iconst 1, 1) := by decide +kernel
theorem dX10_dropFault_16 : decode cX10_dropFault 16 = .ok (.iload 4, 2) := by decide +kernel
theorem dX10_dropFault_18 : decode cX10_dropFault 18 = .ok (.bipush 40, 2) := by decide +kernel
theorem dX10_dropFault_20 : decode cX10_dropFault 20 = .ok (.invokestatic 447, 3) := by decide +kernel
theorem dX10_dropFault_23 : decode cX10_dropFault 23 = .ok (.ifCond .ne 7, 3) := by decide +kernel
theorem dX10_dropFault_26 : decode cX10_dropFault 26 = .ok (.getstatic 416, 3) := by decide +kernel
theorem dX10_dropFault_29 : decode cX10_dropFault 29 = .ok (.areturn, 1) := by decide +kernel
theorem dX10_dropFault_30 : decode cX10_dropFault 30 = .ok (.iload_n 2, 1) := by decide +kernel
theorem dX10_dropFault_31 : decode cX10_dropFault 31 = .ok (.iload_n 3, 1) := by decide +kernel
theorem dX10_dropFault_32 : decode cX10_dropFault 32 = .ok (.invokestatic 198, 3) := by decide +kernel
theorem dX10_dropFault_35 : decode cX10_dropFault 35 = .ok (.areturn, 1) := by decide +kernel
abbrev rmX10_dropFault : Room := { frames := 4, cells := 0, slots := 0, locals := 103 }
set_option maxHeartbeats 4000000 in
set_option maxRecDepth 100000 in
theorem metX10_dropFault {l : Launch} {s0 : State} {b B : Nat} {D : va_G} {T : Nat → ClassId} (F : FX l s0 b D T B) {X : Nat → Prop} (hX : ∀ o, o < 560 → ¬ X (B + o)) {N : Nat} {μ : Mem} {a0 : Nat} {a1 : Int32} {a2 : Int32} {a3 : Int32} {a4 : Int32} {r : Nat} (k0 : IsGa a0) (h : fX10_dropFault N μ a0 a1 a2 a3 a4 = some r) : gMet l yX10_dropFault cX10_dropFault 5 (some (.object "AvalancheGallery$Fault")) rmX10_dropFault [.ref (B + a0), .int a1, .int a2, .int a3, .int a4] (gWC s0 D T B μ) (KC s0 X) (some (.ref (gfa s0 r))) (gWC s0 D T B μ) (gA B X) 0 0 := by
  refine gR_of RX10 (by decide +kernel) rfl (Nat.le_of_ble_eq_true rfl) ?_
  intro p e s m args below meth c ls Q hx hb hlocks hml hown hts hW hk hl hS hend
  have hC := FX_C F hk hx hb hown hts
  have hA := gA_all hX
  have hl : lv_has ls 5 [(0, .ref (B + a0)), (1, .int a1), (2, .int a2), (3, .int a3), (4, .int a4)] := hl
  unfold fX10_dropFault at h
  refine lv_aload_n hx hb dX10_dropFault_0 rfl (lv_at hl 0 rfl) ?_
  refine gw_get (v := .ref (B + 1)) hC hW fl_X10_12 k0.1 (k0.2.2.1 (gfm s0) T B (μ a0)) rfl dX10_dropFault_1 ?_
  refine lv_iload_n hx hb dX10_dropFault_4 rfl (lv_at hl 1 rfl) ?_
  obtain ⟨r1, hcall, h⟩ := bd_out h
  refine g0_callV (As := [.int a1]) hC hml hS hW (KC_at hk hS F.2.2.2.2) KC_blind (metX8_hasExhibit F hX k0.2.2.2.1 hcall) ml_X10_438 (gw_recv hC hW k0.2.2.2.1.1 (k0.2.2.2.1.2.1 (gfm s0) T B (μ 1)) rfl) ⟨rfl, rfl, (Nat.le_of_ble_eq_true rfl), (Nat.le_of_ble_eq_true rfl)⟩ rfl hl.1 rfl (Nat.le_of_ble_eq_true rfl) dX10_dropFault_5 ⟨(Nat.le_of_ble_eq_true rfl), (Nat.le_of_ble_eq_true rfl)⟩ (fun H locs hW hS => ?_)
  refine gw_if_neZ (tgt := 15) hx hb dX10_dropFault_8 (by decide) (fun c2 => ?_) (fun c2 => ?_)
  · replace h := cond_t c2 h
    refine lv_iconst (v := 1) hx hb dX10_dropFault_15 (by decide) ?_
    refine lv_iload hx hb dX10_dropFault_16 (lv_at hl 4 rfl) ?_
    refine lv_bipush (v := 40) hx hb dX10_dropFault_18 (by decide) ?_
    obtain ⟨r3, hcall, h⟩ := bd_out h
    refine g0_callS (As := [.int 1, .int a4, .int 40]) hC hml hS hW (KC_at hk hS F.2.2.2.2) KC_blind (metX10_isFrom F hX  hcall) ml_X10_447 ⟨rfl, rfl, (Nat.le_of_ble_eq_true rfl), (Nat.le_of_ble_eq_true rfl)⟩ rfl hl.1 rfl (Nat.le_of_ble_eq_true rfl) dX10_dropFault_20 ⟨(Nat.le_of_ble_eq_true rfl), (Nat.le_of_ble_eq_true rfl)⟩ (fun H locs hW hS => ?_)
    refine gw_if_neZ (tgt := 30) hx hb dX10_dropFault_23 (by decide) (fun c4 => ?_) (fun c4 => ?_)
    · replace h := cond_t c4 h
      refine lv_iload_n hx hb dX10_dropFault_30 rfl (lv_at hl 2 rfl) ?_
      refine lv_iload_n hx hb dX10_dropFault_31 rfl (lv_at hl 3 rfl) ?_
      obtain ⟨r5, hcall, h⟩ := bd_out h
      refine g0_callS (As := [.int a2, .int a3]) hC hml hS hW (KC_at hk hS F.2.2.2.2) KC_blind (metX10_placeFault F hX  hcall) ml_X10_198 ⟨rfl, rfl, (Nat.le_of_ble_eq_true rfl), (Nat.le_of_ble_eq_true rfl)⟩ rfl hl.1 rfl (Nat.le_of_ble_eq_true rfl) dX10_dropFault_32 ⟨(Nat.le_of_ble_eq_true rfl), (Nat.le_of_ble_eq_true rfl)⟩ (fun H locs hW hS => ?_)
      cases h
      exact hend dX10_dropFault_35 hW hS (Nat.le_of_ble_eq_true rfl) (Nat.le_of_ble_eq_true rfl)
    · replace h := cond_f c4 h
      refine gw_gets hC (zF_2 F hk) hS fs_X10_416 dX10_dropFault_26 ?_
      cases h
      exact hend dX10_dropFault_29 hW hS (Nat.le_of_ble_eq_true rfl) (Nat.le_of_ble_eq_true rfl)
  · replace h := cond_f c2 h
    refine gw_gets hC (zF_1 F hk) hS fs_X10_408 dX10_dropFault_11 ?_
    cases h
    exact hend dX10_dropFault_14 hW hS (Nat.le_of_ble_eq_true rfl) (Nat.le_of_ble_eq_true rfl)

theorem dX10_placeAt_0 : decode cX10_placeAt 0 = .ok (.iload_n 1, 1) := by decide +kernel
theorem dX10_placeAt_1 : decode cX10_placeAt 1 = .ok (.iconst 4, 1) := by decide +kernel
theorem dX10_placeAt_2 : decode cX10_placeAt 2 = .ok (.imul, 1) := by decide +kernel
theorem dX10_placeAt_3 : decode cX10_placeAt 3 = .ok (.iload_n 0, 1) := by decide +kernel
theorem dX10_placeAt_4 : decode cX10_placeAt 4 = .ok (.iadd, 1) := by decide +kernel
theorem dX10_placeAt_5 : decode cX10_placeAt 5 = .ok (.ireturn, 1) := by decide +kernel
abbrev rmX10_placeAt : Room := { frames := 2, cells := 0, slots := 0, locals := 60 }
set_option maxHeartbeats 4000000 in
set_option maxRecDepth 100000 in
theorem metX10_placeAt {l : Launch} {s0 : State} {b B : Nat} {D : va_G} {T : Nat → ClassId} (F : FX l s0 b D T B) {X : Nat → Prop} (hX : ∀ o, o < 560 → ¬ X (B + o)) {N : Nat} {μ : Mem} {a0 : Int32} {a1 : Int32} {r : Int32}  (h : fX10_placeAt N μ a0 a1 = some r) : gMet l yX10_placeAt cX10_placeAt 2 (some .int) rmX10_placeAt [.int a0, .int a1] (gWC s0 D T B μ) (KC s0 X) (some (.int r)) (gWC s0 D T B μ) (gA B X) 0 0 := by
  refine gI_of RX10 (by decide +kernel) rfl (Nat.le_of_ble_eq_true rfl) ?_
  intro p e s m args below meth c ls Q hx hb hlocks hml hown hts hW hk hl hS hend
  have hC := FX_C F hk hx hb hown hts
  have hA := gA_all hX
  have hl : lv_has ls 2 [(0, .int a0), (1, .int a1)] := hl
  unfold fX10_placeAt at h
  refine lv_iload_n hx hb dX10_placeAt_0 rfl (lv_at hl 1 rfl) ?_
  refine lv_iconst (v := 4) hx hb dX10_placeAt_1 (by decide) ?_
  refine lv_imul hx hb dX10_placeAt_2 ?_
  refine lv_iload_n hx hb dX10_placeAt_3 rfl (lv_at hl 0 rfl) ?_
  refine lv_iadd hx hb dX10_placeAt_4 ?_
  cases h
  exact hend dX10_placeAt_5 hW hS (Nat.le_of_ble_eq_true rfl) (Nat.le_of_ble_eq_true rfl)

theorem dX10_drop_0 : decode cX10_drop 0 = .ok (.aload_n 0, 1) := by decide +kernel
theorem dX10_drop_1 : decode cX10_drop 1 = .ok (.iload_n 1, 1) := by decide +kernel
theorem dX10_drop_2 : decode cX10_drop 2 = .ok (.iload_n 2, 1) := by decide +kernel
theorem dX10_drop_3 : decode cX10_drop 3 = .ok (.iload_n 3, 1) := by decide +kernel
theorem dX10_drop_4 : decode cX10_drop 4 = .ok (.iload 4, 2) := by decide +kernel
theorem dX10_drop_6 : decode cX10_drop 6 = .ok (.invokevirtual 164, 3) := by decide +kernel
theorem dX10_drop_9 : decode cX10_drop 9 = .ok (.invokestatic 72, 3) := by decide +kernel
theorem dX10_drop_12 : decode cX10_drop 12 = .ok (.aload_n 0, 1) := by decide +kernel
theorem dX10_drop_13 : decode cX10_drop 13 = .ok (.invokevirtual 76, 3) := by decide +kernel
theorem dX10_drop_16 : decode cX10_drop 16 = .ok (.aload_n 0, 1) := by decide +kernel
theorem dX10_drop_17 : decode cX10_drop 17 = .ok (.getfield 36, 3) := by decide +kernel
theorem dX10_drop_20 : decode cX10_drop 20 = .ok (.aload_n 0, 1) := by decide +kernel
theorem dX10_drop_21 : decode cX10_drop 21 = .ok (.getfield 12, 3) := by decide +kernel
theorem dX10_drop_24 : decode cX10_drop 24 = .ok (.getfield 167, 3) := by decide +kernel
theorem dX10_drop_27 : decode cX10_drop 27 = .ok (.iload_n 1, 1) := by decide +kernel
theorem dX10_drop_28 : decode cX10_drop 28 = .ok (.aaload, 1) := by decide +kernel
theorem dX10_drop_29 : decode cX10_drop 29 = .ok (.iload_n 2, 1) := by decide +kernel
theorem dX10_drop_30 : decode cX10_drop 30 = .ok (.iload_n 3, 1) := by decide +kernel
theorem dX10_drop_31 : decode cX10_drop 31 = .ok (.invokestatic 171, 3) := by decide +kernel
theorem dX10_drop_34 : decode cX10_drop 34 = .ok (.iload 4, 2) := by decide +kernel
theorem dX10_drop_36 : decode cX10_drop 36 = .ok (.invokevirtual 174, 3) := by decide +kernel
theorem dX10_drop_39 : decode cX10_drop 39 = .ok (.ireturn, 1) := by decide +kernel
abbrev rmX10_drop : Room := { frames := 7, cells := 1, slots := 6, locals := 155 }
set_option maxHeartbeats 4000000 in
set_option maxRecDepth 100000 in
theorem metX10_drop {l : Launch} {s0 : State} {b B : Nat} {D : va_G} {T : Nat → ClassId} (F : FX l s0 b D T B) {X : Nat → Prop} (hX : ∀ o, o < 560 → ¬ X (B + o)) {N : Nat} {μ : Mem} {a0 : Nat} {a1 : Int32} {a2 : Int32} {a3 : Int32} {a4 : Int32} {r : Mem × (Nat ⊕ Int32)} (k0 : IsGa a0) (h : fX10_drop N μ a0 a1 a2 a3 a4 = some r) : gXMet l yX10_drop cX10_drop 5 (some .int) rmX10_drop [.ref (B + a0), .int a1, .int a2, .int a3, .int a4] (gWC s0 D T B μ) (KC s0 X) (oI r.2) (gWC s0 D T B r.1) (gA B X) 1 6 := by
  refine gXI_of RX10 (by decide +kernel) rfl (Nat.le_of_ble_eq_true rfl) ?_
  intro p e s m args below meth c ls Q hx hb hlocks hml hown hts hW hk hl hS hE
  obtain ⟨hend, hthr, htb, hQ⟩ := hE
  have hC := FX_C F hk hx hb hown hts
  have hA := gA_all hX
  have hl : lv_has ls 5 [(0, .ref (B + a0)), (1, .int a1), (2, .int a2), (3, .int a3), (4, .int a4)] := hl
  unfold fX10_drop at h
  refine lv_aload_n hx hb dX10_drop_0 rfl (lv_at hl 0 rfl) ?_
  refine lv_iload_n hx hb dX10_drop_1 rfl (lv_at hl 1 rfl) ?_
  refine lv_iload_n hx hb dX10_drop_2 rfl (lv_at hl 2 rfl) ?_
  refine lv_iload_n hx hb dX10_drop_3 rfl (lv_at hl 3 rfl) ?_
  refine lv_iload hx hb dX10_drop_4 (lv_at hl 4 rfl) ?_
  obtain ⟨r1, hcall, h⟩ := bd_out h
  refine g0_callV (As := [.int a1, .int a2, .int a3, .int a4]) hC hml hS hW (KC_at hk hS F.2.2.2.2) KC_blind (metX10_dropFault F hX k0 hcall) ml_X10_164 (gw_recv hC hW k0.1 (k0.2.2.1 (gfm s0) T B (μ a0)) rfl) ⟨rfl, rfl, (Nat.le_of_ble_eq_true rfl), (Nat.le_of_ble_eq_true rfl)⟩ rfl hl.1 rfl (Nat.le_of_ble_eq_true rfl) dX10_drop_6 ⟨(Nat.le_of_ble_eq_true rfl), (Nat.le_of_ble_eq_true rfl)⟩ (fun H locs hW hS => ?_)
  rcases tb_out h with ⟨μ3, n5, hcall, h9⟩ | ⟨μ3, r4, hcall, h⟩
  · cases h9
    exact gx_callS (As := [.ref (gfa s0 r1)]) hC hml hS hW (KC_at hk hS F.2.2.2.2) KC_blind (metX10_stopIf F hX  hcall) ml_X10_72 ⟨rfl, rfl, (Nat.le_of_ble_eq_true rfl), (Nat.le_of_ble_eq_true rfl)⟩ rfl hl.1 rfl (Nat.le_of_ble_eq_true rfl) dX10_drop_9 ⟨(Nat.le_of_ble_eq_true rfl), (Nat.le_of_ble_eq_true rfl)⟩ (fun v9 ho => by cases ho) (fun k9 ho H locs q9 ce9 hW hS hce hvm hcl => by cases ho; exact hthr _ rfl hW hS hce hvm hcl (Nat.le_of_ble_eq_true rfl) (Nat.le_of_ble_eq_true rfl))
  refine gx_callS (As := [.ref (gfa s0 r1)]) hC hml hS hW (KC_at hk hS F.2.2.2.2) KC_blind (metX10_stopIf F hX  hcall) ml_X10_72 ⟨rfl, rfl, (Nat.le_of_ble_eq_true rfl), (Nat.le_of_ble_eq_true rfl)⟩ rfl hl.1 rfl (Nat.le_of_ble_eq_true rfl) dX10_drop_9 ⟨(Nat.le_of_ble_eq_true rfl), (Nat.le_of_ble_eq_true rfl)⟩ (fun v9 ho H locs hW hS => ?_) (fun k9 ho => by cases ho)
  cases ho
  refine W.widen (k := 1) (n := 6) (Nat.le_of_ble_eq_true rfl) (Nat.le_of_ble_eq_true rfl) ?_
  refine lv_aload_n hx hb dX10_drop_12 rfl (lv_at hl 0 rfl) ?_
  obtain ⟨r6, hcall, h⟩ := bd_out h
  refine g0_callV (As := []) hC hml hS hW (KC_at hk hS F.2.2.2.2) KC_blind (metX10_remember F hX k0 hcall) ml_X10_76 (gw_recv hC hW k0.1 (k0.2.2.1 (gfm s0) T B (μ3 a0)) rfl) ⟨rfl, rfl, (Nat.le_of_ble_eq_true rfl), (Nat.le_of_ble_eq_true rfl)⟩ rfl hl.1 rfl (Nat.le_of_ble_eq_true rfl) dX10_drop_13 ⟨(Nat.le_of_ble_eq_true rfl), (Nat.le_of_ble_eq_true rfl)⟩ (fun H locs hW hS => ?_)
  refine lv_aload_n hx hb dX10_drop_16 rfl (lv_at hl 0 rfl) ?_
  refine gw_get (v := .ref (B + 538)) hC hW fl_X10_36 k0.1 (k0.2.2.1 (gfm s0) T B (r6 a0)) rfl dX10_drop_17 ?_
  refine lv_aload_n hx hb dX10_drop_20 rfl (lv_at hl 0 rfl) ?_
  refine gw_get (v := .ref (B + 1)) hC hW fl_X10_12 k0.1 (k0.2.2.1 (gfm s0) T B (r6 a0)) rfl dX10_drop_21 ?_
  refine gw_get (v := .ref (B + (1 + 16))) hC hW fl_X10_167 k0.2.2.2.1.1 (k0.2.2.2.1.2.1 (gfm s0) T B (r6 1)) rfl dX10_drop_24 ?_
  refine lv_iload_n hx hb dX10_drop_27 rfl (lv_at hl 1 rfl) ?_
  obtain ⟨q7, e8, hq9, hi10, h⟩ := ar_o h
  refine gq_aald hC hW k0.2.2.2.1.2.2.2.2.2.1 (k0.2.2.2.1.2.2.2.2.2.2.1 (gfm s0) T B (r6 (1 + 16))) (t0 := 5) rfl rfl e8 hi10 dX10_drop_28 ?_
  refine lv_iload_n hx hb dX10_drop_29 rfl (lv_at hl 2 rfl) ?_
  refine lv_iload_n hx hb dX10_drop_30 rfl (lv_at hl 3 rfl) ?_
  obtain ⟨r11, hcall, h⟩ := bd_out h
  refine g0_callS (As := [.int a2, .int a3]) hC hml hS hW (KC_at hk hS F.2.2.2.2) KC_blind (metX10_placeAt F hX  hcall) ml_X10_171 ⟨rfl, rfl, (Nat.le_of_ble_eq_true rfl), (Nat.le_of_ble_eq_true rfl)⟩ rfl hl.1 rfl (Nat.le_of_ble_eq_true rfl) dX10_drop_31 ⟨(Nat.le_of_ble_eq_true rfl), (Nat.le_of_ble_eq_true rfl)⟩ (fun H locs hW hS => ?_)
  refine lv_iload hx hb dX10_drop_34 (lv_at hl 4 rfl) ?_
  obtain ⟨r12, hcall, h⟩ := bd_out h
  refine g0_callV (As := [.ref (B + ((1 + 16) + 1 + 6 * q7)), .int r11, .int a4]) hC hml hS hW (KC_at hk hS F.2.2.2.2) KC_blind (metX6_fallOn F hX k0.2.2.2.2.2.2.2.1 (k0.2.2.2.1.2.2.2.2.2.2.2 q7 hq9) hcall) ml_X10_174 (gw_recv hC hW k0.2.2.2.2.2.2.2.1.1 (k0.2.2.2.2.2.2.2.1.2.1 (gfm s0) T B (r6 538)) rfl) ⟨rfl, rfl, (Nat.le_of_ble_eq_true rfl), (Nat.le_of_ble_eq_true rfl)⟩ rfl hl.1 rfl (Nat.le_of_ble_eq_true rfl) dX10_drop_36 ⟨(Nat.le_of_ble_eq_true rfl), (Nat.le_of_ble_eq_true rfl)⟩ (fun H locs hW hS => ?_)
  cases h
  exact hend _ rfl dX10_drop_39 hW hS (Nat.le_of_ble_eq_true rfl) (Nat.le_of_ble_eq_true rfl)

theorem dX10_topplingsIf_0 : decode cX10_topplingsIf 0 = .ok (.aload_n 0, 1) := by decide +kernel
theorem dX10_topplingsIf_1 : decode cX10_topplingsIf 1 = .ok (.iload_n 1, 1) := by decide +kernel
theorem dX10_topplingsIf_2 : decode cX10_topplingsIf 2 = .ok (.iload_n 2, 1) := by decide +kernel
theorem dX10_topplingsIf_3 : decode cX10_topplingsIf 3 = .ok (.iload_n 3, 1) := by decide +kernel
theorem dX10_topplingsIf_4 : decode cX10_topplingsIf 4 = .ok (.iload 4, 2) := by decide +kernel
theorem dX10_topplingsIf_6 : decode cX10_topplingsIf 6 = .ok (.invokevirtual 164, 3) := by decide +kernel
theorem dX10_topplingsIf_9 : decode cX10_topplingsIf 9 = .ok (.invokestatic 72, 3) := by decide +kernel
theorem dX10_topplingsIf_12 : decode cX10_topplingsIf 12 = .ok (.aload_n 0, 1) := by decide +kernel
theorem dX10_topplingsIf_13 : decode cX10_topplingsIf 13 = .ok (.getfield 36, 3) := by decide +kernel
theorem dX10_topplingsIf_16 : decode cX10_topplingsIf 16 = .ok (.aload_n 0, 1) := by decide +kernel
theorem dX10_topplingsIf_17 : decode cX10_topplingsIf 17 = .ok (.getfield 12, 3) := by decide +kernel
theorem dX10_topplingsIf_20 : decode cX10_topplingsIf 20 = .ok (.getfield 167, 3) := by decide +kernel
theorem dX10_topplingsIf_23 : decode cX10_topplingsIf 23 = .ok (.iload_n 1, 1) := by decide +kernel
theorem dX10_topplingsIf_24 : decode cX10_topplingsIf 24 = .ok (.aaload, 1) := by decide +kernel
theorem dX10_topplingsIf_25 : decode cX10_topplingsIf 25 = .ok (.iload_n 2, 1) := by decide +kernel
theorem dX10_topplingsIf_26 : decode cX10_topplingsIf 26 = .ok (.iload_n 3, 1) := by decide +kernel
theorem dX10_topplingsIf_27 : decode cX10_topplingsIf 27 = .ok (.invokestatic 171, 3) := by decide +kernel
theorem dX10_topplingsIf_30 : decode cX10_topplingsIf 30 = .ok (.iload 4, 2) := by decide +kernel
theorem dX10_topplingsIf_32 : decode cX10_topplingsIf 32 = .ok (.invokevirtual 178, 3) := by decide +kernel
theorem dX10_topplingsIf_35 : decode cX10_topplingsIf 35 = .ok (.aload_n 0, 1) := by decide +kernel
theorem dX10_topplingsIf_36 : decode cX10_topplingsIf 36 = .ok (.getfield 36, 3) := by decide +kernel
theorem dX10_topplingsIf_39 : decode cX10_topplingsIf 39 = .ok (.aload_n 0, 1) := by decide +kernel
theorem dX10_topplingsIf_40 : decode cX10_topplingsIf 40 = .ok (.getfield 36, 3) := by decide +kernel
theorem dX10_topplingsIf_43 : decode cX10_topplingsIf 43 = .ok (.getfield 182, 3) := by decide +kernel
theorem dX10_topplingsIf_46 : decode cX10_topplingsIf 46 = .ok (.invokevirtual 185, 3) := by decide +kernel
theorem dX10_topplingsIf_49 : decode cX10_topplingsIf 49 = .ok (.ireturn, 1) := by decide +kernel
abbrev rmX10_topplingsIf : Room := { frames := 7, cells := 1, slots := 6, locals := 140 }
set_option maxHeartbeats 4000000 in
set_option maxRecDepth 100000 in
theorem metX10_topplingsIf {l : Launch} {s0 : State} {b B : Nat} {D : va_G} {T : Nat → ClassId} (F : FX l s0 b D T B) {X : Nat → Prop} (hX : ∀ o, o < 560 → ¬ X (B + o)) {N : Nat} {μ : Mem} {a0 : Nat} {a1 : Int32} {a2 : Int32} {a3 : Int32} {a4 : Int32} {r : Mem × (Nat ⊕ Int32)} (k0 : IsGa a0) (h : fX10_topplingsIf N μ a0 a1 a2 a3 a4 = some r) : gXMet l yX10_topplingsIf cX10_topplingsIf 5 (some .int) rmX10_topplingsIf [.ref (B + a0), .int a1, .int a2, .int a3, .int a4] (gWC s0 D T B μ) (KC s0 X) (oI r.2) (gWC s0 D T B r.1) (gA B X) 1 6 := by
  refine gXI_of RX10 (by decide +kernel) rfl (Nat.le_of_ble_eq_true rfl) ?_
  intro p e s m args below meth c ls Q hx hb hlocks hml hown hts hW hk hl hS hE
  obtain ⟨hend, hthr, htb, hQ⟩ := hE
  have hC := FX_C F hk hx hb hown hts
  have hA := gA_all hX
  have hl : lv_has ls 5 [(0, .ref (B + a0)), (1, .int a1), (2, .int a2), (3, .int a3), (4, .int a4)] := hl
  unfold fX10_topplingsIf at h
  refine lv_aload_n hx hb dX10_topplingsIf_0 rfl (lv_at hl 0 rfl) ?_
  refine lv_iload_n hx hb dX10_topplingsIf_1 rfl (lv_at hl 1 rfl) ?_
  refine lv_iload_n hx hb dX10_topplingsIf_2 rfl (lv_at hl 2 rfl) ?_
  refine lv_iload_n hx hb dX10_topplingsIf_3 rfl (lv_at hl 3 rfl) ?_
  refine lv_iload hx hb dX10_topplingsIf_4 (lv_at hl 4 rfl) ?_
  obtain ⟨r1, hcall, h⟩ := bd_out h
  refine g0_callV (As := [.int a1, .int a2, .int a3, .int a4]) hC hml hS hW (KC_at hk hS F.2.2.2.2) KC_blind (metX10_dropFault F hX k0 hcall) ml_X10_164 (gw_recv hC hW k0.1 (k0.2.2.1 (gfm s0) T B (μ a0)) rfl) ⟨rfl, rfl, (Nat.le_of_ble_eq_true rfl), (Nat.le_of_ble_eq_true rfl)⟩ rfl hl.1 rfl (Nat.le_of_ble_eq_true rfl) dX10_topplingsIf_6 ⟨(Nat.le_of_ble_eq_true rfl), (Nat.le_of_ble_eq_true rfl)⟩ (fun H locs hW hS => ?_)
  rcases tb_out h with ⟨μ3, n5, hcall, h9⟩ | ⟨μ3, r4, hcall, h⟩
  · cases h9
    exact gx_callS (As := [.ref (gfa s0 r1)]) hC hml hS hW (KC_at hk hS F.2.2.2.2) KC_blind (metX10_stopIf F hX  hcall) ml_X10_72 ⟨rfl, rfl, (Nat.le_of_ble_eq_true rfl), (Nat.le_of_ble_eq_true rfl)⟩ rfl hl.1 rfl (Nat.le_of_ble_eq_true rfl) dX10_topplingsIf_9 ⟨(Nat.le_of_ble_eq_true rfl), (Nat.le_of_ble_eq_true rfl)⟩ (fun v9 ho => by cases ho) (fun k9 ho H locs q9 ce9 hW hS hce hvm hcl => by cases ho; exact hthr _ rfl hW hS hce hvm hcl (Nat.le_of_ble_eq_true rfl) (Nat.le_of_ble_eq_true rfl))
  refine gx_callS (As := [.ref (gfa s0 r1)]) hC hml hS hW (KC_at hk hS F.2.2.2.2) KC_blind (metX10_stopIf F hX  hcall) ml_X10_72 ⟨rfl, rfl, (Nat.le_of_ble_eq_true rfl), (Nat.le_of_ble_eq_true rfl)⟩ rfl hl.1 rfl (Nat.le_of_ble_eq_true rfl) dX10_topplingsIf_9 ⟨(Nat.le_of_ble_eq_true rfl), (Nat.le_of_ble_eq_true rfl)⟩ (fun v9 ho H locs hW hS => ?_) (fun k9 ho => by cases ho)
  cases ho
  refine W.widen (k := 1) (n := 6) (Nat.le_of_ble_eq_true rfl) (Nat.le_of_ble_eq_true rfl) ?_
  refine lv_aload_n hx hb dX10_topplingsIf_12 rfl (lv_at hl 0 rfl) ?_
  refine gw_get (v := .ref (B + 538)) hC hW fl_X10_36 k0.1 (k0.2.2.1 (gfm s0) T B (μ3 a0)) rfl dX10_topplingsIf_13 ?_
  refine lv_aload_n hx hb dX10_topplingsIf_16 rfl (lv_at hl 0 rfl) ?_
  refine gw_get (v := .ref (B + 1)) hC hW fl_X10_12 k0.1 (k0.2.2.1 (gfm s0) T B (μ3 a0)) rfl dX10_topplingsIf_17 ?_
  refine gw_get (v := .ref (B + (1 + 16))) hC hW fl_X10_167 k0.2.2.2.1.1 (k0.2.2.2.1.2.1 (gfm s0) T B (μ3 1)) rfl dX10_topplingsIf_20 ?_
  refine lv_iload_n hx hb dX10_topplingsIf_23 rfl (lv_at hl 1 rfl) ?_
  obtain ⟨q6, e7, hq8, hi9, h⟩ := ar_o h
  refine gq_aald hC hW k0.2.2.2.1.2.2.2.2.2.1 (k0.2.2.2.1.2.2.2.2.2.2.1 (gfm s0) T B (μ3 (1 + 16))) (t0 := 5) rfl rfl e7 hi9 dX10_topplingsIf_24 ?_
  refine lv_iload_n hx hb dX10_topplingsIf_25 rfl (lv_at hl 2 rfl) ?_
  refine lv_iload_n hx hb dX10_topplingsIf_26 rfl (lv_at hl 3 rfl) ?_
  obtain ⟨r10, hcall, h⟩ := bd_out h
  refine g0_callS (As := [.int a2, .int a3]) hC hml hS hW (KC_at hk hS F.2.2.2.2) KC_blind (metX10_placeAt F hX  hcall) ml_X10_171 ⟨rfl, rfl, (Nat.le_of_ble_eq_true rfl), (Nat.le_of_ble_eq_true rfl)⟩ rfl hl.1 rfl (Nat.le_of_ble_eq_true rfl) dX10_topplingsIf_27 ⟨(Nat.le_of_ble_eq_true rfl), (Nat.le_of_ble_eq_true rfl)⟩ (fun H locs hW hS => ?_)
  refine lv_iload hx hb dX10_topplingsIf_30 (lv_at hl 4 rfl) ?_
  obtain ⟨r11, hcall, h⟩ := bd_out h
  refine g0_callV (As := [.ref (B + ((1 + 16) + 1 + 6 * q6)), .int r10, .int a4]) hC hml hS hW (KC_at hk hS F.2.2.2.2) KC_blind (metX6_tryFall F hX k0.2.2.2.2.2.2.2.1 (k0.2.2.2.1.2.2.2.2.2.2.2 q6 hq8) hcall) ml_X10_178 (gw_recv hC hW k0.2.2.2.2.2.2.2.1.1 (k0.2.2.2.2.2.2.2.1.2.1 (gfm s0) T B (μ3 538)) rfl) ⟨rfl, rfl, (Nat.le_of_ble_eq_true rfl), (Nat.le_of_ble_eq_true rfl)⟩ rfl hl.1 rfl (Nat.le_of_ble_eq_true rfl) dX10_topplingsIf_32 ⟨(Nat.le_of_ble_eq_true rfl), (Nat.le_of_ble_eq_true rfl)⟩ (fun H locs hW hS => ?_)
  refine lv_aload_n hx hb dX10_topplingsIf_35 rfl (lv_at hl 0 rfl) ?_
  refine gw_get (v := .ref (B + 538)) hC hW fl_X10_36 k0.1 (k0.2.2.1 (gfm s0) T B (r11 a0)) rfl dX10_topplingsIf_36 ?_
  refine lv_aload_n hx hb dX10_topplingsIf_39 rfl (lv_at hl 0 rfl) ?_
  refine gw_get (v := .ref (B + 538)) hC hW fl_X10_36 k0.1 (k0.2.2.1 (gfm s0) T B (r11 a0)) rfl dX10_topplingsIf_40 ?_
  refine gw_get (v := .ref (B + (538 + 1))) hC hW fl_X10_182 k0.2.2.2.2.2.2.2.1.1 (k0.2.2.2.2.2.2.2.1.2.1 (gfm s0) T B (r11 538)) rfl dX10_topplingsIf_43 ?_
  obtain ⟨r12, hcall, h⟩ := bd_out h
  refine g0_callV (As := [.ref (B + (538 + 1))]) hC hml hS hW (KC_at hk hS F.2.2.2.2) KC_blind (metX6_toppleByPlaces F hX k0.2.2.2.2.2.2.2.1 k0.2.2.2.2.2.2.2.1.2.2.1 hcall) ml_X10_185 (gw_recv hC hW k0.2.2.2.2.2.2.2.1.1 (k0.2.2.2.2.2.2.2.1.2.1 (gfm s0) T B (r11 538)) rfl) ⟨rfl, rfl, (Nat.le_of_ble_eq_true rfl), (Nat.le_of_ble_eq_true rfl)⟩ rfl hl.1 rfl (Nat.le_of_ble_eq_true rfl) dX10_topplingsIf_46 ⟨(Nat.le_of_ble_eq_true rfl), (Nat.le_of_ble_eq_true rfl)⟩ (fun H locs hW hS => ?_)
  cases h
  exact hend _ rfl dX10_topplingsIf_49 hW hS (Nat.le_of_ble_eq_true rfl) (Nat.le_of_ble_eq_true rfl)

theorem dX10_topplingsIfByRounds_0 : decode cX10_topplingsIfByRounds 0 = .ok (.aload_n 0, 1) := by decide +kernel
theorem dX10_topplingsIfByRounds_1 : decode cX10_topplingsIfByRounds 1 = .ok (.iload_n 1, 1) := by decide +kernel
theorem dX10_topplingsIfByRounds_2 : decode cX10_topplingsIfByRounds 2 = .ok (.iload_n 2, 1) := by decide +kernel
theorem dX10_topplingsIfByRounds_3 : decode cX10_topplingsIfByRounds 3 = .ok (.iload_n 3, 1) := by decide +kernel
theorem dX10_topplingsIfByRounds_4 : decode cX10_topplingsIfByRounds 4 = .ok (.iload 4, 2) := by decide +kernel
theorem dX10_topplingsIfByRounds_6 : decode cX10_topplingsIfByRounds 6 = .ok (.invokevirtual 164, 3) := by decide +kernel
theorem dX10_topplingsIfByRounds_9 : decode cX10_topplingsIfByRounds 9 = .ok (.invokestatic 72, 3) := by decide +kernel
theorem dX10_topplingsIfByRounds_12 : decode cX10_topplingsIfByRounds 12 = .ok (.aload_n 0, 1) := by decide +kernel
theorem dX10_topplingsIfByRounds_13 : decode cX10_topplingsIfByRounds 13 = .ok (.getfield 36, 3) := by decide +kernel
theorem dX10_topplingsIfByRounds_16 : decode cX10_topplingsIfByRounds 16 = .ok (.aload_n 0, 1) := by decide +kernel
theorem dX10_topplingsIfByRounds_17 : decode cX10_topplingsIfByRounds 17 = .ok (.getfield 12, 3) := by decide +kernel
theorem dX10_topplingsIfByRounds_20 : decode cX10_topplingsIfByRounds 20 = .ok (.getfield 167, 3) := by decide +kernel
theorem dX10_topplingsIfByRounds_23 : decode cX10_topplingsIfByRounds 23 = .ok (.iload_n 1, 1) := by decide +kernel
theorem dX10_topplingsIfByRounds_24 : decode cX10_topplingsIfByRounds 24 = .ok (.aaload, 1) := by decide +kernel
theorem dX10_topplingsIfByRounds_25 : decode cX10_topplingsIfByRounds 25 = .ok (.iload_n 2, 1) := by decide +kernel
theorem dX10_topplingsIfByRounds_26 : decode cX10_topplingsIfByRounds 26 = .ok (.iload_n 3, 1) := by decide +kernel
theorem dX10_topplingsIfByRounds_27 : decode cX10_topplingsIfByRounds 27 = .ok (.invokestatic 171, 3) := by decide +kernel
theorem dX10_topplingsIfByRounds_30 : decode cX10_topplingsIfByRounds 30 = .ok (.iload 4, 2) := by decide +kernel
theorem dX10_topplingsIfByRounds_32 : decode cX10_topplingsIfByRounds 32 = .ok (.invokevirtual 178, 3) := by decide +kernel
theorem dX10_topplingsIfByRounds_35 : decode cX10_topplingsIfByRounds 35 = .ok (.aload_n 0, 1) := by decide +kernel
theorem dX10_topplingsIfByRounds_36 : decode cX10_topplingsIfByRounds 36 = .ok (.getfield 36, 3) := by decide +kernel
theorem dX10_topplingsIfByRounds_39 : decode cX10_topplingsIfByRounds 39 = .ok (.aload_n 0, 1) := by decide +kernel
theorem dX10_topplingsIfByRounds_40 : decode cX10_topplingsIfByRounds 40 = .ok (.getfield 36, 3) := by decide +kernel
theorem dX10_topplingsIfByRounds_43 : decode cX10_topplingsIfByRounds 43 = .ok (.getfield 182, 3) := by decide +kernel
theorem dX10_topplingsIfByRounds_46 : decode cX10_topplingsIfByRounds 46 = .ok (.invokevirtual 189, 3) := by decide +kernel
theorem dX10_topplingsIfByRounds_49 : decode cX10_topplingsIfByRounds 49 = .ok (.ireturn, 1) := by decide +kernel
abbrev rmX10_topplingsIfByRounds : Room := { frames := 7, cells := 1, slots := 6, locals := 140 }
set_option maxHeartbeats 4000000 in
set_option maxRecDepth 100000 in
theorem metX10_topplingsIfByRounds {l : Launch} {s0 : State} {b B : Nat} {D : va_G} {T : Nat → ClassId} (F : FX l s0 b D T B) {X : Nat → Prop} (hX : ∀ o, o < 560 → ¬ X (B + o)) {N : Nat} {μ : Mem} {a0 : Nat} {a1 : Int32} {a2 : Int32} {a3 : Int32} {a4 : Int32} {r : Mem × (Nat ⊕ Int32)} (k0 : IsGa a0) (h : fX10_topplingsIfByRounds N μ a0 a1 a2 a3 a4 = some r) : gXMet l yX10_topplingsIfByRounds cX10_topplingsIfByRounds 5 (some .int) rmX10_topplingsIfByRounds [.ref (B + a0), .int a1, .int a2, .int a3, .int a4] (gWC s0 D T B μ) (KC s0 X) (oI r.2) (gWC s0 D T B r.1) (gA B X) 1 6 := by
  refine gXI_of RX10 (by decide +kernel) rfl (Nat.le_of_ble_eq_true rfl) ?_
  intro p e s m args below meth c ls Q hx hb hlocks hml hown hts hW hk hl hS hE
  obtain ⟨hend, hthr, htb, hQ⟩ := hE
  have hC := FX_C F hk hx hb hown hts
  have hA := gA_all hX
  have hl : lv_has ls 5 [(0, .ref (B + a0)), (1, .int a1), (2, .int a2), (3, .int a3), (4, .int a4)] := hl
  unfold fX10_topplingsIfByRounds at h
  refine lv_aload_n hx hb dX10_topplingsIfByRounds_0 rfl (lv_at hl 0 rfl) ?_
  refine lv_iload_n hx hb dX10_topplingsIfByRounds_1 rfl (lv_at hl 1 rfl) ?_
  refine lv_iload_n hx hb dX10_topplingsIfByRounds_2 rfl (lv_at hl 2 rfl) ?_
  refine lv_iload_n hx hb dX10_topplingsIfByRounds_3 rfl (lv_at hl 3 rfl) ?_
  refine lv_iload hx hb dX10_topplingsIfByRounds_4 (lv_at hl 4 rfl) ?_
  obtain ⟨r1, hcall, h⟩ := bd_out h
  refine g0_callV (As := [.int a1, .int a2, .int a3, .int a4]) hC hml hS hW (KC_at hk hS F.2.2.2.2) KC_blind (metX10_dropFault F hX k0 hcall) ml_X10_164 (gw_recv hC hW k0.1 (k0.2.2.1 (gfm s0) T B (μ a0)) rfl) ⟨rfl, rfl, (Nat.le_of_ble_eq_true rfl), (Nat.le_of_ble_eq_true rfl)⟩ rfl hl.1 rfl (Nat.le_of_ble_eq_true rfl) dX10_topplingsIfByRounds_6 ⟨(Nat.le_of_ble_eq_true rfl), (Nat.le_of_ble_eq_true rfl)⟩ (fun H locs hW hS => ?_)
  rcases tb_out h with ⟨μ3, n5, hcall, h9⟩ | ⟨μ3, r4, hcall, h⟩
  · cases h9
    exact gx_callS (As := [.ref (gfa s0 r1)]) hC hml hS hW (KC_at hk hS F.2.2.2.2) KC_blind (metX10_stopIf F hX  hcall) ml_X10_72 ⟨rfl, rfl, (Nat.le_of_ble_eq_true rfl), (Nat.le_of_ble_eq_true rfl)⟩ rfl hl.1 rfl (Nat.le_of_ble_eq_true rfl) dX10_topplingsIfByRounds_9 ⟨(Nat.le_of_ble_eq_true rfl), (Nat.le_of_ble_eq_true rfl)⟩ (fun v9 ho => by cases ho) (fun k9 ho H locs q9 ce9 hW hS hce hvm hcl => by cases ho; exact hthr _ rfl hW hS hce hvm hcl (Nat.le_of_ble_eq_true rfl) (Nat.le_of_ble_eq_true rfl))
  refine gx_callS (As := [.ref (gfa s0 r1)]) hC hml hS hW (KC_at hk hS F.2.2.2.2) KC_blind (metX10_stopIf F hX  hcall) ml_X10_72 ⟨rfl, rfl, (Nat.le_of_ble_eq_true rfl), (Nat.le_of_ble_eq_true rfl)⟩ rfl hl.1 rfl (Nat.le_of_ble_eq_true rfl) dX10_topplingsIfByRounds_9 ⟨(Nat.le_of_ble_eq_true rfl), (Nat.le_of_ble_eq_true rfl)⟩ (fun v9 ho H locs hW hS => ?_) (fun k9 ho => by cases ho)
  cases ho
  refine W.widen (k := 1) (n := 6) (Nat.le_of_ble_eq_true rfl) (Nat.le_of_ble_eq_true rfl) ?_
  refine lv_aload_n hx hb dX10_topplingsIfByRounds_12 rfl (lv_at hl 0 rfl) ?_
  refine gw_get (v := .ref (B + 538)) hC hW fl_X10_36 k0.1 (k0.2.2.1 (gfm s0) T B (μ3 a0)) rfl dX10_topplingsIfByRounds_13 ?_
  refine lv_aload_n hx hb dX10_topplingsIfByRounds_16 rfl (lv_at hl 0 rfl) ?_
  refine gw_get (v := .ref (B + 1)) hC hW fl_X10_12 k0.1 (k0.2.2.1 (gfm s0) T B (μ3 a0)) rfl dX10_topplingsIfByRounds_17 ?_
  refine gw_get (v := .ref (B + (1 + 16))) hC hW fl_X10_167 k0.2.2.2.1.1 (k0.2.2.2.1.2.1 (gfm s0) T B (μ3 1)) rfl dX10_topplingsIfByRounds_20 ?_
  refine lv_iload_n hx hb dX10_topplingsIfByRounds_23 rfl (lv_at hl 1 rfl) ?_
  obtain ⟨q6, e7, hq8, hi9, h⟩ := ar_o h
  refine gq_aald hC hW k0.2.2.2.1.2.2.2.2.2.1 (k0.2.2.2.1.2.2.2.2.2.2.1 (gfm s0) T B (μ3 (1 + 16))) (t0 := 5) rfl rfl e7 hi9 dX10_topplingsIfByRounds_24 ?_
  refine lv_iload_n hx hb dX10_topplingsIfByRounds_25 rfl (lv_at hl 2 rfl) ?_
  refine lv_iload_n hx hb dX10_topplingsIfByRounds_26 rfl (lv_at hl 3 rfl) ?_
  obtain ⟨r10, hcall, h⟩ := bd_out h
  refine g0_callS (As := [.int a2, .int a3]) hC hml hS hW (KC_at hk hS F.2.2.2.2) KC_blind (metX10_placeAt F hX  hcall) ml_X10_171 ⟨rfl, rfl, (Nat.le_of_ble_eq_true rfl), (Nat.le_of_ble_eq_true rfl)⟩ rfl hl.1 rfl (Nat.le_of_ble_eq_true rfl) dX10_topplingsIfByRounds_27 ⟨(Nat.le_of_ble_eq_true rfl), (Nat.le_of_ble_eq_true rfl)⟩ (fun H locs hW hS => ?_)
  refine lv_iload hx hb dX10_topplingsIfByRounds_30 (lv_at hl 4 rfl) ?_
  obtain ⟨r11, hcall, h⟩ := bd_out h
  refine g0_callV (As := [.ref (B + ((1 + 16) + 1 + 6 * q6)), .int r10, .int a4]) hC hml hS hW (KC_at hk hS F.2.2.2.2) KC_blind (metX6_tryFall F hX k0.2.2.2.2.2.2.2.1 (k0.2.2.2.1.2.2.2.2.2.2.2 q6 hq8) hcall) ml_X10_178 (gw_recv hC hW k0.2.2.2.2.2.2.2.1.1 (k0.2.2.2.2.2.2.2.1.2.1 (gfm s0) T B (μ3 538)) rfl) ⟨rfl, rfl, (Nat.le_of_ble_eq_true rfl), (Nat.le_of_ble_eq_true rfl)⟩ rfl hl.1 rfl (Nat.le_of_ble_eq_true rfl) dX10_topplingsIfByRounds_32 ⟨(Nat.le_of_ble_eq_true rfl), (Nat.le_of_ble_eq_true rfl)⟩ (fun H locs hW hS => ?_)
  refine lv_aload_n hx hb dX10_topplingsIfByRounds_35 rfl (lv_at hl 0 rfl) ?_
  refine gw_get (v := .ref (B + 538)) hC hW fl_X10_36 k0.1 (k0.2.2.1 (gfm s0) T B (r11 a0)) rfl dX10_topplingsIfByRounds_36 ?_
  refine lv_aload_n hx hb dX10_topplingsIfByRounds_39 rfl (lv_at hl 0 rfl) ?_
  refine gw_get (v := .ref (B + 538)) hC hW fl_X10_36 k0.1 (k0.2.2.1 (gfm s0) T B (r11 a0)) rfl dX10_topplingsIfByRounds_40 ?_
  refine gw_get (v := .ref (B + (538 + 1))) hC hW fl_X10_182 k0.2.2.2.2.2.2.2.1.1 (k0.2.2.2.2.2.2.2.1.2.1 (gfm s0) T B (r11 538)) rfl dX10_topplingsIfByRounds_43 ?_
  obtain ⟨r12, hcall, h⟩ := bd_out h
  refine g0_callV (As := [.ref (B + (538 + 1))]) hC hml hS hW (KC_at hk hS F.2.2.2.2) KC_blind (metX6_toppleByRounds F hX k0.2.2.2.2.2.2.2.1 k0.2.2.2.2.2.2.2.1.2.2.1 hcall) ml_X10_189 (gw_recv hC hW k0.2.2.2.2.2.2.2.1.1 (k0.2.2.2.2.2.2.2.1.2.1 (gfm s0) T B (r11 538)) rfl) ⟨rfl, rfl, (Nat.le_of_ble_eq_true rfl), (Nat.le_of_ble_eq_true rfl)⟩ rfl hl.1 rfl (Nat.le_of_ble_eq_true rfl) dX10_topplingsIfByRounds_46 ⟨(Nat.le_of_ble_eq_true rfl), (Nat.le_of_ble_eq_true rfl)⟩ (fun H locs hW hS => ?_)
  cases h
  exact hend _ rfl dX10_topplingsIfByRounds_49 hW hS (Nat.le_of_ble_eq_true rfl) (Nat.le_of_ble_eq_true rfl)

theorem dX10_exhibitCount_0 : decode cX10_exhibitCount 0 = .ok (.aload_n 0, 1) := by decide +kernel
theorem dX10_exhibitCount_1 : decode cX10_exhibitCount 1 = .ok (.getfield 12, 3) := by decide +kernel
theorem dX10_exhibitCount_4 : decode cX10_exhibitCount 4 = .ok (.getfield 192, 3) := by decide +kernel
theorem dX10_exhibitCount_7 : decode cX10_exhibitCount 7 = .ok (.ireturn, 1) := by decide +kernel
abbrev rmX10_exhibitCount : Room := { frames := 2, cells := 0, slots := 0, locals := 60 }
set_option maxHeartbeats 4000000 in
set_option maxRecDepth 100000 in
theorem metX10_exhibitCount {l : Launch} {s0 : State} {b B : Nat} {D : va_G} {T : Nat → ClassId} (F : FX l s0 b D T B) {X : Nat → Prop} (hX : ∀ o, o < 560 → ¬ X (B + o)) {N : Nat} {μ : Mem} {a0 : Nat} {r : Int32} (k0 : IsGa a0) (h : fX10_exhibitCount N μ a0 = some r) : gMet l yX10_exhibitCount cX10_exhibitCount 1 (some .int) rmX10_exhibitCount [.ref (B + a0)] (gWC s0 D T B μ) (KC s0 X) (some (.int r)) (gWC s0 D T B μ) (gA B X) 0 0 := by
  refine gI_of RX10 (by decide +kernel) rfl (Nat.le_of_ble_eq_true rfl) ?_
  intro p e s m args below meth c ls Q hx hb hlocks hml hown hts hW hk hl hS hend
  have hC := FX_C F hk hx hb hown hts
  have hA := gA_all hX
  have hl : lv_has ls 1 [(0, .ref (B + a0))] := hl
  unfold fX10_exhibitCount at h
  refine lv_aload_n hx hb dX10_exhibitCount_0 rfl (lv_at hl 0 rfl) ?_
  refine gw_get (v := .ref (B + 1)) hC hW fl_X10_12 k0.1 (k0.2.2.1 (gfm s0) T B (μ a0)) rfl dX10_exhibitCount_1 ?_
  refine gw_get (v := .int (μ 1 4)) hC hW fl_X10_192.1 k0.2.2.2.1.1 (k0.2.2.2.1.2.1 (gfm s0) T B (μ 1)) rfl dX10_exhibitCount_4 ?_
  cases h
  exact hend dX10_exhibitCount_7 hW hS (Nat.le_of_ble_eq_true rfl) (Nat.le_of_ble_eq_true rfl)

theorem dX10_roomOf_0 : decode cX10_roomOf 0 = .ok (.aload_n 0, 1) := by decide +kernel
theorem dX10_roomOf_1 : decode cX10_roomOf 1 = .ok (.iload_n 1, 1) := by decide +kernel
theorem dX10_roomOf_2 : decode cX10_roomOf 2 = .ok (.invokevirtual 155, 3) := by decide +kernel
theorem dX10_roomOf_5 : decode cX10_roomOf 5 = .ok (.getfield 195, 3) := by decide +kernel
theorem dX10_roomOf_8 : decode cX10_roomOf 8 = .ok (.ireturn, 1) := by decide +kernel
abbrev rmX10_roomOf : Room := { frames := 7, cells := 1, slots := 6, locals := 141 }
set_option maxHeartbeats 4000000 in
set_option maxRecDepth 100000 in
theorem metX10_roomOf {l : Launch} {s0 : State} {b B : Nat} {D : va_G} {T : Nat → ClassId} (F : FX l s0 b D T B) {X : Nat → Prop} (hX : ∀ o, o < 560 → ¬ X (B + o)) {N : Nat} {μ : Mem} {a0 : Nat} {a1 : Int32} {r : Mem × (Nat ⊕ Int32)} (k0 : IsGa a0) (h : fX10_roomOf N μ a0 a1 = some r) : gXMet l yX10_roomOf cX10_roomOf 2 (some .int) rmX10_roomOf [.ref (B + a0), .int a1] (gWC s0 D T B μ) (KC s0 X) (oI r.2) (gWC s0 D T B r.1) (gA B X) 1 6 := by
  refine gXI_of RX10 (by decide +kernel) rfl (Nat.le_of_ble_eq_true rfl) ?_
  intro p e s m args below meth c ls Q hx hb hlocks hml hown hts hW hk hl hS hE
  obtain ⟨hend, hthr, htb, hQ⟩ := hE
  have hC := FX_C F hk hx hb hown hts
  have hA := gA_all hX
  have hl : lv_has ls 2 [(0, .ref (B + a0)), (1, .int a1)] := hl
  unfold fX10_roomOf at h
  refine lv_aload_n hx hb dX10_roomOf_0 rfl (lv_at hl 0 rfl) ?_
  refine lv_iload_n hx hb dX10_roomOf_1 rfl (lv_at hl 1 rfl) ?_
  rcases tb_out h with ⟨μ2, n4, hcall, h9⟩ | ⟨μ2, r3, hcall, h⟩
  · cases h9
    exact gx_callV (As := [.int a1]) hC hml hS hW (KC_at hk hS F.2.2.2.2) KC_blind (metX10_existing F hX k0 hcall) ml_X10_155 (gw_recv hC hW k0.1 (k0.2.2.1 (gfm s0) T B (μ a0)) rfl) ⟨rfl, rfl, (Nat.le_of_ble_eq_true rfl), (Nat.le_of_ble_eq_true rfl)⟩ rfl hl.1 rfl (Nat.le_of_ble_eq_true rfl) dX10_roomOf_2 ⟨(Nat.le_of_ble_eq_true rfl), (Nat.le_of_ble_eq_true rfl)⟩ (fun v9 ho => by cases ho) (fun k9 ho H locs q9 ce9 hW hS hce hvm hcl => by cases ho; exact hthr _ rfl hW hS hce hvm hcl (Nat.le_of_ble_eq_true rfl) (Nat.le_of_ble_eq_true rfl))
  refine gx_callV (As := [.int a1]) hC hml hS hW (KC_at hk hS F.2.2.2.2) KC_blind (metX10_existing F hX k0 hcall) ml_X10_155 (gw_recv hC hW k0.1 (k0.2.2.1 (gfm s0) T B (μ a0)) rfl) ⟨rfl, rfl, (Nat.le_of_ble_eq_true rfl), (Nat.le_of_ble_eq_true rfl)⟩ rfl hl.1 rfl (Nat.le_of_ble_eq_true rfl) dX10_roomOf_2 ⟨(Nat.le_of_ble_eq_true rfl), (Nat.le_of_ble_eq_true rfl)⟩ (fun v9 ho H locs hW hS => ?_) (fun k9 ho => by cases ho)
  cases ho
  refine W.widen (k := 1) (n := 6) (Nat.le_of_ble_eq_true rfl) (Nat.le_of_ble_eq_true rfl) ?_
  have kr5 := kdX10_existing k0 hcall
  refine gw_get (v := .int (μ2 r3 0)) hC hW fl_X10_195.1 kr5.1 (kr5.2.1 (gfm s0) T B (μ2 r3)) rfl dX10_roomOf_5 ?_
  cases h
  exact hend _ rfl dX10_roomOf_8 hW hS (Nat.le_of_ble_eq_true rfl) (Nat.le_of_ble_eq_true rfl)

theorem dX10_limit_0 : decode cX10_limit 0 = .ok (.aload_n 0, 1) := by decide +kernel
theorem dX10_limit_1 : decode cX10_limit 1 = .ok (.iload_n 1, 1) := by decide +kernel
theorem dX10_limit_2 : decode cX10_limit 2 = .ok (.invokevirtual 155, 3) := by decide +kernel
theorem dX10_limit_5 : decode cX10_limit 5 = .ok (.getfield 159, 3) := by decide +kernel
theorem dX10_limit_8 : decode cX10_limit 8 = .ok (.ireturn, 1) := by decide +kernel
abbrev rmX10_limit : Room := { frames := 7, cells := 1, slots := 6, locals := 141 }
set_option maxHeartbeats 4000000 in
set_option maxRecDepth 100000 in
theorem metX10_limit {l : Launch} {s0 : State} {b B : Nat} {D : va_G} {T : Nat → ClassId} (F : FX l s0 b D T B) {X : Nat → Prop} (hX : ∀ o, o < 560 → ¬ X (B + o)) {N : Nat} {μ : Mem} {a0 : Nat} {a1 : Int32} {r : Mem × (Nat ⊕ Int32)} (k0 : IsGa a0) (h : fX10_limit N μ a0 a1 = some r) : gXMet l yX10_limit cX10_limit 2 (some .int) rmX10_limit [.ref (B + a0), .int a1] (gWC s0 D T B μ) (KC s0 X) (oI r.2) (gWC s0 D T B r.1) (gA B X) 1 6 := by
  refine gXI_of RX10 (by decide +kernel) rfl (Nat.le_of_ble_eq_true rfl) ?_
  intro p e s m args below meth c ls Q hx hb hlocks hml hown hts hW hk hl hS hE
  obtain ⟨hend, hthr, htb, hQ⟩ := hE
  have hC := FX_C F hk hx hb hown hts
  have hA := gA_all hX
  have hl : lv_has ls 2 [(0, .ref (B + a0)), (1, .int a1)] := hl
  unfold fX10_limit at h
  refine lv_aload_n hx hb dX10_limit_0 rfl (lv_at hl 0 rfl) ?_
  refine lv_iload_n hx hb dX10_limit_1 rfl (lv_at hl 1 rfl) ?_
  rcases tb_out h with ⟨μ2, n4, hcall, h9⟩ | ⟨μ2, r3, hcall, h⟩
  · cases h9
    exact gx_callV (As := [.int a1]) hC hml hS hW (KC_at hk hS F.2.2.2.2) KC_blind (metX10_existing F hX k0 hcall) ml_X10_155 (gw_recv hC hW k0.1 (k0.2.2.1 (gfm s0) T B (μ a0)) rfl) ⟨rfl, rfl, (Nat.le_of_ble_eq_true rfl), (Nat.le_of_ble_eq_true rfl)⟩ rfl hl.1 rfl (Nat.le_of_ble_eq_true rfl) dX10_limit_2 ⟨(Nat.le_of_ble_eq_true rfl), (Nat.le_of_ble_eq_true rfl)⟩ (fun v9 ho => by cases ho) (fun k9 ho H locs q9 ce9 hW hS hce hvm hcl => by cases ho; exact hthr _ rfl hW hS hce hvm hcl (Nat.le_of_ble_eq_true rfl) (Nat.le_of_ble_eq_true rfl))
  refine gx_callV (As := [.int a1]) hC hml hS hW (KC_at hk hS F.2.2.2.2) KC_blind (metX10_existing F hX k0 hcall) ml_X10_155 (gw_recv hC hW k0.1 (k0.2.2.1 (gfm s0) T B (μ a0)) rfl) ⟨rfl, rfl, (Nat.le_of_ble_eq_true rfl), (Nat.le_of_ble_eq_true rfl)⟩ rfl hl.1 rfl (Nat.le_of_ble_eq_true rfl) dX10_limit_2 ⟨(Nat.le_of_ble_eq_true rfl), (Nat.le_of_ble_eq_true rfl)⟩ (fun v9 ho H locs hW hS => ?_) (fun k9 ho => by cases ho)
  cases ho
  refine W.widen (k := 1) (n := 6) (Nat.le_of_ble_eq_true rfl) (Nat.le_of_ble_eq_true rfl) ?_
  have kr5 := kdX10_existing k0 hcall
  refine gw_get (v := .int (μ2 r3 1)) hC hW fl_X10_159.1 kr5.1 (kr5.2.1 (gfm s0) T B (μ2 r3)) rfl dX10_limit_5 ?_
  cases h
  exact hend _ rfl dX10_limit_8 hW hS (Nat.le_of_ble_eq_true rfl) (Nat.le_of_ble_eq_true rfl)

theorem dX10_grainsAt_0 : decode cX10_grainsAt 0 = .ok (.aload_n 0, 1) := by decide +kernel
theorem dX10_grainsAt_1 : decode cX10_grainsAt 1 = .ok (.iload_n 1, 1) := by decide +kernel
theorem dX10_grainsAt_2 : decode cX10_grainsAt 2 = .ok (.invokevirtual 155, 3) := by decide +kernel
theorem dX10_grainsAt_5 : decode cX10_grainsAt 5 = .ok (.astore 4, 2) := by decide +kernel
theorem dX10_grainsAt_7 : decode cX10_grainsAt 7 = .ok (.iload_n 2, 1) := by decide +kernel
theorem dX10_grainsAt_8 : decode cX10_grainsAt 8 = .ok (.iload_n 3, 1) := by decide +kernel
theorem dX10_grainsAt_9 : decode cX10_grainsAt 9 = .ok (.invokestatic 198, 3) := by decide +kernel
theorem dX10_grainsAt_12 : decode cX10_grainsAt 12 = .ok (.invokestatic 72, 3) := by decide +kernel
theorem dX10_grainsAt_15 : decode cX10_grainsAt 15 = .ok (.aload 4, 2) := by decide +kernel
theorem dX10_grainsAt_17 : decode cX10_grainsAt 17 = .ok (.getfield 201, 3) := by decide +kernel
theorem dX10_grainsAt_20 : decode cX10_grainsAt 20 = .ok (.iload_n 2, 1) := by decide +kernel
theorem dX10_grainsAt_21 : decode cX10_grainsAt 21 = .ok (.iload_n 3, 1) := by decide +kernel
theorem dX10_grainsAt_22 : decode cX10_grainsAt 22 = .ok (.invokestatic 171, 3) := by decide +kernel
theorem dX10_grainsAt_25 : decode cX10_grainsAt 25 = .ok (.iaload, 1) := by decide +kernel
theorem dX10_grainsAt_26 : decode cX10_grainsAt 26 = .ok (.ireturn, 1) := by decide +kernel
abbrev rmX10_grainsAt : Room := { frames := 7, cells := 2, slots := 12, locals := 141 }
set_option maxHeartbeats 4000000 in
set_option maxRecDepth 100000 in
theorem metX10_grainsAt {l : Launch} {s0 : State} {b B : Nat} {D : va_G} {T : Nat → ClassId} (F : FX l s0 b D T B) {X : Nat → Prop} (hX : ∀ o, o < 560 → ¬ X (B + o)) {N : Nat} {μ : Mem} {a0 : Nat} {a1 : Int32} {a2 : Int32} {a3 : Int32} {r : Mem × (Nat ⊕ Int32)} (k0 : IsGa a0) (h : fX10_grainsAt N μ a0 a1 a2 a3 = some r) : gXMet l yX10_grainsAt cX10_grainsAt 5 (some .int) rmX10_grainsAt [.ref (B + a0), .int a1, .int a2, .int a3] (gWC s0 D T B μ) (KC s0 X) (oI r.2) (gWC s0 D T B r.1) (gA B X) 2 12 := by
  refine gXI_of RX10 (by decide +kernel) rfl (Nat.le_of_ble_eq_true rfl) ?_
  intro p e s m args below meth c ls Q hx hb hlocks hml hown hts hW hk hl hS hE
  obtain ⟨hend, hthr, htb, hQ⟩ := hE
  have hC := FX_C F hk hx hb hown hts
  have hA := gA_all hX
  have hl : lv_has ls 5 [(0, .ref (B + a0)), (1, .int a1), (2, .int a2), (3, .int a3)] := hl
  unfold fX10_grainsAt at h
  refine lv_aload_n hx hb dX10_grainsAt_0 rfl (lv_at hl 0 rfl) ?_
  refine lv_iload_n hx hb dX10_grainsAt_1 rfl (lv_at hl 1 rfl) ?_
  rcases tb_out h with ⟨μ2, n4, hcall, h9⟩ | ⟨μ2, r3, hcall, h⟩
  · cases h9
    exact gx_callV (As := [.int a1]) hC hml hS hW (KC_at hk hS F.2.2.2.2) KC_blind (metX10_existing F hX k0 hcall) ml_X10_155 (gw_recv hC hW k0.1 (k0.2.2.1 (gfm s0) T B (μ a0)) rfl) ⟨rfl, rfl, (Nat.le_of_ble_eq_true rfl), (Nat.le_of_ble_eq_true rfl)⟩ rfl hl.1 rfl (Nat.le_of_ble_eq_true rfl) dX10_grainsAt_2 ⟨(Nat.le_of_ble_eq_true rfl), (Nat.le_of_ble_eq_true rfl)⟩ (fun v9 ho => by cases ho) (fun k9 ho H locs q9 ce9 hW hS hce hvm hcl => by cases ho; exact hthr _ rfl hW hS hce hvm hcl (Nat.le_of_ble_eq_true rfl) (Nat.le_of_ble_eq_true rfl))
  refine gx_callV (As := [.int a1]) hC hml hS hW (KC_at hk hS F.2.2.2.2) KC_blind (metX10_existing F hX k0 hcall) ml_X10_155 (gw_recv hC hW k0.1 (k0.2.2.1 (gfm s0) T B (μ a0)) rfl) ⟨rfl, rfl, (Nat.le_of_ble_eq_true rfl), (Nat.le_of_ble_eq_true rfl)⟩ rfl hl.1 rfl (Nat.le_of_ble_eq_true rfl) dX10_grainsAt_2 ⟨(Nat.le_of_ble_eq_true rfl), (Nat.le_of_ble_eq_true rfl)⟩ (fun v9 ho H locs hW hS => ?_) (fun k9 ho => by cases ho)
  cases ho
  refine W.widen (k := 1) (n := 6) (Nat.le_of_ble_eq_true rfl) (Nat.le_of_ble_eq_true rfl) ?_
  have kr5 := kdX10_existing k0 hcall
  refine lv_astore (lv' := [(4, .ref (B + r3)), (0, .ref (B + a0)), (1, .int a1), (2, .int a2), (3, .int a3)]) hx hb dX10_grainsAt_5 hl (by decide) rfl (fun ls hl => ?_)
  refine lv_iload_n hx hb dX10_grainsAt_7 rfl (lv_at hl 3 rfl) ?_
  refine lv_iload_n hx hb dX10_grainsAt_8 rfl (lv_at hl 4 rfl) ?_
  obtain ⟨r6, hcall, h⟩ := bd_out h
  refine g0_callS (As := [.int a2, .int a3]) hC hml hS hW (KC_at hk hS F.2.2.2.2) KC_blind (metX10_placeFault F hX  hcall) ml_X10_198 ⟨rfl, rfl, (Nat.le_of_ble_eq_true rfl), (Nat.le_of_ble_eq_true rfl)⟩ rfl hl.1 rfl (Nat.le_of_ble_eq_true rfl) dX10_grainsAt_9 ⟨(Nat.le_of_ble_eq_true rfl), (Nat.le_of_ble_eq_true rfl)⟩ (fun H locs hW hS => ?_)
  rcases tb_out h with ⟨μ8, n10, hcall, h9⟩ | ⟨μ8, r9, hcall, h⟩
  · cases h9
    exact gx_callS (As := [.ref (gfa s0 r6)]) hC hml hS hW (KC_at hk hS F.2.2.2.2) KC_blind (metX10_stopIf F hX  hcall) ml_X10_72 ⟨rfl, rfl, (Nat.le_of_ble_eq_true rfl), (Nat.le_of_ble_eq_true rfl)⟩ rfl hl.1 rfl (Nat.le_of_ble_eq_true rfl) dX10_grainsAt_12 ⟨(Nat.le_of_ble_eq_true rfl), (Nat.le_of_ble_eq_true rfl)⟩ (fun v9 ho => by cases ho) (fun k9 ho H locs q9 ce9 hW hS hce hvm hcl => by cases ho; exact hthr _ rfl hW hS hce hvm hcl (Nat.le_of_ble_eq_true rfl) (Nat.le_of_ble_eq_true rfl))
  refine gx_callS (As := [.ref (gfa s0 r6)]) hC hml hS hW (KC_at hk hS F.2.2.2.2) KC_blind (metX10_stopIf F hX  hcall) ml_X10_72 ⟨rfl, rfl, (Nat.le_of_ble_eq_true rfl), (Nat.le_of_ble_eq_true rfl)⟩ rfl hl.1 rfl (Nat.le_of_ble_eq_true rfl) dX10_grainsAt_12 ⟨(Nat.le_of_ble_eq_true rfl), (Nat.le_of_ble_eq_true rfl)⟩ (fun v9 ho H locs hW hS => ?_) (fun k9 ho => by cases ho)
  cases ho
  refine W.widen (k := 2) (n := 12) (Nat.le_of_ble_eq_true rfl) (Nat.le_of_ble_eq_true rfl) ?_
  refine lv_aload hx hb dX10_grainsAt_15 (lv_at hl 0 rfl) ?_
  refine gw_get (v := .ref (B + (r3 + 1))) hC hW fl_X10_201 kr5.1 (kr5.2.1 (gfm s0) T B (μ8 r3)) rfl dX10_grainsAt_17 ?_
  refine lv_iload_n hx hb dX10_grainsAt_20 rfl (lv_at hl 3 rfl) ?_
  refine lv_iload_n hx hb dX10_grainsAt_21 rfl (lv_at hl 4 rfl) ?_
  obtain ⟨r11, hcall, h⟩ := bd_out h
  refine g0_callS (As := [.int a2, .int a3]) hC hml hS hW (KC_at hk hS F.2.2.2.2) KC_blind (metX10_placeAt F hX  hcall) ml_X10_171 ⟨rfl, rfl, (Nat.le_of_ble_eq_true rfl), (Nat.le_of_ble_eq_true rfl)⟩ rfl hl.1 rfl (Nat.le_of_ble_eq_true rfl) dX10_grainsAt_22 ⟨(Nat.le_of_ble_eq_true rfl), (Nat.le_of_ble_eq_true rfl)⟩ (fun H locs hW hS => ?_)
  obtain ⟨v12, e13, hi14, h⟩ := ag_o h
  refine gq_iald hC hW kr5.2.2.1.1 (kr5.2.2.1.2 (gfm s0) T B (μ8 (r3 + 1))) (t0 := 0) rfl e13 hi14 dX10_grainsAt_25 ?_
  cases h
  exact hend _ rfl dX10_grainsAt_26 hW hS (Nat.le_of_ble_eq_true rfl) (Nat.le_of_ble_eq_true rfl)
