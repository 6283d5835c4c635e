/-! Printed by program: the law's own methods. -/
theorem kl_L_13 : Cond.classLink RL 13 (exn 1) ∈ WG := wg_t 557 (by decide +kernel) (by decide +kernel)
theorem kl_L_15 : Cond.classLink RL 15 (exn 2) ∈ WG := wg_t 558 (by decide +kernel) (by decide +kernel)
theorem kl_L_21 : Cond.classLink RL 21 (exn 0) ∈ WG := wg_t 745 (by decide +kernel) (by decide +kernel)
theorem kl_L_30 : Cond.classLink RL 30 (exn 3) ∈ WG := wg_t 804 (by decide +kernel) (by decide +kernel)
theorem kl_L_106 : Cond.classLink RL 106 (exn 4) ∈ WG := wg_t 1041 (by decide +kernel) (by decide +kernel)
theorem kl_L_153 : Cond.classLink RL 153 (exn 5) ∈ WG := wg_t 1218 (by decide +kernel) (by decide +kernel)
theorem cs_0 : Cond.castable (exn 0) (exn 0) ∈ lw_tbl := List.mem_append_right _ (List.mem_of_getElem? (i := 586) (by decide +kernel))
theorem cs_1 : Cond.castable (exn 1) (exn 1) ∈ lw_tbl := List.mem_append_right _ (List.mem_of_getElem? (i := 658) (by decide +kernel))
theorem cs_2 : Cond.castable (exn 2) (exn 2) ∈ lw_tbl := List.mem_append_right _ (List.mem_of_getElem? (i := 674) (by decide +kernel))
theorem cs_3 : Cond.castable (exn 3) (exn 3) ∈ lw_tbl := List.mem_append_right _ (List.mem_of_getElem? (i := 692) (by decide +kernel))
theorem cs_4 : Cond.castable (exn 4) (exn 4) ∈ lw_tbl := List.mem_append_right _ (List.mem_of_getElem? (i := 710) (by decide +kernel))
theorem cs_5 : Cond.castable (exn 5) (exn 5) ∈ lw_tbl := List.mem_append_right _ (List.mem_of_getElem? (i := 1230) (by decide +kernel))
theorem dL_addRoom_0 : decode cL_addRoom 0 = .ok (.aload_n 2, 1) := by decide +kernel
theorem dL_addRoom_1 : decode cL_addRoom 1 = .ok (.iconst 0, 1) := by decide +kernel
theorem dL_addRoom_2 : decode cL_addRoom 2 = .ok (.aload_n 0, 1) := by decide +kernel
theorem dL_addRoom_3 : decode cL_addRoom 3 = .ok (.iload_n 1, 1) := by decide +kernel
theorem dL_addRoom_4 : decode cL_addRoom 4 = .ok (.invokevirtual 7, 3) := by decide +kernel
theorem dL_addRoom_7 : decode cL_addRoom 7 = .ok (.i2l, 1) := by decide +kernel
theorem dL_addRoom_8 : decode cL_addRoom 8 = .ok (.lastore, 1) := by decide +kernel
theorem dL_addRoom_9 : decode cL_addRoom 9 = .ok (.goto 9, 3) := by decide +kernel
theorem dL_addRoom_12 : decode cL_addRoom 12 = .ok (.astore_n 3, 1) := by decide +kernel
theorem dL_addRoom_13 : decode cL_addRoom 13 = .ok (.iconst 1, 1) := by decide +kernel
theorem dL_addRoom_14 : decode cL_addRoom 14 = .ok (.ireturn, 1) := by decide +kernel
theorem dL_addRoom_15 : decode cL_addRoom 15 = .ok (.astore_n 3, 1) := by decide +kernel
theorem dL_addRoom_16 : decode cL_addRoom 16 = .ok (.iconst 2, 1) := by decide +kernel
theorem dL_addRoom_17 : decode cL_addRoom 17 = .ok (.ireturn, 1) := by decide +kernel
theorem dL_addRoom_18 : decode cL_addRoom 18 = .ok (.iconst 0, 1) := by decide +kernel
theorem dL_addRoom_19 : decode cL_addRoom 19 = .ok (.ireturn, 1) := by decide +kernel
theorem ml_L_7 : gMV RL 7 yX10_addRoom cX10_addRoom 2 (some .int) 1 := ⟨⟨wg_t 559 (by decide +kernel) (by decide +kernel), wg_t 562 (by decide +kernel) (by decide +kernel), wg_t 1 (by decide +kernel) (by decide +kernel), by decide +kernel⟩, wg_t 560 (by decide +kernel) (by decide +kernel), wg_t 561 (by decide +kernel) (by decide +kernel)⟩
abbrev hhL_addRoom : List (Nat × Nat × Nat × Nat) := [(0, 9, 12, 13), (0, 9, 15, 15)]
theorem mw_L_192 : gML RL 192 yL_addRoom cL_addRoom 4 hhL_addRoom 3 := ⟨wg_t 554 (by decide +kernel) (by decide +kernel), wg_t 556 (by decide +kernel) (by decide +kernel), wg_t 0 (by decide +kernel) (by decide +kernel), by decide +kernel, wg_t 555 (by decide +kernel) (by decide +kernel)⟩
abbrev rmL_addRoom : Room := { frames := 8, cells := 1, slots := 6, locals := 165 }
set_option maxHeartbeats 4000000 in
set_option maxRecDepth 100000 in
theorem metL_addRoom {l : Launch} {s0 : State} {b B : Nat} {D : va_G} {T : Nat → ClassId} (F : FX l s0 b D T B) {X : Nat → Prop} (hX : ∀ o, o < 561 → ¬ X (B + o)) {ob : Nat} (hob : X ob) {f : Nat → Int64} {N : Nat} {μ : Mem} {cap : Nat} {t : List Nat} {a1 : Int32} {r : Mem × (Nat ⊕ Int32)} (h : fX10_addRoom N μ 0 a1 = some r) (hL : ∀ k, r.2 = .inl k → k = 1 ∨ k = 2) : gMetH l yL_addRoom cL_addRoom 4 hhL_addRoom rmL_addRoom [.ref (B + 0), .int a1, .ref ob] (gWL s0 D T B X μ cap t ob f) (KC s0 X) (some (.int (kL [1, 2] r.2))) (gWL s0 D T B X r.1 cap t ob (upI f r.2)) (gAo B X ob) 1 6 := by
  refine gMetH_of RL (by decide +kernel) rfl (Nat.le_of_ble_eq_true rfl) ?_
  intro p e s m below meth c ls hx hb hr hlocks hml hown hts htab hW hk hl hS
  have hC := FX_C F hk hx hb hown hts
  have hl : lv_has ls 4 [(0, .ref (B + 0)), (1, .int a1), (2, .ref ob)] := hl
  have hS0 : va_S (gA B X) s.heap s.heap [] := va_S.rf
  refine lv_aload_n hx hb dL_addRoom_0 rfl (lv_at hl 2 rfl) ?_
  refine lv_iconst (v := 0) hx hb dL_addRoom_1 (by decide) ?_
  refine lv_aload_n hx hb dL_addRoom_2 rfl (lv_at hl 0 rfl) ?_
  refine lv_iload_n hx hb dL_addRoom_3 rfl (lv_at hl 1 rfl) ?_
  refine gs_callXV (As := [.int a1]) F hX hk hC hml hS0 hW.1 (fun X9 hX9 => metX10_addRoom F hX9 is_Ga h) ml_L_7 (gw_recv hC hW.1.1 is_Ga.1 (is_Ga.2.2.1 (gfm s0) T B (μ 0)) rfl) ⟨rfl, rfl, (Nat.le_of_ble_eq_true rfl), (Nat.le_of_ble_eq_true rfl)⟩ rfl hl.1 rfl (Nat.le_of_ble_eq_true rfl) dL_addRoom_4 ⟨(Nat.le_of_ble_eq_true rfl), (Nat.le_of_ble_eq_true rfl)⟩ (fun v9 ho H1 locs1 hW1 hS1 => ?_) (fun k9 ho H1 locs1 q9 ce9 hW1 hS1 hce hvm hcl => ?_)
  · obtain ⟨x9, hv9, rfl⟩ := oI_r ho
    refine lv_i2l hx hb dL_addRoom_7 rfl ?_
    refine gl_last hC (at_keep hob hW.2 hS1) hS1.gAo (Or.inr rfl) dL_addRoom_8 (fun H2 locs2 g1 g2 g3 g4 => ?_)
    refine lv_goto (tgt := 18) hx hb dL_addRoom_9 (by decide) ?_
    refine lv_iconst (v := 0) hx hb dL_addRoom_18 (by decide) ?_
    have e9 : kL [1, 2] r.2 = 0 := by rw [hv9]; rfl
    rw [e9]
    exact gw_iret hx hb hr hlocks ⟨gWS_keep hX hob hW1 g3, by rw [hv9]; exact g1⟩ g4 (Nat.le_of_eq (Nat.zero_add _)) (Nat.le_of_eq (Nat.zero_add _)) dL_addRoom_19
  · have hv9 := oI_l ho
    rcases hL _ hv9 with rfl | rfl
    · refine vx_catch hown [] ⟨0, 9, 12, 13⟩ [⟨0, 9, 15, 15⟩] (htab.trans rfl) (fun z hz => by cases hz) (by decide) (by decide) (hts _ kl_L_13) (FX_cs F hk cs_1) hce hvm hcl ?_
      refine lv_astore_n hx hb dL_addRoom_12 rfl hl (by decide) rfl (fun ls9 hl9 => ?_)
      refine lv_iconst (v := 1) hx hb dL_addRoom_13 (by decide) ?_
      have e9 : kL [1, 2] r.2 = 1 := by rw [hv9]; decide
      rw [e9]
      exact gw_iret hx hb hr hlocks ⟨hW1, by rw [hv9]; exact at_keep hob hW.2 hS1⟩ hS1.gAo (Nat.le_of_eq (Nat.zero_add _)) (Nat.le_of_eq (Nat.zero_add _)) dL_addRoom_14
    · refine vx_catch hown [⟨0, 9, 12, 13⟩] ⟨0, 9, 15, 15⟩ [] (htab.trans rfl) (fun z hz => by cases List.mem_singleton.mp hz; exact Or.inr ⟨by decide, _, hts _ kl_L_13, FX_nc F hk nc_2_1⟩) (by decide) (by decide) (hts _ kl_L_15) (FX_cs F hk cs_2) hce hvm hcl ?_
      refine lv_astore_n hx hb dL_addRoom_15 rfl hl (by decide) rfl (fun ls9 hl9 => ?_)
      refine lv_iconst (v := 2) hx hb dL_addRoom_16 (by decide) ?_
      have e9 : kL [1, 2] r.2 = 2 := by rw [hv9]; decide
      rw [e9]
      exact gw_iret hx hb hr hlocks ⟨hW1, by rw [hv9]; exact at_keep hob hW.2 hS1⟩ hS1.gAo (Nat.le_of_eq (Nat.zero_add _)) (Nat.le_of_eq (Nat.zero_add _)) dL_addRoom_17
theorem dL_setWarmth_0 : decode cL_setWarmth 0 = .ok (.aload_n 3, 1) := by decide +kernel
theorem dL_setWarmth_1 : decode cL_setWarmth 1 = .ok (.iconst 0, 1) := by decide +kernel
theorem dL_setWarmth_2 : decode cL_setWarmth 2 = .ok (.aload_n 0, 1) := by decide +kernel
theorem dL_setWarmth_3 : decode cL_setWarmth 3 = .ok (.iload_n 1, 1) := by decide +kernel
theorem dL_setWarmth_4 : decode cL_setWarmth 4 = .ok (.iload_n 2, 1) := by decide +kernel
theorem dL_setWarmth_5 : decode cL_setWarmth 5 = .ok (.invokevirtual 17, 3) := by decide +kernel
theorem dL_setWarmth_8 : decode cL_setWarmth 8 = .ok (.i2l, 1) := by decide +kernel
theorem dL_setWarmth_9 : decode cL_setWarmth 9 = .ok (.lastore, 1) := by decide +kernel
theorem dL_setWarmth_10 : decode cL_setWarmth 10 = .ok (.goto 11, 3) := by decide +kernel
theorem dL_setWarmth_13 : decode cL_setWarmth 13 = .ok (.astore 4, 2) := by decide +kernel
theorem dL_setWarmth_15 : decode cL_setWarmth 15 = .ok (.iconst 1, 1) := by decide +kernel
theorem dL_setWarmth_16 : decode cL_setWarmth 16 = .ok (.ireturn, 1) := by decide +kernel
theorem dL_setWarmth_17 : decode cL_setWarmth 17 = .ok (.astore 4, 2) := by decide +kernel
theorem dL_setWarmth_19 : decode cL_setWarmth 19 = .ok (.iconst 2, 1) := by decide +kernel
theorem dL_setWarmth_20 : decode cL_setWarmth 20 = .ok (.ireturn, 1) := by decide +kernel
theorem dL_setWarmth_21 : decode cL_setWarmth 21 = .ok (.iconst 0, 1) := by decide +kernel
theorem dL_setWarmth_22 : decode cL_setWarmth 22 = .ok (.ireturn, 1) := by decide +kernel
theorem ml_L_17 : gMV RL 17 yX10_setWarmth cX10_setWarmth 4 (some .int) 2 := ⟨⟨wg_t 766 (by decide +kernel) (by decide +kernel), wg_t 769 (by decide +kernel) (by decide +kernel), wg_t 1 (by decide +kernel) (by decide +kernel), by decide +kernel⟩, wg_t 767 (by decide +kernel) (by decide +kernel), wg_t 768 (by decide +kernel) (by decide +kernel)⟩
abbrev hhL_setWarmth : List (Nat × Nat × Nat × Nat) := [(0, 10, 13, 21), (0, 10, 17, 13)]
theorem mw_L_201 : gML RL 201 yL_setWarmth cL_setWarmth 5 hhL_setWarmth 4 := ⟨wg_t 742 (by decide +kernel) (by decide +kernel), wg_t 744 (by decide +kernel) (by decide +kernel), wg_t 0 (by decide +kernel) (by decide +kernel), by decide +kernel, wg_t 743 (by decide +kernel) (by decide +kernel)⟩
abbrev rmL_setWarmth : Room := { frames := 8, cells := 2, slots := 12, locals := 167 }
set_option maxHeartbeats 4000000 in
set_option maxRecDepth 100000 in
theorem metL_setWarmth {l : Launch} {s0 : State} {b B : Nat} {D : va_G} {T : Nat → ClassId} (F : FX l s0 b D T B) {X : Nat → Prop} (hX : ∀ o, o < 561 → ¬ X (B + o)) {ob : Nat} (hob : X ob) {f : Nat → Int64} {N : Nat} {μ : Mem} {cap : Nat} {t : List Nat} {a1 : Int32} {a2 : Int32} {r : Mem × (Nat ⊕ Int32)} (h : fX10_setWarmth N μ 0 a1 a2 = some r) (hL : ∀ k, r.2 = .inl k → k = 0 ∨ k = 1) : gMetH l yL_setWarmth cL_setWarmth 5 hhL_setWarmth rmL_setWarmth [.ref (B + 0), .int a1, .int a2, .ref ob] (gWL s0 D T B X μ cap t ob f) (KC s0 X) (some (.int (kL [0, 1] r.2))) (gWL s0 D T B X r.1 cap t ob (upI f r.2)) (gAo B X ob) 2 12 := by
  refine gMetH_of RL (by decide +kernel) rfl (Nat.le_of_ble_eq_true rfl) ?_
  intro p e s m below meth c ls hx hb hr hlocks hml hown hts htab hW hk hl hS
  have hC := FX_C F hk hx hb hown hts
  have hl : lv_has ls 5 [(0, .ref (B + 0)), (1, .int a1), (2, .int a2), (3, .ref ob)] := hl
  have hS0 : va_S (gA B X) s.heap s.heap [] := va_S.rf
  refine lv_aload_n hx hb dL_setWarmth_0 rfl (lv_at hl 3 rfl) ?_
  refine lv_iconst (v := 0) hx hb dL_setWarmth_1 (by decide) ?_
  refine lv_aload_n hx hb dL_setWarmth_2 rfl (lv_at hl 0 rfl) ?_
  refine lv_iload_n hx hb dL_setWarmth_3 rfl (lv_at hl 1 rfl) ?_
  refine lv_iload_n hx hb dL_setWarmth_4 rfl (lv_at hl 2 rfl) ?_
  refine gs_callXV (As := [.int a1, .int a2]) F hX hk hC hml hS0 hW.1 (fun X9 hX9 => metX10_setWarmth F hX9 is_Ga h) ml_L_17 (gw_recv hC hW.1.1 is_Ga.1 (is_Ga.2.2.1 (gfm s0) T B (μ 0)) rfl) ⟨rfl, rfl, (Nat.le_of_ble_eq_true rfl), (Nat.le_of_ble_eq_true rfl)⟩ rfl hl.1 rfl (Nat.le_of_ble_eq_true rfl) dL_setWarmth_5 ⟨(Nat.le_of_ble_eq_true rfl), (Nat.le_of_ble_eq_true rfl)⟩ (fun v9 ho H1 locs1 hW1 hS1 => ?_) (fun k9 ho H1 locs1 q9 ce9 hW1 hS1 hce hvm hcl => ?_)
  · obtain ⟨x9, hv9, rfl⟩ := oI_r ho
    refine lv_i2l hx hb dL_setWarmth_8 rfl ?_
    refine gl_last hC (at_keep hob hW.2 hS1) hS1.gAo (Or.inr rfl) dL_setWarmth_9 (fun H2 locs2 g1 g2 g3 g4 => ?_)
    refine lv_goto (tgt := 21) hx hb dL_setWarmth_10 (by decide) ?_
    refine lv_iconst (v := 0) hx hb dL_setWarmth_21 (by decide) ?_
    have e9 : kL [0, 1] r.2 = 0 := by rw [hv9]; rfl
    rw [e9]
    exact gw_iret hx hb hr hlocks ⟨gWS_keep hX hob hW1 g3, by rw [hv9]; exact g1⟩ g4 (Nat.le_of_eq (Nat.zero_add _)) (Nat.le_of_eq (Nat.zero_add _)) dL_setWarmth_22
  · have hv9 := oI_l ho
    rcases hL _ hv9 with rfl | rfl
    · refine vx_catch hown [] ⟨0, 10, 13, 21⟩ [⟨0, 10, 17, 13⟩] (htab.trans rfl) (fun z hz => by cases hz) (by decide) (by decide) (hts _ kl_L_21) (FX_cs F hk cs_0) hce hvm hcl ?_
      refine lv_astore hx hb dL_setWarmth_13 hl (by decide) rfl (fun ls9 hl9 => ?_)
      refine lv_iconst (v := 1) hx hb dL_setWarmth_15 (by decide) ?_
      have e9 : kL [0, 1] r.2 = 1 := by rw [hv9]; decide
      rw [e9]
      exact gw_iret hx hb hr hlocks ⟨hW1, by rw [hv9]; exact at_keep hob hW.2 hS1⟩ hS1.gAo (Nat.le_of_eq (Nat.zero_add _)) (Nat.le_of_eq (Nat.zero_add _)) dL_setWarmth_16
    · refine vx_catch hown [⟨0, 10, 13, 21⟩] ⟨0, 10, 17, 13⟩ [] (htab.trans rfl) (fun z hz => by cases List.mem_singleton.mp hz; exact Or.inr ⟨by decide, _, hts _ kl_L_21, FX_nc F hk nc_1_0⟩) (by decide) (by decide) (hts _ kl_L_13) (FX_cs F hk cs_1) hce hvm hcl ?_
      refine lv_astore hx hb dL_setWarmth_17 hl (by decide) rfl (fun ls9 hl9 => ?_)
      refine lv_iconst (v := 2) hx hb dL_setWarmth_19 (by decide) ?_
      have e9 : kL [0, 1] r.2 = 2 := by rw [hv9]; decide
      rw [e9]
      exact gw_iret hx hb hr hlocks ⟨hW1, by rw [hv9]; exact at_keep hob hW.2 hS1⟩ hS1.gAo (Nat.le_of_eq (Nat.zero_add _)) (Nat.le_of_eq (Nat.zero_add _)) dL_setWarmth_20
theorem dL_setLeg_0 : decode cL_setLeg 0 = .ok (.aload 5, 2) := by decide +kernel
theorem dL_setLeg_2 : decode cL_setLeg 2 = .ok (.iconst 0, 1) := by decide +kernel
theorem dL_setLeg_3 : decode cL_setLeg 3 = .ok (.aload_n 0, 1) := by decide +kernel
theorem dL_setLeg_4 : decode cL_setLeg 4 = .ok (.iload_n 1, 1) := by decide +kernel
theorem dL_setLeg_5 : decode cL_setLeg 5 = .ok (.iload_n 2, 1) := by decide +kernel
theorem dL_setLeg_6 : decode cL_setLeg 6 = .ok (.iload_n 3, 1) := by decide +kernel
theorem dL_setLeg_7 : decode cL_setLeg 7 = .ok (.iload 4, 2) := by decide +kernel
theorem dL_setLeg_9 : decode cL_setLeg 9 = .ok (.invokevirtual 23, 3) := by decide +kernel
theorem dL_setLeg_12 : decode cL_setLeg 12 = .ok (.i2l, 1) := by decide +kernel
theorem dL_setLeg_13 : decode cL_setLeg 13 = .ok (.lastore, 1) := by decide +kernel
theorem dL_setLeg_14 : decode cL_setLeg 14 = .ok (.goto 11, 3) := by decide +kernel
theorem dL_setLeg_17 : decode cL_setLeg 17 = .ok (.astore 6, 2) := by decide +kernel
theorem dL_setLeg_19 : decode cL_setLeg 19 = .ok (.iconst 1, 1) := by decide +kernel
theorem dL_setLeg_20 : decode cL_setLeg 20 = .ok (.ireturn, 1) := by decide +kernel
theorem dL_setLeg_21 : decode cL_setLeg 21 = .ok (.astore 6, 2) := by decide +kernel
theorem dL_setLeg_23 : decode cL_setLeg 23 = .ok (.iconst 2, 1) := by decide +kernel
theorem dL_setLeg_24 : decode cL_setLeg 24 = .ok (.ireturn, 1) := by decide +kernel
theorem dL_setLeg_25 : decode cL_setLeg 25 = .ok (.iconst 0, 1) := by decide +kernel
theorem dL_setLeg_26 : decode cL_setLeg 26 = .ok (.ireturn, 1) := by decide +kernel
theorem ml_L_23 : gMV RL 23 yX10_setLeg cX10_setLeg 5 (some .int) 4 := ⟨⟨wg_t 779 (by decide +kernel) (by decide +kernel), wg_t 782 (by decide +kernel) (by decide +kernel), wg_t 1 (by decide +kernel) (by decide +kernel), by decide +kernel⟩, wg_t 780 (by decide +kernel) (by decide +kernel), wg_t 781 (by decide +kernel) (by decide +kernel)⟩
abbrev hhL_setLeg : List (Nat × Nat × Nat × Nat) := [(0, 14, 17, 21), (0, 14, 21, 13)]
theorem mw_L_205 : gML RL 205 yL_setLeg cL_setLeg 7 hhL_setLeg 6 := ⟨wg_t 776 (by decide +kernel) (by decide +kernel), wg_t 778 (by decide +kernel) (by decide +kernel), wg_t 0 (by decide +kernel) (by decide +kernel), by decide +kernel, wg_t 777 (by decide +kernel) (by decide +kernel)⟩
abbrev rmL_setLeg : Room := { frames := 8, cells := 1, slots := 6, locals := 168 }
set_option maxHeartbeats 4000000 in
set_option maxRecDepth 100000 in
theorem metL_setLeg {l : Launch} {s0 : State} {b B : Nat} {D : va_G} {T : Nat → ClassId} (F : FX l s0 b D T B) {X : Nat → Prop} (hX : ∀ o, o < 561 → ¬ X (B + o)) {ob : Nat} (hob : X ob) {f : Nat → Int64} {N : Nat} {μ : Mem} {cap : Nat} {t : List Nat} {a1 : Int32} {a2 : Int32} {a3 : Int32} {a4 : Int32} {r : Mem × (Nat ⊕ Int32)} (h : fX10_setLeg N μ 0 a1 a2 a3 a4 = some r) (hL : ∀ k, r.2 = .inl k → k = 0 ∨ k = 1) : gMetH l yL_setLeg cL_setLeg 7 hhL_setLeg rmL_setLeg [.ref (B + 0), .int a1, .int a2, .int a3, .int a4, .ref ob] (gWL s0 D T B X μ cap t ob f) (KC s0 X) (some (.int (kL [0, 1] r.2))) (gWL s0 D T B X r.1 cap t ob (upI f r.2)) (gAo B X ob) 1 6 := by
  refine gMetH_of RL (by decide +kernel) rfl (Nat.le_of_ble_eq_true rfl) ?_
  intro p e s m below meth c ls hx hb hr hlocks hml hown hts htab hW hk hl hS
  have hC := FX_C F hk hx hb hown hts
  have hl : lv_has ls 7 [(0, .ref (B + 0)), (1, .int a1), (2, .int a2), (3, .int a3), (4, .int a4), (5, .ref ob)] := hl
  have hS0 : va_S (gA B X) s.heap s.heap [] := va_S.rf
  refine lv_aload hx hb dL_setLeg_0 (lv_at hl 5 rfl) ?_
  refine lv_iconst (v := 0) hx hb dL_setLeg_2 (by decide) ?_
  refine lv_aload_n hx hb dL_setLeg_3 rfl (lv_at hl 0 rfl) ?_
  refine lv_iload_n hx hb dL_setLeg_4 rfl (lv_at hl 1 rfl) ?_
  refine lv_iload_n hx hb dL_setLeg_5 rfl (lv_at hl 2 rfl) ?_
  refine lv_iload_n hx hb dL_setLeg_6 rfl (lv_at hl 3 rfl) ?_
  refine lv_iload hx hb dL_setLeg_7 (lv_at hl 4 rfl) ?_
  refine gs_callXV (As := [.int a1, .int a2, .int a3, .int a4]) F hX hk hC hml hS0 hW.1 (fun X9 hX9 => metX10_setLeg F hX9 is_Ga h) ml_L_23 (gw_recv hC hW.1.1 is_Ga.1 (is_Ga.2.2.1 (gfm s0) T B (μ 0)) rfl) ⟨rfl, rfl, (Nat.le_of_ble_eq_true rfl), (Nat.le_of_ble_eq_true rfl)⟩ rfl hl.1 rfl (Nat.le_of_ble_eq_true rfl) dL_setLeg_9 ⟨(Nat.le_of_ble_eq_true rfl), (Nat.le_of_ble_eq_true rfl)⟩ (fun v9 ho H1 locs1 hW1 hS1 => ?_) (fun k9 ho H1 locs1 q9 ce9 hW1 hS1 hce hvm hcl => ?_)
  · obtain ⟨x9, hv9, rfl⟩ := oI_r ho
    refine lv_i2l hx hb dL_setLeg_12 rfl ?_
    refine gl_last hC (at_keep hob hW.2 hS1) hS1.gAo (Or.inr rfl) dL_setLeg_13 (fun H2 locs2 g1 g2 g3 g4 => ?_)
    refine lv_goto (tgt := 25) hx hb dL_setLeg_14 (by decide) ?_
    refine lv_iconst (v := 0) hx hb dL_setLeg_25 (by decide) ?_
    have e9 : kL [0, 1] r.2 = 0 := by rw [hv9]; rfl
    rw [e9]
    exact gw_iret hx hb hr hlocks ⟨gWS_keep hX hob hW1 g3, by rw [hv9]; exact g1⟩ g4 (Nat.le_of_eq (Nat.zero_add _)) (Nat.le_of_eq (Nat.zero_add _)) dL_setLeg_26
  · have hv9 := oI_l ho
    rcases hL _ hv9 with rfl | rfl
    · refine vx_catch hown [] ⟨0, 14, 17, 21⟩ [⟨0, 14, 21, 13⟩] (htab.trans rfl) (fun z hz => by cases hz) (by decide) (by decide) (hts _ kl_L_21) (FX_cs F hk cs_0) hce hvm hcl ?_
      refine lv_astore hx hb dL_setLeg_17 hl (by decide) rfl (fun ls9 hl9 => ?_)
      refine lv_iconst (v := 1) hx hb dL_setLeg_19 (by decide) ?_
      have e9 : kL [0, 1] r.2 = 1 := by rw [hv9]; decide
      rw [e9]
      exact gw_iret hx hb hr hlocks ⟨hW1, by rw [hv9]; exact at_keep hob hW.2 hS1⟩ hS1.gAo (Nat.le_of_eq (Nat.zero_add _)) (Nat.le_of_eq (Nat.zero_add _)) dL_setLeg_20
    · refine vx_catch hown [⟨0, 14, 17, 21⟩] ⟨0, 14, 21, 13⟩ [] (htab.trans rfl) (fun z hz => by cases List.mem_singleton.mp hz; exact Or.inr ⟨by decide, _, hts _ kl_L_21, FX_nc F hk nc_1_0⟩) (by decide) (by decide) (hts _ kl_L_13) (FX_cs F hk cs_1) hce hvm hcl ?_
      refine lv_astore hx hb dL_setLeg_21 hl (by decide) rfl (fun ls9 hl9 => ?_)
      refine lv_iconst (v := 2) hx hb dL_setLeg_23 (by decide) ?_
      have e9 : kL [0, 1] r.2 = 2 := by rw [hv9]; decide
      rw [e9]
      exact gw_iret hx hb hr hlocks ⟨hW1, by rw [hv9]; exact at_keep hob hW.2 hS1⟩ hS1.gAo (Nat.le_of_eq (Nat.zero_add _)) (Nat.le_of_eq (Nat.zero_add _)) dL_setLeg_24
theorem dL_removeLeg_0 : decode cL_removeLeg 0 = .ok (.aload_n 3, 1) := by decide +kernel
theorem dL_removeLeg_1 : decode cL_removeLeg 1 = .ok (.iconst 0, 1) := by decide +kernel
theorem dL_removeLeg_2 : decode cL_removeLeg 2 = .ok (.aload_n 0, 1) := by decide +kernel
theorem dL_removeLeg_3 : decode cL_removeLeg 3 = .ok (.iload_n 1, 1) := by decide +kernel
theorem dL_removeLeg_4 : decode cL_removeLeg 4 = .ok (.iload_n 2, 1) := by decide +kernel
theorem dL_removeLeg_5 : decode cL_removeLeg 5 = .ok (.invokevirtual 27, 3) := by decide +kernel
theorem dL_removeLeg_8 : decode cL_removeLeg 8 = .ok (.i2l, 1) := by decide +kernel
theorem dL_removeLeg_9 : decode cL_removeLeg 9 = .ok (.lastore, 1) := by decide +kernel
theorem dL_removeLeg_10 : decode cL_removeLeg 10 = .ok (.goto 11, 3) := by decide +kernel
theorem dL_removeLeg_13 : decode cL_removeLeg 13 = .ok (.astore 4, 2) := by decide +kernel
theorem dL_removeLeg_15 : decode cL_removeLeg 15 = .ok (.iconst 1, 1) := by decide +kernel
theorem dL_removeLeg_16 : decode cL_removeLeg 16 = .ok (.ireturn, 1) := by decide +kernel
theorem dL_removeLeg_17 : decode cL_removeLeg 17 = .ok (.astore 4, 2) := by decide +kernel
theorem dL_removeLeg_19 : decode cL_removeLeg 19 = .ok (.iconst 2, 1) := by decide +kernel
theorem dL_removeLeg_20 : decode cL_removeLeg 20 = .ok (.ireturn, 1) := by decide +kernel
theorem dL_removeLeg_21 : decode cL_removeLeg 21 = .ok (.iconst 0, 1) := by decide +kernel
theorem dL_removeLeg_22 : decode cL_removeLeg 22 = .ok (.ireturn, 1) := by decide +kernel
theorem ml_L_27 : gMV RL 27 yX10_removeLeg cX10_removeLeg 3 (some .int) 2 := ⟨⟨wg_t 805 (by decide +kernel) (by decide +kernel), wg_t 808 (by decide +kernel) (by decide +kernel), wg_t 1 (by decide +kernel) (by decide +kernel), by decide +kernel⟩, wg_t 806 (by decide +kernel) (by decide +kernel), wg_t 807 (by decide +kernel) (by decide +kernel)⟩
abbrev hhL_removeLeg : List (Nat × Nat × Nat × Nat) := [(0, 10, 13, 21), (0, 10, 17, 30)]
theorem mw_L_209 : gML RL 209 yL_removeLeg cL_removeLeg 5 hhL_removeLeg 4 := ⟨wg_t 801 (by decide +kernel) (by decide +kernel), wg_t 803 (by decide +kernel) (by decide +kernel), wg_t 0 (by decide +kernel) (by decide +kernel), by decide +kernel, wg_t 802 (by decide +kernel) (by decide +kernel)⟩
abbrev rmL_removeLeg : Room := { frames := 8, cells := 1, slots := 6, locals := 166 }
set_option maxHeartbeats 4000000 in
set_option maxRecDepth 100000 in
theorem metL_removeLeg {l : Launch} {s0 : State} {b B : Nat} {D : va_G} {T : Nat → ClassId} (F : FX l s0 b D T B) {X : Nat → Prop} (hX : ∀ o, o < 561 → ¬ X (B + o)) {ob : Nat} (hob : X ob) {f : Nat → Int64} {N : Nat} {μ : Mem} {cap : Nat} {t : List Nat} {a1 : Int32} {a2 : Int32} {r : Mem × (Nat ⊕ Int32)} (h : fX10_removeLeg N μ 0 a1 a2 = some r) (hL : ∀ k, r.2 = .inl k → k = 0 ∨ k = 3) : gMetH l yL_removeLeg cL_removeLeg 5 hhL_removeLeg rmL_removeLeg [.ref (B + 0), .int a1, .int a2, .ref ob] (gWL s0 D T B X μ cap t ob f) (KC s0 X) (some (.int (kL [0, 3] r.2))) (gWL s0 D T B X r.1 cap t ob (upI f r.2)) (gAo B X ob) 1 6 := by
  refine gMetH_of RL (by decide +kernel) rfl (Nat.le_of_ble_eq_true rfl) ?_
  intro p e s m below meth c ls hx hb hr hlocks hml hown hts htab hW hk hl hS
  have hC := FX_C F hk hx hb hown hts
  have hl : lv_has ls 5 [(0, .ref (B + 0)), (1, .int a1), (2, .int a2), (3, .ref ob)] := hl
  have hS0 : va_S (gA B X) s.heap s.heap [] := va_S.rf
  refine lv_aload_n hx hb dL_removeLeg_0 rfl (lv_at hl 3 rfl) ?_
  refine lv_iconst (v := 0) hx hb dL_removeLeg_1 (by decide) ?_
  refine lv_aload_n hx hb dL_removeLeg_2 rfl (lv_at hl 0 rfl) ?_
  refine lv_iload_n hx hb dL_removeLeg_3 rfl (lv_at hl 1 rfl) ?_
  refine lv_iload_n hx hb dL_removeLeg_4 rfl (lv_at hl 2 rfl) ?_
  refine gs_callXV (As := [.int a1, .int a2]) F hX hk hC hml hS0 hW.1 (fun X9 hX9 => metX10_removeLeg F hX9 is_Ga h) ml_L_27 (gw_recv hC hW.1.1 is_Ga.1 (is_Ga.2.2.1 (gfm s0) T B (μ 0)) rfl) ⟨rfl, rfl, (Nat.le_of_ble_eq_true rfl), (Nat.le_of_ble_eq_true rfl)⟩ rfl hl.1 rfl (Nat.le_of_ble_eq_true rfl) dL_removeLeg_5 ⟨(Nat.le_of_ble_eq_true rfl), (Nat.le_of_ble_eq_true rfl)⟩ (fun v9 ho H1 locs1 hW1 hS1 => ?_) (fun k9 ho H1 locs1 q9 ce9 hW1 hS1 hce hvm hcl => ?_)
  · obtain ⟨x9, hv9, rfl⟩ := oI_r ho
    refine lv_i2l hx hb dL_removeLeg_8 rfl ?_
    refine gl_last hC (at_keep hob hW.2 hS1) hS1.gAo (Or.inr rfl) dL_removeLeg_9 (fun H2 locs2 g1 g2 g3 g4 => ?_)
    refine lv_goto (tgt := 21) hx hb dL_removeLeg_10 (by decide) ?_
    refine lv_iconst (v := 0) hx hb dL_removeLeg_21 (by decide) ?_
    have e9 : kL [0, 3] r.2 = 0 := by rw [hv9]; rfl
    rw [e9]
    exact gw_iret hx hb hr hlocks ⟨gWS_keep hX hob hW1 g3, by rw [hv9]; exact g1⟩ g4 (Nat.le_of_eq (Nat.zero_add _)) (Nat.le_of_eq (Nat.zero_add _)) dL_removeLeg_22
  · have hv9 := oI_l ho
    rcases hL _ hv9 with rfl | rfl
    · refine vx_catch hown [] ⟨0, 10, 13, 21⟩ [⟨0, 10, 17, 30⟩] (htab.trans rfl) (fun z hz => by cases hz) (by decide) (by decide) (hts _ kl_L_21) (FX_cs F hk cs_0) hce hvm hcl ?_
      refine lv_astore hx hb dL_removeLeg_13 hl (by decide) rfl (fun ls9 hl9 => ?_)
      refine lv_iconst (v := 1) hx hb dL_removeLeg_15 (by decide) ?_
      have e9 : kL [0, 3] r.2 = 1 := by rw [hv9]; decide
      rw [e9]
      exact gw_iret hx hb hr hlocks ⟨hW1, by rw [hv9]; exact at_keep hob hW.2 hS1⟩ hS1.gAo (Nat.le_of_eq (Nat.zero_add _)) (Nat.le_of_eq (Nat.zero_add _)) dL_removeLeg_16
    · refine vx_catch hown [⟨0, 10, 13, 21⟩] ⟨0, 10, 17, 30⟩ [] (htab.trans rfl) (fun z hz => by cases List.mem_singleton.mp hz; exact Or.inr ⟨by decide, _, hts _ kl_L_21, FX_nc F hk nc_3_0⟩) (by decide) (by decide) (hts _ kl_L_30) (FX_cs F hk cs_3) hce hvm hcl ?_
      refine lv_astore hx hb dL_removeLeg_17 hl (by decide) rfl (fun ls9 hl9 => ?_)
      refine lv_iconst (v := 2) hx hb dL_removeLeg_19 (by decide) ?_
      have e9 : kL [0, 3] r.2 = 2 := by rw [hv9]; decide
      rw [e9]
      exact gw_iret hx hb hr hlocks ⟨hW1, by rw [hv9]; exact at_keep hob hW.2 hS1⟩ hS1.gAo (Nat.le_of_eq (Nat.zero_add _)) (Nat.le_of_eq (Nat.zero_add _)) dL_removeLeg_20
theorem dL_warmth_0 : decode cL_warmth 0 = .ok (.aload_n 2, 1) := by decide +kernel
theorem dL_warmth_1 : decode cL_warmth 1 = .ok (.iconst 0, 1) := by decide +kernel
theorem dL_warmth_2 : decode cL_warmth 2 = .ok (.aload_n 0, 1) := by decide +kernel
theorem dL_warmth_3 : decode cL_warmth 3 = .ok (.iload_n 1, 1) := by decide +kernel
theorem dL_warmth_4 : decode cL_warmth 4 = .ok (.invokevirtual 32, 3) := by decide +kernel
theorem dL_warmth_7 : decode cL_warmth 7 = .ok (.i2l, 1) := by decide +kernel
theorem dL_warmth_8 : decode cL_warmth 8 = .ok (.lastore, 1) := by decide +kernel
theorem dL_warmth_9 : decode cL_warmth 9 = .ok (.goto 6, 3) := by decide +kernel
theorem dL_warmth_12 : decode cL_warmth 12 = .ok (.astore_n 3, 1) := by decide +kernel
theorem dL_warmth_13 : decode cL_warmth 13 = .ok (.iconst 1, 1) := by decide +kernel
theorem dL_warmth_14 : decode cL_warmth 14 = .ok (.ireturn, 1) := by decide +kernel
theorem dL_warmth_15 : decode cL_warmth 15 = .ok (.iconst 0, 1) := by decide +kernel
theorem dL_warmth_16 : decode cL_warmth 16 = .ok (.ireturn, 1) := by decide +kernel
theorem ml_L_32 : gMV RL 32 yX10_warmth cX10_warmth 2 (some .int) 1 := ⟨⟨wg_t 817 (by decide +kernel) (by decide +kernel), wg_t 820 (by decide +kernel) (by decide +kernel), wg_t 1 (by decide +kernel) (by decide +kernel), by decide +kernel⟩, wg_t 818 (by decide +kernel) (by decide +kernel), wg_t 819 (by decide +kernel) (by decide +kernel)⟩
abbrev hhL_warmth : List (Nat × Nat × Nat × Nat) := [(0, 9, 12, 21)]
theorem mw_L_216 : gML RL 216 yL_warmth cL_warmth 4 hhL_warmth 3 := ⟨wg_t 814 (by decide +kernel) (by decide +kernel), wg_t 816 (by decide +kernel) (by decide +kernel), wg_t 0 (by decide +kernel) (by decide +kernel), by decide +kernel, wg_t 815 (by decide +kernel) (by decide +kernel)⟩
abbrev rmL_warmth : Room := { frames := 8, cells := 1, slots := 6, locals := 161 }
set_option maxHeartbeats 4000000 in
set_option maxRecDepth 100000 in
theorem metL_warmth {l : Launch} {s0 : State} {b B : Nat} {D : va_G} {T : Nat → ClassId} (F : FX l s0 b D T B) {X : Nat → Prop} (hX : ∀ o, o < 561 → ¬ X (B + o)) {ob : Nat} (hob : X ob) {f : Nat → Int64} {N : Nat} {μ : Mem} {cap : Nat} {t : List Nat} {a1 : Int32} {r : Mem × (Nat ⊕ Int32)} (h : fX10_warmth N μ 0 a1 = some r) (hL : ∀ k, r.2 = .inl k → k = 0) : gMetH l yL_warmth cL_warmth 4 hhL_warmth rmL_warmth [.ref (B + 0), .int a1, .ref ob] (gWL s0 D T B X μ cap t ob f) (KC s0 X) (some (.int (kL [0] r.2))) (gWL s0 D T B X r.1 cap t ob (upI f r.2)) (gAo B X ob) 1 6 := by
  refine gMetH_of RL (by decide +kernel) rfl (Nat.le_of_ble_eq_true rfl) ?_
  intro p e s m below meth c ls hx hb hr hlocks hml hown hts htab hW hk hl hS
  have hC := FX_C F hk hx hb hown hts
  have hl : lv_has ls 4 [(0, .ref (B + 0)), (1, .int a1), (2, .ref ob)] := hl
  have hS0 : va_S (gA B X) s.heap s.heap [] := va_S.rf
  refine lv_aload_n hx hb dL_warmth_0 rfl (lv_at hl 2 rfl) ?_
  refine lv_iconst (v := 0) hx hb dL_warmth_1 (by decide) ?_
  refine lv_aload_n hx hb dL_warmth_2 rfl (lv_at hl 0 rfl) ?_
  refine lv_iload_n hx hb dL_warmth_3 rfl (lv_at hl 1 rfl) ?_
  refine gs_callXV (As := [.int a1]) F hX hk hC hml hS0 hW.1 (fun X9 hX9 => metX10_warmth F hX9 is_Ga h) ml_L_32 (gw_recv hC hW.1.1 is_Ga.1 (is_Ga.2.2.1 (gfm s0) T B (μ 0)) rfl) ⟨rfl, rfl, (Nat.le_of_ble_eq_true rfl), (Nat.le_of_ble_eq_true rfl)⟩ rfl hl.1 rfl (Nat.le_of_ble_eq_true rfl) dL_warmth_4 ⟨(Nat.le_of_ble_eq_true rfl), (Nat.le_of_ble_eq_true rfl)⟩ (fun v9 ho H1 locs1 hW1 hS1 => ?_) (fun k9 ho H1 locs1 q9 ce9 hW1 hS1 hce hvm hcl => ?_)
  · obtain ⟨x9, hv9, rfl⟩ := oI_r ho
    refine lv_i2l hx hb dL_warmth_7 rfl ?_
    refine gl_last hC (at_keep hob hW.2 hS1) hS1.gAo (Or.inr rfl) dL_warmth_8 (fun H2 locs2 g1 g2 g3 g4 => ?_)
    refine lv_goto (tgt := 15) hx hb dL_warmth_9 (by decide) ?_
    refine lv_iconst (v := 0) hx hb dL_warmth_15 (by decide) ?_
    have e9 : kL [0] r.2 = 0 := by rw [hv9]; rfl
    rw [e9]
    exact gw_iret hx hb hr hlocks ⟨gWS_keep hX hob hW1 g3, by rw [hv9]; exact g1⟩ g4 (Nat.le_of_eq (Nat.zero_add _)) (Nat.le_of_eq (Nat.zero_add _)) dL_warmth_16
  · have hv9 := oI_l ho
    obtain rfl := hL _ hv9
    refine vx_catch hown [] ⟨0, 9, 12, 21⟩ [] (htab.trans rfl) (fun z hz => by cases hz) (by decide) (by decide) (hts _ kl_L_21) (FX_cs F hk cs_0) hce hvm hcl ?_
    refine lv_astore_n hx hb dL_warmth_12 rfl hl (by decide) rfl (fun ls9 hl9 => ?_)
    refine lv_iconst (v := 1) hx hb dL_warmth_13 (by decide) ?_
    have e9 : kL [0] r.2 = 1 := by rw [hv9]; decide
    rw [e9]
    exact gw_iret hx hb hr hlocks ⟨hW1, by rw [hv9]; exact at_keep hob hW.2 hS1⟩ hS1.gAo (Nat.le_of_eq (Nat.zero_add _)) (Nat.le_of_eq (Nat.zero_add _)) dL_warmth_14
theorem dL_legMinutes_0 : decode cL_legMinutes 0 = .ok (.aload_n 3, 1) := by decide +kernel
theorem dL_legMinutes_1 : decode cL_legMinutes 1 = .ok (.iconst 0, 1) := by decide +kernel
theorem dL_legMinutes_2 : decode cL_legMinutes 2 = .ok (.aload_n 0, 1) := by decide +kernel
theorem dL_legMinutes_3 : decode cL_legMinutes 3 = .ok (.iload_n 1, 1) := by decide +kernel
theorem dL_legMinutes_4 : decode cL_legMinutes 4 = .ok (.iload_n 2, 1) := by decide +kernel
theorem dL_legMinutes_5 : decode cL_legMinutes 5 = .ok (.invokevirtual 35, 3) := by decide +kernel
theorem dL_legMinutes_8 : decode cL_legMinutes 8 = .ok (.i2l, 1) := by decide +kernel
theorem dL_legMinutes_9 : decode cL_legMinutes 9 = .ok (.lastore, 1) := by decide +kernel
theorem dL_legMinutes_10 : decode cL_legMinutes 10 = .ok (.goto 11, 3) := by decide +kernel
theorem dL_legMinutes_13 : decode cL_legMinutes 13 = .ok (.astore 4, 2) := by decide +kernel
theorem dL_legMinutes_15 : decode cL_legMinutes 15 = .ok (.iconst 1, 1) := by decide +kernel
theorem dL_legMinutes_16 : decode cL_legMinutes 16 = .ok (.ireturn, 1) := by decide +kernel
theorem dL_legMinutes_17 : decode cL_legMinutes 17 = .ok (.astore 4, 2) := by decide +kernel
theorem dL_legMinutes_19 : decode cL_legMinutes 19 = .ok (.iconst 2, 1) := by decide +kernel
theorem dL_legMinutes_20 : decode cL_legMinutes 20 = .ok (.ireturn, 1) := by decide +kernel
theorem dL_legMinutes_21 : decode cL_legMinutes 21 = .ok (.iconst 0, 1) := by decide +kernel
theorem dL_legMinutes_22 : decode cL_legMinutes 22 = .ok (.ireturn, 1) := by decide +kernel
theorem ml_L_35 : gMV RL 35 yX10_legMinutes cX10_legMinutes 3 (some .int) 2 := ⟨⟨wg_t 824 (by decide +kernel) (by decide +kernel), wg_t 827 (by decide +kernel) (by decide +kernel), wg_t 1 (by decide +kernel) (by decide +kernel), by decide +kernel⟩, wg_t 825 (by decide +kernel) (by decide +kernel), wg_t 826 (by decide +kernel) (by decide +kernel)⟩
abbrev hhL_legMinutes : List (Nat × Nat × Nat × Nat) := [(0, 10, 13, 21), (0, 10, 17, 30)]
theorem mw_L_219 : gML RL 219 yL_legMinutes cL_legMinutes 5 hhL_legMinutes 4 := ⟨wg_t 821 (by decide +kernel) (by decide +kernel), wg_t 823 (by decide +kernel) (by decide +kernel), wg_t 0 (by decide +kernel) (by decide +kernel), by decide +kernel, wg_t 822 (by decide +kernel) (by decide +kernel)⟩
abbrev rmL_legMinutes : Room := { frames := 8, cells := 1, slots := 6, locals := 162 }
set_option maxHeartbeats 4000000 in
set_option maxRecDepth 100000 in
theorem metL_legMinutes {l : Launch} {s0 : State} {b B : Nat} {D : va_G} {T : Nat → ClassId} (F : FX l s0 b D T B) {X : Nat → Prop} (hX : ∀ o, o < 561 → ¬ X (B + o)) {ob : Nat} (hob : X ob) {f : Nat → Int64} {N : Nat} {μ : Mem} {cap : Nat} {t : List Nat} {a1 : Int32} {a2 : Int32} {r : Mem × (Nat ⊕ Int32)} (h : fX10_legMinutes N μ 0 a1 a2 = some r) (hL : ∀ k, r.2 = .inl k → k = 0 ∨ k = 3) : gMetH l yL_legMinutes cL_legMinutes 5 hhL_legMinutes rmL_legMinutes [.ref (B + 0), .int a1, .int a2, .ref ob] (gWL s0 D T B X μ cap t ob f) (KC s0 X) (some (.int (kL [0, 3] r.2))) (gWL s0 D T B X r.1 cap t ob (upI f r.2)) (gAo B X ob) 1 6 := by
  refine gMetH_of RL (by decide +kernel) rfl (Nat.le_of_ble_eq_true rfl) ?_
  intro p e s m below meth c ls hx hb hr hlocks hml hown hts htab hW hk hl hS
  have hC := FX_C F hk hx hb hown hts
  have hl : lv_has ls 5 [(0, .ref (B + 0)), (1, .int a1), (2, .int a2), (3, .ref ob)] := hl
  have hS0 : va_S (gA B X) s.heap s.heap [] := va_S.rf
  refine lv_aload_n hx hb dL_legMinutes_0 rfl (lv_at hl 3 rfl) ?_
  refine lv_iconst (v := 0) hx hb dL_legMinutes_1 (by decide) ?_
  refine lv_aload_n hx hb dL_legMinutes_2 rfl (lv_at hl 0 rfl) ?_
  refine lv_iload_n hx hb dL_legMinutes_3 rfl (lv_at hl 1 rfl) ?_
  refine lv_iload_n hx hb dL_legMinutes_4 rfl (lv_at hl 2 rfl) ?_
  refine gs_callXV (As := [.int a1, .int a2]) F hX hk hC hml hS0 hW.1 (fun X9 hX9 => metX10_legMinutes F hX9 is_Ga h) ml_L_35 (gw_recv hC hW.1.1 is_Ga.1 (is_Ga.2.2.1 (gfm s0) T B (μ 0)) rfl) ⟨rfl, rfl, (Nat.le_of_ble_eq_true rfl), (Nat.le_of_ble_eq_true rfl)⟩ rfl hl.1 rfl (Nat.le_of_ble_eq_true rfl) dL_legMinutes_5 ⟨(Nat.le_of_ble_eq_true rfl), (Nat.le_of_ble_eq_true rfl)⟩ (fun v9 ho H1 locs1 hW1 hS1 => ?_) (fun k9 ho H1 locs1 q9 ce9 hW1 hS1 hce hvm hcl => ?_)
  · obtain ⟨x9, hv9, rfl⟩ := oI_r ho
    refine lv_i2l hx hb dL_legMinutes_8 rfl ?_
    refine gl_last hC (at_keep hob hW.2 hS1) hS1.gAo (Or.inr rfl) dL_legMinutes_9 (fun H2 locs2 g1 g2 g3 g4 => ?_)
    refine lv_goto (tgt := 21) hx hb dL_legMinutes_10 (by decide) ?_
    refine lv_iconst (v := 0) hx hb dL_legMinutes_21 (by decide) ?_
    have e9 : kL [0, 3] r.2 = 0 := by rw [hv9]; rfl
    rw [e9]
    exact gw_iret hx hb hr hlocks ⟨gWS_keep hX hob hW1 g3, by rw [hv9]; exact g1⟩ g4 (Nat.le_of_eq (Nat.zero_add _)) (Nat.le_of_eq (Nat.zero_add _)) dL_legMinutes_22
  · have hv9 := oI_l ho
    rcases hL _ hv9 with rfl | rfl
    · refine vx_catch hown [] ⟨0, 10, 13, 21⟩ [⟨0, 10, 17, 30⟩] (htab.trans rfl) (fun z hz => by cases hz) (by decide) (by decide) (hts _ kl_L_21) (FX_cs F hk cs_0) hce hvm hcl ?_
      refine lv_astore hx hb dL_legMinutes_13 hl (by decide) rfl (fun ls9 hl9 => ?_)
      refine lv_iconst (v := 1) hx hb dL_legMinutes_15 (by decide) ?_
      have e9 : kL [0, 3] r.2 = 1 := by rw [hv9]; decide
      rw [e9]
      exact gw_iret hx hb hr hlocks ⟨hW1, by rw [hv9]; exact at_keep hob hW.2 hS1⟩ hS1.gAo (Nat.le_of_eq (Nat.zero_add _)) (Nat.le_of_eq (Nat.zero_add _)) dL_legMinutes_16
    · refine vx_catch hown [⟨0, 10, 13, 21⟩] ⟨0, 10, 17, 30⟩ [] (htab.trans rfl) (fun z hz => by cases List.mem_singleton.mp hz; exact Or.inr ⟨by decide, _, hts _ kl_L_21, FX_nc F hk nc_3_0⟩) (by decide) (by decide) (hts _ kl_L_30) (FX_cs F hk cs_3) hce hvm hcl ?_
      refine lv_astore hx hb dL_legMinutes_17 hl (by decide) rfl (fun ls9 hl9 => ?_)
      refine lv_iconst (v := 2) hx hb dL_legMinutes_19 (by decide) ?_
      have e9 : kL [0, 3] r.2 = 2 := by rw [hv9]; decide
      rw [e9]
      exact gw_iret hx hb hr hlocks ⟨hW1, by rw [hv9]; exact at_keep hob hW.2 hS1⟩ hS1.gAo (Nat.le_of_eq (Nat.zero_add _)) (Nat.le_of_eq (Nat.zero_add _)) dL_legMinutes_20
theorem dL_legWarmth_0 : decode cL_legWarmth 0 = .ok (.aload_n 3, 1) := by decide +kernel
theorem dL_legWarmth_1 : decode cL_legWarmth 1 = .ok (.iconst 0, 1) := by decide +kernel
theorem dL_legWarmth_2 : decode cL_legWarmth 2 = .ok (.aload_n 0, 1) := by decide +kernel
theorem dL_legWarmth_3 : decode cL_legWarmth 3 = .ok (.iload_n 1, 1) := by decide +kernel
theorem dL_legWarmth_4 : decode cL_legWarmth 4 = .ok (.iload_n 2, 1) := by decide +kernel
theorem dL_legWarmth_5 : decode cL_legWarmth 5 = .ok (.invokevirtual 38, 3) := by decide +kernel
theorem dL_legWarmth_8 : decode cL_legWarmth 8 = .ok (.i2l, 1) := by decide +kernel
theorem dL_legWarmth_9 : decode cL_legWarmth 9 = .ok (.lastore, 1) := by decide +kernel
theorem dL_legWarmth_10 : decode cL_legWarmth 10 = .ok (.goto 11, 3) := by decide +kernel
theorem dL_legWarmth_13 : decode cL_legWarmth 13 = .ok (.astore 4, 2) := by decide +kernel
theorem dL_legWarmth_15 : decode cL_legWarmth 15 = .ok (.iconst 1, 1) := by decide +kernel
theorem dL_legWarmth_16 : decode cL_legWarmth 16 = .ok (.ireturn, 1) := by decide +kernel
theorem dL_legWarmth_17 : decode cL_legWarmth 17 = .ok (.astore 4, 2) := by decide +kernel
theorem dL_legWarmth_19 : decode cL_legWarmth 19 = .ok (.iconst 2, 1) := by decide +kernel
theorem dL_legWarmth_20 : decode cL_legWarmth 20 = .ok (.ireturn, 1) := by decide +kernel
theorem dL_legWarmth_21 : decode cL_legWarmth 21 = .ok (.iconst 0, 1) := by decide +kernel
theorem dL_legWarmth_22 : decode cL_legWarmth 22 = .ok (.ireturn, 1) := by decide +kernel
theorem ml_L_38 : gMV RL 38 yX10_legWarmth cX10_legWarmth 3 (some .int) 2 := ⟨⟨wg_t 831 (by decide +kernel) (by decide +kernel), wg_t 834 (by decide +kernel) (by decide +kernel), wg_t 1 (by decide +kernel) (by decide +kernel), by decide +kernel⟩, wg_t 832 (by decide +kernel) (by decide +kernel), wg_t 833 (by decide +kernel) (by decide +kernel)⟩
abbrev hhL_legWarmth : List (Nat × Nat × Nat × Nat) := [(0, 10, 13, 21), (0, 10, 17, 30)]
theorem mw_L_222 : gML RL 222 yL_legWarmth cL_legWarmth 5 hhL_legWarmth 4 := ⟨wg_t 828 (by decide +kernel) (by decide +kernel), wg_t 830 (by decide +kernel) (by decide +kernel), wg_t 0 (by decide +kernel) (by decide +kernel), by decide +kernel, wg_t 829 (by decide +kernel) (by decide +kernel)⟩
abbrev rmL_legWarmth : Room := { frames := 8, cells := 1, slots := 6, locals := 162 }
set_option maxHeartbeats 4000000 in
set_option maxRecDepth 100000 in
theorem metL_legWarmth {l : Launch} {s0 : State} {b B : Nat} {D : va_G} {T : Nat → ClassId} (F : FX l s0 b D T B) {X : Nat → Prop} (hX : ∀ o, o < 561 → ¬ X (B + o)) {ob : Nat} (hob : X ob) {f : Nat → Int64} {N : Nat} {μ : Mem} {cap : Nat} {t : List Nat} {a1 : Int32} {a2 : Int32} {r : Mem × (Nat ⊕ Int32)} (h : fX10_legWarmth N μ 0 a1 a2 = some r) (hL : ∀ k, r.2 = .inl k → k = 0 ∨ k = 3) : gMetH l yL_legWarmth cL_legWarmth 5 hhL_legWarmth rmL_legWarmth [.ref (B + 0), .int a1, .int a2, .ref ob] (gWL s0 D T B X μ cap t ob f) (KC s0 X) (some (.int (kL [0, 3] r.2))) (gWL s0 D T B X r.1 cap t ob (upI f r.2)) (gAo B X ob) 1 6 := by
  refine gMetH_of RL (by decide +kernel) rfl (Nat.le_of_ble_eq_true rfl) ?_
  intro p e s m below meth c ls hx hb hr hlocks hml hown hts htab hW hk hl hS
  have hC := FX_C F hk hx hb hown hts
  have hl : lv_has ls 5 [(0, .ref (B + 0)), (1, .int a1), (2, .int a2), (3, .ref ob)] := hl
  have hS0 : va_S (gA B X) s.heap s.heap [] := va_S.rf
  refine lv_aload_n hx hb dL_legWarmth_0 rfl (lv_at hl 3 rfl) ?_
  refine lv_iconst (v := 0) hx hb dL_legWarmth_1 (by decide) ?_
  refine lv_aload_n hx hb dL_legWarmth_2 rfl (lv_at hl 0 rfl) ?_
  refine lv_iload_n hx hb dL_legWarmth_3 rfl (lv_at hl 1 rfl) ?_
  refine lv_iload_n hx hb dL_legWarmth_4 rfl (lv_at hl 2 rfl) ?_
  refine gs_callXV (As := [.int a1, .int a2]) F hX hk hC hml hS0 hW.1 (fun X9 hX9 => metX10_legWarmth F hX9 is_Ga h) ml_L_38 (gw_recv hC hW.1.1 is_Ga.1 (is_Ga.2.2.1 (gfm s0) T B (μ 0)) rfl) ⟨rfl, rfl, (Nat.le_of_ble_eq_true rfl), (Nat.le_of_ble_eq_true rfl)⟩ rfl hl.1 rfl (Nat.le_of_ble_eq_true rfl) dL_legWarmth_5 ⟨(Nat.le_of_ble_eq_true rfl), (Nat.le_of_ble_eq_true rfl)⟩ (fun v9 ho H1 locs1 hW1 hS1 => ?_) (fun k9 ho H1 locs1 q9 ce9 hW1 hS1 hce hvm hcl => ?_)
  · obtain ⟨x9, hv9, rfl⟩ := oI_r ho
    refine lv_i2l hx hb dL_legWarmth_8 rfl ?_
    refine gl_last hC (at_keep hob hW.2 hS1) hS1.gAo (Or.inr rfl) dL_legWarmth_9 (fun H2 locs2 g1 g2 g3 g4 => ?_)
    refine lv_goto (tgt := 21) hx hb dL_legWarmth_10 (by decide) ?_
    refine lv_iconst (v := 0) hx hb dL_legWarmth_21 (by decide) ?_
    have e9 : kL [0, 3] r.2 = 0 := by rw [hv9]; rfl
    rw [e9]
    exact gw_iret hx hb hr hlocks ⟨gWS_keep hX hob hW1 g3, by rw [hv9]; exact g1⟩ g4 (Nat.le_of_eq (Nat.zero_add _)) (Nat.le_of_eq (Nat.zero_add _)) dL_legWarmth_22
  · have hv9 := oI_l ho
    rcases hL _ hv9 with rfl | rfl
    · refine vx_catch hown [] ⟨0, 10, 13, 21⟩ [⟨0, 10, 17, 30⟩] (htab.trans rfl) (fun z hz => by cases hz) (by decide) (by decide) (hts _ kl_L_21) (FX_cs F hk cs_0) hce hvm hcl ?_
      refine lv_astore hx hb dL_legWarmth_13 hl (by decide) rfl (fun ls9 hl9 => ?_)
      refine lv_iconst (v := 1) hx hb dL_legWarmth_15 (by decide) ?_
      have e9 : kL [0, 3] r.2 = 1 := by rw [hv9]; decide
      rw [e9]
      exact gw_iret hx hb hr hlocks ⟨hW1, by rw [hv9]; exact at_keep hob hW.2 hS1⟩ hS1.gAo (Nat.le_of_eq (Nat.zero_add _)) (Nat.le_of_eq (Nat.zero_add _)) dL_legWarmth_16
    · refine vx_catch hown [⟨0, 10, 13, 21⟩] ⟨0, 10, 17, 30⟩ [] (htab.trans rfl) (fun z hz => by cases List.mem_singleton.mp hz; exact Or.inr ⟨by decide, _, hts _ kl_L_21, FX_nc F hk nc_3_0⟩) (by decide) (by decide) (hts _ kl_L_30) (FX_cs F hk cs_3) hce hvm hcl ?_
      refine lv_astore hx hb dL_legWarmth_17 hl (by decide) rfl (fun ls9 hl9 => ?_)
      refine lv_iconst (v := 2) hx hb dL_legWarmth_19 (by decide) ?_
      have e9 : kL [0, 3] r.2 = 2 := by rw [hv9]; decide
      rw [e9]
      exact gw_iret hx hb hr hlocks ⟨hW1, by rw [hv9]; exact at_keep hob hW.2 hS1⟩ hS1.gAo (Nat.le_of_eq (Nat.zero_add _)) (Nat.le_of_eq (Nat.zero_add _)) dL_legWarmth_20
theorem dL_minutes_0 : decode cL_minutes 0 = .ok (.aload_n 3, 1) := by decide +kernel
theorem dL_minutes_1 : decode cL_minutes 1 = .ok (.iconst 0, 1) := by decide +kernel
theorem dL_minutes_2 : decode cL_minutes 2 = .ok (.aload_n 0, 1) := by decide +kernel
theorem dL_minutes_3 : decode cL_minutes 3 = .ok (.iload_n 1, 1) := by decide +kernel
theorem dL_minutes_4 : decode cL_minutes 4 = .ok (.iload_n 2, 1) := by decide +kernel
theorem dL_minutes_5 : decode cL_minutes 5 = .ok (.invokevirtual 41, 3) := by decide +kernel
theorem dL_minutes_8 : decode cL_minutes 8 = .ok (.i2l, 1) := by decide +kernel
theorem dL_minutes_9 : decode cL_minutes 9 = .ok (.lastore, 1) := by decide +kernel
theorem dL_minutes_10 : decode cL_minutes 10 = .ok (.goto 11, 3) := by decide +kernel
theorem dL_minutes_13 : decode cL_minutes 13 = .ok (.astore 4, 2) := by decide +kernel
theorem dL_minutes_15 : decode cL_minutes 15 = .ok (.iconst 1, 1) := by decide +kernel
theorem dL_minutes_16 : decode cL_minutes 16 = .ok (.ireturn, 1) := by decide +kernel
theorem dL_minutes_17 : decode cL_minutes 17 = .ok (.astore 4, 2) := by decide +kernel
theorem dL_minutes_19 : decode cL_minutes 19 = .ok (.iconst 2, 1) := by decide +kernel
theorem dL_minutes_20 : decode cL_minutes 20 = .ok (.ireturn, 1) := by decide +kernel
theorem dL_minutes_21 : decode cL_minutes 21 = .ok (.iconst 0, 1) := by decide +kernel
theorem dL_minutes_22 : decode cL_minutes 22 = .ok (.ireturn, 1) := by decide +kernel
theorem ml_L_41 : gMV RL 41 yX10_minutes cX10_minutes 3 (some .int) 2 := ⟨⟨wg_t 838 (by decide +kernel) (by decide +kernel), wg_t 841 (by decide +kernel) (by decide +kernel), wg_t 1 (by decide +kernel) (by decide +kernel), by decide +kernel⟩, wg_t 839 (by decide +kernel) (by decide +kernel), wg_t 840 (by decide +kernel) (by decide +kernel)⟩
abbrev hhL_minutes : List (Nat × Nat × Nat × Nat) := [(0, 10, 13, 21), (0, 10, 17, 30)]
theorem mw_L_225 : gML RL 225 yL_minutes cL_minutes 5 hhL_minutes 4 := ⟨wg_t 835 (by decide +kernel) (by decide +kernel), wg_t 837 (by decide +kernel) (by decide +kernel), wg_t 0 (by decide +kernel) (by decide +kernel), by decide +kernel, wg_t 836 (by decide +kernel) (by decide +kernel)⟩
abbrev rmL_minutes : Room := { frames := 8, cells := 2, slots := 12, locals := 162 }
set_option maxHeartbeats 4000000 in
set_option maxRecDepth 100000 in
theorem metL_minutes {l : Launch} {s0 : State} {b B : Nat} {D : va_G} {T : Nat → ClassId} (F : FX l s0 b D T B) {X : Nat → Prop} (hX : ∀ o, o < 561 → ¬ X (B + o)) {ob : Nat} (hob : X ob) {f : Nat → Int64} {N : Nat} {μ : Mem} {cap : Nat} {t : List Nat} {a1 : Int32} {a2 : Int32} {r : Mem × (Nat ⊕ Int32)} (h : fX10_minutes N μ 0 a1 a2 = some r) (hL : ∀ k, r.2 = .inl k → k = 0 ∨ k = 3) : gMetH l yL_minutes cL_minutes 5 hhL_minutes rmL_minutes [.ref (B + 0), .int a1, .int a2, .ref ob] (gWL s0 D T B X μ cap t ob f) (KC s0 X) (some (.int (kL [0, 3] r.2))) (gWL s0 D T B X r.1 cap t ob (upI f r.2)) (gAo B X ob) 2 12 := by
  refine gMetH_of RL (by decide +kernel) rfl (Nat.le_of_ble_eq_true rfl) ?_
  intro p e s m below meth c ls hx hb hr hlocks hml hown hts htab hW hk hl hS
  have hC := FX_C F hk hx hb hown hts
  have hl : lv_has ls 5 [(0, .ref (B + 0)), (1, .int a1), (2, .int a2), (3, .ref ob)] := hl
  have hS0 : va_S (gA B X) s.heap s.heap [] := va_S.rf
  refine lv_aload_n hx hb dL_minutes_0 rfl (lv_at hl 3 rfl) ?_
  refine lv_iconst (v := 0) hx hb dL_minutes_1 (by decide) ?_
  refine lv_aload_n hx hb dL_minutes_2 rfl (lv_at hl 0 rfl) ?_
  refine lv_iload_n hx hb dL_minutes_3 rfl (lv_at hl 1 rfl) ?_
  refine lv_iload_n hx hb dL_minutes_4 rfl (lv_at hl 2 rfl) ?_
  refine gs_callXV (As := [.int a1, .int a2]) F hX hk hC hml hS0 hW.1 (fun X9 hX9 => metX10_minutes F hX9 is_Ga h) ml_L_41 (gw_recv hC hW.1.1 is_Ga.1 (is_Ga.2.2.1 (gfm s0) T B (μ 0)) rfl) ⟨rfl, rfl, (Nat.le_of_ble_eq_true rfl), (Nat.le_of_ble_eq_true rfl)⟩ rfl hl.1 rfl (Nat.le_of_ble_eq_true rfl) dL_minutes_5 ⟨(Nat.le_of_ble_eq_true rfl), (Nat.le_of_ble_eq_true rfl)⟩ (fun v9 ho H1 locs1 hW1 hS1 => ?_) (fun k9 ho H1 locs1 q9 ce9 hW1 hS1 hce hvm hcl => ?_)
  · obtain ⟨x9, hv9, rfl⟩ := oI_r ho
    refine lv_i2l hx hb dL_minutes_8 rfl ?_
    refine gl_last hC (at_keep hob hW.2 hS1) hS1.gAo (Or.inr rfl) dL_minutes_9 (fun H2 locs2 g1 g2 g3 g4 => ?_)
    refine lv_goto (tgt := 21) hx hb dL_minutes_10 (by decide) ?_
    refine lv_iconst (v := 0) hx hb dL_minutes_21 (by decide) ?_
    have e9 : kL [0, 3] r.2 = 0 := by rw [hv9]; rfl
    rw [e9]
    exact gw_iret hx hb hr hlocks ⟨gWS_keep hX hob hW1 g3, by rw [hv9]; exact g1⟩ g4 (Nat.le_of_eq (Nat.zero_add _)) (Nat.le_of_eq (Nat.zero_add _)) dL_minutes_22
  · have hv9 := oI_l ho
    rcases hL _ hv9 with rfl | rfl
    · refine vx_catch hown [] ⟨0, 10, 13, 21⟩ [⟨0, 10, 17, 30⟩] (htab.trans rfl) (fun z hz => by cases hz) (by decide) (by decide) (hts _ kl_L_21) (FX_cs F hk cs_0) hce hvm hcl ?_
      refine lv_astore hx hb dL_minutes_13 hl (by decide) rfl (fun ls9 hl9 => ?_)
      refine lv_iconst (v := 1) hx hb dL_minutes_15 (by decide) ?_
      have e9 : kL [0, 3] r.2 = 1 := by rw [hv9]; decide
      rw [e9]
      exact gw_iret hx hb hr hlocks ⟨hW1, by rw [hv9]; exact at_keep hob hW.2 hS1⟩ hS1.gAo (Nat.le_of_eq (Nat.zero_add _)) (Nat.le_of_eq (Nat.zero_add _)) dL_minutes_16
    · refine vx_catch hown [⟨0, 10, 13, 21⟩] ⟨0, 10, 17, 30⟩ [] (htab.trans rfl) (fun z hz => by cases List.mem_singleton.mp hz; exact Or.inr ⟨by decide, _, hts _ kl_L_21, FX_nc F hk nc_3_0⟩) (by decide) (by decide) (hts _ kl_L_30) (FX_cs F hk cs_3) hce hvm hcl ?_
      refine lv_astore hx hb dL_minutes_17 hl (by decide) rfl (fun ls9 hl9 => ?_)
      refine lv_iconst (v := 2) hx hb dL_minutes_19 (by decide) ?_
      have e9 : kL [0, 3] r.2 = 2 := by rw [hv9]; decide
      rw [e9]
      exact gw_iret hx hb hr hlocks ⟨hW1, by rw [hv9]; exact at_keep hob hW.2 hS1⟩ hS1.gAo (Nat.le_of_eq (Nat.zero_add _)) (Nat.le_of_eq (Nat.zero_add _)) dL_minutes_20
theorem dL_minutesByTable_0 : decode cL_minutesByTable 0 = .ok (.aload_n 3, 1) := by decide +kernel
theorem dL_minutesByTable_1 : decode cL_minutesByTable 1 = .ok (.iconst 0, 1) := by decide +kernel
theorem dL_minutesByTable_2 : decode cL_minutesByTable 2 = .ok (.aload_n 0, 1) := by decide +kernel
theorem dL_minutesByTable_3 : decode cL_minutesByTable 3 = .ok (.iload_n 1, 1) := by decide +kernel
theorem dL_minutesByTable_4 : decode cL_minutesByTable 4 = .ok (.iload_n 2, 1) := by decide +kernel
theorem dL_minutesByTable_5 : decode cL_minutesByTable 5 = .ok (.invokevirtual 44, 3) := by decide +kernel
theorem dL_minutesByTable_8 : decode cL_minutesByTable 8 = .ok (.i2l, 1) := by decide +kernel
theorem dL_minutesByTable_9 : decode cL_minutesByTable 9 = .ok (.lastore, 1) := by decide +kernel
theorem dL_minutesByTable_10 : decode cL_minutesByTable 10 = .ok (.goto 11, 3) := by decide +kernel
theorem dL_minutesByTable_13 : decode cL_minutesByTable 13 = .ok (.astore 4, 2) := by decide +kernel
theorem dL_minutesByTable_15 : decode cL_minutesByTable 15 = .ok (.iconst 1, 1) := by decide +kernel
theorem dL_minutesByTable_16 : decode cL_minutesByTable 16 = .ok (.ireturn, 1) := by decide +kernel
theorem dL_minutesByTable_17 : decode cL_minutesByTable 17 = .ok (.astore 4, 2) := by decide +kernel
theorem dL_minutesByTable_19 : decode cL_minutesByTable 19 = .ok (.iconst 2, 1) := by decide +kernel
theorem dL_minutesByTable_20 : decode cL_minutesByTable 20 = .ok (.ireturn, 1) := by decide +kernel
theorem dL_minutesByTable_21 : decode cL_minutesByTable 21 = .ok (.iconst 0, 1) := by decide +kernel
theorem dL_minutesByTable_22 : decode cL_minutesByTable 22 = .ok (.ireturn, 1) := by decide +kernel
theorem ml_L_44 : gMV RL 44 yX10_minutesByTable cX10_minutesByTable 3 (some .int) 2 := ⟨⟨wg_t 849 (by decide +kernel) (by decide +kernel), wg_t 852 (by decide +kernel) (by decide +kernel), wg_t 1 (by decide +kernel) (by decide +kernel), by decide +kernel⟩, wg_t 850 (by decide +kernel) (by decide +kernel), wg_t 851 (by decide +kernel) (by decide +kernel)⟩
abbrev hhL_minutesByTable : List (Nat × Nat × Nat × Nat) := [(0, 10, 13, 21), (0, 10, 17, 30)]
theorem mw_L_228 : gML RL 228 yL_minutesByTable cL_minutesByTable 5 hhL_minutesByTable 4 := ⟨wg_t 846 (by decide +kernel) (by decide +kernel), wg_t 848 (by decide +kernel) (by decide +kernel), wg_t 0 (by decide +kernel) (by decide +kernel), by decide +kernel, wg_t 847 (by decide +kernel) (by decide +kernel)⟩
abbrev rmL_minutesByTable : Room := { frames := 8, cells := 2, slots := 12, locals := 162 }
set_option maxHeartbeats 4000000 in
set_option maxRecDepth 100000 in
theorem metL_minutesByTable {l : Launch} {s0 : State} {b B : Nat} {D : va_G} {T : Nat → ClassId} (F : FX l s0 b D T B) {X : Nat → Prop} (hX : ∀ o, o < 561 → ¬ X (B + o)) {ob : Nat} (hob : X ob) {f : Nat → Int64} {N : Nat} {μ : Mem} {cap : Nat} {t : List Nat} {a1 : Int32} {a2 : Int32} {r : Mem × (Nat ⊕ Int32)} (h : fX10_minutesByTable N μ 0 a1 a2 = some r) (hL : ∀ k, r.2 = .inl k → k = 0 ∨ k = 3) : gMetH l yL_minutesByTable cL_minutesByTable 5 hhL_minutesByTable rmL_minutesByTable [.ref (B + 0), .int a1, .int a2, .ref ob] (gWL s0 D T B X μ cap t ob f) (KC s0 X) (some (.int (kL [0, 3] r.2))) (gWL s0 D T B X r.1 cap t ob (upI f r.2)) (gAo B X ob) 2 12 := by
  refine gMetH_of RL (by decide +kernel) rfl (Nat.le_of_ble_eq_true rfl) ?_
  intro p e s m below meth c ls hx hb hr hlocks hml hown hts htab hW hk hl hS
  have hC := FX_C F hk hx hb hown hts
  have hl : lv_has ls 5 [(0, .ref (B + 0)), (1, .int a1), (2, .int a2), (3, .ref ob)] := hl
  have hS0 : va_S (gA B X) s.heap s.heap [] := va_S.rf
  refine lv_aload_n hx hb dL_minutesByTable_0 rfl (lv_at hl 3 rfl) ?_
  refine lv_iconst (v := 0) hx hb dL_minutesByTable_1 (by decide) ?_
  refine lv_aload_n hx hb dL_minutesByTable_2 rfl (lv_at hl 0 rfl) ?_
  refine lv_iload_n hx hb dL_minutesByTable_3 rfl (lv_at hl 1 rfl) ?_
  refine lv_iload_n hx hb dL_minutesByTable_4 rfl (lv_at hl 2 rfl) ?_
  refine gs_callXV (As := [.int a1, .int a2]) F hX hk hC hml hS0 hW.1 (fun X9 hX9 => metX10_minutesByTable F hX9 is_Ga h) ml_L_44 (gw_recv hC hW.1.1 is_Ga.1 (is_Ga.2.2.1 (gfm s0) T B (μ 0)) rfl) ⟨rfl, rfl, (Nat.le_of_ble_eq_true rfl), (Nat.le_of_ble_eq_true rfl)⟩ rfl hl.1 rfl (Nat.le_of_ble_eq_true rfl) dL_minutesByTable_5 ⟨(Nat.le_of_ble_eq_true rfl), (Nat.le_of_ble_eq_true rfl)⟩ (fun v9 ho H1 locs1 hW1 hS1 => ?_) (fun k9 ho H1 locs1 q9 ce9 hW1 hS1 hce hvm hcl => ?_)
  · obtain ⟨x9, hv9, rfl⟩ := oI_r ho
    refine lv_i2l hx hb dL_minutesByTable_8 rfl ?_
    refine gl_last hC (at_keep hob hW.2 hS1) hS1.gAo (Or.inr rfl) dL_minutesByTable_9 (fun H2 locs2 g1 g2 g3 g4 => ?_)
    refine lv_goto (tgt := 21) hx hb dL_minutesByTable_10 (by decide) ?_
    refine lv_iconst (v := 0) hx hb dL_minutesByTable_21 (by decide) ?_
    have e9 : kL [0, 3] r.2 = 0 := by rw [hv9]; rfl
    rw [e9]
    exact gw_iret hx hb hr hlocks ⟨gWS_keep hX hob hW1 g3, by rw [hv9]; exact g1⟩ g4 (Nat.le_of_eq (Nat.zero_add _)) (Nat.le_of_eq (Nat.zero_add _)) dL_minutesByTable_22
  · have hv9 := oI_l ho
    rcases hL _ hv9 with rfl | rfl
    · refine vx_catch hown [] ⟨0, 10, 13, 21⟩ [⟨0, 10, 17, 30⟩] (htab.trans rfl) (fun z hz => by cases hz) (by decide) (by decide) (hts _ kl_L_21) (FX_cs F hk cs_0) hce hvm hcl ?_
      refine lv_astore hx hb dL_minutesByTable_13 hl (by decide) rfl (fun ls9 hl9 => ?_)
      refine lv_iconst (v := 1) hx hb dL_minutesByTable_15 (by decide) ?_
      have e9 : kL [0, 3] r.2 = 1 := by rw [hv9]; decide
      rw [e9]
      exact gw_iret hx hb hr hlocks ⟨hW1, by rw [hv9]; exact at_keep hob hW.2 hS1⟩ hS1.gAo (Nat.le_of_eq (Nat.zero_add _)) (Nat.le_of_eq (Nat.zero_add _)) dL_minutesByTable_16
    · refine vx_catch hown [⟨0, 10, 13, 21⟩] ⟨0, 10, 17, 30⟩ [] (htab.trans rfl) (fun z hz => by cases List.mem_singleton.mp hz; exact Or.inr ⟨by decide, _, hts _ kl_L_21, FX_nc F hk nc_3_0⟩) (by decide) (by decide) (hts _ kl_L_30) (FX_cs F hk cs_3) hce hvm hcl ?_
      refine lv_astore hx hb dL_minutesByTable_17 hl (by decide) rfl (fun ls9 hl9 => ?_)
      refine lv_iconst (v := 2) hx hb dL_minutesByTable_19 (by decide) ?_
      have e9 : kL [0, 3] r.2 = 2 := by rw [hv9]; decide
      rw [e9]
      exact gw_iret hx hb hr hlocks ⟨hW1, by rw [hv9]; exact at_keep hob hW.2 hS1⟩ hS1.gAo (Nat.le_of_eq (Nat.zero_add _)) (Nat.le_of_eq (Nat.zero_add _)) dL_minutesByTable_20
theorem dL_wayLegs_0 : decode cL_wayLegs 0 = .ok (.aload_n 3, 1) := by decide +kernel
theorem dL_wayLegs_1 : decode cL_wayLegs 1 = .ok (.iconst 0, 1) := by decide +kernel
theorem dL_wayLegs_2 : decode cL_wayLegs 2 = .ok (.aload_n 0, 1) := by decide +kernel
theorem dL_wayLegs_3 : decode cL_wayLegs 3 = .ok (.iload_n 1, 1) := by decide +kernel
theorem dL_wayLegs_4 : decode cL_wayLegs 4 = .ok (.iload_n 2, 1) := by decide +kernel
theorem dL_wayLegs_5 : decode cL_wayLegs 5 = .ok (.invokevirtual 47, 3) := by decide +kernel
theorem dL_wayLegs_8 : decode cL_wayLegs 8 = .ok (.i2l, 1) := by decide +kernel
theorem dL_wayLegs_9 : decode cL_wayLegs 9 = .ok (.lastore, 1) := by decide +kernel
theorem dL_wayLegs_10 : decode cL_wayLegs 10 = .ok (.goto 11, 3) := by decide +kernel
theorem dL_wayLegs_13 : decode cL_wayLegs 13 = .ok (.astore 4, 2) := by decide +kernel
theorem dL_wayLegs_15 : decode cL_wayLegs 15 = .ok (.iconst 1, 1) := by decide +kernel
theorem dL_wayLegs_16 : decode cL_wayLegs 16 = .ok (.ireturn, 1) := by decide +kernel
theorem dL_wayLegs_17 : decode cL_wayLegs 17 = .ok (.astore 4, 2) := by decide +kernel
theorem dL_wayLegs_19 : decode cL_wayLegs 19 = .ok (.iconst 2, 1) := by decide +kernel
theorem dL_wayLegs_20 : decode cL_wayLegs 20 = .ok (.ireturn, 1) := by decide +kernel
theorem dL_wayLegs_21 : decode cL_wayLegs 21 = .ok (.iconst 0, 1) := by decide +kernel
theorem dL_wayLegs_22 : decode cL_wayLegs 22 = .ok (.ireturn, 1) := by decide +kernel
theorem ml_L_47 : gMV RL 47 yX10_wayLegs cX10_wayLegs 3 (some .int) 2 := ⟨⟨wg_t 856 (by decide +kernel) (by decide +kernel), wg_t 859 (by decide +kernel) (by decide +kernel), wg_t 1 (by decide +kernel) (by decide +kernel), by decide +kernel⟩, wg_t 857 (by decide +kernel) (by decide +kernel), wg_t 858 (by decide +kernel) (by decide +kernel)⟩
abbrev hhL_wayLegs : List (Nat × Nat × Nat × Nat) := [(0, 10, 13, 21), (0, 10, 17, 30)]
theorem mw_L_231 : gML RL 231 yL_wayLegs cL_wayLegs 5 hhL_wayLegs 4 := ⟨wg_t 853 (by decide +kernel) (by decide +kernel), wg_t 855 (by decide +kernel) (by decide +kernel), wg_t 0 (by decide +kernel) (by decide +kernel), by decide +kernel, wg_t 854 (by decide +kernel) (by decide +kernel)⟩
abbrev rmL_wayLegs : Room := { frames := 8, cells := 2, slots := 12, locals := 178 }
set_option maxHeartbeats 4000000 in
set_option maxRecDepth 100000 in
theorem metL_wayLegs {l : Launch} {s0 : State} {b B : Nat} {D : va_G} {T : Nat → ClassId} (F : FX l s0 b D T B) {X : Nat → Prop} (hX : ∀ o, o < 561 → ¬ X (B + o)) {ob : Nat} (hob : X ob) {f : Nat → Int64} {N : Nat} {μ : Mem} {cap : Nat} {t : List Nat} {a1 : Int32} {a2 : Int32} {r : Mem × (Nat ⊕ Int32)} (h : fX10_wayLegs N μ 0 a1 a2 = some r) (hL : ∀ k, r.2 = .inl k → k = 0 ∨ k = 3) : gMetH l yL_wayLegs cL_wayLegs 5 hhL_wayLegs rmL_wayLegs [.ref (B + 0), .int a1, .int a2, .ref ob] (gWL s0 D T B X μ cap t ob f) (KC s0 X) (some (.int (kL [0, 3] r.2))) (gWL s0 D T B X r.1 cap t ob (upI f r.2)) (gAo B X ob) 2 12 := by
  refine gMetH_of RL (by decide +kernel) rfl (Nat.le_of_ble_eq_true rfl) ?_
  intro p e s m below meth c ls hx hb hr hlocks hml hown hts htab hW hk hl hS
  have hC := FX_C F hk hx hb hown hts
  have hl : lv_has ls 5 [(0, .ref (B + 0)), (1, .int a1), (2, .int a2), (3, .ref ob)] := hl
  have hS0 : va_S (gA B X) s.heap s.heap [] := va_S.rf
  refine lv_aload_n hx hb dL_wayLegs_0 rfl (lv_at hl 3 rfl) ?_
  refine lv_iconst (v := 0) hx hb dL_wayLegs_1 (by decide) ?_
  refine lv_aload_n hx hb dL_wayLegs_2 rfl (lv_at hl 0 rfl) ?_
  refine lv_iload_n hx hb dL_wayLegs_3 rfl (lv_at hl 1 rfl) ?_
  refine lv_iload_n hx hb dL_wayLegs_4 rfl (lv_at hl 2 rfl) ?_
  refine gs_callXV (As := [.int a1, .int a2]) F hX hk hC hml hS0 hW.1 (fun X9 hX9 => metX10_wayLegs F hX9 is_Ga h) ml_L_47 (gw_recv hC hW.1.1 is_Ga.1 (is_Ga.2.2.1 (gfm s0) T B (μ 0)) rfl) ⟨rfl, rfl, (Nat.le_of_ble_eq_true rfl), (Nat.le_of_ble_eq_true rfl)⟩ rfl hl.1 rfl (Nat.le_of_ble_eq_true rfl) dL_wayLegs_5 ⟨(Nat.le_of_ble_eq_true rfl), (Nat.le_of_ble_eq_true rfl)⟩ (fun v9 ho H1 locs1 hW1 hS1 => ?_) (fun k9 ho H1 locs1 q9 ce9 hW1 hS1 hce hvm hcl => ?_)
  · obtain ⟨x9, hv9, rfl⟩ := oI_r ho
    refine lv_i2l hx hb dL_wayLegs_8 rfl ?_
    refine gl_last hC (at_keep hob hW.2 hS1) hS1.gAo (Or.inr rfl) dL_wayLegs_9 (fun H2 locs2 g1 g2 g3 g4 => ?_)
    refine lv_goto (tgt := 21) hx hb dL_wayLegs_10 (by decide) ?_
    refine lv_iconst (v := 0) hx hb dL_wayLegs_21 (by decide) ?_
    have e9 : kL [0, 3] r.2 = 0 := by rw [hv9]; rfl
    rw [e9]
    exact gw_iret hx hb hr hlocks ⟨gWS_keep hX hob hW1 g3, by rw [hv9]; exact g1⟩ g4 (Nat.le_of_eq (Nat.zero_add _)) (Nat.le_of_eq (Nat.zero_add _)) dL_wayLegs_22
  · have hv9 := oI_l ho
    rcases hL _ hv9 with rfl | rfl
    · refine vx_catch hown [] ⟨0, 10, 13, 21⟩ [⟨0, 10, 17, 30⟩] (htab.trans rfl) (fun z hz => by cases hz) (by decide) (by decide) (hts _ kl_L_21) (FX_cs F hk cs_0) hce hvm hcl ?_
      refine lv_astore hx hb dL_wayLegs_13 hl (by decide) rfl (fun ls9 hl9 => ?_)
      refine lv_iconst (v := 1) hx hb dL_wayLegs_15 (by decide) ?_
      have e9 : kL [0, 3] r.2 = 1 := by rw [hv9]; decide
      rw [e9]
      exact gw_iret hx hb hr hlocks ⟨hW1, by rw [hv9]; exact at_keep hob hW.2 hS1⟩ hS1.gAo (Nat.le_of_eq (Nat.zero_add _)) (Nat.le_of_eq (Nat.zero_add _)) dL_wayLegs_16
    · refine vx_catch hown [⟨0, 10, 13, 21⟩] ⟨0, 10, 17, 30⟩ [] (htab.trans rfl) (fun z hz => by cases List.mem_singleton.mp hz; exact Or.inr ⟨by decide, _, hts _ kl_L_21, FX_nc F hk nc_3_0⟩) (by decide) (by decide) (hts _ kl_L_30) (FX_cs F hk cs_3) hce hvm hcl ?_
      refine lv_astore hx hb dL_wayLegs_17 hl (by decide) rfl (fun ls9 hl9 => ?_)
      refine lv_iconst (v := 2) hx hb dL_wayLegs_19 (by decide) ?_
      have e9 : kL [0, 3] r.2 = 2 := by rw [hv9]; decide
      rw [e9]
      exact gw_iret hx hb hr hlocks ⟨hW1, by rw [hv9]; exact at_keep hob hW.2 hS1⟩ hS1.gAo (Nat.le_of_eq (Nat.zero_add _)) (Nat.le_of_eq (Nat.zero_add _)) dL_wayLegs_20
theorem dL_wayRoom_0 : decode cL_wayRoom 0 = .ok (.aload 4, 2) := by decide +kernel
theorem dL_wayRoom_2 : decode cL_wayRoom 2 = .ok (.iconst 0, 1) := by decide +kernel
theorem dL_wayRoom_3 : decode cL_wayRoom 3 = .ok (.aload_n 0, 1) := by decide +kernel
theorem dL_wayRoom_4 : decode cL_wayRoom 4 = .ok (.iload_n 1, 1) := by decide +kernel
theorem dL_wayRoom_5 : decode cL_wayRoom 5 = .ok (.iload_n 2, 1) := by decide +kernel
theorem dL_wayRoom_6 : decode cL_wayRoom 6 = .ok (.iload_n 3, 1) := by decide +kernel
theorem dL_wayRoom_7 : decode cL_wayRoom 7 = .ok (.invokevirtual 50, 3) := by decide +kernel
theorem dL_wayRoom_10 : decode cL_wayRoom 10 = .ok (.i2l, 1) := by decide +kernel
theorem dL_wayRoom_11 : decode cL_wayRoom 11 = .ok (.lastore, 1) := by decide +kernel
theorem dL_wayRoom_12 : decode cL_wayRoom 12 = .ok (.goto 11, 3) := by decide +kernel
theorem dL_wayRoom_15 : decode cL_wayRoom 15 = .ok (.astore 5, 2) := by decide +kernel
theorem dL_wayRoom_17 : decode cL_wayRoom 17 = .ok (.iconst 1, 1) := by decide +kernel
theorem dL_wayRoom_18 : decode cL_wayRoom 18 = .ok (.ireturn, 1) := by decide +kernel
theorem dL_wayRoom_19 : decode cL_wayRoom 19 = .ok (.astore 5, 2) := by decide +kernel
theorem dL_wayRoom_21 : decode cL_wayRoom 21 = .ok (.iconst 2, 1) := by decide +kernel
theorem dL_wayRoom_22 : decode cL_wayRoom 22 = .ok (.ireturn, 1) := by decide +kernel
theorem dL_wayRoom_23 : decode cL_wayRoom 23 = .ok (.iconst 0, 1) := by decide +kernel
theorem dL_wayRoom_24 : decode cL_wayRoom 24 = .ok (.ireturn, 1) := by decide +kernel
theorem ml_L_50 : gMV RL 50 yX10_wayRoom cX10_wayRoom 4 (some .int) 3 := ⟨⟨wg_t 875 (by decide +kernel) (by decide +kernel), wg_t 878 (by decide +kernel) (by decide +kernel), wg_t 1 (by decide +kernel) (by decide +kernel), by decide +kernel⟩, wg_t 876 (by decide +kernel) (by decide +kernel), wg_t 877 (by decide +kernel) (by decide +kernel)⟩
abbrev hhL_wayRoom : List (Nat × Nat × Nat × Nat) := [(0, 12, 15, 21), (0, 12, 19, 30)]
theorem mw_L_234 : gML RL 234 yL_wayRoom cL_wayRoom 6 hhL_wayRoom 5 := ⟨wg_t 872 (by decide +kernel) (by decide +kernel), wg_t 874 (by decide +kernel) (by decide +kernel), wg_t 0 (by decide +kernel) (by decide +kernel), by decide +kernel, wg_t 873 (by decide +kernel) (by decide +kernel)⟩
abbrev rmL_wayRoom : Room := { frames := 8, cells := 3, slots := 18, locals := 179 }
set_option maxHeartbeats 4000000 in
set_option maxRecDepth 100000 in
theorem metL_wayRoom {l : Launch} {s0 : State} {b B : Nat} {D : va_G} {T : Nat → ClassId} (F : FX l s0 b D T B) {X : Nat → Prop} (hX : ∀ o, o < 561 → ¬ X (B + o)) {ob : Nat} (hob : X ob) {f : Nat → Int64} {N : Nat} {μ : Mem} {cap : Nat} {t : List Nat} {a1 : Int32} {a2 : Int32} {a3 : Int32} {r : Mem × (Nat ⊕ Int32)} (h : fX10_wayRoom N μ 0 a1 a2 a3 = some r) (hL : ∀ k, r.2 = .inl k → k = 0 ∨ k = 3) : gMetH l yL_wayRoom cL_wayRoom 6 hhL_wayRoom rmL_wayRoom [.ref (B + 0), .int a1, .int a2, .int a3, .ref ob] (gWL s0 D T B X μ cap t ob f) (KC s0 X) (some (.int (kL [0, 3] r.2))) (gWL s0 D T B X r.1 cap t ob (upI f r.2)) (gAo B X ob) 3 18 := by
  refine gMetH_of RL (by decide +kernel) rfl (Nat.le_of_ble_eq_true rfl) ?_
  intro p e s m below meth c ls hx hb hr hlocks hml hown hts htab hW hk hl hS
  have hC := FX_C F hk hx hb hown hts
  have hl : lv_has ls 6 [(0, .ref (B + 0)), (1, .int a1), (2, .int a2), (3, .int a3), (4, .ref ob)] := hl
  have hS0 : va_S (gA B X) s.heap s.heap [] := va_S.rf
  refine lv_aload hx hb dL_wayRoom_0 (lv_at hl 4 rfl) ?_
  refine lv_iconst (v := 0) hx hb dL_wayRoom_2 (by decide) ?_
  refine lv_aload_n hx hb dL_wayRoom_3 rfl (lv_at hl 0 rfl) ?_
  refine lv_iload_n hx hb dL_wayRoom_4 rfl (lv_at hl 1 rfl) ?_
  refine lv_iload_n hx hb dL_wayRoom_5 rfl (lv_at hl 2 rfl) ?_
  refine lv_iload_n hx hb dL_wayRoom_6 rfl (lv_at hl 3 rfl) ?_
  refine gs_callXV (As := [.int a1, .int a2, .int a3]) F hX hk hC hml hS0 hW.1 (fun X9 hX9 => metX10_wayRoom F hX9 is_Ga h) ml_L_50 (gw_recv hC hW.1.1 is_Ga.1 (is_Ga.2.2.1 (gfm s0) T B (μ 0)) rfl) ⟨rfl, rfl, (Nat.le_of_ble_eq_true rfl), (Nat.le_of_ble_eq_true rfl)⟩ rfl hl.1 rfl (Nat.le_of_ble_eq_true rfl) dL_wayRoom_7 ⟨(Nat.le_of_ble_eq_true rfl), (Nat.le_of_ble_eq_true rfl)⟩ (fun v9 ho H1 locs1 hW1 hS1 => ?_) (fun k9 ho H1 locs1 q9 ce9 hW1 hS1 hce hvm hcl => ?_)
  · obtain ⟨x9, hv9, rfl⟩ := oI_r ho
    refine lv_i2l hx hb dL_wayRoom_10 rfl ?_
    refine gl_last hC (at_keep hob hW.2 hS1) hS1.gAo (Or.inr rfl) dL_wayRoom_11 (fun H2 locs2 g1 g2 g3 g4 => ?_)
    refine lv_goto (tgt := 23) hx hb dL_wayRoom_12 (by decide) ?_
    refine lv_iconst (v := 0) hx hb dL_wayRoom_23 (by decide) ?_
    have e9 : kL [0, 3] r.2 = 0 := by rw [hv9]; rfl
    rw [e9]
    exact gw_iret hx hb hr hlocks ⟨gWS_keep hX hob hW1 g3, by rw [hv9]; exact g1⟩ g4 (Nat.le_of_eq (Nat.zero_add _)) (Nat.le_of_eq (Nat.zero_add _)) dL_wayRoom_24
  · have hv9 := oI_l ho
    rcases hL _ hv9 with rfl | rfl
    · refine vx_catch hown [] ⟨0, 12, 15, 21⟩ [⟨0, 12, 19, 30⟩] (htab.trans rfl) (fun z hz => by cases hz) (by decide) (by decide) (hts _ kl_L_21) (FX_cs F hk cs_0) hce hvm hcl ?_
      refine lv_astore hx hb dL_wayRoom_15 hl (by decide) rfl (fun ls9 hl9 => ?_)
      refine lv_iconst (v := 1) hx hb dL_wayRoom_17 (by decide) ?_
      have e9 : kL [0, 3] r.2 = 1 := by rw [hv9]; decide
      rw [e9]
      exact gw_iret hx hb hr hlocks ⟨hW1, by rw [hv9]; exact at_keep hob hW.2 hS1⟩ hS1.gAo (Nat.le_of_eq (Nat.zero_add _)) (Nat.le_of_eq (Nat.zero_add _)) dL_wayRoom_18
    · refine vx_catch hown [⟨0, 12, 15, 21⟩] ⟨0, 12, 19, 30⟩ [] (htab.trans rfl) (fun z hz => by cases List.mem_singleton.mp hz; exact Or.inr ⟨by decide, _, hts _ kl_L_21, FX_nc F hk nc_3_0⟩) (by decide) (by decide) (hts _ kl_L_30) (FX_cs F hk cs_3) hce hvm hcl ?_
      refine lv_astore hx hb dL_wayRoom_19 hl (by decide) rfl (fun ls9 hl9 => ?_)
      refine lv_iconst (v := 2) hx hb dL_wayRoom_21 (by decide) ?_
      have e9 : kL [0, 3] r.2 = 2 := by rw [hv9]; decide
      rw [e9]
      exact gw_iret hx hb hr hlocks ⟨hW1, by rw [hv9]; exact at_keep hob hW.2 hS1⟩ hS1.gAo (Nat.le_of_eq (Nat.zero_add _)) (Nat.le_of_eq (Nat.zero_add _)) dL_wayRoom_22
theorem dL_addExhibit_0 : decode cL_addExhibit 0 = .ok (.aload_n 3, 1) := by decide +kernel
theorem dL_addExhibit_1 : decode cL_addExhibit 1 = .ok (.iconst 0, 1) := by decide +kernel
theorem dL_addExhibit_2 : decode cL_addExhibit 2 = .ok (.aload_n 0, 1) := by decide +kernel
theorem dL_addExhibit_3 : decode cL_addExhibit 3 = .ok (.iload_n 1, 1) := by decide +kernel
theorem dL_addExhibit_4 : decode cL_addExhibit 4 = .ok (.iload_n 2, 1) := by decide +kernel
theorem dL_addExhibit_5 : decode cL_addExhibit 5 = .ok (.invokevirtual 54, 3) := by decide +kernel
theorem dL_addExhibit_8 : decode cL_addExhibit 8 = .ok (.i2l, 1) := by decide +kernel
theorem dL_addExhibit_9 : decode cL_addExhibit 9 = .ok (.lastore, 1) := by decide +kernel
theorem dL_addExhibit_10 : decode cL_addExhibit 10 = .ok (.goto 15, 3) := by decide +kernel
theorem dL_addExhibit_13 : decode cL_addExhibit 13 = .ok (.astore 4, 2) := by decide +kernel
theorem dL_addExhibit_15 : decode cL_addExhibit 15 = .ok (.iconst 1, 1) := by decide +kernel
theorem dL_addExhibit_16 : decode cL_addExhibit 16 = .ok (.ireturn, 1) := by decide +kernel
theorem dL_addExhibit_17 : decode cL_addExhibit 17 = .ok (.astore 4, 2) := by decide +kernel
theorem dL_addExhibit_19 : decode cL_addExhibit 19 = .ok (.iconst 2, 1) := by decide +kernel
theorem dL_addExhibit_20 : decode cL_addExhibit 20 = .ok (.ireturn, 1) := by decide +kernel
theorem dL_addExhibit_21 : decode cL_addExhibit 21 = .ok (.astore 4, 2) := by decide +kernel
theorem dL_addExhibit_23 : decode cL_addExhibit 23 = .ok (.iconst 3, 1) := by decide +kernel
theorem dL_addExhibit_24 : decode cL_addExhibit 24 = .ok (.ireturn, 1) := by decide +kernel
theorem dL_addExhibit_25 : decode cL_addExhibit 25 = .ok (.iconst 0, 1) := by decide +kernel
theorem dL_addExhibit_26 : decode cL_addExhibit 26 = .ok (.ireturn, 1) := by decide +kernel
theorem ml_L_54 : gMV RL 54 yX10_addExhibit cX10_addExhibit 3 (some .int) 2 := ⟨⟨wg_t 883 (by decide +kernel) (by decide +kernel), wg_t 886 (by decide +kernel) (by decide +kernel), wg_t 1 (by decide +kernel) (by decide +kernel), by decide +kernel⟩, wg_t 884 (by decide +kernel) (by decide +kernel), wg_t 885 (by decide +kernel) (by decide +kernel)⟩
abbrev hhL_addExhibit : List (Nat × Nat × Nat × Nat) := [(0, 10, 13, 21), (0, 10, 17, 13), (0, 10, 21, 15)]
theorem mw_L_238 : gML RL 238 yL_addExhibit cL_addExhibit 5 hhL_addExhibit 4 := ⟨wg_t 880 (by decide +kernel) (by decide +kernel), wg_t 882 (by decide +kernel) (by decide +kernel), wg_t 0 (by decide +kernel) (by decide +kernel), by decide +kernel, wg_t 881 (by decide +kernel) (by decide +kernel)⟩
abbrev rmL_addExhibit : Room := { frames := 8, cells := 1, slots := 6, locals := 166 }
set_option maxHeartbeats 4000000 in
set_option maxRecDepth 100000 in
theorem metL_addExhibit {l : Launch} {s0 : State} {b B : Nat} {D : va_G} {T : Nat → ClassId} (F : FX l s0 b D T B) {X : Nat → Prop} (hX : ∀ o, o < 561 → ¬ X (B + o)) {ob : Nat} (hob : X ob) {f : Nat → Int64} {N : Nat} {μ : Mem} {cap : Nat} {t : List Nat} {a1 : Int32} {a2 : Int32} {r : Mem × (Nat ⊕ Int32)} (h : fX10_addExhibit N μ 0 a1 a2 = some r) (hL : ∀ k, r.2 = .inl k → k = 0 ∨ k = 1 ∨ k = 2) : gMetH l yL_addExhibit cL_addExhibit 5 hhL_addExhibit rmL_addExhibit [.ref (B + 0), .int a1, .int a2, .ref ob] (gWL s0 D T B X μ cap t ob f) (KC s0 X) (some (.int (kL [0, 1, 2] r.2))) (gWL s0 D T B X r.1 cap t ob (upI f r.2)) (gAo B X ob) 1 6 := by
  refine gMetH_of RL (by decide +kernel) rfl (Nat.le_of_ble_eq_true rfl) ?_
  intro p e s m below meth c ls hx hb hr hlocks hml hown hts htab hW hk hl hS
  have hC := FX_C F hk hx hb hown hts
  have hl : lv_has ls 5 [(0, .ref (B + 0)), (1, .int a1), (2, .int a2), (3, .ref ob)] := hl
  have hS0 : va_S (gA B X) s.heap s.heap [] := va_S.rf
  refine lv_aload_n hx hb dL_addExhibit_0 rfl (lv_at hl 3 rfl) ?_
  refine lv_iconst (v := 0) hx hb dL_addExhibit_1 (by decide) ?_
  refine lv_aload_n hx hb dL_addExhibit_2 rfl (lv_at hl 0 rfl) ?_
  refine lv_iload_n hx hb dL_addExhibit_3 rfl (lv_at hl 1 rfl) ?_
  refine lv_iload_n hx hb dL_addExhibit_4 rfl (lv_at hl 2 rfl) ?_
  refine gs_callXV (As := [.int a1, .int a2]) F hX hk hC hml hS0 hW.1 (fun X9 hX9 => metX10_addExhibit F hX9 is_Ga h) ml_L_54 (gw_recv hC hW.1.1 is_Ga.1 (is_Ga.2.2.1 (gfm s0) T B (μ 0)) rfl) ⟨rfl, rfl, (Nat.le_of_ble_eq_true rfl), (Nat.le_of_ble_eq_true rfl)⟩ rfl hl.1 rfl (Nat.le_of_ble_eq_true rfl) dL_addExhibit_5 ⟨(Nat.le_of_ble_eq_true rfl), (Nat.le_of_ble_eq_true rfl)⟩ (fun v9 ho H1 locs1 hW1 hS1 => ?_) (fun k9 ho H1 locs1 q9 ce9 hW1 hS1 hce hvm hcl => ?_)
  · obtain ⟨x9, hv9, rfl⟩ := oI_r ho
    refine lv_i2l hx hb dL_addExhibit_8 rfl ?_
    refine gl_last hC (at_keep hob hW.2 hS1) hS1.gAo (Or.inr rfl) dL_addExhibit_9 (fun H2 locs2 g1 g2 g3 g4 => ?_)
    refine lv_goto (tgt := 25) hx hb dL_addExhibit_10 (by decide) ?_
    refine lv_iconst (v := 0) hx hb dL_addExhibit_25 (by decide) ?_
    have e9 : kL [0, 1, 2] r.2 = 0 := by rw [hv9]; rfl
    rw [e9]
    exact gw_iret hx hb hr hlocks ⟨gWS_keep hX hob hW1 g3, by rw [hv9]; exact g1⟩ g4 (Nat.le_of_eq (Nat.zero_add _)) (Nat.le_of_eq (Nat.zero_add _)) dL_addExhibit_26
  · have hv9 := oI_l ho
    rcases hL _ hv9 with rfl | rfl | rfl
    · refine vx_catch hown [] ⟨0, 10, 13, 21⟩ [⟨0, 10, 17, 13⟩, ⟨0, 10, 21, 15⟩] (htab.trans rfl) (fun z hz => by cases hz) (by decide) (by decide) (hts _ kl_L_21) (FX_cs F hk cs_0) hce hvm hcl ?_
      refine lv_astore hx hb dL_addExhibit_13 hl (by decide) rfl (fun ls9 hl9 => ?_)
      refine lv_iconst (v := 1) hx hb dL_addExhibit_15 (by decide) ?_
      have e9 : kL [0, 1, 2] r.2 = 1 := by rw [hv9]; decide
      rw [e9]
      exact gw_iret hx hb hr hlocks ⟨hW1, by rw [hv9]; exact at_keep hob hW.2 hS1⟩ hS1.gAo (Nat.le_of_eq (Nat.zero_add _)) (Nat.le_of_eq (Nat.zero_add _)) dL_addExhibit_16
    · refine vx_catch hown [⟨0, 10, 13, 21⟩] ⟨0, 10, 17, 13⟩ [⟨0, 10, 21, 15⟩] (htab.trans rfl) (fun z hz => by cases List.mem_singleton.mp hz; exact Or.inr ⟨by decide, _, hts _ kl_L_21, FX_nc F hk nc_1_0⟩) (by decide) (by decide) (hts _ kl_L_13) (FX_cs F hk cs_1) hce hvm hcl ?_
      refine lv_astore hx hb dL_addExhibit_17 hl (by decide) rfl (fun ls9 hl9 => ?_)
      refine lv_iconst (v := 2) hx hb dL_addExhibit_19 (by decide) ?_
      have e9 : kL [0, 1, 2] r.2 = 2 := by rw [hv9]; decide
      rw [e9]
      exact gw_iret hx hb hr hlocks ⟨hW1, by rw [hv9]; exact at_keep hob hW.2 hS1⟩ hS1.gAo (Nat.le_of_eq (Nat.zero_add _)) (Nat.le_of_eq (Nat.zero_add _)) dL_addExhibit_20
    · refine vx_catch hown [⟨0, 10, 13, 21⟩, ⟨0, 10, 17, 13⟩] ⟨0, 10, 21, 15⟩ [] (htab.trans rfl) (fun z hz => by
        rcases List.mem_cons.mp hz with rfl | hz
        · exact Or.inr ⟨by decide, _, hts _ kl_L_21, FX_nc F hk nc_2_0⟩
        · cases List.mem_singleton.mp hz; exact Or.inr ⟨by decide, _, hts _ kl_L_13, FX_nc F hk nc_2_1⟩) (by decide) (by decide) (hts _ kl_L_15) (FX_cs F hk cs_2) hce hvm hcl ?_
      refine lv_astore hx hb dL_addExhibit_21 hl (by decide) rfl (fun ls9 hl9 => ?_)
      refine lv_iconst (v := 3) hx hb dL_addExhibit_23 (by decide) ?_
      have e9 : kL [0, 1, 2] r.2 = 3 := by rw [hv9]; decide
      rw [e9]
      exact gw_iret hx hb hr hlocks ⟨hW1, by rw [hv9]; exact at_keep hob hW.2 hS1⟩ hS1.gAo (Nat.le_of_eq (Nat.zero_add _)) (Nat.le_of_eq (Nat.zero_add _)) dL_addExhibit_24
theorem dL_setLimit_0 : decode cL_setLimit 0 = .ok (.aload_n 3, 1) := by decide +kernel
theorem dL_setLimit_1 : decode cL_setLimit 1 = .ok (.iconst 0, 1) := by decide +kernel
theorem dL_setLimit_2 : decode cL_setLimit 2 = .ok (.aload_n 0, 1) := by decide +kernel
theorem dL_setLimit_3 : decode cL_setLimit 3 = .ok (.iload_n 1, 1) := by decide +kernel
theorem dL_setLimit_4 : decode cL_setLimit 4 = .ok (.iload_n 2, 1) := by decide +kernel
theorem dL_setLimit_5 : decode cL_setLimit 5 = .ok (.invokevirtual 57, 3) := by decide +kernel
theorem dL_setLimit_8 : decode cL_setLimit 8 = .ok (.i2l, 1) := by decide +kernel
theorem dL_setLimit_9 : decode cL_setLimit 9 = .ok (.lastore, 1) := by decide +kernel
theorem dL_setLimit_10 : decode cL_setLimit 10 = .ok (.goto 11, 3) := by decide +kernel
theorem dL_setLimit_13 : decode cL_setLimit 13 = .ok (.astore 4, 2) := by decide +kernel
theorem dL_setLimit_15 : decode cL_setLimit 15 = .ok (.iconst 1, 1) := by decide +kernel
theorem dL_setLimit_16 : decode cL_setLimit 16 = .ok (.ireturn, 1) := by decide +kernel
theorem dL_setLimit_17 : decode cL_setLimit 17 = .ok (.astore 4, 2) := by decide +kernel
theorem dL_setLimit_19 : decode cL_setLimit 19 = .ok (.iconst 2, 1) := by decide +kernel
theorem dL_setLimit_20 : decode cL_setLimit 20 = .ok (.ireturn, 1) := by decide +kernel
theorem dL_setLimit_21 : decode cL_setLimit 21 = .ok (.iconst 0, 1) := by decide +kernel
theorem dL_setLimit_22 : decode cL_setLimit 22 = .ok (.ireturn, 1) := by decide +kernel
theorem ml_L_57 : gMV RL 57 yX10_setLimit cX10_setLimit 5 (some .int) 2 := ⟨⟨wg_t 898 (by decide +kernel) (by decide +kernel), wg_t 901 (by decide +kernel) (by decide +kernel), wg_t 1 (by decide +kernel) (by decide +kernel), by decide +kernel⟩, wg_t 899 (by decide +kernel) (by decide +kernel), wg_t 900 (by decide +kernel) (by decide +kernel)⟩
abbrev hhL_setLimit : List (Nat × Nat × Nat × Nat) := [(0, 10, 13, 21), (0, 10, 17, 13)]
theorem mw_L_241 : gML RL 241 yL_setLimit cL_setLimit 5 hhL_setLimit 4 := ⟨wg_t 895 (by decide +kernel) (by decide +kernel), wg_t 897 (by decide +kernel) (by decide +kernel), wg_t 0 (by decide +kernel) (by decide +kernel), by decide +kernel, wg_t 896 (by decide +kernel) (by decide +kernel)⟩
abbrev rmL_setLimit : Room := { frames := 8, cells := 2, slots := 12, locals := 168 }
set_option maxHeartbeats 4000000 in
set_option maxRecDepth 100000 in
theorem metL_setLimit {l : Launch} {s0 : State} {b B : Nat} {D : va_G} {T : Nat → ClassId} (F : FX l s0 b D T B) {X : Nat → Prop} (hX : ∀ o, o < 561 → ¬ X (B + o)) {ob : Nat} (hob : X ob) {f : Nat → Int64} {N : Nat} {μ : Mem} {cap : Nat} {t : List Nat} {a1 : Int32} {a2 : Int32} {r : Mem × (Nat ⊕ Int32)} (h : fX10_setLimit N μ 0 a1 a2 = some r) (hL : ∀ k, r.2 = .inl k → k = 0 ∨ k = 1) : gMetH l yL_setLimit cL_setLimit 5 hhL_setLimit rmL_setLimit [.ref (B + 0), .int a1, .int a2, .ref ob] (gWL s0 D T B X μ cap t ob f) (KC s0 X) (some (.int (kL [0, 1] r.2))) (gWL s0 D T B X r.1 cap t ob (upI f r.2)) (gAo B X ob) 2 12 := by
  refine gMetH_of RL (by decide +kernel) rfl (Nat.le_of_ble_eq_true rfl) ?_
  intro p e s m below meth c ls hx hb hr hlocks hml hown hts htab hW hk hl hS
  have hC := FX_C F hk hx hb hown hts
  have hl : lv_has ls 5 [(0, .ref (B + 0)), (1, .int a1), (2, .int a2), (3, .ref ob)] := hl
  have hS0 : va_S (gA B X) s.heap s.heap [] := va_S.rf
  refine lv_aload_n hx hb dL_setLimit_0 rfl (lv_at hl 3 rfl) ?_
  refine lv_iconst (v := 0) hx hb dL_setLimit_1 (by decide) ?_
  refine lv_aload_n hx hb dL_setLimit_2 rfl (lv_at hl 0 rfl) ?_
  refine lv_iload_n hx hb dL_setLimit_3 rfl (lv_at hl 1 rfl) ?_
  refine lv_iload_n hx hb dL_setLimit_4 rfl (lv_at hl 2 rfl) ?_
  refine gs_callXV (As := [.int a1, .int a2]) F hX hk hC hml hS0 hW.1 (fun X9 hX9 => metX10_setLimit F hX9 is_Ga h) ml_L_57 (gw_recv hC hW.1.1 is_Ga.1 (is_Ga.2.2.1 (gfm s0) T B (μ 0)) rfl) ⟨rfl, rfl, (Nat.le_of_ble_eq_true rfl), (Nat.le_of_ble_eq_true rfl)⟩ rfl hl.1 rfl (Nat.le_of_ble_eq_true rfl) dL_setLimit_5 ⟨(Nat.le_of_ble_eq_true rfl), (Nat.le_of_ble_eq_true rfl)⟩ (fun v9 ho H1 locs1 hW1 hS1 => ?_) (fun k9 ho H1 locs1 q9 ce9 hW1 hS1 hce hvm hcl => ?_)
  · obtain ⟨x9, hv9, rfl⟩ := oI_r ho
    refine lv_i2l hx hb dL_setLimit_8 rfl ?_
    refine gl_last hC (at_keep hob hW.2 hS1) hS1.gAo (Or.inr rfl) dL_setLimit_9 (fun H2 locs2 g1 g2 g3 g4 => ?_)
    refine lv_goto (tgt := 21) hx hb dL_setLimit_10 (by decide) ?_
    refine lv_iconst (v := 0) hx hb dL_setLimit_21 (by decide) ?_
    have e9 : kL [0, 1] r.2 = 0 := by rw [hv9]; rfl
    rw [e9]
    exact gw_iret hx hb hr hlocks ⟨gWS_keep hX hob hW1 g3, by rw [hv9]; exact g1⟩ g4 (Nat.le_of_eq (Nat.zero_add _)) (Nat.le_of_eq (Nat.zero_add _)) dL_setLimit_22
  · have hv9 := oI_l ho
    rcases hL _ hv9 with rfl | rfl
    · refine vx_catch hown [] ⟨0, 10, 13, 21⟩ [⟨0, 10, 17, 13⟩] (htab.trans rfl) (fun z hz => by cases hz) (by decide) (by decide) (hts _ kl_L_21) (FX_cs F hk cs_0) hce hvm hcl ?_
      refine lv_astore hx hb dL_setLimit_13 hl (by decide) rfl (fun ls9 hl9 => ?_)
      refine lv_iconst (v := 1) hx hb dL_setLimit_15 (by decide) ?_
      have e9 : kL [0, 1] r.2 = 1 := by rw [hv9]; decide
      rw [e9]
      exact gw_iret hx hb hr hlocks ⟨hW1, by rw [hv9]; exact at_keep hob hW.2 hS1⟩ hS1.gAo (Nat.le_of_eq (Nat.zero_add _)) (Nat.le_of_eq (Nat.zero_add _)) dL_setLimit_16
    · refine vx_catch hown [⟨0, 10, 13, 21⟩] ⟨0, 10, 17, 13⟩ [] (htab.trans rfl) (fun z hz => by cases List.mem_singleton.mp hz; exact Or.inr ⟨by decide, _, hts _ kl_L_21, FX_nc F hk nc_1_0⟩) (by decide) (by decide) (hts _ kl_L_13) (FX_cs F hk cs_1) hce hvm hcl ?_
      refine lv_astore hx hb dL_setLimit_17 hl (by decide) rfl (fun ls9 hl9 => ?_)
      refine lv_iconst (v := 2) hx hb dL_setLimit_19 (by decide) ?_
      have e9 : kL [0, 1] r.2 = 2 := by rw [hv9]; decide
      rw [e9]
      exact gw_iret hx hb hr hlocks ⟨hW1, by rw [hv9]; exact at_keep hob hW.2 hS1⟩ hS1.gAo (Nat.le_of_eq (Nat.zero_add _)) (Nat.le_of_eq (Nat.zero_add _)) dL_setLimit_20
theorem dL_drop_0 : decode cL_drop 0 = .ok (.aload 5, 2) := by decide +kernel
theorem dL_drop_2 : decode cL_drop 2 = .ok (.iconst 0, 1) := by decide +kernel
theorem dL_drop_3 : decode cL_drop 3 = .ok (.aload_n 0, 1) := by decide +kernel
theorem dL_drop_4 : decode cL_drop 4 = .ok (.iload_n 1, 1) := by decide +kernel
theorem dL_drop_5 : decode cL_drop 5 = .ok (.iload_n 2, 1) := by decide +kernel
theorem dL_drop_6 : decode cL_drop 6 = .ok (.iload_n 3, 1) := by decide +kernel
theorem dL_drop_7 : decode cL_drop 7 = .ok (.iload 4, 2) := by decide +kernel
theorem dL_drop_9 : decode cL_drop 9 = .ok (.invokevirtual 60, 3) := by decide +kernel
theorem dL_drop_12 : decode cL_drop 12 = .ok (.i2l, 1) := by decide +kernel
theorem dL_drop_13 : decode cL_drop 13 = .ok (.lastore, 1) := by decide +kernel
theorem dL_drop_14 : decode cL_drop 14 = .ok (.goto 11, 3) := by decide +kernel
theorem dL_drop_17 : decode cL_drop 17 = .ok (.astore 6, 2) := by decide +kernel
theorem dL_drop_19 : decode cL_drop 19 = .ok (.iconst 1, 1) := by decide +kernel
theorem dL_drop_20 : decode cL_drop 20 = .ok (.ireturn, 1) := by decide +kernel
theorem dL_drop_21 : decode cL_drop 21 = .ok (.astore 6, 2) := by decide +kernel
theorem dL_drop_23 : decode cL_drop 23 = .ok (.iconst 2, 1) := by decide +kernel
theorem dL_drop_24 : decode cL_drop 24 = .ok (.ireturn, 1) := by decide +kernel
theorem dL_drop_25 : decode cL_drop 25 = .ok (.iconst 0, 1) := by decide +kernel
theorem dL_drop_26 : decode cL_drop 26 = .ok (.ireturn, 1) := by decide +kernel
theorem ml_L_60 : gMV RL 60 yX10_drop cX10_drop 5 (some .int) 4 := ⟨⟨wg_t 914 (by decide +kernel) (by decide +kernel), wg_t 917 (by decide +kernel) (by decide +kernel), wg_t 1 (by decide +kernel) (by decide +kernel), by decide +kernel⟩, wg_t 915 (by decide +kernel) (by decide +kernel), wg_t 916 (by decide +kernel) (by decide +kernel)⟩
abbrev hhL_drop : List (Nat × Nat × Nat × Nat) := [(0, 14, 17, 21), (0, 14, 21, 13)]
theorem mw_L_244 : gML RL 244 yL_drop cL_drop 7 hhL_drop 6 := ⟨wg_t 911 (by decide +kernel) (by decide +kernel), wg_t 913 (by decide +kernel) (by decide +kernel), wg_t 0 (by decide +kernel) (by decide +kernel), by decide +kernel, wg_t 912 (by decide +kernel) (by decide +kernel)⟩
abbrev rmL_drop : Room := { frames := 8, cells := 1, slots := 6, locals := 179 }
set_option maxHeartbeats 4000000 in
set_option maxRecDepth 100000 in
theorem metL_drop {l : Launch} {s0 : State} {b B : Nat} {D : va_G} {T : Nat → ClassId} (F : FX l s0 b D T B) {X : Nat → Prop} (hX : ∀ o, o < 561 → ¬ X (B + o)) {ob : Nat} (hob : X ob) {f : Nat → Int64} {N : Nat} {μ : Mem} {cap : Nat} {t : List Nat} {a1 : Int32} {a2 : Int32} {a3 : Int32} {a4 : Int32} {r : Mem × (Nat ⊕ Int32)} (h : fX10_drop N μ 0 a1 a2 a3 a4 = some r) (hL : ∀ k, r.2 = .inl k → k = 0 ∨ k = 1) : gMetH l yL_drop cL_drop 7 hhL_drop rmL_drop [.ref (B + 0), .int a1, .int a2, .int a3, .int a4, .ref ob] (gWL s0 D T B X μ cap t ob f) (KC s0 X) (some (.int (kL [0, 1] r.2))) (gWL s0 D T B X r.1 cap t ob (upI f r.2)) (gAo B X ob) 1 6 := by
  refine gMetH_of RL (by decide +kernel) rfl (Nat.le_of_ble_eq_true rfl) ?_
  intro p e s m below meth c ls hx hb hr hlocks hml hown hts htab hW hk hl hS
  have hC := FX_C F hk hx hb hown hts
  have hl : lv_has ls 7 [(0, .ref (B + 0)), (1, .int a1), (2, .int a2), (3, .int a3), (4, .int a4), (5, .ref ob)] := hl
  have hS0 : va_S (gA B X) s.heap s.heap [] := va_S.rf
  refine lv_aload hx hb dL_drop_0 (lv_at hl 5 rfl) ?_
  refine lv_iconst (v := 0) hx hb dL_drop_2 (by decide) ?_
  refine lv_aload_n hx hb dL_drop_3 rfl (lv_at hl 0 rfl) ?_
  refine lv_iload_n hx hb dL_drop_4 rfl (lv_at hl 1 rfl) ?_
  refine lv_iload_n hx hb dL_drop_5 rfl (lv_at hl 2 rfl) ?_
  refine lv_iload_n hx hb dL_drop_6 rfl (lv_at hl 3 rfl) ?_
  refine lv_iload hx hb dL_drop_7 (lv_at hl 4 rfl) ?_
  refine gs_callXV (As := [.int a1, .int a2, .int a3, .int a4]) F hX hk hC hml hS0 hW.1 (fun X9 hX9 => metX10_drop F hX9 is_Ga h) ml_L_60 (gw_recv hC hW.1.1 is_Ga.1 (is_Ga.2.2.1 (gfm s0) T B (μ 0)) rfl) ⟨rfl, rfl, (Nat.le_of_ble_eq_true rfl), (Nat.le_of_ble_eq_true rfl)⟩ rfl hl.1 rfl (Nat.le_of_ble_eq_true rfl) dL_drop_9 ⟨(Nat.le_of_ble_eq_true rfl), (Nat.le_of_ble_eq_true rfl)⟩ (fun v9 ho H1 locs1 hW1 hS1 => ?_) (fun k9 ho H1 locs1 q9 ce9 hW1 hS1 hce hvm hcl => ?_)
  · obtain ⟨x9, hv9, rfl⟩ := oI_r ho
    refine lv_i2l hx hb dL_drop_12 rfl ?_
    refine gl_last hC (at_keep hob hW.2 hS1) hS1.gAo (Or.inr rfl) dL_drop_13 (fun H2 locs2 g1 g2 g3 g4 => ?_)
    refine lv_goto (tgt := 25) hx hb dL_drop_14 (by decide) ?_
    refine lv_iconst (v := 0) hx hb dL_drop_25 (by decide) ?_
    have e9 : kL [0, 1] r.2 = 0 := by rw [hv9]; rfl
    rw [e9]
    exact gw_iret hx hb hr hlocks ⟨gWS_keep hX hob hW1 g3, by rw [hv9]; exact g1⟩ g4 (Nat.le_of_eq (Nat.zero_add _)) (Nat.le_of_eq (Nat.zero_add _)) dL_drop_26
  · have hv9 := oI_l ho
    rcases hL _ hv9 with rfl | rfl
    · refine vx_catch hown [] ⟨0, 14, 17, 21⟩ [⟨0, 14, 21, 13⟩] (htab.trans rfl) (fun z hz => by cases hz) (by decide) (by decide) (hts _ kl_L_21) (FX_cs F hk cs_0) hce hvm hcl ?_
      refine lv_astore hx hb dL_drop_17 hl (by decide) rfl (fun ls9 hl9 => ?_)
      refine lv_iconst (v := 1) hx hb dL_drop_19 (by decide) ?_
      have e9 : kL [0, 1] r.2 = 1 := by rw [hv9]; decide
      rw [e9]
      exact gw_iret hx hb hr hlocks ⟨hW1, by rw [hv9]; exact at_keep hob hW.2 hS1⟩ hS1.gAo (Nat.le_of_eq (Nat.zero_add _)) (Nat.le_of_eq (Nat.zero_add _)) dL_drop_20
    · refine vx_catch hown [⟨0, 14, 17, 21⟩] ⟨0, 14, 21, 13⟩ [] (htab.trans rfl) (fun z hz => by cases List.mem_singleton.mp hz; exact Or.inr ⟨by decide, _, hts _ kl_L_21, FX_nc F hk nc_1_0⟩) (by decide) (by decide) (hts _ kl_L_13) (FX_cs F hk cs_1) hce hvm hcl ?_
      refine lv_astore hx hb dL_drop_21 hl (by decide) rfl (fun ls9 hl9 => ?_)
      refine lv_iconst (v := 2) hx hb dL_drop_23 (by decide) ?_
      have e9 : kL [0, 1] r.2 = 2 := by rw [hv9]; decide
      rw [e9]
      exact gw_iret hx hb hr hlocks ⟨hW1, by rw [hv9]; exact at_keep hob hW.2 hS1⟩ hS1.gAo (Nat.le_of_eq (Nat.zero_add _)) (Nat.le_of_eq (Nat.zero_add _)) dL_drop_24
theorem dL_topplingsIf_0 : decode cL_topplingsIf 0 = .ok (.aload 5, 2) := by decide +kernel
theorem dL_topplingsIf_2 : decode cL_topplingsIf 2 = .ok (.iconst 0, 1) := by decide +kernel
theorem dL_topplingsIf_3 : decode cL_topplingsIf 3 = .ok (.aload_n 0, 1) := by decide +kernel
theorem dL_topplingsIf_4 : decode cL_topplingsIf 4 = .ok (.iload_n 1, 1) := by decide +kernel
theorem dL_topplingsIf_5 : decode cL_topplingsIf 5 = .ok (.iload_n 2, 1) := by decide +kernel
theorem dL_topplingsIf_6 : decode cL_topplingsIf 6 = .ok (.iload_n 3, 1) := by decide +kernel
theorem dL_topplingsIf_7 : decode cL_topplingsIf 7 = .ok (.iload 4, 2) := by decide +kernel
theorem dL_topplingsIf_9 : decode cL_topplingsIf 9 = .ok (.invokevirtual 63, 3) := by decide +kernel
theorem dL_topplingsIf_12 : decode cL_topplingsIf 12 = .ok (.i2l, 1) := by decide +kernel
theorem dL_topplingsIf_13 : decode cL_topplingsIf 13 = .ok (.lastore, 1) := by decide +kernel
theorem dL_topplingsIf_14 : decode cL_topplingsIf 14 = .ok (.goto 11, 3) := by decide +kernel
theorem dL_topplingsIf_17 : decode cL_topplingsIf 17 = .ok (.astore 6, 2) := by decide +kernel
theorem dL_topplingsIf_19 : decode cL_topplingsIf 19 = .ok (.iconst 1, 1) := by decide +kernel
theorem dL_topplingsIf_20 : decode cL_topplingsIf 20 = .ok (.ireturn, 1) := by decide +kernel
theorem dL_topplingsIf_21 : decode cL_topplingsIf 21 = .ok (.astore 6, 2) := by decide +kernel
theorem dL_topplingsIf_23 : decode cL_topplingsIf 23 = .ok (.iconst 2, 1) := by decide +kernel
theorem dL_topplingsIf_24 : decode cL_topplingsIf 24 = .ok (.ireturn, 1) := by decide +kernel
theorem dL_topplingsIf_25 : decode cL_topplingsIf 25 = .ok (.iconst 0, 1) := by decide +kernel
theorem dL_topplingsIf_26 : decode cL_topplingsIf 26 = .ok (.ireturn, 1) := by decide +kernel
theorem ml_L_63 : gMV RL 63 yX10_topplingsIf cX10_topplingsIf 5 (some .int) 4 := ⟨⟨wg_t 936 (by decide +kernel) (by decide +kernel), wg_t 939 (by decide +kernel) (by decide +kernel), wg_t 1 (by decide +kernel) (by decide +kernel), by decide +kernel⟩, wg_t 937 (by decide +kernel) (by decide +kernel), wg_t 938 (by decide +kernel) (by decide +kernel)⟩
abbrev hhL_topplingsIf : List (Nat × Nat × Nat × Nat) := [(0, 14, 17, 21), (0, 14, 21, 13)]
theorem mw_L_247 : gML RL 247 yL_topplingsIf cL_topplingsIf 7 hhL_topplingsIf 6 := ⟨wg_t 933 (by decide +kernel) (by decide +kernel), wg_t 935 (by decide +kernel) (by decide +kernel), wg_t 0 (by decide +kernel) (by decide +kernel), by decide +kernel, wg_t 934 (by decide +kernel) (by decide +kernel)⟩
abbrev rmL_topplingsIf : Room := { frames := 8, cells := 1, slots := 6, locals := 164 }
set_option maxHeartbeats 4000000 in
set_option maxRecDepth 100000 in
theorem metL_topplingsIf {l : Launch} {s0 : State} {b B : Nat} {D : va_G} {T : Nat → ClassId} (F : FX l s0 b D T B) {X : Nat → Prop} (hX : ∀ o, o < 561 → ¬ X (B + o)) {ob : Nat} (hob : X ob) {f : Nat → Int64} {N : Nat} {μ : Mem} {cap : Nat} {t : List Nat} {a1 : Int32} {a2 : Int32} {a3 : Int32} {a4 : Int32} {r : Mem × (Nat ⊕ Int32)} (h : fX10_topplingsIf N μ 0 a1 a2 a3 a4 = some r) (hL : ∀ k, r.2 = .inl k → k = 0 ∨ k = 1) : gMetH l yL_topplingsIf cL_topplingsIf 7 hhL_topplingsIf rmL_topplingsIf [.ref (B + 0), .int a1, .int a2, .int a3, .int a4, .ref ob] (gWL s0 D T B X μ cap t ob f) (KC s0 X) (some (.int (kL [0, 1] r.2))) (gWL s0 D T B X r.1 cap t ob (upI f r.2)) (gAo B X ob) 1 6 := by
  refine gMetH_of RL (by decide +kernel) rfl (Nat.le_of_ble_eq_true rfl) ?_
  intro p e s m below meth c ls hx hb hr hlocks hml hown hts htab hW hk hl hS
  have hC := FX_C F hk hx hb hown hts
  have hl : lv_has ls 7 [(0, .ref (B + 0)), (1, .int a1), (2, .int a2), (3, .int a3), (4, .int a4), (5, .ref ob)] := hl
  have hS0 : va_S (gA B X) s.heap s.heap [] := va_S.rf
  refine lv_aload hx hb dL_topplingsIf_0 (lv_at hl 5 rfl) ?_
  refine lv_iconst (v := 0) hx hb dL_topplingsIf_2 (by decide) ?_
  refine lv_aload_n hx hb dL_topplingsIf_3 rfl (lv_at hl 0 rfl) ?_
  refine lv_iload_n hx hb dL_topplingsIf_4 rfl (lv_at hl 1 rfl) ?_
  refine lv_iload_n hx hb dL_topplingsIf_5 rfl (lv_at hl 2 rfl) ?_
  refine lv_iload_n hx hb dL_topplingsIf_6 rfl (lv_at hl 3 rfl) ?_
  refine lv_iload hx hb dL_topplingsIf_7 (lv_at hl 4 rfl) ?_
  refine gs_callXV (As := [.int a1, .int a2, .int a3, .int a4]) F hX hk hC hml hS0 hW.1 (fun X9 hX9 => metX10_topplingsIf F hX9 is_Ga h) ml_L_63 (gw_recv hC hW.1.1 is_Ga.1 (is_Ga.2.2.1 (gfm s0) T B (μ 0)) rfl) ⟨rfl, rfl, (Nat.le_of_ble_eq_true rfl), (Nat.le_of_ble_eq_true rfl)⟩ rfl hl.1 rfl (Nat.le_of_ble_eq_true rfl) dL_topplingsIf_9 ⟨(Nat.le_of_ble_eq_true rfl), (Nat.le_of_ble_eq_true rfl)⟩ (fun v9 ho H1 locs1 hW1 hS1 => ?_) (fun k9 ho H1 locs1 q9 ce9 hW1 hS1 hce hvm hcl => ?_)
  · obtain ⟨x9, hv9, rfl⟩ := oI_r ho
    refine lv_i2l hx hb dL_topplingsIf_12 rfl ?_
    refine gl_last hC (at_keep hob hW.2 hS1) hS1.gAo (Or.inr rfl) dL_topplingsIf_13 (fun H2 locs2 g1 g2 g3 g4 => ?_)
    refine lv_goto (tgt := 25) hx hb dL_topplingsIf_14 (by decide) ?_
    refine lv_iconst (v := 0) hx hb dL_topplingsIf_25 (by decide) ?_
    have e9 : kL [0, 1] r.2 = 0 := by rw [hv9]; rfl
    rw [e9]
    exact gw_iret hx hb hr hlocks ⟨gWS_keep hX hob hW1 g3, by rw [hv9]; exact g1⟩ g4 (Nat.le_of_eq (Nat.zero_add _)) (Nat.le_of_eq (Nat.zero_add _)) dL_topplingsIf_26
  · have hv9 := oI_l ho
    rcases hL _ hv9 with rfl | rfl
    · refine vx_catch hown [] ⟨0, 14, 17, 21⟩ [⟨0, 14, 21, 13⟩] (htab.trans rfl) (fun z hz => by cases hz) (by decide) (by decide) (hts _ kl_L_21) (FX_cs F hk cs_0) hce hvm hcl ?_
      refine lv_astore hx hb dL_topplingsIf_17 hl (by decide) rfl (fun ls9 hl9 => ?_)
      refine lv_iconst (v := 1) hx hb dL_topplingsIf_19 (by decide) ?_
      have e9 : kL [0, 1] r.2 = 1 := by rw [hv9]; decide
      rw [e9]
      exact gw_iret hx hb hr hlocks ⟨hW1, by rw [hv9]; exact at_keep hob hW.2 hS1⟩ hS1.gAo (Nat.le_of_eq (Nat.zero_add _)) (Nat.le_of_eq (Nat.zero_add _)) dL_topplingsIf_20
    · refine vx_catch hown [⟨0, 14, 17, 21⟩] ⟨0, 14, 21, 13⟩ [] (htab.trans rfl) (fun z hz => by cases List.mem_singleton.mp hz; exact Or.inr ⟨by decide, _, hts _ kl_L_21, FX_nc F hk nc_1_0⟩) (by decide) (by decide) (hts _ kl_L_13) (FX_cs F hk cs_1) hce hvm hcl ?_
      refine lv_astore hx hb dL_topplingsIf_21 hl (by decide) rfl (fun ls9 hl9 => ?_)
      refine lv_iconst (v := 2) hx hb dL_topplingsIf_23 (by decide) ?_
      have e9 : kL [0, 1] r.2 = 2 := by rw [hv9]; decide
      rw [e9]
      exact gw_iret hx hb hr hlocks ⟨hW1, by rw [hv9]; exact at_keep hob hW.2 hS1⟩ hS1.gAo (Nat.le_of_eq (Nat.zero_add _)) (Nat.le_of_eq (Nat.zero_add _)) dL_topplingsIf_24
theorem dL_topplingsIfByRounds_0 : decode cL_topplingsIfByRounds 0 = .ok (.aload 5, 2) := by decide +kernel
theorem dL_topplingsIfByRounds_2 : decode cL_topplingsIfByRounds 2 = .ok (.iconst 0, 1) := by decide +kernel
theorem dL_topplingsIfByRounds_3 : decode cL_topplingsIfByRounds 3 = .ok (.aload_n 0, 1) := by decide +kernel
theorem dL_topplingsIfByRounds_4 : decode cL_topplingsIfByRounds 4 = .ok (.iload_n 1, 1) := by decide +kernel
theorem dL_topplingsIfByRounds_5 : decode cL_topplingsIfByRounds 5 = .ok (.iload_n 2, 1) := by decide +kernel
theorem dL_topplingsIfByRounds_6 : decode cL_topplingsIfByRounds 6 = .ok (.iload_n 3, 1) := by decide +kernel
theorem dL_topplingsIfByRounds_7 : decode cL_topplingsIfByRounds 7 = .ok (.iload 4, 2) := by decide +kernel
theorem dL_topplingsIfByRounds_9 : decode cL_topplingsIfByRounds 9 = .ok (.invokevirtual 66, 3) := by decide +kernel
theorem dL_topplingsIfByRounds_12 : decode cL_topplingsIfByRounds 12 = .ok (.i2l, 1) := by decide +kernel
theorem dL_topplingsIfByRounds_13 : decode cL_topplingsIfByRounds 13 = .ok (.lastore, 1) := by decide +kernel
theorem dL_topplingsIfByRounds_14 : decode cL_topplingsIfByRounds 14 = .ok (.goto 11, 3) := by decide +kernel
theorem dL_topplingsIfByRounds_17 : decode cL_topplingsIfByRounds 17 = .ok (.astore 6, 2) := by decide +kernel
theorem dL_topplingsIfByRounds_19 : decode cL_topplingsIfByRounds 19 = .ok (.iconst 1, 1) := by decide +kernel
theorem dL_topplingsIfByRounds_20 : decode cL_topplingsIfByRounds 20 = .ok (.ireturn, 1) := by decide +kernel
theorem dL_topplingsIfByRounds_21 : decode cL_topplingsIfByRounds 21 = .ok (.astore 6, 2) := by decide +kernel
theorem dL_topplingsIfByRounds_23 : decode cL_topplingsIfByRounds 23 = .ok (.iconst 2, 1) := by decide +kernel
theorem dL_topplingsIfByRounds_24 : decode cL_topplingsIfByRounds 24 = .ok (.ireturn, 1) := by decide +kernel
theorem dL_topplingsIfByRounds_25 : decode cL_topplingsIfByRounds 25 = .ok (.iconst 0, 1) := by decide +kernel
theorem dL_topplingsIfByRounds_26 : decode cL_topplingsIfByRounds 26 = .ok (.ireturn, 1) := by decide +kernel
theorem ml_L_66 : gMV RL 66 yX10_topplingsIfByRounds cX10_topplingsIfByRounds 5 (some .int) 4 := ⟨⟨wg_t 949 (by decide +kernel) (by decide +kernel), wg_t 952 (by decide +kernel) (by decide +kernel), wg_t 1 (by decide +kernel) (by decide +kernel), by decide +kernel⟩, wg_t 950 (by decide +kernel) (by decide +kernel), wg_t 951 (by decide +kernel) (by decide +kernel)⟩
abbrev hhL_topplingsIfByRounds : List (Nat × Nat × Nat × Nat) := [(0, 14, 17, 21), (0, 14, 21, 13)]
theorem mw_L_250 : gML RL 250 yL_topplingsIfByRounds cL_topplingsIfByRounds 7 hhL_topplingsIfByRounds 6 := ⟨wg_t 946 (by decide +kernel) (by decide +kernel), wg_t 948 (by decide +kernel) (by decide +kernel), wg_t 0 (by decide +kernel) (by decide +kernel), by decide +kernel, wg_t 947 (by decide +kernel) (by decide +kernel)⟩
abbrev rmL_topplingsIfByRounds : Room := { frames := 8, cells := 1, slots := 6, locals := 164 }
set_option maxHeartbeats 4000000 in
set_option maxRecDepth 100000 in
theorem metL_topplingsIfByRounds {l : Launch} {s0 : State} {b B : Nat} {D : va_G} {T : Nat → ClassId} (F : FX l s0 b D T B) {X : Nat → Prop} (hX : ∀ o, o < 561 → ¬ X (B + o)) {ob : Nat} (hob : X ob) {f : Nat → Int64} {N : Nat} {μ : Mem} {cap : Nat} {t : List Nat} {a1 : Int32} {a2 : Int32} {a3 : Int32} {a4 : Int32} {r : Mem × (Nat ⊕ Int32)} (h : fX10_topplingsIfByRounds N μ 0 a1 a2 a3 a4 = some r) (hL : ∀ k, r.2 = .inl k → k = 0 ∨ k = 1) : gMetH l yL_topplingsIfByRounds cL_topplingsIfByRounds 7 hhL_topplingsIfByRounds rmL_topplingsIfByRounds [.ref (B + 0), .int a1, .int a2, .int a3, .int a4, .ref ob] (gWL s0 D T B X μ cap t ob f) (KC s0 X) (some (.int (kL [0, 1] r.2))) (gWL s0 D T B X r.1 cap t ob (upI f r.2)) (gAo B X ob) 1 6 := by
  refine gMetH_of RL (by decide +kernel) rfl (Nat.le_of_ble_eq_true rfl) ?_
  intro p e s m below meth c ls hx hb hr hlocks hml hown hts htab hW hk hl hS
  have hC := FX_C F hk hx hb hown hts
  have hl : lv_has ls 7 [(0, .ref (B + 0)), (1, .int a1), (2, .int a2), (3, .int a3), (4, .int a4), (5, .ref ob)] := hl
  have hS0 : va_S (gA B X) s.heap s.heap [] := va_S.rf
  refine lv_aload hx hb dL_topplingsIfByRounds_0 (lv_at hl 5 rfl) ?_
  refine lv_iconst (v := 0) hx hb dL_topplingsIfByRounds_2 (by decide) ?_
  refine lv_aload_n hx hb dL_topplingsIfByRounds_3 rfl (lv_at hl 0 rfl) ?_
  refine lv_iload_n hx hb dL_topplingsIfByRounds_4 rfl (lv_at hl 1 rfl) ?_
  refine lv_iload_n hx hb dL_topplingsIfByRounds_5 rfl (lv_at hl 2 rfl) ?_
  refine lv_iload_n hx hb dL_topplingsIfByRounds_6 rfl (lv_at hl 3 rfl) ?_
  refine lv_iload hx hb dL_topplingsIfByRounds_7 (lv_at hl 4 rfl) ?_
  refine gs_callXV (As := [.int a1, .int a2, .int a3, .int a4]) F hX hk hC hml hS0 hW.1 (fun X9 hX9 => metX10_topplingsIfByRounds F hX9 is_Ga h) ml_L_66 (gw_recv hC hW.1.1 is_Ga.1 (is_Ga.2.2.1 (gfm s0) T B (μ 0)) rfl) ⟨rfl, rfl, (Nat.le_of_ble_eq_true rfl), (Nat.le_of_ble_eq_true rfl)⟩ rfl hl.1 rfl (Nat.le_of_ble_eq_true rfl) dL_topplingsIfByRounds_9 ⟨(Nat.le_of_ble_eq_true rfl), (Nat.le_of_ble_eq_true rfl)⟩ (fun v9 ho H1 locs1 hW1 hS1 => ?_) (fun k9 ho H1 locs1 q9 ce9 hW1 hS1 hce hvm hcl => ?_)
  · obtain ⟨x9, hv9, rfl⟩ := oI_r ho
    refine lv_i2l hx hb dL_topplingsIfByRounds_12 rfl ?_
    refine gl_last hC (at_keep hob hW.2 hS1) hS1.gAo (Or.inr rfl) dL_topplingsIfByRounds_13 (fun H2 locs2 g1 g2 g3 g4 => ?_)
    refine lv_goto (tgt := 25) hx hb dL_topplingsIfByRounds_14 (by decide) ?_
    refine lv_iconst (v := 0) hx hb dL_topplingsIfByRounds_25 (by decide) ?_
    have e9 : kL [0, 1] r.2 = 0 := by rw [hv9]; rfl
    rw [e9]
    exact gw_iret hx hb hr hlocks ⟨gWS_keep hX hob hW1 g3, by rw [hv9]; exact g1⟩ g4 (Nat.le_of_eq (Nat.zero_add _)) (Nat.le_of_eq (Nat.zero_add _)) dL_topplingsIfByRounds_26
  · have hv9 := oI_l ho
    rcases hL _ hv9 with rfl | rfl
    · refine vx_catch hown [] ⟨0, 14, 17, 21⟩ [⟨0, 14, 21, 13⟩] (htab.trans rfl) (fun z hz => by cases hz) (by decide) (by decide) (hts _ kl_L_21) (FX_cs F hk cs_0) hce hvm hcl ?_
      refine lv_astore hx hb dL_topplingsIfByRounds_17 hl (by decide) rfl (fun ls9 hl9 => ?_)
      refine lv_iconst (v := 1) hx hb dL_topplingsIfByRounds_19 (by decide) ?_
      have e9 : kL [0, 1] r.2 = 1 := by rw [hv9]; decide
      rw [e9]
      exact gw_iret hx hb hr hlocks ⟨hW1, by rw [hv9]; exact at_keep hob hW.2 hS1⟩ hS1.gAo (Nat.le_of_eq (Nat.zero_add _)) (Nat.le_of_eq (Nat.zero_add _)) dL_topplingsIfByRounds_20
    · refine vx_catch hown [⟨0, 14, 17, 21⟩] ⟨0, 14, 21, 13⟩ [] (htab.trans rfl) (fun z hz => by cases List.mem_singleton.mp hz; exact Or.inr ⟨by decide, _, hts _ kl_L_21, FX_nc F hk nc_1_0⟩) (by decide) (by decide) (hts _ kl_L_13) (FX_cs F hk cs_1) hce hvm hcl ?_
      refine lv_astore hx hb dL_topplingsIfByRounds_21 hl (by decide) rfl (fun ls9 hl9 => ?_)
      refine lv_iconst (v := 2) hx hb dL_topplingsIfByRounds_23 (by decide) ?_
      have e9 : kL [0, 1] r.2 = 2 := by rw [hv9]; decide
      rw [e9]
      exact gw_iret hx hb hr hlocks ⟨hW1, by rw [hv9]; exact at_keep hob hW.2 hS1⟩ hS1.gAo (Nat.le_of_eq (Nat.zero_add _)) (Nat.le_of_eq (Nat.zero_add _)) dL_topplingsIfByRounds_24
theorem dL_roomOf_0 : decode cL_roomOf 0 = .ok (.aload_n 2, 1) := by decide +kernel
theorem dL_roomOf_1 : decode cL_roomOf 1 = .ok (.iconst 0, 1) := by decide +kernel
theorem dL_roomOf_2 : decode cL_roomOf 2 = .ok (.aload_n 0, 1) := by decide +kernel
theorem dL_roomOf_3 : decode cL_roomOf 3 = .ok (.iload_n 1, 1) := by decide +kernel
theorem dL_roomOf_4 : decode cL_roomOf 4 = .ok (.invokevirtual 69, 3) := by decide +kernel
theorem dL_roomOf_7 : decode cL_roomOf 7 = .ok (.i2l, 1) := by decide +kernel
theorem dL_roomOf_8 : decode cL_roomOf 8 = .ok (.lastore, 1) := by decide +kernel
theorem dL_roomOf_9 : decode cL_roomOf 9 = .ok (.goto 6, 3) := by decide +kernel
theorem dL_roomOf_12 : decode cL_roomOf 12 = .ok (.astore_n 3, 1) := by decide +kernel
theorem dL_roomOf_13 : decode cL_roomOf 13 = .ok (.iconst 1, 1) := by decide +kernel
theorem dL_roomOf_14 : decode cL_roomOf 14 = .ok (.ireturn, 1) := by decide +kernel
theorem dL_roomOf_15 : decode cL_roomOf 15 = .ok (.iconst 0, 1) := by decide +kernel
theorem dL_roomOf_16 : decode cL_roomOf 16 = .ok (.ireturn, 1) := by decide +kernel
theorem ml_L_69 : gMV RL 69 yX10_roomOf cX10_roomOf 2 (some .int) 1 := ⟨⟨wg_t 964 (by decide +kernel) (by decide +kernel), wg_t 967 (by decide +kernel) (by decide +kernel), wg_t 1 (by decide +kernel) (by decide +kernel), by decide +kernel⟩, wg_t 965 (by decide +kernel) (by decide +kernel), wg_t 966 (by decide +kernel) (by decide +kernel)⟩
abbrev hhL_roomOf : List (Nat × Nat × Nat × Nat) := [(0, 9, 12, 21)]
theorem mw_L_257 : gML RL 257 yL_roomOf cL_roomOf 4 hhL_roomOf 3 := ⟨wg_t 961 (by decide +kernel) (by decide +kernel), wg_t 963 (by decide +kernel) (by decide +kernel), wg_t 0 (by decide +kernel) (by decide +kernel), by decide +kernel, wg_t 962 (by decide +kernel) (by decide +kernel)⟩
abbrev rmL_roomOf : Room := { frames := 8, cells := 1, slots := 6, locals := 162 }
set_option maxHeartbeats 4000000 in
set_option maxRecDepth 100000 in
theorem metL_roomOf {l : Launch} {s0 : State} {b B : Nat} {D : va_G} {T : Nat → ClassId} (F : FX l s0 b D T B) {X : Nat → Prop} (hX : ∀ o, o < 561 → ¬ X (B + o)) {ob : Nat} (hob : X ob) {f : Nat → Int64} {N : Nat} {μ : Mem} {cap : Nat} {t : List Nat} {a1 : Int32} {r : Mem × (Nat ⊕ Int32)} (h : fX10_roomOf N μ 0 a1 = some r) (hL : ∀ k, r.2 = .inl k → k = 0) : gMetH l yL_roomOf cL_roomOf 4 hhL_roomOf rmL_roomOf [.ref (B + 0), .int a1, .ref ob] (gWL s0 D T B X μ cap t ob f) (KC s0 X) (some (.int (kL [0] r.2))) (gWL s0 D T B X r.1 cap t ob (upI f r.2)) (gAo B X ob) 1 6 := by
  refine gMetH_of RL (by decide +kernel) rfl (Nat.le_of_ble_eq_true rfl) ?_
  intro p e s m below meth c ls hx hb hr hlocks hml hown hts htab hW hk hl hS
  have hC := FX_C F hk hx hb hown hts
  have hl : lv_has ls 4 [(0, .ref (B + 0)), (1, .int a1), (2, .ref ob)] := hl
  have hS0 : va_S (gA B X) s.heap s.heap [] := va_S.rf
  refine lv_aload_n hx hb dL_roomOf_0 rfl (lv_at hl 2 rfl) ?_
  refine lv_iconst (v := 0) hx hb dL_roomOf_1 (by decide) ?_
  refine lv_aload_n hx hb dL_roomOf_2 rfl (lv_at hl 0 rfl) ?_
  refine lv_iload_n hx hb dL_roomOf_3 rfl (lv_at hl 1 rfl) ?_
  refine gs_callXV (As := [.int a1]) F hX hk hC hml hS0 hW.1 (fun X9 hX9 => metX10_roomOf F hX9 is_Ga h) ml_L_69 (gw_recv hC hW.1.1 is_Ga.1 (is_Ga.2.2.1 (gfm s0) T B (μ 0)) rfl) ⟨rfl, rfl, (Nat.le_of_ble_eq_true rfl), (Nat.le_of_ble_eq_true rfl)⟩ rfl hl.1 rfl (Nat.le_of_ble_eq_true rfl) dL_roomOf_4 ⟨(Nat.le_of_ble_eq_true rfl), (Nat.le_of_ble_eq_true rfl)⟩ (fun v9 ho H1 locs1 hW1 hS1 => ?_) (fun k9 ho H1 locs1 q9 ce9 hW1 hS1 hce hvm hcl => ?_)
  · obtain ⟨x9, hv9, rfl⟩ := oI_r ho
    refine lv_i2l hx hb dL_roomOf_7 rfl ?_
    refine gl_last hC (at_keep hob hW.2 hS1) hS1.gAo (Or.inr rfl) dL_roomOf_8 (fun H2 locs2 g1 g2 g3 g4 => ?_)
    refine lv_goto (tgt := 15) hx hb dL_roomOf_9 (by decide) ?_
    refine lv_iconst (v := 0) hx hb dL_roomOf_15 (by decide) ?_
    have e9 : kL [0] r.2 = 0 := by rw [hv9]; rfl
    rw [e9]
    exact gw_iret hx hb hr hlocks ⟨gWS_keep hX hob hW1 g3, by rw [hv9]; exact g1⟩ g4 (Nat.le_of_eq (Nat.zero_add _)) (Nat.le_of_eq (Nat.zero_add _)) dL_roomOf_16
  · have hv9 := oI_l ho
    obtain rfl := hL _ hv9
    refine vx_catch hown [] ⟨0, 9, 12, 21⟩ [] (htab.trans rfl) (fun z hz => by cases hz) (by decide) (by decide) (hts _ kl_L_21) (FX_cs F hk cs_0) hce hvm hcl ?_
    refine lv_astore_n hx hb dL_roomOf_12 rfl hl (by decide) rfl (fun ls9 hl9 => ?_)
    refine lv_iconst (v := 1) hx hb dL_roomOf_13 (by decide) ?_
    have e9 : kL [0] r.2 = 1 := by rw [hv9]; decide
    rw [e9]
    exact gw_iret hx hb hr hlocks ⟨hW1, by rw [hv9]; exact at_keep hob hW.2 hS1⟩ hS1.gAo (Nat.le_of_eq (Nat.zero_add _)) (Nat.le_of_eq (Nat.zero_add _)) dL_roomOf_14
theorem dL_limit_0 : decode cL_limit 0 = .ok (.aload_n 2, 1) := by decide +kernel
theorem dL_limit_1 : decode cL_limit 1 = .ok (.iconst 0, 1) := by decide +kernel
theorem dL_limit_2 : decode cL_limit 2 = .ok (.aload_n 0, 1) := by decide +kernel
theorem dL_limit_3 : decode cL_limit 3 = .ok (.iload_n 1, 1) := by decide +kernel
theorem dL_limit_4 : decode cL_limit 4 = .ok (.invokevirtual 72, 3) := by decide +kernel
theorem dL_limit_7 : decode cL_limit 7 = .ok (.i2l, 1) := by decide +kernel
theorem dL_limit_8 : decode cL_limit 8 = .ok (.lastore, 1) := by decide +kernel
theorem dL_limit_9 : decode cL_limit 9 = .ok (.goto 6, 3) := by decide +kernel
theorem dL_limit_12 : decode cL_limit 12 = .ok (.astore_n 3, 1) := by decide +kernel
theorem dL_limit_13 : decode cL_limit 13 = .ok (.iconst 1, 1) := by decide +kernel
theorem dL_limit_14 : decode cL_limit 14 = .ok (.ireturn, 1) := by decide +kernel
theorem dL_limit_15 : decode cL_limit 15 = .ok (.iconst 0, 1) := by decide +kernel
theorem dL_limit_16 : decode cL_limit 16 = .ok (.ireturn, 1) := by decide +kernel
theorem ml_L_72 : gMV RL 72 yX10_limit cX10_limit 2 (some .int) 1 := ⟨⟨wg_t 971 (by decide +kernel) (by decide +kernel), wg_t 974 (by decide +kernel) (by decide +kernel), wg_t 1 (by decide +kernel) (by decide +kernel), by decide +kernel⟩, wg_t 972 (by decide +kernel) (by decide +kernel), wg_t 973 (by decide +kernel) (by decide +kernel)⟩
abbrev hhL_limit : List (Nat × Nat × Nat × Nat) := [(0, 9, 12, 21)]
theorem mw_L_260 : gML RL 260 yL_limit cL_limit 4 hhL_limit 3 := ⟨wg_t 968 (by decide +kernel) (by decide +kernel), wg_t 970 (by decide +kernel) (by decide +kernel), wg_t 0 (by decide +kernel) (by decide +kernel), by decide +kernel, wg_t 969 (by decide +kernel) (by decide +kernel)⟩
abbrev rmL_limit : Room := { frames := 8, cells := 1, slots := 6, locals := 162 }
set_option maxHeartbeats 4000000 in
set_option maxRecDepth 100000 in
theorem metL_limit {l : Launch} {s0 : State} {b B : Nat} {D : va_G} {T : Nat → ClassId} (F : FX l s0 b D T B) {X : Nat → Prop} (hX : ∀ o, o < 561 → ¬ X (B + o)) {ob : Nat} (hob : X ob) {f : Nat → Int64} {N : Nat} {μ : Mem} {cap : Nat} {t : List Nat} {a1 : Int32} {r : Mem × (Nat ⊕ Int32)} (h : fX10_limit N μ 0 a1 = some r) (hL : ∀ k, r.2 = .inl k → k = 0) : gMetH l yL_limit cL_limit 4 hhL_limit rmL_limit [.ref (B + 0), .int a1, .ref ob] (gWL s0 D T B X μ cap t ob f) (KC s0 X) (some (.int (kL [0] r.2))) (gWL s0 D T B X r.1 cap t ob (upI f r.2)) (gAo B X ob) 1 6 := by
  refine gMetH_of RL (by decide +kernel) rfl (Nat.le_of_ble_eq_true rfl) ?_
  intro p e s m below meth c ls hx hb hr hlocks hml hown hts htab hW hk hl hS
  have hC := FX_C F hk hx hb hown hts
  have hl : lv_has ls 4 [(0, .ref (B + 0)), (1, .int a1), (2, .ref ob)] := hl
  have hS0 : va_S (gA B X) s.heap s.heap [] := va_S.rf
  refine lv_aload_n hx hb dL_limit_0 rfl (lv_at hl 2 rfl) ?_
  refine lv_iconst (v := 0) hx hb dL_limit_1 (by decide) ?_
  refine lv_aload_n hx hb dL_limit_2 rfl (lv_at hl 0 rfl) ?_
  refine lv_iload_n hx hb dL_limit_3 rfl (lv_at hl 1 rfl) ?_
  refine gs_callXV (As := [.int a1]) F hX hk hC hml hS0 hW.1 (fun X9 hX9 => metX10_limit F hX9 is_Ga h) ml_L_72 (gw_recv hC hW.1.1 is_Ga.1 (is_Ga.2.2.1 (gfm s0) T B (μ 0)) rfl) ⟨rfl, rfl, (Nat.le_of_ble_eq_true rfl), (Nat.le_of_ble_eq_true rfl)⟩ rfl hl.1 rfl (Nat.le_of_ble_eq_true rfl) dL_limit_4 ⟨(Nat.le_of_ble_eq_true rfl), (Nat.le_of_ble_eq_true rfl)⟩ (fun v9 ho H1 locs1 hW1 hS1 => ?_) (fun k9 ho H1 locs1 q9 ce9 hW1 hS1 hce hvm hcl => ?_)
  · obtain ⟨x9, hv9, rfl⟩ := oI_r ho
    refine lv_i2l hx hb dL_limit_7 rfl ?_
    refine gl_last hC (at_keep hob hW.2 hS1) hS1.gAo (Or.inr rfl) dL_limit_8 (fun H2 locs2 g1 g2 g3 g4 => ?_)
    refine lv_goto (tgt := 15) hx hb dL_limit_9 (by decide) ?_
    refine lv_iconst (v := 0) hx hb dL_limit_15 (by decide) ?_
    have e9 : kL [0] r.2 = 0 := by rw [hv9]; rfl
    rw [e9]
    exact gw_iret hx hb hr hlocks ⟨gWS_keep hX hob hW1 g3, by rw [hv9]; exact g1⟩ g4 (Nat.le_of_eq (Nat.zero_add _)) (Nat.le_of_eq (Nat.zero_add _)) dL_limit_16
  · have hv9 := oI_l ho
    obtain rfl := hL _ hv9
    refine vx_catch hown [] ⟨0, 9, 12, 21⟩ [] (htab.trans rfl) (fun z hz => by cases hz) (by decide) (by decide) (hts _ kl_L_21) (FX_cs F hk cs_0) hce hvm hcl ?_
    refine lv_astore_n hx hb dL_limit_12 rfl hl (by decide) rfl (fun ls9 hl9 => ?_)
    refine lv_iconst (v := 1) hx hb dL_limit_13 (by decide) ?_
    have e9 : kL [0] r.2 = 1 := by rw [hv9]; decide
    rw [e9]
    exact gw_iret hx hb hr hlocks ⟨hW1, by rw [hv9]; exact at_keep hob hW.2 hS1⟩ hS1.gAo (Nat.le_of_eq (Nat.zero_add _)) (Nat.le_of_eq (Nat.zero_add _)) dL_limit_14
theorem dL_grainsAt_0 : decode cL_grainsAt 0 = .ok (.aload 4, 2) := by decide +kernel
theorem dL_grainsAt_2 : decode cL_grainsAt 2 = .ok (.iconst 0, 1) := by decide +kernel
theorem dL_grainsAt_3 : decode cL_grainsAt 3 = .ok (.aload_n 0, 1) := by decide +kernel
theorem dL_grainsAt_4 : decode cL_grainsAt 4 = .ok (.iload_n 1, 1) := by decide +kernel
theorem dL_grainsAt_5 : decode cL_grainsAt 5 = .ok (.iload_n 2, 1) := by decide +kernel
theorem dL_grainsAt_6 : decode cL_grainsAt 6 = .ok (.iload_n 3, 1) := by decide +kernel
theorem dL_grainsAt_7 : decode cL_grainsAt 7 = .ok (.invokevirtual 75, 3) := by decide +kernel
theorem dL_grainsAt_10 : decode cL_grainsAt 10 = .ok (.i2l, 1) := by decide +kernel
theorem dL_grainsAt_11 : decode cL_grainsAt 11 = .ok (.lastore, 1) := by decide +kernel
theorem dL_grainsAt_12 : decode cL_grainsAt 12 = .ok (.goto 11, 3) := by decide +kernel
theorem dL_grainsAt_15 : decode cL_grainsAt 15 = .ok (.astore 5, 2) := by decide +kernel
theorem dL_grainsAt_17 : decode cL_grainsAt 17 = .ok (.iconst 1, 1) := by decide +kernel
theorem dL_grainsAt_18 : decode cL_grainsAt 18 = .ok (.ireturn, 1) := by decide +kernel
theorem dL_grainsAt_19 : decode cL_grainsAt 19 = .ok (.astore 5, 2) := by decide +kernel
theorem dL_grainsAt_21 : decode cL_grainsAt 21 = .ok (.iconst 2, 1) := by decide +kernel
theorem dL_grainsAt_22 : decode cL_grainsAt 22 = .ok (.ireturn, 1) := by decide +kernel
theorem dL_grainsAt_23 : decode cL_grainsAt 23 = .ok (.iconst 0, 1) := by decide +kernel
theorem dL_grainsAt_24 : decode cL_grainsAt 24 = .ok (.ireturn, 1) := by decide +kernel
theorem ml_L_75 : gMV RL 75 yX10_grainsAt cX10_grainsAt 5 (some .int) 3 := ⟨⟨wg_t 978 (by decide +kernel) (by decide +kernel), wg_t 981 (by decide +kernel) (by decide +kernel), wg_t 1 (by decide +kernel) (by decide +kernel), by decide +kernel⟩, wg_t 979 (by decide +kernel) (by decide +kernel), wg_t 980 (by decide +kernel) (by decide +kernel)⟩
abbrev hhL_grainsAt : List (Nat × Nat × Nat × Nat) := [(0, 12, 15, 21), (0, 12, 19, 13)]
theorem mw_L_263 : gML RL 263 yL_grainsAt cL_grainsAt 6 hhL_grainsAt 5 := ⟨wg_t 975 (by decide +kernel) (by decide +kernel), wg_t 977 (by decide +kernel) (by decide +kernel), wg_t 0 (by decide +kernel) (by decide +kernel), by decide +kernel, wg_t 976 (by decide +kernel) (by decide +kernel)⟩
abbrev rmL_grainsAt : Room := { frames := 8, cells := 2, slots := 12, locals := 165 }
set_option maxHeartbeats 4000000 in
set_option maxRecDepth 100000 in
theorem metL_grainsAt {l : Launch} {s0 : State} {b B : Nat} {D : va_G} {T : Nat → ClassId} (F : FX l s0 b D T B) {X : Nat → Prop} (hX : ∀ o, o < 561 → ¬ X (B + o)) {ob : Nat} (hob : X ob) {f : Nat → Int64} {N : Nat} {μ : Mem} {cap : Nat} {t : List Nat} {a1 : Int32} {a2 : Int32} {a3 : Int32} {r : Mem × (Nat ⊕ Int32)} (h : fX10_grainsAt N μ 0 a1 a2 a3 = some r) (hL : ∀ k, r.2 = .inl k → k = 0 ∨ k = 1) : gMetH l yL_grainsAt cL_grainsAt 6 hhL_grainsAt rmL_grainsAt [.ref (B + 0), .int a1, .int a2, .int a3, .ref ob] (gWL s0 D T B X μ cap t ob f) (KC s0 X) (some (.int (kL [0, 1] r.2))) (gWL s0 D T B X r.1 cap t ob (upI f r.2)) (gAo B X ob) 2 12 := by
  refine gMetH_of RL (by decide +kernel) rfl (Nat.le_of_ble_eq_true rfl) ?_
  intro p e s m below meth c ls hx hb hr hlocks hml hown hts htab hW hk hl hS
  have hC := FX_C F hk hx hb hown hts
  have hl : lv_has ls 6 [(0, .ref (B + 0)), (1, .int a1), (2, .int a2), (3, .int a3), (4, .ref ob)] := hl
  have hS0 : va_S (gA B X) s.heap s.heap [] := va_S.rf
  refine lv_aload hx hb dL_grainsAt_0 (lv_at hl 4 rfl) ?_
  refine lv_iconst (v := 0) hx hb dL_grainsAt_2 (by decide) ?_
  refine lv_aload_n hx hb dL_grainsAt_3 rfl (lv_at hl 0 rfl) ?_
  refine lv_iload_n hx hb dL_grainsAt_4 rfl (lv_at hl 1 rfl) ?_
  refine lv_iload_n hx hb dL_grainsAt_5 rfl (lv_at hl 2 rfl) ?_
  refine lv_iload_n hx hb dL_grainsAt_6 rfl (lv_at hl 3 rfl) ?_
  refine gs_callXV (As := [.int a1, .int a2, .int a3]) F hX hk hC hml hS0 hW.1 (fun X9 hX9 => metX10_grainsAt F hX9 is_Ga h) ml_L_75 (gw_recv hC hW.1.1 is_Ga.1 (is_Ga.2.2.1 (gfm s0) T B (μ 0)) rfl) ⟨rfl, rfl, (Nat.le_of_ble_eq_true rfl), (Nat.le_of_ble_eq_true rfl)⟩ rfl hl.1 rfl (Nat.le_of_ble_eq_true rfl) dL_grainsAt_7 ⟨(Nat.le_of_ble_eq_true rfl), (Nat.le_of_ble_eq_true rfl)⟩ (fun v9 ho H1 locs1 hW1 hS1 => ?_) (fun k9 ho H1 locs1 q9 ce9 hW1 hS1 hce hvm hcl => ?_)
  · obtain ⟨x9, hv9, rfl⟩ := oI_r ho
    refine lv_i2l hx hb dL_grainsAt_10 rfl ?_
    refine gl_last hC (at_keep hob hW.2 hS1) hS1.gAo (Or.inr rfl) dL_grainsAt_11 (fun H2 locs2 g1 g2 g3 g4 => ?_)
    refine lv_goto (tgt := 23) hx hb dL_grainsAt_12 (by decide) ?_
    refine lv_iconst (v := 0) hx hb dL_grainsAt_23 (by decide) ?_
    have e9 : kL [0, 1] r.2 = 0 := by rw [hv9]; rfl
    rw [e9]
    exact gw_iret hx hb hr hlocks ⟨gWS_keep hX hob hW1 g3, by rw [hv9]; exact g1⟩ g4 (Nat.le_of_eq (Nat.zero_add _)) (Nat.le_of_eq (Nat.zero_add _)) dL_grainsAt_24
  · have hv9 := oI_l ho
    rcases hL _ hv9 with rfl | rfl
    · refine vx_catch hown [] ⟨0, 12, 15, 21⟩ [⟨0, 12, 19, 13⟩] (htab.trans rfl) (fun z hz => by cases hz) (by decide) (by decide) (hts _ kl_L_21) (FX_cs F hk cs_0) hce hvm hcl ?_
      refine lv_astore hx hb dL_grainsAt_15 hl (by decide) rfl (fun ls9 hl9 => ?_)
      refine lv_iconst (v := 1) hx hb dL_grainsAt_17 (by decide) ?_
      have e9 : kL [0, 1] r.2 = 1 := by rw [hv9]; decide
      rw [e9]
      exact gw_iret hx hb hr hlocks ⟨hW1, by rw [hv9]; exact at_keep hob hW.2 hS1⟩ hS1.gAo (Nat.le_of_eq (Nat.zero_add _)) (Nat.le_of_eq (Nat.zero_add _)) dL_grainsAt_18
    · refine vx_catch hown [⟨0, 12, 15, 21⟩] ⟨0, 12, 19, 13⟩ [] (htab.trans rfl) (fun z hz => by cases List.mem_singleton.mp hz; exact Or.inr ⟨by decide, _, hts _ kl_L_21, FX_nc F hk nc_1_0⟩) (by decide) (by decide) (hts _ kl_L_13) (FX_cs F hk cs_1) hce hvm hcl ?_
      refine lv_astore hx hb dL_grainsAt_19 hl (by decide) rfl (fun ls9 hl9 => ?_)
      refine lv_iconst (v := 2) hx hb dL_grainsAt_21 (by decide) ?_
      have e9 : kL [0, 1] r.2 = 2 := by rw [hv9]; decide
      rw [e9]
      exact gw_iret hx hb hr hlocks ⟨hW1, by rw [hv9]; exact at_keep hob hW.2 hS1⟩ hS1.gAo (Nat.le_of_eq (Nat.zero_add _)) (Nat.le_of_eq (Nat.zero_add _)) dL_grainsAt_22
theorem dL_grains_0 : decode cL_grains 0 = .ok (.aload_n 2, 1) := by decide +kernel
theorem dL_grains_1 : decode cL_grains 1 = .ok (.iconst 0, 1) := by decide +kernel
theorem dL_grains_2 : decode cL_grains 2 = .ok (.aload_n 0, 1) := by decide +kernel
theorem dL_grains_3 : decode cL_grains 3 = .ok (.iload_n 1, 1) := by decide +kernel
theorem dL_grains_4 : decode cL_grains 4 = .ok (.invokevirtual 78, 3) := by decide +kernel
theorem dL_grains_7 : decode cL_grains 7 = .ok (.i2l, 1) := by decide +kernel
theorem dL_grains_8 : decode cL_grains 8 = .ok (.lastore, 1) := by decide +kernel
theorem dL_grains_9 : decode cL_grains 9 = .ok (.goto 6, 3) := by decide +kernel
theorem dL_grains_12 : decode cL_grains 12 = .ok (.astore_n 3, 1) := by decide +kernel
theorem dL_grains_13 : decode cL_grains 13 = .ok (.iconst 1, 1) := by decide +kernel
theorem dL_grains_14 : decode cL_grains 14 = .ok (.ireturn, 1) := by decide +kernel
theorem dL_grains_15 : decode cL_grains 15 = .ok (.iconst 0, 1) := by decide +kernel
theorem dL_grains_16 : decode cL_grains 16 = .ok (.ireturn, 1) := by decide +kernel
theorem ml_L_78 : gMV RL 78 yX10_grains cX10_grains 2 (some .int) 1 := ⟨⟨wg_t 985 (by decide +kernel) (by decide +kernel), wg_t 988 (by decide +kernel) (by decide +kernel), wg_t 1 (by decide +kernel) (by decide +kernel), by decide +kernel⟩, wg_t 986 (by decide +kernel) (by decide +kernel), wg_t 987 (by decide +kernel) (by decide +kernel)⟩
abbrev hhL_grains : List (Nat × Nat × Nat × Nat) := [(0, 9, 12, 21)]
theorem mw_L_266 : gML RL 266 yL_grains cL_grains 4 hhL_grains 3 := ⟨wg_t 982 (by decide +kernel) (by decide +kernel), wg_t 984 (by decide +kernel) (by decide +kernel), wg_t 0 (by decide +kernel) (by decide +kernel), by decide +kernel, wg_t 983 (by decide +kernel) (by decide +kernel)⟩
abbrev rmL_grains : Room := { frames := 8, cells := 1, slots := 6, locals := 162 }
set_option maxHeartbeats 4000000 in
set_option maxRecDepth 100000 in
theorem metL_grains {l : Launch} {s0 : State} {b B : Nat} {D : va_G} {T : Nat → ClassId} (F : FX l s0 b D T B) {X : Nat → Prop} (hX : ∀ o, o < 561 → ¬ X (B + o)) {ob : Nat} (hob : X ob) {f : Nat → Int64} {N : Nat} {μ : Mem} {cap : Nat} {t : List Nat} {a1 : Int32} {r : Mem × (Nat ⊕ Int32)} (h : fX10_grains N μ 0 a1 = some r) (hL : ∀ k, r.2 = .inl k → k = 0) : gMetH l yL_grains cL_grains 4 hhL_grains rmL_grains [.ref (B + 0), .int a1, .ref ob] (gWL s0 D T B X μ cap t ob f) (KC s0 X) (some (.int (kL [0] r.2))) (gWL s0 D T B X r.1 cap t ob (upI f r.2)) (gAo B X ob) 1 6 := by
  refine gMetH_of RL (by decide +kernel) rfl (Nat.le_of_ble_eq_true rfl) ?_
  intro p e s m below meth c ls hx hb hr hlocks hml hown hts htab hW hk hl hS
  have hC := FX_C F hk hx hb hown hts
  have hl : lv_has ls 4 [(0, .ref (B + 0)), (1, .int a1), (2, .ref ob)] := hl
  have hS0 : va_S (gA B X) s.heap s.heap [] := va_S.rf
  refine lv_aload_n hx hb dL_grains_0 rfl (lv_at hl 2 rfl) ?_
  refine lv_iconst (v := 0) hx hb dL_grains_1 (by decide) ?_
  refine lv_aload_n hx hb dL_grains_2 rfl (lv_at hl 0 rfl) ?_
  refine lv_iload_n hx hb dL_grains_3 rfl (lv_at hl 1 rfl) ?_
  refine gs_callXV (As := [.int a1]) F hX hk hC hml hS0 hW.1 (fun X9 hX9 => metX10_grains F hX9 is_Ga h) ml_L_78 (gw_recv hC hW.1.1 is_Ga.1 (is_Ga.2.2.1 (gfm s0) T B (μ 0)) rfl) ⟨rfl, rfl, (Nat.le_of_ble_eq_true rfl), (Nat.le_of_ble_eq_true rfl)⟩ rfl hl.1 rfl (Nat.le_of_ble_eq_true rfl) dL_grains_4 ⟨(Nat.le_of_ble_eq_true rfl), (Nat.le_of_ble_eq_true rfl)⟩ (fun v9 ho H1 locs1 hW1 hS1 => ?_) (fun k9 ho H1 locs1 q9 ce9 hW1 hS1 hce hvm hcl => ?_)
  · obtain ⟨x9, hv9, rfl⟩ := oI_r ho
    refine lv_i2l hx hb dL_grains_7 rfl ?_
    refine gl_last hC (at_keep hob hW.2 hS1) hS1.gAo (Or.inr rfl) dL_grains_8 (fun H2 locs2 g1 g2 g3 g4 => ?_)
    refine lv_goto (tgt := 15) hx hb dL_grains_9 (by decide) ?_
    refine lv_iconst (v := 0) hx hb dL_grains_15 (by decide) ?_
    have e9 : kL [0] r.2 = 0 := by rw [hv9]; rfl
    rw [e9]
    exact gw_iret hx hb hr hlocks ⟨gWS_keep hX hob hW1 g3, by rw [hv9]; exact g1⟩ g4 (Nat.le_of_eq (Nat.zero_add _)) (Nat.le_of_eq (Nat.zero_add _)) dL_grains_16
  · have hv9 := oI_l ho
    obtain rfl := hL _ hv9
    refine vx_catch hown [] ⟨0, 9, 12, 21⟩ [] (htab.trans rfl) (fun z hz => by cases hz) (by decide) (by decide) (hts _ kl_L_21) (FX_cs F hk cs_0) hce hvm hcl ?_
    refine lv_astore_n hx hb dL_grains_12 rfl hl (by decide) rfl (fun ls9 hl9 => ?_)
    refine lv_iconst (v := 1) hx hb dL_grains_13 (by decide) ?_
    have e9 : kL [0] r.2 = 1 := by rw [hv9]; decide
    rw [e9]
    exact gw_iret hx hb hr hlocks ⟨hW1, by rw [hv9]; exact at_keep hob hW.2 hS1⟩ hS1.gAo (Nat.le_of_eq (Nat.zero_add _)) (Nat.le_of_eq (Nat.zero_add _)) dL_grains_14
theorem dL_lasts_0 : decode cL_lasts 0 = .ok (.aload_n 2, 1) := by decide +kernel
theorem dL_lasts_1 : decode cL_lasts 1 = .ok (.iconst 0, 1) := by decide +kernel
theorem dL_lasts_2 : decode cL_lasts 2 = .ok (.aload_n 0, 1) := by decide +kernel
theorem dL_lasts_3 : decode cL_lasts 3 = .ok (.iload_n 1, 1) := by decide +kernel
theorem dL_lasts_4 : decode cL_lasts 4 = .ok (.invokevirtual 81, 3) := by decide +kernel
theorem dL_lasts_7 : decode cL_lasts 7 = .ok (.ifCond .eq 7, 3) := by decide +kernel
theorem dL_lasts_10 : decode cL_lasts 10 = .ok (.lconst 1, 1) := by decide +kernel
theorem dL_lasts_11 : decode cL_lasts 11 = .ok (.goto 4, 3) := by decide +kernel
theorem dL_lasts_14 : decode cL_lasts 14 = .ok (.lconst 0, 1) := by decide +kernel
theorem dL_lasts_15 : decode cL_lasts 15 = .ok (.lastore, 1) := by decide +kernel
theorem dL_lasts_16 : decode cL_lasts 16 = .ok (.goto 6, 3) := by decide +kernel
theorem dL_lasts_19 : decode cL_lasts 19 = .ok (.astore_n 3, 1) := by decide +kernel
theorem dL_lasts_20 : decode cL_lasts 20 = .ok (.iconst 1, 1) := by decide +kernel
theorem dL_lasts_21 : decode cL_lasts 21 = .ok (.ireturn, 1) := by decide +kernel
theorem dL_lasts_22 : decode cL_lasts 22 = .ok (.iconst 0, 1) := by decide +kernel
theorem dL_lasts_23 : decode cL_lasts 23 = .ok (.ireturn, 1) := by decide +kernel
theorem ml_L_81 : gMV RL 81 yX10_lasts cX10_lasts 2 (some .boolean) 1 := ⟨⟨wg_t 992 (by decide +kernel) (by decide +kernel), wg_t 995 (by decide +kernel) (by decide +kernel), wg_t 1 (by decide +kernel) (by decide +kernel), by decide +kernel⟩, wg_t 993 (by decide +kernel) (by decide +kernel), wg_t 994 (by decide +kernel) (by decide +kernel)⟩
abbrev hhL_lasts : List (Nat × Nat × Nat × Nat) := [(0, 16, 19, 21)]
theorem mw_L_269 : gML RL 269 yL_lasts cL_lasts 4 hhL_lasts 3 := ⟨wg_t 989 (by decide +kernel) (by decide +kernel), wg_t 991 (by decide +kernel) (by decide +kernel), wg_t 0 (by decide +kernel) (by decide +kernel), by decide +kernel, wg_t 990 (by decide +kernel) (by decide +kernel)⟩
abbrev rmL_lasts : Room := { frames := 8, cells := 1, slots := 6, locals := 162 }
set_option maxHeartbeats 4000000 in
set_option maxRecDepth 100000 in
theorem metL_lasts {l : Launch} {s0 : State} {b B : Nat} {D : va_G} {T : Nat → ClassId} (F : FX l s0 b D T B) {X : Nat → Prop} (hX : ∀ o, o < 561 → ¬ X (B + o)) {ob : Nat} (hob : X ob) {f : Nat → Int64} {N : Nat} {μ : Mem} {cap : Nat} {t : List Nat} {a1 : Int32} {r : Mem × (Nat ⊕ Bool)} (h : fX10_lasts N μ 0 a1 = some r) (hL : ∀ k, r.2 = .inl k → k = 0) : gMetH l yL_lasts cL_lasts 4 hhL_lasts rmL_lasts [.ref (B + 0), .int a1, .ref ob] (gWL s0 D T B X μ cap t ob f) (KC s0 X) (some (.int (kL [0] r.2))) (gWL s0 D T B X r.1 cap t ob (upZ f r.2)) (gAo B X ob) 1 6 := by
  refine gMetH_of RL (by decide +kernel) rfl (Nat.le_of_ble_eq_true rfl) ?_
  intro p e s m below meth c ls hx hb hr hlocks hml hown hts htab hW hk hl hS
  have hC := FX_C F hk hx hb hown hts
  have hl : lv_has ls 4 [(0, .ref (B + 0)), (1, .int a1), (2, .ref ob)] := hl
  have hS0 : va_S (gA B X) s.heap s.heap [] := va_S.rf
  refine lv_aload_n hx hb dL_lasts_0 rfl (lv_at hl 2 rfl) ?_
  refine lv_iconst (v := 0) hx hb dL_lasts_1 (by decide) ?_
  refine lv_aload_n hx hb dL_lasts_2 rfl (lv_at hl 0 rfl) ?_
  refine lv_iload_n hx hb dL_lasts_3 rfl (lv_at hl 1 rfl) ?_
  refine gs_callXV (As := [.int a1]) F hX hk hC hml hS0 hW.1 (fun X9 hX9 => metX10_lasts F hX9 is_Ga h) ml_L_81 (gw_recv hC hW.1.1 is_Ga.1 (is_Ga.2.2.1 (gfm s0) T B (μ 0)) rfl) ⟨rfl, rfl, (Nat.le_of_ble_eq_true rfl), (Nat.le_of_ble_eq_true rfl)⟩ rfl hl.1 rfl (Nat.le_of_ble_eq_true rfl) dL_lasts_4 ⟨(Nat.le_of_ble_eq_true rfl), (Nat.le_of_ble_eq_true rfl)⟩ (fun v9 ho H1 locs1 hW1 hS1 => ?_) (fun k9 ho H1 locs1 q9 ce9 hW1 hS1 hce hvm hcl => ?_)
  · obtain ⟨x9, hv9, rfl⟩ := oZ_r ho
    refine gw_if_eqZ (tgt := 14) hx hb dL_lasts_7 (by decide) (fun c9 => ?_) (fun c9 => ?_)
    · cases c9
      refine lv_lconst (v := 0) hx hb dL_lasts_14 (by decide) ?_
      refine gl_last hC (at_keep hob hW.2 hS1) hS1.gAo (Or.inr rfl) dL_lasts_15 (fun H2 locs2 g1 g2 g3 g4 => ?_)
      refine lv_goto (tgt := 22) hx hb dL_lasts_16 (by decide) ?_
      refine lv_iconst (v := 0) hx hb dL_lasts_22 (by decide) ?_
      have e9 : kL [0] r.2 = 0 := by rw [hv9]; rfl
      rw [e9]
      exact gw_iret hx hb hr hlocks ⟨gWS_keep hX hob hW1 g3, by rw [hv9]; exact g1⟩ g4 (Nat.le_of_eq (Nat.zero_add _)) (Nat.le_of_eq (Nat.zero_add _)) dL_lasts_23
    · cases c9
      refine lv_lconst (v := 1) hx hb dL_lasts_10 (by decide) ?_
      refine lv_goto (tgt := 15) hx hb dL_lasts_11 (by decide) ?_
      refine gl_last hC (at_keep hob hW.2 hS1) hS1.gAo (Or.inr rfl) dL_lasts_15 (fun H2 locs2 g1 g2 g3 g4 => ?_)
      refine lv_goto (tgt := 22) hx hb dL_lasts_16 (by decide) ?_
      refine lv_iconst (v := 0) hx hb dL_lasts_22 (by decide) ?_
      have e9 : kL [0] r.2 = 0 := by rw [hv9]; rfl
      rw [e9]
      exact gw_iret hx hb hr hlocks ⟨gWS_keep hX hob hW1 g3, by rw [hv9]; exact g1⟩ g4 (Nat.le_of_eq (Nat.zero_add _)) (Nat.le_of_eq (Nat.zero_add _)) dL_lasts_23
  · have hv9 := oZ_l ho
    obtain rfl := hL _ hv9
    refine vx_catch hown [] ⟨0, 16, 19, 21⟩ [] (htab.trans rfl) (fun z hz => by cases hz) (by decide) (by decide) (hts _ kl_L_21) (FX_cs F hk cs_0) hce hvm hcl ?_
    refine lv_astore_n hx hb dL_lasts_19 rfl hl (by decide) rfl (fun ls9 hl9 => ?_)
    refine lv_iconst (v := 1) hx hb dL_lasts_20 (by decide) ?_
    have e9 : kL [0] r.2 = 1 := by rw [hv9]; decide
    rw [e9]
    exact gw_iret hx hb hr hlocks ⟨hW1, by rw [hv9]; exact at_keep hob hW.2 hS1⟩ hS1.gAo (Nat.le_of_eq (Nat.zero_add _)) (Nat.le_of_eq (Nat.zero_add _)) dL_lasts_21
theorem dL_lastsByToppling_0 : decode cL_lastsByToppling 0 = .ok (.aload_n 2, 1) := by decide +kernel
theorem dL_lastsByToppling_1 : decode cL_lastsByToppling 1 = .ok (.iconst 0, 1) := by decide +kernel
theorem dL_lastsByToppling_2 : decode cL_lastsByToppling 2 = .ok (.aload_n 0, 1) := by decide +kernel
theorem dL_lastsByToppling_3 : decode cL_lastsByToppling 3 = .ok (.iload_n 1, 1) := by decide +kernel
theorem dL_lastsByToppling_4 : decode cL_lastsByToppling 4 = .ok (.invokevirtual 85, 3) := by decide +kernel
theorem dL_lastsByToppling_7 : decode cL_lastsByToppling 7 = .ok (.ifCond .eq 7, 3) := by decide +kernel
theorem dL_lastsByToppling_10 : decode cL_lastsByToppling 10 = .ok (.lconst 1, 1) := by decide +kernel
theorem dL_lastsByToppling_11 : decode cL_lastsByToppling 11 = .ok (.goto 4, 3) := by decide +kernel
theorem dL_lastsByToppling_14 : decode cL_lastsByToppling 14 = .ok (.lconst 0, 1) := by decide +kernel
theorem dL_lastsByToppling_15 : decode cL_lastsByToppling 15 = .ok (.lastore, 1) := by decide +kernel
theorem dL_lastsByToppling_16 : decode cL_lastsByToppling 16 = .ok (.goto 6, 3) := by decide +kernel
theorem dL_lastsByToppling_19 : decode cL_lastsByToppling 19 = .ok (.astore_n 3, 1) := by decide +kernel
theorem dL_lastsByToppling_20 : decode cL_lastsByToppling 20 = .ok (.iconst 1, 1) := by decide +kernel
theorem dL_lastsByToppling_21 : decode cL_lastsByToppling 21 = .ok (.ireturn, 1) := by decide +kernel
theorem dL_lastsByToppling_22 : decode cL_lastsByToppling 22 = .ok (.iconst 0, 1) := by decide +kernel
theorem dL_lastsByToppling_23 : decode cL_lastsByToppling 23 = .ok (.ireturn, 1) := by decide +kernel
theorem ml_L_85 : gMV RL 85 yX10_lastsByToppling cX10_lastsByToppling 2 (some .boolean) 1 := ⟨⟨wg_t 999 (by decide +kernel) (by decide +kernel), wg_t 1002 (by decide +kernel) (by decide +kernel), wg_t 1 (by decide +kernel) (by decide +kernel), by decide +kernel⟩, wg_t 1000 (by decide +kernel) (by decide +kernel), wg_t 1001 (by decide +kernel) (by decide +kernel)⟩
abbrev hhL_lastsByToppling : List (Nat × Nat × Nat × Nat) := [(0, 16, 19, 21)]
theorem mw_L_272 : gML RL 272 yL_lastsByToppling cL_lastsByToppling 4 hhL_lastsByToppling 3 := ⟨wg_t 996 (by decide +kernel) (by decide +kernel), wg_t 998 (by decide +kernel) (by decide +kernel), wg_t 0 (by decide +kernel) (by decide +kernel), by decide +kernel, wg_t 997 (by decide +kernel) (by decide +kernel)⟩
abbrev rmL_lastsByToppling : Room := { frames := 8, cells := 1, slots := 6, locals := 173 }
set_option maxHeartbeats 4000000 in
set_option maxRecDepth 100000 in
theorem metL_lastsByToppling {l : Launch} {s0 : State} {b B : Nat} {D : va_G} {T : Nat → ClassId} (F : FX l s0 b D T B) {X : Nat → Prop} (hX : ∀ o, o < 561 → ¬ X (B + o)) {ob : Nat} (hob : X ob) {f : Nat → Int64} {N : Nat} {μ : Mem} {cap : Nat} {t : List Nat} {a1 : Int32} {r : Mem × (Nat ⊕ Bool)} (h : fX10_lastsByToppling N μ 0 a1 = some r) (hL : ∀ k, r.2 = .inl k → k = 0) : gMetH l yL_lastsByToppling cL_lastsByToppling 4 hhL_lastsByToppling rmL_lastsByToppling [.ref (B + 0), .int a1, .ref ob] (gWL s0 D T B X μ cap t ob f) (KC s0 X) (some (.int (kL [0] r.2))) (gWL s0 D T B X r.1 cap t ob (upZ f r.2)) (gAo B X ob) 1 6 := by
  refine gMetH_of RL (by decide +kernel) rfl (Nat.le_of_ble_eq_true rfl) ?_
  intro p e s m below meth c ls hx hb hr hlocks hml hown hts htab hW hk hl hS
  have hC := FX_C F hk hx hb hown hts
  have hl : lv_has ls 4 [(0, .ref (B + 0)), (1, .int a1), (2, .ref ob)] := hl
  have hS0 : va_S (gA B X) s.heap s.heap [] := va_S.rf
  refine lv_aload_n hx hb dL_lastsByToppling_0 rfl (lv_at hl 2 rfl) ?_
  refine lv_iconst (v := 0) hx hb dL_lastsByToppling_1 (by decide) ?_
  refine lv_aload_n hx hb dL_lastsByToppling_2 rfl (lv_at hl 0 rfl) ?_
  refine lv_iload_n hx hb dL_lastsByToppling_3 rfl (lv_at hl 1 rfl) ?_
  refine gs_callXV (As := [.int a1]) F hX hk hC hml hS0 hW.1 (fun X9 hX9 => metX10_lastsByToppling F hX9 is_Ga h) ml_L_85 (gw_recv hC hW.1.1 is_Ga.1 (is_Ga.2.2.1 (gfm s0) T B (μ 0)) rfl) ⟨rfl, rfl, (Nat.le_of_ble_eq_true rfl), (Nat.le_of_ble_eq_true rfl)⟩ rfl hl.1 rfl (Nat.le_of_ble_eq_true rfl) dL_lastsByToppling_4 ⟨(Nat.le_of_ble_eq_true rfl), (Nat.le_of_ble_eq_true rfl)⟩ (fun v9 ho H1 locs1 hW1 hS1 => ?_) (fun k9 ho H1 locs1 q9 ce9 hW1 hS1 hce hvm hcl => ?_)
  · obtain ⟨x9, hv9, rfl⟩ := oZ_r ho
    refine gw_if_eqZ (tgt := 14) hx hb dL_lastsByToppling_7 (by decide) (fun c9 => ?_) (fun c9 => ?_)
    · cases c9
      refine lv_lconst (v := 0) hx hb dL_lastsByToppling_14 (by decide) ?_
      refine gl_last hC (at_keep hob hW.2 hS1) hS1.gAo (Or.inr rfl) dL_lastsByToppling_15 (fun H2 locs2 g1 g2 g3 g4 => ?_)
      refine lv_goto (tgt := 22) hx hb dL_lastsByToppling_16 (by decide) ?_
      refine lv_iconst (v := 0) hx hb dL_lastsByToppling_22 (by decide) ?_
      have e9 : kL [0] r.2 = 0 := by rw [hv9]; rfl
      rw [e9]
      exact gw_iret hx hb hr hlocks ⟨gWS_keep hX hob hW1 g3, by rw [hv9]; exact g1⟩ g4 (Nat.le_of_eq (Nat.zero_add _)) (Nat.le_of_eq (Nat.zero_add _)) dL_lastsByToppling_23
    · cases c9
      refine lv_lconst (v := 1) hx hb dL_lastsByToppling_10 (by decide) ?_
      refine lv_goto (tgt := 15) hx hb dL_lastsByToppling_11 (by decide) ?_
      refine gl_last hC (at_keep hob hW.2 hS1) hS1.gAo (Or.inr rfl) dL_lastsByToppling_15 (fun H2 locs2 g1 g2 g3 g4 => ?_)
      refine lv_goto (tgt := 22) hx hb dL_lastsByToppling_16 (by decide) ?_
      refine lv_iconst (v := 0) hx hb dL_lastsByToppling_22 (by decide) ?_
      have e9 : kL [0] r.2 = 0 := by rw [hv9]; rfl
      rw [e9]
      exact gw_iret hx hb hr hlocks ⟨gWS_keep hX hob hW1 g3, by rw [hv9]; exact g1⟩ g4 (Nat.le_of_eq (Nat.zero_add _)) (Nat.le_of_eq (Nat.zero_add _)) dL_lastsByToppling_23
  · have hv9 := oZ_l ho
    obtain rfl := hL _ hv9
    refine vx_catch hown [] ⟨0, 16, 19, 21⟩ [] (htab.trans rfl) (fun z hz => by cases hz) (by decide) (by decide) (hts _ kl_L_21) (FX_cs F hk cs_0) hce hvm hcl ?_
    refine lv_astore_n hx hb dL_lastsByToppling_19 rfl hl (by decide) rfl (fun ls9 hl9 => ?_)
    refine lv_iconst (v := 1) hx hb dL_lastsByToppling_20 (by decide) ?_
    have e9 : kL [0] r.2 = 1 := by rw [hv9]; decide
    rw [e9]
    exact gw_iret hx hb hr hlocks ⟨hW1, by rw [hv9]; exact at_keep hob hW.2 hS1⟩ hS1.gAo (Nat.le_of_eq (Nat.zero_add _)) (Nat.le_of_eq (Nat.zero_add _)) dL_lastsByToppling_21
theorem dL_longestSlope_0 : decode cL_longestSlope 0 = .ok (.aload_n 2, 1) := by decide +kernel
theorem dL_longestSlope_1 : decode cL_longestSlope 1 = .ok (.iconst 0, 1) := by decide +kernel
theorem dL_longestSlope_2 : decode cL_longestSlope 2 = .ok (.aload_n 0, 1) := by decide +kernel
theorem dL_longestSlope_3 : decode cL_longestSlope 3 = .ok (.iload_n 1, 1) := by decide +kernel
theorem dL_longestSlope_4 : decode cL_longestSlope 4 = .ok (.invokevirtual 88, 3) := by decide +kernel
theorem dL_longestSlope_7 : decode cL_longestSlope 7 = .ok (.i2l, 1) := by decide +kernel
theorem dL_longestSlope_8 : decode cL_longestSlope 8 = .ok (.lastore, 1) := by decide +kernel
theorem dL_longestSlope_9 : decode cL_longestSlope 9 = .ok (.goto 6, 3) := by decide +kernel
theorem dL_longestSlope_12 : decode cL_longestSlope 12 = .ok (.astore_n 3, 1) := by decide +kernel
theorem dL_longestSlope_13 : decode cL_longestSlope 13 = .ok (.iconst 1, 1) := by decide +kernel
theorem dL_longestSlope_14 : decode cL_longestSlope 14 = .ok (.ireturn, 1) := by decide +kernel
theorem dL_longestSlope_15 : decode cL_longestSlope 15 = .ok (.iconst 0, 1) := by decide +kernel
theorem dL_longestSlope_16 : decode cL_longestSlope 16 = .ok (.ireturn, 1) := by decide +kernel
theorem ml_L_88 : gMV RL 88 yX10_longestSlope cX10_longestSlope 2 (some .int) 1 := ⟨⟨wg_t 1006 (by decide +kernel) (by decide +kernel), wg_t 1009 (by decide +kernel) (by decide +kernel), wg_t 1 (by decide +kernel) (by decide +kernel), by decide +kernel⟩, wg_t 1007 (by decide +kernel) (by decide +kernel), wg_t 1008 (by decide +kernel) (by decide +kernel)⟩
abbrev hhL_longestSlope : List (Nat × Nat × Nat × Nat) := [(0, 9, 12, 21)]
theorem mw_L_275 : gML RL 275 yL_longestSlope cL_longestSlope 4 hhL_longestSlope 3 := ⟨wg_t 1003 (by decide +kernel) (by decide +kernel), wg_t 1005 (by decide +kernel) (by decide +kernel), wg_t 0 (by decide +kernel) (by decide +kernel), by decide +kernel, wg_t 1004 (by decide +kernel) (by decide +kernel)⟩
abbrev rmL_longestSlope : Room := { frames := 23, cells := 1, slots := 6, locals := 1171 }
set_option maxHeartbeats 4000000 in
set_option maxRecDepth 100000 in
theorem metL_longestSlope {l : Launch} {s0 : State} {b B : Nat} {D : va_G} {T : Nat → ClassId} (F : FX l s0 b D T B) {X : Nat → Prop} (hX : ∀ o, o < 561 → ¬ X (B + o)) {ob : Nat} (hob : X ob) {f : Nat → Int64} {N : Nat} {μ : Mem} {cap : Nat} {t : List Nat} {a1 : Int32} {r : Mem × (Nat ⊕ Int32)} (h : fX10_longestSlope N μ 0 a1 = some r) (hL : ∀ k, r.2 = .inl k → k = 0) : gMetH l yL_longestSlope cL_longestSlope 4 hhL_longestSlope rmL_longestSlope [.ref (B + 0), .int a1, .ref ob] (gWL s0 D T B X μ cap t ob f) (KC s0 X) (some (.int (kL [0] r.2))) (gWL s0 D T B X r.1 cap t ob (upI f r.2)) (gAo B X ob) 1 6 := by
  refine gMetH_of RL (by decide +kernel) rfl (Nat.le_of_ble_eq_true rfl) ?_
  intro p e s m below meth c ls hx hb hr hlocks hml hown hts htab hW hk hl hS
  have hC := FX_C F hk hx hb hown hts
  have hl : lv_has ls 4 [(0, .ref (B + 0)), (1, .int a1), (2, .ref ob)] := hl
  have hS0 : va_S (gA B X) s.heap s.heap [] := va_S.rf
  refine lv_aload_n hx hb dL_longestSlope_0 rfl (lv_at hl 2 rfl) ?_
  refine lv_iconst (v := 0) hx hb dL_longestSlope_1 (by decide) ?_
  refine lv_aload_n hx hb dL_longestSlope_2 rfl (lv_at hl 0 rfl) ?_
  refine lv_iload_n hx hb dL_longestSlope_3 rfl (lv_at hl 1 rfl) ?_
  refine gs_callXV (As := [.int a1]) F hX hk hC hml hS0 hW.1 (fun X9 hX9 => metX10_longestSlope F hX9 is_Ga h) ml_L_88 (gw_recv hC hW.1.1 is_Ga.1 (is_Ga.2.2.1 (gfm s0) T B (μ 0)) rfl) ⟨rfl, rfl, (Nat.le_of_ble_eq_true rfl), (Nat.le_of_ble_eq_true rfl)⟩ rfl hl.1 rfl (Nat.le_of_ble_eq_true rfl) dL_longestSlope_4 ⟨(Nat.le_of_ble_eq_true rfl), (Nat.le_of_ble_eq_true rfl)⟩ (fun v9 ho H1 locs1 hW1 hS1 => ?_) (fun k9 ho H1 locs1 q9 ce9 hW1 hS1 hce hvm hcl => ?_)
  · obtain ⟨x9, hv9, rfl⟩ := oI_r ho
    refine lv_i2l hx hb dL_longestSlope_7 rfl ?_
    refine gl_last hC (at_keep hob hW.2 hS1) hS1.gAo (Or.inr rfl) dL_longestSlope_8 (fun H2 locs2 g1 g2 g3 g4 => ?_)
    refine lv_goto (tgt := 15) hx hb dL_longestSlope_9 (by decide) ?_
    refine lv_iconst (v := 0) hx hb dL_longestSlope_15 (by decide) ?_
    have e9 : kL [0] r.2 = 0 := by rw [hv9]; rfl
    rw [e9]
    exact gw_iret hx hb hr hlocks ⟨gWS_keep hX hob hW1 g3, by rw [hv9]; exact g1⟩ g4 (Nat.le_of_eq (Nat.zero_add _)) (Nat.le_of_eq (Nat.zero_add _)) dL_longestSlope_16
  · have hv9 := oI_l ho
    obtain rfl := hL _ hv9
    refine vx_catch hown [] ⟨0, 9, 12, 21⟩ [] (htab.trans rfl) (fun z hz => by cases hz) (by decide) (by decide) (hts _ kl_L_21) (FX_cs F hk cs_0) hce hvm hcl ?_
    refine lv_astore_n hx hb dL_longestSlope_12 rfl hl (by decide) rfl (fun ls9 hl9 => ?_)
    refine lv_iconst (v := 1) hx hb dL_longestSlope_13 (by decide) ?_
    have e9 : kL [0] r.2 = 1 := by rw [hv9]; decide
    rw [e9]
    exact gw_iret hx hb hr hlocks ⟨hW1, by rw [hv9]; exact at_keep hob hW.2 hS1⟩ hS1.gAo (Nat.le_of_eq (Nat.zero_add _)) (Nat.le_of_eq (Nat.zero_add _)) dL_longestSlope_14
theorem dL_longestSlopeByGrains_0 : decode cL_longestSlopeByGrains 0 = .ok (.aload_n 2, 1) := by decide +kernel
theorem dL_longestSlopeByGrains_1 : decode cL_longestSlopeByGrains 1 = .ok (.iconst 0, 1) := by decide +kernel
theorem dL_longestSlopeByGrains_2 : decode cL_longestSlopeByGrains 2 = .ok (.aload_n 0, 1) := by decide +kernel
theorem dL_longestSlopeByGrains_3 : decode cL_longestSlopeByGrains 3 = .ok (.iload_n 1, 1) := by decide +kernel
theorem dL_longestSlopeByGrains_4 : decode cL_longestSlopeByGrains 4 = .ok (.invokevirtual 91, 3) := by decide +kernel
theorem dL_longestSlopeByGrains_7 : decode cL_longestSlopeByGrains 7 = .ok (.i2l, 1) := by decide +kernel
theorem dL_longestSlopeByGrains_8 : decode cL_longestSlopeByGrains 8 = .ok (.lastore, 1) := by decide +kernel
theorem dL_longestSlopeByGrains_9 : decode cL_longestSlopeByGrains 9 = .ok (.goto 6, 3) := by decide +kernel
theorem dL_longestSlopeByGrains_12 : decode cL_longestSlopeByGrains 12 = .ok (.astore_n 3, 1) := by decide +kernel
theorem dL_longestSlopeByGrains_13 : decode cL_longestSlopeByGrains 13 = .ok (.iconst 1, 1) := by decide +kernel
theorem dL_longestSlopeByGrains_14 : decode cL_longestSlopeByGrains 14 = .ok (.ireturn, 1) := by decide +kernel
theorem dL_longestSlopeByGrains_15 : decode cL_longestSlopeByGrains 15 = .ok (.iconst 0, 1) := by decide +kernel
theorem dL_longestSlopeByGrains_16 : decode cL_longestSlopeByGrains 16 = .ok (.ireturn, 1) := by decide +kernel
theorem ml_L_91 : gMV RL 91 yX10_longestSlopeByGrains cX10_longestSlopeByGrains 2 (some .int) 1 := ⟨⟨wg_t 1013 (by decide +kernel) (by decide +kernel), wg_t 1016 (by decide +kernel) (by decide +kernel), wg_t 1 (by decide +kernel) (by decide +kernel), by decide +kernel⟩, wg_t 1014 (by decide +kernel) (by decide +kernel), wg_t 1015 (by decide +kernel) (by decide +kernel)⟩
abbrev hhL_longestSlopeByGrains : List (Nat × Nat × Nat × Nat) := [(0, 9, 12, 21)]
theorem mw_L_278 : gML RL 278 yL_longestSlopeByGrains cL_longestSlopeByGrains 4 hhL_longestSlopeByGrains 3 := ⟨wg_t 1010 (by decide +kernel) (by decide +kernel), wg_t 1012 (by decide +kernel) (by decide +kernel), wg_t 0 (by decide +kernel) (by decide +kernel), by decide +kernel, wg_t 1011 (by decide +kernel) (by decide +kernel)⟩
abbrev rmL_longestSlopeByGrains : Room := { frames := 8, cells := 1, slots := 6, locals := 162 }
set_option maxHeartbeats 4000000 in
set_option maxRecDepth 100000 in
theorem metL_longestSlopeByGrains {l : Launch} {s0 : State} {b B : Nat} {D : va_G} {T : Nat → ClassId} (F : FX l s0 b D T B) {X : Nat → Prop} (hX : ∀ o, o < 561 → ¬ X (B + o)) {ob : Nat} (hob : X ob) {f : Nat → Int64} {N : Nat} {μ : Mem} {cap : Nat} {t : List Nat} {a1 : Int32} {r : Mem × (Nat ⊕ Int32)} (h : fX10_longestSlopeByGrains N μ 0 a1 = some r) (hL : ∀ k, r.2 = .inl k → k = 0) : gMetH l yL_longestSlopeByGrains cL_longestSlopeByGrains 4 hhL_longestSlopeByGrains rmL_longestSlopeByGrains [.ref (B + 0), .int a1, .ref ob] (gWL s0 D T B X μ cap t ob f) (KC s0 X) (some (.int (kL [0] r.2))) (gWL s0 D T B X r.1 cap t ob (upI f r.2)) (gAo B X ob) 1 6 := by
  refine gMetH_of RL (by decide +kernel) rfl (Nat.le_of_ble_eq_true rfl) ?_
  intro p e s m below meth c ls hx hb hr hlocks hml hown hts htab hW hk hl hS
  have hC := FX_C F hk hx hb hown hts
  have hl : lv_has ls 4 [(0, .ref (B + 0)), (1, .int a1), (2, .ref ob)] := hl
  have hS0 : va_S (gA B X) s.heap s.heap [] := va_S.rf
  refine lv_aload_n hx hb dL_longestSlopeByGrains_0 rfl (lv_at hl 2 rfl) ?_
  refine lv_iconst (v := 0) hx hb dL_longestSlopeByGrains_1 (by decide) ?_
  refine lv_aload_n hx hb dL_longestSlopeByGrains_2 rfl (lv_at hl 0 rfl) ?_
  refine lv_iload_n hx hb dL_longestSlopeByGrains_3 rfl (lv_at hl 1 rfl) ?_
  refine gs_callXV (As := [.int a1]) F hX hk hC hml hS0 hW.1 (fun X9 hX9 => metX10_longestSlopeByGrains F hX9 is_Ga h) ml_L_91 (gw_recv hC hW.1.1 is_Ga.1 (is_Ga.2.2.1 (gfm s0) T B (μ 0)) rfl) ⟨rfl, rfl, (Nat.le_of_ble_eq_true rfl), (Nat.le_of_ble_eq_true rfl)⟩ rfl hl.1 rfl (Nat.le_of_ble_eq_true rfl) dL_longestSlopeByGrains_4 ⟨(Nat.le_of_ble_eq_true rfl), (Nat.le_of_ble_eq_true rfl)⟩ (fun v9 ho H1 locs1 hW1 hS1 => ?_) (fun k9 ho H1 locs1 q9 ce9 hW1 hS1 hce hvm hcl => ?_)
  · obtain ⟨x9, hv9, rfl⟩ := oI_r ho
    refine lv_i2l hx hb dL_longestSlopeByGrains_7 rfl ?_
    refine gl_last hC (at_keep hob hW.2 hS1) hS1.gAo (Or.inr rfl) dL_longestSlopeByGrains_8 (fun H2 locs2 g1 g2 g3 g4 => ?_)
    refine lv_goto (tgt := 15) hx hb dL_longestSlopeByGrains_9 (by decide) ?_
    refine lv_iconst (v := 0) hx hb dL_longestSlopeByGrains_15 (by decide) ?_
    have e9 : kL [0] r.2 = 0 := by rw [hv9]; rfl
    rw [e9]
    exact gw_iret hx hb hr hlocks ⟨gWS_keep hX hob hW1 g3, by rw [hv9]; exact g1⟩ g4 (Nat.le_of_eq (Nat.zero_add _)) (Nat.le_of_eq (Nat.zero_add _)) dL_longestSlopeByGrains_16
  · have hv9 := oI_l ho
    obtain rfl := hL _ hv9
    refine vx_catch hown [] ⟨0, 9, 12, 21⟩ [] (htab.trans rfl) (fun z hz => by cases hz) (by decide) (by decide) (hts _ kl_L_21) (FX_cs F hk cs_0) hce hvm hcl ?_
    refine lv_astore_n hx hb dL_longestSlopeByGrains_12 rfl hl (by decide) rfl (fun ls9 hl9 => ?_)
    refine lv_iconst (v := 1) hx hb dL_longestSlopeByGrains_13 (by decide) ?_
    have e9 : kL [0] r.2 = 1 := by rw [hv9]; decide
    rw [e9]
    exact gw_iret hx hb hr hlocks ⟨hW1, by rw [hv9]; exact at_keep hob hW.2 hS1⟩ hS1.gAo (Nat.le_of_eq (Nat.zero_add _)) (Nat.le_of_eq (Nat.zero_add _)) dL_longestSlopeByGrains_14
theorem dL_dropped_0 : decode cL_dropped 0 = .ok (.aload_n 2, 1) := by decide +kernel
theorem dL_dropped_1 : decode cL_dropped 1 = .ok (.iconst 0, 1) := by decide +kernel
theorem dL_dropped_2 : decode cL_dropped 2 = .ok (.aload_n 0, 1) := by decide +kernel
theorem dL_dropped_3 : decode cL_dropped 3 = .ok (.iload_n 1, 1) := by decide +kernel
theorem dL_dropped_4 : decode cL_dropped 4 = .ok (.invokevirtual 94, 3) := by decide +kernel
theorem dL_dropped_7 : decode cL_dropped 7 = .ok (.i2l, 1) := by decide +kernel
theorem dL_dropped_8 : decode cL_dropped 8 = .ok (.lastore, 1) := by decide +kernel
theorem dL_dropped_9 : decode cL_dropped 9 = .ok (.goto 6, 3) := by decide +kernel
theorem dL_dropped_12 : decode cL_dropped 12 = .ok (.astore_n 3, 1) := by decide +kernel
theorem dL_dropped_13 : decode cL_dropped 13 = .ok (.iconst 1, 1) := by decide +kernel
theorem dL_dropped_14 : decode cL_dropped 14 = .ok (.ireturn, 1) := by decide +kernel
theorem dL_dropped_15 : decode cL_dropped 15 = .ok (.iconst 0, 1) := by decide +kernel
theorem dL_dropped_16 : decode cL_dropped 16 = .ok (.ireturn, 1) := by decide +kernel
theorem ml_L_94 : gMV RL 94 yX10_dropped cX10_dropped 2 (some .int) 1 := ⟨⟨wg_t 1020 (by decide +kernel) (by decide +kernel), wg_t 1023 (by decide +kernel) (by decide +kernel), wg_t 1 (by decide +kernel) (by decide +kernel), by decide +kernel⟩, wg_t 1021 (by decide +kernel) (by decide +kernel), wg_t 1022 (by decide +kernel) (by decide +kernel)⟩
abbrev hhL_dropped : List (Nat × Nat × Nat × Nat) := [(0, 9, 12, 21)]
theorem mw_L_281 : gML RL 281 yL_dropped cL_dropped 4 hhL_dropped 3 := ⟨wg_t 1017 (by decide +kernel) (by decide +kernel), wg_t 1019 (by decide +kernel) (by decide +kernel), wg_t 0 (by decide +kernel) (by decide +kernel), by decide +kernel, wg_t 1018 (by decide +kernel) (by decide +kernel)⟩
abbrev rmL_dropped : Room := { frames := 8, cells := 1, slots := 6, locals := 162 }
set_option maxHeartbeats 4000000 in
set_option maxRecDepth 100000 in
theorem metL_dropped {l : Launch} {s0 : State} {b B : Nat} {D : va_G} {T : Nat → ClassId} (F : FX l s0 b D T B) {X : Nat → Prop} (hX : ∀ o, o < 561 → ¬ X (B + o)) {ob : Nat} (hob : X ob) {f : Nat → Int64} {N : Nat} {μ : Mem} {cap : Nat} {t : List Nat} {a1 : Int32} {r : Mem × (Nat ⊕ Int32)} (h : fX10_dropped N μ 0 a1 = some r) (hL : ∀ k, r.2 = .inl k → k = 0) : gMetH l yL_dropped cL_dropped 4 hhL_dropped rmL_dropped [.ref (B + 0), .int a1, .ref ob] (gWL s0 D T B X μ cap t ob f) (KC s0 X) (some (.int (kL [0] r.2))) (gWL s0 D T B X r.1 cap t ob (upI f r.2)) (gAo B X ob) 1 6 := by
  refine gMetH_of RL (by decide +kernel) rfl (Nat.le_of_ble_eq_true rfl) ?_
  intro p e s m below meth c ls hx hb hr hlocks hml hown hts htab hW hk hl hS
  have hC := FX_C F hk hx hb hown hts
  have hl : lv_has ls 4 [(0, .ref (B + 0)), (1, .int a1), (2, .ref ob)] := hl
  have hS0 : va_S (gA B X) s.heap s.heap [] := va_S.rf
  refine lv_aload_n hx hb dL_dropped_0 rfl (lv_at hl 2 rfl) ?_
  refine lv_iconst (v := 0) hx hb dL_dropped_1 (by decide) ?_
  refine lv_aload_n hx hb dL_dropped_2 rfl (lv_at hl 0 rfl) ?_
  refine lv_iload_n hx hb dL_dropped_3 rfl (lv_at hl 1 rfl) ?_
  refine gs_callXV (As := [.int a1]) F hX hk hC hml hS0 hW.1 (fun X9 hX9 => metX10_dropped F hX9 is_Ga h) ml_L_94 (gw_recv hC hW.1.1 is_Ga.1 (is_Ga.2.2.1 (gfm s0) T B (μ 0)) rfl) ⟨rfl, rfl, (Nat.le_of_ble_eq_true rfl), (Nat.le_of_ble_eq_true rfl)⟩ rfl hl.1 rfl (Nat.le_of_ble_eq_true rfl) dL_dropped_4 ⟨(Nat.le_of_ble_eq_true rfl), (Nat.le_of_ble_eq_true rfl)⟩ (fun v9 ho H1 locs1 hW1 hS1 => ?_) (fun k9 ho H1 locs1 q9 ce9 hW1 hS1 hce hvm hcl => ?_)
  · obtain ⟨x9, hv9, rfl⟩ := oI_r ho
    refine lv_i2l hx hb dL_dropped_7 rfl ?_
    refine gl_last hC (at_keep hob hW.2 hS1) hS1.gAo (Or.inr rfl) dL_dropped_8 (fun H2 locs2 g1 g2 g3 g4 => ?_)
    refine lv_goto (tgt := 15) hx hb dL_dropped_9 (by decide) ?_
    refine lv_iconst (v := 0) hx hb dL_dropped_15 (by decide) ?_
    have e9 : kL [0] r.2 = 0 := by rw [hv9]; rfl
    rw [e9]
    exact gw_iret hx hb hr hlocks ⟨gWS_keep hX hob hW1 g3, by rw [hv9]; exact g1⟩ g4 (Nat.le_of_eq (Nat.zero_add _)) (Nat.le_of_eq (Nat.zero_add _)) dL_dropped_16
  · have hv9 := oI_l ho
    obtain rfl := hL _ hv9
    refine vx_catch hown [] ⟨0, 9, 12, 21⟩ [] (htab.trans rfl) (fun z hz => by cases hz) (by decide) (by decide) (hts _ kl_L_21) (FX_cs F hk cs_0) hce hvm hcl ?_
    refine lv_astore_n hx hb dL_dropped_12 rfl hl (by decide) rfl (fun ls9 hl9 => ?_)
    refine lv_iconst (v := 1) hx hb dL_dropped_13 (by decide) ?_
    have e9 : kL [0] r.2 = 1 := by rw [hv9]; decide
    rw [e9]
    exact gw_iret hx hb hr hlocks ⟨hW1, by rw [hv9]; exact at_keep hob hW.2 hS1⟩ hS1.gAo (Nat.le_of_eq (Nat.zero_add _)) (Nat.le_of_eq (Nat.zero_add _)) dL_dropped_14
theorem dL_spilled_0 : decode cL_spilled 0 = .ok (.aload_n 2, 1) := by decide +kernel
theorem dL_spilled_1 : decode cL_spilled 1 = .ok (.iconst 0, 1) := by decide +kernel
theorem dL_spilled_2 : decode cL_spilled 2 = .ok (.aload_n 0, 1) := by decide +kernel
theorem dL_spilled_3 : decode cL_spilled 3 = .ok (.iload_n 1, 1) := by decide +kernel
theorem dL_spilled_4 : decode cL_spilled 4 = .ok (.invokevirtual 97, 3) := by decide +kernel
theorem dL_spilled_7 : decode cL_spilled 7 = .ok (.i2l, 1) := by decide +kernel
theorem dL_spilled_8 : decode cL_spilled 8 = .ok (.lastore, 1) := by decide +kernel
theorem dL_spilled_9 : decode cL_spilled 9 = .ok (.goto 6, 3) := by decide +kernel
theorem dL_spilled_12 : decode cL_spilled 12 = .ok (.astore_n 3, 1) := by decide +kernel
theorem dL_spilled_13 : decode cL_spilled 13 = .ok (.iconst 1, 1) := by decide +kernel
theorem dL_spilled_14 : decode cL_spilled 14 = .ok (.ireturn, 1) := by decide +kernel
theorem dL_spilled_15 : decode cL_spilled 15 = .ok (.iconst 0, 1) := by decide +kernel
theorem dL_spilled_16 : decode cL_spilled 16 = .ok (.ireturn, 1) := by decide +kernel
theorem ml_L_97 : gMV RL 97 yX10_spilled cX10_spilled 2 (some .int) 1 := ⟨⟨wg_t 1027 (by decide +kernel) (by decide +kernel), wg_t 1030 (by decide +kernel) (by decide +kernel), wg_t 1 (by decide +kernel) (by decide +kernel), by decide +kernel⟩, wg_t 1028 (by decide +kernel) (by decide +kernel), wg_t 1029 (by decide +kernel) (by decide +kernel)⟩
abbrev hhL_spilled : List (Nat × Nat × Nat × Nat) := [(0, 9, 12, 21)]
theorem mw_L_284 : gML RL 284 yL_spilled cL_spilled 4 hhL_spilled 3 := ⟨wg_t 1024 (by decide +kernel) (by decide +kernel), wg_t 1026 (by decide +kernel) (by decide +kernel), wg_t 0 (by decide +kernel) (by decide +kernel), by decide +kernel, wg_t 1025 (by decide +kernel) (by decide +kernel)⟩
abbrev rmL_spilled : Room := { frames := 8, cells := 1, slots := 6, locals := 162 }
set_option maxHeartbeats 4000000 in
set_option maxRecDepth 100000 in
theorem metL_spilled {l : Launch} {s0 : State} {b B : Nat} {D : va_G} {T : Nat → ClassId} (F : FX l s0 b D T B) {X : Nat → Prop} (hX : ∀ o, o < 561 → ¬ X (B + o)) {ob : Nat} (hob : X ob) {f : Nat → Int64} {N : Nat} {μ : Mem} {cap : Nat} {t : List Nat} {a1 : Int32} {r : Mem × (Nat ⊕ Int32)} (h : fX10_spilled N μ 0 a1 = some r) (hL : ∀ k, r.2 = .inl k → k = 0) : gMetH l yL_spilled cL_spilled 4 hhL_spilled rmL_spilled [.ref (B + 0), .int a1, .ref ob] (gWL s0 D T B X μ cap t ob f) (KC s0 X) (some (.int (kL [0] r.2))) (gWL s0 D T B X r.1 cap t ob (upI f r.2)) (gAo B X ob) 1 6 := by
  refine gMetH_of RL (by decide +kernel) rfl (Nat.le_of_ble_eq_true rfl) ?_
  intro p e s m below meth c ls hx hb hr hlocks hml hown hts htab hW hk hl hS
  have hC := FX_C F hk hx hb hown hts
  have hl : lv_has ls 4 [(0, .ref (B + 0)), (1, .int a1), (2, .ref ob)] := hl
  have hS0 : va_S (gA B X) s.heap s.heap [] := va_S.rf
  refine lv_aload_n hx hb dL_spilled_0 rfl (lv_at hl 2 rfl) ?_
  refine lv_iconst (v := 0) hx hb dL_spilled_1 (by decide) ?_
  refine lv_aload_n hx hb dL_spilled_2 rfl (lv_at hl 0 rfl) ?_
  refine lv_iload_n hx hb dL_spilled_3 rfl (lv_at hl 1 rfl) ?_
  refine gs_callXV (As := [.int a1]) F hX hk hC hml hS0 hW.1 (fun X9 hX9 => metX10_spilled F hX9 is_Ga h) ml_L_97 (gw_recv hC hW.1.1 is_Ga.1 (is_Ga.2.2.1 (gfm s0) T B (μ 0)) rfl) ⟨rfl, rfl, (Nat.le_of_ble_eq_true rfl), (Nat.le_of_ble_eq_true rfl)⟩ rfl hl.1 rfl (Nat.le_of_ble_eq_true rfl) dL_spilled_4 ⟨(Nat.le_of_ble_eq_true rfl), (Nat.le_of_ble_eq_true rfl)⟩ (fun v9 ho H1 locs1 hW1 hS1 => ?_) (fun k9 ho H1 locs1 q9 ce9 hW1 hS1 hce hvm hcl => ?_)
  · obtain ⟨x9, hv9, rfl⟩ := oI_r ho
    refine lv_i2l hx hb dL_spilled_7 rfl ?_
    refine gl_last hC (at_keep hob hW.2 hS1) hS1.gAo (Or.inr rfl) dL_spilled_8 (fun H2 locs2 g1 g2 g3 g4 => ?_)
    refine lv_goto (tgt := 15) hx hb dL_spilled_9 (by decide) ?_
    refine lv_iconst (v := 0) hx hb dL_spilled_15 (by decide) ?_
    have e9 : kL [0] r.2 = 0 := by rw [hv9]; rfl
    rw [e9]
    exact gw_iret hx hb hr hlocks ⟨gWS_keep hX hob hW1 g3, by rw [hv9]; exact g1⟩ g4 (Nat.le_of_eq (Nat.zero_add _)) (Nat.le_of_eq (Nat.zero_add _)) dL_spilled_16
  · have hv9 := oI_l ho
    obtain rfl := hL _ hv9
    refine vx_catch hown [] ⟨0, 9, 12, 21⟩ [] (htab.trans rfl) (fun z hz => by cases hz) (by decide) (by decide) (hts _ kl_L_21) (FX_cs F hk cs_0) hce hvm hcl ?_
    refine lv_astore_n hx hb dL_spilled_12 rfl hl (by decide) rfl (fun ls9 hl9 => ?_)
    refine lv_iconst (v := 1) hx hb dL_spilled_13 (by decide) ?_
    have e9 : kL [0] r.2 = 1 := by rw [hv9]; decide
    rw [e9]
    exact gw_iret hx hb hr hlocks ⟨hW1, by rw [hv9]; exact at_keep hob hW.2 hS1⟩ hS1.gAo (Nat.le_of_eq (Nat.zero_add _)) (Nat.le_of_eq (Nat.zero_add _)) dL_spilled_14
theorem dL_melted_0 : decode cL_melted 0 = .ok (.aload_n 2, 1) := by decide +kernel
theorem dL_melted_1 : decode cL_melted 1 = .ok (.iconst 0, 1) := by decide +kernel
theorem dL_melted_2 : decode cL_melted 2 = .ok (.aload_n 0, 1) := by decide +kernel
theorem dL_melted_3 : decode cL_melted 3 = .ok (.iload_n 1, 1) := by decide +kernel
theorem dL_melted_4 : decode cL_melted 4 = .ok (.invokevirtual 100, 3) := by decide +kernel
theorem dL_melted_7 : decode cL_melted 7 = .ok (.i2l, 1) := by decide +kernel
theorem dL_melted_8 : decode cL_melted 8 = .ok (.lastore, 1) := by decide +kernel
theorem dL_melted_9 : decode cL_melted 9 = .ok (.goto 6, 3) := by decide +kernel
theorem dL_melted_12 : decode cL_melted 12 = .ok (.astore_n 3, 1) := by decide +kernel
theorem dL_melted_13 : decode cL_melted 13 = .ok (.iconst 1, 1) := by decide +kernel
theorem dL_melted_14 : decode cL_melted 14 = .ok (.ireturn, 1) := by decide +kernel
theorem dL_melted_15 : decode cL_melted 15 = .ok (.iconst 0, 1) := by decide +kernel
theorem dL_melted_16 : decode cL_melted 16 = .ok (.ireturn, 1) := by decide +kernel
theorem ml_L_100 : gMV RL 100 yX10_melted cX10_melted 2 (some .int) 1 := ⟨⟨wg_t 1034 (by decide +kernel) (by decide +kernel), wg_t 1037 (by decide +kernel) (by decide +kernel), wg_t 1 (by decide +kernel) (by decide +kernel), by decide +kernel⟩, wg_t 1035 (by decide +kernel) (by decide +kernel), wg_t 1036 (by decide +kernel) (by decide +kernel)⟩
abbrev hhL_melted : List (Nat × Nat × Nat × Nat) := [(0, 9, 12, 21)]
theorem mw_L_287 : gML RL 287 yL_melted cL_melted 4 hhL_melted 3 := ⟨wg_t 1031 (by decide +kernel) (by decide +kernel), wg_t 1033 (by decide +kernel) (by decide +kernel), wg_t 0 (by decide +kernel) (by decide +kernel), by decide +kernel, wg_t 1032 (by decide +kernel) (by decide +kernel)⟩
abbrev rmL_melted : Room := { frames := 8, cells := 1, slots := 6, locals := 162 }
set_option maxHeartbeats 4000000 in
set_option maxRecDepth 100000 in
theorem metL_melted {l : Launch} {s0 : State} {b B : Nat} {D : va_G} {T : Nat → ClassId} (F : FX l s0 b D T B) {X : Nat → Prop} (hX : ∀ o, o < 561 → ¬ X (B + o)) {ob : Nat} (hob : X ob) {f : Nat → Int64} {N : Nat} {μ : Mem} {cap : Nat} {t : List Nat} {a1 : Int32} {r : Mem × (Nat ⊕ Int32)} (h : fX10_melted N μ 0 a1 = some r) (hL : ∀ k, r.2 = .inl k → k = 0) : gMetH l yL_melted cL_melted 4 hhL_melted rmL_melted [.ref (B + 0), .int a1, .ref ob] (gWL s0 D T B X μ cap t ob f) (KC s0 X) (some (.int (kL [0] r.2))) (gWL s0 D T B X r.1 cap t ob (upI f r.2)) (gAo B X ob) 1 6 := by
  refine gMetH_of RL (by decide +kernel) rfl (Nat.le_of_ble_eq_true rfl) ?_
  intro p e s m below meth c ls hx hb hr hlocks hml hown hts htab hW hk hl hS
  have hC := FX_C F hk hx hb hown hts
  have hl : lv_has ls 4 [(0, .ref (B + 0)), (1, .int a1), (2, .ref ob)] := hl
  have hS0 : va_S (gA B X) s.heap s.heap [] := va_S.rf
  refine lv_aload_n hx hb dL_melted_0 rfl (lv_at hl 2 rfl) ?_
  refine lv_iconst (v := 0) hx hb dL_melted_1 (by decide) ?_
  refine lv_aload_n hx hb dL_melted_2 rfl (lv_at hl 0 rfl) ?_
  refine lv_iload_n hx hb dL_melted_3 rfl (lv_at hl 1 rfl) ?_
  refine gs_callXV (As := [.int a1]) F hX hk hC hml hS0 hW.1 (fun X9 hX9 => metX10_melted F hX9 is_Ga h) ml_L_100 (gw_recv hC hW.1.1 is_Ga.1 (is_Ga.2.2.1 (gfm s0) T B (μ 0)) rfl) ⟨rfl, rfl, (Nat.le_of_ble_eq_true rfl), (Nat.le_of_ble_eq_true rfl)⟩ rfl hl.1 rfl (Nat.le_of_ble_eq_true rfl) dL_melted_4 ⟨(Nat.le_of_ble_eq_true rfl), (Nat.le_of_ble_eq_true rfl)⟩ (fun v9 ho H1 locs1 hW1 hS1 => ?_) (fun k9 ho H1 locs1 q9 ce9 hW1 hS1 hce hvm hcl => ?_)
  · obtain ⟨x9, hv9, rfl⟩ := oI_r ho
    refine lv_i2l hx hb dL_melted_7 rfl ?_
    refine gl_last hC (at_keep hob hW.2 hS1) hS1.gAo (Or.inr rfl) dL_melted_8 (fun H2 locs2 g1 g2 g3 g4 => ?_)
    refine lv_goto (tgt := 15) hx hb dL_melted_9 (by decide) ?_
    refine lv_iconst (v := 0) hx hb dL_melted_15 (by decide) ?_
    have e9 : kL [0] r.2 = 0 := by rw [hv9]; rfl
    rw [e9]
    exact gw_iret hx hb hr hlocks ⟨gWS_keep hX hob hW1 g3, by rw [hv9]; exact g1⟩ g4 (Nat.le_of_eq (Nat.zero_add _)) (Nat.le_of_eq (Nat.zero_add _)) dL_melted_16
  · have hv9 := oI_l ho
    obtain rfl := hL _ hv9
    refine vx_catch hown [] ⟨0, 9, 12, 21⟩ [] (htab.trans rfl) (fun z hz => by cases hz) (by decide) (by decide) (hts _ kl_L_21) (FX_cs F hk cs_0) hce hvm hcl ?_
    refine lv_astore_n hx hb dL_melted_12 rfl hl (by decide) rfl (fun ls9 hl9 => ?_)
    refine lv_iconst (v := 1) hx hb dL_melted_13 (by decide) ?_
    have e9 : kL [0] r.2 = 1 := by rw [hv9]; decide
    rw [e9]
    exact gw_iret hx hb hr hlocks ⟨hW1, by rw [hv9]; exact at_keep hob hW.2 hS1⟩ hS1.gAo (Nat.le_of_eq (Nat.zero_add _)) (Nat.le_of_eq (Nat.zero_add _)) dL_melted_14
theorem dL_send_0 : decode cL_send 0 = .ok (.aload_n 3, 1) := by decide +kernel
theorem dL_send_1 : decode cL_send 1 = .ok (.iconst 0, 1) := by decide +kernel
theorem dL_send_2 : decode cL_send 2 = .ok (.aload_n 0, 1) := by decide +kernel
theorem dL_send_3 : decode cL_send 3 = .ok (.iload_n 1, 1) := by decide +kernel
theorem dL_send_4 : decode cL_send 4 = .ok (.iload_n 2, 1) := by decide +kernel
theorem dL_send_5 : decode cL_send 5 = .ok (.invokevirtual 103, 3) := by decide +kernel
theorem dL_send_8 : decode cL_send 8 = .ok (.i2l, 1) := by decide +kernel
theorem dL_send_9 : decode cL_send 9 = .ok (.lastore, 1) := by decide +kernel
theorem dL_send_10 : decode cL_send 10 = .ok (.goto 11, 3) := by decide +kernel
theorem dL_send_13 : decode cL_send 13 = .ok (.astore 4, 2) := by decide +kernel
theorem dL_send_15 : decode cL_send 15 = .ok (.iconst 1, 1) := by decide +kernel
theorem dL_send_16 : decode cL_send 16 = .ok (.ireturn, 1) := by decide +kernel
theorem dL_send_17 : decode cL_send 17 = .ok (.astore 4, 2) := by decide +kernel
theorem dL_send_19 : decode cL_send 19 = .ok (.iconst 2, 1) := by decide +kernel
theorem dL_send_20 : decode cL_send 20 = .ok (.ireturn, 1) := by decide +kernel
theorem dL_send_21 : decode cL_send 21 = .ok (.iconst 0, 1) := by decide +kernel
theorem dL_send_22 : decode cL_send 22 = .ok (.ireturn, 1) := by decide +kernel
theorem ml_L_103 : gMV RL 103 yX10_send cX10_send 3 (some .int) 2 := ⟨⟨wg_t 1042 (by decide +kernel) (by decide +kernel), wg_t 1045 (by decide +kernel) (by decide +kernel), wg_t 1 (by decide +kernel) (by decide +kernel), by decide +kernel⟩, wg_t 1043 (by decide +kernel) (by decide +kernel), wg_t 1044 (by decide +kernel) (by decide +kernel)⟩
abbrev hhL_send : List (Nat × Nat × Nat × Nat) := [(0, 10, 13, 21), (0, 10, 17, 106)]
theorem mw_L_290 : gML RL 290 yL_send cL_send 5 hhL_send 4 := ⟨wg_t 1038 (by decide +kernel) (by decide +kernel), wg_t 1040 (by decide +kernel) (by decide +kernel), wg_t 0 (by decide +kernel) (by decide +kernel), by decide +kernel, wg_t 1039 (by decide +kernel) (by decide +kernel)⟩
abbrev rmL_send : Room := { frames := 8, cells := 1, slots := 6, locals := 180 }
set_option maxHeartbeats 4000000 in
set_option maxRecDepth 100000 in
theorem metL_send {l : Launch} {s0 : State} {b B : Nat} {D : va_G} {T : Nat → ClassId} (F : FX l s0 b D T B) {X : Nat → Prop} (hX : ∀ o, o < 561 → ¬ X (B + o)) {ob : Nat} (hob : X ob) {f : Nat → Int64} {N : Nat} {μ : Mem} {cap : Nat} {t : List Nat} {a1 : Int32} {a2 : Int32} {r : Mem × (Nat ⊕ Int32)} (h : fX10_send N μ 0 a1 a2 = some r) (hL : ∀ k, r.2 = .inl k → k = 0 ∨ k = 4) : gMetH l yL_send cL_send 5 hhL_send rmL_send [.ref (B + 0), .int a1, .int a2, .ref ob] (gWL s0 D T B X μ cap t ob f) (KC s0 X) (some (.int (kL [0, 4] r.2))) (gWL s0 D T B X r.1 cap t ob (upI f r.2)) (gAo B X ob) 1 6 := by
  refine gMetH_of RL (by decide +kernel) rfl (Nat.le_of_ble_eq_true rfl) ?_
  intro p e s m below meth c ls hx hb hr hlocks hml hown hts htab hW hk hl hS
  have hC := FX_C F hk hx hb hown hts
  have hl : lv_has ls 5 [(0, .ref (B + 0)), (1, .int a1), (2, .int a2), (3, .ref ob)] := hl
  have hS0 : va_S (gA B X) s.heap s.heap [] := va_S.rf
  refine lv_aload_n hx hb dL_send_0 rfl (lv_at hl 3 rfl) ?_
  refine lv_iconst (v := 0) hx hb dL_send_1 (by decide) ?_
  refine lv_aload_n hx hb dL_send_2 rfl (lv_at hl 0 rfl) ?_
  refine lv_iload_n hx hb dL_send_3 rfl (lv_at hl 1 rfl) ?_
  refine lv_iload_n hx hb dL_send_4 rfl (lv_at hl 2 rfl) ?_
  refine gs_callXV (As := [.int a1, .int a2]) F hX hk hC hml hS0 hW.1 (fun X9 hX9 => metX10_send F hX9 is_Ga h) ml_L_103 (gw_recv hC hW.1.1 is_Ga.1 (is_Ga.2.2.1 (gfm s0) T B (μ 0)) rfl) ⟨rfl, rfl, (Nat.le_of_ble_eq_true rfl), (Nat.le_of_ble_eq_true rfl)⟩ rfl hl.1 rfl (Nat.le_of_ble_eq_true rfl) dL_send_5 ⟨(Nat.le_of_ble_eq_true rfl), (Nat.le_of_ble_eq_true rfl)⟩ (fun v9 ho H1 locs1 hW1 hS1 => ?_) (fun k9 ho H1 locs1 q9 ce9 hW1 hS1 hce hvm hcl => ?_)
  · obtain ⟨x9, hv9, rfl⟩ := oI_r ho
    refine lv_i2l hx hb dL_send_8 rfl ?_
    refine gl_last hC (at_keep hob hW.2 hS1) hS1.gAo (Or.inr rfl) dL_send_9 (fun H2 locs2 g1 g2 g3 g4 => ?_)
    refine lv_goto (tgt := 21) hx hb dL_send_10 (by decide) ?_
    refine lv_iconst (v := 0) hx hb dL_send_21 (by decide) ?_
    have e9 : kL [0, 4] r.2 = 0 := by rw [hv9]; rfl
    rw [e9]
    exact gw_iret hx hb hr hlocks ⟨gWS_keep hX hob hW1 g3, by rw [hv9]; exact g1⟩ g4 (Nat.le_of_eq (Nat.zero_add _)) (Nat.le_of_eq (Nat.zero_add _)) dL_send_22
  · have hv9 := oI_l ho
    rcases hL _ hv9 with rfl | rfl
    · refine vx_catch hown [] ⟨0, 10, 13, 21⟩ [⟨0, 10, 17, 106⟩] (htab.trans rfl) (fun z hz => by cases hz) (by decide) (by decide) (hts _ kl_L_21) (FX_cs F hk cs_0) hce hvm hcl ?_
      refine lv_astore hx hb dL_send_13 hl (by decide) rfl (fun ls9 hl9 => ?_)
      refine lv_iconst (v := 1) hx hb dL_send_15 (by decide) ?_
      have e9 : kL [0, 4] r.2 = 1 := by rw [hv9]; decide
      rw [e9]
      exact gw_iret hx hb hr hlocks ⟨hW1, by rw [hv9]; exact at_keep hob hW.2 hS1⟩ hS1.gAo (Nat.le_of_eq (Nat.zero_add _)) (Nat.le_of_eq (Nat.zero_add _)) dL_send_16
    · refine vx_catch hown [⟨0, 10, 13, 21⟩] ⟨0, 10, 17, 106⟩ [] (htab.trans rfl) (fun z hz => by cases List.mem_singleton.mp hz; exact Or.inr ⟨by decide, _, hts _ kl_L_21, FX_nc F hk nc_4_0⟩) (by decide) (by decide) (hts _ kl_L_106) (FX_cs F hk cs_4) hce hvm hcl ?_
      refine lv_astore hx hb dL_send_17 hl (by decide) rfl (fun ls9 hl9 => ?_)
      refine lv_iconst (v := 2) hx hb dL_send_19 (by decide) ?_
      have e9 : kL [0, 4] r.2 = 2 := by rw [hv9]; decide
      rw [e9]
      exact gw_iret hx hb hr hlocks ⟨hW1, by rw [hv9]; exact at_keep hob hW.2 hS1⟩ hS1.gAo (Nat.le_of_eq (Nat.zero_add _)) (Nat.le_of_eq (Nat.zero_add _)) dL_send_20
theorem dL_meltIfSent_0 : decode cL_meltIfSent 0 = .ok (.aload_n 3, 1) := by decide +kernel
theorem dL_meltIfSent_1 : decode cL_meltIfSent 1 = .ok (.iconst 0, 1) := by decide +kernel
theorem dL_meltIfSent_2 : decode cL_meltIfSent 2 = .ok (.aload_n 0, 1) := by decide +kernel
theorem dL_meltIfSent_3 : decode cL_meltIfSent 3 = .ok (.iload_n 1, 1) := by decide +kernel
theorem dL_meltIfSent_4 : decode cL_meltIfSent 4 = .ok (.iload_n 2, 1) := by decide +kernel
theorem dL_meltIfSent_5 : decode cL_meltIfSent 5 = .ok (.invokevirtual 108, 3) := by decide +kernel
theorem dL_meltIfSent_8 : decode cL_meltIfSent 8 = .ok (.i2l, 1) := by decide +kernel
theorem dL_meltIfSent_9 : decode cL_meltIfSent 9 = .ok (.lastore, 1) := by decide +kernel
theorem dL_meltIfSent_10 : decode cL_meltIfSent 10 = .ok (.goto 11, 3) := by decide +kernel
theorem dL_meltIfSent_13 : decode cL_meltIfSent 13 = .ok (.astore 4, 2) := by decide +kernel
theorem dL_meltIfSent_15 : decode cL_meltIfSent 15 = .ok (.iconst 1, 1) := by decide +kernel
theorem dL_meltIfSent_16 : decode cL_meltIfSent 16 = .ok (.ireturn, 1) := by decide +kernel
theorem dL_meltIfSent_17 : decode cL_meltIfSent 17 = .ok (.astore 4, 2) := by decide +kernel
theorem dL_meltIfSent_19 : decode cL_meltIfSent 19 = .ok (.iconst 2, 1) := by decide +kernel
theorem dL_meltIfSent_20 : decode cL_meltIfSent 20 = .ok (.ireturn, 1) := by decide +kernel
theorem dL_meltIfSent_21 : decode cL_meltIfSent 21 = .ok (.iconst 0, 1) := by decide +kernel
theorem dL_meltIfSent_22 : decode cL_meltIfSent 22 = .ok (.ireturn, 1) := by decide +kernel
theorem ml_L_108 : gMV RL 108 yX10_meltIfSent cX10_meltIfSent 4 (some .int) 2 := ⟨⟨wg_t 1082 (by decide +kernel) (by decide +kernel), wg_t 1085 (by decide +kernel) (by decide +kernel), wg_t 1 (by decide +kernel) (by decide +kernel), by decide +kernel⟩, wg_t 1083 (by decide +kernel) (by decide +kernel), wg_t 1084 (by decide +kernel) (by decide +kernel)⟩
abbrev hhL_meltIfSent : List (Nat × Nat × Nat × Nat) := [(0, 10, 13, 21), (0, 10, 17, 30)]
theorem mw_L_293 : gML RL 293 yL_meltIfSent cL_meltIfSent 5 hhL_meltIfSent 4 := ⟨wg_t 1079 (by decide +kernel) (by decide +kernel), wg_t 1081 (by decide +kernel) (by decide +kernel), wg_t 0 (by decide +kernel) (by decide +kernel), by decide +kernel, wg_t 1080 (by decide +kernel) (by decide +kernel)⟩
abbrev rmL_meltIfSent : Room := { frames := 8, cells := 2, slots := 12, locals := 179 }
set_option maxHeartbeats 4000000 in
set_option maxRecDepth 100000 in
theorem metL_meltIfSent {l : Launch} {s0 : State} {b B : Nat} {D : va_G} {T : Nat → ClassId} (F : FX l s0 b D T B) {X : Nat → Prop} (hX : ∀ o, o < 561 → ¬ X (B + o)) {ob : Nat} (hob : X ob) {f : Nat → Int64} {N : Nat} {μ : Mem} {cap : Nat} {t : List Nat} {a1 : Int32} {a2 : Int32} {r : Mem × (Nat ⊕ Int32)} (h : fX10_meltIfSent N μ 0 a1 a2 = some r) (hL : ∀ k, r.2 = .inl k → k = 0 ∨ k = 3) : gMetH l yL_meltIfSent cL_meltIfSent 5 hhL_meltIfSent rmL_meltIfSent [.ref (B + 0), .int a1, .int a2, .ref ob] (gWL s0 D T B X μ cap t ob f) (KC s0 X) (some (.int (kL [0, 3] r.2))) (gWL s0 D T B X r.1 cap t ob (upI f r.2)) (gAo B X ob) 2 12 := by
  refine gMetH_of RL (by decide +kernel) rfl (Nat.le_of_ble_eq_true rfl) ?_
  intro p e s m below meth c ls hx hb hr hlocks hml hown hts htab hW hk hl hS
  have hC := FX_C F hk hx hb hown hts
  have hl : lv_has ls 5 [(0, .ref (B + 0)), (1, .int a1), (2, .int a2), (3, .ref ob)] := hl
  have hS0 : va_S (gA B X) s.heap s.heap [] := va_S.rf
  refine lv_aload_n hx hb dL_meltIfSent_0 rfl (lv_at hl 3 rfl) ?_
  refine lv_iconst (v := 0) hx hb dL_meltIfSent_1 (by decide) ?_
  refine lv_aload_n hx hb dL_meltIfSent_2 rfl (lv_at hl 0 rfl) ?_
  refine lv_iload_n hx hb dL_meltIfSent_3 rfl (lv_at hl 1 rfl) ?_
  refine lv_iload_n hx hb dL_meltIfSent_4 rfl (lv_at hl 2 rfl) ?_
  refine gs_callXV (As := [.int a1, .int a2]) F hX hk hC hml hS0 hW.1 (fun X9 hX9 => metX10_meltIfSent F hX9 is_Ga h) ml_L_108 (gw_recv hC hW.1.1 is_Ga.1 (is_Ga.2.2.1 (gfm s0) T B (μ 0)) rfl) ⟨rfl, rfl, (Nat.le_of_ble_eq_true rfl), (Nat.le_of_ble_eq_true rfl)⟩ rfl hl.1 rfl (Nat.le_of_ble_eq_true rfl) dL_meltIfSent_5 ⟨(Nat.le_of_ble_eq_true rfl), (Nat.le_of_ble_eq_true rfl)⟩ (fun v9 ho H1 locs1 hW1 hS1 => ?_) (fun k9 ho H1 locs1 q9 ce9 hW1 hS1 hce hvm hcl => ?_)
  · obtain ⟨x9, hv9, rfl⟩ := oI_r ho
    refine lv_i2l hx hb dL_meltIfSent_8 rfl ?_
    refine gl_last hC (at_keep hob hW.2 hS1) hS1.gAo (Or.inr rfl) dL_meltIfSent_9 (fun H2 locs2 g1 g2 g3 g4 => ?_)
    refine lv_goto (tgt := 21) hx hb dL_meltIfSent_10 (by decide) ?_
    refine lv_iconst (v := 0) hx hb dL_meltIfSent_21 (by decide) ?_
    have e9 : kL [0, 3] r.2 = 0 := by rw [hv9]; rfl
    rw [e9]
    exact gw_iret hx hb hr hlocks ⟨gWS_keep hX hob hW1 g3, by rw [hv9]; exact g1⟩ g4 (Nat.le_of_eq (Nat.zero_add _)) (Nat.le_of_eq (Nat.zero_add _)) dL_meltIfSent_22
  · have hv9 := oI_l ho
    rcases hL _ hv9 with rfl | rfl
    · refine vx_catch hown [] ⟨0, 10, 13, 21⟩ [⟨0, 10, 17, 30⟩] (htab.trans rfl) (fun z hz => by cases hz) (by decide) (by decide) (hts _ kl_L_21) (FX_cs F hk cs_0) hce hvm hcl ?_
      refine lv_astore hx hb dL_meltIfSent_13 hl (by decide) rfl (fun ls9 hl9 => ?_)
      refine lv_iconst (v := 1) hx hb dL_meltIfSent_15 (by decide) ?_
      have e9 : kL [0, 3] r.2 = 1 := by rw [hv9]; decide
      rw [e9]
      exact gw_iret hx hb hr hlocks ⟨hW1, by rw [hv9]; exact at_keep hob hW.2 hS1⟩ hS1.gAo (Nat.le_of_eq (Nat.zero_add _)) (Nat.le_of_eq (Nat.zero_add _)) dL_meltIfSent_16
    · refine vx_catch hown [⟨0, 10, 13, 21⟩] ⟨0, 10, 17, 30⟩ [] (htab.trans rfl) (fun z hz => by cases List.mem_singleton.mp hz; exact Or.inr ⟨by decide, _, hts _ kl_L_21, FX_nc F hk nc_3_0⟩) (by decide) (by decide) (hts _ kl_L_30) (FX_cs F hk cs_3) hce hvm hcl ?_
      refine lv_astore hx hb dL_meltIfSent_17 hl (by decide) rfl (fun ls9 hl9 => ?_)
      refine lv_iconst (v := 2) hx hb dL_meltIfSent_19 (by decide) ?_
      have e9 : kL [0, 3] r.2 = 2 := by rw [hv9]; decide
      rw [e9]
      exact gw_iret hx hb hr hlocks ⟨hW1, by rw [hv9]; exact at_keep hob hW.2 hS1⟩ hS1.gAo (Nat.le_of_eq (Nat.zero_add _)) (Nat.le_of_eq (Nat.zero_add _)) dL_meltIfSent_20
theorem dL_leastPassed_0 : decode cL_leastPassed 0 = .ok (.aload_n 3, 1) := by decide +kernel
theorem dL_leastPassed_1 : decode cL_leastPassed 1 = .ok (.iconst 0, 1) := by decide +kernel
theorem dL_leastPassed_2 : decode cL_leastPassed 2 = .ok (.aload_n 0, 1) := by decide +kernel
theorem dL_leastPassed_3 : decode cL_leastPassed 3 = .ok (.iload_n 1, 1) := by decide +kernel
theorem dL_leastPassed_4 : decode cL_leastPassed 4 = .ok (.iload_n 2, 1) := by decide +kernel
theorem dL_leastPassed_5 : decode cL_leastPassed 5 = .ok (.invokevirtual 111, 3) := by decide +kernel
theorem dL_leastPassed_8 : decode cL_leastPassed 8 = .ok (.i2l, 1) := by decide +kernel
theorem dL_leastPassed_9 : decode cL_leastPassed 9 = .ok (.lastore, 1) := by decide +kernel
theorem dL_leastPassed_10 : decode cL_leastPassed 10 = .ok (.goto 11, 3) := by decide +kernel
theorem dL_leastPassed_13 : decode cL_leastPassed 13 = .ok (.astore 4, 2) := by decide +kernel
theorem dL_leastPassed_15 : decode cL_leastPassed 15 = .ok (.iconst 1, 1) := by decide +kernel
theorem dL_leastPassed_16 : decode cL_leastPassed 16 = .ok (.ireturn, 1) := by decide +kernel
theorem dL_leastPassed_17 : decode cL_leastPassed 17 = .ok (.astore 4, 2) := by decide +kernel
theorem dL_leastPassed_19 : decode cL_leastPassed 19 = .ok (.iconst 2, 1) := by decide +kernel
theorem dL_leastPassed_20 : decode cL_leastPassed 20 = .ok (.ireturn, 1) := by decide +kernel
theorem dL_leastPassed_21 : decode cL_leastPassed 21 = .ok (.iconst 0, 1) := by decide +kernel
theorem dL_leastPassed_22 : decode cL_leastPassed 22 = .ok (.ireturn, 1) := by decide +kernel
theorem ml_L_111 : gMV RL 111 yX10_leastPassed cX10_leastPassed 3 (some .int) 2 := ⟨⟨wg_t 1090 (by decide +kernel) (by decide +kernel), wg_t 1093 (by decide +kernel) (by decide +kernel), wg_t 1 (by decide +kernel) (by decide +kernel), by decide +kernel⟩, wg_t 1091 (by decide +kernel) (by decide +kernel), wg_t 1092 (by decide +kernel) (by decide +kernel)⟩
abbrev hhL_leastPassed : List (Nat × Nat × Nat × Nat) := [(0, 10, 13, 21), (0, 10, 17, 30)]
theorem mw_L_296 : gML RL 296 yL_leastPassed cL_leastPassed 5 hhL_leastPassed 4 := ⟨wg_t 1087 (by decide +kernel) (by decide +kernel), wg_t 1089 (by decide +kernel) (by decide +kernel), wg_t 0 (by decide +kernel) (by decide +kernel), by decide +kernel, wg_t 1088 (by decide +kernel) (by decide +kernel)⟩
abbrev rmL_leastPassed : Room := { frames := 8, cells := 2, slots := 12, locals := 162 }
set_option maxHeartbeats 4000000 in
set_option maxRecDepth 100000 in
theorem metL_leastPassed {l : Launch} {s0 : State} {b B : Nat} {D : va_G} {T : Nat → ClassId} (F : FX l s0 b D T B) {X : Nat → Prop} (hX : ∀ o, o < 561 → ¬ X (B + o)) {ob : Nat} (hob : X ob) {f : Nat → Int64} {N : Nat} {μ : Mem} {cap : Nat} {t : List Nat} {a1 : Int32} {a2 : Int32} {r : Mem × (Nat ⊕ Int32)} (h : fX10_leastPassed N μ 0 a1 a2 = some r) (hL : ∀ k, r.2 = .inl k → k = 0 ∨ k = 3) : gMetH l yL_leastPassed cL_leastPassed 5 hhL_leastPassed rmL_leastPassed [.ref (B + 0), .int a1, .int a2, .ref ob] (gWL s0 D T B X μ cap t ob f) (KC s0 X) (some (.int (kL [0, 3] r.2))) (gWL s0 D T B X r.1 cap t ob (upI f r.2)) (gAo B X ob) 2 12 := by
  refine gMetH_of RL (by decide +kernel) rfl (Nat.le_of_ble_eq_true rfl) ?_
  intro p e s m below meth c ls hx hb hr hlocks hml hown hts htab hW hk hl hS
  have hC := FX_C F hk hx hb hown hts
  have hl : lv_has ls 5 [(0, .ref (B + 0)), (1, .int a1), (2, .int a2), (3, .ref ob)] := hl
  have hS0 : va_S (gA B X) s.heap s.heap [] := va_S.rf
  refine lv_aload_n hx hb dL_leastPassed_0 rfl (lv_at hl 3 rfl) ?_
  refine lv_iconst (v := 0) hx hb dL_leastPassed_1 (by decide) ?_
  refine lv_aload_n hx hb dL_leastPassed_2 rfl (lv_at hl 0 rfl) ?_
  refine lv_iload_n hx hb dL_leastPassed_3 rfl (lv_at hl 1 rfl) ?_
  refine lv_iload_n hx hb dL_leastPassed_4 rfl (lv_at hl 2 rfl) ?_
  refine gs_callXV (As := [.int a1, .int a2]) F hX hk hC hml hS0 hW.1 (fun X9 hX9 => metX10_leastPassed F hX9 is_Ga h) ml_L_111 (gw_recv hC hW.1.1 is_Ga.1 (is_Ga.2.2.1 (gfm s0) T B (μ 0)) rfl) ⟨rfl, rfl, (Nat.le_of_ble_eq_true rfl), (Nat.le_of_ble_eq_true rfl)⟩ rfl hl.1 rfl (Nat.le_of_ble_eq_true rfl) dL_leastPassed_5 ⟨(Nat.le_of_ble_eq_true rfl), (Nat.le_of_ble_eq_true rfl)⟩ (fun v9 ho H1 locs1 hW1 hS1 => ?_) (fun k9 ho H1 locs1 q9 ce9 hW1 hS1 hce hvm hcl => ?_)
  · obtain ⟨x9, hv9, rfl⟩ := oI_r ho
    refine lv_i2l hx hb dL_leastPassed_8 rfl ?_
    refine gl_last hC (at_keep hob hW.2 hS1) hS1.gAo (Or.inr rfl) dL_leastPassed_9 (fun H2 locs2 g1 g2 g3 g4 => ?_)
    refine lv_goto (tgt := 21) hx hb dL_leastPassed_10 (by decide) ?_
    refine lv_iconst (v := 0) hx hb dL_leastPassed_21 (by decide) ?_
    have e9 : kL [0, 3] r.2 = 0 := by rw [hv9]; rfl
    rw [e9]
    exact gw_iret hx hb hr hlocks ⟨gWS_keep hX hob hW1 g3, by rw [hv9]; exact g1⟩ g4 (Nat.le_of_eq (Nat.zero_add _)) (Nat.le_of_eq (Nat.zero_add _)) dL_leastPassed_22
  · have hv9 := oI_l ho
    rcases hL _ hv9 with rfl | rfl
    · refine vx_catch hown [] ⟨0, 10, 13, 21⟩ [⟨0, 10, 17, 30⟩] (htab.trans rfl) (fun z hz => by cases hz) (by decide) (by decide) (hts _ kl_L_21) (FX_cs F hk cs_0) hce hvm hcl ?_
      refine lv_astore hx hb dL_leastPassed_13 hl (by decide) rfl (fun ls9 hl9 => ?_)
      refine lv_iconst (v := 1) hx hb dL_leastPassed_15 (by decide) ?_
      have e9 : kL [0, 3] r.2 = 1 := by rw [hv9]; decide
      rw [e9]
      exact gw_iret hx hb hr hlocks ⟨hW1, by rw [hv9]; exact at_keep hob hW.2 hS1⟩ hS1.gAo (Nat.le_of_eq (Nat.zero_add _)) (Nat.le_of_eq (Nat.zero_add _)) dL_leastPassed_16
    · refine vx_catch hown [⟨0, 10, 13, 21⟩] ⟨0, 10, 17, 30⟩ [] (htab.trans rfl) (fun z hz => by cases List.mem_singleton.mp hz; exact Or.inr ⟨by decide, _, hts _ kl_L_21, FX_nc F hk nc_3_0⟩) (by decide) (by decide) (hts _ kl_L_30) (FX_cs F hk cs_3) hce hvm hcl ?_
      refine lv_astore hx hb dL_leastPassed_17 hl (by decide) rfl (fun ls9 hl9 => ?_)
      refine lv_iconst (v := 2) hx hb dL_leastPassed_19 (by decide) ?_
      have e9 : kL [0, 3] r.2 = 2 := by rw [hv9]; decide
      rw [e9]
      exact gw_iret hx hb hr hlocks ⟨hW1, by rw [hv9]; exact at_keep hob hW.2 hS1⟩ hS1.gAo (Nat.le_of_eq (Nat.zero_add _)) (Nat.le_of_eq (Nat.zero_add _)) dL_leastPassed_20
theorem dL_leastPassedByRounds_0 : decode cL_leastPassedByRounds 0 = .ok (.aload_n 3, 1) := by decide +kernel
theorem dL_leastPassedByRounds_1 : decode cL_leastPassedByRounds 1 = .ok (.iconst 0, 1) := by decide +kernel
theorem dL_leastPassedByRounds_2 : decode cL_leastPassedByRounds 2 = .ok (.aload_n 0, 1) := by decide +kernel
theorem dL_leastPassedByRounds_3 : decode cL_leastPassedByRounds 3 = .ok (.iload_n 1, 1) := by decide +kernel
theorem dL_leastPassedByRounds_4 : decode cL_leastPassedByRounds 4 = .ok (.iload_n 2, 1) := by decide +kernel
theorem dL_leastPassedByRounds_5 : decode cL_leastPassedByRounds 5 = .ok (.invokevirtual 114, 3) := by decide +kernel
theorem dL_leastPassedByRounds_8 : decode cL_leastPassedByRounds 8 = .ok (.i2l, 1) := by decide +kernel
theorem dL_leastPassedByRounds_9 : decode cL_leastPassedByRounds 9 = .ok (.lastore, 1) := by decide +kernel
theorem dL_leastPassedByRounds_10 : decode cL_leastPassedByRounds 10 = .ok (.goto 11, 3) := by decide +kernel
theorem dL_leastPassedByRounds_13 : decode cL_leastPassedByRounds 13 = .ok (.astore 4, 2) := by decide +kernel
theorem dL_leastPassedByRounds_15 : decode cL_leastPassedByRounds 15 = .ok (.iconst 1, 1) := by decide +kernel
theorem dL_leastPassedByRounds_16 : decode cL_leastPassedByRounds 16 = .ok (.ireturn, 1) := by decide +kernel
theorem dL_leastPassedByRounds_17 : decode cL_leastPassedByRounds 17 = .ok (.astore 4, 2) := by decide +kernel
theorem dL_leastPassedByRounds_19 : decode cL_leastPassedByRounds 19 = .ok (.iconst 2, 1) := by decide +kernel
theorem dL_leastPassedByRounds_20 : decode cL_leastPassedByRounds 20 = .ok (.ireturn, 1) := by decide +kernel
theorem dL_leastPassedByRounds_21 : decode cL_leastPassedByRounds 21 = .ok (.iconst 0, 1) := by decide +kernel
theorem dL_leastPassedByRounds_22 : decode cL_leastPassedByRounds 22 = .ok (.ireturn, 1) := by decide +kernel
theorem ml_L_114 : gMV RL 114 yX10_leastPassedByRounds cX10_leastPassedByRounds 3 (some .int) 2 := ⟨⟨wg_t 1097 (by decide +kernel) (by decide +kernel), wg_t 1100 (by decide +kernel) (by decide +kernel), wg_t 1 (by decide +kernel) (by decide +kernel), by decide +kernel⟩, wg_t 1098 (by decide +kernel) (by decide +kernel), wg_t 1099 (by decide +kernel) (by decide +kernel)⟩
abbrev hhL_leastPassedByRounds : List (Nat × Nat × Nat × Nat) := [(0, 10, 13, 21), (0, 10, 17, 30)]
theorem mw_L_299 : gML RL 299 yL_leastPassedByRounds cL_leastPassedByRounds 5 hhL_leastPassedByRounds 4 := ⟨wg_t 1094 (by decide +kernel) (by decide +kernel), wg_t 1096 (by decide +kernel) (by decide +kernel), wg_t 0 (by decide +kernel) (by decide +kernel), by decide +kernel, wg_t 1095 (by decide +kernel) (by decide +kernel)⟩
abbrev rmL_leastPassedByRounds : Room := { frames := 8, cells := 2, slots := 12, locals := 162 }
set_option maxHeartbeats 4000000 in
set_option maxRecDepth 100000 in
theorem metL_leastPassedByRounds {l : Launch} {s0 : State} {b B : Nat} {D : va_G} {T : Nat → ClassId} (F : FX l s0 b D T B) {X : Nat → Prop} (hX : ∀ o, o < 561 → ¬ X (B + o)) {ob : Nat} (hob : X ob) {f : Nat → Int64} {N : Nat} {μ : Mem} {cap : Nat} {t : List Nat} {a1 : Int32} {a2 : Int32} {r : Mem × (Nat ⊕ Int32)} (h : fX10_leastPassedByRounds N μ 0 a1 a2 = some r) (hL : ∀ k, r.2 = .inl k → k = 0 ∨ k = 3) : gMetH l yL_leastPassedByRounds cL_leastPassedByRounds 5 hhL_leastPassedByRounds rmL_leastPassedByRounds [.ref (B + 0), .int a1, .int a2, .ref ob] (gWL s0 D T B X μ cap t ob f) (KC s0 X) (some (.int (kL [0, 3] r.2))) (gWL s0 D T B X r.1 cap t ob (upI f r.2)) (gAo B X ob) 2 12 := by
  refine gMetH_of RL (by decide +kernel) rfl (Nat.le_of_ble_eq_true rfl) ?_
  intro p e s m below meth c ls hx hb hr hlocks hml hown hts htab hW hk hl hS
  have hC := FX_C F hk hx hb hown hts
  have hl : lv_has ls 5 [(0, .ref (B + 0)), (1, .int a1), (2, .int a2), (3, .ref ob)] := hl
  have hS0 : va_S (gA B X) s.heap s.heap [] := va_S.rf
  refine lv_aload_n hx hb dL_leastPassedByRounds_0 rfl (lv_at hl 3 rfl) ?_
  refine lv_iconst (v := 0) hx hb dL_leastPassedByRounds_1 (by decide) ?_
  refine lv_aload_n hx hb dL_leastPassedByRounds_2 rfl (lv_at hl 0 rfl) ?_
  refine lv_iload_n hx hb dL_leastPassedByRounds_3 rfl (lv_at hl 1 rfl) ?_
  refine lv_iload_n hx hb dL_leastPassedByRounds_4 rfl (lv_at hl 2 rfl) ?_
  refine gs_callXV (As := [.int a1, .int a2]) F hX hk hC hml hS0 hW.1 (fun X9 hX9 => metX10_leastPassedByRounds F hX9 is_Ga h) ml_L_114 (gw_recv hC hW.1.1 is_Ga.1 (is_Ga.2.2.1 (gfm s0) T B (μ 0)) rfl) ⟨rfl, rfl, (Nat.le_of_ble_eq_true rfl), (Nat.le_of_ble_eq_true rfl)⟩ rfl hl.1 rfl (Nat.le_of_ble_eq_true rfl) dL_leastPassedByRounds_5 ⟨(Nat.le_of_ble_eq_true rfl), (Nat.le_of_ble_eq_true rfl)⟩ (fun v9 ho H1 locs1 hW1 hS1 => ?_) (fun k9 ho H1 locs1 q9 ce9 hW1 hS1 hce hvm hcl => ?_)
  · obtain ⟨x9, hv9, rfl⟩ := oI_r ho
    refine lv_i2l hx hb dL_leastPassedByRounds_8 rfl ?_
    refine gl_last hC (at_keep hob hW.2 hS1) hS1.gAo (Or.inr rfl) dL_leastPassedByRounds_9 (fun H2 locs2 g1 g2 g3 g4 => ?_)
    refine lv_goto (tgt := 21) hx hb dL_leastPassedByRounds_10 (by decide) ?_
    refine lv_iconst (v := 0) hx hb dL_leastPassedByRounds_21 (by decide) ?_
    have e9 : kL [0, 3] r.2 = 0 := by rw [hv9]; rfl
    rw [e9]
    exact gw_iret hx hb hr hlocks ⟨gWS_keep hX hob hW1 g3, by rw [hv9]; exact g1⟩ g4 (Nat.le_of_eq (Nat.zero_add _)) (Nat.le_of_eq (Nat.zero_add _)) dL_leastPassedByRounds_22
  · have hv9 := oI_l ho
    rcases hL _ hv9 with rfl | rfl
    · refine vx_catch hown [] ⟨0, 10, 13, 21⟩ [⟨0, 10, 17, 30⟩] (htab.trans rfl) (fun z hz => by cases hz) (by decide) (by decide) (hts _ kl_L_21) (FX_cs F hk cs_0) hce hvm hcl ?_
      refine lv_astore hx hb dL_leastPassedByRounds_13 hl (by decide) rfl (fun ls9 hl9 => ?_)
      refine lv_iconst (v := 1) hx hb dL_leastPassedByRounds_15 (by decide) ?_
      have e9 : kL [0, 3] r.2 = 1 := by rw [hv9]; decide
      rw [e9]
      exact gw_iret hx hb hr hlocks ⟨hW1, by rw [hv9]; exact at_keep hob hW.2 hS1⟩ hS1.gAo (Nat.le_of_eq (Nat.zero_add _)) (Nat.le_of_eq (Nat.zero_add _)) dL_leastPassedByRounds_16
    · refine vx_catch hown [⟨0, 10, 13, 21⟩] ⟨0, 10, 17, 30⟩ [] (htab.trans rfl) (fun z hz => by cases List.mem_singleton.mp hz; exact Or.inr ⟨by decide, _, hts _ kl_L_21, FX_nc F hk nc_3_0⟩) (by decide) (by decide) (hts _ kl_L_30) (FX_cs F hk cs_3) hce hvm hcl ?_
      refine lv_astore hx hb dL_leastPassedByRounds_17 hl (by decide) rfl (fun ls9 hl9 => ?_)
      refine lv_iconst (v := 2) hx hb dL_leastPassedByRounds_19 (by decide) ?_
      have e9 : kL [0, 3] r.2 = 2 := by rw [hv9]; decide
      rw [e9]
      exact gw_iret hx hb hr hlocks ⟨hW1, by rw [hv9]; exact at_keep hob hW.2 hS1⟩ hS1.gAo (Nat.le_of_eq (Nat.zero_add _)) (Nat.le_of_eq (Nat.zero_add _)) dL_leastPassedByRounds_20
theorem dL_passDays_0 : decode cL_passDays 0 = .ok (.aload_n 2, 1) := by decide +kernel
theorem dL_passDays_1 : decode cL_passDays 1 = .ok (.iconst 0, 1) := by decide +kernel
theorem dL_passDays_2 : decode cL_passDays 2 = .ok (.aload_n 0, 1) := by decide +kernel
theorem dL_passDays_3 : decode cL_passDays 3 = .ok (.iload_n 1, 1) := by decide +kernel
theorem dL_passDays_4 : decode cL_passDays 4 = .ok (.invokevirtual 117, 3) := by decide +kernel
theorem dL_passDays_7 : decode cL_passDays 7 = .ok (.i2l, 1) := by decide +kernel
theorem dL_passDays_8 : decode cL_passDays 8 = .ok (.lastore, 1) := by decide +kernel
theorem dL_passDays_9 : decode cL_passDays 9 = .ok (.goto 6, 3) := by decide +kernel
theorem dL_passDays_12 : decode cL_passDays 12 = .ok (.astore_n 3, 1) := by decide +kernel
theorem dL_passDays_13 : decode cL_passDays 13 = .ok (.iconst 1, 1) := by decide +kernel
theorem dL_passDays_14 : decode cL_passDays 14 = .ok (.ireturn, 1) := by decide +kernel
theorem dL_passDays_15 : decode cL_passDays 15 = .ok (.iconst 0, 1) := by decide +kernel
theorem dL_passDays_16 : decode cL_passDays 16 = .ok (.ireturn, 1) := by decide +kernel
theorem ml_L_117 : gMV RL 117 yX10_passDays cX10_passDays 2 (some .int) 1 := ⟨⟨wg_t 1104 (by decide +kernel) (by decide +kernel), wg_t 1107 (by decide +kernel) (by decide +kernel), wg_t 1 (by decide +kernel) (by decide +kernel), by decide +kernel⟩, wg_t 1105 (by decide +kernel) (by decide +kernel), wg_t 1106 (by decide +kernel) (by decide +kernel)⟩
abbrev hhL_passDays : List (Nat × Nat × Nat × Nat) := [(0, 9, 12, 13)]
theorem mw_L_302 : gML RL 302 yL_passDays cL_passDays 4 hhL_passDays 3 := ⟨wg_t 1101 (by decide +kernel) (by decide +kernel), wg_t 1103 (by decide +kernel) (by decide +kernel), wg_t 0 (by decide +kernel) (by decide +kernel), by decide +kernel, wg_t 1102 (by decide +kernel) (by decide +kernel)⟩
abbrev rmL_passDays : Room := { frames := 8, cells := 1, slots := 6, locals := 173 }
set_option maxHeartbeats 4000000 in
set_option maxRecDepth 100000 in
theorem metL_passDays {l : Launch} {s0 : State} {b B : Nat} {D : va_G} {T : Nat → ClassId} (F : FX l s0 b D T B) {X : Nat → Prop} (hX : ∀ o, o < 561 → ¬ X (B + o)) {ob : Nat} (hob : X ob) {f : Nat → Int64} {N : Nat} {μ : Mem} {cap : Nat} {t : List Nat} {a1 : Int32} {r : Mem × (Nat ⊕ Int32)} (h : fX10_passDays N μ 0 a1 = some r) (hL : ∀ k, r.2 = .inl k → k = 1) : gMetH l yL_passDays cL_passDays 4 hhL_passDays rmL_passDays [.ref (B + 0), .int a1, .ref ob] (gWL s0 D T B X μ cap t ob f) (KC s0 X) (some (.int (kL [1] r.2))) (gWL s0 D T B X r.1 cap t ob (upI f r.2)) (gAo B X ob) 1 6 := by
  refine gMetH_of RL (by decide +kernel) rfl (Nat.le_of_ble_eq_true rfl) ?_
  intro p e s m below meth c ls hx hb hr hlocks hml hown hts htab hW hk hl hS
  have hC := FX_C F hk hx hb hown hts
  have hl : lv_has ls 4 [(0, .ref (B + 0)), (1, .int a1), (2, .ref ob)] := hl
  have hS0 : va_S (gA B X) s.heap s.heap [] := va_S.rf
  refine lv_aload_n hx hb dL_passDays_0 rfl (lv_at hl 2 rfl) ?_
  refine lv_iconst (v := 0) hx hb dL_passDays_1 (by decide) ?_
  refine lv_aload_n hx hb dL_passDays_2 rfl (lv_at hl 0 rfl) ?_
  refine lv_iload_n hx hb dL_passDays_3 rfl (lv_at hl 1 rfl) ?_
  refine gs_callXV (As := [.int a1]) F hX hk hC hml hS0 hW.1 (fun X9 hX9 => metX10_passDays F hX9 is_Ga h) ml_L_117 (gw_recv hC hW.1.1 is_Ga.1 (is_Ga.2.2.1 (gfm s0) T B (μ 0)) rfl) ⟨rfl, rfl, (Nat.le_of_ble_eq_true rfl), (Nat.le_of_ble_eq_true rfl)⟩ rfl hl.1 rfl (Nat.le_of_ble_eq_true rfl) dL_passDays_4 ⟨(Nat.le_of_ble_eq_true rfl), (Nat.le_of_ble_eq_true rfl)⟩ (fun v9 ho H1 locs1 hW1 hS1 => ?_) (fun k9 ho H1 locs1 q9 ce9 hW1 hS1 hce hvm hcl => ?_)
  · obtain ⟨x9, hv9, rfl⟩ := oI_r ho
    refine lv_i2l hx hb dL_passDays_7 rfl ?_
    refine gl_last hC (at_keep hob hW.2 hS1) hS1.gAo (Or.inr rfl) dL_passDays_8 (fun H2 locs2 g1 g2 g3 g4 => ?_)
    refine lv_goto (tgt := 15) hx hb dL_passDays_9 (by decide) ?_
    refine lv_iconst (v := 0) hx hb dL_passDays_15 (by decide) ?_
    have e9 : kL [1] r.2 = 0 := by rw [hv9]; rfl
    rw [e9]
    exact gw_iret hx hb hr hlocks ⟨gWS_keep hX hob hW1 g3, by rw [hv9]; exact g1⟩ g4 (Nat.le_of_eq (Nat.zero_add _)) (Nat.le_of_eq (Nat.zero_add _)) dL_passDays_16
  · have hv9 := oI_l ho
    obtain rfl := hL _ hv9
    refine vx_catch hown [] ⟨0, 9, 12, 13⟩ [] (htab.trans rfl) (fun z hz => by cases hz) (by decide) (by decide) (hts _ kl_L_13) (FX_cs F hk cs_1) hce hvm hcl ?_
    refine lv_astore_n hx hb dL_passDays_12 rfl hl (by decide) rfl (fun ls9 hl9 => ?_)
    refine lv_iconst (v := 1) hx hb dL_passDays_13 (by decide) ?_
    have e9 : kL [1] r.2 = 1 := by rw [hv9]; decide
    rw [e9]
    exact gw_iret hx hb hr hlocks ⟨hW1, by rw [hv9]; exact at_keep hob hW.2 hS1⟩ hS1.gAo (Nat.le_of_eq (Nat.zero_add _)) (Nat.le_of_eq (Nat.zero_add _)) dL_passDays_14
theorem dL_ask_0 : decode cL_ask 0 = .ok (.aload 5, 2) := by decide +kernel
theorem dL_ask_2 : decode cL_ask 2 = .ok (.iconst 0, 1) := by decide +kernel
theorem dL_ask_3 : decode cL_ask 3 = .ok (.aload_n 0, 1) := by decide +kernel
theorem dL_ask_4 : decode cL_ask 4 = .ok (.iload_n 1, 1) := by decide +kernel
theorem dL_ask_5 : decode cL_ask 5 = .ok (.iload_n 2, 1) := by decide +kernel
theorem dL_ask_6 : decode cL_ask 6 = .ok (.iload_n 3, 1) := by decide +kernel
theorem dL_ask_7 : decode cL_ask 7 = .ok (.iload 4, 2) := by decide +kernel
theorem dL_ask_9 : decode cL_ask 9 = .ok (.invokevirtual 120, 3) := by decide +kernel
theorem dL_ask_12 : decode cL_ask 12 = .ok (.i2l, 1) := by decide +kernel
theorem dL_ask_13 : decode cL_ask 13 = .ok (.lastore, 1) := by decide +kernel
theorem dL_ask_14 : decode cL_ask 14 = .ok (.goto 15, 3) := by decide +kernel
theorem dL_ask_17 : decode cL_ask 17 = .ok (.astore 6, 2) := by decide +kernel
theorem dL_ask_19 : decode cL_ask 19 = .ok (.iconst 1, 1) := by decide +kernel
theorem dL_ask_20 : decode cL_ask 20 = .ok (.ireturn, 1) := by decide +kernel
theorem dL_ask_21 : decode cL_ask 21 = .ok (.astore 6, 2) := by decide +kernel
theorem dL_ask_23 : decode cL_ask 23 = .ok (.iconst 2, 1) := by decide +kernel
theorem dL_ask_24 : decode cL_ask 24 = .ok (.ireturn, 1) := by decide +kernel
theorem dL_ask_25 : decode cL_ask 25 = .ok (.astore 6, 2) := by decide +kernel
theorem dL_ask_27 : decode cL_ask 27 = .ok (.iconst 3, 1) := by decide +kernel
theorem dL_ask_28 : decode cL_ask 28 = .ok (.ireturn, 1) := by decide +kernel
theorem dL_ask_29 : decode cL_ask 29 = .ok (.iconst 0, 1) := by decide +kernel
theorem dL_ask_30 : decode cL_ask 30 = .ok (.ireturn, 1) := by decide +kernel
theorem ml_L_120 : gMV RL 120 yX10_ask cX10_ask 5 (some .int) 4 := ⟨⟨wg_t 1125 (by decide +kernel) (by decide +kernel), wg_t 1128 (by decide +kernel) (by decide +kernel), wg_t 1 (by decide +kernel) (by decide +kernel), by decide +kernel⟩, wg_t 1126 (by decide +kernel) (by decide +kernel), wg_t 1127 (by decide +kernel) (by decide +kernel)⟩
abbrev hhL_ask : List (Nat × Nat × Nat × Nat) := [(0, 14, 17, 21), (0, 14, 21, 13), (0, 14, 25, 15)]
theorem mw_L_309 : gML RL 309 yL_ask cL_ask 7 hhL_ask 6 := ⟨wg_t 1122 (by decide +kernel) (by decide +kernel), wg_t 1124 (by decide +kernel) (by decide +kernel), wg_t 0 (by decide +kernel) (by decide +kernel), by decide +kernel, wg_t 1123 (by decide +kernel) (by decide +kernel)⟩
abbrev rmL_ask : Room := { frames := 8, cells := 1, slots := 6, locals := 168 }
set_option maxHeartbeats 4000000 in
set_option maxRecDepth 100000 in
theorem metL_ask {l : Launch} {s0 : State} {b B : Nat} {D : va_G} {T : Nat → ClassId} (F : FX l s0 b D T B) {X : Nat → Prop} (hX : ∀ o, o < 561 → ¬ X (B + o)) {ob : Nat} (hob : X ob) {f : Nat → Int64} {N : Nat} {μ : Mem} {cap : Nat} {t : List Nat} {a1 : Int32} {a2 : Int32} {a3 : Int32} {a4 : Int32} {r : Mem × (Nat ⊕ Int32)} (h : fX10_ask N μ 0 a1 a2 a3 a4 = some r) (hL : ∀ k, r.2 = .inl k → k = 0 ∨ k = 1 ∨ k = 2) : gMetH l yL_ask cL_ask 7 hhL_ask rmL_ask [.ref (B + 0), .int a1, .int a2, .int a3, .int a4, .ref ob] (gWL s0 D T B X μ cap t ob f) (KC s0 X) (some (.int (kL [0, 1, 2] r.2))) (gWL s0 D T B X r.1 cap t ob (upI f r.2)) (gAo B X ob) 1 6 := by
  refine gMetH_of RL (by decide +kernel) rfl (Nat.le_of_ble_eq_true rfl) ?_
  intro p e s m below meth c ls hx hb hr hlocks hml hown hts htab hW hk hl hS
  have hC := FX_C F hk hx hb hown hts
  have hl : lv_has ls 7 [(0, .ref (B + 0)), (1, .int a1), (2, .int a2), (3, .int a3), (4, .int a4), (5, .ref ob)] := hl
  have hS0 : va_S (gA B X) s.heap s.heap [] := va_S.rf
  refine lv_aload hx hb dL_ask_0 (lv_at hl 5 rfl) ?_
  refine lv_iconst (v := 0) hx hb dL_ask_2 (by decide) ?_
  refine lv_aload_n hx hb dL_ask_3 rfl (lv_at hl 0 rfl) ?_
  refine lv_iload_n hx hb dL_ask_4 rfl (lv_at hl 1 rfl) ?_
  refine lv_iload_n hx hb dL_ask_5 rfl (lv_at hl 2 rfl) ?_
  refine lv_iload_n hx hb dL_ask_6 rfl (lv_at hl 3 rfl) ?_
  refine lv_iload hx hb dL_ask_7 (lv_at hl 4 rfl) ?_
  refine gs_callXV (As := [.int a1, .int a2, .int a3, .int a4]) F hX hk hC hml hS0 hW.1 (fun X9 hX9 => metX10_ask F hX9 is_Ga h) ml_L_120 (gw_recv hC hW.1.1 is_Ga.1 (is_Ga.2.2.1 (gfm s0) T B (μ 0)) rfl) ⟨rfl, rfl, (Nat.le_of_ble_eq_true rfl), (Nat.le_of_ble_eq_true rfl)⟩ rfl hl.1 rfl (Nat.le_of_ble_eq_true rfl) dL_ask_9 ⟨(Nat.le_of_ble_eq_true rfl), (Nat.le_of_ble_eq_true rfl)⟩ (fun v9 ho H1 locs1 hW1 hS1 => ?_) (fun k9 ho H1 locs1 q9 ce9 hW1 hS1 hce hvm hcl => ?_)
  · obtain ⟨x9, hv9, rfl⟩ := oI_r ho
    refine lv_i2l hx hb dL_ask_12 rfl ?_
    refine gl_last hC (at_keep hob hW.2 hS1) hS1.gAo (Or.inr rfl) dL_ask_13 (fun H2 locs2 g1 g2 g3 g4 => ?_)
    refine lv_goto (tgt := 29) hx hb dL_ask_14 (by decide) ?_
    refine lv_iconst (v := 0) hx hb dL_ask_29 (by decide) ?_
    have e9 : kL [0, 1, 2] r.2 = 0 := by rw [hv9]; rfl
    rw [e9]
    exact gw_iret hx hb hr hlocks ⟨gWS_keep hX hob hW1 g3, by rw [hv9]; exact g1⟩ g4 (Nat.le_of_eq (Nat.zero_add _)) (Nat.le_of_eq (Nat.zero_add _)) dL_ask_30
  · have hv9 := oI_l ho
    rcases hL _ hv9 with rfl | rfl | rfl
    · refine vx_catch hown [] ⟨0, 14, 17, 21⟩ [⟨0, 14, 21, 13⟩, ⟨0, 14, 25, 15⟩] (htab.trans rfl) (fun z hz => by cases hz) (by decide) (by decide) (hts _ kl_L_21) (FX_cs F hk cs_0) hce hvm hcl ?_
      refine lv_astore hx hb dL_ask_17 hl (by decide) rfl (fun ls9 hl9 => ?_)
      refine lv_iconst (v := 1) hx hb dL_ask_19 (by decide) ?_
      have e9 : kL [0, 1, 2] r.2 = 1 := by rw [hv9]; decide
      rw [e9]
      exact gw_iret hx hb hr hlocks ⟨hW1, by rw [hv9]; exact at_keep hob hW.2 hS1⟩ hS1.gAo (Nat.le_of_eq (Nat.zero_add _)) (Nat.le_of_eq (Nat.zero_add _)) dL_ask_20
    · refine vx_catch hown [⟨0, 14, 17, 21⟩] ⟨0, 14, 21, 13⟩ [⟨0, 14, 25, 15⟩] (htab.trans rfl) (fun z hz => by cases List.mem_singleton.mp hz; exact Or.inr ⟨by decide, _, hts _ kl_L_21, FX_nc F hk nc_1_0⟩) (by decide) (by decide) (hts _ kl_L_13) (FX_cs F hk cs_1) hce hvm hcl ?_
      refine lv_astore hx hb dL_ask_21 hl (by decide) rfl (fun ls9 hl9 => ?_)
      refine lv_iconst (v := 2) hx hb dL_ask_23 (by decide) ?_
      have e9 : kL [0, 1, 2] r.2 = 2 := by rw [hv9]; decide
      rw [e9]
      exact gw_iret hx hb hr hlocks ⟨hW1, by rw [hv9]; exact at_keep hob hW.2 hS1⟩ hS1.gAo (Nat.le_of_eq (Nat.zero_add _)) (Nat.le_of_eq (Nat.zero_add _)) dL_ask_24
    · refine vx_catch hown [⟨0, 14, 17, 21⟩, ⟨0, 14, 21, 13⟩] ⟨0, 14, 25, 15⟩ [] (htab.trans rfl) (fun z hz => by
        rcases List.mem_cons.mp hz with rfl | hz
        · exact Or.inr ⟨by decide, _, hts _ kl_L_21, FX_nc F hk nc_2_0⟩
        · cases List.mem_singleton.mp hz; exact Or.inr ⟨by decide, _, hts _ kl_L_13, FX_nc F hk nc_2_1⟩) (by decide) (by decide) (hts _ kl_L_15) (FX_cs F hk cs_2) hce hvm hcl ?_
      refine lv_astore hx hb dL_ask_25 hl (by decide) rfl (fun ls9 hl9 => ?_)
      refine lv_iconst (v := 3) hx hb dL_ask_27 (by decide) ?_
      have e9 : kL [0, 1, 2] r.2 = 3 := by rw [hv9]; decide
      rw [e9]
      exact gw_iret hx hb hr hlocks ⟨hW1, by rw [hv9]; exact at_keep hob hW.2 hS1⟩ hS1.gAo (Nat.le_of_eq (Nat.zero_add _)) (Nat.le_of_eq (Nat.zero_add _)) dL_ask_28
theorem dL_takeBest_0 : decode cL_takeBest 0 = .ok (.aload_n 2, 1) := by decide +kernel
theorem dL_takeBest_1 : decode cL_takeBest 1 = .ok (.iconst 0, 1) := by decide +kernel
theorem dL_takeBest_2 : decode cL_takeBest 2 = .ok (.aload_n 0, 1) := by decide +kernel
theorem dL_takeBest_3 : decode cL_takeBest 3 = .ok (.iload_n 1, 1) := by decide +kernel
theorem dL_takeBest_4 : decode cL_takeBest 4 = .ok (.invokevirtual 123, 3) := by decide +kernel
theorem dL_takeBest_7 : decode cL_takeBest 7 = .ok (.i2l, 1) := by decide +kernel
theorem dL_takeBest_8 : decode cL_takeBest 8 = .ok (.lastore, 1) := by decide +kernel
theorem dL_takeBest_9 : decode cL_takeBest 9 = .ok (.goto 9, 3) := by decide +kernel
theorem dL_takeBest_12 : decode cL_takeBest 12 = .ok (.astore_n 3, 1) := by decide +kernel
theorem dL_takeBest_13 : decode cL_takeBest 13 = .ok (.iconst 1, 1) := by decide +kernel
theorem dL_takeBest_14 : decode cL_takeBest 14 = .ok (.ireturn, 1) := by decide +kernel
theorem dL_takeBest_15 : decode cL_takeBest 15 = .ok (.astore_n 3, 1) := by decide +kernel
theorem dL_takeBest_16 : decode cL_takeBest 16 = .ok (.iconst 2, 1) := by decide +kernel
theorem dL_takeBest_17 : decode cL_takeBest 17 = .ok (.ireturn, 1) := by decide +kernel
theorem dL_takeBest_18 : decode cL_takeBest 18 = .ok (.iconst 0, 1) := by decide +kernel
theorem dL_takeBest_19 : decode cL_takeBest 19 = .ok (.ireturn, 1) := by decide +kernel
theorem ml_L_123 : gMV RL 123 yX10_takeBest cX10_takeBest 2 (some .int) 1 := ⟨⟨wg_t 1140 (by decide +kernel) (by decide +kernel), wg_t 1143 (by decide +kernel) (by decide +kernel), wg_t 1 (by decide +kernel) (by decide +kernel), by decide +kernel⟩, wg_t 1141 (by decide +kernel) (by decide +kernel), wg_t 1142 (by decide +kernel) (by decide +kernel)⟩
abbrev hhL_takeBest : List (Nat × Nat × Nat × Nat) := [(0, 9, 12, 21), (0, 9, 15, 15)]
theorem mw_L_312 : gML RL 312 yL_takeBest cL_takeBest 4 hhL_takeBest 3 := ⟨wg_t 1137 (by decide +kernel) (by decide +kernel), wg_t 1139 (by decide +kernel) (by decide +kernel), wg_t 0 (by decide +kernel) (by decide +kernel), by decide +kernel, wg_t 1138 (by decide +kernel) (by decide +kernel)⟩
abbrev rmL_takeBest : Room := { frames := 8, cells := 1, slots := 6, locals := 198 }
set_option maxHeartbeats 4000000 in
set_option maxRecDepth 100000 in
theorem metL_takeBest {l : Launch} {s0 : State} {b B : Nat} {D : va_G} {T : Nat → ClassId} (F : FX l s0 b D T B) {X : Nat → Prop} (hX : ∀ o, o < 561 → ¬ X (B + o)) {ob : Nat} (hob : X ob) {f : Nat → Int64} {N : Nat} {μ : Mem} {cap : Nat} {t : List Nat} {a1 : Int32} {r : Mem × (Nat ⊕ Int32)} (h : fX10_takeBest N μ 0 a1 = some r) (hL : ∀ k, r.2 = .inl k → k = 0 ∨ k = 2) : gMetH l yL_takeBest cL_takeBest 4 hhL_takeBest rmL_takeBest [.ref (B + 0), .int a1, .ref ob] (gWL s0 D T B X μ cap t ob f) (KC s0 X) (some (.int (kL [0, 2] r.2))) (gWL s0 D T B X r.1 cap t ob (upI f r.2)) (gAo B X ob) 1 6 := by
  refine gMetH_of RL (by decide +kernel) rfl (Nat.le_of_ble_eq_true rfl) ?_
  intro p e s m below meth c ls hx hb hr hlocks hml hown hts htab hW hk hl hS
  have hC := FX_C F hk hx hb hown hts
  have hl : lv_has ls 4 [(0, .ref (B + 0)), (1, .int a1), (2, .ref ob)] := hl
  have hS0 : va_S (gA B X) s.heap s.heap [] := va_S.rf
  refine lv_aload_n hx hb dL_takeBest_0 rfl (lv_at hl 2 rfl) ?_
  refine lv_iconst (v := 0) hx hb dL_takeBest_1 (by decide) ?_
  refine lv_aload_n hx hb dL_takeBest_2 rfl (lv_at hl 0 rfl) ?_
  refine lv_iload_n hx hb dL_takeBest_3 rfl (lv_at hl 1 rfl) ?_
  refine gs_callXV (As := [.int a1]) F hX hk hC hml hS0 hW.1 (fun X9 hX9 => metX10_takeBest F hX9 is_Ga h) ml_L_123 (gw_recv hC hW.1.1 is_Ga.1 (is_Ga.2.2.1 (gfm s0) T B (μ 0)) rfl) ⟨rfl, rfl, (Nat.le_of_ble_eq_true rfl), (Nat.le_of_ble_eq_true rfl)⟩ rfl hl.1 rfl (Nat.le_of_ble_eq_true rfl) dL_takeBest_4 ⟨(Nat.le_of_ble_eq_true rfl), (Nat.le_of_ble_eq_true rfl)⟩ (fun v9 ho H1 locs1 hW1 hS1 => ?_) (fun k9 ho H1 locs1 q9 ce9 hW1 hS1 hce hvm hcl => ?_)
  · obtain ⟨x9, hv9, rfl⟩ := oI_r ho
    refine lv_i2l hx hb dL_takeBest_7 rfl ?_
    refine gl_last hC (at_keep hob hW.2 hS1) hS1.gAo (Or.inr rfl) dL_takeBest_8 (fun H2 locs2 g1 g2 g3 g4 => ?_)
    refine lv_goto (tgt := 18) hx hb dL_takeBest_9 (by decide) ?_
    refine lv_iconst (v := 0) hx hb dL_takeBest_18 (by decide) ?_
    have e9 : kL [0, 2] r.2 = 0 := by rw [hv9]; rfl
    rw [e9]
    exact gw_iret hx hb hr hlocks ⟨gWS_keep hX hob hW1 g3, by rw [hv9]; exact g1⟩ g4 (Nat.le_of_eq (Nat.zero_add _)) (Nat.le_of_eq (Nat.zero_add _)) dL_takeBest_19
  · have hv9 := oI_l ho
    rcases hL _ hv9 with rfl | rfl
    · refine vx_catch hown [] ⟨0, 9, 12, 21⟩ [⟨0, 9, 15, 15⟩] (htab.trans rfl) (fun z hz => by cases hz) (by decide) (by decide) (hts _ kl_L_21) (FX_cs F hk cs_0) hce hvm hcl ?_
      refine lv_astore_n hx hb dL_takeBest_12 rfl hl (by decide) rfl (fun ls9 hl9 => ?_)
      refine lv_iconst (v := 1) hx hb dL_takeBest_13 (by decide) ?_
      have e9 : kL [0, 2] r.2 = 1 := by rw [hv9]; decide
      rw [e9]
      exact gw_iret hx hb hr hlocks ⟨hW1, by rw [hv9]; exact at_keep hob hW.2 hS1⟩ hS1.gAo (Nat.le_of_eq (Nat.zero_add _)) (Nat.le_of_eq (Nat.zero_add _)) dL_takeBest_14
    · refine vx_catch hown [⟨0, 9, 12, 21⟩] ⟨0, 9, 15, 15⟩ [] (htab.trans rfl) (fun z hz => by cases List.mem_singleton.mp hz; exact Or.inr ⟨by decide, _, hts _ kl_L_21, FX_nc F hk nc_2_0⟩) (by decide) (by decide) (hts _ kl_L_15) (FX_cs F hk cs_2) hce hvm hcl ?_
      refine lv_astore_n hx hb dL_takeBest_15 rfl hl (by decide) rfl (fun ls9 hl9 => ?_)
      refine lv_iconst (v := 2) hx hb dL_takeBest_16 (by decide) ?_
      have e9 : kL [0, 2] r.2 = 2 := by rw [hv9]; decide
      rw [e9]
      exact gw_iret hx hb hr hlocks ⟨hW1, by rw [hv9]; exact at_keep hob hW.2 hS1⟩ hS1.gAo (Nat.le_of_eq (Nat.zero_add _)) (Nat.le_of_eq (Nat.zero_add _)) dL_takeBest_17
theorem dL_askedCount_0 : decode cL_askedCount 0 = .ok (.aload_n 2, 1) := by decide +kernel
theorem dL_askedCount_1 : decode cL_askedCount 1 = .ok (.iconst 0, 1) := by decide +kernel
theorem dL_askedCount_2 : decode cL_askedCount 2 = .ok (.aload_n 0, 1) := by decide +kernel
theorem dL_askedCount_3 : decode cL_askedCount 3 = .ok (.iload_n 1, 1) := by decide +kernel
theorem dL_askedCount_4 : decode cL_askedCount 4 = .ok (.invokevirtual 126, 3) := by decide +kernel
theorem dL_askedCount_7 : decode cL_askedCount 7 = .ok (.i2l, 1) := by decide +kernel
theorem dL_askedCount_8 : decode cL_askedCount 8 = .ok (.lastore, 1) := by decide +kernel
theorem dL_askedCount_9 : decode cL_askedCount 9 = .ok (.goto 6, 3) := by decide +kernel
theorem dL_askedCount_12 : decode cL_askedCount 12 = .ok (.astore_n 3, 1) := by decide +kernel
theorem dL_askedCount_13 : decode cL_askedCount 13 = .ok (.iconst 1, 1) := by decide +kernel
theorem dL_askedCount_14 : decode cL_askedCount 14 = .ok (.ireturn, 1) := by decide +kernel
theorem dL_askedCount_15 : decode cL_askedCount 15 = .ok (.iconst 0, 1) := by decide +kernel
theorem dL_askedCount_16 : decode cL_askedCount 16 = .ok (.ireturn, 1) := by decide +kernel
theorem ml_L_126 : gMV RL 126 yX10_askedCount cX10_askedCount 2 (some .int) 1 := ⟨⟨wg_t 1165 (by decide +kernel) (by decide +kernel), wg_t 1168 (by decide +kernel) (by decide +kernel), wg_t 1 (by decide +kernel) (by decide +kernel), by decide +kernel⟩, wg_t 1166 (by decide +kernel) (by decide +kernel), wg_t 1167 (by decide +kernel) (by decide +kernel)⟩
abbrev hhL_askedCount : List (Nat × Nat × Nat × Nat) := [(0, 9, 12, 21)]
theorem mw_L_315 : gML RL 315 yL_askedCount cL_askedCount 4 hhL_askedCount 3 := ⟨wg_t 1162 (by decide +kernel) (by decide +kernel), wg_t 1164 (by decide +kernel) (by decide +kernel), wg_t 0 (by decide +kernel) (by decide +kernel), by decide +kernel, wg_t 1163 (by decide +kernel) (by decide +kernel)⟩
abbrev rmL_askedCount : Room := { frames := 8, cells := 1, slots := 6, locals := 162 }
set_option maxHeartbeats 4000000 in
set_option maxRecDepth 100000 in
theorem metL_askedCount {l : Launch} {s0 : State} {b B : Nat} {D : va_G} {T : Nat → ClassId} (F : FX l s0 b D T B) {X : Nat → Prop} (hX : ∀ o, o < 561 → ¬ X (B + o)) {ob : Nat} (hob : X ob) {f : Nat → Int64} {N : Nat} {μ : Mem} {cap : Nat} {t : List Nat} {a1 : Int32} {r : Mem × (Nat ⊕ Int32)} (h : fX10_askedCount N μ 0 a1 = some r) (hL : ∀ k, r.2 = .inl k → k = 0) : gMetH l yL_askedCount cL_askedCount 4 hhL_askedCount rmL_askedCount [.ref (B + 0), .int a1, .ref ob] (gWL s0 D T B X μ cap t ob f) (KC s0 X) (some (.int (kL [0] r.2))) (gWL s0 D T B X r.1 cap t ob (upI f r.2)) (gAo B X ob) 1 6 := by
  refine gMetH_of RL (by decide +kernel) rfl (Nat.le_of_ble_eq_true rfl) ?_
  intro p e s m below meth c ls hx hb hr hlocks hml hown hts htab hW hk hl hS
  have hC := FX_C F hk hx hb hown hts
  have hl : lv_has ls 4 [(0, .ref (B + 0)), (1, .int a1), (2, .ref ob)] := hl
  have hS0 : va_S (gA B X) s.heap s.heap [] := va_S.rf
  refine lv_aload_n hx hb dL_askedCount_0 rfl (lv_at hl 2 rfl) ?_
  refine lv_iconst (v := 0) hx hb dL_askedCount_1 (by decide) ?_
  refine lv_aload_n hx hb dL_askedCount_2 rfl (lv_at hl 0 rfl) ?_
  refine lv_iload_n hx hb dL_askedCount_3 rfl (lv_at hl 1 rfl) ?_
  refine gs_callXV (As := [.int a1]) F hX hk hC hml hS0 hW.1 (fun X9 hX9 => metX10_askedCount F hX9 is_Ga h) ml_L_126 (gw_recv hC hW.1.1 is_Ga.1 (is_Ga.2.2.1 (gfm s0) T B (μ 0)) rfl) ⟨rfl, rfl, (Nat.le_of_ble_eq_true rfl), (Nat.le_of_ble_eq_true rfl)⟩ rfl hl.1 rfl (Nat.le_of_ble_eq_true rfl) dL_askedCount_4 ⟨(Nat.le_of_ble_eq_true rfl), (Nat.le_of_ble_eq_true rfl)⟩ (fun v9 ho H1 locs1 hW1 hS1 => ?_) (fun k9 ho H1 locs1 q9 ce9 hW1 hS1 hce hvm hcl => ?_)
  · obtain ⟨x9, hv9, rfl⟩ := oI_r ho
    refine lv_i2l hx hb dL_askedCount_7 rfl ?_
    refine gl_last hC (at_keep hob hW.2 hS1) hS1.gAo (Or.inr rfl) dL_askedCount_8 (fun H2 locs2 g1 g2 g3 g4 => ?_)
    refine lv_goto (tgt := 15) hx hb dL_askedCount_9 (by decide) ?_
    refine lv_iconst (v := 0) hx hb dL_askedCount_15 (by decide) ?_
    have e9 : kL [0] r.2 = 0 := by rw [hv9]; rfl
    rw [e9]
    exact gw_iret hx hb hr hlocks ⟨gWS_keep hX hob hW1 g3, by rw [hv9]; exact g1⟩ g4 (Nat.le_of_eq (Nat.zero_add _)) (Nat.le_of_eq (Nat.zero_add _)) dL_askedCount_16
  · have hv9 := oI_l ho
    obtain rfl := hL _ hv9
    refine vx_catch hown [] ⟨0, 9, 12, 21⟩ [] (htab.trans rfl) (fun z hz => by cases hz) (by decide) (by decide) (hts _ kl_L_21) (FX_cs F hk cs_0) hce hvm hcl ?_
    refine lv_astore_n hx hb dL_askedCount_12 rfl hl (by decide) rfl (fun ls9 hl9 => ?_)
    refine lv_iconst (v := 1) hx hb dL_askedCount_13 (by decide) ?_
    have e9 : kL [0] r.2 = 1 := by rw [hv9]; decide
    rw [e9]
    exact gw_iret hx hb hr hlocks ⟨hW1, by rw [hv9]; exact at_keep hob hW.2 hS1⟩ hS1.gAo (Nat.le_of_eq (Nat.zero_add _)) (Nat.le_of_eq (Nat.zero_add _)) dL_askedCount_14
theorem dL_takenCount_0 : decode cL_takenCount 0 = .ok (.aload_n 2, 1) := by decide +kernel
theorem dL_takenCount_1 : decode cL_takenCount 1 = .ok (.iconst 0, 1) := by decide +kernel
theorem dL_takenCount_2 : decode cL_takenCount 2 = .ok (.aload_n 0, 1) := by decide +kernel
theorem dL_takenCount_3 : decode cL_takenCount 3 = .ok (.iload_n 1, 1) := by decide +kernel
theorem dL_takenCount_4 : decode cL_takenCount 4 = .ok (.invokevirtual 129, 3) := by decide +kernel
theorem dL_takenCount_7 : decode cL_takenCount 7 = .ok (.i2l, 1) := by decide +kernel
theorem dL_takenCount_8 : decode cL_takenCount 8 = .ok (.lastore, 1) := by decide +kernel
theorem dL_takenCount_9 : decode cL_takenCount 9 = .ok (.goto 6, 3) := by decide +kernel
theorem dL_takenCount_12 : decode cL_takenCount 12 = .ok (.astore_n 3, 1) := by decide +kernel
theorem dL_takenCount_13 : decode cL_takenCount 13 = .ok (.iconst 1, 1) := by decide +kernel
theorem dL_takenCount_14 : decode cL_takenCount 14 = .ok (.ireturn, 1) := by decide +kernel
theorem dL_takenCount_15 : decode cL_takenCount 15 = .ok (.iconst 0, 1) := by decide +kernel
theorem dL_takenCount_16 : decode cL_takenCount 16 = .ok (.ireturn, 1) := by decide +kernel
theorem ml_L_129 : gMV RL 129 yX10_takenCount cX10_takenCount 2 (some .int) 1 := ⟨⟨wg_t 1172 (by decide +kernel) (by decide +kernel), wg_t 1175 (by decide +kernel) (by decide +kernel), wg_t 1 (by decide +kernel) (by decide +kernel), by decide +kernel⟩, wg_t 1173 (by decide +kernel) (by decide +kernel), wg_t 1174 (by decide +kernel) (by decide +kernel)⟩
abbrev hhL_takenCount : List (Nat × Nat × Nat × Nat) := [(0, 9, 12, 21)]
theorem mw_L_318 : gML RL 318 yL_takenCount cL_takenCount 4 hhL_takenCount 3 := ⟨wg_t 1169 (by decide +kernel) (by decide +kernel), wg_t 1171 (by decide +kernel) (by decide +kernel), wg_t 0 (by decide +kernel) (by decide +kernel), by decide +kernel, wg_t 1170 (by decide +kernel) (by decide +kernel)⟩
abbrev rmL_takenCount : Room := { frames := 8, cells := 1, slots := 6, locals := 162 }
set_option maxHeartbeats 4000000 in
set_option maxRecDepth 100000 in
theorem metL_takenCount {l : Launch} {s0 : State} {b B : Nat} {D : va_G} {T : Nat → ClassId} (F : FX l s0 b D T B) {X : Nat → Prop} (hX : ∀ o, o < 561 → ¬ X (B + o)) {ob : Nat} (hob : X ob) {f : Nat → Int64} {N : Nat} {μ : Mem} {cap : Nat} {t : List Nat} {a1 : Int32} {r : Mem × (Nat ⊕ Int32)} (h : fX10_takenCount N μ 0 a1 = some r) (hL : ∀ k, r.2 = .inl k → k = 0) : gMetH l yL_takenCount cL_takenCount 4 hhL_takenCount rmL_takenCount [.ref (B + 0), .int a1, .ref ob] (gWL s0 D T B X μ cap t ob f) (KC s0 X) (some (.int (kL [0] r.2))) (gWL s0 D T B X r.1 cap t ob (upI f r.2)) (gAo B X ob) 1 6 := by
  refine gMetH_of RL (by decide +kernel) rfl (Nat.le_of_ble_eq_true rfl) ?_
  intro p e s m below meth c ls hx hb hr hlocks hml hown hts htab hW hk hl hS
  have hC := FX_C F hk hx hb hown hts
  have hl : lv_has ls 4 [(0, .ref (B + 0)), (1, .int a1), (2, .ref ob)] := hl
  have hS0 : va_S (gA B X) s.heap s.heap [] := va_S.rf
  refine lv_aload_n hx hb dL_takenCount_0 rfl (lv_at hl 2 rfl) ?_
  refine lv_iconst (v := 0) hx hb dL_takenCount_1 (by decide) ?_
  refine lv_aload_n hx hb dL_takenCount_2 rfl (lv_at hl 0 rfl) ?_
  refine lv_iload_n hx hb dL_takenCount_3 rfl (lv_at hl 1 rfl) ?_
  refine gs_callXV (As := [.int a1]) F hX hk hC hml hS0 hW.1 (fun X9 hX9 => metX10_takenCount F hX9 is_Ga h) ml_L_129 (gw_recv hC hW.1.1 is_Ga.1 (is_Ga.2.2.1 (gfm s0) T B (μ 0)) rfl) ⟨rfl, rfl, (Nat.le_of_ble_eq_true rfl), (Nat.le_of_ble_eq_true rfl)⟩ rfl hl.1 rfl (Nat.le_of_ble_eq_true rfl) dL_takenCount_4 ⟨(Nat.le_of_ble_eq_true rfl), (Nat.le_of_ble_eq_true rfl)⟩ (fun v9 ho H1 locs1 hW1 hS1 => ?_) (fun k9 ho H1 locs1 q9 ce9 hW1 hS1 hce hvm hcl => ?_)
  · obtain ⟨x9, hv9, rfl⟩ := oI_r ho
    refine lv_i2l hx hb dL_takenCount_7 rfl ?_
    refine gl_last hC (at_keep hob hW.2 hS1) hS1.gAo (Or.inr rfl) dL_takenCount_8 (fun H2 locs2 g1 g2 g3 g4 => ?_)
    refine lv_goto (tgt := 15) hx hb dL_takenCount_9 (by decide) ?_
    refine lv_iconst (v := 0) hx hb dL_takenCount_15 (by decide) ?_
    have e9 : kL [0] r.2 = 0 := by rw [hv9]; rfl
    rw [e9]
    exact gw_iret hx hb hr hlocks ⟨gWS_keep hX hob hW1 g3, by rw [hv9]; exact g1⟩ g4 (Nat.le_of_eq (Nat.zero_add _)) (Nat.le_of_eq (Nat.zero_add _)) dL_takenCount_16
  · have hv9 := oI_l ho
    obtain rfl := hL _ hv9
    refine vx_catch hown [] ⟨0, 9, 12, 21⟩ [] (htab.trans rfl) (fun z hz => by cases hz) (by decide) (by decide) (hts _ kl_L_21) (FX_cs F hk cs_0) hce hvm hcl ?_
    refine lv_astore_n hx hb dL_takenCount_12 rfl hl (by decide) rfl (fun ls9 hl9 => ?_)
    refine lv_iconst (v := 1) hx hb dL_takenCount_13 (by decide) ?_
    have e9 : kL [0] r.2 = 1 := by rw [hv9]; decide
    rw [e9]
    exact gw_iret hx hb hr hlocks ⟨hW1, by rw [hv9]; exact at_keep hob hW.2 hS1⟩ hS1.gAo (Nat.le_of_eq (Nat.zero_add _)) (Nat.le_of_eq (Nat.zero_add _)) dL_takenCount_14
theorem dL_bestFees_0 : decode cL_bestFees 0 = .ok (.aload_n 2, 1) := by decide +kernel
theorem dL_bestFees_1 : decode cL_bestFees 1 = .ok (.iconst 0, 1) := by decide +kernel
theorem dL_bestFees_2 : decode cL_bestFees 2 = .ok (.aload_n 0, 1) := by decide +kernel
theorem dL_bestFees_3 : decode cL_bestFees 3 = .ok (.iload_n 1, 1) := by decide +kernel
theorem dL_bestFees_4 : decode cL_bestFees 4 = .ok (.invokevirtual 132, 3) := by decide +kernel
theorem dL_bestFees_7 : decode cL_bestFees 7 = .ok (.i2l, 1) := by decide +kernel
theorem dL_bestFees_8 : decode cL_bestFees 8 = .ok (.lastore, 1) := by decide +kernel
theorem dL_bestFees_9 : decode cL_bestFees 9 = .ok (.goto 6, 3) := by decide +kernel
theorem dL_bestFees_12 : decode cL_bestFees 12 = .ok (.astore_n 3, 1) := by decide +kernel
theorem dL_bestFees_13 : decode cL_bestFees 13 = .ok (.iconst 1, 1) := by decide +kernel
theorem dL_bestFees_14 : decode cL_bestFees 14 = .ok (.ireturn, 1) := by decide +kernel
theorem dL_bestFees_15 : decode cL_bestFees 15 = .ok (.iconst 0, 1) := by decide +kernel
theorem dL_bestFees_16 : decode cL_bestFees 16 = .ok (.ireturn, 1) := by decide +kernel
theorem ml_L_132 : gMV RL 132 yX10_bestFees cX10_bestFees 2 (some .int) 1 := ⟨⟨wg_t 1179 (by decide +kernel) (by decide +kernel), wg_t 1182 (by decide +kernel) (by decide +kernel), wg_t 1 (by decide +kernel) (by decide +kernel), by decide +kernel⟩, wg_t 1180 (by decide +kernel) (by decide +kernel), wg_t 1181 (by decide +kernel) (by decide +kernel)⟩
abbrev hhL_bestFees : List (Nat × Nat × Nat × Nat) := [(0, 9, 12, 21)]
theorem mw_L_321 : gML RL 321 yL_bestFees cL_bestFees 4 hhL_bestFees 3 := ⟨wg_t 1176 (by decide +kernel) (by decide +kernel), wg_t 1178 (by decide +kernel) (by decide +kernel), wg_t 0 (by decide +kernel) (by decide +kernel), by decide +kernel, wg_t 1177 (by decide +kernel) (by decide +kernel)⟩
abbrev rmL_bestFees : Room := { frames := 8, cells := 1, slots := 6, locals := 162 }
set_option maxHeartbeats 4000000 in
set_option maxRecDepth 100000 in
theorem metL_bestFees {l : Launch} {s0 : State} {b B : Nat} {D : va_G} {T : Nat → ClassId} (F : FX l s0 b D T B) {X : Nat → Prop} (hX : ∀ o, o < 561 → ¬ X (B + o)) {ob : Nat} (hob : X ob) {f : Nat → Int64} {N : Nat} {μ : Mem} {cap : Nat} {t : List Nat} {a1 : Int32} {r : Mem × (Nat ⊕ Int32)} (h : fX10_bestFees N μ 0 a1 = some r) (hL : ∀ k, r.2 = .inl k → k = 0) : gMetH l yL_bestFees cL_bestFees 4 hhL_bestFees rmL_bestFees [.ref (B + 0), .int a1, .ref ob] (gWL s0 D T B X μ cap t ob f) (KC s0 X) (some (.int (kL [0] r.2))) (gWL s0 D T B X r.1 cap t ob (upI f r.2)) (gAo B X ob) 1 6 := by
  refine gMetH_of RL (by decide +kernel) rfl (Nat.le_of_ble_eq_true rfl) ?_
  intro p e s m below meth c ls hx hb hr hlocks hml hown hts htab hW hk hl hS
  have hC := FX_C F hk hx hb hown hts
  have hl : lv_has ls 4 [(0, .ref (B + 0)), (1, .int a1), (2, .ref ob)] := hl
  have hS0 : va_S (gA B X) s.heap s.heap [] := va_S.rf
  refine lv_aload_n hx hb dL_bestFees_0 rfl (lv_at hl 2 rfl) ?_
  refine lv_iconst (v := 0) hx hb dL_bestFees_1 (by decide) ?_
  refine lv_aload_n hx hb dL_bestFees_2 rfl (lv_at hl 0 rfl) ?_
  refine lv_iload_n hx hb dL_bestFees_3 rfl (lv_at hl 1 rfl) ?_
  refine gs_callXV (As := [.int a1]) F hX hk hC hml hS0 hW.1 (fun X9 hX9 => metX10_bestFees F hX9 is_Ga h) ml_L_132 (gw_recv hC hW.1.1 is_Ga.1 (is_Ga.2.2.1 (gfm s0) T B (μ 0)) rfl) ⟨rfl, rfl, (Nat.le_of_ble_eq_true rfl), (Nat.le_of_ble_eq_true rfl)⟩ rfl hl.1 rfl (Nat.le_of_ble_eq_true rfl) dL_bestFees_4 ⟨(Nat.le_of_ble_eq_true rfl), (Nat.le_of_ble_eq_true rfl)⟩ (fun v9 ho H1 locs1 hW1 hS1 => ?_) (fun k9 ho H1 locs1 q9 ce9 hW1 hS1 hce hvm hcl => ?_)
  · obtain ⟨x9, hv9, rfl⟩ := oI_r ho
    refine lv_i2l hx hb dL_bestFees_7 rfl ?_
    refine gl_last hC (at_keep hob hW.2 hS1) hS1.gAo (Or.inr rfl) dL_bestFees_8 (fun H2 locs2 g1 g2 g3 g4 => ?_)
    refine lv_goto (tgt := 15) hx hb dL_bestFees_9 (by decide) ?_
    refine lv_iconst (v := 0) hx hb dL_bestFees_15 (by decide) ?_
    have e9 : kL [0] r.2 = 0 := by rw [hv9]; rfl
    rw [e9]
    exact gw_iret hx hb hr hlocks ⟨gWS_keep hX hob hW1 g3, by rw [hv9]; exact g1⟩ g4 (Nat.le_of_eq (Nat.zero_add _)) (Nat.le_of_eq (Nat.zero_add _)) dL_bestFees_16
  · have hv9 := oI_l ho
    obtain rfl := hL _ hv9
    refine vx_catch hown [] ⟨0, 9, 12, 21⟩ [] (htab.trans rfl) (fun z hz => by cases hz) (by decide) (by decide) (hts _ kl_L_21) (FX_cs F hk cs_0) hce hvm hcl ?_
    refine lv_astore_n hx hb dL_bestFees_12 rfl hl (by decide) rfl (fun ls9 hl9 => ?_)
    refine lv_iconst (v := 1) hx hb dL_bestFees_13 (by decide) ?_
    have e9 : kL [0] r.2 = 1 := by rw [hv9]; decide
    rw [e9]
    exact gw_iret hx hb hr hlocks ⟨hW1, by rw [hv9]; exact at_keep hob hW.2 hS1⟩ hS1.gAo (Nat.le_of_eq (Nat.zero_add _)) (Nat.le_of_eq (Nat.zero_add _)) dL_bestFees_14
theorem dL_bestFeesByTrials_0 : decode cL_bestFeesByTrials 0 = .ok (.aload_n 2, 1) := by decide +kernel
theorem dL_bestFeesByTrials_1 : decode cL_bestFeesByTrials 1 = .ok (.iconst 0, 1) := by decide +kernel
theorem dL_bestFeesByTrials_2 : decode cL_bestFeesByTrials 2 = .ok (.aload_n 0, 1) := by decide +kernel
theorem dL_bestFeesByTrials_3 : decode cL_bestFeesByTrials 3 = .ok (.iload_n 1, 1) := by decide +kernel
theorem dL_bestFeesByTrials_4 : decode cL_bestFeesByTrials 4 = .ok (.invokevirtual 135, 3) := by decide +kernel
theorem dL_bestFeesByTrials_7 : decode cL_bestFeesByTrials 7 = .ok (.i2l, 1) := by decide +kernel
theorem dL_bestFeesByTrials_8 : decode cL_bestFeesByTrials 8 = .ok (.lastore, 1) := by decide +kernel
theorem dL_bestFeesByTrials_9 : decode cL_bestFeesByTrials 9 = .ok (.goto 6, 3) := by decide +kernel
theorem dL_bestFeesByTrials_12 : decode cL_bestFeesByTrials 12 = .ok (.astore_n 3, 1) := by decide +kernel
theorem dL_bestFeesByTrials_13 : decode cL_bestFeesByTrials 13 = .ok (.iconst 1, 1) := by decide +kernel
theorem dL_bestFeesByTrials_14 : decode cL_bestFeesByTrials 14 = .ok (.ireturn, 1) := by decide +kernel
theorem dL_bestFeesByTrials_15 : decode cL_bestFeesByTrials 15 = .ok (.iconst 0, 1) := by decide +kernel
theorem dL_bestFeesByTrials_16 : decode cL_bestFeesByTrials 16 = .ok (.ireturn, 1) := by decide +kernel
theorem ml_L_135 : gMV RL 135 yX10_bestFeesByTrials cX10_bestFeesByTrials 3 (some .int) 1 := ⟨⟨wg_t 1186 (by decide +kernel) (by decide +kernel), wg_t 1189 (by decide +kernel) (by decide +kernel), wg_t 1 (by decide +kernel) (by decide +kernel), by decide +kernel⟩, wg_t 1187 (by decide +kernel) (by decide +kernel), wg_t 1188 (by decide +kernel) (by decide +kernel)⟩
abbrev hhL_bestFeesByTrials : List (Nat × Nat × Nat × Nat) := [(0, 9, 12, 21)]
theorem mw_L_324 : gML RL 324 yL_bestFeesByTrials cL_bestFeesByTrials 4 hhL_bestFeesByTrials 3 := ⟨wg_t 1183 (by decide +kernel) (by decide +kernel), wg_t 1185 (by decide +kernel) (by decide +kernel), wg_t 0 (by decide +kernel) (by decide +kernel), by decide +kernel, wg_t 1184 (by decide +kernel) (by decide +kernel)⟩
abbrev rmL_bestFeesByTrials : Room := { frames := 8, cells := 1, slots := 6, locals := 175 }
set_option maxHeartbeats 4000000 in
set_option maxRecDepth 100000 in
theorem metL_bestFeesByTrials {l : Launch} {s0 : State} {b B : Nat} {D : va_G} {T : Nat → ClassId} (F : FX l s0 b D T B) {X : Nat → Prop} (hX : ∀ o, o < 561 → ¬ X (B + o)) {ob : Nat} (hob : X ob) {f : Nat → Int64} {N : Nat} {μ : Mem} {cap : Nat} {t : List Nat} {a1 : Int32} {r : Mem × (Nat ⊕ Int32)} (h : fX10_bestFeesByTrials N μ 0 a1 = some r) (hL : ∀ k, r.2 = .inl k → k = 0) : gMetH l yL_bestFeesByTrials cL_bestFeesByTrials 4 hhL_bestFeesByTrials rmL_bestFeesByTrials [.ref (B + 0), .int a1, .ref ob] (gWL s0 D T B X μ cap t ob f) (KC s0 X) (some (.int (kL [0] r.2))) (gWL s0 D T B X r.1 cap t ob (upI f r.2)) (gAo B X ob) 1 6 := by
  refine gMetH_of RL (by decide +kernel) rfl (Nat.le_of_ble_eq_true rfl) ?_
  intro p e s m below meth c ls hx hb hr hlocks hml hown hts htab hW hk hl hS
  have hC := FX_C F hk hx hb hown hts
  have hl : lv_has ls 4 [(0, .ref (B + 0)), (1, .int a1), (2, .ref ob)] := hl
  have hS0 : va_S (gA B X) s.heap s.heap [] := va_S.rf
  refine lv_aload_n hx hb dL_bestFeesByTrials_0 rfl (lv_at hl 2 rfl) ?_
  refine lv_iconst (v := 0) hx hb dL_bestFeesByTrials_1 (by decide) ?_
  refine lv_aload_n hx hb dL_bestFeesByTrials_2 rfl (lv_at hl 0 rfl) ?_
  refine lv_iload_n hx hb dL_bestFeesByTrials_3 rfl (lv_at hl 1 rfl) ?_
  refine gs_callXV (As := [.int a1]) F hX hk hC hml hS0 hW.1 (fun X9 hX9 => metX10_bestFeesByTrials F hX9 is_Ga h) ml_L_135 (gw_recv hC hW.1.1 is_Ga.1 (is_Ga.2.2.1 (gfm s0) T B (μ 0)) rfl) ⟨rfl, rfl, (Nat.le_of_ble_eq_true rfl), (Nat.le_of_ble_eq_true rfl)⟩ rfl hl.1 rfl (Nat.le_of_ble_eq_true rfl) dL_bestFeesByTrials_4 ⟨(Nat.le_of_ble_eq_true rfl), (Nat.le_of_ble_eq_true rfl)⟩ (fun v9 ho H1 locs1 hW1 hS1 => ?_) (fun k9 ho H1 locs1 q9 ce9 hW1 hS1 hce hvm hcl => ?_)
  · obtain ⟨x9, hv9, rfl⟩ := oI_r ho
    refine lv_i2l hx hb dL_bestFeesByTrials_7 rfl ?_
    refine gl_last hC (at_keep hob hW.2 hS1) hS1.gAo (Or.inr rfl) dL_bestFeesByTrials_8 (fun H2 locs2 g1 g2 g3 g4 => ?_)
    refine lv_goto (tgt := 15) hx hb dL_bestFeesByTrials_9 (by decide) ?_
    refine lv_iconst (v := 0) hx hb dL_bestFeesByTrials_15 (by decide) ?_
    have e9 : kL [0] r.2 = 0 := by rw [hv9]; rfl
    rw [e9]
    exact gw_iret hx hb hr hlocks ⟨gWS_keep hX hob hW1 g3, by rw [hv9]; exact g1⟩ g4 (Nat.le_of_eq (Nat.zero_add _)) (Nat.le_of_eq (Nat.zero_add _)) dL_bestFeesByTrials_16
  · have hv9 := oI_l ho
    obtain rfl := hL _ hv9
    refine vx_catch hown [] ⟨0, 9, 12, 21⟩ [] (htab.trans rfl) (fun z hz => by cases hz) (by decide) (by decide) (hts _ kl_L_21) (FX_cs F hk cs_0) hce hvm hcl ?_
    refine lv_astore_n hx hb dL_bestFeesByTrials_12 rfl hl (by decide) rfl (fun ls9 hl9 => ?_)
    refine lv_iconst (v := 1) hx hb dL_bestFeesByTrials_13 (by decide) ?_
    have e9 : kL [0] r.2 = 1 := by rw [hv9]; decide
    rw [e9]
    exact gw_iret hx hb hr hlocks ⟨hW1, by rw [hv9]; exact at_keep hob hW.2 hS1⟩ hS1.gAo (Nat.le_of_eq (Nat.zero_add _)) (Nat.le_of_eq (Nat.zero_add _)) dL_bestFeesByTrials_14
theorem dL_isLent_0 : decode cL_isLent 0 = .ok (.aload_n 3, 1) := by decide +kernel
theorem dL_isLent_1 : decode cL_isLent 1 = .ok (.iconst 0, 1) := by decide +kernel
theorem dL_isLent_2 : decode cL_isLent 2 = .ok (.aload_n 0, 1) := by decide +kernel
theorem dL_isLent_3 : decode cL_isLent 3 = .ok (.iload_n 1, 1) := by decide +kernel
theorem dL_isLent_4 : decode cL_isLent 4 = .ok (.iload_n 2, 1) := by decide +kernel
theorem dL_isLent_5 : decode cL_isLent 5 = .ok (.invokevirtual 138, 3) := by decide +kernel
theorem dL_isLent_8 : decode cL_isLent 8 = .ok (.ifCond .eq 7, 3) := by decide +kernel
theorem dL_isLent_11 : decode cL_isLent 11 = .ok (.lconst 1, 1) := by decide +kernel
theorem dL_isLent_12 : decode cL_isLent 12 = .ok (.goto 4, 3) := by decide +kernel
theorem dL_isLent_15 : decode cL_isLent 15 = .ok (.lconst 0, 1) := by decide +kernel
theorem dL_isLent_16 : decode cL_isLent 16 = .ok (.lastore, 1) := by decide +kernel
theorem dL_isLent_17 : decode cL_isLent 17 = .ok (.goto 7, 3) := by decide +kernel
theorem dL_isLent_20 : decode cL_isLent 20 = .ok (.astore 4, 2) := by decide +kernel
theorem dL_isLent_22 : decode cL_isLent 22 = .ok (.iconst 1, 1) := by decide +kernel
theorem dL_isLent_23 : decode cL_isLent 23 = .ok (.ireturn, 1) := by decide +kernel
theorem dL_isLent_24 : decode cL_isLent 24 = .ok (.iconst 0, 1) := by decide +kernel
theorem dL_isLent_25 : decode cL_isLent 25 = .ok (.ireturn, 1) := by decide +kernel
theorem ml_L_138 : gMV RL 138 yX10_isLent cX10_isLent 3 (some .boolean) 2 := ⟨⟨wg_t 1193 (by decide +kernel) (by decide +kernel), wg_t 1196 (by decide +kernel) (by decide +kernel), wg_t 1 (by decide +kernel) (by decide +kernel), by decide +kernel⟩, wg_t 1194 (by decide +kernel) (by decide +kernel), wg_t 1195 (by decide +kernel) (by decide +kernel)⟩
abbrev hhL_isLent : List (Nat × Nat × Nat × Nat) := [(0, 17, 20, 21)]
theorem mw_L_327 : gML RL 327 yL_isLent cL_isLent 5 hhL_isLent 4 := ⟨wg_t 1190 (by decide +kernel) (by decide +kernel), wg_t 1192 (by decide +kernel) (by decide +kernel), wg_t 0 (by decide +kernel) (by decide +kernel), by decide +kernel, wg_t 1191 (by decide +kernel) (by decide +kernel)⟩
abbrev rmL_isLent : Room := { frames := 8, cells := 1, slots := 6, locals := 163 }
set_option maxHeartbeats 4000000 in
set_option maxRecDepth 100000 in
theorem metL_isLent {l : Launch} {s0 : State} {b B : Nat} {D : va_G} {T : Nat → ClassId} (F : FX l s0 b D T B) {X : Nat → Prop} (hX : ∀ o, o < 561 → ¬ X (B + o)) {ob : Nat} (hob : X ob) {f : Nat → Int64} {N : Nat} {μ : Mem} {cap : Nat} {t : List Nat} {a1 : Int32} {a2 : Int32} {r : Mem × (Nat ⊕ Bool)} (h : fX10_isLent N μ 0 a1 a2 = some r) (hL : ∀ k, r.2 = .inl k → k = 0) : gMetH l yL_isLent cL_isLent 5 hhL_isLent rmL_isLent [.ref (B + 0), .int a1, .int a2, .ref ob] (gWL s0 D T B X μ cap t ob f) (KC s0 X) (some (.int (kL [0] r.2))) (gWL s0 D T B X r.1 cap t ob (upZ f r.2)) (gAo B X ob) 1 6 := by
  refine gMetH_of RL (by decide +kernel) rfl (Nat.le_of_ble_eq_true rfl) ?_
  intro p e s m below meth c ls hx hb hr hlocks hml hown hts htab hW hk hl hS
  have hC := FX_C F hk hx hb hown hts
  have hl : lv_has ls 5 [(0, .ref (B + 0)), (1, .int a1), (2, .int a2), (3, .ref ob)] := hl
  have hS0 : va_S (gA B X) s.heap s.heap [] := va_S.rf
  refine lv_aload_n hx hb dL_isLent_0 rfl (lv_at hl 3 rfl) ?_
  refine lv_iconst (v := 0) hx hb dL_isLent_1 (by decide) ?_
  refine lv_aload_n hx hb dL_isLent_2 rfl (lv_at hl 0 rfl) ?_
  refine lv_iload_n hx hb dL_isLent_3 rfl (lv_at hl 1 rfl) ?_
  refine lv_iload_n hx hb dL_isLent_4 rfl (lv_at hl 2 rfl) ?_
  refine gs_callXV (As := [.int a1, .int a2]) F hX hk hC hml hS0 hW.1 (fun X9 hX9 => metX10_isLent F hX9 is_Ga h) ml_L_138 (gw_recv hC hW.1.1 is_Ga.1 (is_Ga.2.2.1 (gfm s0) T B (μ 0)) rfl) ⟨rfl, rfl, (Nat.le_of_ble_eq_true rfl), (Nat.le_of_ble_eq_true rfl)⟩ rfl hl.1 rfl (Nat.le_of_ble_eq_true rfl) dL_isLent_5 ⟨(Nat.le_of_ble_eq_true rfl), (Nat.le_of_ble_eq_true rfl)⟩ (fun v9 ho H1 locs1 hW1 hS1 => ?_) (fun k9 ho H1 locs1 q9 ce9 hW1 hS1 hce hvm hcl => ?_)
  · obtain ⟨x9, hv9, rfl⟩ := oZ_r ho
    refine gw_if_eqZ (tgt := 15) hx hb dL_isLent_8 (by decide) (fun c9 => ?_) (fun c9 => ?_)
    · cases c9
      refine lv_lconst (v := 0) hx hb dL_isLent_15 (by decide) ?_
      refine gl_last hC (at_keep hob hW.2 hS1) hS1.gAo (Or.inr rfl) dL_isLent_16 (fun H2 locs2 g1 g2 g3 g4 => ?_)
      refine lv_goto (tgt := 24) hx hb dL_isLent_17 (by decide) ?_
      refine lv_iconst (v := 0) hx hb dL_isLent_24 (by decide) ?_
      have e9 : kL [0] r.2 = 0 := by rw [hv9]; rfl
      rw [e9]
      exact gw_iret hx hb hr hlocks ⟨gWS_keep hX hob hW1 g3, by rw [hv9]; exact g1⟩ g4 (Nat.le_of_eq (Nat.zero_add _)) (Nat.le_of_eq (Nat.zero_add _)) dL_isLent_25
    · cases c9
      refine lv_lconst (v := 1) hx hb dL_isLent_11 (by decide) ?_
      refine lv_goto (tgt := 16) hx hb dL_isLent_12 (by decide) ?_
      refine gl_last hC (at_keep hob hW.2 hS1) hS1.gAo (Or.inr rfl) dL_isLent_16 (fun H2 locs2 g1 g2 g3 g4 => ?_)
      refine lv_goto (tgt := 24) hx hb dL_isLent_17 (by decide) ?_
      refine lv_iconst (v := 0) hx hb dL_isLent_24 (by decide) ?_
      have e9 : kL [0] r.2 = 0 := by rw [hv9]; rfl
      rw [e9]
      exact gw_iret hx hb hr hlocks ⟨gWS_keep hX hob hW1 g3, by rw [hv9]; exact g1⟩ g4 (Nat.le_of_eq (Nat.zero_add _)) (Nat.le_of_eq (Nat.zero_add _)) dL_isLent_25
  · have hv9 := oZ_l ho
    obtain rfl := hL _ hv9
    refine vx_catch hown [] ⟨0, 17, 20, 21⟩ [] (htab.trans rfl) (fun z hz => by cases hz) (by decide) (by decide) (hts _ kl_L_21) (FX_cs F hk cs_0) hce hvm hcl ?_
    refine lv_astore hx hb dL_isLent_20 hl (by decide) rfl (fun ls9 hl9 => ?_)
    refine lv_iconst (v := 1) hx hb dL_isLent_22 (by decide) ?_
    have e9 : kL [0] r.2 = 1 := by rw [hv9]; decide
    rw [e9]
    exact gw_iret hx hb hr hlocks ⟨hW1, by rw [hv9]; exact at_keep hob hW.2 hS1⟩ hS1.gAo (Nat.le_of_eq (Nat.zero_add _)) (Nat.le_of_eq (Nat.zero_add _)) dL_isLent_23
theorem dL_refusalReason_0 : decode cL_refusalReason 0 = .ok (.aload_n 1, 1) := by decide +kernel
theorem dL_refusalReason_1 : decode cL_refusalReason 1 = .ok (.iconst 0, 1) := by decide +kernel
theorem dL_refusalReason_2 : decode cL_refusalReason 2 = .ok (.aload_n 0, 1) := by decide +kernel
theorem dL_refusalReason_3 : decode cL_refusalReason 3 = .ok (.invokevirtual 142, 3) := by decide +kernel
theorem dL_refusalReason_6 : decode cL_refusalReason 6 = .ok (.i2l, 1) := by decide +kernel
theorem dL_refusalReason_7 : decode cL_refusalReason 7 = .ok (.lastore, 1) := by decide +kernel
theorem dL_refusalReason_8 : decode cL_refusalReason 8 = .ok (.goto 6, 3) := by decide +kernel
theorem dL_refusalReason_11 : decode cL_refusalReason 11 = .ok (.astore_n 2, 1) := by decide +kernel
theorem dL_refusalReason_12 : decode cL_refusalReason 12 = .ok (.iconst 1, 1) := by decide +kernel
theorem dL_refusalReason_13 : decode cL_refusalReason 13 = .ok (.ireturn, 1) := by decide +kernel
theorem dL_refusalReason_14 : decode cL_refusalReason 14 = .ok (.iconst 0, 1) := by decide +kernel
theorem dL_refusalReason_15 : decode cL_refusalReason 15 = .ok (.ireturn, 1) := by decide +kernel
theorem ml_L_142 : gMV RL 142 yX10_refusalReason cX10_refusalReason 1 (some .int) 0 := ⟨⟨wg_t 1200 (by decide +kernel) (by decide +kernel), wg_t 1203 (by decide +kernel) (by decide +kernel), wg_t 1 (by decide +kernel) (by decide +kernel), by decide +kernel⟩, wg_t 1201 (by decide +kernel) (by decide +kernel), wg_t 1202 (by decide +kernel) (by decide +kernel)⟩
abbrev hhL_refusalReason : List (Nat × Nat × Nat × Nat) := [(0, 8, 11, 30)]
theorem mw_L_334 : gML RL 334 yL_refusalReason cL_refusalReason 3 hhL_refusalReason 2 := ⟨wg_t 1197 (by decide +kernel) (by decide +kernel), wg_t 1199 (by decide +kernel) (by decide +kernel), wg_t 0 (by decide +kernel) (by decide +kernel), by decide +kernel, wg_t 1198 (by decide +kernel) (by decide +kernel)⟩
abbrev rmL_refusalReason : Room := { frames := 8, cells := 1, slots := 6, locals := 160 }
set_option maxHeartbeats 4000000 in
set_option maxRecDepth 100000 in
theorem metL_refusalReason {l : Launch} {s0 : State} {b B : Nat} {D : va_G} {T : Nat → ClassId} (F : FX l s0 b D T B) {X : Nat → Prop} (hX : ∀ o, o < 561 → ¬ X (B + o)) {ob : Nat} (hob : X ob) {f : Nat → Int64} {N : Nat} {μ : Mem} {cap : Nat} {t : List Nat} {r : Mem × (Nat ⊕ Int32)} (h : fX10_refusalReason N μ 0 = some r) (hL : ∀ k, r.2 = .inl k → k = 3) : gMetH l yL_refusalReason cL_refusalReason 3 hhL_refusalReason rmL_refusalReason [.ref (B + 0), .ref ob] (gWL s0 D T B X μ cap t ob f) (KC s0 X) (some (.int (kL [3] r.2))) (gWL s0 D T B X r.1 cap t ob (upI f r.2)) (gAo B X ob) 1 6 := by
  refine gMetH_of RL (by decide +kernel) rfl (Nat.le_of_ble_eq_true rfl) ?_
  intro p e s m below meth c ls hx hb hr hlocks hml hown hts htab hW hk hl hS
  have hC := FX_C F hk hx hb hown hts
  have hl : lv_has ls 3 [(0, .ref (B + 0)), (1, .ref ob)] := hl
  have hS0 : va_S (gA B X) s.heap s.heap [] := va_S.rf
  refine lv_aload_n hx hb dL_refusalReason_0 rfl (lv_at hl 1 rfl) ?_
  refine lv_iconst (v := 0) hx hb dL_refusalReason_1 (by decide) ?_
  refine lv_aload_n hx hb dL_refusalReason_2 rfl (lv_at hl 0 rfl) ?_
  refine gs_callXV (As := []) F hX hk hC hml hS0 hW.1 (fun X9 hX9 => metX10_refusalReason F hX9 is_Ga h) ml_L_142 (gw_recv hC hW.1.1 is_Ga.1 (is_Ga.2.2.1 (gfm s0) T B (μ 0)) rfl) ⟨rfl, rfl, (Nat.le_of_ble_eq_true rfl), (Nat.le_of_ble_eq_true rfl)⟩ rfl hl.1 rfl (Nat.le_of_ble_eq_true rfl) dL_refusalReason_3 ⟨(Nat.le_of_ble_eq_true rfl), (Nat.le_of_ble_eq_true rfl)⟩ (fun v9 ho H1 locs1 hW1 hS1 => ?_) (fun k9 ho H1 locs1 q9 ce9 hW1 hS1 hce hvm hcl => ?_)
  · obtain ⟨x9, hv9, rfl⟩ := oI_r ho
    refine lv_i2l hx hb dL_refusalReason_6 rfl ?_
    refine gl_last hC (at_keep hob hW.2 hS1) hS1.gAo (Or.inr rfl) dL_refusalReason_7 (fun H2 locs2 g1 g2 g3 g4 => ?_)
    refine lv_goto (tgt := 14) hx hb dL_refusalReason_8 (by decide) ?_
    refine lv_iconst (v := 0) hx hb dL_refusalReason_14 (by decide) ?_
    have e9 : kL [3] r.2 = 0 := by rw [hv9]; rfl
    rw [e9]
    exact gw_iret hx hb hr hlocks ⟨gWS_keep hX hob hW1 g3, by rw [hv9]; exact g1⟩ g4 (Nat.le_of_eq (Nat.zero_add _)) (Nat.le_of_eq (Nat.zero_add _)) dL_refusalReason_15
  · have hv9 := oI_l ho
    obtain rfl := hL _ hv9
    refine vx_catch hown [] ⟨0, 8, 11, 30⟩ [] (htab.trans rfl) (fun z hz => by cases hz) (by decide) (by decide) (hts _ kl_L_30) (FX_cs F hk cs_3) hce hvm hcl ?_
    refine lv_astore_n hx hb dL_refusalReason_11 rfl hl (by decide) rfl (fun ls9 hl9 => ?_)
    refine lv_iconst (v := 1) hx hb dL_refusalReason_12 (by decide) ?_
    have e9 : kL [3] r.2 = 1 := by rw [hv9]; decide
    rw [e9]
    exact gw_iret hx hb hr hlocks ⟨hW1, by rw [hv9]; exact at_keep hob hW.2 hS1⟩ hS1.gAo (Nat.le_of_eq (Nat.zero_add _)) (Nat.le_of_eq (Nat.zero_add _)) dL_refusalReason_13
theorem dL_refusalDetail_0 : decode cL_refusalDetail 0 = .ok (.aload_n 1, 1) := by decide +kernel
theorem dL_refusalDetail_1 : decode cL_refusalDetail 1 = .ok (.iconst 0, 1) := by decide +kernel
theorem dL_refusalDetail_2 : decode cL_refusalDetail 2 = .ok (.aload_n 0, 1) := by decide +kernel
theorem dL_refusalDetail_3 : decode cL_refusalDetail 3 = .ok (.invokevirtual 146, 3) := by decide +kernel
theorem dL_refusalDetail_6 : decode cL_refusalDetail 6 = .ok (.i2l, 1) := by decide +kernel
theorem dL_refusalDetail_7 : decode cL_refusalDetail 7 = .ok (.lastore, 1) := by decide +kernel
theorem dL_refusalDetail_8 : decode cL_refusalDetail 8 = .ok (.goto 6, 3) := by decide +kernel
theorem dL_refusalDetail_11 : decode cL_refusalDetail 11 = .ok (.astore_n 2, 1) := by decide +kernel
theorem dL_refusalDetail_12 : decode cL_refusalDetail 12 = .ok (.iconst 1, 1) := by decide +kernel
theorem dL_refusalDetail_13 : decode cL_refusalDetail 13 = .ok (.ireturn, 1) := by decide +kernel
theorem dL_refusalDetail_14 : decode cL_refusalDetail 14 = .ok (.iconst 0, 1) := by decide +kernel
theorem dL_refusalDetail_15 : decode cL_refusalDetail 15 = .ok (.ireturn, 1) := by decide +kernel
theorem ml_L_146 : gMV RL 146 yX10_refusalDetail cX10_refusalDetail 1 (some .int) 0 := ⟨⟨wg_t 1211 (by decide +kernel) (by decide +kernel), wg_t 1214 (by decide +kernel) (by decide +kernel), wg_t 1 (by decide +kernel) (by decide +kernel), by decide +kernel⟩, wg_t 1212 (by decide +kernel) (by decide +kernel), wg_t 1213 (by decide +kernel) (by decide +kernel)⟩
abbrev hhL_refusalDetail : List (Nat × Nat × Nat × Nat) := [(0, 8, 11, 30)]
theorem mw_L_338 : gML RL 338 yL_refusalDetail cL_refusalDetail 3 hhL_refusalDetail 2 := ⟨wg_t 1208 (by decide +kernel) (by decide +kernel), wg_t 1210 (by decide +kernel) (by decide +kernel), wg_t 0 (by decide +kernel) (by decide +kernel), by decide +kernel, wg_t 1209 (by decide +kernel) (by decide +kernel)⟩
abbrev rmL_refusalDetail : Room := { frames := 8, cells := 1, slots := 6, locals := 160 }
set_option maxHeartbeats 4000000 in
set_option maxRecDepth 100000 in
theorem metL_refusalDetail {l : Launch} {s0 : State} {b B : Nat} {D : va_G} {T : Nat → ClassId} (F : FX l s0 b D T B) {X : Nat → Prop} (hX : ∀ o, o < 561 → ¬ X (B + o)) {ob : Nat} (hob : X ob) {f : Nat → Int64} {N : Nat} {μ : Mem} {cap : Nat} {t : List Nat} {r : Mem × (Nat ⊕ Int32)} (h : fX10_refusalDetail N μ 0 = some r) (hL : ∀ k, r.2 = .inl k → k = 3) : gMetH l yL_refusalDetail cL_refusalDetail 3 hhL_refusalDetail rmL_refusalDetail [.ref (B + 0), .ref ob] (gWL s0 D T B X μ cap t ob f) (KC s0 X) (some (.int (kL [3] r.2))) (gWL s0 D T B X r.1 cap t ob (upI f r.2)) (gAo B X ob) 1 6 := by
  refine gMetH_of RL (by decide +kernel) rfl (Nat.le_of_ble_eq_true rfl) ?_
  intro p e s m below meth c ls hx hb hr hlocks hml hown hts htab hW hk hl hS
  have hC := FX_C F hk hx hb hown hts
  have hl : lv_has ls 3 [(0, .ref (B + 0)), (1, .ref ob)] := hl
  have hS0 : va_S (gA B X) s.heap s.heap [] := va_S.rf
  refine lv_aload_n hx hb dL_refusalDetail_0 rfl (lv_at hl 1 rfl) ?_
  refine lv_iconst (v := 0) hx hb dL_refusalDetail_1 (by decide) ?_
  refine lv_aload_n hx hb dL_refusalDetail_2 rfl (lv_at hl 0 rfl) ?_
  refine gs_callXV (As := []) F hX hk hC hml hS0 hW.1 (fun X9 hX9 => metX10_refusalDetail F hX9 is_Ga h) ml_L_146 (gw_recv hC hW.1.1 is_Ga.1 (is_Ga.2.2.1 (gfm s0) T B (μ 0)) rfl) ⟨rfl, rfl, (Nat.le_of_ble_eq_true rfl), (Nat.le_of_ble_eq_true rfl)⟩ rfl hl.1 rfl (Nat.le_of_ble_eq_true rfl) dL_refusalDetail_3 ⟨(Nat.le_of_ble_eq_true rfl), (Nat.le_of_ble_eq_true rfl)⟩ (fun v9 ho H1 locs1 hW1 hS1 => ?_) (fun k9 ho H1 locs1 q9 ce9 hW1 hS1 hce hvm hcl => ?_)
  · obtain ⟨x9, hv9, rfl⟩ := oI_r ho
    refine lv_i2l hx hb dL_refusalDetail_6 rfl ?_
    refine gl_last hC (at_keep hob hW.2 hS1) hS1.gAo (Or.inr rfl) dL_refusalDetail_7 (fun H2 locs2 g1 g2 g3 g4 => ?_)
    refine lv_goto (tgt := 14) hx hb dL_refusalDetail_8 (by decide) ?_
    refine lv_iconst (v := 0) hx hb dL_refusalDetail_14 (by decide) ?_
    have e9 : kL [3] r.2 = 0 := by rw [hv9]; rfl
    rw [e9]
    exact gw_iret hx hb hr hlocks ⟨gWS_keep hX hob hW1 g3, by rw [hv9]; exact g1⟩ g4 (Nat.le_of_eq (Nat.zero_add _)) (Nat.le_of_eq (Nat.zero_add _)) dL_refusalDetail_15
  · have hv9 := oI_l ho
    obtain rfl := hL _ hv9
    refine vx_catch hown [] ⟨0, 8, 11, 30⟩ [] (htab.trans rfl) (fun z hz => by cases hz) (by decide) (by decide) (hts _ kl_L_30) (FX_cs F hk cs_3) hce hvm hcl ?_
    refine lv_astore_n hx hb dL_refusalDetail_11 rfl hl (by decide) rfl (fun ls9 hl9 => ?_)
    refine lv_iconst (v := 1) hx hb dL_refusalDetail_12 (by decide) ?_
    have e9 : kL [3] r.2 = 1 := by rw [hv9]; decide
    rw [e9]
    exact gw_iret hx hb hr hlocks ⟨hW1, by rw [hv9]; exact at_keep hob hW.2 hS1⟩ hS1.gAo (Nat.le_of_eq (Nat.zero_add _)) (Nat.le_of_eq (Nat.zero_add _)) dL_refusalDetail_13
theorem dL_meanGrains_0 : decode cL_meanGrains 0 = .ok (.aload_n 1, 1) := by decide +kernel
theorem dL_meanGrains_1 : decode cL_meanGrains 1 = .ok (.iconst 0, 1) := by decide +kernel
theorem dL_meanGrains_2 : decode cL_meanGrains 2 = .ok (.aload_n 0, 1) := by decide +kernel
theorem dL_meanGrains_3 : decode cL_meanGrains 3 = .ok (.invokevirtual 149, 3) := by decide +kernel
theorem dL_meanGrains_6 : decode cL_meanGrains 6 = .ok (.dastore, 1) := by decide +kernel
theorem dL_meanGrains_7 : decode cL_meanGrains 7 = .ok (.goto 6, 3) := by decide +kernel
theorem dL_meanGrains_10 : decode cL_meanGrains 10 = .ok (.astore_n 2, 1) := by decide +kernel
theorem dL_meanGrains_11 : decode cL_meanGrains 11 = .ok (.iconst 1, 1) := by decide +kernel
theorem dL_meanGrains_12 : decode cL_meanGrains 12 = .ok (.ireturn, 1) := by decide +kernel
theorem dL_meanGrains_13 : decode cL_meanGrains 13 = .ok (.iconst 0, 1) := by decide +kernel
theorem dL_meanGrains_14 : decode cL_meanGrains 14 = .ok (.ireturn, 1) := by decide +kernel
theorem ml_L_149 : gMV RL 149 yX10_meanGrains cX10_meanGrains 4 (some .double) 0 := ⟨⟨wg_t 1232 (by decide +kernel) (by decide +kernel), wg_t 1235 (by decide +kernel) (by decide +kernel), wg_t 1 (by decide +kernel) (by decide +kernel), by decide +kernel⟩, wg_t 1233 (by decide +kernel) (by decide +kernel), wg_t 1234 (by decide +kernel) (by decide +kernel)⟩
abbrev hhL_meanGrains : List (Nat × Nat × Nat × Nat) := [(0, 7, 10, 153)]
theorem mw_L_341 : gML RL 341 yL_meanGrains cL_meanGrains 3 hhL_meanGrains 2 := ⟨wg_t 1215 (by decide +kernel) (by decide +kernel), wg_t 1217 (by decide +kernel) (by decide +kernel), wg_t 0 (by decide +kernel) (by decide +kernel), by decide +kernel, wg_t 1216 (by decide +kernel) (by decide +kernel)⟩
abbrev rmL_meanGrains : Room := { frames := 7, cells := 1, slots := 6, locals := 143 }
set_option maxHeartbeats 4000000 in
set_option maxRecDepth 100000 in
theorem metL_meanGrains {l : Launch} {s0 : State} {b B : Nat} {D : va_G} {T : Nat → ClassId} (F : FX l s0 b D T B) {X : Nat → Prop} (hX : ∀ o, o < 561 → ¬ X (B + o)) {ob : Nat} (hob : X ob) {f : Nat → UInt64} {N : Nat} {μ : Mem} {cap : Nat} {t : List Nat} {r : Mem × (Nat ⊕ UInt64)} (h : fX10_meanGrains N μ 0 = some r) (hL : ∀ k, r.2 = .inl k → k = 5) : gMetH l yL_meanGrains cL_meanGrains 3 hhL_meanGrains rmL_meanGrains [.ref (B + 0), .ref ob] (gWD s0 D T B X μ cap t ob f) (KC s0 X) (some (.int (kL [5] r.2))) (gWD s0 D T B X r.1 cap t ob (upD f r.2)) (gAo B X ob) 1 6 := by
  refine gMetH_of RL (by decide +kernel) rfl (Nat.le_of_ble_eq_true rfl) ?_
  intro p e s m below meth c ls hx hb hr hlocks hml hown hts htab hW hk hl hS
  have hC := FX_C F hk hx hb hown hts
  have hl : lv_has ls 3 [(0, .ref (B + 0)), (1, .ref ob)] := hl
  have hS0 : va_S (gA B X) s.heap s.heap [] := va_S.rf
  refine lv_aload_n hx hb dL_meanGrains_0 rfl (lv_at hl 1 rfl) ?_
  refine lv_iconst (v := 0) hx hb dL_meanGrains_1 (by decide) ?_
  refine lv_aload_n hx hb dL_meanGrains_2 rfl (lv_at hl 0 rfl) ?_
  refine gs_callXV (As := []) F hX hk hC hml hS0 hW.1 (fun X9 hX9 => metX10_meanGrains F hX9 is_Ga h) ml_L_149 (gw_recv hC hW.1.1 is_Ga.1 (is_Ga.2.2.1 (gfm s0) T B (μ 0)) rfl) ⟨rfl, rfl, (Nat.le_of_ble_eq_true rfl), (Nat.le_of_ble_eq_true rfl)⟩ rfl hl.1 rfl (Nat.le_of_ble_eq_true rfl) dL_meanGrains_3 ⟨(Nat.le_of_ble_eq_true rfl), (Nat.le_of_ble_eq_true rfl)⟩ (fun v9 ho H1 locs1 hW1 hS1 => ?_) (fun k9 ho H1 locs1 q9 ce9 hW1 hS1 hce hvm hcl => ?_)
  · obtain ⟨x9, hv9, rfl⟩ := oD_r ho
    refine gl_dast hC (at_keep hob hW.2 hS1) hS1.gAo (Or.inr rfl) dL_meanGrains_6 (fun H2 locs2 g1 g2 g3 g4 => ?_)
    refine lv_goto (tgt := 13) hx hb dL_meanGrains_7 (by decide) ?_
    refine lv_iconst (v := 0) hx hb dL_meanGrains_13 (by decide) ?_
    have e9 : kL [5] r.2 = 0 := by rw [hv9]; rfl
    rw [e9]
    exact gw_iret hx hb hr hlocks ⟨gWS_keep hX hob hW1 g3, by rw [hv9]; exact g1⟩ g4 (Nat.le_of_eq (Nat.zero_add _)) (Nat.le_of_eq (Nat.zero_add _)) dL_meanGrains_14
  · have hv9 := oD_l ho
    obtain rfl := hL _ hv9
    refine vx_catch hown [] ⟨0, 7, 10, 153⟩ [] (htab.trans rfl) (fun z hz => by cases hz) (by decide) (by decide) (hts _ kl_L_153) (FX_cs F hk cs_5) hce hvm hcl ?_
    refine lv_astore_n hx hb dL_meanGrains_10 rfl hl (by decide) rfl (fun ls9 hl9 => ?_)
    refine lv_iconst (v := 1) hx hb dL_meanGrains_11 (by decide) ?_
    have e9 : kL [5] r.2 = 1 := by rw [hv9]; decide
    rw [e9]
    exact gw_iret hx hb hr hlocks ⟨hW1, by rw [hv9]; exact at_keep hob hW.2 hS1⟩ hS1.gAo (Nat.le_of_eq (Nat.zero_add _)) (Nat.le_of_eq (Nat.zero_add _)) dL_meanGrains_12
theorem dL_lentFraction_0 : decode cL_lentFraction 0 = .ok (.aload_n 1, 1) := by decide +kernel
theorem dL_lentFraction_1 : decode cL_lentFraction 1 = .ok (.iconst 0, 1) := by decide +kernel
theorem dL_lentFraction_2 : decode cL_lentFraction 2 = .ok (.aload_n 0, 1) := by decide +kernel
theorem dL_lentFraction_3 : decode cL_lentFraction 3 = .ok (.invokevirtual 155, 3) := by decide +kernel
theorem dL_lentFraction_6 : decode cL_lentFraction 6 = .ok (.f2d, 1) := by decide +kernel
theorem dL_lentFraction_7 : decode cL_lentFraction 7 = .ok (.dastore, 1) := by decide +kernel
theorem dL_lentFraction_8 : decode cL_lentFraction 8 = .ok (.goto 6, 3) := by decide +kernel
theorem dL_lentFraction_11 : decode cL_lentFraction 11 = .ok (.astore_n 2, 1) := by decide +kernel
theorem dL_lentFraction_12 : decode cL_lentFraction 12 = .ok (.iconst 1, 1) := by decide +kernel
theorem dL_lentFraction_13 : decode cL_lentFraction 13 = .ok (.ireturn, 1) := by decide +kernel
theorem dL_lentFraction_14 : decode cL_lentFraction 14 = .ok (.iconst 0, 1) := by decide +kernel
theorem dL_lentFraction_15 : decode cL_lentFraction 15 = .ok (.ireturn, 1) := by decide +kernel
theorem ml_L_155 : gMV RL 155 yX10_lentFraction cX10_lentFraction 4 (some .float) 0 := ⟨⟨wg_t 1242 (by decide +kernel) (by decide +kernel), wg_t 1245 (by decide +kernel) (by decide +kernel), wg_t 1 (by decide +kernel) (by decide +kernel), by decide +kernel⟩, wg_t 1243 (by decide +kernel) (by decide +kernel), wg_t 1244 (by decide +kernel) (by decide +kernel)⟩
abbrev hhL_lentFraction : List (Nat × Nat × Nat × Nat) := [(0, 8, 11, 153)]
theorem mw_L_345 : gML RL 345 yL_lentFraction cL_lentFraction 3 hhL_lentFraction 2 := ⟨wg_t 1239 (by decide +kernel) (by decide +kernel), wg_t 1241 (by decide +kernel) (by decide +kernel), wg_t 0 (by decide +kernel) (by decide +kernel), by decide +kernel, wg_t 1240 (by decide +kernel) (by decide +kernel)⟩
abbrev rmL_lentFraction : Room := { frames := 7, cells := 1, slots := 6, locals := 143 }
set_option maxHeartbeats 4000000 in
set_option maxRecDepth 100000 in
theorem metL_lentFraction {l : Launch} {s0 : State} {b B : Nat} {D : va_G} {T : Nat → ClassId} (F : FX l s0 b D T B) {X : Nat → Prop} (hX : ∀ o, o < 561 → ¬ X (B + o)) {ob : Nat} (hob : X ob) {f : Nat → UInt64} {N : Nat} {μ : Mem} {cap : Nat} {t : List Nat} {r : Mem × (Nat ⊕ UInt32)} (h : fX10_lentFraction N μ 0 = some r) (hL : ∀ k, r.2 = .inl k → k = 5) (hn : ∀ x, r.2 = .inr x → vf_n64 (FP.f2d x)) : gMetH l yL_lentFraction cL_lentFraction 3 hhL_lentFraction rmL_lentFraction [.ref (B + 0), .ref ob] (gWD s0 D T B X μ cap t ob f) (KC s0 X) (some (.int (kL [5] r.2))) (gWD s0 D T B X r.1 cap t ob (upF f r.2)) (gAo B X ob) 1 6 := by
  refine gMetH_of RL (by decide +kernel) rfl (Nat.le_of_ble_eq_true rfl) ?_
  intro p e s m below meth c ls hx hb hr hlocks hml hown hts htab hW hk hl hS
  have hC := FX_C F hk hx hb hown hts
  have hl : lv_has ls 3 [(0, .ref (B + 0)), (1, .ref ob)] := hl
  have hS0 : va_S (gA B X) s.heap s.heap [] := va_S.rf
  refine lv_aload_n hx hb dL_lentFraction_0 rfl (lv_at hl 1 rfl) ?_
  refine lv_iconst (v := 0) hx hb dL_lentFraction_1 (by decide) ?_
  refine lv_aload_n hx hb dL_lentFraction_2 rfl (lv_at hl 0 rfl) ?_
  refine gs_callXV (As := []) F hX hk hC hml hS0 hW.1 (fun X9 hX9 => metX10_lentFraction F hX9 is_Ga h) ml_L_155 (gw_recv hC hW.1.1 is_Ga.1 (is_Ga.2.2.1 (gfm s0) T B (μ 0)) rfl) ⟨rfl, rfl, (Nat.le_of_ble_eq_true rfl), (Nat.le_of_ble_eq_true rfl)⟩ rfl hl.1 rfl (Nat.le_of_ble_eq_true rfl) dL_lentFraction_3 ⟨(Nat.le_of_ble_eq_true rfl), (Nat.le_of_ble_eq_true rfl)⟩ (fun v9 ho H1 locs1 hW1 hS1 => ?_) (fun k9 ho H1 locs1 q9 ce9 hW1 hS1 hce hvm hcl => ?_)
  · obtain ⟨x9, hv9, rfl⟩ := oF_r ho
    refine lv_f2d hx hb dL_lentFraction_6 (hn _ hv9) ?_
    refine gl_dast hC (at_keep hob hW.2 hS1) hS1.gAo (Or.inr rfl) dL_lentFraction_7 (fun H2 locs2 g1 g2 g3 g4 => ?_)
    refine lv_goto (tgt := 14) hx hb dL_lentFraction_8 (by decide) ?_
    refine lv_iconst (v := 0) hx hb dL_lentFraction_14 (by decide) ?_
    have e9 : kL [5] r.2 = 0 := by rw [hv9]; rfl
    rw [e9]
    exact gw_iret hx hb hr hlocks ⟨gWS_keep hX hob hW1 g3, by rw [hv9]; exact g1⟩ g4 (Nat.le_of_eq (Nat.zero_add _)) (Nat.le_of_eq (Nat.zero_add _)) dL_lentFraction_15
  · have hv9 := oF_l ho
    obtain rfl := hL _ hv9
    refine vx_catch hown [] ⟨0, 8, 11, 153⟩ [] (htab.trans rfl) (fun z hz => by cases hz) (by decide) (by decide) (hts _ kl_L_153) (FX_cs F hk cs_5) hce hvm hcl ?_
    refine lv_astore_n hx hb dL_lentFraction_11 rfl hl (by decide) rfl (fun ls9 hl9 => ?_)
    refine lv_iconst (v := 1) hx hb dL_lentFraction_12 (by decide) ?_
    have e9 : kL [5] r.2 = 1 := by rw [hv9]; decide
    rw [e9]
    exact gw_iret hx hb hr hlocks ⟨hW1, by rw [hv9]; exact at_keep hob hW.2 hS1⟩ hS1.gAo (Nat.le_of_eq (Nat.zero_add _)) (Nat.le_of_eq (Nat.zero_add _)) dL_lentFraction_13
theorem dL_writePile_0 : decode cL_writePile 0 = .ok (.aload_n 2, 1) := by decide +kernel
theorem dL_writePile_1 : decode cL_writePile 1 = .ok (.iconst 0, 1) := by decide +kernel
theorem dL_writePile_2 : decode cL_writePile 2 = .ok (.aload_n 0, 1) := by decide +kernel
theorem dL_writePile_3 : decode cL_writePile 3 = .ok (.iload_n 1, 1) := by decide +kernel
theorem dL_writePile_4 : decode cL_writePile 4 = .ok (.invokevirtual 159, 3) := by decide +kernel
theorem dL_writePile_7 : decode cL_writePile 7 = .ok (.i2l, 1) := by decide +kernel
theorem dL_writePile_8 : decode cL_writePile 8 = .ok (.lastore, 1) := by decide +kernel
theorem dL_writePile_9 : decode cL_writePile 9 = .ok (.goto 6, 3) := by decide +kernel
theorem dL_writePile_12 : decode cL_writePile 12 = .ok (.astore_n 3, 1) := by decide +kernel
theorem dL_writePile_13 : decode cL_writePile 13 = .ok (.iconst 1, 1) := by decide +kernel
theorem dL_writePile_14 : decode cL_writePile 14 = .ok (.ireturn, 1) := by decide +kernel
theorem dL_writePile_15 : decode cL_writePile 15 = .ok (.iconst 0, 1) := by decide +kernel
theorem dL_writePile_16 : decode cL_writePile 16 = .ok (.ireturn, 1) := by decide +kernel
theorem ml_L_159 : gMV RL 159 yX10_writePile cX10_writePile 4 (some .int) 1 := ⟨⟨wg_t 1249 (by decide +kernel) (by decide +kernel), wg_t 1252 (by decide +kernel) (by decide +kernel), wg_t 1 (by decide +kernel) (by decide +kernel), by decide +kernel⟩, wg_t 1250 (by decide +kernel) (by decide +kernel), wg_t 1251 (by decide +kernel) (by decide +kernel)⟩
abbrev hhL_writePile : List (Nat × Nat × Nat × Nat) := [(0, 9, 12, 21)]
theorem mw_L_348 : gML RL 348 yL_writePile cL_writePile 4 hhL_writePile 3 := ⟨wg_t 1246 (by decide +kernel) (by decide +kernel), wg_t 1248 (by decide +kernel) (by decide +kernel), wg_t 0 (by decide +kernel) (by decide +kernel), by decide +kernel, wg_t 1247 (by decide +kernel) (by decide +kernel)⟩
abbrev rmL_writePile : Room := { frames := 11, cells := 36, slots := 10506, locals := 283 }
set_option maxHeartbeats 4000000 in
set_option maxRecDepth 100000 in
theorem metL_writePile {l : Launch} {s0 : State} {b B : Nat} {D : va_G} {T : Nat → ClassId} (F : FX l s0 b D T B) {X : Nat → Prop} (hX : ∀ o, o < 561 → ¬ X (B + o)) {ob : Nat} (hob : X ob) {f : Nat → Int64} {N : Nat} {μ : Mem} {cap : Nat} {t : List Nat} {a1 : Int32} {r : (Mem × Nat × List Nat) × (Nat ⊕ Int32)} (hN : ∀ x ds, dcN x = some ds → NumP N x ds) (h : fX10_writePile N cap t μ 0 a1 = some r) (hL : ∀ k, r.2 = .inl k → k = 0) : gMetH l yL_writePile cL_writePile 4 hhL_writePile rmL_writePile [.ref (B + 0), .int a1, .ref ob] (gWL s0 D T B X μ cap t ob f) (KC s0 X) (some (.int (kL [0] r.2))) (gWL s0 D T B X r.1.1 r.1.2.1 r.1.2.2 ob (upI f r.2)) (gAo B X ob) 36 10506 := by
  refine gMetH_of RL (by decide +kernel) rfl (Nat.le_of_ble_eq_true rfl) ?_
  intro p e s m below meth c ls hx hb hr hlocks hml hown hts htab hW hk hl hS
  have hC := FX_C F hk hx hb hown hts
  have hl : lv_has ls 4 [(0, .ref (B + 0)), (1, .int a1), (2, .ref ob)] := hl
  have hS0 : va_S (gA B X) s.heap s.heap [] := va_S.rf
  refine lv_aload_n hx hb dL_writePile_0 rfl (lv_at hl 2 rfl) ?_
  refine lv_iconst (v := 0) hx hb dL_writePile_1 (by decide) ?_
  refine lv_aload_n hx hb dL_writePile_2 rfl (lv_at hl 0 rfl) ?_
  refine lv_iload_n hx hb dL_writePile_3 rfl (lv_at hl 1 rfl) ?_
  refine gx_callV (As := [.int a1]) hC hml hS0 hW.1 (KC_at hk hS0 F.2.2.2.2) KC_blind (metX10_writePile F hX is_Ga hN h) ml_L_159 (gw_recv hC hW.1.1 is_Ga.1 (is_Ga.2.2.1 (gfm s0) T B (μ 0)) rfl) ⟨rfl, rfl, (Nat.le_of_ble_eq_true rfl), (Nat.le_of_ble_eq_true rfl)⟩ rfl hl.1 rfl (Nat.le_of_ble_eq_true rfl) dL_writePile_4 ⟨(Nat.le_of_ble_eq_true rfl), (Nat.le_of_ble_eq_true rfl)⟩ (fun v9 ho H1 locs1 hW1 hS1 => ?_) (fun k9 ho H1 locs1 q9 ce9 hW1 hS1 hce hvm hcl => ?_)
  · obtain ⟨x9, hv9, rfl⟩ := oI_r ho
    refine lv_i2l hx hb dL_writePile_7 rfl ?_
    refine gl_last hC (at_keep hob hW.2 hS1) hS1.gAo (Or.inr rfl) dL_writePile_8 (fun H2 locs2 g1 g2 g3 g4 => ?_)
    refine lv_goto (tgt := 15) hx hb dL_writePile_9 (by decide) ?_
    refine lv_iconst (v := 0) hx hb dL_writePile_15 (by decide) ?_
    have e9 : kL [0] r.2 = 0 := by rw [hv9]; rfl
    rw [e9]
    exact gw_iret hx hb hr hlocks ⟨gWS_keep hX hob hW1 g3, by rw [hv9]; exact g1⟩ g4 (Nat.le_of_eq (Nat.zero_add _)) (Nat.le_of_eq (Nat.zero_add _)) dL_writePile_16
  · have hv9 := oI_l ho
    obtain rfl := hL _ hv9
    refine vx_catch hown [] ⟨0, 9, 12, 21⟩ [] (htab.trans rfl) (fun z hz => by cases hz) (by decide) (by decide) (hts _ kl_L_21) (FX_cs F hk cs_0) hce hvm hcl ?_
    refine lv_astore_n hx hb dL_writePile_12 rfl hl (by decide) rfl (fun ls9 hl9 => ?_)
    refine lv_iconst (v := 1) hx hb dL_writePile_13 (by decide) ?_
    have e9 : kL [0] r.2 = 1 := by rw [hv9]; decide
    rw [e9]
    exact gw_iret hx hb hr hlocks ⟨hW1, by rw [hv9]; exact at_keep hob hW.2 hS1⟩ hS1.gAo (Nat.le_of_eq (Nat.zero_add _)) (Nat.le_of_eq (Nat.zero_add _)) dL_writePile_14
theorem dL_writeWay_0 : decode cL_writeWay 0 = .ok (.aload_n 3, 1) := by decide +kernel
theorem dL_writeWay_1 : decode cL_writeWay 1 = .ok (.iconst 0, 1) := by decide +kernel
theorem dL_writeWay_2 : decode cL_writeWay 2 = .ok (.aload_n 0, 1) := by decide +kernel
theorem dL_writeWay_3 : decode cL_writeWay 3 = .ok (.iload_n 1, 1) := by decide +kernel
theorem dL_writeWay_4 : decode cL_writeWay 4 = .ok (.iload_n 2, 1) := by decide +kernel
theorem dL_writeWay_5 : decode cL_writeWay 5 = .ok (.invokevirtual 162, 3) := by decide +kernel
theorem dL_writeWay_8 : decode cL_writeWay 8 = .ok (.i2l, 1) := by decide +kernel
theorem dL_writeWay_9 : decode cL_writeWay 9 = .ok (.lastore, 1) := by decide +kernel
theorem dL_writeWay_10 : decode cL_writeWay 10 = .ok (.goto 11, 3) := by decide +kernel
theorem dL_writeWay_13 : decode cL_writeWay 13 = .ok (.astore 4, 2) := by decide +kernel
theorem dL_writeWay_15 : decode cL_writeWay 15 = .ok (.iconst 1, 1) := by decide +kernel
theorem dL_writeWay_16 : decode cL_writeWay 16 = .ok (.ireturn, 1) := by decide +kernel
theorem dL_writeWay_17 : decode cL_writeWay 17 = .ok (.astore 4, 2) := by decide +kernel
theorem dL_writeWay_19 : decode cL_writeWay 19 = .ok (.iconst 2, 1) := by decide +kernel
theorem dL_writeWay_20 : decode cL_writeWay 20 = .ok (.ireturn, 1) := by decide +kernel
theorem dL_writeWay_21 : decode cL_writeWay 21 = .ok (.iconst 0, 1) := by decide +kernel
theorem dL_writeWay_22 : decode cL_writeWay 22 = .ok (.ireturn, 1) := by decide +kernel
theorem ml_L_162 : gMV RL 162 yX10_writeWay cX10_writeWay 4 (some .int) 2 := ⟨⟨wg_t 1531 (by decide +kernel) (by decide +kernel), wg_t 1534 (by decide +kernel) (by decide +kernel), wg_t 1 (by decide +kernel) (by decide +kernel), by decide +kernel⟩, wg_t 1532 (by decide +kernel) (by decide +kernel), wg_t 1533 (by decide +kernel) (by decide +kernel)⟩
abbrev hhL_writeWay : List (Nat × Nat × Nat × Nat) := [(0, 10, 13, 21), (0, 10, 17, 30)]
theorem mw_L_351 : gML RL 351 yL_writeWay cL_writeWay 5 hhL_writeWay 4 := ⟨wg_t 1528 (by decide +kernel) (by decide +kernel), wg_t 1530 (by decide +kernel) (by decide +kernel), wg_t 0 (by decide +kernel) (by decide +kernel), by decide +kernel, wg_t 1529 (by decide +kernel) (by decide +kernel)⟩
abbrev rmL_writeWay : Room := { frames := 11, cells := 21, slots := 5712, locals := 283 }
set_option maxHeartbeats 4000000 in
set_option maxRecDepth 100000 in
theorem metL_writeWay {l : Launch} {s0 : State} {b B : Nat} {D : va_G} {T : Nat → ClassId} (F : FX l s0 b D T B) {X : Nat → Prop} (hX : ∀ o, o < 561 → ¬ X (B + o)) {ob : Nat} (hob : X ob) {f : Nat → Int64} {N : Nat} {μ : Mem} {cap : Nat} {t : List Nat} {a1 : Int32} {a2 : Int32} {r : (Mem × Nat × List Nat) × (Nat ⊕ Int32)} (hN : ∀ x ds, dcN x = some ds → NumP N x ds) (h : fX10_writeWay N cap t μ 0 a1 a2 = some r) (hL : ∀ k, r.2 = .inl k → k = 0 ∨ k = 3) : gMetH l yL_writeWay cL_writeWay 5 hhL_writeWay rmL_writeWay [.ref (B + 0), .int a1, .int a2, .ref ob] (gWL s0 D T B X μ cap t ob f) (KC s0 X) (some (.int (kL [0, 3] r.2))) (gWL s0 D T B X r.1.1 r.1.2.1 r.1.2.2 ob (upI f r.2)) (gAo B X ob) 21 5712 := by
  refine gMetH_of RL (by decide +kernel) rfl (Nat.le_of_ble_eq_true rfl) ?_
  intro p e s m below meth c ls hx hb hr hlocks hml hown hts htab hW hk hl hS
  have hC := FX_C F hk hx hb hown hts
  have hl : lv_has ls 5 [(0, .ref (B + 0)), (1, .int a1), (2, .int a2), (3, .ref ob)] := hl
  have hS0 : va_S (gA B X) s.heap s.heap [] := va_S.rf
  refine lv_aload_n hx hb dL_writeWay_0 rfl (lv_at hl 3 rfl) ?_
  refine lv_iconst (v := 0) hx hb dL_writeWay_1 (by decide) ?_
  refine lv_aload_n hx hb dL_writeWay_2 rfl (lv_at hl 0 rfl) ?_
  refine lv_iload_n hx hb dL_writeWay_3 rfl (lv_at hl 1 rfl) ?_
  refine lv_iload_n hx hb dL_writeWay_4 rfl (lv_at hl 2 rfl) ?_
  refine gx_callV (As := [.int a1, .int a2]) hC hml hS0 hW.1 (KC_at hk hS0 F.2.2.2.2) KC_blind (metX10_writeWay F hX is_Ga hN h) ml_L_162 (gw_recv hC hW.1.1 is_Ga.1 (is_Ga.2.2.1 (gfm s0) T B (μ 0)) rfl) ⟨rfl, rfl, (Nat.le_of_ble_eq_true rfl), (Nat.le_of_ble_eq_true rfl)⟩ rfl hl.1 rfl (Nat.le_of_ble_eq_true rfl) dL_writeWay_5 ⟨(Nat.le_of_ble_eq_true rfl), (Nat.le_of_ble_eq_true rfl)⟩ (fun v9 ho H1 locs1 hW1 hS1 => ?_) (fun k9 ho H1 locs1 q9 ce9 hW1 hS1 hce hvm hcl => ?_)
  · obtain ⟨x9, hv9, rfl⟩ := oI_r ho
    refine lv_i2l hx hb dL_writeWay_8 rfl ?_
    refine gl_last hC (at_keep hob hW.2 hS1) hS1.gAo (Or.inr rfl) dL_writeWay_9 (fun H2 locs2 g1 g2 g3 g4 => ?_)
    refine lv_goto (tgt := 21) hx hb dL_writeWay_10 (by decide) ?_
    refine lv_iconst (v := 0) hx hb dL_writeWay_21 (by decide) ?_
    have e9 : kL [0, 3] r.2 = 0 := by rw [hv9]; rfl
    rw [e9]
    exact gw_iret hx hb hr hlocks ⟨gWS_keep hX hob hW1 g3, by rw [hv9]; exact g1⟩ g4 (Nat.le_of_eq (Nat.zero_add _)) (Nat.le_of_eq (Nat.zero_add _)) dL_writeWay_22
  · have hv9 := oI_l ho
    rcases hL _ hv9 with rfl | rfl
    · refine vx_catch hown [] ⟨0, 10, 13, 21⟩ [⟨0, 10, 17, 30⟩] (htab.trans rfl) (fun z hz => by cases hz) (by decide) (by decide) (hts _ kl_L_21) (FX_cs F hk cs_0) hce hvm hcl ?_
      refine lv_astore hx hb dL_writeWay_13 hl (by decide) rfl (fun ls9 hl9 => ?_)
      refine lv_iconst (v := 1) hx hb dL_writeWay_15 (by decide) ?_
      have e9 : kL [0, 3] r.2 = 1 := by rw [hv9]; decide
      rw [e9]
      exact gw_iret hx hb hr hlocks ⟨hW1, by rw [hv9]; exact at_keep hob hW.2 hS1⟩ hS1.gAo (Nat.le_of_eq (Nat.zero_add _)) (Nat.le_of_eq (Nat.zero_add _)) dL_writeWay_16
    · refine vx_catch hown [⟨0, 10, 13, 21⟩] ⟨0, 10, 17, 30⟩ [] (htab.trans rfl) (fun z hz => by cases List.mem_singleton.mp hz; exact Or.inr ⟨by decide, _, hts _ kl_L_21, FX_nc F hk nc_3_0⟩) (by decide) (by decide) (hts _ kl_L_30) (FX_cs F hk cs_3) hce hvm hcl ?_
      refine lv_astore hx hb dL_writeWay_17 hl (by decide) rfl (fun ls9 hl9 => ?_)
      refine lv_iconst (v := 2) hx hb dL_writeWay_19 (by decide) ?_
      have e9 : kL [0, 3] r.2 = 2 := by rw [hv9]; decide
      rw [e9]
      exact gw_iret hx hb hr hlocks ⟨hW1, by rw [hv9]; exact at_keep hob hW.2 hS1⟩ hS1.gAo (Nat.le_of_eq (Nat.zero_add _)) (Nat.le_of_eq (Nat.zero_add _)) dL_writeWay_20
theorem dL_outputCharacter_0 : decode cL_outputCharacter 0 = .ok (.aload_n 2, 1) := by decide +kernel
theorem dL_outputCharacter_1 : decode cL_outputCharacter 1 = .ok (.iconst 0, 1) := by decide +kernel
theorem dL_outputCharacter_2 : decode cL_outputCharacter 2 = .ok (.aload_n 0, 1) := by decide +kernel
theorem dL_outputCharacter_3 : decode cL_outputCharacter 3 = .ok (.iload_n 1, 1) := by decide +kernel
theorem dL_outputCharacter_4 : decode cL_outputCharacter 4 = .ok (.invokevirtual 165, 3) := by decide +kernel
theorem dL_outputCharacter_7 : decode cL_outputCharacter 7 = .ok (.i2l, 1) := by decide +kernel
theorem dL_outputCharacter_8 : decode cL_outputCharacter 8 = .ok (.lastore, 1) := by decide +kernel
theorem dL_outputCharacter_9 : decode cL_outputCharacter 9 = .ok (.goto 6, 3) := by decide +kernel
theorem dL_outputCharacter_12 : decode cL_outputCharacter 12 = .ok (.astore_n 3, 1) := by decide +kernel
theorem dL_outputCharacter_13 : decode cL_outputCharacter 13 = .ok (.iconst 1, 1) := by decide +kernel
theorem dL_outputCharacter_14 : decode cL_outputCharacter 14 = .ok (.ireturn, 1) := by decide +kernel
theorem dL_outputCharacter_15 : decode cL_outputCharacter 15 = .ok (.iconst 0, 1) := by decide +kernel
theorem dL_outputCharacter_16 : decode cL_outputCharacter 16 = .ok (.ireturn, 1) := by decide +kernel
theorem ml_L_165 : gMV RL 165 yX10_outputCharacter cX10_outputCharacter 2 (some .char) 1 := ⟨⟨wg_t 1538 (by decide +kernel) (by decide +kernel), wg_t 1541 (by decide +kernel) (by decide +kernel), wg_t 1 (by decide +kernel) (by decide +kernel), by decide +kernel⟩, wg_t 1539 (by decide +kernel) (by decide +kernel), wg_t 1540 (by decide +kernel) (by decide +kernel)⟩
abbrev hhL_outputCharacter : List (Nat × Nat × Nat × Nat) := [(0, 9, 12, 21)]
theorem mw_L_354 : gML RL 354 yL_outputCharacter cL_outputCharacter 4 hhL_outputCharacter 3 := ⟨wg_t 1535 (by decide +kernel) (by decide +kernel), wg_t 1537 (by decide +kernel) (by decide +kernel), wg_t 0 (by decide +kernel) (by decide +kernel), by decide +kernel, wg_t 1536 (by decide +kernel) (by decide +kernel)⟩
abbrev rmL_outputCharacter : Room := { frames := 9, cells := 1, slots := 6, locals := 241 }
set_option maxHeartbeats 4000000 in
set_option maxRecDepth 100000 in
theorem metL_outputCharacter {l : Launch} {s0 : State} {b B : Nat} {D : va_G} {T : Nat → ClassId} (F : FX l s0 b D T B) {X : Nat → Prop} (hX : ∀ o, o < 561 → ¬ X (B + o)) {ob : Nat} (hob : X ob) {f : Nat → Int64} {μ : Mem} {cap : Nat} {t : List Nat} {a1 : Int32} (hL : ∀ k, (oC t a1) = .inl k → k = 0) : gMetH l yL_outputCharacter cL_outputCharacter 4 hhL_outputCharacter rmL_outputCharacter [.ref (B + 0), .int a1, .ref ob] (gWL s0 D T B X μ cap t ob f) (KC s0 X) (some (.int (kL [0] (oC t a1)))) (gWL s0 D T B X μ cap t ob (upI f (oC t a1))) (gAo B X ob) 1 6 := by
  refine gMetH_of RL (by decide +kernel) rfl (Nat.le_of_ble_eq_true rfl) ?_
  intro p e s m below meth c ls hx hb hr hlocks hml hown hts htab hW hk hl hS
  have hC := FX_C F hk hx hb hown hts
  have hl : lv_has ls 4 [(0, .ref (B + 0)), (1, .int a1), (2, .ref ob)] := hl
  have hS0 : va_S (gA B X) s.heap s.heap [] := va_S.rf
  refine lv_aload_n hx hb dL_outputCharacter_0 rfl (lv_at hl 2 rfl) ?_
  refine lv_iconst (v := 0) hx hb dL_outputCharacter_1 (by decide) ?_
  refine lv_aload_n hx hb dL_outputCharacter_2 rfl (lv_at hl 0 rfl) ?_
  refine lv_iload_n hx hb dL_outputCharacter_3 rfl (lv_at hl 1 rfl) ?_
  refine gx_callV (As := [.int a1]) hC hml hS0 hW.1 (KC_at hk hS0 F.2.2.2.2) KC_blind (oC_met F) ml_L_165 (gw_recv hC hW.1.1 is_Ga.1 (is_Ga.2.2.1 (gfm s0) T B (μ 0)) rfl) ⟨rfl, rfl, (Nat.le_of_ble_eq_true rfl), (Nat.le_of_ble_eq_true rfl)⟩ rfl hl.1 rfl (Nat.le_of_ble_eq_true rfl) dL_outputCharacter_4 ⟨(Nat.le_of_ble_eq_true rfl), (Nat.le_of_ble_eq_true rfl)⟩ (fun v9 ho H1 locs1 hW1 hS1 => ?_) (fun k9 ho H1 locs1 q9 ce9 hW1 hS1 hce hvm hcl => ?_)
  · obtain ⟨x9, hv9, rfl⟩ := oI_r ho
    refine lv_i2l hx hb dL_outputCharacter_7 rfl ?_
    refine gl_last hC (at_keep hob hW.2 hS1) hS1.gAo (Or.inr rfl) dL_outputCharacter_8 (fun H2 locs2 g1 g2 g3 g4 => ?_)
    refine lv_goto (tgt := 15) hx hb dL_outputCharacter_9 (by decide) ?_
    refine lv_iconst (v := 0) hx hb dL_outputCharacter_15 (by decide) ?_
    have e9 : kL [0] (oC t a1) = 0 := by rw [hv9]; rfl
    rw [e9]
    exact gw_iret hx hb hr hlocks ⟨gWS_keep hX hob hW1 g3, by rw [hv9]; exact g1⟩ g4 (Nat.le_of_eq (Nat.zero_add _)) (Nat.le_of_eq (Nat.zero_add _)) dL_outputCharacter_16
  · have hv9 := oI_l ho
    obtain rfl := hL _ hv9
    refine vx_catch hown [] ⟨0, 9, 12, 21⟩ [] (htab.trans rfl) (fun z hz => by cases hz) (by decide) (by decide) (hts _ kl_L_21) (FX_cs F hk cs_0) hce hvm hcl ?_
    refine lv_astore_n hx hb dL_outputCharacter_12 rfl hl (by decide) rfl (fun ls9 hl9 => ?_)
    refine lv_iconst (v := 1) hx hb dL_outputCharacter_13 (by decide) ?_
    have e9 : kL [0] (oC t a1) = 1 := by rw [hv9]; decide
    rw [e9]
    exact gw_iret hx hb hr hlocks ⟨hW1, by rw [hv9]; exact at_keep hob hW.2 hS1⟩ hS1.gAo (Nat.le_of_eq (Nat.zero_add _)) (Nat.le_of_eq (Nat.zero_add _)) dL_outputCharacter_14
theorem dL_feed_0 : decode cL_feed 0 = .ok (.aload_n 2, 1) := by decide +kernel
theorem dL_feed_1 : decode cL_feed 1 = .ok (.iconst 0, 1) := by decide +kernel
theorem dL_feed_2 : decode cL_feed 2 = .ok (.aload_n 0, 1) := by decide +kernel
theorem dL_feed_3 : decode cL_feed 3 = .ok (.iload_n 1, 1) := by decide +kernel
theorem dL_feed_4 : decode cL_feed 4 = .ok (.invokevirtual 169, 3) := by decide +kernel
theorem dL_feed_7 : decode cL_feed 7 = .ok (.i2l, 1) := by decide +kernel
theorem dL_feed_8 : decode cL_feed 8 = .ok (.lastore, 1) := by decide +kernel
theorem dL_feed_9 : decode cL_feed 9 = .ok (.goto 6, 3) := by decide +kernel
theorem dL_feed_12 : decode cL_feed 12 = .ok (.astore_n 3, 1) := by decide +kernel
theorem dL_feed_13 : decode cL_feed 13 = .ok (.iconst 1, 1) := by decide +kernel
theorem dL_feed_14 : decode cL_feed 14 = .ok (.ireturn, 1) := by decide +kernel
theorem dL_feed_15 : decode cL_feed 15 = .ok (.iconst 0, 1) := by decide +kernel
theorem dL_feed_16 : decode cL_feed 16 = .ok (.ireturn, 1) := by decide +kernel
theorem ml_L_169 : gMV RL 169 yX10_feed cX10_feed 2 (some .int) 1 := ⟨⟨wg_t 1556 (by decide +kernel) (by decide +kernel), wg_t 1559 (by decide +kernel) (by decide +kernel), wg_t 1 (by decide +kernel) (by decide +kernel), by decide +kernel⟩, wg_t 1557 (by decide +kernel) (by decide +kernel), wg_t 1558 (by decide +kernel) (by decide +kernel)⟩
abbrev hhL_feed : List (Nat × Nat × Nat × Nat) := [(0, 9, 12, 15)]
theorem mw_L_362 : gML RL 362 yL_feed cL_feed 4 hhL_feed 3 := ⟨wg_t 1553 (by decide +kernel) (by decide +kernel), wg_t 1555 (by decide +kernel) (by decide +kernel), wg_t 0 (by decide +kernel) (by decide +kernel), by decide +kernel, wg_t 1554 (by decide +kernel) (by decide +kernel)⟩
abbrev rmL_feed : Room := { frames := 7, cells := 1, slots := 6, locals := 141 }
set_option maxHeartbeats 4000000 in
set_option maxRecDepth 100000 in
theorem metL_feed {l : Launch} {s0 : State} {b B : Nat} {D : va_G} {T : Nat → ClassId} (F : FX l s0 b D T B) {X : Nat → Prop} (hX : ∀ o, o < 561 → ¬ X (B + o)) {ob : Nat} (hob : X ob) {f : Nat → Int64} {N : Nat} {μ : Mem} {cap : Nat} {t : List Nat} {a1 : Int32} {r : Mem × (Nat ⊕ Int32)} (h : fX10_feed N μ 0 a1 = some r) (hL : ∀ k, r.2 = .inl k → k = 2) : gMetH l yL_feed cL_feed 4 hhL_feed rmL_feed [.ref (B + 0), .int a1, .ref ob] (gWL s0 D T B X μ cap t ob f) (KC s0 X) (some (.int (kL [2] r.2))) (gWL s0 D T B X r.1 cap t ob (upI f r.2)) (gAo B X ob) 1 6 := by
  refine gMetH_of RL (by decide +kernel) rfl (Nat.le_of_ble_eq_true rfl) ?_
  intro p e s m below meth c ls hx hb hr hlocks hml hown hts htab hW hk hl hS
  have hC := FX_C F hk hx hb hown hts
  have hl : lv_has ls 4 [(0, .ref (B + 0)), (1, .int a1), (2, .ref ob)] := hl
  have hS0 : va_S (gA B X) s.heap s.heap [] := va_S.rf
  refine lv_aload_n hx hb dL_feed_0 rfl (lv_at hl 2 rfl) ?_
  refine lv_iconst (v := 0) hx hb dL_feed_1 (by decide) ?_
  refine lv_aload_n hx hb dL_feed_2 rfl (lv_at hl 0 rfl) ?_
  refine lv_iload_n hx hb dL_feed_3 rfl (lv_at hl 1 rfl) ?_
  refine gs_callXV (As := [.int a1]) F hX hk hC hml hS0 hW.1 (fun X9 hX9 => metX10_feed F hX9 is_Ga h) ml_L_169 (gw_recv hC hW.1.1 is_Ga.1 (is_Ga.2.2.1 (gfm s0) T B (μ 0)) rfl) ⟨rfl, rfl, (Nat.le_of_ble_eq_true rfl), (Nat.le_of_ble_eq_true rfl)⟩ rfl hl.1 rfl (Nat.le_of_ble_eq_true rfl) dL_feed_4 ⟨(Nat.le_of_ble_eq_true rfl), (Nat.le_of_ble_eq_true rfl)⟩ (fun v9 ho H1 locs1 hW1 hS1 => ?_) (fun k9 ho H1 locs1 q9 ce9 hW1 hS1 hce hvm hcl => ?_)
  · obtain ⟨x9, hv9, rfl⟩ := oI_r ho
    refine lv_i2l hx hb dL_feed_7 rfl ?_
    refine gl_last hC (at_keep hob hW.2 hS1) hS1.gAo (Or.inr rfl) dL_feed_8 (fun H2 locs2 g1 g2 g3 g4 => ?_)
    refine lv_goto (tgt := 15) hx hb dL_feed_9 (by decide) ?_
    refine lv_iconst (v := 0) hx hb dL_feed_15 (by decide) ?_
    have e9 : kL [2] r.2 = 0 := by rw [hv9]; rfl
    rw [e9]
    exact gw_iret hx hb hr hlocks ⟨gWS_keep hX hob hW1 g3, by rw [hv9]; exact g1⟩ g4 (Nat.le_of_eq (Nat.zero_add _)) (Nat.le_of_eq (Nat.zero_add _)) dL_feed_16
  · have hv9 := oI_l ho
    obtain rfl := hL _ hv9
    refine vx_catch hown [] ⟨0, 9, 12, 15⟩ [] (htab.trans rfl) (fun z hz => by cases hz) (by decide) (by decide) (hts _ kl_L_15) (FX_cs F hk cs_2) hce hvm hcl ?_
    refine lv_astore_n hx hb dL_feed_12 rfl hl (by decide) rfl (fun ls9 hl9 => ?_)
    refine lv_iconst (v := 1) hx hb dL_feed_13 (by decide) ?_
    have e9 : kL [2] r.2 = 1 := by rw [hv9]; decide
    rw [e9]
    exact gw_iret hx hb hr hlocks ⟨hW1, by rw [hv9]; exact at_keep hob hW.2 hS1⟩ hS1.gAo (Nat.le_of_eq (Nat.zero_add _)) (Nat.le_of_eq (Nat.zero_add _)) dL_feed_14
theorem dL_execute_0 : decode cL_execute 0 = .ok (.aload_n 1, 1) := by decide +kernel
theorem dL_execute_1 : decode cL_execute 1 = .ok (.iconst 0, 1) := by decide +kernel
theorem dL_execute_2 : decode cL_execute 2 = .ok (.aload_n 0, 1) := by decide +kernel
theorem dL_execute_3 : decode cL_execute 3 = .ok (.invokevirtual 173, 3) := by decide +kernel
theorem dL_execute_6 : decode cL_execute 6 = .ok (.i2l, 1) := by decide +kernel
theorem dL_execute_7 : decode cL_execute 7 = .ok (.lastore, 1) := by decide +kernel
theorem dL_execute_8 : decode cL_execute 8 = .ok (.goto 9, 3) := by decide +kernel
theorem dL_execute_11 : decode cL_execute 11 = .ok (.astore_n 2, 1) := by decide +kernel
theorem dL_execute_12 : decode cL_execute 12 = .ok (.iconst 1, 1) := by decide +kernel
theorem dL_execute_13 : decode cL_execute 13 = .ok (.ireturn, 1) := by decide +kernel
theorem dL_execute_14 : decode cL_execute 14 = .ok (.astore_n 2, 1) := by decide +kernel
theorem dL_execute_15 : decode cL_execute 15 = .ok (.iconst 2, 1) := by decide +kernel
theorem dL_execute_16 : decode cL_execute 16 = .ok (.ireturn, 1) := by decide +kernel
theorem dL_execute_17 : decode cL_execute 17 = .ok (.iconst 0, 1) := by decide +kernel
theorem dL_execute_18 : decode cL_execute 18 = .ok (.ireturn, 1) := by decide +kernel
theorem ml_L_173 : gMV RL 173 yX10_execute cX10_execute 3 (some .int) 0 := ⟨⟨wg_t 1564 (by decide +kernel) (by decide +kernel), wg_t 1567 (by decide +kernel) (by decide +kernel), wg_t 1 (by decide +kernel) (by decide +kernel), by decide +kernel⟩, wg_t 1565 (by decide +kernel) (by decide +kernel), wg_t 1566 (by decide +kernel) (by decide +kernel)⟩
abbrev hhL_execute : List (Nat × Nat × Nat × Nat) := [(0, 8, 11, 13), (0, 8, 14, 106)]
theorem mw_L_366 : gML RL 366 yL_execute cL_execute 3 hhL_execute 2 := ⟨wg_t 1561 (by decide +kernel) (by decide +kernel), wg_t 1563 (by decide +kernel) (by decide +kernel), wg_t 0 (by decide +kernel) (by decide +kernel), by decide +kernel, wg_t 1562 (by decide +kernel) (by decide +kernel)⟩
abbrev rmL_execute : Room := { frames := 10, cells := 1, slots := 6, locals := 296 }
set_option maxHeartbeats 4000000 in
set_option maxRecDepth 100000 in
theorem metL_execute {l : Launch} {s0 : State} {b B : Nat} {D : va_G} {T : Nat → ClassId} (F : FX l s0 b D T B) {X : Nat → Prop} (hX : ∀ o, o < 561 → ¬ X (B + o)) {ob : Nat} (hob : X ob) {f : Nat → Int64} {N : Nat} {μ : Mem} {cap : Nat} {t : List Nat} {r : Mem × (Nat ⊕ Int32)} (h : fX10_execute N μ 0 = some r) (hL : ∀ k, r.2 = .inl k → k = 1 ∨ k = 4) : gMetH l yL_execute cL_execute 3 hhL_execute rmL_execute [.ref (B + 0), .ref ob] (gWL s0 D T B X μ cap t ob f) (KC s0 X) (some (.int (kL [1, 4] r.2))) (gWL s0 D T B X r.1 cap t ob (upI f r.2)) (gAo B X ob) 1 6 := by
  refine gMetH_of RL (by decide +kernel) rfl (Nat.le_of_ble_eq_true rfl) ?_
  intro p e s m below meth c ls hx hb hr hlocks hml hown hts htab hW hk hl hS
  have hC := FX_C F hk hx hb hown hts
  have hl : lv_has ls 3 [(0, .ref (B + 0)), (1, .ref ob)] := hl
  have hS0 : va_S (gA B X) s.heap s.heap [] := va_S.rf
  refine lv_aload_n hx hb dL_execute_0 rfl (lv_at hl 1 rfl) ?_
  refine lv_iconst (v := 0) hx hb dL_execute_1 (by decide) ?_
  refine lv_aload_n hx hb dL_execute_2 rfl (lv_at hl 0 rfl) ?_
  refine gs_callXV (As := []) F hX hk hC hml hS0 hW.1 (fun X9 hX9 => metX10_execute F hX9 is_Ga h) ml_L_173 (gw_recv hC hW.1.1 is_Ga.1 (is_Ga.2.2.1 (gfm s0) T B (μ 0)) rfl) ⟨rfl, rfl, (Nat.le_of_ble_eq_true rfl), (Nat.le_of_ble_eq_true rfl)⟩ rfl hl.1 rfl (Nat.le_of_ble_eq_true rfl) dL_execute_3 ⟨(Nat.le_of_ble_eq_true rfl), (Nat.le_of_ble_eq_true rfl)⟩ (fun v9 ho H1 locs1 hW1 hS1 => ?_) (fun k9 ho H1 locs1 q9 ce9 hW1 hS1 hce hvm hcl => ?_)
  · obtain ⟨x9, hv9, rfl⟩ := oI_r ho
    refine lv_i2l hx hb dL_execute_6 rfl ?_
    refine gl_last hC (at_keep hob hW.2 hS1) hS1.gAo (Or.inr rfl) dL_execute_7 (fun H2 locs2 g1 g2 g3 g4 => ?_)
    refine lv_goto (tgt := 17) hx hb dL_execute_8 (by decide) ?_
    refine lv_iconst (v := 0) hx hb dL_execute_17 (by decide) ?_
    have e9 : kL [1, 4] r.2 = 0 := by rw [hv9]; rfl
    rw [e9]
    exact gw_iret hx hb hr hlocks ⟨gWS_keep hX hob hW1 g3, by rw [hv9]; exact g1⟩ g4 (Nat.le_of_eq (Nat.zero_add _)) (Nat.le_of_eq (Nat.zero_add _)) dL_execute_18
  · have hv9 := oI_l ho
    rcases hL _ hv9 with rfl | rfl
    · refine vx_catch hown [] ⟨0, 8, 11, 13⟩ [⟨0, 8, 14, 106⟩] (htab.trans rfl) (fun z hz => by cases hz) (by decide) (by decide) (hts _ kl_L_13) (FX_cs F hk cs_1) hce hvm hcl ?_
      refine lv_astore_n hx hb dL_execute_11 rfl hl (by decide) rfl (fun ls9 hl9 => ?_)
      refine lv_iconst (v := 1) hx hb dL_execute_12 (by decide) ?_
      have e9 : kL [1, 4] r.2 = 1 := by rw [hv9]; decide
      rw [e9]
      exact gw_iret hx hb hr hlocks ⟨hW1, by rw [hv9]; exact at_keep hob hW.2 hS1⟩ hS1.gAo (Nat.le_of_eq (Nat.zero_add _)) (Nat.le_of_eq (Nat.zero_add _)) dL_execute_13
    · refine vx_catch hown [⟨0, 8, 11, 13⟩] ⟨0, 8, 14, 106⟩ [] (htab.trans rfl) (fun z hz => by cases List.mem_singleton.mp hz; exact Or.inr ⟨by decide, _, hts _ kl_L_13, FX_nc F hk nc_4_1⟩) (by decide) (by decide) (hts _ kl_L_106) (FX_cs F hk cs_4) hce hvm hcl ?_
      refine lv_astore_n hx hb dL_execute_14 rfl hl (by decide) rfl (fun ls9 hl9 => ?_)
      refine lv_iconst (v := 2) hx hb dL_execute_15 (by decide) ?_
      have e9 : kL [1, 4] r.2 = 2 := by rw [hv9]; decide
      rw [e9]
      exact gw_iret hx hb hr hlocks ⟨hW1, by rw [hv9]; exact at_keep hob hW.2 hS1⟩ hS1.gAo (Nat.le_of_eq (Nat.zero_add _)) (Nat.le_of_eq (Nat.zero_add _)) dL_execute_16
theorem dL_errorPosition_0 : decode cL_errorPosition 0 = .ok (.aload_n 1, 1) := by decide +kernel
theorem dL_errorPosition_1 : decode cL_errorPosition 1 = .ok (.iconst 0, 1) := by decide +kernel
theorem dL_errorPosition_2 : decode cL_errorPosition 2 = .ok (.aload_n 0, 1) := by decide +kernel
theorem dL_errorPosition_3 : decode cL_errorPosition 3 = .ok (.invokevirtual 176, 3) := by decide +kernel
theorem dL_errorPosition_6 : decode cL_errorPosition 6 = .ok (.i2l, 1) := by decide +kernel
theorem dL_errorPosition_7 : decode cL_errorPosition 7 = .ok (.lastore, 1) := by decide +kernel
theorem dL_errorPosition_8 : decode cL_errorPosition 8 = .ok (.goto 6, 3) := by decide +kernel
theorem dL_errorPosition_11 : decode cL_errorPosition 11 = .ok (.astore_n 2, 1) := by decide +kernel
theorem dL_errorPosition_12 : decode cL_errorPosition 12 = .ok (.iconst 1, 1) := by decide +kernel
theorem dL_errorPosition_13 : decode cL_errorPosition 13 = .ok (.ireturn, 1) := by decide +kernel
theorem dL_errorPosition_14 : decode cL_errorPosition 14 = .ok (.iconst 0, 1) := by decide +kernel
theorem dL_errorPosition_15 : decode cL_errorPosition 15 = .ok (.ireturn, 1) := by decide +kernel
theorem ml_L_176 : gMV RL 176 yX10_errorPosition cX10_errorPosition 1 (some .int) 0 := ⟨⟨wg_t 1633 (by decide +kernel) (by decide +kernel), wg_t 1636 (by decide +kernel) (by decide +kernel), wg_t 1 (by decide +kernel) (by decide +kernel), by decide +kernel⟩, wg_t 1634 (by decide +kernel) (by decide +kernel), wg_t 1635 (by decide +kernel) (by decide +kernel)⟩
abbrev hhL_errorPosition : List (Nat × Nat × Nat × Nat) := [(0, 8, 11, 30)]
theorem mw_L_369 : gML RL 369 yL_errorPosition cL_errorPosition 3 hhL_errorPosition 2 := ⟨wg_t 1630 (by decide +kernel) (by decide +kernel), wg_t 1632 (by decide +kernel) (by decide +kernel), wg_t 0 (by decide +kernel) (by decide +kernel), by decide +kernel, wg_t 1631 (by decide +kernel) (by decide +kernel)⟩
abbrev rmL_errorPosition : Room := { frames := 8, cells := 1, slots := 6, locals := 160 }
set_option maxHeartbeats 4000000 in
set_option maxRecDepth 100000 in
theorem metL_errorPosition {l : Launch} {s0 : State} {b B : Nat} {D : va_G} {T : Nat → ClassId} (F : FX l s0 b D T B) {X : Nat → Prop} (hX : ∀ o, o < 561 → ¬ X (B + o)) {ob : Nat} (hob : X ob) {f : Nat → Int64} {N : Nat} {μ : Mem} {cap : Nat} {t : List Nat} {r : Mem × (Nat ⊕ Int32)} (h : fX10_errorPosition N μ 0 = some r) (hL : ∀ k, r.2 = .inl k → k = 3) : gMetH l yL_errorPosition cL_errorPosition 3 hhL_errorPosition rmL_errorPosition [.ref (B + 0), .ref ob] (gWL s0 D T B X μ cap t ob f) (KC s0 X) (some (.int (kL [3] r.2))) (gWL s0 D T B X r.1 cap t ob (upI f r.2)) (gAo B X ob) 1 6 := by
  refine gMetH_of RL (by decide +kernel) rfl (Nat.le_of_ble_eq_true rfl) ?_
  intro p e s m below meth c ls hx hb hr hlocks hml hown hts htab hW hk hl hS
  have hC := FX_C F hk hx hb hown hts
  have hl : lv_has ls 3 [(0, .ref (B + 0)), (1, .ref ob)] := hl
  have hS0 : va_S (gA B X) s.heap s.heap [] := va_S.rf
  refine lv_aload_n hx hb dL_errorPosition_0 rfl (lv_at hl 1 rfl) ?_
  refine lv_iconst (v := 0) hx hb dL_errorPosition_1 (by decide) ?_
  refine lv_aload_n hx hb dL_errorPosition_2 rfl (lv_at hl 0 rfl) ?_
  refine gs_callXV (As := []) F hX hk hC hml hS0 hW.1 (fun X9 hX9 => metX10_errorPosition F hX9 is_Ga h) ml_L_176 (gw_recv hC hW.1.1 is_Ga.1 (is_Ga.2.2.1 (gfm s0) T B (μ 0)) rfl) ⟨rfl, rfl, (Nat.le_of_ble_eq_true rfl), (Nat.le_of_ble_eq_true rfl)⟩ rfl hl.1 rfl (Nat.le_of_ble_eq_true rfl) dL_errorPosition_3 ⟨(Nat.le_of_ble_eq_true rfl), (Nat.le_of_ble_eq_true rfl)⟩ (fun v9 ho H1 locs1 hW1 hS1 => ?_) (fun k9 ho H1 locs1 q9 ce9 hW1 hS1 hce hvm hcl => ?_)
  · obtain ⟨x9, hv9, rfl⟩ := oI_r ho
    refine lv_i2l hx hb dL_errorPosition_6 rfl ?_
    refine gl_last hC (at_keep hob hW.2 hS1) hS1.gAo (Or.inr rfl) dL_errorPosition_7 (fun H2 locs2 g1 g2 g3 g4 => ?_)
    refine lv_goto (tgt := 14) hx hb dL_errorPosition_8 (by decide) ?_
    refine lv_iconst (v := 0) hx hb dL_errorPosition_14 (by decide) ?_
    have e9 : kL [3] r.2 = 0 := by rw [hv9]; rfl
    rw [e9]
    exact gw_iret hx hb hr hlocks ⟨gWS_keep hX hob hW1 g3, by rw [hv9]; exact g1⟩ g4 (Nat.le_of_eq (Nat.zero_add _)) (Nat.le_of_eq (Nat.zero_add _)) dL_errorPosition_15
  · have hv9 := oI_l ho
    obtain rfl := hL _ hv9
    refine vx_catch hown [] ⟨0, 8, 11, 30⟩ [] (htab.trans rfl) (fun z hz => by cases hz) (by decide) (by decide) (hts _ kl_L_30) (FX_cs F hk cs_3) hce hvm hcl ?_
    refine lv_astore_n hx hb dL_errorPosition_11 rfl hl (by decide) rfl (fun ls9 hl9 => ?_)
    refine lv_iconst (v := 1) hx hb dL_errorPosition_12 (by decide) ?_
    have e9 : kL [3] r.2 = 1 := by rw [hv9]; decide
    rw [e9]
    exact gw_iret hx hb hr hlocks ⟨hW1, by rw [hv9]; exact at_keep hob hW.2 hS1⟩ hS1.gAo (Nat.le_of_eq (Nat.zero_add _)) (Nat.le_of_eq (Nat.zero_add _)) dL_errorPosition_13
theorem dL_failedCommand_0 : decode cL_failedCommand 0 = .ok (.aload_n 1, 1) := by decide +kernel
theorem dL_failedCommand_1 : decode cL_failedCommand 1 = .ok (.iconst 0, 1) := by decide +kernel
theorem dL_failedCommand_2 : decode cL_failedCommand 2 = .ok (.aload_n 0, 1) := by decide +kernel
theorem dL_failedCommand_3 : decode cL_failedCommand 3 = .ok (.invokevirtual 179, 3) := by decide +kernel
theorem dL_failedCommand_6 : decode cL_failedCommand 6 = .ok (.i2l, 1) := by decide +kernel
theorem dL_failedCommand_7 : decode cL_failedCommand 7 = .ok (.lastore, 1) := by decide +kernel
theorem dL_failedCommand_8 : decode cL_failedCommand 8 = .ok (.goto 6, 3) := by decide +kernel
theorem dL_failedCommand_11 : decode cL_failedCommand 11 = .ok (.astore_n 2, 1) := by decide +kernel
theorem dL_failedCommand_12 : decode cL_failedCommand 12 = .ok (.iconst 1, 1) := by decide +kernel
theorem dL_failedCommand_13 : decode cL_failedCommand 13 = .ok (.ireturn, 1) := by decide +kernel
theorem dL_failedCommand_14 : decode cL_failedCommand 14 = .ok (.iconst 0, 1) := by decide +kernel
theorem dL_failedCommand_15 : decode cL_failedCommand 15 = .ok (.ireturn, 1) := by decide +kernel
theorem ml_L_179 : gMV RL 179 yX10_failedCommand cX10_failedCommand 1 (some .int) 0 := ⟨⟨wg_t 1640 (by decide +kernel) (by decide +kernel), wg_t 1643 (by decide +kernel) (by decide +kernel), wg_t 1 (by decide +kernel) (by decide +kernel), by decide +kernel⟩, wg_t 1641 (by decide +kernel) (by decide +kernel), wg_t 1642 (by decide +kernel) (by decide +kernel)⟩
abbrev hhL_failedCommand : List (Nat × Nat × Nat × Nat) := [(0, 8, 11, 30)]
theorem mw_L_372 : gML RL 372 yL_failedCommand cL_failedCommand 3 hhL_failedCommand 2 := ⟨wg_t 1637 (by decide +kernel) (by decide +kernel), wg_t 1639 (by decide +kernel) (by decide +kernel), wg_t 0 (by decide +kernel) (by decide +kernel), by decide +kernel, wg_t 1638 (by decide +kernel) (by decide +kernel)⟩
abbrev rmL_failedCommand : Room := { frames := 8, cells := 1, slots := 6, locals := 160 }
set_option maxHeartbeats 4000000 in
set_option maxRecDepth 100000 in
theorem metL_failedCommand {l : Launch} {s0 : State} {b B : Nat} {D : va_G} {T : Nat → ClassId} (F : FX l s0 b D T B) {X : Nat → Prop} (hX : ∀ o, o < 561 → ¬ X (B + o)) {ob : Nat} (hob : X ob) {f : Nat → Int64} {N : Nat} {μ : Mem} {cap : Nat} {t : List Nat} {r : Mem × (Nat ⊕ Int32)} (h : fX10_failedCommand N μ 0 = some r) (hL : ∀ k, r.2 = .inl k → k = 3) : gMetH l yL_failedCommand cL_failedCommand 3 hhL_failedCommand rmL_failedCommand [.ref (B + 0), .ref ob] (gWL s0 D T B X μ cap t ob f) (KC s0 X) (some (.int (kL [3] r.2))) (gWL s0 D T B X r.1 cap t ob (upI f r.2)) (gAo B X ob) 1 6 := by
  refine gMetH_of RL (by decide +kernel) rfl (Nat.le_of_ble_eq_true rfl) ?_
  intro p e s m below meth c ls hx hb hr hlocks hml hown hts htab hW hk hl hS
  have hC := FX_C F hk hx hb hown hts
  have hl : lv_has ls 3 [(0, .ref (B + 0)), (1, .ref ob)] := hl
  have hS0 : va_S (gA B X) s.heap s.heap [] := va_S.rf
  refine lv_aload_n hx hb dL_failedCommand_0 rfl (lv_at hl 1 rfl) ?_
  refine lv_iconst (v := 0) hx hb dL_failedCommand_1 (by decide) ?_
  refine lv_aload_n hx hb dL_failedCommand_2 rfl (lv_at hl 0 rfl) ?_
  refine gs_callXV (As := []) F hX hk hC hml hS0 hW.1 (fun X9 hX9 => metX10_failedCommand F hX9 is_Ga h) ml_L_179 (gw_recv hC hW.1.1 is_Ga.1 (is_Ga.2.2.1 (gfm s0) T B (μ 0)) rfl) ⟨rfl, rfl, (Nat.le_of_ble_eq_true rfl), (Nat.le_of_ble_eq_true rfl)⟩ rfl hl.1 rfl (Nat.le_of_ble_eq_true rfl) dL_failedCommand_3 ⟨(Nat.le_of_ble_eq_true rfl), (Nat.le_of_ble_eq_true rfl)⟩ (fun v9 ho H1 locs1 hW1 hS1 => ?_) (fun k9 ho H1 locs1 q9 ce9 hW1 hS1 hce hvm hcl => ?_)
  · obtain ⟨x9, hv9, rfl⟩ := oI_r ho
    refine lv_i2l hx hb dL_failedCommand_6 rfl ?_
    refine gl_last hC (at_keep hob hW.2 hS1) hS1.gAo (Or.inr rfl) dL_failedCommand_7 (fun H2 locs2 g1 g2 g3 g4 => ?_)
    refine lv_goto (tgt := 14) hx hb dL_failedCommand_8 (by decide) ?_
    refine lv_iconst (v := 0) hx hb dL_failedCommand_14 (by decide) ?_
    have e9 : kL [3] r.2 = 0 := by rw [hv9]; rfl
    rw [e9]
    exact gw_iret hx hb hr hlocks ⟨gWS_keep hX hob hW1 g3, by rw [hv9]; exact g1⟩ g4 (Nat.le_of_eq (Nat.zero_add _)) (Nat.le_of_eq (Nat.zero_add _)) dL_failedCommand_15
  · have hv9 := oI_l ho
    obtain rfl := hL _ hv9
    refine vx_catch hown [] ⟨0, 8, 11, 30⟩ [] (htab.trans rfl) (fun z hz => by cases hz) (by decide) (by decide) (hts _ kl_L_30) (FX_cs F hk cs_3) hce hvm hcl ?_
    refine lv_astore_n hx hb dL_failedCommand_11 rfl hl (by decide) rfl (fun ls9 hl9 => ?_)
    refine lv_iconst (v := 1) hx hb dL_failedCommand_12 (by decide) ?_
    have e9 : kL [3] r.2 = 1 := by rw [hv9]; decide
    rw [e9]
    exact gw_iret hx hb hr hlocks ⟨hW1, by rw [hv9]; exact at_keep hob hW.2 hS1⟩ hS1.gAo (Nat.le_of_eq (Nat.zero_add _)) (Nat.le_of_eq (Nat.zero_add _)) dL_failedCommand_13
theorem dL_undo_0 : decode cL_undo 0 = .ok (.aload_n 1, 1) := by decide +kernel
theorem dL_undo_1 : decode cL_undo 1 = .ok (.iconst 0, 1) := by decide +kernel
theorem dL_undo_2 : decode cL_undo 2 = .ok (.aload_n 0, 1) := by decide +kernel
theorem dL_undo_3 : decode cL_undo 3 = .ok (.invokevirtual 182, 3) := by decide +kernel
theorem dL_undo_6 : decode cL_undo 6 = .ok (.i2l, 1) := by decide +kernel
theorem dL_undo_7 : decode cL_undo 7 = .ok (.lastore, 1) := by decide +kernel
theorem dL_undo_8 : decode cL_undo 8 = .ok (.goto 6, 3) := by decide +kernel
theorem dL_undo_11 : decode cL_undo 11 = .ok (.astore_n 2, 1) := by decide +kernel
theorem dL_undo_12 : decode cL_undo 12 = .ok (.iconst 1, 1) := by decide +kernel
theorem dL_undo_13 : decode cL_undo 13 = .ok (.ireturn, 1) := by decide +kernel
theorem dL_undo_14 : decode cL_undo 14 = .ok (.iconst 0, 1) := by decide +kernel
theorem dL_undo_15 : decode cL_undo 15 = .ok (.ireturn, 1) := by decide +kernel
theorem ml_L_182 : gMV RL 182 yX10_undo cX10_undo 1 (some .int) 0 := ⟨⟨wg_t 1647 (by decide +kernel) (by decide +kernel), wg_t 1650 (by decide +kernel) (by decide +kernel), wg_t 1 (by decide +kernel) (by decide +kernel), by decide +kernel⟩, wg_t 1648 (by decide +kernel) (by decide +kernel), wg_t 1649 (by decide +kernel) (by decide +kernel)⟩
abbrev hhL_undo : List (Nat × Nat × Nat × Nat) := [(0, 8, 11, 15)]
theorem mw_L_375 : gML RL 375 yL_undo cL_undo 3 hhL_undo 2 := ⟨wg_t 1644 (by decide +kernel) (by decide +kernel), wg_t 1646 (by decide +kernel) (by decide +kernel), wg_t 0 (by decide +kernel) (by decide +kernel), by decide +kernel, wg_t 1645 (by decide +kernel) (by decide +kernel)⟩
abbrev rmL_undo : Room := { frames := 7, cells := 1, slots := 6, locals := 140 }
set_option maxHeartbeats 4000000 in
set_option maxRecDepth 100000 in
theorem metL_undo {l : Launch} {s0 : State} {b B : Nat} {D : va_G} {T : Nat → ClassId} (F : FX l s0 b D T B) {X : Nat → Prop} (hX : ∀ o, o < 561 → ¬ X (B + o)) {ob : Nat} (hob : X ob) {f : Nat → Int64} {N : Nat} {μ : Mem} {cap : Nat} {t : List Nat} {r : Mem × (Nat ⊕ Int32)} (h : fX10_undo N μ 0 = some r) (hL : ∀ k, r.2 = .inl k → k = 2) : gMetH l yL_undo cL_undo 3 hhL_undo rmL_undo [.ref (B + 0), .ref ob] (gWL s0 D T B X μ cap t ob f) (KC s0 X) (some (.int (kL [2] r.2))) (gWL s0 D T B X r.1 cap t ob (upI f r.2)) (gAo B X ob) 1 6 := by
  refine gMetH_of RL (by decide +kernel) rfl (Nat.le_of_ble_eq_true rfl) ?_
  intro p e s m below meth c ls hx hb hr hlocks hml hown hts htab hW hk hl hS
  have hC := FX_C F hk hx hb hown hts
  have hl : lv_has ls 3 [(0, .ref (B + 0)), (1, .ref ob)] := hl
  have hS0 : va_S (gA B X) s.heap s.heap [] := va_S.rf
  refine lv_aload_n hx hb dL_undo_0 rfl (lv_at hl 1 rfl) ?_
  refine lv_iconst (v := 0) hx hb dL_undo_1 (by decide) ?_
  refine lv_aload_n hx hb dL_undo_2 rfl (lv_at hl 0 rfl) ?_
  refine gs_callXV (As := []) F hX hk hC hml hS0 hW.1 (fun X9 hX9 => metX10_undo F hX9 is_Ga h) ml_L_182 (gw_recv hC hW.1.1 is_Ga.1 (is_Ga.2.2.1 (gfm s0) T B (μ 0)) rfl) ⟨rfl, rfl, (Nat.le_of_ble_eq_true rfl), (Nat.le_of_ble_eq_true rfl)⟩ rfl hl.1 rfl (Nat.le_of_ble_eq_true rfl) dL_undo_3 ⟨(Nat.le_of_ble_eq_true rfl), (Nat.le_of_ble_eq_true rfl)⟩ (fun v9 ho H1 locs1 hW1 hS1 => ?_) (fun k9 ho H1 locs1 q9 ce9 hW1 hS1 hce hvm hcl => ?_)
  · obtain ⟨x9, hv9, rfl⟩ := oI_r ho
    refine lv_i2l hx hb dL_undo_6 rfl ?_
    refine gl_last hC (at_keep hob hW.2 hS1) hS1.gAo (Or.inr rfl) dL_undo_7 (fun H2 locs2 g1 g2 g3 g4 => ?_)
    refine lv_goto (tgt := 14) hx hb dL_undo_8 (by decide) ?_
    refine lv_iconst (v := 0) hx hb dL_undo_14 (by decide) ?_
    have e9 : kL [2] r.2 = 0 := by rw [hv9]; rfl
    rw [e9]
    exact gw_iret hx hb hr hlocks ⟨gWS_keep hX hob hW1 g3, by rw [hv9]; exact g1⟩ g4 (Nat.le_of_eq (Nat.zero_add _)) (Nat.le_of_eq (Nat.zero_add _)) dL_undo_15
  · have hv9 := oI_l ho
    obtain rfl := hL _ hv9
    refine vx_catch hown [] ⟨0, 8, 11, 15⟩ [] (htab.trans rfl) (fun z hz => by cases hz) (by decide) (by decide) (hts _ kl_L_15) (FX_cs F hk cs_2) hce hvm hcl ?_
    refine lv_astore_n hx hb dL_undo_11 rfl hl (by decide) rfl (fun ls9 hl9 => ?_)
    refine lv_iconst (v := 1) hx hb dL_undo_12 (by decide) ?_
    have e9 : kL [2] r.2 = 1 := by rw [hv9]; decide
    rw [e9]
    exact gw_iret hx hb hr hlocks ⟨hW1, by rw [hv9]; exact at_keep hob hW.2 hS1⟩ hS1.gAo (Nat.le_of_eq (Nat.zero_add _)) (Nat.le_of_eq (Nat.zero_add _)) dL_undo_13
theorem dL_restore_0 : decode cL_restore 0 = .ok (.aload_n 1, 1) := by decide +kernel
theorem dL_restore_1 : decode cL_restore 1 = .ok (.iconst 0, 1) := by decide +kernel
theorem dL_restore_2 : decode cL_restore 2 = .ok (.aload_n 0, 1) := by decide +kernel
theorem dL_restore_3 : decode cL_restore 3 = .ok (.invokevirtual 185, 3) := by decide +kernel
theorem dL_restore_6 : decode cL_restore 6 = .ok (.i2l, 1) := by decide +kernel
theorem dL_restore_7 : decode cL_restore 7 = .ok (.lastore, 1) := by decide +kernel
theorem dL_restore_8 : decode cL_restore 8 = .ok (.goto 6, 3) := by decide +kernel
theorem dL_restore_11 : decode cL_restore 11 = .ok (.astore_n 2, 1) := by decide +kernel
theorem dL_restore_12 : decode cL_restore 12 = .ok (.iconst 1, 1) := by decide +kernel
theorem dL_restore_13 : decode cL_restore 13 = .ok (.ireturn, 1) := by decide +kernel
theorem dL_restore_14 : decode cL_restore 14 = .ok (.iconst 0, 1) := by decide +kernel
theorem dL_restore_15 : decode cL_restore 15 = .ok (.ireturn, 1) := by decide +kernel
theorem ml_L_185 : gMV RL 185 yX10_restore cX10_restore 1 (some .int) 0 := ⟨⟨wg_t 1659 (by decide +kernel) (by decide +kernel), wg_t 1662 (by decide +kernel) (by decide +kernel), wg_t 1 (by decide +kernel) (by decide +kernel), by decide +kernel⟩, wg_t 1660 (by decide +kernel) (by decide +kernel), wg_t 1661 (by decide +kernel) (by decide +kernel)⟩
abbrev hhL_restore : List (Nat × Nat × Nat × Nat) := [(0, 8, 11, 15)]
theorem mw_L_386 : gML RL 386 yL_restore cL_restore 3 hhL_restore 2 := ⟨wg_t 1656 (by decide +kernel) (by decide +kernel), wg_t 1658 (by decide +kernel) (by decide +kernel), wg_t 0 (by decide +kernel) (by decide +kernel), by decide +kernel, wg_t 1657 (by decide +kernel) (by decide +kernel)⟩
abbrev rmL_restore : Room := { frames := 7, cells := 1, slots := 6, locals := 140 }
set_option maxHeartbeats 4000000 in
set_option maxRecDepth 100000 in
theorem metL_restore {l : Launch} {s0 : State} {b B : Nat} {D : va_G} {T : Nat → ClassId} (F : FX l s0 b D T B) {X : Nat → Prop} (hX : ∀ o, o < 561 → ¬ X (B + o)) {ob : Nat} (hob : X ob) {f : Nat → Int64} {N : Nat} {μ : Mem} {cap : Nat} {t : List Nat} {r : Mem × (Nat ⊕ Int32)} (h : fX10_restore N μ 0 = some r) (hL : ∀ k, r.2 = .inl k → k = 2) : gMetH l yL_restore cL_restore 3 hhL_restore rmL_restore [.ref (B + 0), .ref ob] (gWL s0 D T B X μ cap t ob f) (KC s0 X) (some (.int (kL [2] r.2))) (gWL s0 D T B X r.1 cap t ob (upI f r.2)) (gAo B X ob) 1 6 := by
  refine gMetH_of RL (by decide +kernel) rfl (Nat.le_of_ble_eq_true rfl) ?_
  intro p e s m below meth c ls hx hb hr hlocks hml hown hts htab hW hk hl hS
  have hC := FX_C F hk hx hb hown hts
  have hl : lv_has ls 3 [(0, .ref (B + 0)), (1, .ref ob)] := hl
  have hS0 : va_S (gA B X) s.heap s.heap [] := va_S.rf
  refine lv_aload_n hx hb dL_restore_0 rfl (lv_at hl 1 rfl) ?_
  refine lv_iconst (v := 0) hx hb dL_restore_1 (by decide) ?_
  refine lv_aload_n hx hb dL_restore_2 rfl (lv_at hl 0 rfl) ?_
  refine gs_callXV (As := []) F hX hk hC hml hS0 hW.1 (fun X9 hX9 => metX10_restore F hX9 is_Ga h) ml_L_185 (gw_recv hC hW.1.1 is_Ga.1 (is_Ga.2.2.1 (gfm s0) T B (μ 0)) rfl) ⟨rfl, rfl, (Nat.le_of_ble_eq_true rfl), (Nat.le_of_ble_eq_true rfl)⟩ rfl hl.1 rfl (Nat.le_of_ble_eq_true rfl) dL_restore_3 ⟨(Nat.le_of_ble_eq_true rfl), (Nat.le_of_ble_eq_true rfl)⟩ (fun v9 ho H1 locs1 hW1 hS1 => ?_) (fun k9 ho H1 locs1 q9 ce9 hW1 hS1 hce hvm hcl => ?_)
  · obtain ⟨x9, hv9, rfl⟩ := oI_r ho
    refine lv_i2l hx hb dL_restore_6 rfl ?_
    refine gl_last hC (at_keep hob hW.2 hS1) hS1.gAo (Or.inr rfl) dL_restore_7 (fun H2 locs2 g1 g2 g3 g4 => ?_)
    refine lv_goto (tgt := 14) hx hb dL_restore_8 (by decide) ?_
    refine lv_iconst (v := 0) hx hb dL_restore_14 (by decide) ?_
    have e9 : kL [2] r.2 = 0 := by rw [hv9]; rfl
    rw [e9]
    exact gw_iret hx hb hr hlocks ⟨gWS_keep hX hob hW1 g3, by rw [hv9]; exact g1⟩ g4 (Nat.le_of_eq (Nat.zero_add _)) (Nat.le_of_eq (Nat.zero_add _)) dL_restore_15
  · have hv9 := oI_l ho
    obtain rfl := hL _ hv9
    refine vx_catch hown [] ⟨0, 8, 11, 15⟩ [] (htab.trans rfl) (fun z hz => by cases hz) (by decide) (by decide) (hts _ kl_L_15) (FX_cs F hk cs_2) hce hvm hcl ?_
    refine lv_astore_n hx hb dL_restore_11 rfl hl (by decide) rfl (fun ls9 hl9 => ?_)
    refine lv_iconst (v := 1) hx hb dL_restore_12 (by decide) ?_
    have e9 : kL [2] r.2 = 1 := by rw [hv9]; decide
    rw [e9]
    exact gw_iret hx hb hr hlocks ⟨hW1, by rw [hv9]; exact at_keep hob hW.2 hS1⟩ hS1.gAo (Nat.le_of_eq (Nat.zero_add _)) (Nat.le_of_eq (Nat.zero_add _)) dL_restore_13
