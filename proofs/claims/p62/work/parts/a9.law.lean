/-! Printed by program: the law's own methods. -/
theorem kl_L_14 : Cond.classLink RL 14 (exn 1) ∈ WG := wg_t 353 (by decide +kernel) (by decide +kernel)
theorem kl_L_16 : Cond.classLink RL 16 (exn 2) ∈ WG := wg_t 354 (by decide +kernel) (by decide +kernel)
theorem kl_L_22 : Cond.classLink RL 22 (exn 0) ∈ WG := wg_t 554 (by decide +kernel) (by decide +kernel)
theorem kl_L_107 : Cond.classLink RL 107 (exn 4) ∈ WG := wg_t 776 (by decide +kernel) (by decide +kernel)
theorem kl_L_31 : Cond.classLink RL 31 (exn 3) ∈ WG := wg_t 845 (by decide +kernel) (by decide +kernel)
theorem cs_0 : Cond.castable (exn 0) (exn 0) ∈ lw_tbl := List.mem_append_right _ (List.mem_of_getElem? (i := 382) (by decide +kernel))
theorem cs_1 : Cond.castable (exn 1) (exn 1) ∈ lw_tbl := List.mem_append_right _ (List.mem_of_getElem? (i := 454) (by decide +kernel))
theorem cs_2 : Cond.castable (exn 2) (exn 2) ∈ lw_tbl := List.mem_append_right _ (List.mem_of_getElem? (i := 470) (by decide +kernel))
theorem cs_3 : Cond.castable (exn 3) (exn 3) ∈ lw_tbl := List.mem_append_right _ (List.mem_of_getElem? (i := 488) (by decide +kernel))
theorem cs_4 : Cond.castable (exn 4) (exn 4) ∈ lw_tbl := List.mem_append_right _ (List.mem_of_getElem? (i := 506) (by decide +kernel))
theorem cs_5 : Cond.castable (exn 5) (exn 5) ∈ lw_tbl := List.mem_append_right _ (List.mem_of_getElem? (i := 1151) (by decide +kernel))
theorem dL_addRoom_0 : decode cL_addRoom 0 = .ok (.aload_n 0, 1) := by decide +kernel
theorem dL_addRoom_1 : decode cL_addRoom 1 = .ok (.iload_n 1, 1) := by decide +kernel
theorem dL_addRoom_2 : decode cL_addRoom 2 = .ok (.invokevirtual 8, 3) := by decide +kernel
theorem dL_addRoom_5 : decode cL_addRoom 5 = .ok (.ireturn, 1) := by decide +kernel
theorem dL_addRoom_6 : decode cL_addRoom 6 = .ok (.astore_n 2, 1) := by decide +kernel
theorem dL_addRoom_7 : decode cL_addRoom 7 = .ok (.iconst (-1), 1) := by decide +kernel
theorem dL_addRoom_8 : decode cL_addRoom 8 = .ok (.ireturn, 1) := by decide +kernel
theorem dL_addRoom_9 : decode cL_addRoom 9 = .ok (.astore_n 2, 1) := by decide +kernel
theorem dL_addRoom_10 : decode cL_addRoom 10 = .ok (.bipush (-2), 2) := by decide +kernel
theorem dL_addRoom_12 : decode cL_addRoom 12 = .ok (.ireturn, 1) := by decide +kernel
theorem ml_L_8 : gMV RL 8 yX10_addRoom cX10_addRoom 2 (some .int) 1 := ⟨⟨wg_t 355 (by decide +kernel) (by decide +kernel), wg_t 358 (by decide +kernel) (by decide +kernel), wg_t 1 (by decide +kernel) (by decide +kernel), by decide +kernel⟩, wg_t 356 (by decide +kernel) (by decide +kernel), wg_t 357 (by decide +kernel) (by decide +kernel)⟩
abbrev hhL_addRoom : List (Nat × Nat × Nat × Nat) := [(0, 5, 6, 14), (0, 5, 9, 16)]
theorem mw_L_198 : gML RL 198 yL_addRoom cL_addRoom 3 hhL_addRoom 2 := ⟨wg_t 350 (by decide +kernel) (by decide +kernel), wg_t 352 (by decide +kernel) (by decide +kernel), wg_t 0 (by decide +kernel) (by decide +kernel), by decide +kernel, wg_t 351 (by decide +kernel) (by decide +kernel)⟩
abbrev rmL_addRoom : Room := { frames := 8, cells := 1, slots := 6, locals := 165 }
set_option maxHeartbeats 4000000 in
set_option maxRecDepth 100000 in
theorem metL_addRoom {l : Launch} {s0 : State} {b B : Nat} {D : va_G} {T : Nat → ClassId} (F : FX l s0 b D T B) {X : Nat → Prop} (hX : ∀ o, o < 561 → ¬ X (B + o)) {N : Nat} {Z : Nat → Int32} {hs : List (Nat → Int32)} {t : List Nat} {a1 : Int32} {S : RSt} (q : ∀ μ : Mem, PZ μ t Z hs → Ok (fX10_addRoom N μ 0 a1) (fun r => ∃ Z2 hs2, PZ r.1 t Z2 hs2 ∧ S Z2 hs2 t (r.2))) (hL : ∀ Z2 hs2 t2 k, S Z2 hs2 t2 (.inl k) → k = 1 ∨ k = 2) : gMetR l yL_addRoom cL_addRoom 3 hhL_addRoom rmL_addRoom [.ref (B + 0), .int a1] (gZ s0 D T B X Z hs t) (KC s0 X) (gRS s0 D T B X S (wr [(1, (-1)), (2, (-2))])) (gA B X) 1 6 := by
  refine gMetR_of RL (by decide +kernel) rfl (Nat.le_of_ble_eq_true rfl) ?_
  intro p e s m below meth c ls hx hb hr hlocks hml hown hts htab hW hk hl hS
  have hC := FX_C F hk hx hb hown hts
  have hl : lv_has ls 3 [(0, .ref (B + 0)), (1, .int a1)] := hl
  have hS0 : va_S (gA B X) s.heap s.heap [] := va_S.rf
  obtain ⟨μ, cap, hg, hcap, hP⟩ := hW
  obtain ⟨r, hf, Z2, hs2, hP2, hSr⟩ := q μ hP
  refine lv_aload_n hx hb dL_addRoom_0 rfl (lv_at hl 0 rfl) ?_
  refine lv_iload_n hx hb dL_addRoom_1 rfl (lv_at hl 1 rfl) ?_
  refine gs_callXV (As := [.int a1]) F hX hk hC hml hS0 hg (fun X9 hX9 => metX10_addRoom F hX9 is_Ga hf) ml_L_8 (gw_recv hC hg.1 is_Ga.1 (is_Ga.2.2.1 (gfm s0) T B (μ 0)) rfl) ⟨rfl, rfl, (Nat.le_of_ble_eq_true rfl), (Nat.le_of_ble_eq_true rfl)⟩ rfl hl.1 rfl (Nat.le_of_ble_eq_true rfl) dL_addRoom_2 ⟨(Nat.le_of_ble_eq_true rfl), (Nat.le_of_ble_eq_true rfl)⟩ (fun v9 ho H1 locs1 hW1 hS1 => ?_) (fun k9 ho H1 locs1 q9 ce9 hW1 hS1 hce hvm hcl => ?_)
  · obtain ⟨x9, hv9, rfl⟩ := oI_r ho
    exact gr_iret hx hb hr hlocks ⟨Z2, hs2, t, _, hSr, by rw [hv9]; rfl, ⟨r.1, cap, hW1, hcap, hP2⟩⟩ hS1 (Nat.le_of_eq (Nat.zero_add _)) (Nat.le_of_eq (Nat.zero_add _)) dL_addRoom_5
  · have hv9 := oI_l ho
    have hL9 := hL _ _ _ k9 (by have h9 := hSr; rw [hv9] at h9; exact h9)
    rcases hL9 with rfl | rfl
    · refine vx_catch hown [] ⟨0, 5, 6, 14⟩ [⟨0, 5, 9, 16⟩] (htab.trans rfl) (fun z hz => by cases hz) (by decide) (by decide) (hts _ kl_L_14) (FX_cs F hk cs_1) hce hvm hcl ?_
      refine lv_astore_n hx hb dL_addRoom_6 rfl hl (by decide) rfl (fun ls9 hl9 => ?_)
      refine lv_iconst (v := (-1)) hx hb dL_addRoom_7 (by decide) ?_
      exact gr_iret hx hb hr hlocks ⟨Z2, hs2, t, _, hSr, by rw [hv9]; rfl, ⟨r.1, cap, hW1, hcap, hP2⟩⟩ hS1 (Nat.le_of_eq (Nat.zero_add _)) (Nat.le_of_eq (Nat.zero_add _)) dL_addRoom_8
    · refine vx_catch hown [⟨0, 5, 6, 14⟩] ⟨0, 5, 9, 16⟩ [] (htab.trans rfl) (fun z hz => by cases List.mem_singleton.mp hz; exact Or.inr ⟨by decide, _, hts _ kl_L_14, FX_nc F hk nc_2_1⟩) (by decide) (by decide) (hts _ kl_L_16) (FX_cs F hk cs_2) hce hvm hcl ?_
      refine lv_astore_n hx hb dL_addRoom_9 rfl hl (by decide) rfl (fun ls9 hl9 => ?_)
      refine lv_bipush (v := (-2)) hx hb dL_addRoom_10 (by decide) ?_
      exact gr_iret hx hb hr hlocks ⟨Z2, hs2, t, _, hSr, by rw [hv9]; rfl, ⟨r.1, cap, hW1, hcap, hP2⟩⟩ hS1 (Nat.le_of_eq (Nat.zero_add _)) (Nat.le_of_eq (Nat.zero_add _)) dL_addRoom_12
theorem dL_setLeg_0 : decode cL_setLeg 0 = .ok (.aload_n 0, 1) := by decide +kernel
theorem dL_setLeg_1 : decode cL_setLeg 1 = .ok (.iload_n 1, 1) := by decide +kernel
theorem dL_setLeg_2 : decode cL_setLeg 2 = .ok (.iload_n 2, 1) := by decide +kernel
theorem dL_setLeg_3 : decode cL_setLeg 3 = .ok (.iload_n 3, 1) := by decide +kernel
theorem dL_setLeg_4 : decode cL_setLeg 4 = .ok (.iload 4, 2) := by decide +kernel
theorem dL_setLeg_6 : decode cL_setLeg 6 = .ok (.invokevirtual 24, 3) := by decide +kernel
theorem dL_setLeg_9 : decode cL_setLeg 9 = .ok (.ireturn, 1) := by decide +kernel
theorem dL_setLeg_10 : decode cL_setLeg 10 = .ok (.astore 5, 2) := by decide +kernel
theorem dL_setLeg_12 : decode cL_setLeg 12 = .ok (.iconst (-1), 1) := by decide +kernel
theorem dL_setLeg_13 : decode cL_setLeg 13 = .ok (.ireturn, 1) := by decide +kernel
theorem dL_setLeg_14 : decode cL_setLeg 14 = .ok (.astore 5, 2) := by decide +kernel
theorem dL_setLeg_16 : decode cL_setLeg 16 = .ok (.bipush (-2), 2) := by decide +kernel
theorem dL_setLeg_18 : decode cL_setLeg 18 = .ok (.ireturn, 1) := by decide +kernel
theorem ml_L_24 : gMV RL 24 yX10_setLeg cX10_setLeg 5 (some .int) 4 := ⟨⟨wg_t 575 (by decide +kernel) (by decide +kernel), wg_t 578 (by decide +kernel) (by decide +kernel), wg_t 1 (by decide +kernel) (by decide +kernel), by decide +kernel⟩, wg_t 576 (by decide +kernel) (by decide +kernel), wg_t 577 (by decide +kernel) (by decide +kernel)⟩
abbrev hhL_setLeg : List (Nat × Nat × Nat × Nat) := [(0, 9, 10, 22), (0, 9, 14, 14)]
theorem mw_L_201 : gML RL 201 yL_setLeg cL_setLeg 6 hhL_setLeg 5 := ⟨wg_t 551 (by decide +kernel) (by decide +kernel), wg_t 553 (by decide +kernel) (by decide +kernel), wg_t 0 (by decide +kernel) (by decide +kernel), by decide +kernel, wg_t 552 (by decide +kernel) (by decide +kernel)⟩
abbrev rmL_setLeg : Room := { frames := 8, cells := 1, slots := 6, locals := 168 }
set_option maxHeartbeats 4000000 in
set_option maxRecDepth 100000 in
theorem metL_setLeg {l : Launch} {s0 : State} {b B : Nat} {D : va_G} {T : Nat → ClassId} (F : FX l s0 b D T B) {X : Nat → Prop} (hX : ∀ o, o < 561 → ¬ X (B + o)) {N : Nat} {Z : Nat → Int32} {hs : List (Nat → Int32)} {t : List Nat} {a1 : Int32} {a2 : Int32} {a3 : Int32} {a4 : Int32} {S : RSt} (q : ∀ μ : Mem, PZ μ t Z hs → Ok (fX10_setLeg N μ 0 a1 a2 a3 a4) (fun r => ∃ Z2 hs2, PZ r.1 t Z2 hs2 ∧ S Z2 hs2 t (r.2))) (hL : ∀ Z2 hs2 t2 k, S Z2 hs2 t2 (.inl k) → k = 0 ∨ k = 1) : gMetR l yL_setLeg cL_setLeg 6 hhL_setLeg rmL_setLeg [.ref (B + 0), .int a1, .int a2, .int a3, .int a4] (gZ s0 D T B X Z hs t) (KC s0 X) (gRS s0 D T B X S (wr [(0, (-1)), (1, (-2))])) (gA B X) 1 6 := by
  refine gMetR_of RL (by decide +kernel) rfl (Nat.le_of_ble_eq_true rfl) ?_
  intro p e s m below meth c ls hx hb hr hlocks hml hown hts htab hW hk hl hS
  have hC := FX_C F hk hx hb hown hts
  have hl : lv_has ls 6 [(0, .ref (B + 0)), (1, .int a1), (2, .int a2), (3, .int a3), (4, .int a4)] := hl
  have hS0 : va_S (gA B X) s.heap s.heap [] := va_S.rf
  obtain ⟨μ, cap, hg, hcap, hP⟩ := hW
  obtain ⟨r, hf, Z2, hs2, hP2, hSr⟩ := q μ hP
  refine lv_aload_n hx hb dL_setLeg_0 rfl (lv_at hl 0 rfl) ?_
  refine lv_iload_n hx hb dL_setLeg_1 rfl (lv_at hl 1 rfl) ?_
  refine lv_iload_n hx hb dL_setLeg_2 rfl (lv_at hl 2 rfl) ?_
  refine lv_iload_n hx hb dL_setLeg_3 rfl (lv_at hl 3 rfl) ?_
  refine lv_iload hx hb dL_setLeg_4 (lv_at hl 4 rfl) ?_
  refine gs_callXV (As := [.int a1, .int a2, .int a3, .int a4]) F hX hk hC hml hS0 hg (fun X9 hX9 => metX10_setLeg F hX9 is_Ga hf) ml_L_24 (gw_recv hC hg.1 is_Ga.1 (is_Ga.2.2.1 (gfm s0) T B (μ 0)) rfl) ⟨rfl, rfl, (Nat.le_of_ble_eq_true rfl), (Nat.le_of_ble_eq_true rfl)⟩ rfl hl.1 rfl (Nat.le_of_ble_eq_true rfl) dL_setLeg_6 ⟨(Nat.le_of_ble_eq_true rfl), (Nat.le_of_ble_eq_true rfl)⟩ (fun v9 ho H1 locs1 hW1 hS1 => ?_) (fun k9 ho H1 locs1 q9 ce9 hW1 hS1 hce hvm hcl => ?_)
  · obtain ⟨x9, hv9, rfl⟩ := oI_r ho
    exact gr_iret hx hb hr hlocks ⟨Z2, hs2, t, _, hSr, by rw [hv9]; rfl, ⟨r.1, cap, hW1, hcap, hP2⟩⟩ hS1 (Nat.le_of_eq (Nat.zero_add _)) (Nat.le_of_eq (Nat.zero_add _)) dL_setLeg_9
  · have hv9 := oI_l ho
    have hL9 := hL _ _ _ k9 (by have h9 := hSr; rw [hv9] at h9; exact h9)
    rcases hL9 with rfl | rfl
    · refine vx_catch hown [] ⟨0, 9, 10, 22⟩ [⟨0, 9, 14, 14⟩] (htab.trans rfl) (fun z hz => by cases hz) (by decide) (by decide) (hts _ kl_L_22) (FX_cs F hk cs_0) hce hvm hcl ?_
      refine lv_astore hx hb dL_setLeg_10 hl (by decide) rfl (fun ls9 hl9 => ?_)
      refine lv_iconst (v := (-1)) hx hb dL_setLeg_12 (by decide) ?_
      exact gr_iret hx hb hr hlocks ⟨Z2, hs2, t, _, hSr, by rw [hv9]; rfl, ⟨r.1, cap, hW1, hcap, hP2⟩⟩ hS1 (Nat.le_of_eq (Nat.zero_add _)) (Nat.le_of_eq (Nat.zero_add _)) dL_setLeg_13
    · refine vx_catch hown [⟨0, 9, 10, 22⟩] ⟨0, 9, 14, 14⟩ [] (htab.trans rfl) (fun z hz => by cases List.mem_singleton.mp hz; exact Or.inr ⟨by decide, _, hts _ kl_L_22, FX_nc F hk nc_1_0⟩) (by decide) (by decide) (hts _ kl_L_14) (FX_cs F hk cs_1) hce hvm hcl ?_
      refine lv_astore hx hb dL_setLeg_14 hl (by decide) rfl (fun ls9 hl9 => ?_)
      refine lv_bipush (v := (-2)) hx hb dL_setLeg_16 (by decide) ?_
      exact gr_iret hx hb hr hlocks ⟨Z2, hs2, t, _, hSr, by rw [hv9]; rfl, ⟨r.1, cap, hW1, hcap, hP2⟩⟩ hS1 (Nat.le_of_eq (Nat.zero_add _)) (Nat.le_of_eq (Nat.zero_add _)) dL_setLeg_18
theorem dL_addExhibit_0 : decode cL_addExhibit 0 = .ok (.aload_n 0, 1) := by decide +kernel
theorem dL_addExhibit_1 : decode cL_addExhibit 1 = .ok (.iload_n 1, 1) := by decide +kernel
theorem dL_addExhibit_2 : decode cL_addExhibit 2 = .ok (.iload_n 2, 1) := by decide +kernel
theorem dL_addExhibit_3 : decode cL_addExhibit 3 = .ok (.invokevirtual 55, 3) := by decide +kernel
theorem dL_addExhibit_6 : decode cL_addExhibit 6 = .ok (.ireturn, 1) := by decide +kernel
theorem dL_addExhibit_7 : decode cL_addExhibit 7 = .ok (.astore_n 3, 1) := by decide +kernel
theorem dL_addExhibit_8 : decode cL_addExhibit 8 = .ok (.iconst (-1), 1) := by decide +kernel
theorem dL_addExhibit_9 : decode cL_addExhibit 9 = .ok (.ireturn, 1) := by decide +kernel
theorem dL_addExhibit_10 : decode cL_addExhibit 10 = .ok (.astore_n 3, 1) := by decide +kernel
theorem dL_addExhibit_11 : decode cL_addExhibit 11 = .ok (.bipush (-2), 2) := by decide +kernel
theorem dL_addExhibit_13 : decode cL_addExhibit 13 = .ok (.ireturn, 1) := by decide +kernel
theorem dL_addExhibit_14 : decode cL_addExhibit 14 = .ok (.astore_n 3, 1) := by decide +kernel
theorem dL_addExhibit_15 : decode cL_addExhibit 15 = .ok (.bipush (-3), 2) := by decide +kernel
theorem dL_addExhibit_17 : decode cL_addExhibit 17 = .ok (.ireturn, 1) := by decide +kernel
theorem ml_L_55 : gMV RL 55 yX10_addExhibit cX10_addExhibit 3 (some .int) 2 := ⟨⟨wg_t 608 (by decide +kernel) (by decide +kernel), wg_t 611 (by decide +kernel) (by decide +kernel), wg_t 1 (by decide +kernel) (by decide +kernel), by decide +kernel⟩, wg_t 609 (by decide +kernel) (by decide +kernel), wg_t 610 (by decide +kernel) (by decide +kernel)⟩
abbrev hhL_addExhibit : List (Nat × Nat × Nat × Nat) := [(0, 6, 7, 22), (0, 6, 10, 14), (0, 6, 14, 16)]
theorem mw_L_204 : gML RL 204 yL_addExhibit cL_addExhibit 4 hhL_addExhibit 3 := ⟨wg_t 605 (by decide +kernel) (by decide +kernel), wg_t 607 (by decide +kernel) (by decide +kernel), wg_t 0 (by decide +kernel) (by decide +kernel), by decide +kernel, wg_t 606 (by decide +kernel) (by decide +kernel)⟩
abbrev rmL_addExhibit : Room := { frames := 8, cells := 1, slots := 6, locals := 166 }
set_option maxHeartbeats 4000000 in
set_option maxRecDepth 100000 in
theorem metL_addExhibit {l : Launch} {s0 : State} {b B : Nat} {D : va_G} {T : Nat → ClassId} (F : FX l s0 b D T B) {X : Nat → Prop} (hX : ∀ o, o < 561 → ¬ X (B + o)) {N : Nat} {Z : Nat → Int32} {hs : List (Nat → Int32)} {t : List Nat} {a1 : Int32} {a2 : Int32} {S : RSt} (q : ∀ μ : Mem, PZ μ t Z hs → Ok (fX10_addExhibit N μ 0 a1 a2) (fun r => ∃ Z2 hs2, PZ r.1 t Z2 hs2 ∧ S Z2 hs2 t (r.2))) (hL : ∀ Z2 hs2 t2 k, S Z2 hs2 t2 (.inl k) → k = 0 ∨ k = 1 ∨ k = 2) : gMetR l yL_addExhibit cL_addExhibit 4 hhL_addExhibit rmL_addExhibit [.ref (B + 0), .int a1, .int a2] (gZ s0 D T B X Z hs t) (KC s0 X) (gRS s0 D T B X S (wr [(0, (-1)), (1, (-2)), (2, (-3))])) (gA B X) 1 6 := by
  refine gMetR_of RL (by decide +kernel) rfl (Nat.le_of_ble_eq_true rfl) ?_
  intro p e s m below meth c ls hx hb hr hlocks hml hown hts htab hW hk hl hS
  have hC := FX_C F hk hx hb hown hts
  have hl : lv_has ls 4 [(0, .ref (B + 0)), (1, .int a1), (2, .int a2)] := hl
  have hS0 : va_S (gA B X) s.heap s.heap [] := va_S.rf
  obtain ⟨μ, cap, hg, hcap, hP⟩ := hW
  obtain ⟨r, hf, Z2, hs2, hP2, hSr⟩ := q μ hP
  refine lv_aload_n hx hb dL_addExhibit_0 rfl (lv_at hl 0 rfl) ?_
  refine lv_iload_n hx hb dL_addExhibit_1 rfl (lv_at hl 1 rfl) ?_
  refine lv_iload_n hx hb dL_addExhibit_2 rfl (lv_at hl 2 rfl) ?_
  refine gs_callXV (As := [.int a1, .int a2]) F hX hk hC hml hS0 hg (fun X9 hX9 => metX10_addExhibit F hX9 is_Ga hf) ml_L_55 (gw_recv hC hg.1 is_Ga.1 (is_Ga.2.2.1 (gfm s0) T B (μ 0)) rfl) ⟨rfl, rfl, (Nat.le_of_ble_eq_true rfl), (Nat.le_of_ble_eq_true rfl)⟩ rfl hl.1 rfl (Nat.le_of_ble_eq_true rfl) dL_addExhibit_3 ⟨(Nat.le_of_ble_eq_true rfl), (Nat.le_of_ble_eq_true rfl)⟩ (fun v9 ho H1 locs1 hW1 hS1 => ?_) (fun k9 ho H1 locs1 q9 ce9 hW1 hS1 hce hvm hcl => ?_)
  · obtain ⟨x9, hv9, rfl⟩ := oI_r ho
    exact gr_iret hx hb hr hlocks ⟨Z2, hs2, t, _, hSr, by rw [hv9]; rfl, ⟨r.1, cap, hW1, hcap, hP2⟩⟩ hS1 (Nat.le_of_eq (Nat.zero_add _)) (Nat.le_of_eq (Nat.zero_add _)) dL_addExhibit_6
  · have hv9 := oI_l ho
    have hL9 := hL _ _ _ k9 (by have h9 := hSr; rw [hv9] at h9; exact h9)
    rcases hL9 with rfl | rfl | rfl
    · refine vx_catch hown [] ⟨0, 6, 7, 22⟩ [⟨0, 6, 10, 14⟩, ⟨0, 6, 14, 16⟩] (htab.trans rfl) (fun z hz => by cases hz) (by decide) (by decide) (hts _ kl_L_22) (FX_cs F hk cs_0) hce hvm hcl ?_
      refine lv_astore_n hx hb dL_addExhibit_7 rfl hl (by decide) rfl (fun ls9 hl9 => ?_)
      refine lv_iconst (v := (-1)) hx hb dL_addExhibit_8 (by decide) ?_
      exact gr_iret hx hb hr hlocks ⟨Z2, hs2, t, _, hSr, by rw [hv9]; rfl, ⟨r.1, cap, hW1, hcap, hP2⟩⟩ hS1 (Nat.le_of_eq (Nat.zero_add _)) (Nat.le_of_eq (Nat.zero_add _)) dL_addExhibit_9
    · refine vx_catch hown [⟨0, 6, 7, 22⟩] ⟨0, 6, 10, 14⟩ [⟨0, 6, 14, 16⟩] (htab.trans rfl) (fun z hz => by cases List.mem_singleton.mp hz; exact Or.inr ⟨by decide, _, hts _ kl_L_22, FX_nc F hk nc_1_0⟩) (by decide) (by decide) (hts _ kl_L_14) (FX_cs F hk cs_1) hce hvm hcl ?_
      refine lv_astore_n hx hb dL_addExhibit_10 rfl hl (by decide) rfl (fun ls9 hl9 => ?_)
      refine lv_bipush (v := (-2)) hx hb dL_addExhibit_11 (by decide) ?_
      exact gr_iret hx hb hr hlocks ⟨Z2, hs2, t, _, hSr, by rw [hv9]; rfl, ⟨r.1, cap, hW1, hcap, hP2⟩⟩ hS1 (Nat.le_of_eq (Nat.zero_add _)) (Nat.le_of_eq (Nat.zero_add _)) dL_addExhibit_13
    · refine vx_catch hown [⟨0, 6, 7, 22⟩, ⟨0, 6, 10, 14⟩] ⟨0, 6, 14, 16⟩ [] (htab.trans rfl) (fun z hz => by
        rcases List.mem_cons.mp hz with rfl | hz
        · exact Or.inr ⟨by decide, _, hts _ kl_L_22, FX_nc F hk nc_2_0⟩
        · cases List.mem_singleton.mp hz; exact Or.inr ⟨by decide, _, hts _ kl_L_14, FX_nc F hk nc_2_1⟩) (by decide) (by decide) (hts _ kl_L_16) (FX_cs F hk cs_2) hce hvm hcl ?_
      refine lv_astore_n hx hb dL_addExhibit_14 rfl hl (by decide) rfl (fun ls9 hl9 => ?_)
      refine lv_bipush (v := (-3)) hx hb dL_addExhibit_15 (by decide) ?_
      exact gr_iret hx hb hr hlocks ⟨Z2, hs2, t, _, hSr, by rw [hv9]; rfl, ⟨r.1, cap, hW1, hcap, hP2⟩⟩ hS1 (Nat.le_of_eq (Nat.zero_add _)) (Nat.le_of_eq (Nat.zero_add _)) dL_addExhibit_17
theorem dL_drop_0 : decode cL_drop 0 = .ok (.aload_n 0, 1) := by decide +kernel
theorem dL_drop_1 : decode cL_drop 1 = .ok (.iload_n 1, 1) := by decide +kernel
theorem dL_drop_2 : decode cL_drop 2 = .ok (.iload_n 2, 1) := by decide +kernel
theorem dL_drop_3 : decode cL_drop 3 = .ok (.iload_n 3, 1) := by decide +kernel
theorem dL_drop_4 : decode cL_drop 4 = .ok (.iload 4, 2) := by decide +kernel
theorem dL_drop_6 : decode cL_drop 6 = .ok (.invokevirtual 61, 3) := by decide +kernel
theorem dL_drop_9 : decode cL_drop 9 = .ok (.ireturn, 1) := by decide +kernel
theorem dL_drop_10 : decode cL_drop 10 = .ok (.astore 5, 2) := by decide +kernel
theorem dL_drop_12 : decode cL_drop 12 = .ok (.iconst (-1), 1) := by decide +kernel
theorem dL_drop_13 : decode cL_drop 13 = .ok (.ireturn, 1) := by decide +kernel
theorem dL_drop_14 : decode cL_drop 14 = .ok (.astore 5, 2) := by decide +kernel
theorem dL_drop_16 : decode cL_drop 16 = .ok (.bipush (-2), 2) := by decide +kernel
theorem dL_drop_18 : decode cL_drop 18 = .ok (.ireturn, 1) := by decide +kernel
theorem ml_L_61 : gMV RL 61 yX10_drop cX10_drop 5 (some .int) 4 := ⟨⟨wg_t 624 (by decide +kernel) (by decide +kernel), wg_t 627 (by decide +kernel) (by decide +kernel), wg_t 1 (by decide +kernel) (by decide +kernel), by decide +kernel⟩, wg_t 625 (by decide +kernel) (by decide +kernel), wg_t 626 (by decide +kernel) (by decide +kernel)⟩
abbrev hhL_drop : List (Nat × Nat × Nat × Nat) := [(0, 9, 10, 22), (0, 9, 14, 14)]
theorem mw_L_207 : gML RL 207 yL_drop cL_drop 6 hhL_drop 5 := ⟨wg_t 621 (by decide +kernel) (by decide +kernel), wg_t 623 (by decide +kernel) (by decide +kernel), wg_t 0 (by decide +kernel) (by decide +kernel), by decide +kernel, wg_t 622 (by decide +kernel) (by decide +kernel)⟩
abbrev rmL_drop : Room := { frames := 8, cells := 1, slots := 6, locals := 179 }
set_option maxHeartbeats 4000000 in
set_option maxRecDepth 100000 in
theorem metL_drop {l : Launch} {s0 : State} {b B : Nat} {D : va_G} {T : Nat → ClassId} (F : FX l s0 b D T B) {X : Nat → Prop} (hX : ∀ o, o < 561 → ¬ X (B + o)) {N : Nat} {Z : Nat → Int32} {hs : List (Nat → Int32)} {t : List Nat} {a1 : Int32} {a2 : Int32} {a3 : Int32} {a4 : Int32} {S : RSt} (q : ∀ μ : Mem, PZ μ t Z hs → Ok (fX10_drop N μ 0 a1 a2 a3 a4) (fun r => ∃ Z2 hs2, PZ r.1 t Z2 hs2 ∧ S Z2 hs2 t (r.2))) (hL : ∀ Z2 hs2 t2 k, S Z2 hs2 t2 (.inl k) → k = 0 ∨ k = 1) : gMetR l yL_drop cL_drop 6 hhL_drop rmL_drop [.ref (B + 0), .int a1, .int a2, .int a3, .int a4] (gZ s0 D T B X Z hs t) (KC s0 X) (gRS s0 D T B X S (wr [(0, (-1)), (1, (-2))])) (gA B X) 1 6 := by
  refine gMetR_of RL (by decide +kernel) rfl (Nat.le_of_ble_eq_true rfl) ?_
  intro p e s m below meth c ls hx hb hr hlocks hml hown hts htab hW hk hl hS
  have hC := FX_C F hk hx hb hown hts
  have hl : lv_has ls 6 [(0, .ref (B + 0)), (1, .int a1), (2, .int a2), (3, .int a3), (4, .int a4)] := hl
  have hS0 : va_S (gA B X) s.heap s.heap [] := va_S.rf
  obtain ⟨μ, cap, hg, hcap, hP⟩ := hW
  obtain ⟨r, hf, Z2, hs2, hP2, hSr⟩ := q μ hP
  refine lv_aload_n hx hb dL_drop_0 rfl (lv_at hl 0 rfl) ?_
  refine lv_iload_n hx hb dL_drop_1 rfl (lv_at hl 1 rfl) ?_
  refine lv_iload_n hx hb dL_drop_2 rfl (lv_at hl 2 rfl) ?_
  refine lv_iload_n hx hb dL_drop_3 rfl (lv_at hl 3 rfl) ?_
  refine lv_iload hx hb dL_drop_4 (lv_at hl 4 rfl) ?_
  refine gs_callXV (As := [.int a1, .int a2, .int a3, .int a4]) F hX hk hC hml hS0 hg (fun X9 hX9 => metX10_drop F hX9 is_Ga hf) ml_L_61 (gw_recv hC hg.1 is_Ga.1 (is_Ga.2.2.1 (gfm s0) T B (μ 0)) rfl) ⟨rfl, rfl, (Nat.le_of_ble_eq_true rfl), (Nat.le_of_ble_eq_true rfl)⟩ rfl hl.1 rfl (Nat.le_of_ble_eq_true rfl) dL_drop_6 ⟨(Nat.le_of_ble_eq_true rfl), (Nat.le_of_ble_eq_true rfl)⟩ (fun v9 ho H1 locs1 hW1 hS1 => ?_) (fun k9 ho H1 locs1 q9 ce9 hW1 hS1 hce hvm hcl => ?_)
  · obtain ⟨x9, hv9, rfl⟩ := oI_r ho
    exact gr_iret hx hb hr hlocks ⟨Z2, hs2, t, _, hSr, by rw [hv9]; rfl, ⟨r.1, cap, hW1, hcap, hP2⟩⟩ hS1 (Nat.le_of_eq (Nat.zero_add _)) (Nat.le_of_eq (Nat.zero_add _)) dL_drop_9
  · have hv9 := oI_l ho
    have hL9 := hL _ _ _ k9 (by have h9 := hSr; rw [hv9] at h9; exact h9)
    rcases hL9 with rfl | rfl
    · refine vx_catch hown [] ⟨0, 9, 10, 22⟩ [⟨0, 9, 14, 14⟩] (htab.trans rfl) (fun z hz => by cases hz) (by decide) (by decide) (hts _ kl_L_22) (FX_cs F hk cs_0) hce hvm hcl ?_
      refine lv_astore hx hb dL_drop_10 hl (by decide) rfl (fun ls9 hl9 => ?_)
      refine lv_iconst (v := (-1)) hx hb dL_drop_12 (by decide) ?_
      exact gr_iret hx hb hr hlocks ⟨Z2, hs2, t, _, hSr, by rw [hv9]; rfl, ⟨r.1, cap, hW1, hcap, hP2⟩⟩ hS1 (Nat.le_of_eq (Nat.zero_add _)) (Nat.le_of_eq (Nat.zero_add _)) dL_drop_13
    · refine vx_catch hown [⟨0, 9, 10, 22⟩] ⟨0, 9, 14, 14⟩ [] (htab.trans rfl) (fun z hz => by cases List.mem_singleton.mp hz; exact Or.inr ⟨by decide, _, hts _ kl_L_22, FX_nc F hk nc_1_0⟩) (by decide) (by decide) (hts _ kl_L_14) (FX_cs F hk cs_1) hce hvm hcl ?_
      refine lv_astore hx hb dL_drop_14 hl (by decide) rfl (fun ls9 hl9 => ?_)
      refine lv_bipush (v := (-2)) hx hb dL_drop_16 (by decide) ?_
      exact gr_iret hx hb hr hlocks ⟨Z2, hs2, t, _, hSr, by rw [hv9]; rfl, ⟨r.1, cap, hW1, hcap, hP2⟩⟩ hS1 (Nat.le_of_eq (Nat.zero_add _)) (Nat.le_of_eq (Nat.zero_add _)) dL_drop_18
theorem dL_ask_0 : decode cL_ask 0 = .ok (.aload_n 0, 1) := by decide +kernel
theorem dL_ask_1 : decode cL_ask 1 = .ok (.iload_n 1, 1) := by decide +kernel
theorem dL_ask_2 : decode cL_ask 2 = .ok (.iload_n 2, 1) := by decide +kernel
theorem dL_ask_3 : decode cL_ask 3 = .ok (.iload_n 3, 1) := by decide +kernel
theorem dL_ask_4 : decode cL_ask 4 = .ok (.iload 4, 2) := by decide +kernel
theorem dL_ask_6 : decode cL_ask 6 = .ok (.invokevirtual 121, 3) := by decide +kernel
theorem dL_ask_9 : decode cL_ask 9 = .ok (.ireturn, 1) := by decide +kernel
theorem dL_ask_10 : decode cL_ask 10 = .ok (.astore 5, 2) := by decide +kernel
theorem dL_ask_12 : decode cL_ask 12 = .ok (.iconst (-1), 1) := by decide +kernel
theorem dL_ask_13 : decode cL_ask 13 = .ok (.ireturn, 1) := by decide +kernel
theorem dL_ask_14 : decode cL_ask 14 = .ok (.astore 5, 2) := by decide +kernel
theorem dL_ask_16 : decode cL_ask 16 = .ok (.bipush (-2), 2) := by decide +kernel
theorem dL_ask_18 : decode cL_ask 18 = .ok (.ireturn, 1) := by decide +kernel
theorem dL_ask_19 : decode cL_ask 19 = .ok (.astore 5, 2) := by decide +kernel
theorem dL_ask_21 : decode cL_ask 21 = .ok (.bipush (-3), 2) := by decide +kernel
theorem dL_ask_23 : decode cL_ask 23 = .ok (.ireturn, 1) := by decide +kernel
theorem ml_L_121 : gMV RL 121 yX10_ask cX10_ask 5 (some .int) 4 := ⟨⟨wg_t 664 (by decide +kernel) (by decide +kernel), wg_t 667 (by decide +kernel) (by decide +kernel), wg_t 1 (by decide +kernel) (by decide +kernel), by decide +kernel⟩, wg_t 665 (by decide +kernel) (by decide +kernel), wg_t 666 (by decide +kernel) (by decide +kernel)⟩
abbrev hhL_ask : List (Nat × Nat × Nat × Nat) := [(0, 9, 10, 22), (0, 9, 14, 14), (0, 9, 19, 16)]
theorem mw_L_214 : gML RL 214 yL_ask cL_ask 6 hhL_ask 5 := ⟨wg_t 661 (by decide +kernel) (by decide +kernel), wg_t 663 (by decide +kernel) (by decide +kernel), wg_t 0 (by decide +kernel) (by decide +kernel), by decide +kernel, wg_t 662 (by decide +kernel) (by decide +kernel)⟩
abbrev rmL_ask : Room := { frames := 8, cells := 1, slots := 6, locals := 168 }
set_option maxHeartbeats 4000000 in
set_option maxRecDepth 100000 in
theorem metL_ask {l : Launch} {s0 : State} {b B : Nat} {D : va_G} {T : Nat → ClassId} (F : FX l s0 b D T B) {X : Nat → Prop} (hX : ∀ o, o < 561 → ¬ X (B + o)) {N : Nat} {Z : Nat → Int32} {hs : List (Nat → Int32)} {t : List Nat} {a1 : Int32} {a2 : Int32} {a3 : Int32} {a4 : Int32} {S : RSt} (q : ∀ μ : Mem, PZ μ t Z hs → Ok (fX10_ask N μ 0 a1 a2 a3 a4) (fun r => ∃ Z2 hs2, PZ r.1 t Z2 hs2 ∧ S Z2 hs2 t (r.2))) (hL : ∀ Z2 hs2 t2 k, S Z2 hs2 t2 (.inl k) → k = 0 ∨ k = 1 ∨ k = 2) : gMetR l yL_ask cL_ask 6 hhL_ask rmL_ask [.ref (B + 0), .int a1, .int a2, .int a3, .int a4] (gZ s0 D T B X Z hs t) (KC s0 X) (gRS s0 D T B X S (wr [(0, (-1)), (1, (-2)), (2, (-3))])) (gA B X) 1 6 := by
  refine gMetR_of RL (by decide +kernel) rfl (Nat.le_of_ble_eq_true rfl) ?_
  intro p e s m below meth c ls hx hb hr hlocks hml hown hts htab hW hk hl hS
  have hC := FX_C F hk hx hb hown hts
  have hl : lv_has ls 6 [(0, .ref (B + 0)), (1, .int a1), (2, .int a2), (3, .int a3), (4, .int a4)] := hl
  have hS0 : va_S (gA B X) s.heap s.heap [] := va_S.rf
  obtain ⟨μ, cap, hg, hcap, hP⟩ := hW
  obtain ⟨r, hf, Z2, hs2, hP2, hSr⟩ := q μ hP
  refine lv_aload_n hx hb dL_ask_0 rfl (lv_at hl 0 rfl) ?_
  refine lv_iload_n hx hb dL_ask_1 rfl (lv_at hl 1 rfl) ?_
  refine lv_iload_n hx hb dL_ask_2 rfl (lv_at hl 2 rfl) ?_
  refine lv_iload_n hx hb dL_ask_3 rfl (lv_at hl 3 rfl) ?_
  refine lv_iload hx hb dL_ask_4 (lv_at hl 4 rfl) ?_
  refine gs_callXV (As := [.int a1, .int a2, .int a3, .int a4]) F hX hk hC hml hS0 hg (fun X9 hX9 => metX10_ask F hX9 is_Ga hf) ml_L_121 (gw_recv hC hg.1 is_Ga.1 (is_Ga.2.2.1 (gfm s0) T B (μ 0)) rfl) ⟨rfl, rfl, (Nat.le_of_ble_eq_true rfl), (Nat.le_of_ble_eq_true rfl)⟩ rfl hl.1 rfl (Nat.le_of_ble_eq_true rfl) dL_ask_6 ⟨(Nat.le_of_ble_eq_true rfl), (Nat.le_of_ble_eq_true rfl)⟩ (fun v9 ho H1 locs1 hW1 hS1 => ?_) (fun k9 ho H1 locs1 q9 ce9 hW1 hS1 hce hvm hcl => ?_)
  · obtain ⟨x9, hv9, rfl⟩ := oI_r ho
    exact gr_iret hx hb hr hlocks ⟨Z2, hs2, t, _, hSr, by rw [hv9]; rfl, ⟨r.1, cap, hW1, hcap, hP2⟩⟩ hS1 (Nat.le_of_eq (Nat.zero_add _)) (Nat.le_of_eq (Nat.zero_add _)) dL_ask_9
  · have hv9 := oI_l ho
    have hL9 := hL _ _ _ k9 (by have h9 := hSr; rw [hv9] at h9; exact h9)
    rcases hL9 with rfl | rfl | rfl
    · refine vx_catch hown [] ⟨0, 9, 10, 22⟩ [⟨0, 9, 14, 14⟩, ⟨0, 9, 19, 16⟩] (htab.trans rfl) (fun z hz => by cases hz) (by decide) (by decide) (hts _ kl_L_22) (FX_cs F hk cs_0) hce hvm hcl ?_
      refine lv_astore hx hb dL_ask_10 hl (by decide) rfl (fun ls9 hl9 => ?_)
      refine lv_iconst (v := (-1)) hx hb dL_ask_12 (by decide) ?_
      exact gr_iret hx hb hr hlocks ⟨Z2, hs2, t, _, hSr, by rw [hv9]; rfl, ⟨r.1, cap, hW1, hcap, hP2⟩⟩ hS1 (Nat.le_of_eq (Nat.zero_add _)) (Nat.le_of_eq (Nat.zero_add _)) dL_ask_13
    · refine vx_catch hown [⟨0, 9, 10, 22⟩] ⟨0, 9, 14, 14⟩ [⟨0, 9, 19, 16⟩] (htab.trans rfl) (fun z hz => by cases List.mem_singleton.mp hz; exact Or.inr ⟨by decide, _, hts _ kl_L_22, FX_nc F hk nc_1_0⟩) (by decide) (by decide) (hts _ kl_L_14) (FX_cs F hk cs_1) hce hvm hcl ?_
      refine lv_astore hx hb dL_ask_14 hl (by decide) rfl (fun ls9 hl9 => ?_)
      refine lv_bipush (v := (-2)) hx hb dL_ask_16 (by decide) ?_
      exact gr_iret hx hb hr hlocks ⟨Z2, hs2, t, _, hSr, by rw [hv9]; rfl, ⟨r.1, cap, hW1, hcap, hP2⟩⟩ hS1 (Nat.le_of_eq (Nat.zero_add _)) (Nat.le_of_eq (Nat.zero_add _)) dL_ask_18
    · refine vx_catch hown [⟨0, 9, 10, 22⟩, ⟨0, 9, 14, 14⟩] ⟨0, 9, 19, 16⟩ [] (htab.trans rfl) (fun z hz => by
        rcases List.mem_cons.mp hz with rfl | hz
        · exact Or.inr ⟨by decide, _, hts _ kl_L_22, FX_nc F hk nc_2_0⟩
        · cases List.mem_singleton.mp hz; exact Or.inr ⟨by decide, _, hts _ kl_L_14, FX_nc F hk nc_2_1⟩) (by decide) (by decide) (hts _ kl_L_16) (FX_cs F hk cs_2) hce hvm hcl ?_
      refine lv_astore hx hb dL_ask_19 hl (by decide) rfl (fun ls9 hl9 => ?_)
      refine lv_bipush (v := (-3)) hx hb dL_ask_21 (by decide) ?_
      exact gr_iret hx hb hr hlocks ⟨Z2, hs2, t, _, hSr, by rw [hv9]; rfl, ⟨r.1, cap, hW1, hcap, hP2⟩⟩ hS1 (Nat.le_of_eq (Nat.zero_add _)) (Nat.le_of_eq (Nat.zero_add _)) dL_ask_23
theorem dL_take_0 : decode cL_take 0 = .ok (.aload_n 0, 1) := by decide +kernel
theorem dL_take_1 : decode cL_take 1 = .ok (.iload_n 1, 1) := by decide +kernel
theorem dL_take_2 : decode cL_take 2 = .ok (.invokevirtual 124, 3) := by decide +kernel
theorem dL_take_5 : decode cL_take 5 = .ok (.ireturn, 1) := by decide +kernel
theorem dL_take_6 : decode cL_take 6 = .ok (.astore_n 2, 1) := by decide +kernel
theorem dL_take_7 : decode cL_take 7 = .ok (.iconst (-1), 1) := by decide +kernel
theorem dL_take_8 : decode cL_take 8 = .ok (.ireturn, 1) := by decide +kernel
theorem dL_take_9 : decode cL_take 9 = .ok (.astore_n 2, 1) := by decide +kernel
theorem dL_take_10 : decode cL_take 10 = .ok (.bipush (-2), 2) := by decide +kernel
theorem dL_take_12 : decode cL_take 12 = .ok (.ireturn, 1) := by decide +kernel
theorem ml_L_124 : gMV RL 124 yX10_takeBest cX10_takeBest 2 (some .int) 1 := ⟨⟨wg_t 679 (by decide +kernel) (by decide +kernel), wg_t 682 (by decide +kernel) (by decide +kernel), wg_t 1 (by decide +kernel) (by decide +kernel), by decide +kernel⟩, wg_t 680 (by decide +kernel) (by decide +kernel), wg_t 681 (by decide +kernel) (by decide +kernel)⟩
abbrev hhL_take : List (Nat × Nat × Nat × Nat) := [(0, 5, 6, 22), (0, 5, 9, 16)]
theorem mw_L_216 : gML RL 216 yL_take cL_take 3 hhL_take 2 := ⟨wg_t 676 (by decide +kernel) (by decide +kernel), wg_t 678 (by decide +kernel) (by decide +kernel), wg_t 0 (by decide +kernel) (by decide +kernel), by decide +kernel, wg_t 677 (by decide +kernel) (by decide +kernel)⟩
abbrev rmL_take : Room := { frames := 8, cells := 1, slots := 6, locals := 198 }
set_option maxHeartbeats 4000000 in
set_option maxRecDepth 100000 in
theorem metL_take {l : Launch} {s0 : State} {b B : Nat} {D : va_G} {T : Nat → ClassId} (F : FX l s0 b D T B) {X : Nat → Prop} (hX : ∀ o, o < 561 → ¬ X (B + o)) {N : Nat} {Z : Nat → Int32} {hs : List (Nat → Int32)} {t : List Nat} {a1 : Int32} {S : RSt} (q : ∀ μ : Mem, PZ μ t Z hs → Ok (fX10_takeBest N μ 0 a1) (fun r => ∃ Z2 hs2, PZ r.1 t Z2 hs2 ∧ S Z2 hs2 t (r.2))) (hL : ∀ Z2 hs2 t2 k, S Z2 hs2 t2 (.inl k) → k = 0 ∨ k = 2) : gMetR l yL_take cL_take 3 hhL_take rmL_take [.ref (B + 0), .int a1] (gZ s0 D T B X Z hs t) (KC s0 X) (gRS s0 D T B X S (wr [(0, (-1)), (2, (-2))])) (gA B X) 1 6 := by
  refine gMetR_of RL (by decide +kernel) rfl (Nat.le_of_ble_eq_true rfl) ?_
  intro p e s m below meth c ls hx hb hr hlocks hml hown hts htab hW hk hl hS
  have hC := FX_C F hk hx hb hown hts
  have hl : lv_has ls 3 [(0, .ref (B + 0)), (1, .int a1)] := hl
  have hS0 : va_S (gA B X) s.heap s.heap [] := va_S.rf
  obtain ⟨μ, cap, hg, hcap, hP⟩ := hW
  obtain ⟨r, hf, Z2, hs2, hP2, hSr⟩ := q μ hP
  refine lv_aload_n hx hb dL_take_0 rfl (lv_at hl 0 rfl) ?_
  refine lv_iload_n hx hb dL_take_1 rfl (lv_at hl 1 rfl) ?_
  refine gs_callXV (As := [.int a1]) F hX hk hC hml hS0 hg (fun X9 hX9 => metX10_takeBest F hX9 is_Ga hf) ml_L_124 (gw_recv hC hg.1 is_Ga.1 (is_Ga.2.2.1 (gfm s0) T B (μ 0)) rfl) ⟨rfl, rfl, (Nat.le_of_ble_eq_true rfl), (Nat.le_of_ble_eq_true rfl)⟩ rfl hl.1 rfl (Nat.le_of_ble_eq_true rfl) dL_take_2 ⟨(Nat.le_of_ble_eq_true rfl), (Nat.le_of_ble_eq_true rfl)⟩ (fun v9 ho H1 locs1 hW1 hS1 => ?_) (fun k9 ho H1 locs1 q9 ce9 hW1 hS1 hce hvm hcl => ?_)
  · obtain ⟨x9, hv9, rfl⟩ := oI_r ho
    exact gr_iret hx hb hr hlocks ⟨Z2, hs2, t, _, hSr, by rw [hv9]; rfl, ⟨r.1, cap, hW1, hcap, hP2⟩⟩ hS1 (Nat.le_of_eq (Nat.zero_add _)) (Nat.le_of_eq (Nat.zero_add _)) dL_take_5
  · have hv9 := oI_l ho
    have hL9 := hL _ _ _ k9 (by have h9 := hSr; rw [hv9] at h9; exact h9)
    rcases hL9 with rfl | rfl
    · refine vx_catch hown [] ⟨0, 5, 6, 22⟩ [⟨0, 5, 9, 16⟩] (htab.trans rfl) (fun z hz => by cases hz) (by decide) (by decide) (hts _ kl_L_22) (FX_cs F hk cs_0) hce hvm hcl ?_
      refine lv_astore_n hx hb dL_take_6 rfl hl (by decide) rfl (fun ls9 hl9 => ?_)
      refine lv_iconst (v := (-1)) hx hb dL_take_7 (by decide) ?_
      exact gr_iret hx hb hr hlocks ⟨Z2, hs2, t, _, hSr, by rw [hv9]; rfl, ⟨r.1, cap, hW1, hcap, hP2⟩⟩ hS1 (Nat.le_of_eq (Nat.zero_add _)) (Nat.le_of_eq (Nat.zero_add _)) dL_take_8
    · refine vx_catch hown [⟨0, 5, 6, 22⟩] ⟨0, 5, 9, 16⟩ [] (htab.trans rfl) (fun z hz => by cases List.mem_singleton.mp hz; exact Or.inr ⟨by decide, _, hts _ kl_L_22, FX_nc F hk nc_2_0⟩) (by decide) (by decide) (hts _ kl_L_16) (FX_cs F hk cs_2) hce hvm hcl ?_
      refine lv_astore_n hx hb dL_take_9 rfl hl (by decide) rfl (fun ls9 hl9 => ?_)
      refine lv_bipush (v := (-2)) hx hb dL_take_10 (by decide) ?_
      exact gr_iret hx hb hr hlocks ⟨Z2, hs2, t, _, hSr, by rw [hv9]; rfl, ⟨r.1, cap, hW1, hcap, hP2⟩⟩ hS1 (Nat.le_of_eq (Nat.zero_add _)) (Nat.le_of_eq (Nat.zero_add _)) dL_take_12
theorem dL_pass_0 : decode cL_pass 0 = .ok (.aload_n 0, 1) := by decide +kernel
theorem dL_pass_1 : decode cL_pass 1 = .ok (.iload_n 1, 1) := by decide +kernel
theorem dL_pass_2 : decode cL_pass 2 = .ok (.invokevirtual 118, 3) := by decide +kernel
theorem dL_pass_5 : decode cL_pass 5 = .ok (.ireturn, 1) := by decide +kernel
theorem dL_pass_6 : decode cL_pass 6 = .ok (.astore_n 2, 1) := by decide +kernel
theorem dL_pass_7 : decode cL_pass 7 = .ok (.iconst (-1), 1) := by decide +kernel
theorem dL_pass_8 : decode cL_pass 8 = .ok (.ireturn, 1) := by decide +kernel
theorem ml_L_118 : gMV RL 118 yX10_passDays cX10_passDays 2 (some .int) 1 := ⟨⟨wg_t 740 (by decide +kernel) (by decide +kernel), wg_t 743 (by decide +kernel) (by decide +kernel), wg_t 1 (by decide +kernel) (by decide +kernel), by decide +kernel⟩, wg_t 741 (by decide +kernel) (by decide +kernel), wg_t 742 (by decide +kernel) (by decide +kernel)⟩
abbrev hhL_pass : List (Nat × Nat × Nat × Nat) := [(0, 5, 6, 14)]
theorem mw_L_219 : gML RL 219 yL_pass cL_pass 3 hhL_pass 2 := ⟨wg_t 737 (by decide +kernel) (by decide +kernel), wg_t 739 (by decide +kernel) (by decide +kernel), wg_t 0 (by decide +kernel) (by decide +kernel), by decide +kernel, wg_t 738 (by decide +kernel) (by decide +kernel)⟩
abbrev rmL_pass : Room := { frames := 8, cells := 1, slots := 6, locals := 173 }
set_option maxHeartbeats 4000000 in
set_option maxRecDepth 100000 in
theorem metL_pass {l : Launch} {s0 : State} {b B : Nat} {D : va_G} {T : Nat → ClassId} (F : FX l s0 b D T B) {X : Nat → Prop} (hX : ∀ o, o < 561 → ¬ X (B + o)) {N : Nat} {Z : Nat → Int32} {hs : List (Nat → Int32)} {t : List Nat} {a1 : Int32} {S : RSt} (q : ∀ μ : Mem, PZ μ t Z hs → Ok (fX10_passDays N μ 0 a1) (fun r => ∃ Z2 hs2, PZ r.1 t Z2 hs2 ∧ S Z2 hs2 t (r.2))) (hL : ∀ Z2 hs2 t2 k, S Z2 hs2 t2 (.inl k) → k = 1) : gMetR l yL_pass cL_pass 3 hhL_pass rmL_pass [.ref (B + 0), .int a1] (gZ s0 D T B X Z hs t) (KC s0 X) (gRS s0 D T B X S (wr [(1, (-1))])) (gA B X) 1 6 := by
  refine gMetR_of RL (by decide +kernel) rfl (Nat.le_of_ble_eq_true rfl) ?_
  intro p e s m below meth c ls hx hb hr hlocks hml hown hts htab hW hk hl hS
  have hC := FX_C F hk hx hb hown hts
  have hl : lv_has ls 3 [(0, .ref (B + 0)), (1, .int a1)] := hl
  have hS0 : va_S (gA B X) s.heap s.heap [] := va_S.rf
  obtain ⟨μ, cap, hg, hcap, hP⟩ := hW
  obtain ⟨r, hf, Z2, hs2, hP2, hSr⟩ := q μ hP
  refine lv_aload_n hx hb dL_pass_0 rfl (lv_at hl 0 rfl) ?_
  refine lv_iload_n hx hb dL_pass_1 rfl (lv_at hl 1 rfl) ?_
  refine gs_callXV (As := [.int a1]) F hX hk hC hml hS0 hg (fun X9 hX9 => metX10_passDays F hX9 is_Ga hf) ml_L_118 (gw_recv hC hg.1 is_Ga.1 (is_Ga.2.2.1 (gfm s0) T B (μ 0)) rfl) ⟨rfl, rfl, (Nat.le_of_ble_eq_true rfl), (Nat.le_of_ble_eq_true rfl)⟩ rfl hl.1 rfl (Nat.le_of_ble_eq_true rfl) dL_pass_2 ⟨(Nat.le_of_ble_eq_true rfl), (Nat.le_of_ble_eq_true rfl)⟩ (fun v9 ho H1 locs1 hW1 hS1 => ?_) (fun k9 ho H1 locs1 q9 ce9 hW1 hS1 hce hvm hcl => ?_)
  · obtain ⟨x9, hv9, rfl⟩ := oI_r ho
    exact gr_iret hx hb hr hlocks ⟨Z2, hs2, t, _, hSr, by rw [hv9]; rfl, ⟨r.1, cap, hW1, hcap, hP2⟩⟩ hS1 (Nat.le_of_eq (Nat.zero_add _)) (Nat.le_of_eq (Nat.zero_add _)) dL_pass_5
  · have hv9 := oI_l ho
    have hL9 := hL _ _ _ k9 (by have h9 := hSr; rw [hv9] at h9; exact h9)
    subst hL9
    refine vx_catch hown [] ⟨0, 5, 6, 14⟩ [] (htab.trans rfl) (fun z hz => by cases hz) (by decide) (by decide) (hts _ kl_L_14) (FX_cs F hk cs_1) hce hvm hcl ?_
    refine lv_astore_n hx hb dL_pass_6 rfl hl (by decide) rfl (fun ls9 hl9 => ?_)
    refine lv_iconst (v := (-1)) hx hb dL_pass_7 (by decide) ?_
    exact gr_iret hx hb hr hlocks ⟨Z2, hs2, t, _, hSr, by rw [hv9]; rfl, ⟨r.1, cap, hW1, hcap, hP2⟩⟩ hS1 (Nat.le_of_eq (Nat.zero_add _)) (Nat.le_of_eq (Nat.zero_add _)) dL_pass_8
theorem dL_send_0 : decode cL_send 0 = .ok (.aload_n 0, 1) := by decide +kernel
theorem dL_send_1 : decode cL_send 1 = .ok (.iload_n 1, 1) := by decide +kernel
theorem dL_send_2 : decode cL_send 2 = .ok (.iload_n 2, 1) := by decide +kernel
theorem dL_send_3 : decode cL_send 3 = .ok (.invokevirtual 104, 3) := by decide +kernel
theorem dL_send_6 : decode cL_send 6 = .ok (.ireturn, 1) := by decide +kernel
theorem dL_send_7 : decode cL_send 7 = .ok (.astore_n 3, 1) := by decide +kernel
theorem dL_send_8 : decode cL_send 8 = .ok (.iconst (-1), 1) := by decide +kernel
theorem dL_send_9 : decode cL_send 9 = .ok (.ireturn, 1) := by decide +kernel
theorem dL_send_10 : decode cL_send 10 = .ok (.astore_n 3, 1) := by decide +kernel
theorem dL_send_11 : decode cL_send 11 = .ok (.bipush (-2), 2) := by decide +kernel
theorem dL_send_13 : decode cL_send 13 = .ok (.ireturn, 1) := by decide +kernel
theorem ml_L_104 : gMV RL 104 yX10_send cX10_send 3 (some .int) 2 := ⟨⟨wg_t 777 (by decide +kernel) (by decide +kernel), wg_t 780 (by decide +kernel) (by decide +kernel), wg_t 1 (by decide +kernel) (by decide +kernel), by decide +kernel⟩, wg_t 778 (by decide +kernel) (by decide +kernel), wg_t 779 (by decide +kernel) (by decide +kernel)⟩
abbrev hhL_send : List (Nat × Nat × Nat × Nat) := [(0, 6, 7, 22), (0, 6, 10, 107)]
theorem mw_L_222 : gML RL 222 yL_send cL_send 4 hhL_send 3 := ⟨wg_t 773 (by decide +kernel) (by decide +kernel), wg_t 775 (by decide +kernel) (by decide +kernel), wg_t 0 (by decide +kernel) (by decide +kernel), by decide +kernel, wg_t 774 (by decide +kernel) (by decide +kernel)⟩
abbrev rmL_send : Room := { frames := 8, cells := 1, slots := 6, locals := 180 }
set_option maxHeartbeats 4000000 in
set_option maxRecDepth 100000 in
theorem metL_send {l : Launch} {s0 : State} {b B : Nat} {D : va_G} {T : Nat → ClassId} (F : FX l s0 b D T B) {X : Nat → Prop} (hX : ∀ o, o < 561 → ¬ X (B + o)) {N : Nat} {Z : Nat → Int32} {hs : List (Nat → Int32)} {t : List Nat} {a1 : Int32} {a2 : Int32} {S : RSt} (q : ∀ μ : Mem, PZ μ t Z hs → Ok (fX10_send N μ 0 a1 a2) (fun r => ∃ Z2 hs2, PZ r.1 t Z2 hs2 ∧ S Z2 hs2 t (r.2))) (hL : ∀ Z2 hs2 t2 k, S Z2 hs2 t2 (.inl k) → k = 0 ∨ k = 4) : gMetR l yL_send cL_send 4 hhL_send rmL_send [.ref (B + 0), .int a1, .int a2] (gZ s0 D T B X Z hs t) (KC s0 X) (gRS s0 D T B X S (wr [(0, (-1)), (4, (-2))])) (gA B X) 1 6 := by
  refine gMetR_of RL (by decide +kernel) rfl (Nat.le_of_ble_eq_true rfl) ?_
  intro p e s m below meth c ls hx hb hr hlocks hml hown hts htab hW hk hl hS
  have hC := FX_C F hk hx hb hown hts
  have hl : lv_has ls 4 [(0, .ref (B + 0)), (1, .int a1), (2, .int a2)] := hl
  have hS0 : va_S (gA B X) s.heap s.heap [] := va_S.rf
  obtain ⟨μ, cap, hg, hcap, hP⟩ := hW
  obtain ⟨r, hf, Z2, hs2, hP2, hSr⟩ := q μ hP
  refine lv_aload_n hx hb dL_send_0 rfl (lv_at hl 0 rfl) ?_
  refine lv_iload_n hx hb dL_send_1 rfl (lv_at hl 1 rfl) ?_
  refine lv_iload_n hx hb dL_send_2 rfl (lv_at hl 2 rfl) ?_
  refine gs_callXV (As := [.int a1, .int a2]) F hX hk hC hml hS0 hg (fun X9 hX9 => metX10_send F hX9 is_Ga hf) ml_L_104 (gw_recv hC hg.1 is_Ga.1 (is_Ga.2.2.1 (gfm s0) T B (μ 0)) rfl) ⟨rfl, rfl, (Nat.le_of_ble_eq_true rfl), (Nat.le_of_ble_eq_true rfl)⟩ rfl hl.1 rfl (Nat.le_of_ble_eq_true rfl) dL_send_3 ⟨(Nat.le_of_ble_eq_true rfl), (Nat.le_of_ble_eq_true rfl)⟩ (fun v9 ho H1 locs1 hW1 hS1 => ?_) (fun k9 ho H1 locs1 q9 ce9 hW1 hS1 hce hvm hcl => ?_)
  · obtain ⟨x9, hv9, rfl⟩ := oI_r ho
    exact gr_iret hx hb hr hlocks ⟨Z2, hs2, t, _, hSr, by rw [hv9]; rfl, ⟨r.1, cap, hW1, hcap, hP2⟩⟩ hS1 (Nat.le_of_eq (Nat.zero_add _)) (Nat.le_of_eq (Nat.zero_add _)) dL_send_6
  · have hv9 := oI_l ho
    have hL9 := hL _ _ _ k9 (by have h9 := hSr; rw [hv9] at h9; exact h9)
    rcases hL9 with rfl | rfl
    · refine vx_catch hown [] ⟨0, 6, 7, 22⟩ [⟨0, 6, 10, 107⟩] (htab.trans rfl) (fun z hz => by cases hz) (by decide) (by decide) (hts _ kl_L_22) (FX_cs F hk cs_0) hce hvm hcl ?_
      refine lv_astore_n hx hb dL_send_7 rfl hl (by decide) rfl (fun ls9 hl9 => ?_)
      refine lv_iconst (v := (-1)) hx hb dL_send_8 (by decide) ?_
      exact gr_iret hx hb hr hlocks ⟨Z2, hs2, t, _, hSr, by rw [hv9]; rfl, ⟨r.1, cap, hW1, hcap, hP2⟩⟩ hS1 (Nat.le_of_eq (Nat.zero_add _)) (Nat.le_of_eq (Nat.zero_add _)) dL_send_9
    · refine vx_catch hown [⟨0, 6, 7, 22⟩] ⟨0, 6, 10, 107⟩ [] (htab.trans rfl) (fun z hz => by cases List.mem_singleton.mp hz; exact Or.inr ⟨by decide, _, hts _ kl_L_22, FX_nc F hk nc_4_0⟩) (by decide) (by decide) (hts _ kl_L_107) (FX_cs F hk cs_4) hce hvm hcl ?_
      refine lv_astore_n hx hb dL_send_10 rfl hl (by decide) rfl (fun ls9 hl9 => ?_)
      refine lv_bipush (v := (-2)) hx hb dL_send_11 (by decide) ?_
      exact gr_iret hx hb hr hlocks ⟨Z2, hs2, t, _, hSr, by rw [hv9]; rfl, ⟨r.1, cap, hW1, hcap, hP2⟩⟩ hS1 (Nat.le_of_eq (Nat.zero_add _)) (Nat.le_of_eq (Nat.zero_add _)) dL_send_13
theorem dL_legMinutes_0 : decode cL_legMinutes 0 = .ok (.aload_n 0, 1) := by decide +kernel
theorem dL_legMinutes_1 : decode cL_legMinutes 1 = .ok (.iload_n 1, 1) := by decide +kernel
theorem dL_legMinutes_2 : decode cL_legMinutes 2 = .ok (.iload_n 2, 1) := by decide +kernel
theorem dL_legMinutes_3 : decode cL_legMinutes 3 = .ok (.invokevirtual 36, 3) := by decide +kernel
theorem dL_legMinutes_6 : decode cL_legMinutes 6 = .ok (.ireturn, 1) := by decide +kernel
theorem dL_legMinutes_7 : decode cL_legMinutes 7 = .ok (.astore_n 3, 1) := by decide +kernel
theorem dL_legMinutes_8 : decode cL_legMinutes 8 = .ok (.bipush (-11), 2) := by decide +kernel
theorem dL_legMinutes_10 : decode cL_legMinutes 10 = .ok (.ireturn, 1) := by decide +kernel
theorem dL_legMinutes_11 : decode cL_legMinutes 11 = .ok (.astore_n 3, 1) := by decide +kernel
theorem dL_legMinutes_12 : decode cL_legMinutes 12 = .ok (.bipush (-13), 2) := by decide +kernel
theorem dL_legMinutes_14 : decode cL_legMinutes 14 = .ok (.ireturn, 1) := by decide +kernel
theorem ml_L_36 : gMV RL 36 yX10_legMinutes cX10_legMinutes 3 (some .int) 2 := ⟨⟨wg_t 846 (by decide +kernel) (by decide +kernel), wg_t 849 (by decide +kernel) (by decide +kernel), wg_t 1 (by decide +kernel) (by decide +kernel), by decide +kernel⟩, wg_t 847 (by decide +kernel) (by decide +kernel), wg_t 848 (by decide +kernel) (by decide +kernel)⟩
abbrev hhL_legMinutes : List (Nat × Nat × Nat × Nat) := [(0, 6, 7, 22), (0, 6, 11, 31)]
theorem mw_L_253 : gML RL 253 yL_legMinutes cL_legMinutes 4 hhL_legMinutes 3 := ⟨wg_t 842 (by decide +kernel) (by decide +kernel), wg_t 844 (by decide +kernel) (by decide +kernel), wg_t 0 (by decide +kernel) (by decide +kernel), by decide +kernel, wg_t 843 (by decide +kernel) (by decide +kernel)⟩
abbrev rmL_legMinutes : Room := { frames := 8, cells := 1, slots := 6, locals := 162 }
set_option maxHeartbeats 4000000 in
set_option maxRecDepth 100000 in
theorem metL_legMinutes {l : Launch} {s0 : State} {b B : Nat} {D : va_G} {T : Nat → ClassId} (F : FX l s0 b D T B) {X : Nat → Prop} (hX : ∀ o, o < 561 → ¬ X (B + o)) {N : Nat} {Z : Nat → Int32} {hs : List (Nat → Int32)} {t : List Nat} {a1 : Int32} {a2 : Int32} {S : RSt} (q : ∀ μ : Mem, PZ μ t Z hs → Ok (fX10_legMinutes N μ 0 a1 a2) (fun r => ∃ Z2 hs2, PZ r.1 t Z2 hs2 ∧ S Z2 hs2 t (r.2))) (hL : ∀ Z2 hs2 t2 k, S Z2 hs2 t2 (.inl k) → k = 0 ∨ k = 3) : gMetR l yL_legMinutes cL_legMinutes 4 hhL_legMinutes rmL_legMinutes [.ref (B + 0), .int a1, .int a2] (gZ s0 D T B X Z hs t) (KC s0 X) (gRS s0 D T B X S (wr [(0, (-11)), (3, (-13))])) (gA B X) 1 6 := by
  refine gMetR_of RL (by decide +kernel) rfl (Nat.le_of_ble_eq_true rfl) ?_
  intro p e s m below meth c ls hx hb hr hlocks hml hown hts htab hW hk hl hS
  have hC := FX_C F hk hx hb hown hts
  have hl : lv_has ls 4 [(0, .ref (B + 0)), (1, .int a1), (2, .int a2)] := hl
  have hS0 : va_S (gA B X) s.heap s.heap [] := va_S.rf
  obtain ⟨μ, cap, hg, hcap, hP⟩ := hW
  obtain ⟨r, hf, Z2, hs2, hP2, hSr⟩ := q μ hP
  refine lv_aload_n hx hb dL_legMinutes_0 rfl (lv_at hl 0 rfl) ?_
  refine lv_iload_n hx hb dL_legMinutes_1 rfl (lv_at hl 1 rfl) ?_
  refine lv_iload_n hx hb dL_legMinutes_2 rfl (lv_at hl 2 rfl) ?_
  refine gs_callXV (As := [.int a1, .int a2]) F hX hk hC hml hS0 hg (fun X9 hX9 => metX10_legMinutes F hX9 is_Ga hf) ml_L_36 (gw_recv hC hg.1 is_Ga.1 (is_Ga.2.2.1 (gfm s0) T B (μ 0)) rfl) ⟨rfl, rfl, (Nat.le_of_ble_eq_true rfl), (Nat.le_of_ble_eq_true rfl)⟩ rfl hl.1 rfl (Nat.le_of_ble_eq_true rfl) dL_legMinutes_3 ⟨(Nat.le_of_ble_eq_true rfl), (Nat.le_of_ble_eq_true rfl)⟩ (fun v9 ho H1 locs1 hW1 hS1 => ?_) (fun k9 ho H1 locs1 q9 ce9 hW1 hS1 hce hvm hcl => ?_)
  · obtain ⟨x9, hv9, rfl⟩ := oI_r ho
    exact gr_iret hx hb hr hlocks ⟨Z2, hs2, t, _, hSr, by rw [hv9]; rfl, ⟨r.1, cap, hW1, hcap, hP2⟩⟩ hS1 (Nat.le_of_eq (Nat.zero_add _)) (Nat.le_of_eq (Nat.zero_add _)) dL_legMinutes_6
  · have hv9 := oI_l ho
    have hL9 := hL _ _ _ k9 (by have h9 := hSr; rw [hv9] at h9; exact h9)
    rcases hL9 with rfl | rfl
    · refine vx_catch hown [] ⟨0, 6, 7, 22⟩ [⟨0, 6, 11, 31⟩] (htab.trans rfl) (fun z hz => by cases hz) (by decide) (by decide) (hts _ kl_L_22) (FX_cs F hk cs_0) hce hvm hcl ?_
      refine lv_astore_n hx hb dL_legMinutes_7 rfl hl (by decide) rfl (fun ls9 hl9 => ?_)
      refine lv_bipush (v := (-11)) hx hb dL_legMinutes_8 (by decide) ?_
      exact gr_iret hx hb hr hlocks ⟨Z2, hs2, t, _, hSr, by rw [hv9]; rfl, ⟨r.1, cap, hW1, hcap, hP2⟩⟩ hS1 (Nat.le_of_eq (Nat.zero_add _)) (Nat.le_of_eq (Nat.zero_add _)) dL_legMinutes_10
    · refine vx_catch hown [⟨0, 6, 7, 22⟩] ⟨0, 6, 11, 31⟩ [] (htab.trans rfl) (fun z hz => by cases List.mem_singleton.mp hz; exact Or.inr ⟨by decide, _, hts _ kl_L_22, FX_nc F hk nc_3_0⟩) (by decide) (by decide) (hts _ kl_L_31) (FX_cs F hk cs_3) hce hvm hcl ?_
      refine lv_astore_n hx hb dL_legMinutes_11 rfl hl (by decide) rfl (fun ls9 hl9 => ?_)
      refine lv_bipush (v := (-13)) hx hb dL_legMinutes_12 (by decide) ?_
      exact gr_iret hx hb hr hlocks ⟨Z2, hs2, t, _, hSr, by rw [hv9]; rfl, ⟨r.1, cap, hW1, hcap, hP2⟩⟩ hS1 (Nat.le_of_eq (Nat.zero_add _)) (Nat.le_of_eq (Nat.zero_add _)) dL_legMinutes_14
theorem dL_minutes_0 : decode cL_minutes 0 = .ok (.aload_n 0, 1) := by decide +kernel
theorem dL_minutes_1 : decode cL_minutes 1 = .ok (.iload_n 1, 1) := by decide +kernel
theorem dL_minutes_2 : decode cL_minutes 2 = .ok (.iload_n 2, 1) := by decide +kernel
theorem dL_minutes_3 : decode cL_minutes 3 = .ok (.invokevirtual 42, 3) := by decide +kernel
theorem dL_minutes_6 : decode cL_minutes 6 = .ok (.ireturn, 1) := by decide +kernel
theorem dL_minutes_7 : decode cL_minutes 7 = .ok (.astore_n 3, 1) := by decide +kernel
theorem dL_minutes_8 : decode cL_minutes 8 = .ok (.bipush (-11), 2) := by decide +kernel
theorem dL_minutes_10 : decode cL_minutes 10 = .ok (.ireturn, 1) := by decide +kernel
theorem dL_minutes_11 : decode cL_minutes 11 = .ok (.astore_n 3, 1) := by decide +kernel
theorem dL_minutes_12 : decode cL_minutes 12 = .ok (.bipush (-13), 2) := by decide +kernel
theorem dL_minutes_14 : decode cL_minutes 14 = .ok (.ireturn, 1) := by decide +kernel
theorem ml_L_42 : gMV RL 42 yX10_minutes cX10_minutes 3 (some .int) 2 := ⟨⟨wg_t 863 (by decide +kernel) (by decide +kernel), wg_t 866 (by decide +kernel) (by decide +kernel), wg_t 1 (by decide +kernel) (by decide +kernel), by decide +kernel⟩, wg_t 864 (by decide +kernel) (by decide +kernel), wg_t 865 (by decide +kernel) (by decide +kernel)⟩
abbrev hhL_minutes : List (Nat × Nat × Nat × Nat) := [(0, 6, 7, 22), (0, 6, 11, 31)]
theorem mw_L_269 : gML RL 269 yL_minutes cL_minutes 4 hhL_minutes 3 := ⟨wg_t 860 (by decide +kernel) (by decide +kernel), wg_t 862 (by decide +kernel) (by decide +kernel), wg_t 0 (by decide +kernel) (by decide +kernel), by decide +kernel, wg_t 861 (by decide +kernel) (by decide +kernel)⟩
abbrev rmL_minutes : Room := { frames := 8, cells := 2, slots := 12, locals := 162 }
set_option maxHeartbeats 4000000 in
set_option maxRecDepth 100000 in
theorem metL_minutes {l : Launch} {s0 : State} {b B : Nat} {D : va_G} {T : Nat → ClassId} (F : FX l s0 b D T B) {X : Nat → Prop} (hX : ∀ o, o < 561 → ¬ X (B + o)) {N : Nat} {Z : Nat → Int32} {hs : List (Nat → Int32)} {t : List Nat} {a1 : Int32} {a2 : Int32} {S : RSt} (q : ∀ μ : Mem, PZ μ t Z hs → Ok (fX10_minutes N μ 0 a1 a2) (fun r => ∃ Z2 hs2, PZ r.1 t Z2 hs2 ∧ S Z2 hs2 t (r.2))) (hL : ∀ Z2 hs2 t2 k, S Z2 hs2 t2 (.inl k) → k = 0 ∨ k = 3) : gMetR l yL_minutes cL_minutes 4 hhL_minutes rmL_minutes [.ref (B + 0), .int a1, .int a2] (gZ s0 D T B X Z hs t) (KC s0 X) (gRS s0 D T B X S (wr [(0, (-11)), (3, (-13))])) (gA B X) 2 12 := by
  refine gMetR_of RL (by decide +kernel) rfl (Nat.le_of_ble_eq_true rfl) ?_
  intro p e s m below meth c ls hx hb hr hlocks hml hown hts htab hW hk hl hS
  have hC := FX_C F hk hx hb hown hts
  have hl : lv_has ls 4 [(0, .ref (B + 0)), (1, .int a1), (2, .int a2)] := hl
  have hS0 : va_S (gA B X) s.heap s.heap [] := va_S.rf
  obtain ⟨μ, cap, hg, hcap, hP⟩ := hW
  obtain ⟨r, hf, Z2, hs2, hP2, hSr⟩ := q μ hP
  refine lv_aload_n hx hb dL_minutes_0 rfl (lv_at hl 0 rfl) ?_
  refine lv_iload_n hx hb dL_minutes_1 rfl (lv_at hl 1 rfl) ?_
  refine lv_iload_n hx hb dL_minutes_2 rfl (lv_at hl 2 rfl) ?_
  refine gs_callXV (As := [.int a1, .int a2]) F hX hk hC hml hS0 hg (fun X9 hX9 => metX10_minutes F hX9 is_Ga hf) ml_L_42 (gw_recv hC hg.1 is_Ga.1 (is_Ga.2.2.1 (gfm s0) T B (μ 0)) rfl) ⟨rfl, rfl, (Nat.le_of_ble_eq_true rfl), (Nat.le_of_ble_eq_true rfl)⟩ rfl hl.1 rfl (Nat.le_of_ble_eq_true rfl) dL_minutes_3 ⟨(Nat.le_of_ble_eq_true rfl), (Nat.le_of_ble_eq_true rfl)⟩ (fun v9 ho H1 locs1 hW1 hS1 => ?_) (fun k9 ho H1 locs1 q9 ce9 hW1 hS1 hce hvm hcl => ?_)
  · obtain ⟨x9, hv9, rfl⟩ := oI_r ho
    exact gr_iret hx hb hr hlocks ⟨Z2, hs2, t, _, hSr, by rw [hv9]; rfl, ⟨r.1, cap, hW1, hcap, hP2⟩⟩ hS1 (Nat.le_of_eq (Nat.zero_add _)) (Nat.le_of_eq (Nat.zero_add _)) dL_minutes_6
  · have hv9 := oI_l ho
    have hL9 := hL _ _ _ k9 (by have h9 := hSr; rw [hv9] at h9; exact h9)
    rcases hL9 with rfl | rfl
    · refine vx_catch hown [] ⟨0, 6, 7, 22⟩ [⟨0, 6, 11, 31⟩] (htab.trans rfl) (fun z hz => by cases hz) (by decide) (by decide) (hts _ kl_L_22) (FX_cs F hk cs_0) hce hvm hcl ?_
      refine lv_astore_n hx hb dL_minutes_7 rfl hl (by decide) rfl (fun ls9 hl9 => ?_)
      refine lv_bipush (v := (-11)) hx hb dL_minutes_8 (by decide) ?_
      exact gr_iret hx hb hr hlocks ⟨Z2, hs2, t, _, hSr, by rw [hv9]; rfl, ⟨r.1, cap, hW1, hcap, hP2⟩⟩ hS1 (Nat.le_of_eq (Nat.zero_add _)) (Nat.le_of_eq (Nat.zero_add _)) dL_minutes_10
    · refine vx_catch hown [⟨0, 6, 7, 22⟩] ⟨0, 6, 11, 31⟩ [] (htab.trans rfl) (fun z hz => by cases List.mem_singleton.mp hz; exact Or.inr ⟨by decide, _, hts _ kl_L_22, FX_nc F hk nc_3_0⟩) (by decide) (by decide) (hts _ kl_L_31) (FX_cs F hk cs_3) hce hvm hcl ?_
      refine lv_astore_n hx hb dL_minutes_11 rfl hl (by decide) rfl (fun ls9 hl9 => ?_)
      refine lv_bipush (v := (-13)) hx hb dL_minutes_12 (by decide) ?_
      exact gr_iret hx hb hr hlocks ⟨Z2, hs2, t, _, hSr, by rw [hv9]; rfl, ⟨r.1, cap, hW1, hcap, hP2⟩⟩ hS1 (Nat.le_of_eq (Nat.zero_add _)) (Nat.le_of_eq (Nat.zero_add _)) dL_minutes_14
theorem dL_byTable_0 : decode cL_byTable 0 = .ok (.aload_n 0, 1) := by decide +kernel
theorem dL_byTable_1 : decode cL_byTable 1 = .ok (.iload_n 1, 1) := by decide +kernel
theorem dL_byTable_2 : decode cL_byTable 2 = .ok (.iload_n 2, 1) := by decide +kernel
theorem dL_byTable_3 : decode cL_byTable 3 = .ok (.invokevirtual 45, 3) := by decide +kernel
theorem dL_byTable_6 : decode cL_byTable 6 = .ok (.ireturn, 1) := by decide +kernel
theorem dL_byTable_7 : decode cL_byTable 7 = .ok (.astore_n 3, 1) := by decide +kernel
theorem dL_byTable_8 : decode cL_byTable 8 = .ok (.bipush (-11), 2) := by decide +kernel
theorem dL_byTable_10 : decode cL_byTable 10 = .ok (.ireturn, 1) := by decide +kernel
theorem dL_byTable_11 : decode cL_byTable 11 = .ok (.astore_n 3, 1) := by decide +kernel
theorem dL_byTable_12 : decode cL_byTable 12 = .ok (.bipush (-13), 2) := by decide +kernel
theorem dL_byTable_14 : decode cL_byTable 14 = .ok (.ireturn, 1) := by decide +kernel
theorem ml_L_45 : gMV RL 45 yX10_minutesByTable cX10_minutesByTable 3 (some .int) 2 := ⟨⟨wg_t 878 (by decide +kernel) (by decide +kernel), wg_t 881 (by decide +kernel) (by decide +kernel), wg_t 1 (by decide +kernel) (by decide +kernel), by decide +kernel⟩, wg_t 879 (by decide +kernel) (by decide +kernel), wg_t 880 (by decide +kernel) (by decide +kernel)⟩
abbrev hhL_byTable : List (Nat × Nat × Nat × Nat) := [(0, 6, 7, 22), (0, 6, 11, 31)]
theorem mw_L_271 : gML RL 271 yL_byTable cL_byTable 4 hhL_byTable 3 := ⟨wg_t 875 (by decide +kernel) (by decide +kernel), wg_t 877 (by decide +kernel) (by decide +kernel), wg_t 0 (by decide +kernel) (by decide +kernel), by decide +kernel, wg_t 876 (by decide +kernel) (by decide +kernel)⟩
abbrev rmL_byTable : Room := { frames := 8, cells := 2, slots := 12, locals := 162 }
set_option maxHeartbeats 4000000 in
set_option maxRecDepth 100000 in
theorem metL_byTable {l : Launch} {s0 : State} {b B : Nat} {D : va_G} {T : Nat → ClassId} (F : FX l s0 b D T B) {X : Nat → Prop} (hX : ∀ o, o < 561 → ¬ X (B + o)) {N : Nat} {Z : Nat → Int32} {hs : List (Nat → Int32)} {t : List Nat} {a1 : Int32} {a2 : Int32} {S : RSt} (q : ∀ μ : Mem, PZ μ t Z hs → Ok (fX10_minutesByTable N μ 0 a1 a2) (fun r => ∃ Z2 hs2, PZ r.1 t Z2 hs2 ∧ S Z2 hs2 t (r.2))) (hL : ∀ Z2 hs2 t2 k, S Z2 hs2 t2 (.inl k) → k = 0 ∨ k = 3) : gMetR l yL_byTable cL_byTable 4 hhL_byTable rmL_byTable [.ref (B + 0), .int a1, .int a2] (gZ s0 D T B X Z hs t) (KC s0 X) (gRS s0 D T B X S (wr [(0, (-11)), (3, (-13))])) (gA B X) 2 12 := by
  refine gMetR_of RL (by decide +kernel) rfl (Nat.le_of_ble_eq_true rfl) ?_
  intro p e s m below meth c ls hx hb hr hlocks hml hown hts htab hW hk hl hS
  have hC := FX_C F hk hx hb hown hts
  have hl : lv_has ls 4 [(0, .ref (B + 0)), (1, .int a1), (2, .int a2)] := hl
  have hS0 : va_S (gA B X) s.heap s.heap [] := va_S.rf
  obtain ⟨μ, cap, hg, hcap, hP⟩ := hW
  obtain ⟨r, hf, Z2, hs2, hP2, hSr⟩ := q μ hP
  refine lv_aload_n hx hb dL_byTable_0 rfl (lv_at hl 0 rfl) ?_
  refine lv_iload_n hx hb dL_byTable_1 rfl (lv_at hl 1 rfl) ?_
  refine lv_iload_n hx hb dL_byTable_2 rfl (lv_at hl 2 rfl) ?_
  refine gs_callXV (As := [.int a1, .int a2]) F hX hk hC hml hS0 hg (fun X9 hX9 => metX10_minutesByTable F hX9 is_Ga hf) ml_L_45 (gw_recv hC hg.1 is_Ga.1 (is_Ga.2.2.1 (gfm s0) T B (μ 0)) rfl) ⟨rfl, rfl, (Nat.le_of_ble_eq_true rfl), (Nat.le_of_ble_eq_true rfl)⟩ rfl hl.1 rfl (Nat.le_of_ble_eq_true rfl) dL_byTable_3 ⟨(Nat.le_of_ble_eq_true rfl), (Nat.le_of_ble_eq_true rfl)⟩ (fun v9 ho H1 locs1 hW1 hS1 => ?_) (fun k9 ho H1 locs1 q9 ce9 hW1 hS1 hce hvm hcl => ?_)
  · obtain ⟨x9, hv9, rfl⟩ := oI_r ho
    exact gr_iret hx hb hr hlocks ⟨Z2, hs2, t, _, hSr, by rw [hv9]; rfl, ⟨r.1, cap, hW1, hcap, hP2⟩⟩ hS1 (Nat.le_of_eq (Nat.zero_add _)) (Nat.le_of_eq (Nat.zero_add _)) dL_byTable_6
  · have hv9 := oI_l ho
    have hL9 := hL _ _ _ k9 (by have h9 := hSr; rw [hv9] at h9; exact h9)
    rcases hL9 with rfl | rfl
    · refine vx_catch hown [] ⟨0, 6, 7, 22⟩ [⟨0, 6, 11, 31⟩] (htab.trans rfl) (fun z hz => by cases hz) (by decide) (by decide) (hts _ kl_L_22) (FX_cs F hk cs_0) hce hvm hcl ?_
      refine lv_astore_n hx hb dL_byTable_7 rfl hl (by decide) rfl (fun ls9 hl9 => ?_)
      refine lv_bipush (v := (-11)) hx hb dL_byTable_8 (by decide) ?_
      exact gr_iret hx hb hr hlocks ⟨Z2, hs2, t, _, hSr, by rw [hv9]; rfl, ⟨r.1, cap, hW1, hcap, hP2⟩⟩ hS1 (Nat.le_of_eq (Nat.zero_add _)) (Nat.le_of_eq (Nat.zero_add _)) dL_byTable_10
    · refine vx_catch hown [⟨0, 6, 7, 22⟩] ⟨0, 6, 11, 31⟩ [] (htab.trans rfl) (fun z hz => by cases List.mem_singleton.mp hz; exact Or.inr ⟨by decide, _, hts _ kl_L_22, FX_nc F hk nc_3_0⟩) (by decide) (by decide) (hts _ kl_L_31) (FX_cs F hk cs_3) hce hvm hcl ?_
      refine lv_astore_n hx hb dL_byTable_11 rfl hl (by decide) rfl (fun ls9 hl9 => ?_)
      refine lv_bipush (v := (-13)) hx hb dL_byTable_12 (by decide) ?_
      exact gr_iret hx hb hr hlocks ⟨Z2, hs2, t, _, hSr, by rw [hv9]; rfl, ⟨r.1, cap, hW1, hcap, hP2⟩⟩ hS1 (Nat.le_of_eq (Nat.zero_add _)) (Nat.le_of_eq (Nat.zero_add _)) dL_byTable_14
theorem dL_wayLegs_0 : decode cL_wayLegs 0 = .ok (.aload_n 0, 1) := by decide +kernel
theorem dL_wayLegs_1 : decode cL_wayLegs 1 = .ok (.iload_n 1, 1) := by decide +kernel
theorem dL_wayLegs_2 : decode cL_wayLegs 2 = .ok (.iload_n 2, 1) := by decide +kernel
theorem dL_wayLegs_3 : decode cL_wayLegs 3 = .ok (.invokevirtual 48, 3) := by decide +kernel
theorem dL_wayLegs_6 : decode cL_wayLegs 6 = .ok (.ireturn, 1) := by decide +kernel
theorem dL_wayLegs_7 : decode cL_wayLegs 7 = .ok (.astore_n 3, 1) := by decide +kernel
theorem dL_wayLegs_8 : decode cL_wayLegs 8 = .ok (.bipush (-11), 2) := by decide +kernel
theorem dL_wayLegs_10 : decode cL_wayLegs 10 = .ok (.ireturn, 1) := by decide +kernel
theorem dL_wayLegs_11 : decode cL_wayLegs 11 = .ok (.astore_n 3, 1) := by decide +kernel
theorem dL_wayLegs_12 : decode cL_wayLegs 12 = .ok (.bipush (-13), 2) := by decide +kernel
theorem dL_wayLegs_14 : decode cL_wayLegs 14 = .ok (.ireturn, 1) := by decide +kernel
theorem ml_L_48 : gMV RL 48 yX10_wayLegs cX10_wayLegs 3 (some .int) 2 := ⟨⟨wg_t 897 (by decide +kernel) (by decide +kernel), wg_t 900 (by decide +kernel) (by decide +kernel), wg_t 1 (by decide +kernel) (by decide +kernel), by decide +kernel⟩, wg_t 898 (by decide +kernel) (by decide +kernel), wg_t 899 (by decide +kernel) (by decide +kernel)⟩
abbrev hhL_wayLegs : List (Nat × Nat × Nat × Nat) := [(0, 6, 7, 22), (0, 6, 11, 31)]
theorem mw_L_274 : gML RL 274 yL_wayLegs cL_wayLegs 4 hhL_wayLegs 3 := ⟨wg_t 894 (by decide +kernel) (by decide +kernel), wg_t 896 (by decide +kernel) (by decide +kernel), wg_t 0 (by decide +kernel) (by decide +kernel), by decide +kernel, wg_t 895 (by decide +kernel) (by decide +kernel)⟩
abbrev rmL_wayLegs : Room := { frames := 8, cells := 2, slots := 12, locals := 178 }
set_option maxHeartbeats 4000000 in
set_option maxRecDepth 100000 in
theorem metL_wayLegs {l : Launch} {s0 : State} {b B : Nat} {D : va_G} {T : Nat → ClassId} (F : FX l s0 b D T B) {X : Nat → Prop} (hX : ∀ o, o < 561 → ¬ X (B + o)) {N : Nat} {Z : Nat → Int32} {hs : List (Nat → Int32)} {t : List Nat} {a1 : Int32} {a2 : Int32} {S : RSt} (q : ∀ μ : Mem, PZ μ t Z hs → Ok (fX10_wayLegs N μ 0 a1 a2) (fun r => ∃ Z2 hs2, PZ r.1 t Z2 hs2 ∧ S Z2 hs2 t (r.2))) (hL : ∀ Z2 hs2 t2 k, S Z2 hs2 t2 (.inl k) → k = 0 ∨ k = 3) : gMetR l yL_wayLegs cL_wayLegs 4 hhL_wayLegs rmL_wayLegs [.ref (B + 0), .int a1, .int a2] (gZ s0 D T B X Z hs t) (KC s0 X) (gRS s0 D T B X S (wr [(0, (-11)), (3, (-13))])) (gA B X) 2 12 := by
  refine gMetR_of RL (by decide +kernel) rfl (Nat.le_of_ble_eq_true rfl) ?_
  intro p e s m below meth c ls hx hb hr hlocks hml hown hts htab hW hk hl hS
  have hC := FX_C F hk hx hb hown hts
  have hl : lv_has ls 4 [(0, .ref (B + 0)), (1, .int a1), (2, .int a2)] := hl
  have hS0 : va_S (gA B X) s.heap s.heap [] := va_S.rf
  obtain ⟨μ, cap, hg, hcap, hP⟩ := hW
  obtain ⟨r, hf, Z2, hs2, hP2, hSr⟩ := q μ hP
  refine lv_aload_n hx hb dL_wayLegs_0 rfl (lv_at hl 0 rfl) ?_
  refine lv_iload_n hx hb dL_wayLegs_1 rfl (lv_at hl 1 rfl) ?_
  refine lv_iload_n hx hb dL_wayLegs_2 rfl (lv_at hl 2 rfl) ?_
  refine gs_callXV (As := [.int a1, .int a2]) F hX hk hC hml hS0 hg (fun X9 hX9 => metX10_wayLegs F hX9 is_Ga hf) ml_L_48 (gw_recv hC hg.1 is_Ga.1 (is_Ga.2.2.1 (gfm s0) T B (μ 0)) rfl) ⟨rfl, rfl, (Nat.le_of_ble_eq_true rfl), (Nat.le_of_ble_eq_true rfl)⟩ rfl hl.1 rfl (Nat.le_of_ble_eq_true rfl) dL_wayLegs_3 ⟨(Nat.le_of_ble_eq_true rfl), (Nat.le_of_ble_eq_true rfl)⟩ (fun v9 ho H1 locs1 hW1 hS1 => ?_) (fun k9 ho H1 locs1 q9 ce9 hW1 hS1 hce hvm hcl => ?_)
  · obtain ⟨x9, hv9, rfl⟩ := oI_r ho
    exact gr_iret hx hb hr hlocks ⟨Z2, hs2, t, _, hSr, by rw [hv9]; rfl, ⟨r.1, cap, hW1, hcap, hP2⟩⟩ hS1 (Nat.le_of_eq (Nat.zero_add _)) (Nat.le_of_eq (Nat.zero_add _)) dL_wayLegs_6
  · have hv9 := oI_l ho
    have hL9 := hL _ _ _ k9 (by have h9 := hSr; rw [hv9] at h9; exact h9)
    rcases hL9 with rfl | rfl
    · refine vx_catch hown [] ⟨0, 6, 7, 22⟩ [⟨0, 6, 11, 31⟩] (htab.trans rfl) (fun z hz => by cases hz) (by decide) (by decide) (hts _ kl_L_22) (FX_cs F hk cs_0) hce hvm hcl ?_
      refine lv_astore_n hx hb dL_wayLegs_7 rfl hl (by decide) rfl (fun ls9 hl9 => ?_)
      refine lv_bipush (v := (-11)) hx hb dL_wayLegs_8 (by decide) ?_
      exact gr_iret hx hb hr hlocks ⟨Z2, hs2, t, _, hSr, by rw [hv9]; rfl, ⟨r.1, cap, hW1, hcap, hP2⟩⟩ hS1 (Nat.le_of_eq (Nat.zero_add _)) (Nat.le_of_eq (Nat.zero_add _)) dL_wayLegs_10
    · refine vx_catch hown [⟨0, 6, 7, 22⟩] ⟨0, 6, 11, 31⟩ [] (htab.trans rfl) (fun z hz => by cases List.mem_singleton.mp hz; exact Or.inr ⟨by decide, _, hts _ kl_L_22, FX_nc F hk nc_3_0⟩) (by decide) (by decide) (hts _ kl_L_31) (FX_cs F hk cs_3) hce hvm hcl ?_
      refine lv_astore_n hx hb dL_wayLegs_11 rfl hl (by decide) rfl (fun ls9 hl9 => ?_)
      refine lv_bipush (v := (-13)) hx hb dL_wayLegs_12 (by decide) ?_
      exact gr_iret hx hb hr hlocks ⟨Z2, hs2, t, _, hSr, by rw [hv9]; rfl, ⟨r.1, cap, hW1, hcap, hP2⟩⟩ hS1 (Nat.le_of_eq (Nat.zero_add _)) (Nat.le_of_eq (Nat.zero_add _)) dL_wayLegs_14
theorem dL_wayRoom_0 : decode cL_wayRoom 0 = .ok (.aload_n 0, 1) := by decide +kernel
theorem dL_wayRoom_1 : decode cL_wayRoom 1 = .ok (.iload_n 1, 1) := by decide +kernel
theorem dL_wayRoom_2 : decode cL_wayRoom 2 = .ok (.iload_n 2, 1) := by decide +kernel
theorem dL_wayRoom_3 : decode cL_wayRoom 3 = .ok (.iload_n 3, 1) := by decide +kernel
theorem dL_wayRoom_4 : decode cL_wayRoom 4 = .ok (.invokevirtual 51, 3) := by decide +kernel
theorem dL_wayRoom_7 : decode cL_wayRoom 7 = .ok (.ireturn, 1) := by decide +kernel
theorem dL_wayRoom_8 : decode cL_wayRoom 8 = .ok (.astore 4, 2) := by decide +kernel
theorem dL_wayRoom_10 : decode cL_wayRoom 10 = .ok (.bipush (-11), 2) := by decide +kernel
theorem dL_wayRoom_12 : decode cL_wayRoom 12 = .ok (.ireturn, 1) := by decide +kernel
theorem dL_wayRoom_13 : decode cL_wayRoom 13 = .ok (.astore 4, 2) := by decide +kernel
theorem dL_wayRoom_15 : decode cL_wayRoom 15 = .ok (.bipush (-13), 2) := by decide +kernel
theorem dL_wayRoom_17 : decode cL_wayRoom 17 = .ok (.ireturn, 1) := by decide +kernel
theorem ml_L_51 : gMV RL 51 yX10_wayRoom cX10_wayRoom 4 (some .int) 3 := ⟨⟨wg_t 909 (by decide +kernel) (by decide +kernel), wg_t 912 (by decide +kernel) (by decide +kernel), wg_t 1 (by decide +kernel) (by decide +kernel), by decide +kernel⟩, wg_t 910 (by decide +kernel) (by decide +kernel), wg_t 911 (by decide +kernel) (by decide +kernel)⟩
abbrev hhL_wayRoom : List (Nat × Nat × Nat × Nat) := [(0, 7, 8, 22), (0, 7, 13, 31)]
theorem mw_L_279 : gML RL 279 yL_wayRoom cL_wayRoom 5 hhL_wayRoom 4 := ⟨wg_t 906 (by decide +kernel) (by decide +kernel), wg_t 908 (by decide +kernel) (by decide +kernel), wg_t 0 (by decide +kernel) (by decide +kernel), by decide +kernel, wg_t 907 (by decide +kernel) (by decide +kernel)⟩
abbrev rmL_wayRoom : Room := { frames := 8, cells := 3, slots := 18, locals := 179 }
set_option maxHeartbeats 4000000 in
set_option maxRecDepth 100000 in
theorem metL_wayRoom {l : Launch} {s0 : State} {b B : Nat} {D : va_G} {T : Nat → ClassId} (F : FX l s0 b D T B) {X : Nat → Prop} (hX : ∀ o, o < 561 → ¬ X (B + o)) {N : Nat} {Z : Nat → Int32} {hs : List (Nat → Int32)} {t : List Nat} {a1 : Int32} {a2 : Int32} {a3 : Int32} {S : RSt} (q : ∀ μ : Mem, PZ μ t Z hs → Ok (fX10_wayRoom N μ 0 a1 a2 a3) (fun r => ∃ Z2 hs2, PZ r.1 t Z2 hs2 ∧ S Z2 hs2 t (r.2))) (hL : ∀ Z2 hs2 t2 k, S Z2 hs2 t2 (.inl k) → k = 0 ∨ k = 3) : gMetR l yL_wayRoom cL_wayRoom 5 hhL_wayRoom rmL_wayRoom [.ref (B + 0), .int a1, .int a2, .int a3] (gZ s0 D T B X Z hs t) (KC s0 X) (gRS s0 D T B X S (wr [(0, (-11)), (3, (-13))])) (gA B X) 3 18 := by
  refine gMetR_of RL (by decide +kernel) rfl (Nat.le_of_ble_eq_true rfl) ?_
  intro p e s m below meth c ls hx hb hr hlocks hml hown hts htab hW hk hl hS
  have hC := FX_C F hk hx hb hown hts
  have hl : lv_has ls 5 [(0, .ref (B + 0)), (1, .int a1), (2, .int a2), (3, .int a3)] := hl
  have hS0 : va_S (gA B X) s.heap s.heap [] := va_S.rf
  obtain ⟨μ, cap, hg, hcap, hP⟩ := hW
  obtain ⟨r, hf, Z2, hs2, hP2, hSr⟩ := q μ hP
  refine lv_aload_n hx hb dL_wayRoom_0 rfl (lv_at hl 0 rfl) ?_
  refine lv_iload_n hx hb dL_wayRoom_1 rfl (lv_at hl 1 rfl) ?_
  refine lv_iload_n hx hb dL_wayRoom_2 rfl (lv_at hl 2 rfl) ?_
  refine lv_iload_n hx hb dL_wayRoom_3 rfl (lv_at hl 3 rfl) ?_
  refine gs_callXV (As := [.int a1, .int a2, .int a3]) F hX hk hC hml hS0 hg (fun X9 hX9 => metX10_wayRoom F hX9 is_Ga hf) ml_L_51 (gw_recv hC hg.1 is_Ga.1 (is_Ga.2.2.1 (gfm s0) T B (μ 0)) rfl) ⟨rfl, rfl, (Nat.le_of_ble_eq_true rfl), (Nat.le_of_ble_eq_true rfl)⟩ rfl hl.1 rfl (Nat.le_of_ble_eq_true rfl) dL_wayRoom_4 ⟨(Nat.le_of_ble_eq_true rfl), (Nat.le_of_ble_eq_true rfl)⟩ (fun v9 ho H1 locs1 hW1 hS1 => ?_) (fun k9 ho H1 locs1 q9 ce9 hW1 hS1 hce hvm hcl => ?_)
  · obtain ⟨x9, hv9, rfl⟩ := oI_r ho
    exact gr_iret hx hb hr hlocks ⟨Z2, hs2, t, _, hSr, by rw [hv9]; rfl, ⟨r.1, cap, hW1, hcap, hP2⟩⟩ hS1 (Nat.le_of_eq (Nat.zero_add _)) (Nat.le_of_eq (Nat.zero_add _)) dL_wayRoom_7
  · have hv9 := oI_l ho
    have hL9 := hL _ _ _ k9 (by have h9 := hSr; rw [hv9] at h9; exact h9)
    rcases hL9 with rfl | rfl
    · refine vx_catch hown [] ⟨0, 7, 8, 22⟩ [⟨0, 7, 13, 31⟩] (htab.trans rfl) (fun z hz => by cases hz) (by decide) (by decide) (hts _ kl_L_22) (FX_cs F hk cs_0) hce hvm hcl ?_
      refine lv_astore hx hb dL_wayRoom_8 hl (by decide) rfl (fun ls9 hl9 => ?_)
      refine lv_bipush (v := (-11)) hx hb dL_wayRoom_10 (by decide) ?_
      exact gr_iret hx hb hr hlocks ⟨Z2, hs2, t, _, hSr, by rw [hv9]; rfl, ⟨r.1, cap, hW1, hcap, hP2⟩⟩ hS1 (Nat.le_of_eq (Nat.zero_add _)) (Nat.le_of_eq (Nat.zero_add _)) dL_wayRoom_12
    · refine vx_catch hown [⟨0, 7, 8, 22⟩] ⟨0, 7, 13, 31⟩ [] (htab.trans rfl) (fun z hz => by cases List.mem_singleton.mp hz; exact Or.inr ⟨by decide, _, hts _ kl_L_22, FX_nc F hk nc_3_0⟩) (by decide) (by decide) (hts _ kl_L_31) (FX_cs F hk cs_3) hce hvm hcl ?_
      refine lv_astore hx hb dL_wayRoom_13 hl (by decide) rfl (fun ls9 hl9 => ?_)
      refine lv_bipush (v := (-13)) hx hb dL_wayRoom_15 (by decide) ?_
      exact gr_iret hx hb hr hlocks ⟨Z2, hs2, t, _, hSr, by rw [hv9]; rfl, ⟨r.1, cap, hW1, hcap, hP2⟩⟩ hS1 (Nat.le_of_eq (Nat.zero_add _)) (Nat.le_of_eq (Nat.zero_add _)) dL_wayRoom_17
theorem dL_legWarmth_0 : decode cL_legWarmth 0 = .ok (.aload_n 0, 1) := by decide +kernel
theorem dL_legWarmth_1 : decode cL_legWarmth 1 = .ok (.iload_n 1, 1) := by decide +kernel
theorem dL_legWarmth_2 : decode cL_legWarmth 2 = .ok (.iload_n 2, 1) := by decide +kernel
theorem dL_legWarmth_3 : decode cL_legWarmth 3 = .ok (.invokevirtual 39, 3) := by decide +kernel
theorem dL_legWarmth_6 : decode cL_legWarmth 6 = .ok (.ireturn, 1) := by decide +kernel
theorem dL_legWarmth_7 : decode cL_legWarmth 7 = .ok (.astore_n 3, 1) := by decide +kernel
theorem dL_legWarmth_8 : decode cL_legWarmth 8 = .ok (.bipush (-11), 2) := by decide +kernel
theorem dL_legWarmth_10 : decode cL_legWarmth 10 = .ok (.ireturn, 1) := by decide +kernel
theorem dL_legWarmth_11 : decode cL_legWarmth 11 = .ok (.astore_n 3, 1) := by decide +kernel
theorem dL_legWarmth_12 : decode cL_legWarmth 12 = .ok (.bipush (-13), 2) := by decide +kernel
theorem dL_legWarmth_14 : decode cL_legWarmth 14 = .ok (.ireturn, 1) := by decide +kernel
theorem ml_L_39 : gMV RL 39 yX10_legWarmth cX10_legWarmth 3 (some .int) 2 := ⟨⟨wg_t 917 (by decide +kernel) (by decide +kernel), wg_t 920 (by decide +kernel) (by decide +kernel), wg_t 1 (by decide +kernel) (by decide +kernel), by decide +kernel⟩, wg_t 918 (by decide +kernel) (by decide +kernel), wg_t 919 (by decide +kernel) (by decide +kernel)⟩
abbrev hhL_legWarmth : List (Nat × Nat × Nat × Nat) := [(0, 6, 7, 22), (0, 6, 11, 31)]
theorem mw_L_282 : gML RL 282 yL_legWarmth cL_legWarmth 4 hhL_legWarmth 3 := ⟨wg_t 914 (by decide +kernel) (by decide +kernel), wg_t 916 (by decide +kernel) (by decide +kernel), wg_t 0 (by decide +kernel) (by decide +kernel), by decide +kernel, wg_t 915 (by decide +kernel) (by decide +kernel)⟩
abbrev rmL_legWarmth : Room := { frames := 8, cells := 1, slots := 6, locals := 162 }
set_option maxHeartbeats 4000000 in
set_option maxRecDepth 100000 in
theorem metL_legWarmth {l : Launch} {s0 : State} {b B : Nat} {D : va_G} {T : Nat → ClassId} (F : FX l s0 b D T B) {X : Nat → Prop} (hX : ∀ o, o < 561 → ¬ X (B + o)) {N : Nat} {Z : Nat → Int32} {hs : List (Nat → Int32)} {t : List Nat} {a1 : Int32} {a2 : Int32} {S : RSt} (q : ∀ μ : Mem, PZ μ t Z hs → Ok (fX10_legWarmth N μ 0 a1 a2) (fun r => ∃ Z2 hs2, PZ r.1 t Z2 hs2 ∧ S Z2 hs2 t (r.2))) (hL : ∀ Z2 hs2 t2 k, S Z2 hs2 t2 (.inl k) → k = 0 ∨ k = 3) : gMetR l yL_legWarmth cL_legWarmth 4 hhL_legWarmth rmL_legWarmth [.ref (B + 0), .int a1, .int a2] (gZ s0 D T B X Z hs t) (KC s0 X) (gRS s0 D T B X S (wr [(0, (-11)), (3, (-13))])) (gA B X) 1 6 := by
  refine gMetR_of RL (by decide +kernel) rfl (Nat.le_of_ble_eq_true rfl) ?_
  intro p e s m below meth c ls hx hb hr hlocks hml hown hts htab hW hk hl hS
  have hC := FX_C F hk hx hb hown hts
  have hl : lv_has ls 4 [(0, .ref (B + 0)), (1, .int a1), (2, .int a2)] := hl
  have hS0 : va_S (gA B X) s.heap s.heap [] := va_S.rf
  obtain ⟨μ, cap, hg, hcap, hP⟩ := hW
  obtain ⟨r, hf, Z2, hs2, hP2, hSr⟩ := q μ hP
  refine lv_aload_n hx hb dL_legWarmth_0 rfl (lv_at hl 0 rfl) ?_
  refine lv_iload_n hx hb dL_legWarmth_1 rfl (lv_at hl 1 rfl) ?_
  refine lv_iload_n hx hb dL_legWarmth_2 rfl (lv_at hl 2 rfl) ?_
  refine gs_callXV (As := [.int a1, .int a2]) F hX hk hC hml hS0 hg (fun X9 hX9 => metX10_legWarmth F hX9 is_Ga hf) ml_L_39 (gw_recv hC hg.1 is_Ga.1 (is_Ga.2.2.1 (gfm s0) T B (μ 0)) rfl) ⟨rfl, rfl, (Nat.le_of_ble_eq_true rfl), (Nat.le_of_ble_eq_true rfl)⟩ rfl hl.1 rfl (Nat.le_of_ble_eq_true rfl) dL_legWarmth_3 ⟨(Nat.le_of_ble_eq_true rfl), (Nat.le_of_ble_eq_true rfl)⟩ (fun v9 ho H1 locs1 hW1 hS1 => ?_) (fun k9 ho H1 locs1 q9 ce9 hW1 hS1 hce hvm hcl => ?_)
  · obtain ⟨x9, hv9, rfl⟩ := oI_r ho
    exact gr_iret hx hb hr hlocks ⟨Z2, hs2, t, _, hSr, by rw [hv9]; rfl, ⟨r.1, cap, hW1, hcap, hP2⟩⟩ hS1 (Nat.le_of_eq (Nat.zero_add _)) (Nat.le_of_eq (Nat.zero_add _)) dL_legWarmth_6
  · have hv9 := oI_l ho
    have hL9 := hL _ _ _ k9 (by have h9 := hSr; rw [hv9] at h9; exact h9)
    rcases hL9 with rfl | rfl
    · refine vx_catch hown [] ⟨0, 6, 7, 22⟩ [⟨0, 6, 11, 31⟩] (htab.trans rfl) (fun z hz => by cases hz) (by decide) (by decide) (hts _ kl_L_22) (FX_cs F hk cs_0) hce hvm hcl ?_
      refine lv_astore_n hx hb dL_legWarmth_7 rfl hl (by decide) rfl (fun ls9 hl9 => ?_)
      refine lv_bipush (v := (-11)) hx hb dL_legWarmth_8 (by decide) ?_
      exact gr_iret hx hb hr hlocks ⟨Z2, hs2, t, _, hSr, by rw [hv9]; rfl, ⟨r.1, cap, hW1, hcap, hP2⟩⟩ hS1 (Nat.le_of_eq (Nat.zero_add _)) (Nat.le_of_eq (Nat.zero_add _)) dL_legWarmth_10
    · refine vx_catch hown [⟨0, 6, 7, 22⟩] ⟨0, 6, 11, 31⟩ [] (htab.trans rfl) (fun z hz => by cases List.mem_singleton.mp hz; exact Or.inr ⟨by decide, _, hts _ kl_L_22, FX_nc F hk nc_3_0⟩) (by decide) (by decide) (hts _ kl_L_31) (FX_cs F hk cs_3) hce hvm hcl ?_
      refine lv_astore_n hx hb dL_legWarmth_11 rfl hl (by decide) rfl (fun ls9 hl9 => ?_)
      refine lv_bipush (v := (-13)) hx hb dL_legWarmth_12 (by decide) ?_
      exact gr_iret hx hb hr hlocks ⟨Z2, hs2, t, _, hSr, by rw [hv9]; rfl, ⟨r.1, cap, hW1, hcap, hP2⟩⟩ hS1 (Nat.le_of_eq (Nat.zero_add _)) (Nat.le_of_eq (Nat.zero_add _)) dL_legWarmth_14
theorem dL_warmth_0 : decode cL_warmth 0 = .ok (.aload_n 0, 1) := by decide +kernel
theorem dL_warmth_1 : decode cL_warmth 1 = .ok (.iload_n 1, 1) := by decide +kernel
theorem dL_warmth_2 : decode cL_warmth 2 = .ok (.invokevirtual 33, 3) := by decide +kernel
theorem dL_warmth_5 : decode cL_warmth 5 = .ok (.ireturn, 1) := by decide +kernel
theorem dL_warmth_6 : decode cL_warmth 6 = .ok (.astore_n 2, 1) := by decide +kernel
theorem dL_warmth_7 : decode cL_warmth 7 = .ok (.bipush (-11), 2) := by decide +kernel
theorem dL_warmth_9 : decode cL_warmth 9 = .ok (.ireturn, 1) := by decide +kernel
theorem ml_L_33 : gMV RL 33 yX10_warmth cX10_warmth 2 (some .int) 1 := ⟨⟨wg_t 924 (by decide +kernel) (by decide +kernel), wg_t 927 (by decide +kernel) (by decide +kernel), wg_t 1 (by decide +kernel) (by decide +kernel), by decide +kernel⟩, wg_t 925 (by decide +kernel) (by decide +kernel), wg_t 926 (by decide +kernel) (by decide +kernel)⟩
abbrev hhL_warmth : List (Nat × Nat × Nat × Nat) := [(0, 5, 6, 22)]
theorem mw_L_284 : gML RL 284 yL_warmth cL_warmth 3 hhL_warmth 2 := ⟨wg_t 921 (by decide +kernel) (by decide +kernel), wg_t 923 (by decide +kernel) (by decide +kernel), wg_t 0 (by decide +kernel) (by decide +kernel), by decide +kernel, wg_t 922 (by decide +kernel) (by decide +kernel)⟩
abbrev rmL_warmth : Room := { frames := 8, cells := 1, slots := 6, locals := 161 }
set_option maxHeartbeats 4000000 in
set_option maxRecDepth 100000 in
theorem metL_warmth {l : Launch} {s0 : State} {b B : Nat} {D : va_G} {T : Nat → ClassId} (F : FX l s0 b D T B) {X : Nat → Prop} (hX : ∀ o, o < 561 → ¬ X (B + o)) {N : Nat} {Z : Nat → Int32} {hs : List (Nat → Int32)} {t : List Nat} {a1 : Int32} {S : RSt} (q : ∀ μ : Mem, PZ μ t Z hs → Ok (fX10_warmth N μ 0 a1) (fun r => ∃ Z2 hs2, PZ r.1 t Z2 hs2 ∧ S Z2 hs2 t (r.2))) (hL : ∀ Z2 hs2 t2 k, S Z2 hs2 t2 (.inl k) → k = 0) : gMetR l yL_warmth cL_warmth 3 hhL_warmth rmL_warmth [.ref (B + 0), .int a1] (gZ s0 D T B X Z hs t) (KC s0 X) (gRS s0 D T B X S (wr [(0, (-11))])) (gA B X) 1 6 := by
  refine gMetR_of RL (by decide +kernel) rfl (Nat.le_of_ble_eq_true rfl) ?_
  intro p e s m below meth c ls hx hb hr hlocks hml hown hts htab hW hk hl hS
  have hC := FX_C F hk hx hb hown hts
  have hl : lv_has ls 3 [(0, .ref (B + 0)), (1, .int a1)] := hl
  have hS0 : va_S (gA B X) s.heap s.heap [] := va_S.rf
  obtain ⟨μ, cap, hg, hcap, hP⟩ := hW
  obtain ⟨r, hf, Z2, hs2, hP2, hSr⟩ := q μ hP
  refine lv_aload_n hx hb dL_warmth_0 rfl (lv_at hl 0 rfl) ?_
  refine lv_iload_n hx hb dL_warmth_1 rfl (lv_at hl 1 rfl) ?_
  refine gs_callXV (As := [.int a1]) F hX hk hC hml hS0 hg (fun X9 hX9 => metX10_warmth F hX9 is_Ga hf) ml_L_33 (gw_recv hC hg.1 is_Ga.1 (is_Ga.2.2.1 (gfm s0) T B (μ 0)) rfl) ⟨rfl, rfl, (Nat.le_of_ble_eq_true rfl), (Nat.le_of_ble_eq_true rfl)⟩ rfl hl.1 rfl (Nat.le_of_ble_eq_true rfl) dL_warmth_2 ⟨(Nat.le_of_ble_eq_true rfl), (Nat.le_of_ble_eq_true rfl)⟩ (fun v9 ho H1 locs1 hW1 hS1 => ?_) (fun k9 ho H1 locs1 q9 ce9 hW1 hS1 hce hvm hcl => ?_)
  · obtain ⟨x9, hv9, rfl⟩ := oI_r ho
    exact gr_iret hx hb hr hlocks ⟨Z2, hs2, t, _, hSr, by rw [hv9]; rfl, ⟨r.1, cap, hW1, hcap, hP2⟩⟩ hS1 (Nat.le_of_eq (Nat.zero_add _)) (Nat.le_of_eq (Nat.zero_add _)) dL_warmth_5
  · have hv9 := oI_l ho
    have hL9 := hL _ _ _ k9 (by have h9 := hSr; rw [hv9] at h9; exact h9)
    subst hL9
    refine vx_catch hown [] ⟨0, 5, 6, 22⟩ [] (htab.trans rfl) (fun z hz => by cases hz) (by decide) (by decide) (hts _ kl_L_22) (FX_cs F hk cs_0) hce hvm hcl ?_
    refine lv_astore_n hx hb dL_warmth_6 rfl hl (by decide) rfl (fun ls9 hl9 => ?_)
    refine lv_bipush (v := (-11)) hx hb dL_warmth_7 (by decide) ?_
    exact gr_iret hx hb hr hlocks ⟨Z2, hs2, t, _, hSr, by rw [hv9]; rfl, ⟨r.1, cap, hW1, hcap, hP2⟩⟩ hS1 (Nat.le_of_eq (Nat.zero_add _)) (Nat.le_of_eq (Nat.zero_add _)) dL_warmth_9
theorem dL_grains_0 : decode cL_grains 0 = .ok (.aload_n 0, 1) := by decide +kernel
theorem dL_grains_1 : decode cL_grains 1 = .ok (.iload_n 1, 1) := by decide +kernel
theorem dL_grains_2 : decode cL_grains 2 = .ok (.invokevirtual 79, 3) := by decide +kernel
theorem dL_grains_5 : decode cL_grains 5 = .ok (.ireturn, 1) := by decide +kernel
theorem dL_grains_6 : decode cL_grains 6 = .ok (.astore_n 2, 1) := by decide +kernel
theorem dL_grains_7 : decode cL_grains 7 = .ok (.bipush (-11), 2) := by decide +kernel
theorem dL_grains_9 : decode cL_grains 9 = .ok (.ireturn, 1) := by decide +kernel
theorem ml_L_79 : gMV RL 79 yX10_grains cX10_grains 2 (some .int) 1 := ⟨⟨wg_t 960 (by decide +kernel) (by decide +kernel), wg_t 963 (by decide +kernel) (by decide +kernel), wg_t 1 (by decide +kernel) (by decide +kernel), by decide +kernel⟩, wg_t 961 (by decide +kernel) (by decide +kernel), wg_t 962 (by decide +kernel) (by decide +kernel)⟩
abbrev hhL_grains : List (Nat × Nat × Nat × Nat) := [(0, 5, 6, 22)]
theorem mw_L_305 : gML RL 305 yL_grains cL_grains 3 hhL_grains 2 := ⟨wg_t 957 (by decide +kernel) (by decide +kernel), wg_t 959 (by decide +kernel) (by decide +kernel), wg_t 0 (by decide +kernel) (by decide +kernel), by decide +kernel, wg_t 958 (by decide +kernel) (by decide +kernel)⟩
abbrev rmL_grains : Room := { frames := 8, cells := 1, slots := 6, locals := 162 }
set_option maxHeartbeats 4000000 in
set_option maxRecDepth 100000 in
theorem metL_grains {l : Launch} {s0 : State} {b B : Nat} {D : va_G} {T : Nat → ClassId} (F : FX l s0 b D T B) {X : Nat → Prop} (hX : ∀ o, o < 561 → ¬ X (B + o)) {N : Nat} {Z : Nat → Int32} {hs : List (Nat → Int32)} {t : List Nat} {a1 : Int32} {S : RSt} (q : ∀ μ : Mem, PZ μ t Z hs → Ok (fX10_grains N μ 0 a1) (fun r => ∃ Z2 hs2, PZ r.1 t Z2 hs2 ∧ S Z2 hs2 t (r.2))) (hL : ∀ Z2 hs2 t2 k, S Z2 hs2 t2 (.inl k) → k = 0) : gMetR l yL_grains cL_grains 3 hhL_grains rmL_grains [.ref (B + 0), .int a1] (gZ s0 D T B X Z hs t) (KC s0 X) (gRS s0 D T B X S (wr [(0, (-11))])) (gA B X) 1 6 := by
  refine gMetR_of RL (by decide +kernel) rfl (Nat.le_of_ble_eq_true rfl) ?_
  intro p e s m below meth c ls hx hb hr hlocks hml hown hts htab hW hk hl hS
  have hC := FX_C F hk hx hb hown hts
  have hl : lv_has ls 3 [(0, .ref (B + 0)), (1, .int a1)] := hl
  have hS0 : va_S (gA B X) s.heap s.heap [] := va_S.rf
  obtain ⟨μ, cap, hg, hcap, hP⟩ := hW
  obtain ⟨r, hf, Z2, hs2, hP2, hSr⟩ := q μ hP
  refine lv_aload_n hx hb dL_grains_0 rfl (lv_at hl 0 rfl) ?_
  refine lv_iload_n hx hb dL_grains_1 rfl (lv_at hl 1 rfl) ?_
  refine gs_callXV (As := [.int a1]) F hX hk hC hml hS0 hg (fun X9 hX9 => metX10_grains F hX9 is_Ga hf) ml_L_79 (gw_recv hC hg.1 is_Ga.1 (is_Ga.2.2.1 (gfm s0) T B (μ 0)) rfl) ⟨rfl, rfl, (Nat.le_of_ble_eq_true rfl), (Nat.le_of_ble_eq_true rfl)⟩ rfl hl.1 rfl (Nat.le_of_ble_eq_true rfl) dL_grains_2 ⟨(Nat.le_of_ble_eq_true rfl), (Nat.le_of_ble_eq_true rfl)⟩ (fun v9 ho H1 locs1 hW1 hS1 => ?_) (fun k9 ho H1 locs1 q9 ce9 hW1 hS1 hce hvm hcl => ?_)
  · obtain ⟨x9, hv9, rfl⟩ := oI_r ho
    exact gr_iret hx hb hr hlocks ⟨Z2, hs2, t, _, hSr, by rw [hv9]; rfl, ⟨r.1, cap, hW1, hcap, hP2⟩⟩ hS1 (Nat.le_of_eq (Nat.zero_add _)) (Nat.le_of_eq (Nat.zero_add _)) dL_grains_5
  · have hv9 := oI_l ho
    have hL9 := hL _ _ _ k9 (by have h9 := hSr; rw [hv9] at h9; exact h9)
    subst hL9
    refine vx_catch hown [] ⟨0, 5, 6, 22⟩ [] (htab.trans rfl) (fun z hz => by cases hz) (by decide) (by decide) (hts _ kl_L_22) (FX_cs F hk cs_0) hce hvm hcl ?_
    refine lv_astore_n hx hb dL_grains_6 rfl hl (by decide) rfl (fun ls9 hl9 => ?_)
    refine lv_bipush (v := (-11)) hx hb dL_grains_7 (by decide) ?_
    exact gr_iret hx hb hr hlocks ⟨Z2, hs2, t, _, hSr, by rw [hv9]; rfl, ⟨r.1, cap, hW1, hcap, hP2⟩⟩ hS1 (Nat.le_of_eq (Nat.zero_add _)) (Nat.le_of_eq (Nat.zero_add _)) dL_grains_9
theorem dL_dropped_0 : decode cL_dropped 0 = .ok (.aload_n 0, 1) := by decide +kernel
theorem dL_dropped_1 : decode cL_dropped 1 = .ok (.iload_n 1, 1) := by decide +kernel
theorem dL_dropped_2 : decode cL_dropped 2 = .ok (.invokevirtual 95, 3) := by decide +kernel
theorem dL_dropped_5 : decode cL_dropped 5 = .ok (.ireturn, 1) := by decide +kernel
theorem dL_dropped_6 : decode cL_dropped 6 = .ok (.astore_n 2, 1) := by decide +kernel
theorem dL_dropped_7 : decode cL_dropped 7 = .ok (.bipush (-11), 2) := by decide +kernel
theorem dL_dropped_9 : decode cL_dropped 9 = .ok (.ireturn, 1) := by decide +kernel
theorem ml_L_95 : gMV RL 95 yX10_dropped cX10_dropped 2 (some .int) 1 := ⟨⟨wg_t 968 (by decide +kernel) (by decide +kernel), wg_t 971 (by decide +kernel) (by decide +kernel), wg_t 1 (by decide +kernel) (by decide +kernel), by decide +kernel⟩, wg_t 969 (by decide +kernel) (by decide +kernel), wg_t 970 (by decide +kernel) (by decide +kernel)⟩
abbrev hhL_dropped : List (Nat × Nat × Nat × Nat) := [(0, 5, 6, 22)]
theorem mw_L_307 : gML RL 307 yL_dropped cL_dropped 3 hhL_dropped 2 := ⟨wg_t 965 (by decide +kernel) (by decide +kernel), wg_t 967 (by decide +kernel) (by decide +kernel), wg_t 0 (by decide +kernel) (by decide +kernel), by decide +kernel, wg_t 966 (by decide +kernel) (by decide +kernel)⟩
abbrev rmL_dropped : Room := { frames := 8, cells := 1, slots := 6, locals := 162 }
set_option maxHeartbeats 4000000 in
set_option maxRecDepth 100000 in
theorem metL_dropped {l : Launch} {s0 : State} {b B : Nat} {D : va_G} {T : Nat → ClassId} (F : FX l s0 b D T B) {X : Nat → Prop} (hX : ∀ o, o < 561 → ¬ X (B + o)) {N : Nat} {Z : Nat → Int32} {hs : List (Nat → Int32)} {t : List Nat} {a1 : Int32} {S : RSt} (q : ∀ μ : Mem, PZ μ t Z hs → Ok (fX10_dropped N μ 0 a1) (fun r => ∃ Z2 hs2, PZ r.1 t Z2 hs2 ∧ S Z2 hs2 t (r.2))) (hL : ∀ Z2 hs2 t2 k, S Z2 hs2 t2 (.inl k) → k = 0) : gMetR l yL_dropped cL_dropped 3 hhL_dropped rmL_dropped [.ref (B + 0), .int a1] (gZ s0 D T B X Z hs t) (KC s0 X) (gRS s0 D T B X S (wr [(0, (-11))])) (gA B X) 1 6 := by
  refine gMetR_of RL (by decide +kernel) rfl (Nat.le_of_ble_eq_true rfl) ?_
  intro p e s m below meth c ls hx hb hr hlocks hml hown hts htab hW hk hl hS
  have hC := FX_C F hk hx hb hown hts
  have hl : lv_has ls 3 [(0, .ref (B + 0)), (1, .int a1)] := hl
  have hS0 : va_S (gA B X) s.heap s.heap [] := va_S.rf
  obtain ⟨μ, cap, hg, hcap, hP⟩ := hW
  obtain ⟨r, hf, Z2, hs2, hP2, hSr⟩ := q μ hP
  refine lv_aload_n hx hb dL_dropped_0 rfl (lv_at hl 0 rfl) ?_
  refine lv_iload_n hx hb dL_dropped_1 rfl (lv_at hl 1 rfl) ?_
  refine gs_callXV (As := [.int a1]) F hX hk hC hml hS0 hg (fun X9 hX9 => metX10_dropped F hX9 is_Ga hf) ml_L_95 (gw_recv hC hg.1 is_Ga.1 (is_Ga.2.2.1 (gfm s0) T B (μ 0)) rfl) ⟨rfl, rfl, (Nat.le_of_ble_eq_true rfl), (Nat.le_of_ble_eq_true rfl)⟩ rfl hl.1 rfl (Nat.le_of_ble_eq_true rfl) dL_dropped_2 ⟨(Nat.le_of_ble_eq_true rfl), (Nat.le_of_ble_eq_true rfl)⟩ (fun v9 ho H1 locs1 hW1 hS1 => ?_) (fun k9 ho H1 locs1 q9 ce9 hW1 hS1 hce hvm hcl => ?_)
  · obtain ⟨x9, hv9, rfl⟩ := oI_r ho
    exact gr_iret hx hb hr hlocks ⟨Z2, hs2, t, _, hSr, by rw [hv9]; rfl, ⟨r.1, cap, hW1, hcap, hP2⟩⟩ hS1 (Nat.le_of_eq (Nat.zero_add _)) (Nat.le_of_eq (Nat.zero_add _)) dL_dropped_5
  · have hv9 := oI_l ho
    have hL9 := hL _ _ _ k9 (by have h9 := hSr; rw [hv9] at h9; exact h9)
    subst hL9
    refine vx_catch hown [] ⟨0, 5, 6, 22⟩ [] (htab.trans rfl) (fun z hz => by cases hz) (by decide) (by decide) (hts _ kl_L_22) (FX_cs F hk cs_0) hce hvm hcl ?_
    refine lv_astore_n hx hb dL_dropped_6 rfl hl (by decide) rfl (fun ls9 hl9 => ?_)
    refine lv_bipush (v := (-11)) hx hb dL_dropped_7 (by decide) ?_
    exact gr_iret hx hb hr hlocks ⟨Z2, hs2, t, _, hSr, by rw [hv9]; rfl, ⟨r.1, cap, hW1, hcap, hP2⟩⟩ hS1 (Nat.le_of_eq (Nat.zero_add _)) (Nat.le_of_eq (Nat.zero_add _)) dL_dropped_9
theorem dL_spilled_0 : decode cL_spilled 0 = .ok (.aload_n 0, 1) := by decide +kernel
theorem dL_spilled_1 : decode cL_spilled 1 = .ok (.iload_n 1, 1) := by decide +kernel
theorem dL_spilled_2 : decode cL_spilled 2 = .ok (.invokevirtual 98, 3) := by decide +kernel
theorem dL_spilled_5 : decode cL_spilled 5 = .ok (.ireturn, 1) := by decide +kernel
theorem dL_spilled_6 : decode cL_spilled 6 = .ok (.astore_n 2, 1) := by decide +kernel
theorem dL_spilled_7 : decode cL_spilled 7 = .ok (.bipush (-11), 2) := by decide +kernel
theorem dL_spilled_9 : decode cL_spilled 9 = .ok (.ireturn, 1) := by decide +kernel
theorem ml_L_98 : gMV RL 98 yX10_spilled cX10_spilled 2 (some .int) 1 := ⟨⟨wg_t 975 (by decide +kernel) (by decide +kernel), wg_t 978 (by decide +kernel) (by decide +kernel), wg_t 1 (by decide +kernel) (by decide +kernel), by decide +kernel⟩, wg_t 976 (by decide +kernel) (by decide +kernel), wg_t 977 (by decide +kernel) (by decide +kernel)⟩
abbrev hhL_spilled : List (Nat × Nat × Nat × Nat) := [(0, 5, 6, 22)]
theorem mw_L_309 : gML RL 309 yL_spilled cL_spilled 3 hhL_spilled 2 := ⟨wg_t 972 (by decide +kernel) (by decide +kernel), wg_t 974 (by decide +kernel) (by decide +kernel), wg_t 0 (by decide +kernel) (by decide +kernel), by decide +kernel, wg_t 973 (by decide +kernel) (by decide +kernel)⟩
abbrev rmL_spilled : Room := { frames := 8, cells := 1, slots := 6, locals := 162 }
set_option maxHeartbeats 4000000 in
set_option maxRecDepth 100000 in
theorem metL_spilled {l : Launch} {s0 : State} {b B : Nat} {D : va_G} {T : Nat → ClassId} (F : FX l s0 b D T B) {X : Nat → Prop} (hX : ∀ o, o < 561 → ¬ X (B + o)) {N : Nat} {Z : Nat → Int32} {hs : List (Nat → Int32)} {t : List Nat} {a1 : Int32} {S : RSt} (q : ∀ μ : Mem, PZ μ t Z hs → Ok (fX10_spilled N μ 0 a1) (fun r => ∃ Z2 hs2, PZ r.1 t Z2 hs2 ∧ S Z2 hs2 t (r.2))) (hL : ∀ Z2 hs2 t2 k, S Z2 hs2 t2 (.inl k) → k = 0) : gMetR l yL_spilled cL_spilled 3 hhL_spilled rmL_spilled [.ref (B + 0), .int a1] (gZ s0 D T B X Z hs t) (KC s0 X) (gRS s0 D T B X S (wr [(0, (-11))])) (gA B X) 1 6 := by
  refine gMetR_of RL (by decide +kernel) rfl (Nat.le_of_ble_eq_true rfl) ?_
  intro p e s m below meth c ls hx hb hr hlocks hml hown hts htab hW hk hl hS
  have hC := FX_C F hk hx hb hown hts
  have hl : lv_has ls 3 [(0, .ref (B + 0)), (1, .int a1)] := hl
  have hS0 : va_S (gA B X) s.heap s.heap [] := va_S.rf
  obtain ⟨μ, cap, hg, hcap, hP⟩ := hW
  obtain ⟨r, hf, Z2, hs2, hP2, hSr⟩ := q μ hP
  refine lv_aload_n hx hb dL_spilled_0 rfl (lv_at hl 0 rfl) ?_
  refine lv_iload_n hx hb dL_spilled_1 rfl (lv_at hl 1 rfl) ?_
  refine gs_callXV (As := [.int a1]) F hX hk hC hml hS0 hg (fun X9 hX9 => metX10_spilled F hX9 is_Ga hf) ml_L_98 (gw_recv hC hg.1 is_Ga.1 (is_Ga.2.2.1 (gfm s0) T B (μ 0)) rfl) ⟨rfl, rfl, (Nat.le_of_ble_eq_true rfl), (Nat.le_of_ble_eq_true rfl)⟩ rfl hl.1 rfl (Nat.le_of_ble_eq_true rfl) dL_spilled_2 ⟨(Nat.le_of_ble_eq_true rfl), (Nat.le_of_ble_eq_true rfl)⟩ (fun v9 ho H1 locs1 hW1 hS1 => ?_) (fun k9 ho H1 locs1 q9 ce9 hW1 hS1 hce hvm hcl => ?_)
  · obtain ⟨x9, hv9, rfl⟩ := oI_r ho
    exact gr_iret hx hb hr hlocks ⟨Z2, hs2, t, _, hSr, by rw [hv9]; rfl, ⟨r.1, cap, hW1, hcap, hP2⟩⟩ hS1 (Nat.le_of_eq (Nat.zero_add _)) (Nat.le_of_eq (Nat.zero_add _)) dL_spilled_5
  · have hv9 := oI_l ho
    have hL9 := hL _ _ _ k9 (by have h9 := hSr; rw [hv9] at h9; exact h9)
    subst hL9
    refine vx_catch hown [] ⟨0, 5, 6, 22⟩ [] (htab.trans rfl) (fun z hz => by cases hz) (by decide) (by decide) (hts _ kl_L_22) (FX_cs F hk cs_0) hce hvm hcl ?_
    refine lv_astore_n hx hb dL_spilled_6 rfl hl (by decide) rfl (fun ls9 hl9 => ?_)
    refine lv_bipush (v := (-11)) hx hb dL_spilled_7 (by decide) ?_
    exact gr_iret hx hb hr hlocks ⟨Z2, hs2, t, _, hSr, by rw [hv9]; rfl, ⟨r.1, cap, hW1, hcap, hP2⟩⟩ hS1 (Nat.le_of_eq (Nat.zero_add _)) (Nat.le_of_eq (Nat.zero_add _)) dL_spilled_9
theorem dL_melted_0 : decode cL_melted 0 = .ok (.aload_n 0, 1) := by decide +kernel
theorem dL_melted_1 : decode cL_melted 1 = .ok (.iload_n 1, 1) := by decide +kernel
theorem dL_melted_2 : decode cL_melted 2 = .ok (.invokevirtual 101, 3) := by decide +kernel
theorem dL_melted_5 : decode cL_melted 5 = .ok (.ireturn, 1) := by decide +kernel
theorem dL_melted_6 : decode cL_melted 6 = .ok (.astore_n 2, 1) := by decide +kernel
theorem dL_melted_7 : decode cL_melted 7 = .ok (.bipush (-11), 2) := by decide +kernel
theorem dL_melted_9 : decode cL_melted 9 = .ok (.ireturn, 1) := by decide +kernel
theorem ml_L_101 : gMV RL 101 yX10_melted cX10_melted 2 (some .int) 1 := ⟨⟨wg_t 982 (by decide +kernel) (by decide +kernel), wg_t 985 (by decide +kernel) (by decide +kernel), wg_t 1 (by decide +kernel) (by decide +kernel), by decide +kernel⟩, wg_t 983 (by decide +kernel) (by decide +kernel), wg_t 984 (by decide +kernel) (by decide +kernel)⟩
abbrev hhL_melted : List (Nat × Nat × Nat × Nat) := [(0, 5, 6, 22)]
theorem mw_L_311 : gML RL 311 yL_melted cL_melted 3 hhL_melted 2 := ⟨wg_t 979 (by decide +kernel) (by decide +kernel), wg_t 981 (by decide +kernel) (by decide +kernel), wg_t 0 (by decide +kernel) (by decide +kernel), by decide +kernel, wg_t 980 (by decide +kernel) (by decide +kernel)⟩
abbrev rmL_melted : Room := { frames := 8, cells := 1, slots := 6, locals := 162 }
set_option maxHeartbeats 4000000 in
set_option maxRecDepth 100000 in
theorem metL_melted {l : Launch} {s0 : State} {b B : Nat} {D : va_G} {T : Nat → ClassId} (F : FX l s0 b D T B) {X : Nat → Prop} (hX : ∀ o, o < 561 → ¬ X (B + o)) {N : Nat} {Z : Nat → Int32} {hs : List (Nat → Int32)} {t : List Nat} {a1 : Int32} {S : RSt} (q : ∀ μ : Mem, PZ μ t Z hs → Ok (fX10_melted N μ 0 a1) (fun r => ∃ Z2 hs2, PZ r.1 t Z2 hs2 ∧ S Z2 hs2 t (r.2))) (hL : ∀ Z2 hs2 t2 k, S Z2 hs2 t2 (.inl k) → k = 0) : gMetR l yL_melted cL_melted 3 hhL_melted rmL_melted [.ref (B + 0), .int a1] (gZ s0 D T B X Z hs t) (KC s0 X) (gRS s0 D T B X S (wr [(0, (-11))])) (gA B X) 1 6 := by
  refine gMetR_of RL (by decide +kernel) rfl (Nat.le_of_ble_eq_true rfl) ?_
  intro p e s m below meth c ls hx hb hr hlocks hml hown hts htab hW hk hl hS
  have hC := FX_C F hk hx hb hown hts
  have hl : lv_has ls 3 [(0, .ref (B + 0)), (1, .int a1)] := hl
  have hS0 : va_S (gA B X) s.heap s.heap [] := va_S.rf
  obtain ⟨μ, cap, hg, hcap, hP⟩ := hW
  obtain ⟨r, hf, Z2, hs2, hP2, hSr⟩ := q μ hP
  refine lv_aload_n hx hb dL_melted_0 rfl (lv_at hl 0 rfl) ?_
  refine lv_iload_n hx hb dL_melted_1 rfl (lv_at hl 1 rfl) ?_
  refine gs_callXV (As := [.int a1]) F hX hk hC hml hS0 hg (fun X9 hX9 => metX10_melted F hX9 is_Ga hf) ml_L_101 (gw_recv hC hg.1 is_Ga.1 (is_Ga.2.2.1 (gfm s0) T B (μ 0)) rfl) ⟨rfl, rfl, (Nat.le_of_ble_eq_true rfl), (Nat.le_of_ble_eq_true rfl)⟩ rfl hl.1 rfl (Nat.le_of_ble_eq_true rfl) dL_melted_2 ⟨(Nat.le_of_ble_eq_true rfl), (Nat.le_of_ble_eq_true rfl)⟩ (fun v9 ho H1 locs1 hW1 hS1 => ?_) (fun k9 ho H1 locs1 q9 ce9 hW1 hS1 hce hvm hcl => ?_)
  · obtain ⟨x9, hv9, rfl⟩ := oI_r ho
    exact gr_iret hx hb hr hlocks ⟨Z2, hs2, t, _, hSr, by rw [hv9]; rfl, ⟨r.1, cap, hW1, hcap, hP2⟩⟩ hS1 (Nat.le_of_eq (Nat.zero_add _)) (Nat.le_of_eq (Nat.zero_add _)) dL_melted_5
  · have hv9 := oI_l ho
    have hL9 := hL _ _ _ k9 (by have h9 := hSr; rw [hv9] at h9; exact h9)
    subst hL9
    refine vx_catch hown [] ⟨0, 5, 6, 22⟩ [] (htab.trans rfl) (fun z hz => by cases hz) (by decide) (by decide) (hts _ kl_L_22) (FX_cs F hk cs_0) hce hvm hcl ?_
    refine lv_astore_n hx hb dL_melted_6 rfl hl (by decide) rfl (fun ls9 hl9 => ?_)
    refine lv_bipush (v := (-11)) hx hb dL_melted_7 (by decide) ?_
    exact gr_iret hx hb hr hlocks ⟨Z2, hs2, t, _, hSr, by rw [hv9]; rfl, ⟨r.1, cap, hW1, hcap, hP2⟩⟩ hS1 (Nat.le_of_eq (Nat.zero_add _)) (Nat.le_of_eq (Nat.zero_add _)) dL_melted_9
theorem dL_lasts_0 : decode cL_lasts 0 = .ok (.aload_n 0, 1) := by decide +kernel
theorem dL_lasts_1 : decode cL_lasts 1 = .ok (.iload_n 1, 1) := by decide +kernel
theorem dL_lasts_2 : decode cL_lasts 2 = .ok (.invokevirtual 82, 3) := by decide +kernel
theorem dL_lasts_5 : decode cL_lasts 5 = .ok (.ifCond .eq 7, 3) := by decide +kernel
theorem dL_lasts_8 : decode cL_lasts 8 = .ok (.iconst 1, 1) := by decide +kernel
theorem dL_lasts_9 : decode cL_lasts 9 = .ok (.goto 4, 3) := by decide +kernel
theorem dL_lasts_12 : decode cL_lasts 12 = .ok (.iconst 0, 1) := by decide +kernel
theorem dL_lasts_13 : decode cL_lasts 13 = .ok (.ireturn, 1) := by decide +kernel
theorem dL_lasts_14 : decode cL_lasts 14 = .ok (.astore_n 2, 1) := by decide +kernel
theorem dL_lasts_15 : decode cL_lasts 15 = .ok (.bipush (-11), 2) := by decide +kernel
theorem dL_lasts_17 : decode cL_lasts 17 = .ok (.ireturn, 1) := by decide +kernel
theorem ml_L_82 : gMV RL 82 yX10_lasts cX10_lasts 2 (some .boolean) 1 := ⟨⟨wg_t 989 (by decide +kernel) (by decide +kernel), wg_t 992 (by decide +kernel) (by decide +kernel), wg_t 1 (by decide +kernel) (by decide +kernel), by decide +kernel⟩, wg_t 990 (by decide +kernel) (by decide +kernel), wg_t 991 (by decide +kernel) (by decide +kernel)⟩
abbrev hhL_lasts : List (Nat × Nat × Nat × Nat) := [(0, 13, 14, 22)]
theorem mw_L_313 : gML RL 313 yL_lasts cL_lasts 3 hhL_lasts 2 := ⟨wg_t 986 (by decide +kernel) (by decide +kernel), wg_t 988 (by decide +kernel) (by decide +kernel), wg_t 0 (by decide +kernel) (by decide +kernel), by decide +kernel, wg_t 987 (by decide +kernel) (by decide +kernel)⟩
abbrev rmL_lasts : Room := { frames := 8, cells := 1, slots := 6, locals := 162 }
set_option maxHeartbeats 4000000 in
set_option maxRecDepth 100000 in
theorem metL_lasts {l : Launch} {s0 : State} {b B : Nat} {D : va_G} {T : Nat → ClassId} (F : FX l s0 b D T B) {X : Nat → Prop} (hX : ∀ o, o < 561 → ¬ X (B + o)) {N : Nat} {Z : Nat → Int32} {hs : List (Nat → Int32)} {t : List Nat} {a1 : Int32} {S : RSt} (q : ∀ μ : Mem, PZ μ t Z hs → Ok (fX10_lasts N μ 0 a1) (fun r => ∃ Z2 hs2, PZ r.1 t Z2 hs2 ∧ S Z2 hs2 t (oB r.2))) (hL : ∀ Z2 hs2 t2 k, S Z2 hs2 t2 (.inl k) → k = 0) : gMetR l yL_lasts cL_lasts 3 hhL_lasts rmL_lasts [.ref (B + 0), .int a1] (gZ s0 D T B X Z hs t) (KC s0 X) (gRS s0 D T B X S (wr [(0, (-11))])) (gA B X) 1 6 := by
  refine gMetR_of RL (by decide +kernel) rfl (Nat.le_of_ble_eq_true rfl) ?_
  intro p e s m below meth c ls hx hb hr hlocks hml hown hts htab hW hk hl hS
  have hC := FX_C F hk hx hb hown hts
  have hl : lv_has ls 3 [(0, .ref (B + 0)), (1, .int a1)] := hl
  have hS0 : va_S (gA B X) s.heap s.heap [] := va_S.rf
  obtain ⟨μ, cap, hg, hcap, hP⟩ := hW
  obtain ⟨r, hf, Z2, hs2, hP2, hSr⟩ := q μ hP
  refine lv_aload_n hx hb dL_lasts_0 rfl (lv_at hl 0 rfl) ?_
  refine lv_iload_n hx hb dL_lasts_1 rfl (lv_at hl 1 rfl) ?_
  refine gs_callXV (As := [.int a1]) F hX hk hC hml hS0 hg (fun X9 hX9 => metX10_lasts F hX9 is_Ga hf) ml_L_82 (gw_recv hC hg.1 is_Ga.1 (is_Ga.2.2.1 (gfm s0) T B (μ 0)) rfl) ⟨rfl, rfl, (Nat.le_of_ble_eq_true rfl), (Nat.le_of_ble_eq_true rfl)⟩ rfl hl.1 rfl (Nat.le_of_ble_eq_true rfl) dL_lasts_2 ⟨(Nat.le_of_ble_eq_true rfl), (Nat.le_of_ble_eq_true rfl)⟩ (fun v9 ho H1 locs1 hW1 hS1 => ?_) (fun k9 ho H1 locs1 q9 ce9 hW1 hS1 hce hvm hcl => ?_)
  · obtain ⟨x9, hv9, rfl⟩ := oZ_r ho
    refine gw_if_eqZ (tgt := 12) hx hb dL_lasts_5 (by decide) (fun c9 => ?_) (fun c9 => ?_)
    · cases c9
      refine lv_iconst (v := 0) hx hb dL_lasts_12 (by decide) ?_
      exact gr_iret hx hb hr hlocks ⟨Z2, hs2, t, _, hSr, by rw [hv9]; rfl, ⟨r.1, cap, hW1, hcap, hP2⟩⟩ hS1 (Nat.le_of_eq (Nat.zero_add _)) (Nat.le_of_eq (Nat.zero_add _)) dL_lasts_13
    · cases c9
      refine lv_iconst (v := 1) hx hb dL_lasts_8 (by decide) ?_
      refine lv_goto (tgt := 13) hx hb dL_lasts_9 (by decide) ?_
      exact gr_iret hx hb hr hlocks ⟨Z2, hs2, t, _, hSr, by rw [hv9]; rfl, ⟨r.1, cap, hW1, hcap, hP2⟩⟩ hS1 (Nat.le_of_eq (Nat.zero_add _)) (Nat.le_of_eq (Nat.zero_add _)) dL_lasts_13
  · have hv9 := oZ_l ho
    have hL9 := hL _ _ _ k9 (by have h9 := hSr; rw [hv9] at h9; exact h9)
    subst hL9
    refine vx_catch hown [] ⟨0, 13, 14, 22⟩ [] (htab.trans rfl) (fun z hz => by cases hz) (by decide) (by decide) (hts _ kl_L_22) (FX_cs F hk cs_0) hce hvm hcl ?_
    refine lv_astore_n hx hb dL_lasts_14 rfl hl (by decide) rfl (fun ls9 hl9 => ?_)
    refine lv_bipush (v := (-11)) hx hb dL_lasts_15 (by decide) ?_
    exact gr_iret hx hb hr hlocks ⟨Z2, hs2, t, _, hSr, by rw [hv9]; rfl, ⟨r.1, cap, hW1, hcap, hP2⟩⟩ hS1 (Nat.le_of_eq (Nat.zero_add _)) (Nat.le_of_eq (Nat.zero_add _)) dL_lasts_17
theorem dL_byToppling_0 : decode cL_byToppling 0 = .ok (.aload_n 0, 1) := by decide +kernel
theorem dL_byToppling_1 : decode cL_byToppling 1 = .ok (.iload_n 1, 1) := by decide +kernel
theorem dL_byToppling_2 : decode cL_byToppling 2 = .ok (.invokevirtual 86, 3) := by decide +kernel
theorem dL_byToppling_5 : decode cL_byToppling 5 = .ok (.ifCond .eq 7, 3) := by decide +kernel
theorem dL_byToppling_8 : decode cL_byToppling 8 = .ok (.iconst 1, 1) := by decide +kernel
theorem dL_byToppling_9 : decode cL_byToppling 9 = .ok (.goto 4, 3) := by decide +kernel
theorem dL_byToppling_12 : decode cL_byToppling 12 = .ok (.iconst 0, 1) := by decide +kernel
theorem dL_byToppling_13 : decode cL_byToppling 13 = .ok (.ireturn, 1) := by decide +kernel
theorem dL_byToppling_14 : decode cL_byToppling 14 = .ok (.astore_n 2, 1) := by decide +kernel
theorem dL_byToppling_15 : decode cL_byToppling 15 = .ok (.bipush (-11), 2) := by decide +kernel
theorem dL_byToppling_17 : decode cL_byToppling 17 = .ok (.ireturn, 1) := by decide +kernel
theorem ml_L_86 : gMV RL 86 yX10_lastsByToppling cX10_lastsByToppling 2 (some .boolean) 1 := ⟨⟨wg_t 1004 (by decide +kernel) (by decide +kernel), wg_t 1007 (by decide +kernel) (by decide +kernel), wg_t 1 (by decide +kernel) (by decide +kernel), by decide +kernel⟩, wg_t 1005 (by decide +kernel) (by decide +kernel), wg_t 1006 (by decide +kernel) (by decide +kernel)⟩
abbrev hhL_byToppling : List (Nat × Nat × Nat × Nat) := [(0, 13, 14, 22)]
theorem mw_L_315 : gML RL 315 yL_byToppling cL_byToppling 3 hhL_byToppling 2 := ⟨wg_t 1001 (by decide +kernel) (by decide +kernel), wg_t 1003 (by decide +kernel) (by decide +kernel), wg_t 0 (by decide +kernel) (by decide +kernel), by decide +kernel, wg_t 1002 (by decide +kernel) (by decide +kernel)⟩
abbrev rmL_byToppling : Room := { frames := 8, cells := 1, slots := 6, locals := 173 }
set_option maxHeartbeats 4000000 in
set_option maxRecDepth 100000 in
theorem metL_byToppling {l : Launch} {s0 : State} {b B : Nat} {D : va_G} {T : Nat → ClassId} (F : FX l s0 b D T B) {X : Nat → Prop} (hX : ∀ o, o < 561 → ¬ X (B + o)) {N : Nat} {Z : Nat → Int32} {hs : List (Nat → Int32)} {t : List Nat} {a1 : Int32} {S : RSt} (q : ∀ μ : Mem, PZ μ t Z hs → Ok (fX10_lastsByToppling N μ 0 a1) (fun r => ∃ Z2 hs2, PZ r.1 t Z2 hs2 ∧ S Z2 hs2 t (oB r.2))) (hL : ∀ Z2 hs2 t2 k, S Z2 hs2 t2 (.inl k) → k = 0) : gMetR l yL_byToppling cL_byToppling 3 hhL_byToppling rmL_byToppling [.ref (B + 0), .int a1] (gZ s0 D T B X Z hs t) (KC s0 X) (gRS s0 D T B X S (wr [(0, (-11))])) (gA B X) 1 6 := by
  refine gMetR_of RL (by decide +kernel) rfl (Nat.le_of_ble_eq_true rfl) ?_
  intro p e s m below meth c ls hx hb hr hlocks hml hown hts htab hW hk hl hS
  have hC := FX_C F hk hx hb hown hts
  have hl : lv_has ls 3 [(0, .ref (B + 0)), (1, .int a1)] := hl
  have hS0 : va_S (gA B X) s.heap s.heap [] := va_S.rf
  obtain ⟨μ, cap, hg, hcap, hP⟩ := hW
  obtain ⟨r, hf, Z2, hs2, hP2, hSr⟩ := q μ hP
  refine lv_aload_n hx hb dL_byToppling_0 rfl (lv_at hl 0 rfl) ?_
  refine lv_iload_n hx hb dL_byToppling_1 rfl (lv_at hl 1 rfl) ?_
  refine gs_callXV (As := [.int a1]) F hX hk hC hml hS0 hg (fun X9 hX9 => metX10_lastsByToppling F hX9 is_Ga hf) ml_L_86 (gw_recv hC hg.1 is_Ga.1 (is_Ga.2.2.1 (gfm s0) T B (μ 0)) rfl) ⟨rfl, rfl, (Nat.le_of_ble_eq_true rfl), (Nat.le_of_ble_eq_true rfl)⟩ rfl hl.1 rfl (Nat.le_of_ble_eq_true rfl) dL_byToppling_2 ⟨(Nat.le_of_ble_eq_true rfl), (Nat.le_of_ble_eq_true rfl)⟩ (fun v9 ho H1 locs1 hW1 hS1 => ?_) (fun k9 ho H1 locs1 q9 ce9 hW1 hS1 hce hvm hcl => ?_)
  · obtain ⟨x9, hv9, rfl⟩ := oZ_r ho
    refine gw_if_eqZ (tgt := 12) hx hb dL_byToppling_5 (by decide) (fun c9 => ?_) (fun c9 => ?_)
    · cases c9
      refine lv_iconst (v := 0) hx hb dL_byToppling_12 (by decide) ?_
      exact gr_iret hx hb hr hlocks ⟨Z2, hs2, t, _, hSr, by rw [hv9]; rfl, ⟨r.1, cap, hW1, hcap, hP2⟩⟩ hS1 (Nat.le_of_eq (Nat.zero_add _)) (Nat.le_of_eq (Nat.zero_add _)) dL_byToppling_13
    · cases c9
      refine lv_iconst (v := 1) hx hb dL_byToppling_8 (by decide) ?_
      refine lv_goto (tgt := 13) hx hb dL_byToppling_9 (by decide) ?_
      exact gr_iret hx hb hr hlocks ⟨Z2, hs2, t, _, hSr, by rw [hv9]; rfl, ⟨r.1, cap, hW1, hcap, hP2⟩⟩ hS1 (Nat.le_of_eq (Nat.zero_add _)) (Nat.le_of_eq (Nat.zero_add _)) dL_byToppling_13
  · have hv9 := oZ_l ho
    have hL9 := hL _ _ _ k9 (by have h9 := hSr; rw [hv9] at h9; exact h9)
    subst hL9
    refine vx_catch hown [] ⟨0, 13, 14, 22⟩ [] (htab.trans rfl) (fun z hz => by cases hz) (by decide) (by decide) (hts _ kl_L_22) (FX_cs F hk cs_0) hce hvm hcl ?_
    refine lv_astore_n hx hb dL_byToppling_14 rfl hl (by decide) rfl (fun ls9 hl9 => ?_)
    refine lv_bipush (v := (-11)) hx hb dL_byToppling_15 (by decide) ?_
    exact gr_iret hx hb hr hlocks ⟨Z2, hs2, t, _, hSr, by rw [hv9]; rfl, ⟨r.1, cap, hW1, hcap, hP2⟩⟩ hS1 (Nat.le_of_eq (Nat.zero_add _)) (Nat.le_of_eq (Nat.zero_add _)) dL_byToppling_17
theorem dL_slope_0 : decode cL_slope 0 = .ok (.aload_n 0, 1) := by decide +kernel
theorem dL_slope_1 : decode cL_slope 1 = .ok (.iload_n 1, 1) := by decide +kernel
theorem dL_slope_2 : decode cL_slope 2 = .ok (.invokevirtual 89, 3) := by decide +kernel
theorem dL_slope_5 : decode cL_slope 5 = .ok (.ireturn, 1) := by decide +kernel
theorem dL_slope_6 : decode cL_slope 6 = .ok (.astore_n 2, 1) := by decide +kernel
theorem dL_slope_7 : decode cL_slope 7 = .ok (.bipush (-11), 2) := by decide +kernel
theorem dL_slope_9 : decode cL_slope 9 = .ok (.ireturn, 1) := by decide +kernel
theorem ml_L_89 : gMV RL 89 yX10_longestSlope cX10_longestSlope 2 (some .int) 1 := ⟨⟨wg_t 1018 (by decide +kernel) (by decide +kernel), wg_t 1021 (by decide +kernel) (by decide +kernel), wg_t 1 (by decide +kernel) (by decide +kernel), by decide +kernel⟩, wg_t 1019 (by decide +kernel) (by decide +kernel), wg_t 1020 (by decide +kernel) (by decide +kernel)⟩
abbrev hhL_slope : List (Nat × Nat × Nat × Nat) := [(0, 5, 6, 22)]
theorem mw_L_318 : gML RL 318 yL_slope cL_slope 3 hhL_slope 2 := ⟨wg_t 1015 (by decide +kernel) (by decide +kernel), wg_t 1017 (by decide +kernel) (by decide +kernel), wg_t 0 (by decide +kernel) (by decide +kernel), by decide +kernel, wg_t 1016 (by decide +kernel) (by decide +kernel)⟩
abbrev rmL_slope : Room := { frames := 23, cells := 1, slots := 6, locals := 1171 }
set_option maxHeartbeats 4000000 in
set_option maxRecDepth 100000 in
theorem metL_slope {l : Launch} {s0 : State} {b B : Nat} {D : va_G} {T : Nat → ClassId} (F : FX l s0 b D T B) {X : Nat → Prop} (hX : ∀ o, o < 561 → ¬ X (B + o)) {N : Nat} {Z : Nat → Int32} {hs : List (Nat → Int32)} {t : List Nat} {a1 : Int32} {S : RSt} (q : ∀ μ : Mem, PZ μ t Z hs → Ok (fX10_longestSlope N μ 0 a1) (fun r => ∃ Z2 hs2, PZ r.1 t Z2 hs2 ∧ S Z2 hs2 t (r.2))) (hL : ∀ Z2 hs2 t2 k, S Z2 hs2 t2 (.inl k) → k = 0) : gMetR l yL_slope cL_slope 3 hhL_slope rmL_slope [.ref (B + 0), .int a1] (gZ s0 D T B X Z hs t) (KC s0 X) (gRS s0 D T B X S (wr [(0, (-11))])) (gA B X) 1 6 := by
  refine gMetR_of RL (by decide +kernel) rfl (Nat.le_of_ble_eq_true rfl) ?_
  intro p e s m below meth c ls hx hb hr hlocks hml hown hts htab hW hk hl hS
  have hC := FX_C F hk hx hb hown hts
  have hl : lv_has ls 3 [(0, .ref (B + 0)), (1, .int a1)] := hl
  have hS0 : va_S (gA B X) s.heap s.heap [] := va_S.rf
  obtain ⟨μ, cap, hg, hcap, hP⟩ := hW
  obtain ⟨r, hf, Z2, hs2, hP2, hSr⟩ := q μ hP
  refine lv_aload_n hx hb dL_slope_0 rfl (lv_at hl 0 rfl) ?_
  refine lv_iload_n hx hb dL_slope_1 rfl (lv_at hl 1 rfl) ?_
  refine gs_callXV (As := [.int a1]) F hX hk hC hml hS0 hg (fun X9 hX9 => metX10_longestSlope F hX9 is_Ga hf) ml_L_89 (gw_recv hC hg.1 is_Ga.1 (is_Ga.2.2.1 (gfm s0) T B (μ 0)) rfl) ⟨rfl, rfl, (Nat.le_of_ble_eq_true rfl), (Nat.le_of_ble_eq_true rfl)⟩ rfl hl.1 rfl (Nat.le_of_ble_eq_true rfl) dL_slope_2 ⟨(Nat.le_of_ble_eq_true rfl), (Nat.le_of_ble_eq_true rfl)⟩ (fun v9 ho H1 locs1 hW1 hS1 => ?_) (fun k9 ho H1 locs1 q9 ce9 hW1 hS1 hce hvm hcl => ?_)
  · obtain ⟨x9, hv9, rfl⟩ := oI_r ho
    exact gr_iret hx hb hr hlocks ⟨Z2, hs2, t, _, hSr, by rw [hv9]; rfl, ⟨r.1, cap, hW1, hcap, hP2⟩⟩ hS1 (Nat.le_of_eq (Nat.zero_add _)) (Nat.le_of_eq (Nat.zero_add _)) dL_slope_5
  · have hv9 := oI_l ho
    have hL9 := hL _ _ _ k9 (by have h9 := hSr; rw [hv9] at h9; exact h9)
    subst hL9
    refine vx_catch hown [] ⟨0, 5, 6, 22⟩ [] (htab.trans rfl) (fun z hz => by cases hz) (by decide) (by decide) (hts _ kl_L_22) (FX_cs F hk cs_0) hce hvm hcl ?_
    refine lv_astore_n hx hb dL_slope_6 rfl hl (by decide) rfl (fun ls9 hl9 => ?_)
    refine lv_bipush (v := (-11)) hx hb dL_slope_7 (by decide) ?_
    exact gr_iret hx hb hr hlocks ⟨Z2, hs2, t, _, hSr, by rw [hv9]; rfl, ⟨r.1, cap, hW1, hcap, hP2⟩⟩ hS1 (Nat.le_of_eq (Nat.zero_add _)) (Nat.le_of_eq (Nat.zero_add _)) dL_slope_9
theorem dL_slopeByGrains_0 : decode cL_slopeByGrains 0 = .ok (.aload_n 0, 1) := by decide +kernel
theorem dL_slopeByGrains_1 : decode cL_slopeByGrains 1 = .ok (.iload_n 1, 1) := by decide +kernel
theorem dL_slopeByGrains_2 : decode cL_slopeByGrains 2 = .ok (.invokevirtual 92, 3) := by decide +kernel
theorem dL_slopeByGrains_5 : decode cL_slopeByGrains 5 = .ok (.ireturn, 1) := by decide +kernel
theorem dL_slopeByGrains_6 : decode cL_slopeByGrains 6 = .ok (.astore_n 2, 1) := by decide +kernel
theorem dL_slopeByGrains_7 : decode cL_slopeByGrains 7 = .ok (.bipush (-11), 2) := by decide +kernel
theorem dL_slopeByGrains_9 : decode cL_slopeByGrains 9 = .ok (.ireturn, 1) := by decide +kernel
theorem ml_L_92 : gMV RL 92 yX10_longestSlopeByGrains cX10_longestSlopeByGrains 2 (some .int) 1 := ⟨⟨wg_t 1032 (by decide +kernel) (by decide +kernel), wg_t 1035 (by decide +kernel) (by decide +kernel), wg_t 1 (by decide +kernel) (by decide +kernel), by decide +kernel⟩, wg_t 1033 (by decide +kernel) (by decide +kernel), wg_t 1034 (by decide +kernel) (by decide +kernel)⟩
abbrev hhL_slopeByGrains : List (Nat × Nat × Nat × Nat) := [(0, 5, 6, 22)]
theorem mw_L_321 : gML RL 321 yL_slopeByGrains cL_slopeByGrains 3 hhL_slopeByGrains 2 := ⟨wg_t 1029 (by decide +kernel) (by decide +kernel), wg_t 1031 (by decide +kernel) (by decide +kernel), wg_t 0 (by decide +kernel) (by decide +kernel), by decide +kernel, wg_t 1030 (by decide +kernel) (by decide +kernel)⟩
abbrev rmL_slopeByGrains : Room := { frames := 8, cells := 1, slots := 6, locals := 162 }
set_option maxHeartbeats 4000000 in
set_option maxRecDepth 100000 in
theorem metL_slopeByGrains {l : Launch} {s0 : State} {b B : Nat} {D : va_G} {T : Nat → ClassId} (F : FX l s0 b D T B) {X : Nat → Prop} (hX : ∀ o, o < 561 → ¬ X (B + o)) {N : Nat} {Z : Nat → Int32} {hs : List (Nat → Int32)} {t : List Nat} {a1 : Int32} {S : RSt} (q : ∀ μ : Mem, PZ μ t Z hs → Ok (fX10_longestSlopeByGrains N μ 0 a1) (fun r => ∃ Z2 hs2, PZ r.1 t Z2 hs2 ∧ S Z2 hs2 t (r.2))) (hL : ∀ Z2 hs2 t2 k, S Z2 hs2 t2 (.inl k) → k = 0) : gMetR l yL_slopeByGrains cL_slopeByGrains 3 hhL_slopeByGrains rmL_slopeByGrains [.ref (B + 0), .int a1] (gZ s0 D T B X Z hs t) (KC s0 X) (gRS s0 D T B X S (wr [(0, (-11))])) (gA B X) 1 6 := by
  refine gMetR_of RL (by decide +kernel) rfl (Nat.le_of_ble_eq_true rfl) ?_
  intro p e s m below meth c ls hx hb hr hlocks hml hown hts htab hW hk hl hS
  have hC := FX_C F hk hx hb hown hts
  have hl : lv_has ls 3 [(0, .ref (B + 0)), (1, .int a1)] := hl
  have hS0 : va_S (gA B X) s.heap s.heap [] := va_S.rf
  obtain ⟨μ, cap, hg, hcap, hP⟩ := hW
  obtain ⟨r, hf, Z2, hs2, hP2, hSr⟩ := q μ hP
  refine lv_aload_n hx hb dL_slopeByGrains_0 rfl (lv_at hl 0 rfl) ?_
  refine lv_iload_n hx hb dL_slopeByGrains_1 rfl (lv_at hl 1 rfl) ?_
  refine gs_callXV (As := [.int a1]) F hX hk hC hml hS0 hg (fun X9 hX9 => metX10_longestSlopeByGrains F hX9 is_Ga hf) ml_L_92 (gw_recv hC hg.1 is_Ga.1 (is_Ga.2.2.1 (gfm s0) T B (μ 0)) rfl) ⟨rfl, rfl, (Nat.le_of_ble_eq_true rfl), (Nat.le_of_ble_eq_true rfl)⟩ rfl hl.1 rfl (Nat.le_of_ble_eq_true rfl) dL_slopeByGrains_2 ⟨(Nat.le_of_ble_eq_true rfl), (Nat.le_of_ble_eq_true rfl)⟩ (fun v9 ho H1 locs1 hW1 hS1 => ?_) (fun k9 ho H1 locs1 q9 ce9 hW1 hS1 hce hvm hcl => ?_)
  · obtain ⟨x9, hv9, rfl⟩ := oI_r ho
    exact gr_iret hx hb hr hlocks ⟨Z2, hs2, t, _, hSr, by rw [hv9]; rfl, ⟨r.1, cap, hW1, hcap, hP2⟩⟩ hS1 (Nat.le_of_eq (Nat.zero_add _)) (Nat.le_of_eq (Nat.zero_add _)) dL_slopeByGrains_5
  · have hv9 := oI_l ho
    have hL9 := hL _ _ _ k9 (by have h9 := hSr; rw [hv9] at h9; exact h9)
    subst hL9
    refine vx_catch hown [] ⟨0, 5, 6, 22⟩ [] (htab.trans rfl) (fun z hz => by cases hz) (by decide) (by decide) (hts _ kl_L_22) (FX_cs F hk cs_0) hce hvm hcl ?_
    refine lv_astore_n hx hb dL_slopeByGrains_6 rfl hl (by decide) rfl (fun ls9 hl9 => ?_)
    refine lv_bipush (v := (-11)) hx hb dL_slopeByGrains_7 (by decide) ?_
    exact gr_iret hx hb hr hlocks ⟨Z2, hs2, t, _, hSr, by rw [hv9]; rfl, ⟨r.1, cap, hW1, hcap, hP2⟩⟩ hS1 (Nat.le_of_eq (Nat.zero_add _)) (Nat.le_of_eq (Nat.zero_add _)) dL_slopeByGrains_9
theorem dL_topplings_0 : decode cL_topplings 0 = .ok (.aload_n 0, 1) := by decide +kernel
theorem dL_topplings_1 : decode cL_topplings 1 = .ok (.iload_n 1, 1) := by decide +kernel
theorem dL_topplings_2 : decode cL_topplings 2 = .ok (.iload_n 2, 1) := by decide +kernel
theorem dL_topplings_3 : decode cL_topplings 3 = .ok (.iload_n 3, 1) := by decide +kernel
theorem dL_topplings_4 : decode cL_topplings 4 = .ok (.iload 4, 2) := by decide +kernel
theorem dL_topplings_6 : decode cL_topplings 6 = .ok (.invokevirtual 64, 3) := by decide +kernel
theorem dL_topplings_9 : decode cL_topplings 9 = .ok (.ireturn, 1) := by decide +kernel
theorem dL_topplings_10 : decode cL_topplings 10 = .ok (.astore 5, 2) := by decide +kernel
theorem dL_topplings_12 : decode cL_topplings 12 = .ok (.bipush (-11), 2) := by decide +kernel
theorem dL_topplings_14 : decode cL_topplings 14 = .ok (.ireturn, 1) := by decide +kernel
theorem dL_topplings_15 : decode cL_topplings 15 = .ok (.astore 5, 2) := by decide +kernel
theorem dL_topplings_17 : decode cL_topplings 17 = .ok (.bipush (-12), 2) := by decide +kernel
theorem dL_topplings_19 : decode cL_topplings 19 = .ok (.ireturn, 1) := by decide +kernel
theorem ml_L_64 : gMV RL 64 yX10_topplingsIf cX10_topplingsIf 5 (some .int) 4 := ⟨⟨wg_t 1047 (by decide +kernel) (by decide +kernel), wg_t 1050 (by decide +kernel) (by decide +kernel), wg_t 1 (by decide +kernel) (by decide +kernel), by decide +kernel⟩, wg_t 1048 (by decide +kernel) (by decide +kernel), wg_t 1049 (by decide +kernel) (by decide +kernel)⟩
abbrev hhL_topplings : List (Nat × Nat × Nat × Nat) := [(0, 9, 10, 22), (0, 9, 15, 14)]
theorem mw_L_324 : gML RL 324 yL_topplings cL_topplings 6 hhL_topplings 5 := ⟨wg_t 1044 (by decide +kernel) (by decide +kernel), wg_t 1046 (by decide +kernel) (by decide +kernel), wg_t 0 (by decide +kernel) (by decide +kernel), by decide +kernel, wg_t 1045 (by decide +kernel) (by decide +kernel)⟩
abbrev rmL_topplings : Room := { frames := 8, cells := 1, slots := 6, locals := 164 }
set_option maxHeartbeats 4000000 in
set_option maxRecDepth 100000 in
theorem metL_topplings {l : Launch} {s0 : State} {b B : Nat} {D : va_G} {T : Nat → ClassId} (F : FX l s0 b D T B) {X : Nat → Prop} (hX : ∀ o, o < 561 → ¬ X (B + o)) {N : Nat} {Z : Nat → Int32} {hs : List (Nat → Int32)} {t : List Nat} {a1 : Int32} {a2 : Int32} {a3 : Int32} {a4 : Int32} {S : RSt} (q : ∀ μ : Mem, PZ μ t Z hs → Ok (fX10_topplingsIf N μ 0 a1 a2 a3 a4) (fun r => ∃ Z2 hs2, PZ r.1 t Z2 hs2 ∧ S Z2 hs2 t (r.2))) (hL : ∀ Z2 hs2 t2 k, S Z2 hs2 t2 (.inl k) → k = 0 ∨ k = 1) : gMetR l yL_topplings cL_topplings 6 hhL_topplings rmL_topplings [.ref (B + 0), .int a1, .int a2, .int a3, .int a4] (gZ s0 D T B X Z hs t) (KC s0 X) (gRS s0 D T B X S (wr [(0, (-11)), (1, (-12))])) (gA B X) 1 6 := by
  refine gMetR_of RL (by decide +kernel) rfl (Nat.le_of_ble_eq_true rfl) ?_
  intro p e s m below meth c ls hx hb hr hlocks hml hown hts htab hW hk hl hS
  have hC := FX_C F hk hx hb hown hts
  have hl : lv_has ls 6 [(0, .ref (B + 0)), (1, .int a1), (2, .int a2), (3, .int a3), (4, .int a4)] := hl
  have hS0 : va_S (gA B X) s.heap s.heap [] := va_S.rf
  obtain ⟨μ, cap, hg, hcap, hP⟩ := hW
  obtain ⟨r, hf, Z2, hs2, hP2, hSr⟩ := q μ hP
  refine lv_aload_n hx hb dL_topplings_0 rfl (lv_at hl 0 rfl) ?_
  refine lv_iload_n hx hb dL_topplings_1 rfl (lv_at hl 1 rfl) ?_
  refine lv_iload_n hx hb dL_topplings_2 rfl (lv_at hl 2 rfl) ?_
  refine lv_iload_n hx hb dL_topplings_3 rfl (lv_at hl 3 rfl) ?_
  refine lv_iload hx hb dL_topplings_4 (lv_at hl 4 rfl) ?_
  refine gs_callXV (As := [.int a1, .int a2, .int a3, .int a4]) F hX hk hC hml hS0 hg (fun X9 hX9 => metX10_topplingsIf F hX9 is_Ga hf) ml_L_64 (gw_recv hC hg.1 is_Ga.1 (is_Ga.2.2.1 (gfm s0) T B (μ 0)) rfl) ⟨rfl, rfl, (Nat.le_of_ble_eq_true rfl), (Nat.le_of_ble_eq_true rfl)⟩ rfl hl.1 rfl (Nat.le_of_ble_eq_true rfl) dL_topplings_6 ⟨(Nat.le_of_ble_eq_true rfl), (Nat.le_of_ble_eq_true rfl)⟩ (fun v9 ho H1 locs1 hW1 hS1 => ?_) (fun k9 ho H1 locs1 q9 ce9 hW1 hS1 hce hvm hcl => ?_)
  · obtain ⟨x9, hv9, rfl⟩ := oI_r ho
    exact gr_iret hx hb hr hlocks ⟨Z2, hs2, t, _, hSr, by rw [hv9]; rfl, ⟨r.1, cap, hW1, hcap, hP2⟩⟩ hS1 (Nat.le_of_eq (Nat.zero_add _)) (Nat.le_of_eq (Nat.zero_add _)) dL_topplings_9
  · have hv9 := oI_l ho
    have hL9 := hL _ _ _ k9 (by have h9 := hSr; rw [hv9] at h9; exact h9)
    rcases hL9 with rfl | rfl
    · refine vx_catch hown [] ⟨0, 9, 10, 22⟩ [⟨0, 9, 15, 14⟩] (htab.trans rfl) (fun z hz => by cases hz) (by decide) (by decide) (hts _ kl_L_22) (FX_cs F hk cs_0) hce hvm hcl ?_
      refine lv_astore hx hb dL_topplings_10 hl (by decide) rfl (fun ls9 hl9 => ?_)
      refine lv_bipush (v := (-11)) hx hb dL_topplings_12 (by decide) ?_
      exact gr_iret hx hb hr hlocks ⟨Z2, hs2, t, _, hSr, by rw [hv9]; rfl, ⟨r.1, cap, hW1, hcap, hP2⟩⟩ hS1 (Nat.le_of_eq (Nat.zero_add _)) (Nat.le_of_eq (Nat.zero_add _)) dL_topplings_14
    · refine vx_catch hown [⟨0, 9, 10, 22⟩] ⟨0, 9, 15, 14⟩ [] (htab.trans rfl) (fun z hz => by cases List.mem_singleton.mp hz; exact Or.inr ⟨by decide, _, hts _ kl_L_22, FX_nc F hk nc_1_0⟩) (by decide) (by decide) (hts _ kl_L_14) (FX_cs F hk cs_1) hce hvm hcl ?_
      refine lv_astore hx hb dL_topplings_15 hl (by decide) rfl (fun ls9 hl9 => ?_)
      refine lv_bipush (v := (-12)) hx hb dL_topplings_17 (by decide) ?_
      exact gr_iret hx hb hr hlocks ⟨Z2, hs2, t, _, hSr, by rw [hv9]; rfl, ⟨r.1, cap, hW1, hcap, hP2⟩⟩ hS1 (Nat.le_of_eq (Nat.zero_add _)) (Nat.le_of_eq (Nat.zero_add _)) dL_topplings_19
theorem dL_byRounds_0 : decode cL_byRounds 0 = .ok (.aload_n 0, 1) := by decide +kernel
theorem dL_byRounds_1 : decode cL_byRounds 1 = .ok (.iload_n 1, 1) := by decide +kernel
theorem dL_byRounds_2 : decode cL_byRounds 2 = .ok (.iload_n 2, 1) := by decide +kernel
theorem dL_byRounds_3 : decode cL_byRounds 3 = .ok (.iload_n 3, 1) := by decide +kernel
theorem dL_byRounds_4 : decode cL_byRounds 4 = .ok (.iload 4, 2) := by decide +kernel
theorem dL_byRounds_6 : decode cL_byRounds 6 = .ok (.invokevirtual 67, 3) := by decide +kernel
theorem dL_byRounds_9 : decode cL_byRounds 9 = .ok (.ireturn, 1) := by decide +kernel
theorem dL_byRounds_10 : decode cL_byRounds 10 = .ok (.astore 5, 2) := by decide +kernel
theorem dL_byRounds_12 : decode cL_byRounds 12 = .ok (.bipush (-11), 2) := by decide +kernel
theorem dL_byRounds_14 : decode cL_byRounds 14 = .ok (.ireturn, 1) := by decide +kernel
theorem dL_byRounds_15 : decode cL_byRounds 15 = .ok (.astore 5, 2) := by decide +kernel
theorem dL_byRounds_17 : decode cL_byRounds 17 = .ok (.bipush (-12), 2) := by decide +kernel
theorem dL_byRounds_19 : decode cL_byRounds 19 = .ok (.ireturn, 1) := by decide +kernel
theorem ml_L_67 : gMV RL 67 yX10_topplingsIfByRounds cX10_topplingsIfByRounds 5 (some .int) 4 := ⟨⟨wg_t 1060 (by decide +kernel) (by decide +kernel), wg_t 1063 (by decide +kernel) (by decide +kernel), wg_t 1 (by decide +kernel) (by decide +kernel), by decide +kernel⟩, wg_t 1061 (by decide +kernel) (by decide +kernel), wg_t 1062 (by decide +kernel) (by decide +kernel)⟩
abbrev hhL_byRounds : List (Nat × Nat × Nat × Nat) := [(0, 9, 10, 22), (0, 9, 15, 14)]
theorem mw_L_327 : gML RL 327 yL_byRounds cL_byRounds 6 hhL_byRounds 5 := ⟨wg_t 1057 (by decide +kernel) (by decide +kernel), wg_t 1059 (by decide +kernel) (by decide +kernel), wg_t 0 (by decide +kernel) (by decide +kernel), by decide +kernel, wg_t 1058 (by decide +kernel) (by decide +kernel)⟩
abbrev rmL_byRounds : Room := { frames := 8, cells := 1, slots := 6, locals := 164 }
set_option maxHeartbeats 4000000 in
set_option maxRecDepth 100000 in
theorem metL_byRounds {l : Launch} {s0 : State} {b B : Nat} {D : va_G} {T : Nat → ClassId} (F : FX l s0 b D T B) {X : Nat → Prop} (hX : ∀ o, o < 561 → ¬ X (B + o)) {N : Nat} {Z : Nat → Int32} {hs : List (Nat → Int32)} {t : List Nat} {a1 : Int32} {a2 : Int32} {a3 : Int32} {a4 : Int32} {S : RSt} (q : ∀ μ : Mem, PZ μ t Z hs → Ok (fX10_topplingsIfByRounds N μ 0 a1 a2 a3 a4) (fun r => ∃ Z2 hs2, PZ r.1 t Z2 hs2 ∧ S Z2 hs2 t (r.2))) (hL : ∀ Z2 hs2 t2 k, S Z2 hs2 t2 (.inl k) → k = 0 ∨ k = 1) : gMetR l yL_byRounds cL_byRounds 6 hhL_byRounds rmL_byRounds [.ref (B + 0), .int a1, .int a2, .int a3, .int a4] (gZ s0 D T B X Z hs t) (KC s0 X) (gRS s0 D T B X S (wr [(0, (-11)), (1, (-12))])) (gA B X) 1 6 := by
  refine gMetR_of RL (by decide +kernel) rfl (Nat.le_of_ble_eq_true rfl) ?_
  intro p e s m below meth c ls hx hb hr hlocks hml hown hts htab hW hk hl hS
  have hC := FX_C F hk hx hb hown hts
  have hl : lv_has ls 6 [(0, .ref (B + 0)), (1, .int a1), (2, .int a2), (3, .int a3), (4, .int a4)] := hl
  have hS0 : va_S (gA B X) s.heap s.heap [] := va_S.rf
  obtain ⟨μ, cap, hg, hcap, hP⟩ := hW
  obtain ⟨r, hf, Z2, hs2, hP2, hSr⟩ := q μ hP
  refine lv_aload_n hx hb dL_byRounds_0 rfl (lv_at hl 0 rfl) ?_
  refine lv_iload_n hx hb dL_byRounds_1 rfl (lv_at hl 1 rfl) ?_
  refine lv_iload_n hx hb dL_byRounds_2 rfl (lv_at hl 2 rfl) ?_
  refine lv_iload_n hx hb dL_byRounds_3 rfl (lv_at hl 3 rfl) ?_
  refine lv_iload hx hb dL_byRounds_4 (lv_at hl 4 rfl) ?_
  refine gs_callXV (As := [.int a1, .int a2, .int a3, .int a4]) F hX hk hC hml hS0 hg (fun X9 hX9 => metX10_topplingsIfByRounds F hX9 is_Ga hf) ml_L_67 (gw_recv hC hg.1 is_Ga.1 (is_Ga.2.2.1 (gfm s0) T B (μ 0)) rfl) ⟨rfl, rfl, (Nat.le_of_ble_eq_true rfl), (Nat.le_of_ble_eq_true rfl)⟩ rfl hl.1 rfl (Nat.le_of_ble_eq_true rfl) dL_byRounds_6 ⟨(Nat.le_of_ble_eq_true rfl), (Nat.le_of_ble_eq_true rfl)⟩ (fun v9 ho H1 locs1 hW1 hS1 => ?_) (fun k9 ho H1 locs1 q9 ce9 hW1 hS1 hce hvm hcl => ?_)
  · obtain ⟨x9, hv9, rfl⟩ := oI_r ho
    exact gr_iret hx hb hr hlocks ⟨Z2, hs2, t, _, hSr, by rw [hv9]; rfl, ⟨r.1, cap, hW1, hcap, hP2⟩⟩ hS1 (Nat.le_of_eq (Nat.zero_add _)) (Nat.le_of_eq (Nat.zero_add _)) dL_byRounds_9
  · have hv9 := oI_l ho
    have hL9 := hL _ _ _ k9 (by have h9 := hSr; rw [hv9] at h9; exact h9)
    rcases hL9 with rfl | rfl
    · refine vx_catch hown [] ⟨0, 9, 10, 22⟩ [⟨0, 9, 15, 14⟩] (htab.trans rfl) (fun z hz => by cases hz) (by decide) (by decide) (hts _ kl_L_22) (FX_cs F hk cs_0) hce hvm hcl ?_
      refine lv_astore hx hb dL_byRounds_10 hl (by decide) rfl (fun ls9 hl9 => ?_)
      refine lv_bipush (v := (-11)) hx hb dL_byRounds_12 (by decide) ?_
      exact gr_iret hx hb hr hlocks ⟨Z2, hs2, t, _, hSr, by rw [hv9]; rfl, ⟨r.1, cap, hW1, hcap, hP2⟩⟩ hS1 (Nat.le_of_eq (Nat.zero_add _)) (Nat.le_of_eq (Nat.zero_add _)) dL_byRounds_14
    · refine vx_catch hown [⟨0, 9, 10, 22⟩] ⟨0, 9, 15, 14⟩ [] (htab.trans rfl) (fun z hz => by cases List.mem_singleton.mp hz; exact Or.inr ⟨by decide, _, hts _ kl_L_22, FX_nc F hk nc_1_0⟩) (by decide) (by decide) (hts _ kl_L_14) (FX_cs F hk cs_1) hce hvm hcl ?_
      refine lv_astore hx hb dL_byRounds_15 hl (by decide) rfl (fun ls9 hl9 => ?_)
      refine lv_bipush (v := (-12)) hx hb dL_byRounds_17 (by decide) ?_
      exact gr_iret hx hb hr hlocks ⟨Z2, hs2, t, _, hSr, by rw [hv9]; rfl, ⟨r.1, cap, hW1, hcap, hP2⟩⟩ hS1 (Nat.le_of_eq (Nat.zero_add _)) (Nat.le_of_eq (Nat.zero_add _)) dL_byRounds_19
theorem dL_grainsAt_0 : decode cL_grainsAt 0 = .ok (.aload_n 0, 1) := by decide +kernel
theorem dL_grainsAt_1 : decode cL_grainsAt 1 = .ok (.iload_n 1, 1) := by decide +kernel
theorem dL_grainsAt_2 : decode cL_grainsAt 2 = .ok (.iload_n 2, 1) := by decide +kernel
theorem dL_grainsAt_3 : decode cL_grainsAt 3 = .ok (.iload_n 3, 1) := by decide +kernel
theorem dL_grainsAt_4 : decode cL_grainsAt 4 = .ok (.invokevirtual 76, 3) := by decide +kernel
theorem dL_grainsAt_7 : decode cL_grainsAt 7 = .ok (.ireturn, 1) := by decide +kernel
theorem dL_grainsAt_8 : decode cL_grainsAt 8 = .ok (.astore 4, 2) := by decide +kernel
theorem dL_grainsAt_10 : decode cL_grainsAt 10 = .ok (.bipush (-11), 2) := by decide +kernel
theorem dL_grainsAt_12 : decode cL_grainsAt 12 = .ok (.ireturn, 1) := by decide +kernel
theorem dL_grainsAt_13 : decode cL_grainsAt 13 = .ok (.astore 4, 2) := by decide +kernel
theorem dL_grainsAt_15 : decode cL_grainsAt 15 = .ok (.bipush (-12), 2) := by decide +kernel
theorem dL_grainsAt_17 : decode cL_grainsAt 17 = .ok (.ireturn, 1) := by decide +kernel
theorem ml_L_76 : gMV RL 76 yX10_grainsAt cX10_grainsAt 5 (some .int) 3 := ⟨⟨wg_t 939 (by decide +kernel) (by decide +kernel), wg_t 942 (by decide +kernel) (by decide +kernel), wg_t 1 (by decide +kernel) (by decide +kernel), by decide +kernel⟩, wg_t 940 (by decide +kernel) (by decide +kernel), wg_t 941 (by decide +kernel) (by decide +kernel)⟩
abbrev hhL_grainsAt : List (Nat × Nat × Nat × Nat) := [(0, 7, 8, 22), (0, 7, 13, 14)]
theorem mw_L_330 : gML RL 330 yL_grainsAt cL_grainsAt 5 hhL_grainsAt 4 := ⟨wg_t 1072 (by decide +kernel) (by decide +kernel), wg_t 1074 (by decide +kernel) (by decide +kernel), wg_t 0 (by decide +kernel) (by decide +kernel), by decide +kernel, wg_t 1073 (by decide +kernel) (by decide +kernel)⟩
abbrev rmL_grainsAt : Room := { frames := 8, cells := 2, slots := 12, locals := 165 }
set_option maxHeartbeats 4000000 in
set_option maxRecDepth 100000 in
theorem metL_grainsAt {l : Launch} {s0 : State} {b B : Nat} {D : va_G} {T : Nat → ClassId} (F : FX l s0 b D T B) {X : Nat → Prop} (hX : ∀ o, o < 561 → ¬ X (B + o)) {N : Nat} {Z : Nat → Int32} {hs : List (Nat → Int32)} {t : List Nat} {a1 : Int32} {a2 : Int32} {a3 : Int32} {S : RSt} (q : ∀ μ : Mem, PZ μ t Z hs → Ok (fX10_grainsAt N μ 0 a1 a2 a3) (fun r => ∃ Z2 hs2, PZ r.1 t Z2 hs2 ∧ S Z2 hs2 t (r.2))) (hL : ∀ Z2 hs2 t2 k, S Z2 hs2 t2 (.inl k) → k = 0 ∨ k = 1) : gMetR l yL_grainsAt cL_grainsAt 5 hhL_grainsAt rmL_grainsAt [.ref (B + 0), .int a1, .int a2, .int a3] (gZ s0 D T B X Z hs t) (KC s0 X) (gRS s0 D T B X S (wr [(0, (-11)), (1, (-12))])) (gA B X) 2 12 := by
  refine gMetR_of RL (by decide +kernel) rfl (Nat.le_of_ble_eq_true rfl) ?_
  intro p e s m below meth c ls hx hb hr hlocks hml hown hts htab hW hk hl hS
  have hC := FX_C F hk hx hb hown hts
  have hl : lv_has ls 5 [(0, .ref (B + 0)), (1, .int a1), (2, .int a2), (3, .int a3)] := hl
  have hS0 : va_S (gA B X) s.heap s.heap [] := va_S.rf
  obtain ⟨μ, cap, hg, hcap, hP⟩ := hW
  obtain ⟨r, hf, Z2, hs2, hP2, hSr⟩ := q μ hP
  refine lv_aload_n hx hb dL_grainsAt_0 rfl (lv_at hl 0 rfl) ?_
  refine lv_iload_n hx hb dL_grainsAt_1 rfl (lv_at hl 1 rfl) ?_
  refine lv_iload_n hx hb dL_grainsAt_2 rfl (lv_at hl 2 rfl) ?_
  refine lv_iload_n hx hb dL_grainsAt_3 rfl (lv_at hl 3 rfl) ?_
  refine gs_callXV (As := [.int a1, .int a2, .int a3]) F hX hk hC hml hS0 hg (fun X9 hX9 => metX10_grainsAt F hX9 is_Ga hf) ml_L_76 (gw_recv hC hg.1 is_Ga.1 (is_Ga.2.2.1 (gfm s0) T B (μ 0)) rfl) ⟨rfl, rfl, (Nat.le_of_ble_eq_true rfl), (Nat.le_of_ble_eq_true rfl)⟩ rfl hl.1 rfl (Nat.le_of_ble_eq_true rfl) dL_grainsAt_4 ⟨(Nat.le_of_ble_eq_true rfl), (Nat.le_of_ble_eq_true rfl)⟩ (fun v9 ho H1 locs1 hW1 hS1 => ?_) (fun k9 ho H1 locs1 q9 ce9 hW1 hS1 hce hvm hcl => ?_)
  · obtain ⟨x9, hv9, rfl⟩ := oI_r ho
    exact gr_iret hx hb hr hlocks ⟨Z2, hs2, t, _, hSr, by rw [hv9]; rfl, ⟨r.1, cap, hW1, hcap, hP2⟩⟩ hS1 (Nat.le_of_eq (Nat.zero_add _)) (Nat.le_of_eq (Nat.zero_add _)) dL_grainsAt_7
  · have hv9 := oI_l ho
    have hL9 := hL _ _ _ k9 (by have h9 := hSr; rw [hv9] at h9; exact h9)
    rcases hL9 with rfl | rfl
    · refine vx_catch hown [] ⟨0, 7, 8, 22⟩ [⟨0, 7, 13, 14⟩] (htab.trans rfl) (fun z hz => by cases hz) (by decide) (by decide) (hts _ kl_L_22) (FX_cs F hk cs_0) hce hvm hcl ?_
      refine lv_astore hx hb dL_grainsAt_8 hl (by decide) rfl (fun ls9 hl9 => ?_)
      refine lv_bipush (v := (-11)) hx hb dL_grainsAt_10 (by decide) ?_
      exact gr_iret hx hb hr hlocks ⟨Z2, hs2, t, _, hSr, by rw [hv9]; rfl, ⟨r.1, cap, hW1, hcap, hP2⟩⟩ hS1 (Nat.le_of_eq (Nat.zero_add _)) (Nat.le_of_eq (Nat.zero_add _)) dL_grainsAt_12
    · refine vx_catch hown [⟨0, 7, 8, 22⟩] ⟨0, 7, 13, 14⟩ [] (htab.trans rfl) (fun z hz => by cases List.mem_singleton.mp hz; exact Or.inr ⟨by decide, _, hts _ kl_L_22, FX_nc F hk nc_1_0⟩) (by decide) (by decide) (hts _ kl_L_14) (FX_cs F hk cs_1) hce hvm hcl ?_
      refine lv_astore hx hb dL_grainsAt_13 hl (by decide) rfl (fun ls9 hl9 => ?_)
      refine lv_bipush (v := (-12)) hx hb dL_grainsAt_15 (by decide) ?_
      exact gr_iret hx hb hr hlocks ⟨Z2, hs2, t, _, hSr, by rw [hv9]; rfl, ⟨r.1, cap, hW1, hcap, hP2⟩⟩ hS1 (Nat.le_of_eq (Nat.zero_add _)) (Nat.le_of_eq (Nat.zero_add _)) dL_grainsAt_17
theorem dL_roomOf_0 : decode cL_roomOf 0 = .ok (.aload_n 0, 1) := by decide +kernel
theorem dL_roomOf_1 : decode cL_roomOf 1 = .ok (.iload_n 1, 1) := by decide +kernel
theorem dL_roomOf_2 : decode cL_roomOf 2 = .ok (.invokevirtual 70, 3) := by decide +kernel
theorem dL_roomOf_5 : decode cL_roomOf 5 = .ok (.ireturn, 1) := by decide +kernel
theorem dL_roomOf_6 : decode cL_roomOf 6 = .ok (.astore_n 2, 1) := by decide +kernel
theorem dL_roomOf_7 : decode cL_roomOf 7 = .ok (.bipush (-11), 2) := by decide +kernel
theorem dL_roomOf_9 : decode cL_roomOf 9 = .ok (.ireturn, 1) := by decide +kernel
theorem ml_L_70 : gMV RL 70 yX10_roomOf cX10_roomOf 2 (some .int) 1 := ⟨⟨wg_t 1078 (by decide +kernel) (by decide +kernel), wg_t 1081 (by decide +kernel) (by decide +kernel), wg_t 1 (by decide +kernel) (by decide +kernel), by decide +kernel⟩, wg_t 1079 (by decide +kernel) (by decide +kernel), wg_t 1080 (by decide +kernel) (by decide +kernel)⟩
abbrev hhL_roomOf : List (Nat × Nat × Nat × Nat) := [(0, 5, 6, 22)]
theorem mw_L_332 : gML RL 332 yL_roomOf cL_roomOf 3 hhL_roomOf 2 := ⟨wg_t 1075 (by decide +kernel) (by decide +kernel), wg_t 1077 (by decide +kernel) (by decide +kernel), wg_t 0 (by decide +kernel) (by decide +kernel), by decide +kernel, wg_t 1076 (by decide +kernel) (by decide +kernel)⟩
abbrev rmL_roomOf : Room := { frames := 8, cells := 1, slots := 6, locals := 162 }
set_option maxHeartbeats 4000000 in
set_option maxRecDepth 100000 in
theorem metL_roomOf {l : Launch} {s0 : State} {b B : Nat} {D : va_G} {T : Nat → ClassId} (F : FX l s0 b D T B) {X : Nat → Prop} (hX : ∀ o, o < 561 → ¬ X (B + o)) {N : Nat} {Z : Nat → Int32} {hs : List (Nat → Int32)} {t : List Nat} {a1 : Int32} {S : RSt} (q : ∀ μ : Mem, PZ μ t Z hs → Ok (fX10_roomOf N μ 0 a1) (fun r => ∃ Z2 hs2, PZ r.1 t Z2 hs2 ∧ S Z2 hs2 t (r.2))) (hL : ∀ Z2 hs2 t2 k, S Z2 hs2 t2 (.inl k) → k = 0) : gMetR l yL_roomOf cL_roomOf 3 hhL_roomOf rmL_roomOf [.ref (B + 0), .int a1] (gZ s0 D T B X Z hs t) (KC s0 X) (gRS s0 D T B X S (wr [(0, (-11))])) (gA B X) 1 6 := by
  refine gMetR_of RL (by decide +kernel) rfl (Nat.le_of_ble_eq_true rfl) ?_
  intro p e s m below meth c ls hx hb hr hlocks hml hown hts htab hW hk hl hS
  have hC := FX_C F hk hx hb hown hts
  have hl : lv_has ls 3 [(0, .ref (B + 0)), (1, .int a1)] := hl
  have hS0 : va_S (gA B X) s.heap s.heap [] := va_S.rf
  obtain ⟨μ, cap, hg, hcap, hP⟩ := hW
  obtain ⟨r, hf, Z2, hs2, hP2, hSr⟩ := q μ hP
  refine lv_aload_n hx hb dL_roomOf_0 rfl (lv_at hl 0 rfl) ?_
  refine lv_iload_n hx hb dL_roomOf_1 rfl (lv_at hl 1 rfl) ?_
  refine gs_callXV (As := [.int a1]) F hX hk hC hml hS0 hg (fun X9 hX9 => metX10_roomOf F hX9 is_Ga hf) ml_L_70 (gw_recv hC hg.1 is_Ga.1 (is_Ga.2.2.1 (gfm s0) T B (μ 0)) rfl) ⟨rfl, rfl, (Nat.le_of_ble_eq_true rfl), (Nat.le_of_ble_eq_true rfl)⟩ rfl hl.1 rfl (Nat.le_of_ble_eq_true rfl) dL_roomOf_2 ⟨(Nat.le_of_ble_eq_true rfl), (Nat.le_of_ble_eq_true rfl)⟩ (fun v9 ho H1 locs1 hW1 hS1 => ?_) (fun k9 ho H1 locs1 q9 ce9 hW1 hS1 hce hvm hcl => ?_)
  · obtain ⟨x9, hv9, rfl⟩ := oI_r ho
    exact gr_iret hx hb hr hlocks ⟨Z2, hs2, t, _, hSr, by rw [hv9]; rfl, ⟨r.1, cap, hW1, hcap, hP2⟩⟩ hS1 (Nat.le_of_eq (Nat.zero_add _)) (Nat.le_of_eq (Nat.zero_add _)) dL_roomOf_5
  · have hv9 := oI_l ho
    have hL9 := hL _ _ _ k9 (by have h9 := hSr; rw [hv9] at h9; exact h9)
    subst hL9
    refine vx_catch hown [] ⟨0, 5, 6, 22⟩ [] (htab.trans rfl) (fun z hz => by cases hz) (by decide) (by decide) (hts _ kl_L_22) (FX_cs F hk cs_0) hce hvm hcl ?_
    refine lv_astore_n hx hb dL_roomOf_6 rfl hl (by decide) rfl (fun ls9 hl9 => ?_)
    refine lv_bipush (v := (-11)) hx hb dL_roomOf_7 (by decide) ?_
    exact gr_iret hx hb hr hlocks ⟨Z2, hs2, t, _, hSr, by rw [hv9]; rfl, ⟨r.1, cap, hW1, hcap, hP2⟩⟩ hS1 (Nat.le_of_eq (Nat.zero_add _)) (Nat.le_of_eq (Nat.zero_add _)) dL_roomOf_9
theorem dL_limit_0 : decode cL_limit 0 = .ok (.aload_n 0, 1) := by decide +kernel
theorem dL_limit_1 : decode cL_limit 1 = .ok (.iload_n 1, 1) := by decide +kernel
theorem dL_limit_2 : decode cL_limit 2 = .ok (.invokevirtual 73, 3) := by decide +kernel
theorem dL_limit_5 : decode cL_limit 5 = .ok (.ireturn, 1) := by decide +kernel
theorem dL_limit_6 : decode cL_limit 6 = .ok (.astore_n 2, 1) := by decide +kernel
theorem dL_limit_7 : decode cL_limit 7 = .ok (.bipush (-11), 2) := by decide +kernel
theorem dL_limit_9 : decode cL_limit 9 = .ok (.ireturn, 1) := by decide +kernel
theorem ml_L_73 : gMV RL 73 yX10_limit cX10_limit 2 (some .int) 1 := ⟨⟨wg_t 1085 (by decide +kernel) (by decide +kernel), wg_t 1088 (by decide +kernel) (by decide +kernel), wg_t 1 (by decide +kernel) (by decide +kernel), by decide +kernel⟩, wg_t 1086 (by decide +kernel) (by decide +kernel), wg_t 1087 (by decide +kernel) (by decide +kernel)⟩
abbrev hhL_limit : List (Nat × Nat × Nat × Nat) := [(0, 5, 6, 22)]
theorem mw_L_334 : gML RL 334 yL_limit cL_limit 3 hhL_limit 2 := ⟨wg_t 1082 (by decide +kernel) (by decide +kernel), wg_t 1084 (by decide +kernel) (by decide +kernel), wg_t 0 (by decide +kernel) (by decide +kernel), by decide +kernel, wg_t 1083 (by decide +kernel) (by decide +kernel)⟩
abbrev rmL_limit : Room := { frames := 8, cells := 1, slots := 6, locals := 162 }
set_option maxHeartbeats 4000000 in
set_option maxRecDepth 100000 in
theorem metL_limit {l : Launch} {s0 : State} {b B : Nat} {D : va_G} {T : Nat → ClassId} (F : FX l s0 b D T B) {X : Nat → Prop} (hX : ∀ o, o < 561 → ¬ X (B + o)) {N : Nat} {Z : Nat → Int32} {hs : List (Nat → Int32)} {t : List Nat} {a1 : Int32} {S : RSt} (q : ∀ μ : Mem, PZ μ t Z hs → Ok (fX10_limit N μ 0 a1) (fun r => ∃ Z2 hs2, PZ r.1 t Z2 hs2 ∧ S Z2 hs2 t (r.2))) (hL : ∀ Z2 hs2 t2 k, S Z2 hs2 t2 (.inl k) → k = 0) : gMetR l yL_limit cL_limit 3 hhL_limit rmL_limit [.ref (B + 0), .int a1] (gZ s0 D T B X Z hs t) (KC s0 X) (gRS s0 D T B X S (wr [(0, (-11))])) (gA B X) 1 6 := by
  refine gMetR_of RL (by decide +kernel) rfl (Nat.le_of_ble_eq_true rfl) ?_
  intro p e s m below meth c ls hx hb hr hlocks hml hown hts htab hW hk hl hS
  have hC := FX_C F hk hx hb hown hts
  have hl : lv_has ls 3 [(0, .ref (B + 0)), (1, .int a1)] := hl
  have hS0 : va_S (gA B X) s.heap s.heap [] := va_S.rf
  obtain ⟨μ, cap, hg, hcap, hP⟩ := hW
  obtain ⟨r, hf, Z2, hs2, hP2, hSr⟩ := q μ hP
  refine lv_aload_n hx hb dL_limit_0 rfl (lv_at hl 0 rfl) ?_
  refine lv_iload_n hx hb dL_limit_1 rfl (lv_at hl 1 rfl) ?_
  refine gs_callXV (As := [.int a1]) F hX hk hC hml hS0 hg (fun X9 hX9 => metX10_limit F hX9 is_Ga hf) ml_L_73 (gw_recv hC hg.1 is_Ga.1 (is_Ga.2.2.1 (gfm s0) T B (μ 0)) rfl) ⟨rfl, rfl, (Nat.le_of_ble_eq_true rfl), (Nat.le_of_ble_eq_true rfl)⟩ rfl hl.1 rfl (Nat.le_of_ble_eq_true rfl) dL_limit_2 ⟨(Nat.le_of_ble_eq_true rfl), (Nat.le_of_ble_eq_true rfl)⟩ (fun v9 ho H1 locs1 hW1 hS1 => ?_) (fun k9 ho H1 locs1 q9 ce9 hW1 hS1 hce hvm hcl => ?_)
  · obtain ⟨x9, hv9, rfl⟩ := oI_r ho
    exact gr_iret hx hb hr hlocks ⟨Z2, hs2, t, _, hSr, by rw [hv9]; rfl, ⟨r.1, cap, hW1, hcap, hP2⟩⟩ hS1 (Nat.le_of_eq (Nat.zero_add _)) (Nat.le_of_eq (Nat.zero_add _)) dL_limit_5
  · have hv9 := oI_l ho
    have hL9 := hL _ _ _ k9 (by have h9 := hSr; rw [hv9] at h9; exact h9)
    subst hL9
    refine vx_catch hown [] ⟨0, 5, 6, 22⟩ [] (htab.trans rfl) (fun z hz => by cases hz) (by decide) (by decide) (hts _ kl_L_22) (FX_cs F hk cs_0) hce hvm hcl ?_
    refine lv_astore_n hx hb dL_limit_6 rfl hl (by decide) rfl (fun ls9 hl9 => ?_)
    refine lv_bipush (v := (-11)) hx hb dL_limit_7 (by decide) ?_
    exact gr_iret hx hb hr hlocks ⟨Z2, hs2, t, _, hSr, by rw [hv9]; rfl, ⟨r.1, cap, hW1, hcap, hP2⟩⟩ hS1 (Nat.le_of_eq (Nat.zero_add _)) (Nat.le_of_eq (Nat.zero_add _)) dL_limit_9
theorem dL_meltIfSent_0 : decode cL_meltIfSent 0 = .ok (.aload_n 0, 1) := by decide +kernel
theorem dL_meltIfSent_1 : decode cL_meltIfSent 1 = .ok (.iload_n 1, 1) := by decide +kernel
theorem dL_meltIfSent_2 : decode cL_meltIfSent 2 = .ok (.iload_n 2, 1) := by decide +kernel
theorem dL_meltIfSent_3 : decode cL_meltIfSent 3 = .ok (.invokevirtual 109, 3) := by decide +kernel
theorem dL_meltIfSent_6 : decode cL_meltIfSent 6 = .ok (.ireturn, 1) := by decide +kernel
theorem dL_meltIfSent_7 : decode cL_meltIfSent 7 = .ok (.astore_n 3, 1) := by decide +kernel
theorem dL_meltIfSent_8 : decode cL_meltIfSent 8 = .ok (.bipush (-11), 2) := by decide +kernel
theorem dL_meltIfSent_10 : decode cL_meltIfSent 10 = .ok (.ireturn, 1) := by decide +kernel
theorem dL_meltIfSent_11 : decode cL_meltIfSent 11 = .ok (.astore_n 3, 1) := by decide +kernel
theorem dL_meltIfSent_12 : decode cL_meltIfSent 12 = .ok (.bipush (-13), 2) := by decide +kernel
theorem dL_meltIfSent_14 : decode cL_meltIfSent 14 = .ok (.ireturn, 1) := by decide +kernel
theorem ml_L_109 : gMV RL 109 yX10_meltIfSent cX10_meltIfSent 4 (some .int) 2 := ⟨⟨wg_t 1109 (by decide +kernel) (by decide +kernel), wg_t 1112 (by decide +kernel) (by decide +kernel), wg_t 1 (by decide +kernel) (by decide +kernel), by decide +kernel⟩, wg_t 1110 (by decide +kernel) (by decide +kernel), wg_t 1111 (by decide +kernel) (by decide +kernel)⟩
abbrev hhL_meltIfSent : List (Nat × Nat × Nat × Nat) := [(0, 6, 7, 22), (0, 6, 11, 31)]
theorem mw_L_345 : gML RL 345 yL_meltIfSent cL_meltIfSent 4 hhL_meltIfSent 3 := ⟨wg_t 1106 (by decide +kernel) (by decide +kernel), wg_t 1108 (by decide +kernel) (by decide +kernel), wg_t 0 (by decide +kernel) (by decide +kernel), by decide +kernel, wg_t 1107 (by decide +kernel) (by decide +kernel)⟩
abbrev rmL_meltIfSent : Room := { frames := 8, cells := 2, slots := 12, locals := 179 }
set_option maxHeartbeats 4000000 in
set_option maxRecDepth 100000 in
theorem metL_meltIfSent {l : Launch} {s0 : State} {b B : Nat} {D : va_G} {T : Nat → ClassId} (F : FX l s0 b D T B) {X : Nat → Prop} (hX : ∀ o, o < 561 → ¬ X (B + o)) {N : Nat} {Z : Nat → Int32} {hs : List (Nat → Int32)} {t : List Nat} {a1 : Int32} {a2 : Int32} {S : RSt} (q : ∀ μ : Mem, PZ μ t Z hs → Ok (fX10_meltIfSent N μ 0 a1 a2) (fun r => ∃ Z2 hs2, PZ r.1 t Z2 hs2 ∧ S Z2 hs2 t (r.2))) (hL : ∀ Z2 hs2 t2 k, S Z2 hs2 t2 (.inl k) → k = 0 ∨ k = 3) : gMetR l yL_meltIfSent cL_meltIfSent 4 hhL_meltIfSent rmL_meltIfSent [.ref (B + 0), .int a1, .int a2] (gZ s0 D T B X Z hs t) (KC s0 X) (gRS s0 D T B X S (wr [(0, (-11)), (3, (-13))])) (gA B X) 2 12 := by
  refine gMetR_of RL (by decide +kernel) rfl (Nat.le_of_ble_eq_true rfl) ?_
  intro p e s m below meth c ls hx hb hr hlocks hml hown hts htab hW hk hl hS
  have hC := FX_C F hk hx hb hown hts
  have hl : lv_has ls 4 [(0, .ref (B + 0)), (1, .int a1), (2, .int a2)] := hl
  have hS0 : va_S (gA B X) s.heap s.heap [] := va_S.rf
  obtain ⟨μ, cap, hg, hcap, hP⟩ := hW
  obtain ⟨r, hf, Z2, hs2, hP2, hSr⟩ := q μ hP
  refine lv_aload_n hx hb dL_meltIfSent_0 rfl (lv_at hl 0 rfl) ?_
  refine lv_iload_n hx hb dL_meltIfSent_1 rfl (lv_at hl 1 rfl) ?_
  refine lv_iload_n hx hb dL_meltIfSent_2 rfl (lv_at hl 2 rfl) ?_
  refine gs_callXV (As := [.int a1, .int a2]) F hX hk hC hml hS0 hg (fun X9 hX9 => metX10_meltIfSent F hX9 is_Ga hf) ml_L_109 (gw_recv hC hg.1 is_Ga.1 (is_Ga.2.2.1 (gfm s0) T B (μ 0)) rfl) ⟨rfl, rfl, (Nat.le_of_ble_eq_true rfl), (Nat.le_of_ble_eq_true rfl)⟩ rfl hl.1 rfl (Nat.le_of_ble_eq_true rfl) dL_meltIfSent_3 ⟨(Nat.le_of_ble_eq_true rfl), (Nat.le_of_ble_eq_true rfl)⟩ (fun v9 ho H1 locs1 hW1 hS1 => ?_) (fun k9 ho H1 locs1 q9 ce9 hW1 hS1 hce hvm hcl => ?_)
  · obtain ⟨x9, hv9, rfl⟩ := oI_r ho
    exact gr_iret hx hb hr hlocks ⟨Z2, hs2, t, _, hSr, by rw [hv9]; rfl, ⟨r.1, cap, hW1, hcap, hP2⟩⟩ hS1 (Nat.le_of_eq (Nat.zero_add _)) (Nat.le_of_eq (Nat.zero_add _)) dL_meltIfSent_6
  · have hv9 := oI_l ho
    have hL9 := hL _ _ _ k9 (by have h9 := hSr; rw [hv9] at h9; exact h9)
    rcases hL9 with rfl | rfl
    · refine vx_catch hown [] ⟨0, 6, 7, 22⟩ [⟨0, 6, 11, 31⟩] (htab.trans rfl) (fun z hz => by cases hz) (by decide) (by decide) (hts _ kl_L_22) (FX_cs F hk cs_0) hce hvm hcl ?_
      refine lv_astore_n hx hb dL_meltIfSent_7 rfl hl (by decide) rfl (fun ls9 hl9 => ?_)
      refine lv_bipush (v := (-11)) hx hb dL_meltIfSent_8 (by decide) ?_
      exact gr_iret hx hb hr hlocks ⟨Z2, hs2, t, _, hSr, by rw [hv9]; rfl, ⟨r.1, cap, hW1, hcap, hP2⟩⟩ hS1 (Nat.le_of_eq (Nat.zero_add _)) (Nat.le_of_eq (Nat.zero_add _)) dL_meltIfSent_10
    · refine vx_catch hown [⟨0, 6, 7, 22⟩] ⟨0, 6, 11, 31⟩ [] (htab.trans rfl) (fun z hz => by cases List.mem_singleton.mp hz; exact Or.inr ⟨by decide, _, hts _ kl_L_22, FX_nc F hk nc_3_0⟩) (by decide) (by decide) (hts _ kl_L_31) (FX_cs F hk cs_3) hce hvm hcl ?_
      refine lv_astore_n hx hb dL_meltIfSent_11 rfl hl (by decide) rfl (fun ls9 hl9 => ?_)
      refine lv_bipush (v := (-13)) hx hb dL_meltIfSent_12 (by decide) ?_
      exact gr_iret hx hb hr hlocks ⟨Z2, hs2, t, _, hSr, by rw [hv9]; rfl, ⟨r.1, cap, hW1, hcap, hP2⟩⟩ hS1 (Nat.le_of_eq (Nat.zero_add _)) (Nat.le_of_eq (Nat.zero_add _)) dL_meltIfSent_14
theorem dL_leastPassed_0 : decode cL_leastPassed 0 = .ok (.aload_n 0, 1) := by decide +kernel
theorem dL_leastPassed_1 : decode cL_leastPassed 1 = .ok (.iload_n 1, 1) := by decide +kernel
theorem dL_leastPassed_2 : decode cL_leastPassed 2 = .ok (.iload_n 2, 1) := by decide +kernel
theorem dL_leastPassed_3 : decode cL_leastPassed 3 = .ok (.invokevirtual 112, 3) := by decide +kernel
theorem dL_leastPassed_6 : decode cL_leastPassed 6 = .ok (.ireturn, 1) := by decide +kernel
theorem dL_leastPassed_7 : decode cL_leastPassed 7 = .ok (.astore_n 3, 1) := by decide +kernel
theorem dL_leastPassed_8 : decode cL_leastPassed 8 = .ok (.bipush (-11), 2) := by decide +kernel
theorem dL_leastPassed_10 : decode cL_leastPassed 10 = .ok (.ireturn, 1) := by decide +kernel
theorem dL_leastPassed_11 : decode cL_leastPassed 11 = .ok (.astore_n 3, 1) := by decide +kernel
theorem dL_leastPassed_12 : decode cL_leastPassed 12 = .ok (.bipush (-13), 2) := by decide +kernel
theorem dL_leastPassed_14 : decode cL_leastPassed 14 = .ok (.ireturn, 1) := by decide +kernel
theorem ml_L_112 : gMV RL 112 yX10_leastPassed cX10_leastPassed 3 (some .int) 2 := ⟨⟨wg_t 1117 (by decide +kernel) (by decide +kernel), wg_t 1120 (by decide +kernel) (by decide +kernel), wg_t 1 (by decide +kernel) (by decide +kernel), by decide +kernel⟩, wg_t 1118 (by decide +kernel) (by decide +kernel), wg_t 1119 (by decide +kernel) (by decide +kernel)⟩
abbrev hhL_leastPassed : List (Nat × Nat × Nat × Nat) := [(0, 6, 7, 22), (0, 6, 11, 31)]
theorem mw_L_347 : gML RL 347 yL_leastPassed cL_leastPassed 4 hhL_leastPassed 3 := ⟨wg_t 1114 (by decide +kernel) (by decide +kernel), wg_t 1116 (by decide +kernel) (by decide +kernel), wg_t 0 (by decide +kernel) (by decide +kernel), by decide +kernel, wg_t 1115 (by decide +kernel) (by decide +kernel)⟩
abbrev rmL_leastPassed : Room := { frames := 8, cells := 2, slots := 12, locals := 162 }
set_option maxHeartbeats 4000000 in
set_option maxRecDepth 100000 in
theorem metL_leastPassed {l : Launch} {s0 : State} {b B : Nat} {D : va_G} {T : Nat → ClassId} (F : FX l s0 b D T B) {X : Nat → Prop} (hX : ∀ o, o < 561 → ¬ X (B + o)) {N : Nat} {Z : Nat → Int32} {hs : List (Nat → Int32)} {t : List Nat} {a1 : Int32} {a2 : Int32} {S : RSt} (q : ∀ μ : Mem, PZ μ t Z hs → Ok (fX10_leastPassed N μ 0 a1 a2) (fun r => ∃ Z2 hs2, PZ r.1 t Z2 hs2 ∧ S Z2 hs2 t (r.2))) (hL : ∀ Z2 hs2 t2 k, S Z2 hs2 t2 (.inl k) → k = 0 ∨ k = 3) : gMetR l yL_leastPassed cL_leastPassed 4 hhL_leastPassed rmL_leastPassed [.ref (B + 0), .int a1, .int a2] (gZ s0 D T B X Z hs t) (KC s0 X) (gRS s0 D T B X S (wr [(0, (-11)), (3, (-13))])) (gA B X) 2 12 := by
  refine gMetR_of RL (by decide +kernel) rfl (Nat.le_of_ble_eq_true rfl) ?_
  intro p e s m below meth c ls hx hb hr hlocks hml hown hts htab hW hk hl hS
  have hC := FX_C F hk hx hb hown hts
  have hl : lv_has ls 4 [(0, .ref (B + 0)), (1, .int a1), (2, .int a2)] := hl
  have hS0 : va_S (gA B X) s.heap s.heap [] := va_S.rf
  obtain ⟨μ, cap, hg, hcap, hP⟩ := hW
  obtain ⟨r, hf, Z2, hs2, hP2, hSr⟩ := q μ hP
  refine lv_aload_n hx hb dL_leastPassed_0 rfl (lv_at hl 0 rfl) ?_
  refine lv_iload_n hx hb dL_leastPassed_1 rfl (lv_at hl 1 rfl) ?_
  refine lv_iload_n hx hb dL_leastPassed_2 rfl (lv_at hl 2 rfl) ?_
  refine gs_callXV (As := [.int a1, .int a2]) F hX hk hC hml hS0 hg (fun X9 hX9 => metX10_leastPassed F hX9 is_Ga hf) ml_L_112 (gw_recv hC hg.1 is_Ga.1 (is_Ga.2.2.1 (gfm s0) T B (μ 0)) rfl) ⟨rfl, rfl, (Nat.le_of_ble_eq_true rfl), (Nat.le_of_ble_eq_true rfl)⟩ rfl hl.1 rfl (Nat.le_of_ble_eq_true rfl) dL_leastPassed_3 ⟨(Nat.le_of_ble_eq_true rfl), (Nat.le_of_ble_eq_true rfl)⟩ (fun v9 ho H1 locs1 hW1 hS1 => ?_) (fun k9 ho H1 locs1 q9 ce9 hW1 hS1 hce hvm hcl => ?_)
  · obtain ⟨x9, hv9, rfl⟩ := oI_r ho
    exact gr_iret hx hb hr hlocks ⟨Z2, hs2, t, _, hSr, by rw [hv9]; rfl, ⟨r.1, cap, hW1, hcap, hP2⟩⟩ hS1 (Nat.le_of_eq (Nat.zero_add _)) (Nat.le_of_eq (Nat.zero_add _)) dL_leastPassed_6
  · have hv9 := oI_l ho
    have hL9 := hL _ _ _ k9 (by have h9 := hSr; rw [hv9] at h9; exact h9)
    rcases hL9 with rfl | rfl
    · refine vx_catch hown [] ⟨0, 6, 7, 22⟩ [⟨0, 6, 11, 31⟩] (htab.trans rfl) (fun z hz => by cases hz) (by decide) (by decide) (hts _ kl_L_22) (FX_cs F hk cs_0) hce hvm hcl ?_
      refine lv_astore_n hx hb dL_leastPassed_7 rfl hl (by decide) rfl (fun ls9 hl9 => ?_)
      refine lv_bipush (v := (-11)) hx hb dL_leastPassed_8 (by decide) ?_
      exact gr_iret hx hb hr hlocks ⟨Z2, hs2, t, _, hSr, by rw [hv9]; rfl, ⟨r.1, cap, hW1, hcap, hP2⟩⟩ hS1 (Nat.le_of_eq (Nat.zero_add _)) (Nat.le_of_eq (Nat.zero_add _)) dL_leastPassed_10
    · refine vx_catch hown [⟨0, 6, 7, 22⟩] ⟨0, 6, 11, 31⟩ [] (htab.trans rfl) (fun z hz => by cases List.mem_singleton.mp hz; exact Or.inr ⟨by decide, _, hts _ kl_L_22, FX_nc F hk nc_3_0⟩) (by decide) (by decide) (hts _ kl_L_31) (FX_cs F hk cs_3) hce hvm hcl ?_
      refine lv_astore_n hx hb dL_leastPassed_11 rfl hl (by decide) rfl (fun ls9 hl9 => ?_)
      refine lv_bipush (v := (-13)) hx hb dL_leastPassed_12 (by decide) ?_
      exact gr_iret hx hb hr hlocks ⟨Z2, hs2, t, _, hSr, by rw [hv9]; rfl, ⟨r.1, cap, hW1, hcap, hP2⟩⟩ hS1 (Nat.le_of_eq (Nat.zero_add _)) (Nat.le_of_eq (Nat.zero_add _)) dL_leastPassed_14
theorem dL_leastByRounds_0 : decode cL_leastByRounds 0 = .ok (.aload_n 0, 1) := by decide +kernel
theorem dL_leastByRounds_1 : decode cL_leastByRounds 1 = .ok (.iload_n 1, 1) := by decide +kernel
theorem dL_leastByRounds_2 : decode cL_leastByRounds 2 = .ok (.iload_n 2, 1) := by decide +kernel
theorem dL_leastByRounds_3 : decode cL_leastByRounds 3 = .ok (.invokevirtual 115, 3) := by decide +kernel
theorem dL_leastByRounds_6 : decode cL_leastByRounds 6 = .ok (.ireturn, 1) := by decide +kernel
theorem dL_leastByRounds_7 : decode cL_leastByRounds 7 = .ok (.astore_n 3, 1) := by decide +kernel
theorem dL_leastByRounds_8 : decode cL_leastByRounds 8 = .ok (.bipush (-11), 2) := by decide +kernel
theorem dL_leastByRounds_10 : decode cL_leastByRounds 10 = .ok (.ireturn, 1) := by decide +kernel
theorem dL_leastByRounds_11 : decode cL_leastByRounds 11 = .ok (.astore_n 3, 1) := by decide +kernel
theorem dL_leastByRounds_12 : decode cL_leastByRounds 12 = .ok (.bipush (-13), 2) := by decide +kernel
theorem dL_leastByRounds_14 : decode cL_leastByRounds 14 = .ok (.ireturn, 1) := by decide +kernel
theorem ml_L_115 : gMV RL 115 yX10_leastPassedByRounds cX10_leastPassedByRounds 3 (some .int) 2 := ⟨⟨wg_t 1133 (by decide +kernel) (by decide +kernel), wg_t 1136 (by decide +kernel) (by decide +kernel), wg_t 1 (by decide +kernel) (by decide +kernel), by decide +kernel⟩, wg_t 1134 (by decide +kernel) (by decide +kernel), wg_t 1135 (by decide +kernel) (by decide +kernel)⟩
abbrev hhL_leastByRounds : List (Nat × Nat × Nat × Nat) := [(0, 6, 7, 22), (0, 6, 11, 31)]
theorem mw_L_349 : gML RL 349 yL_leastByRounds cL_leastByRounds 4 hhL_leastByRounds 3 := ⟨wg_t 1130 (by decide +kernel) (by decide +kernel), wg_t 1132 (by decide +kernel) (by decide +kernel), wg_t 0 (by decide +kernel) (by decide +kernel), by decide +kernel, wg_t 1131 (by decide +kernel) (by decide +kernel)⟩
abbrev rmL_leastByRounds : Room := { frames := 8, cells := 2, slots := 12, locals := 162 }
set_option maxHeartbeats 4000000 in
set_option maxRecDepth 100000 in
theorem metL_leastByRounds {l : Launch} {s0 : State} {b B : Nat} {D : va_G} {T : Nat → ClassId} (F : FX l s0 b D T B) {X : Nat → Prop} (hX : ∀ o, o < 561 → ¬ X (B + o)) {N : Nat} {Z : Nat → Int32} {hs : List (Nat → Int32)} {t : List Nat} {a1 : Int32} {a2 : Int32} {S : RSt} (q : ∀ μ : Mem, PZ μ t Z hs → Ok (fX10_leastPassedByRounds N μ 0 a1 a2) (fun r => ∃ Z2 hs2, PZ r.1 t Z2 hs2 ∧ S Z2 hs2 t (r.2))) (hL : ∀ Z2 hs2 t2 k, S Z2 hs2 t2 (.inl k) → k = 0 ∨ k = 3) : gMetR l yL_leastByRounds cL_leastByRounds 4 hhL_leastByRounds rmL_leastByRounds [.ref (B + 0), .int a1, .int a2] (gZ s0 D T B X Z hs t) (KC s0 X) (gRS s0 D T B X S (wr [(0, (-11)), (3, (-13))])) (gA B X) 2 12 := by
  refine gMetR_of RL (by decide +kernel) rfl (Nat.le_of_ble_eq_true rfl) ?_
  intro p e s m below meth c ls hx hb hr hlocks hml hown hts htab hW hk hl hS
  have hC := FX_C F hk hx hb hown hts
  have hl : lv_has ls 4 [(0, .ref (B + 0)), (1, .int a1), (2, .int a2)] := hl
  have hS0 : va_S (gA B X) s.heap s.heap [] := va_S.rf
  obtain ⟨μ, cap, hg, hcap, hP⟩ := hW
  obtain ⟨r, hf, Z2, hs2, hP2, hSr⟩ := q μ hP
  refine lv_aload_n hx hb dL_leastByRounds_0 rfl (lv_at hl 0 rfl) ?_
  refine lv_iload_n hx hb dL_leastByRounds_1 rfl (lv_at hl 1 rfl) ?_
  refine lv_iload_n hx hb dL_leastByRounds_2 rfl (lv_at hl 2 rfl) ?_
  refine gs_callXV (As := [.int a1, .int a2]) F hX hk hC hml hS0 hg (fun X9 hX9 => metX10_leastPassedByRounds F hX9 is_Ga hf) ml_L_115 (gw_recv hC hg.1 is_Ga.1 (is_Ga.2.2.1 (gfm s0) T B (μ 0)) rfl) ⟨rfl, rfl, (Nat.le_of_ble_eq_true rfl), (Nat.le_of_ble_eq_true rfl)⟩ rfl hl.1 rfl (Nat.le_of_ble_eq_true rfl) dL_leastByRounds_3 ⟨(Nat.le_of_ble_eq_true rfl), (Nat.le_of_ble_eq_true rfl)⟩ (fun v9 ho H1 locs1 hW1 hS1 => ?_) (fun k9 ho H1 locs1 q9 ce9 hW1 hS1 hce hvm hcl => ?_)
  · obtain ⟨x9, hv9, rfl⟩ := oI_r ho
    exact gr_iret hx hb hr hlocks ⟨Z2, hs2, t, _, hSr, by rw [hv9]; rfl, ⟨r.1, cap, hW1, hcap, hP2⟩⟩ hS1 (Nat.le_of_eq (Nat.zero_add _)) (Nat.le_of_eq (Nat.zero_add _)) dL_leastByRounds_6
  · have hv9 := oI_l ho
    have hL9 := hL _ _ _ k9 (by have h9 := hSr; rw [hv9] at h9; exact h9)
    rcases hL9 with rfl | rfl
    · refine vx_catch hown [] ⟨0, 6, 7, 22⟩ [⟨0, 6, 11, 31⟩] (htab.trans rfl) (fun z hz => by cases hz) (by decide) (by decide) (hts _ kl_L_22) (FX_cs F hk cs_0) hce hvm hcl ?_
      refine lv_astore_n hx hb dL_leastByRounds_7 rfl hl (by decide) rfl (fun ls9 hl9 => ?_)
      refine lv_bipush (v := (-11)) hx hb dL_leastByRounds_8 (by decide) ?_
      exact gr_iret hx hb hr hlocks ⟨Z2, hs2, t, _, hSr, by rw [hv9]; rfl, ⟨r.1, cap, hW1, hcap, hP2⟩⟩ hS1 (Nat.le_of_eq (Nat.zero_add _)) (Nat.le_of_eq (Nat.zero_add _)) dL_leastByRounds_10
    · refine vx_catch hown [⟨0, 6, 7, 22⟩] ⟨0, 6, 11, 31⟩ [] (htab.trans rfl) (fun z hz => by cases List.mem_singleton.mp hz; exact Or.inr ⟨by decide, _, hts _ kl_L_22, FX_nc F hk nc_3_0⟩) (by decide) (by decide) (hts _ kl_L_31) (FX_cs F hk cs_3) hce hvm hcl ?_
      refine lv_astore_n hx hb dL_leastByRounds_11 rfl hl (by decide) rfl (fun ls9 hl9 => ?_)
      refine lv_bipush (v := (-13)) hx hb dL_leastByRounds_12 (by decide) ?_
      exact gr_iret hx hb hr hlocks ⟨Z2, hs2, t, _, hSr, by rw [hv9]; rfl, ⟨r.1, cap, hW1, hcap, hP2⟩⟩ hS1 (Nat.le_of_eq (Nat.zero_add _)) (Nat.le_of_eq (Nat.zero_add _)) dL_leastByRounds_14
theorem dL_bestFees_0 : decode cL_bestFees 0 = .ok (.aload_n 0, 1) := by decide +kernel
theorem dL_bestFees_1 : decode cL_bestFees 1 = .ok (.iload_n 1, 1) := by decide +kernel
theorem dL_bestFees_2 : decode cL_bestFees 2 = .ok (.invokevirtual 133, 3) := by decide +kernel
theorem dL_bestFees_5 : decode cL_bestFees 5 = .ok (.ireturn, 1) := by decide +kernel
theorem dL_bestFees_6 : decode cL_bestFees 6 = .ok (.astore_n 2, 1) := by decide +kernel
theorem dL_bestFees_7 : decode cL_bestFees 7 = .ok (.bipush (-11), 2) := by decide +kernel
theorem dL_bestFees_9 : decode cL_bestFees 9 = .ok (.ireturn, 1) := by decide +kernel
theorem ml_L_133 : gMV RL 133 yX10_bestFees cX10_bestFees 2 (some .int) 1 := ⟨⟨wg_t 1206 (by decide +kernel) (by decide +kernel), wg_t 1209 (by decide +kernel) (by decide +kernel), wg_t 1 (by decide +kernel) (by decide +kernel), by decide +kernel⟩, wg_t 1207 (by decide +kernel) (by decide +kernel), wg_t 1208 (by decide +kernel) (by decide +kernel)⟩
abbrev hhL_bestFees : List (Nat × Nat × Nat × Nat) := [(0, 5, 6, 22)]
theorem mw_L_364 : gML RL 364 yL_bestFees cL_bestFees 3 hhL_bestFees 2 := ⟨wg_t 1203 (by decide +kernel) (by decide +kernel), wg_t 1205 (by decide +kernel) (by decide +kernel), wg_t 0 (by decide +kernel) (by decide +kernel), by decide +kernel, wg_t 1204 (by decide +kernel) (by decide +kernel)⟩
abbrev rmL_bestFees : Room := { frames := 8, cells := 1, slots := 6, locals := 162 }
set_option maxHeartbeats 4000000 in
set_option maxRecDepth 100000 in
theorem metL_bestFees {l : Launch} {s0 : State} {b B : Nat} {D : va_G} {T : Nat → ClassId} (F : FX l s0 b D T B) {X : Nat → Prop} (hX : ∀ o, o < 561 → ¬ X (B + o)) {N : Nat} {Z : Nat → Int32} {hs : List (Nat → Int32)} {t : List Nat} {a1 : Int32} {S : RSt} (q : ∀ μ : Mem, PZ μ t Z hs → Ok (fX10_bestFees N μ 0 a1) (fun r => ∃ Z2 hs2, PZ r.1 t Z2 hs2 ∧ S Z2 hs2 t (r.2))) (hL : ∀ Z2 hs2 t2 k, S Z2 hs2 t2 (.inl k) → k = 0) : gMetR l yL_bestFees cL_bestFees 3 hhL_bestFees rmL_bestFees [.ref (B + 0), .int a1] (gZ s0 D T B X Z hs t) (KC s0 X) (gRS s0 D T B X S (wr [(0, (-11))])) (gA B X) 1 6 := by
  refine gMetR_of RL (by decide +kernel) rfl (Nat.le_of_ble_eq_true rfl) ?_
  intro p e s m below meth c ls hx hb hr hlocks hml hown hts htab hW hk hl hS
  have hC := FX_C F hk hx hb hown hts
  have hl : lv_has ls 3 [(0, .ref (B + 0)), (1, .int a1)] := hl
  have hS0 : va_S (gA B X) s.heap s.heap [] := va_S.rf
  obtain ⟨μ, cap, hg, hcap, hP⟩ := hW
  obtain ⟨r, hf, Z2, hs2, hP2, hSr⟩ := q μ hP
  refine lv_aload_n hx hb dL_bestFees_0 rfl (lv_at hl 0 rfl) ?_
  refine lv_iload_n hx hb dL_bestFees_1 rfl (lv_at hl 1 rfl) ?_
  refine gs_callXV (As := [.int a1]) F hX hk hC hml hS0 hg (fun X9 hX9 => metX10_bestFees F hX9 is_Ga hf) ml_L_133 (gw_recv hC hg.1 is_Ga.1 (is_Ga.2.2.1 (gfm s0) T B (μ 0)) rfl) ⟨rfl, rfl, (Nat.le_of_ble_eq_true rfl), (Nat.le_of_ble_eq_true rfl)⟩ rfl hl.1 rfl (Nat.le_of_ble_eq_true rfl) dL_bestFees_2 ⟨(Nat.le_of_ble_eq_true rfl), (Nat.le_of_ble_eq_true rfl)⟩ (fun v9 ho H1 locs1 hW1 hS1 => ?_) (fun k9 ho H1 locs1 q9 ce9 hW1 hS1 hce hvm hcl => ?_)
  · obtain ⟨x9, hv9, rfl⟩ := oI_r ho
    exact gr_iret hx hb hr hlocks ⟨Z2, hs2, t, _, hSr, by rw [hv9]; rfl, ⟨r.1, cap, hW1, hcap, hP2⟩⟩ hS1 (Nat.le_of_eq (Nat.zero_add _)) (Nat.le_of_eq (Nat.zero_add _)) dL_bestFees_5
  · have hv9 := oI_l ho
    have hL9 := hL _ _ _ k9 (by have h9 := hSr; rw [hv9] at h9; exact h9)
    subst hL9
    refine vx_catch hown [] ⟨0, 5, 6, 22⟩ [] (htab.trans rfl) (fun z hz => by cases hz) (by decide) (by decide) (hts _ kl_L_22) (FX_cs F hk cs_0) hce hvm hcl ?_
    refine lv_astore_n hx hb dL_bestFees_6 rfl hl (by decide) rfl (fun ls9 hl9 => ?_)
    refine lv_bipush (v := (-11)) hx hb dL_bestFees_7 (by decide) ?_
    exact gr_iret hx hb hr hlocks ⟨Z2, hs2, t, _, hSr, by rw [hv9]; rfl, ⟨r.1, cap, hW1, hcap, hP2⟩⟩ hS1 (Nat.le_of_eq (Nat.zero_add _)) (Nat.le_of_eq (Nat.zero_add _)) dL_bestFees_9
theorem dL_byTrials_0 : decode cL_byTrials 0 = .ok (.aload_n 0, 1) := by decide +kernel
theorem dL_byTrials_1 : decode cL_byTrials 1 = .ok (.iload_n 1, 1) := by decide +kernel
theorem dL_byTrials_2 : decode cL_byTrials 2 = .ok (.invokevirtual 136, 3) := by decide +kernel
theorem dL_byTrials_5 : decode cL_byTrials 5 = .ok (.ireturn, 1) := by decide +kernel
theorem dL_byTrials_6 : decode cL_byTrials 6 = .ok (.astore_n 2, 1) := by decide +kernel
theorem dL_byTrials_7 : decode cL_byTrials 7 = .ok (.bipush (-11), 2) := by decide +kernel
theorem dL_byTrials_9 : decode cL_byTrials 9 = .ok (.ireturn, 1) := by decide +kernel
theorem ml_L_136 : gMV RL 136 yX10_bestFeesByTrials cX10_bestFeesByTrials 3 (some .int) 1 := ⟨⟨wg_t 1213 (by decide +kernel) (by decide +kernel), wg_t 1216 (by decide +kernel) (by decide +kernel), wg_t 1 (by decide +kernel) (by decide +kernel), by decide +kernel⟩, wg_t 1214 (by decide +kernel) (by decide +kernel), wg_t 1215 (by decide +kernel) (by decide +kernel)⟩
abbrev hhL_byTrials : List (Nat × Nat × Nat × Nat) := [(0, 5, 6, 22)]
theorem mw_L_366 : gML RL 366 yL_byTrials cL_byTrials 3 hhL_byTrials 2 := ⟨wg_t 1210 (by decide +kernel) (by decide +kernel), wg_t 1212 (by decide +kernel) (by decide +kernel), wg_t 0 (by decide +kernel) (by decide +kernel), by decide +kernel, wg_t 1211 (by decide +kernel) (by decide +kernel)⟩
abbrev rmL_byTrials : Room := { frames := 8, cells := 1, slots := 6, locals := 175 }
set_option maxHeartbeats 4000000 in
set_option maxRecDepth 100000 in
theorem metL_byTrials {l : Launch} {s0 : State} {b B : Nat} {D : va_G} {T : Nat → ClassId} (F : FX l s0 b D T B) {X : Nat → Prop} (hX : ∀ o, o < 561 → ¬ X (B + o)) {N : Nat} {Z : Nat → Int32} {hs : List (Nat → Int32)} {t : List Nat} {a1 : Int32} {S : RSt} (q : ∀ μ : Mem, PZ μ t Z hs → Ok (fX10_bestFeesByTrials N μ 0 a1) (fun r => ∃ Z2 hs2, PZ r.1 t Z2 hs2 ∧ S Z2 hs2 t (r.2))) (hL : ∀ Z2 hs2 t2 k, S Z2 hs2 t2 (.inl k) → k = 0) : gMetR l yL_byTrials cL_byTrials 3 hhL_byTrials rmL_byTrials [.ref (B + 0), .int a1] (gZ s0 D T B X Z hs t) (KC s0 X) (gRS s0 D T B X S (wr [(0, (-11))])) (gA B X) 1 6 := by
  refine gMetR_of RL (by decide +kernel) rfl (Nat.le_of_ble_eq_true rfl) ?_
  intro p e s m below meth c ls hx hb hr hlocks hml hown hts htab hW hk hl hS
  have hC := FX_C F hk hx hb hown hts
  have hl : lv_has ls 3 [(0, .ref (B + 0)), (1, .int a1)] := hl
  have hS0 : va_S (gA B X) s.heap s.heap [] := va_S.rf
  obtain ⟨μ, cap, hg, hcap, hP⟩ := hW
  obtain ⟨r, hf, Z2, hs2, hP2, hSr⟩ := q μ hP
  refine lv_aload_n hx hb dL_byTrials_0 rfl (lv_at hl 0 rfl) ?_
  refine lv_iload_n hx hb dL_byTrials_1 rfl (lv_at hl 1 rfl) ?_
  refine gs_callXV (As := [.int a1]) F hX hk hC hml hS0 hg (fun X9 hX9 => metX10_bestFeesByTrials F hX9 is_Ga hf) ml_L_136 (gw_recv hC hg.1 is_Ga.1 (is_Ga.2.2.1 (gfm s0) T B (μ 0)) rfl) ⟨rfl, rfl, (Nat.le_of_ble_eq_true rfl), (Nat.le_of_ble_eq_true rfl)⟩ rfl hl.1 rfl (Nat.le_of_ble_eq_true rfl) dL_byTrials_2 ⟨(Nat.le_of_ble_eq_true rfl), (Nat.le_of_ble_eq_true rfl)⟩ (fun v9 ho H1 locs1 hW1 hS1 => ?_) (fun k9 ho H1 locs1 q9 ce9 hW1 hS1 hce hvm hcl => ?_)
  · obtain ⟨x9, hv9, rfl⟩ := oI_r ho
    exact gr_iret hx hb hr hlocks ⟨Z2, hs2, t, _, hSr, by rw [hv9]; rfl, ⟨r.1, cap, hW1, hcap, hP2⟩⟩ hS1 (Nat.le_of_eq (Nat.zero_add _)) (Nat.le_of_eq (Nat.zero_add _)) dL_byTrials_5
  · have hv9 := oI_l ho
    have hL9 := hL _ _ _ k9 (by have h9 := hSr; rw [hv9] at h9; exact h9)
    subst hL9
    refine vx_catch hown [] ⟨0, 5, 6, 22⟩ [] (htab.trans rfl) (fun z hz => by cases hz) (by decide) (by decide) (hts _ kl_L_22) (FX_cs F hk cs_0) hce hvm hcl ?_
    refine lv_astore_n hx hb dL_byTrials_6 rfl hl (by decide) rfl (fun ls9 hl9 => ?_)
    refine lv_bipush (v := (-11)) hx hb dL_byTrials_7 (by decide) ?_
    exact gr_iret hx hb hr hlocks ⟨Z2, hs2, t, _, hSr, by rw [hv9]; rfl, ⟨r.1, cap, hW1, hcap, hP2⟩⟩ hS1 (Nat.le_of_eq (Nat.zero_add _)) (Nat.le_of_eq (Nat.zero_add _)) dL_byTrials_9
theorem dL_asked_0 : decode cL_asked 0 = .ok (.aload_n 0, 1) := by decide +kernel
theorem dL_asked_1 : decode cL_asked 1 = .ok (.iload_n 1, 1) := by decide +kernel
theorem dL_asked_2 : decode cL_asked 2 = .ok (.invokevirtual 127, 3) := by decide +kernel
theorem dL_asked_5 : decode cL_asked 5 = .ok (.ireturn, 1) := by decide +kernel
theorem dL_asked_6 : decode cL_asked 6 = .ok (.astore_n 2, 1) := by decide +kernel
theorem dL_asked_7 : decode cL_asked 7 = .ok (.bipush (-11), 2) := by decide +kernel
theorem dL_asked_9 : decode cL_asked 9 = .ok (.ireturn, 1) := by decide +kernel
theorem ml_L_127 : gMV RL 127 yX10_askedCount cX10_askedCount 2 (some .int) 1 := ⟨⟨wg_t 1220 (by decide +kernel) (by decide +kernel), wg_t 1223 (by decide +kernel) (by decide +kernel), wg_t 1 (by decide +kernel) (by decide +kernel), by decide +kernel⟩, wg_t 1221 (by decide +kernel) (by decide +kernel), wg_t 1222 (by decide +kernel) (by decide +kernel)⟩
abbrev hhL_asked : List (Nat × Nat × Nat × Nat) := [(0, 5, 6, 22)]
theorem mw_L_369 : gML RL 369 yL_asked cL_asked 3 hhL_asked 2 := ⟨wg_t 1217 (by decide +kernel) (by decide +kernel), wg_t 1219 (by decide +kernel) (by decide +kernel), wg_t 0 (by decide +kernel) (by decide +kernel), by decide +kernel, wg_t 1218 (by decide +kernel) (by decide +kernel)⟩
abbrev rmL_asked : Room := { frames := 8, cells := 1, slots := 6, locals := 162 }
set_option maxHeartbeats 4000000 in
set_option maxRecDepth 100000 in
theorem metL_asked {l : Launch} {s0 : State} {b B : Nat} {D : va_G} {T : Nat → ClassId} (F : FX l s0 b D T B) {X : Nat → Prop} (hX : ∀ o, o < 561 → ¬ X (B + o)) {N : Nat} {Z : Nat → Int32} {hs : List (Nat → Int32)} {t : List Nat} {a1 : Int32} {S : RSt} (q : ∀ μ : Mem, PZ μ t Z hs → Ok (fX10_askedCount N μ 0 a1) (fun r => ∃ Z2 hs2, PZ r.1 t Z2 hs2 ∧ S Z2 hs2 t (r.2))) (hL : ∀ Z2 hs2 t2 k, S Z2 hs2 t2 (.inl k) → k = 0) : gMetR l yL_asked cL_asked 3 hhL_asked rmL_asked [.ref (B + 0), .int a1] (gZ s0 D T B X Z hs t) (KC s0 X) (gRS s0 D T B X S (wr [(0, (-11))])) (gA B X) 1 6 := by
  refine gMetR_of RL (by decide +kernel) rfl (Nat.le_of_ble_eq_true rfl) ?_
  intro p e s m below meth c ls hx hb hr hlocks hml hown hts htab hW hk hl hS
  have hC := FX_C F hk hx hb hown hts
  have hl : lv_has ls 3 [(0, .ref (B + 0)), (1, .int a1)] := hl
  have hS0 : va_S (gA B X) s.heap s.heap [] := va_S.rf
  obtain ⟨μ, cap, hg, hcap, hP⟩ := hW
  obtain ⟨r, hf, Z2, hs2, hP2, hSr⟩ := q μ hP
  refine lv_aload_n hx hb dL_asked_0 rfl (lv_at hl 0 rfl) ?_
  refine lv_iload_n hx hb dL_asked_1 rfl (lv_at hl 1 rfl) ?_
  refine gs_callXV (As := [.int a1]) F hX hk hC hml hS0 hg (fun X9 hX9 => metX10_askedCount F hX9 is_Ga hf) ml_L_127 (gw_recv hC hg.1 is_Ga.1 (is_Ga.2.2.1 (gfm s0) T B (μ 0)) rfl) ⟨rfl, rfl, (Nat.le_of_ble_eq_true rfl), (Nat.le_of_ble_eq_true rfl)⟩ rfl hl.1 rfl (Nat.le_of_ble_eq_true rfl) dL_asked_2 ⟨(Nat.le_of_ble_eq_true rfl), (Nat.le_of_ble_eq_true rfl)⟩ (fun v9 ho H1 locs1 hW1 hS1 => ?_) (fun k9 ho H1 locs1 q9 ce9 hW1 hS1 hce hvm hcl => ?_)
  · obtain ⟨x9, hv9, rfl⟩ := oI_r ho
    exact gr_iret hx hb hr hlocks ⟨Z2, hs2, t, _, hSr, by rw [hv9]; rfl, ⟨r.1, cap, hW1, hcap, hP2⟩⟩ hS1 (Nat.le_of_eq (Nat.zero_add _)) (Nat.le_of_eq (Nat.zero_add _)) dL_asked_5
  · have hv9 := oI_l ho
    have hL9 := hL _ _ _ k9 (by have h9 := hSr; rw [hv9] at h9; exact h9)
    subst hL9
    refine vx_catch hown [] ⟨0, 5, 6, 22⟩ [] (htab.trans rfl) (fun z hz => by cases hz) (by decide) (by decide) (hts _ kl_L_22) (FX_cs F hk cs_0) hce hvm hcl ?_
    refine lv_astore_n hx hb dL_asked_6 rfl hl (by decide) rfl (fun ls9 hl9 => ?_)
    refine lv_bipush (v := (-11)) hx hb dL_asked_7 (by decide) ?_
    exact gr_iret hx hb hr hlocks ⟨Z2, hs2, t, _, hSr, by rw [hv9]; rfl, ⟨r.1, cap, hW1, hcap, hP2⟩⟩ hS1 (Nat.le_of_eq (Nat.zero_add _)) (Nat.le_of_eq (Nat.zero_add _)) dL_asked_9
theorem dL_taken_0 : decode cL_taken 0 = .ok (.aload_n 0, 1) := by decide +kernel
theorem dL_taken_1 : decode cL_taken 1 = .ok (.iload_n 1, 1) := by decide +kernel
theorem dL_taken_2 : decode cL_taken 2 = .ok (.invokevirtual 130, 3) := by decide +kernel
theorem dL_taken_5 : decode cL_taken 5 = .ok (.ireturn, 1) := by decide +kernel
theorem dL_taken_6 : decode cL_taken 6 = .ok (.astore_n 2, 1) := by decide +kernel
theorem dL_taken_7 : decode cL_taken 7 = .ok (.bipush (-11), 2) := by decide +kernel
theorem dL_taken_9 : decode cL_taken 9 = .ok (.ireturn, 1) := by decide +kernel
theorem ml_L_130 : gMV RL 130 yX10_takenCount cX10_takenCount 2 (some .int) 1 := ⟨⟨wg_t 1227 (by decide +kernel) (by decide +kernel), wg_t 1230 (by decide +kernel) (by decide +kernel), wg_t 1 (by decide +kernel) (by decide +kernel), by decide +kernel⟩, wg_t 1228 (by decide +kernel) (by decide +kernel), wg_t 1229 (by decide +kernel) (by decide +kernel)⟩
abbrev hhL_taken : List (Nat × Nat × Nat × Nat) := [(0, 5, 6, 22)]
theorem mw_L_372 : gML RL 372 yL_taken cL_taken 3 hhL_taken 2 := ⟨wg_t 1224 (by decide +kernel) (by decide +kernel), wg_t 1226 (by decide +kernel) (by decide +kernel), wg_t 0 (by decide +kernel) (by decide +kernel), by decide +kernel, wg_t 1225 (by decide +kernel) (by decide +kernel)⟩
abbrev rmL_taken : Room := { frames := 8, cells := 1, slots := 6, locals := 162 }
set_option maxHeartbeats 4000000 in
set_option maxRecDepth 100000 in
theorem metL_taken {l : Launch} {s0 : State} {b B : Nat} {D : va_G} {T : Nat → ClassId} (F : FX l s0 b D T B) {X : Nat → Prop} (hX : ∀ o, o < 561 → ¬ X (B + o)) {N : Nat} {Z : Nat → Int32} {hs : List (Nat → Int32)} {t : List Nat} {a1 : Int32} {S : RSt} (q : ∀ μ : Mem, PZ μ t Z hs → Ok (fX10_takenCount N μ 0 a1) (fun r => ∃ Z2 hs2, PZ r.1 t Z2 hs2 ∧ S Z2 hs2 t (r.2))) (hL : ∀ Z2 hs2 t2 k, S Z2 hs2 t2 (.inl k) → k = 0) : gMetR l yL_taken cL_taken 3 hhL_taken rmL_taken [.ref (B + 0), .int a1] (gZ s0 D T B X Z hs t) (KC s0 X) (gRS s0 D T B X S (wr [(0, (-11))])) (gA B X) 1 6 := by
  refine gMetR_of RL (by decide +kernel) rfl (Nat.le_of_ble_eq_true rfl) ?_
  intro p e s m below meth c ls hx hb hr hlocks hml hown hts htab hW hk hl hS
  have hC := FX_C F hk hx hb hown hts
  have hl : lv_has ls 3 [(0, .ref (B + 0)), (1, .int a1)] := hl
  have hS0 : va_S (gA B X) s.heap s.heap [] := va_S.rf
  obtain ⟨μ, cap, hg, hcap, hP⟩ := hW
  obtain ⟨r, hf, Z2, hs2, hP2, hSr⟩ := q μ hP
  refine lv_aload_n hx hb dL_taken_0 rfl (lv_at hl 0 rfl) ?_
  refine lv_iload_n hx hb dL_taken_1 rfl (lv_at hl 1 rfl) ?_
  refine gs_callXV (As := [.int a1]) F hX hk hC hml hS0 hg (fun X9 hX9 => metX10_takenCount F hX9 is_Ga hf) ml_L_130 (gw_recv hC hg.1 is_Ga.1 (is_Ga.2.2.1 (gfm s0) T B (μ 0)) rfl) ⟨rfl, rfl, (Nat.le_of_ble_eq_true rfl), (Nat.le_of_ble_eq_true rfl)⟩ rfl hl.1 rfl (Nat.le_of_ble_eq_true rfl) dL_taken_2 ⟨(Nat.le_of_ble_eq_true rfl), (Nat.le_of_ble_eq_true rfl)⟩ (fun v9 ho H1 locs1 hW1 hS1 => ?_) (fun k9 ho H1 locs1 q9 ce9 hW1 hS1 hce hvm hcl => ?_)
  · obtain ⟨x9, hv9, rfl⟩ := oI_r ho
    exact gr_iret hx hb hr hlocks ⟨Z2, hs2, t, _, hSr, by rw [hv9]; rfl, ⟨r.1, cap, hW1, hcap, hP2⟩⟩ hS1 (Nat.le_of_eq (Nat.zero_add _)) (Nat.le_of_eq (Nat.zero_add _)) dL_taken_5
  · have hv9 := oI_l ho
    have hL9 := hL _ _ _ k9 (by have h9 := hSr; rw [hv9] at h9; exact h9)
    subst hL9
    refine vx_catch hown [] ⟨0, 5, 6, 22⟩ [] (htab.trans rfl) (fun z hz => by cases hz) (by decide) (by decide) (hts _ kl_L_22) (FX_cs F hk cs_0) hce hvm hcl ?_
    refine lv_astore_n hx hb dL_taken_6 rfl hl (by decide) rfl (fun ls9 hl9 => ?_)
    refine lv_bipush (v := (-11)) hx hb dL_taken_7 (by decide) ?_
    exact gr_iret hx hb hr hlocks ⟨Z2, hs2, t, _, hSr, by rw [hv9]; rfl, ⟨r.1, cap, hW1, hcap, hP2⟩⟩ hS1 (Nat.le_of_eq (Nat.zero_add _)) (Nat.le_of_eq (Nat.zero_add _)) dL_taken_9
theorem dL_isLent_0 : decode cL_isLent 0 = .ok (.aload_n 0, 1) := by decide +kernel
theorem dL_isLent_1 : decode cL_isLent 1 = .ok (.iload_n 1, 1) := by decide +kernel
theorem dL_isLent_2 : decode cL_isLent 2 = .ok (.iload_n 2, 1) := by decide +kernel
theorem dL_isLent_3 : decode cL_isLent 3 = .ok (.invokevirtual 139, 3) := by decide +kernel
theorem dL_isLent_6 : decode cL_isLent 6 = .ok (.ifCond .eq 7, 3) := by decide +kernel
theorem dL_isLent_9 : decode cL_isLent 9 = .ok (.iconst 1, 1) := by decide +kernel
theorem dL_isLent_10 : decode cL_isLent 10 = .ok (.goto 4, 3) := by decide +kernel
theorem dL_isLent_13 : decode cL_isLent 13 = .ok (.iconst 0, 1) := by decide +kernel
theorem dL_isLent_14 : decode cL_isLent 14 = .ok (.ireturn, 1) := by decide +kernel
theorem dL_isLent_15 : decode cL_isLent 15 = .ok (.astore_n 3, 1) := by decide +kernel
theorem dL_isLent_16 : decode cL_isLent 16 = .ok (.bipush (-11), 2) := by decide +kernel
theorem dL_isLent_18 : decode cL_isLent 18 = .ok (.ireturn, 1) := by decide +kernel
theorem ml_L_139 : gMV RL 139 yX10_isLent cX10_isLent 3 (some .boolean) 2 := ⟨⟨wg_t 1096 (by decide +kernel) (by decide +kernel), wg_t 1099 (by decide +kernel) (by decide +kernel), wg_t 1 (by decide +kernel) (by decide +kernel), by decide +kernel⟩, wg_t 1097 (by decide +kernel) (by decide +kernel), wg_t 1098 (by decide +kernel) (by decide +kernel)⟩
abbrev hhL_isLent : List (Nat × Nat × Nat × Nat) := [(0, 14, 15, 22)]
theorem mw_L_375 : gML RL 375 yL_isLent cL_isLent 4 hhL_isLent 3 := ⟨wg_t 1231 (by decide +kernel) (by decide +kernel), wg_t 1233 (by decide +kernel) (by decide +kernel), wg_t 0 (by decide +kernel) (by decide +kernel), by decide +kernel, wg_t 1232 (by decide +kernel) (by decide +kernel)⟩
abbrev rmL_isLent : Room := { frames := 8, cells := 1, slots := 6, locals := 163 }
set_option maxHeartbeats 4000000 in
set_option maxRecDepth 100000 in
theorem metL_isLent {l : Launch} {s0 : State} {b B : Nat} {D : va_G} {T : Nat → ClassId} (F : FX l s0 b D T B) {X : Nat → Prop} (hX : ∀ o, o < 561 → ¬ X (B + o)) {N : Nat} {Z : Nat → Int32} {hs : List (Nat → Int32)} {t : List Nat} {a1 : Int32} {a2 : Int32} {S : RSt} (q : ∀ μ : Mem, PZ μ t Z hs → Ok (fX10_isLent N μ 0 a1 a2) (fun r => ∃ Z2 hs2, PZ r.1 t Z2 hs2 ∧ S Z2 hs2 t (oB r.2))) (hL : ∀ Z2 hs2 t2 k, S Z2 hs2 t2 (.inl k) → k = 0) : gMetR l yL_isLent cL_isLent 4 hhL_isLent rmL_isLent [.ref (B + 0), .int a1, .int a2] (gZ s0 D T B X Z hs t) (KC s0 X) (gRS s0 D T B X S (wr [(0, (-11))])) (gA B X) 1 6 := by
  refine gMetR_of RL (by decide +kernel) rfl (Nat.le_of_ble_eq_true rfl) ?_
  intro p e s m below meth c ls hx hb hr hlocks hml hown hts htab hW hk hl hS
  have hC := FX_C F hk hx hb hown hts
  have hl : lv_has ls 4 [(0, .ref (B + 0)), (1, .int a1), (2, .int a2)] := hl
  have hS0 : va_S (gA B X) s.heap s.heap [] := va_S.rf
  obtain ⟨μ, cap, hg, hcap, hP⟩ := hW
  obtain ⟨r, hf, Z2, hs2, hP2, hSr⟩ := q μ hP
  refine lv_aload_n hx hb dL_isLent_0 rfl (lv_at hl 0 rfl) ?_
  refine lv_iload_n hx hb dL_isLent_1 rfl (lv_at hl 1 rfl) ?_
  refine lv_iload_n hx hb dL_isLent_2 rfl (lv_at hl 2 rfl) ?_
  refine gs_callXV (As := [.int a1, .int a2]) F hX hk hC hml hS0 hg (fun X9 hX9 => metX10_isLent F hX9 is_Ga hf) ml_L_139 (gw_recv hC hg.1 is_Ga.1 (is_Ga.2.2.1 (gfm s0) T B (μ 0)) rfl) ⟨rfl, rfl, (Nat.le_of_ble_eq_true rfl), (Nat.le_of_ble_eq_true rfl)⟩ rfl hl.1 rfl (Nat.le_of_ble_eq_true rfl) dL_isLent_3 ⟨(Nat.le_of_ble_eq_true rfl), (Nat.le_of_ble_eq_true rfl)⟩ (fun v9 ho H1 locs1 hW1 hS1 => ?_) (fun k9 ho H1 locs1 q9 ce9 hW1 hS1 hce hvm hcl => ?_)
  · obtain ⟨x9, hv9, rfl⟩ := oZ_r ho
    refine gw_if_eqZ (tgt := 13) hx hb dL_isLent_6 (by decide) (fun c9 => ?_) (fun c9 => ?_)
    · cases c9
      refine lv_iconst (v := 0) hx hb dL_isLent_13 (by decide) ?_
      exact gr_iret hx hb hr hlocks ⟨Z2, hs2, t, _, hSr, by rw [hv9]; rfl, ⟨r.1, cap, hW1, hcap, hP2⟩⟩ hS1 (Nat.le_of_eq (Nat.zero_add _)) (Nat.le_of_eq (Nat.zero_add _)) dL_isLent_14
    · cases c9
      refine lv_iconst (v := 1) hx hb dL_isLent_9 (by decide) ?_
      refine lv_goto (tgt := 14) hx hb dL_isLent_10 (by decide) ?_
      exact gr_iret hx hb hr hlocks ⟨Z2, hs2, t, _, hSr, by rw [hv9]; rfl, ⟨r.1, cap, hW1, hcap, hP2⟩⟩ hS1 (Nat.le_of_eq (Nat.zero_add _)) (Nat.le_of_eq (Nat.zero_add _)) dL_isLent_14
  · have hv9 := oZ_l ho
    have hL9 := hL _ _ _ k9 (by have h9 := hSr; rw [hv9] at h9; exact h9)
    subst hL9
    refine vx_catch hown [] ⟨0, 14, 15, 22⟩ [] (htab.trans rfl) (fun z hz => by cases hz) (by decide) (by decide) (hts _ kl_L_22) (FX_cs F hk cs_0) hce hvm hcl ?_
    refine lv_astore_n hx hb dL_isLent_15 rfl hl (by decide) rfl (fun ls9 hl9 => ?_)
    refine lv_bipush (v := (-11)) hx hb dL_isLent_16 (by decide) ?_
    exact gr_iret hx hb hr hlocks ⟨Z2, hs2, t, _, hSr, by rw [hv9]; rfl, ⟨r.1, cap, hW1, hcap, hP2⟩⟩ hS1 (Nat.le_of_eq (Nat.zero_add _)) (Nat.le_of_eq (Nat.zero_add _)) dL_isLent_18
theorem dL_writePile_0 : decode cL_writePile 0 = .ok (.aload_n 0, 1) := by decide +kernel
theorem dL_writePile_1 : decode cL_writePile 1 = .ok (.iload_n 1, 1) := by decide +kernel
theorem dL_writePile_2 : decode cL_writePile 2 = .ok (.invokevirtual 150, 3) := by decide +kernel
theorem dL_writePile_5 : decode cL_writePile 5 = .ok (.ireturn, 1) := by decide +kernel
theorem dL_writePile_6 : decode cL_writePile 6 = .ok (.astore_n 2, 1) := by decide +kernel
theorem dL_writePile_7 : decode cL_writePile 7 = .ok (.bipush (-11), 2) := by decide +kernel
theorem dL_writePile_9 : decode cL_writePile 9 = .ok (.ireturn, 1) := by decide +kernel
theorem ml_L_150 : gMV RL 150 yX10_writePile cX10_writePile 4 (some .int) 1 := ⟨⟨wg_t 1446 (by decide +kernel) (by decide +kernel), wg_t 1449 (by decide +kernel) (by decide +kernel), wg_t 1 (by decide +kernel) (by decide +kernel), by decide +kernel⟩, wg_t 1447 (by decide +kernel) (by decide +kernel), wg_t 1448 (by decide +kernel) (by decide +kernel)⟩
abbrev hhL_writePile : List (Nat × Nat × Nat × Nat) := [(0, 5, 6, 22)]
theorem mw_L_398 : gML RL 398 yL_writePile cL_writePile 3 hhL_writePile 2 := ⟨wg_t 1443 (by decide +kernel) (by decide +kernel), wg_t 1445 (by decide +kernel) (by decide +kernel), wg_t 0 (by decide +kernel) (by decide +kernel), by decide +kernel, wg_t 1444 (by decide +kernel) (by decide +kernel)⟩
abbrev rmL_writePile : Room := { frames := 11, cells := 36, slots := 10506, locals := 283 }
set_option maxHeartbeats 4000000 in
set_option maxRecDepth 100000 in
theorem metL_writePile {l : Launch} {s0 : State} {b B : Nat} {D : va_G} {T : Nat → ClassId} (F : FX l s0 b D T B) {X : Nat → Prop} (hX : ∀ o, o < 561 → ¬ X (B + o)) {N : Nat} {Z : Nat → Int32} {hs : List (Nat → Int32)} {t : List Nat} {a1 : Int32} {S : RSt} (hN : ∀ x ds, dcN x = some ds → NumP N x ds) (q : ∀ (μ : Mem) (cap : Nat), cap ≤ 70 → PZ μ t Z hs → Ok (fX10_writePile N cap t μ 0 a1) (fun r => PZ r.1.1 r.1.2.2 Z hs ∧ r.1.2.1 ≤ 70 ∧ S Z hs r.1.2.2 r.2)) (hL : ∀ Z2 hs2 t2 k, S Z2 hs2 t2 (.inl k) → k = 0) : gMetR l yL_writePile cL_writePile 3 hhL_writePile rmL_writePile [.ref (B + 0), .int a1] (gZ s0 D T B X Z hs t) (KC s0 X) (gRS s0 D T B X S (wr [(0, (-11))])) (gA B X) 36 10506 := by
  refine gMetR_of RL (by decide +kernel) rfl (Nat.le_of_ble_eq_true rfl) ?_
  intro p e s m below meth c ls hx hb hr hlocks hml hown hts htab hW hk hl hS
  have hC := FX_C F hk hx hb hown hts
  have hl : lv_has ls 3 [(0, .ref (B + 0)), (1, .int a1)] := hl
  have hS0 : va_S (gA B X) s.heap s.heap [] := va_S.rf
  obtain ⟨μ, cap, hg, hcap, hP⟩ := hW
  obtain ⟨r, hf, hP2, hcap2, hSr⟩ := q μ cap hcap hP
  refine lv_aload_n hx hb dL_writePile_0 rfl (lv_at hl 0 rfl) ?_
  refine lv_iload_n hx hb dL_writePile_1 rfl (lv_at hl 1 rfl) ?_
  refine gx_callV (As := [.int a1]) hC hml hS0 hg (KC_at hk hS0 F.2.2.2.2) KC_blind (metX10_writePile F hX is_Ga hN hf) ml_L_150 (gw_recv hC hg.1 is_Ga.1 (is_Ga.2.2.1 (gfm s0) T B (μ 0)) rfl) ⟨rfl, rfl, (Nat.le_of_ble_eq_true rfl), (Nat.le_of_ble_eq_true rfl)⟩ rfl hl.1 rfl (Nat.le_of_ble_eq_true rfl) dL_writePile_2 ⟨(Nat.le_of_ble_eq_true rfl), (Nat.le_of_ble_eq_true rfl)⟩ (fun v9 ho H1 locs1 hW1 hS1 => ?_) (fun k9 ho H1 locs1 q9 ce9 hW1 hS1 hce hvm hcl => ?_)
  · obtain ⟨x9, hv9, rfl⟩ := oI_r ho
    exact gr_iret hx hb hr hlocks ⟨Z, hs, r.1.2.2, _, hSr, by rw [hv9]; rfl, ⟨r.1.1, r.1.2.1, hW1, hcap2, hP2⟩⟩ hS1 (Nat.le_of_eq (Nat.zero_add _)) (Nat.le_of_eq (Nat.zero_add _)) dL_writePile_5
  · have hv9 := oI_l ho
    have hL9 := hL _ _ _ k9 (by have h9 := hSr; rw [hv9] at h9; exact h9)
    subst hL9
    refine vx_catch hown [] ⟨0, 5, 6, 22⟩ [] (htab.trans rfl) (fun z hz => by cases hz) (by decide) (by decide) (hts _ kl_L_22) (FX_cs F hk cs_0) hce hvm hcl ?_
    refine lv_astore_n hx hb dL_writePile_6 rfl hl (by decide) rfl (fun ls9 hl9 => ?_)
    refine lv_bipush (v := (-11)) hx hb dL_writePile_7 (by decide) ?_
    exact gr_iret hx hb hr hlocks ⟨Z, hs, r.1.2.2, _, hSr, by rw [hv9]; rfl, ⟨r.1.1, r.1.2.1, hW1, hcap2, hP2⟩⟩ hS1 (Nat.le_of_eq (Nat.zero_add _)) (Nat.le_of_eq (Nat.zero_add _)) dL_writePile_9
theorem dL_outputAt_0 : decode cL_outputAt 0 = .ok (.aload_n 0, 1) := by decide +kernel
theorem dL_outputAt_1 : decode cL_outputAt 1 = .ok (.iload_n 1, 1) := by decide +kernel
theorem dL_outputAt_2 : decode cL_outputAt 2 = .ok (.invokevirtual 156, 3) := by decide +kernel
theorem dL_outputAt_5 : decode cL_outputAt 5 = .ok (.ireturn, 1) := by decide +kernel
theorem dL_outputAt_6 : decode cL_outputAt 6 = .ok (.astore_n 2, 1) := by decide +kernel
theorem dL_outputAt_7 : decode cL_outputAt 7 = .ok (.bipush (-11), 2) := by decide +kernel
theorem dL_outputAt_9 : decode cL_outputAt 9 = .ok (.ireturn, 1) := by decide +kernel
theorem ml_L_156 : gMV RL 156 yX10_outputCharacter cX10_outputCharacter 2 (some .char) 1 := ⟨⟨wg_t 1533 (by decide +kernel) (by decide +kernel), wg_t 1536 (by decide +kernel) (by decide +kernel), wg_t 1 (by decide +kernel) (by decide +kernel), by decide +kernel⟩, wg_t 1534 (by decide +kernel) (by decide +kernel), wg_t 1535 (by decide +kernel) (by decide +kernel)⟩
abbrev hhL_outputAt : List (Nat × Nat × Nat × Nat) := [(0, 5, 6, 22)]
theorem mw_L_377 : gML RL 377 yL_outputAt cL_outputAt 3 hhL_outputAt 2 := ⟨wg_t 1530 (by decide +kernel) (by decide +kernel), wg_t 1532 (by decide +kernel) (by decide +kernel), wg_t 0 (by decide +kernel) (by decide +kernel), by decide +kernel, wg_t 1531 (by decide +kernel) (by decide +kernel)⟩
abbrev rmL_outputAt : Room := { frames := 9, cells := 1, slots := 6, locals := 241 }
set_option maxHeartbeats 4000000 in
set_option maxRecDepth 100000 in
theorem metL_outputAt {l : Launch} {s0 : State} {b B : Nat} {D : va_G} {T : Nat → ClassId} (F : FX l s0 b D T B) {X : Nat → Prop} (hX : ∀ o, o < 561 → ¬ X (B + o)) {N : Nat} {Z : Nat → Int32} {hs : List (Nat → Int32)} {t : List Nat} {a1 : Int32} {S : RSt} (q : S Z hs t (oC t a1)) (hL : ∀ Z2 hs2 t2 k, S Z2 hs2 t2 (.inl k) → k = 0) : gMetR l yL_outputAt cL_outputAt 3 hhL_outputAt rmL_outputAt [.ref (B + 0), .int a1] (gZ s0 D T B X Z hs t) (KC s0 X) (gRS s0 D T B X S (wr [(0, (-11))])) (gA B X) 1 6 := by
  refine gMetR_of RL (by decide +kernel) rfl (Nat.le_of_ble_eq_true rfl) ?_
  intro p e s m below meth c ls hx hb hr hlocks hml hown hts htab hW hk hl hS
  have hC := FX_C F hk hx hb hown hts
  have hl : lv_has ls 3 [(0, .ref (B + 0)), (1, .int a1)] := hl
  have hS0 : va_S (gA B X) s.heap s.heap [] := va_S.rf
  obtain ⟨μ, cap, hg, hcap, hP⟩ := hW
  have hSr := q
  refine lv_aload_n hx hb dL_outputAt_0 rfl (lv_at hl 0 rfl) ?_
  refine lv_iload_n hx hb dL_outputAt_1 rfl (lv_at hl 1 rfl) ?_
  refine gx_callV (As := [.int a1]) hC hml hS0 hg (KC_at hk hS0 F.2.2.2.2) KC_blind (oC_met F) ml_L_156 (gw_recv hC hg.1 is_Ga.1 (is_Ga.2.2.1 (gfm s0) T B (μ 0)) rfl) ⟨rfl, rfl, (Nat.le_of_ble_eq_true rfl), (Nat.le_of_ble_eq_true rfl)⟩ rfl hl.1 rfl (Nat.le_of_ble_eq_true rfl) dL_outputAt_2 ⟨(Nat.le_of_ble_eq_true rfl), (Nat.le_of_ble_eq_true rfl)⟩ (fun v9 ho H1 locs1 hW1 hS1 => ?_) (fun k9 ho H1 locs1 q9 ce9 hW1 hS1 hce hvm hcl => ?_)
  · obtain ⟨x9, hv9, rfl⟩ := oI_r ho
    exact gr_iret hx hb hr hlocks ⟨Z, hs, t, _, hSr, by rw [hv9]; rfl, ⟨μ, cap, hW1, hcap, hP⟩⟩ hS1 (Nat.le_of_eq (Nat.zero_add _)) (Nat.le_of_eq (Nat.zero_add _)) dL_outputAt_5
  · have hv9 := oI_l ho
    have hL9 := hL _ _ _ k9 (by have h9 := hSr; rw [hv9] at h9; exact h9)
    subst hL9
    refine vx_catch hown [] ⟨0, 5, 6, 22⟩ [] (htab.trans rfl) (fun z hz => by cases hz) (by decide) (by decide) (hts _ kl_L_22) (FX_cs F hk cs_0) hce hvm hcl ?_
    refine lv_astore_n hx hb dL_outputAt_6 rfl hl (by decide) rfl (fun ls9 hl9 => ?_)
    refine lv_bipush (v := (-11)) hx hb dL_outputAt_7 (by decide) ?_
    exact gr_iret hx hb hr hlocks ⟨Z, hs, t, _, hSr, by rw [hv9]; rfl, ⟨μ, cap, hW1, hcap, hP⟩⟩ hS1 (Nat.le_of_eq (Nat.zero_add _)) (Nat.le_of_eq (Nat.zero_add _)) dL_outputAt_9
theorem dL_writeWay_0 : decode cL_writeWay 0 = .ok (.aload_n 0, 1) := by decide +kernel
theorem dL_writeWay_1 : decode cL_writeWay 1 = .ok (.iload_n 1, 1) := by decide +kernel
theorem dL_writeWay_2 : decode cL_writeWay 2 = .ok (.iload_n 2, 1) := by decide +kernel
theorem dL_writeWay_3 : decode cL_writeWay 3 = .ok (.invokevirtual 153, 3) := by decide +kernel
theorem dL_writeWay_6 : decode cL_writeWay 6 = .ok (.ireturn, 1) := by decide +kernel
theorem dL_writeWay_7 : decode cL_writeWay 7 = .ok (.astore_n 3, 1) := by decide +kernel
theorem dL_writeWay_8 : decode cL_writeWay 8 = .ok (.bipush (-11), 2) := by decide +kernel
theorem dL_writeWay_10 : decode cL_writeWay 10 = .ok (.ireturn, 1) := by decide +kernel
theorem dL_writeWay_11 : decode cL_writeWay 11 = .ok (.astore_n 3, 1) := by decide +kernel
theorem dL_writeWay_12 : decode cL_writeWay 12 = .ok (.bipush (-13), 2) := by decide +kernel
theorem dL_writeWay_14 : decode cL_writeWay 14 = .ok (.ireturn, 1) := by decide +kernel
theorem ml_L_153 : gMV RL 153 yX10_writeWay cX10_writeWay 4 (some .int) 2 := ⟨⟨wg_t 1568 (by decide +kernel) (by decide +kernel), wg_t 1571 (by decide +kernel) (by decide +kernel), wg_t 1 (by decide +kernel) (by decide +kernel), by decide +kernel⟩, wg_t 1569 (by decide +kernel) (by decide +kernel), wg_t 1570 (by decide +kernel) (by decide +kernel)⟩
abbrev hhL_writeWay : List (Nat × Nat × Nat × Nat) := [(0, 6, 7, 22), (0, 6, 11, 31)]
theorem mw_L_408 : gML RL 408 yL_writeWay cL_writeWay 4 hhL_writeWay 3 := ⟨wg_t 1565 (by decide +kernel) (by decide +kernel), wg_t 1567 (by decide +kernel) (by decide +kernel), wg_t 0 (by decide +kernel) (by decide +kernel), by decide +kernel, wg_t 1566 (by decide +kernel) (by decide +kernel)⟩
abbrev rmL_writeWay : Room := { frames := 11, cells := 21, slots := 5712, locals := 283 }
set_option maxHeartbeats 4000000 in
set_option maxRecDepth 100000 in
theorem metL_writeWay {l : Launch} {s0 : State} {b B : Nat} {D : va_G} {T : Nat → ClassId} (F : FX l s0 b D T B) {X : Nat → Prop} (hX : ∀ o, o < 561 → ¬ X (B + o)) {N : Nat} {Z : Nat → Int32} {hs : List (Nat → Int32)} {t : List Nat} {a1 : Int32} {a2 : Int32} {S : RSt} (hN : ∀ x ds, dcN x = some ds → NumP N x ds) (q : ∀ (μ : Mem) (cap : Nat), cap ≤ 70 → PZ μ t Z hs → Ok (fX10_writeWay N cap t μ 0 a1 a2) (fun r => PZ r.1.1 r.1.2.2 Z hs ∧ r.1.2.1 ≤ 70 ∧ S Z hs r.1.2.2 r.2)) (hL : ∀ Z2 hs2 t2 k, S Z2 hs2 t2 (.inl k) → k = 0 ∨ k = 3) : gMetR l yL_writeWay cL_writeWay 4 hhL_writeWay rmL_writeWay [.ref (B + 0), .int a1, .int a2] (gZ s0 D T B X Z hs t) (KC s0 X) (gRS s0 D T B X S (wr [(0, (-11)), (3, (-13))])) (gA B X) 21 5712 := by
  refine gMetR_of RL (by decide +kernel) rfl (Nat.le_of_ble_eq_true rfl) ?_
  intro p e s m below meth c ls hx hb hr hlocks hml hown hts htab hW hk hl hS
  have hC := FX_C F hk hx hb hown hts
  have hl : lv_has ls 4 [(0, .ref (B + 0)), (1, .int a1), (2, .int a2)] := hl
  have hS0 : va_S (gA B X) s.heap s.heap [] := va_S.rf
  obtain ⟨μ, cap, hg, hcap, hP⟩ := hW
  obtain ⟨r, hf, hP2, hcap2, hSr⟩ := q μ cap hcap hP
  refine lv_aload_n hx hb dL_writeWay_0 rfl (lv_at hl 0 rfl) ?_
  refine lv_iload_n hx hb dL_writeWay_1 rfl (lv_at hl 1 rfl) ?_
  refine lv_iload_n hx hb dL_writeWay_2 rfl (lv_at hl 2 rfl) ?_
  refine gx_callV (As := [.int a1, .int a2]) hC hml hS0 hg (KC_at hk hS0 F.2.2.2.2) KC_blind (metX10_writeWay F hX is_Ga hN hf) ml_L_153 (gw_recv hC hg.1 is_Ga.1 (is_Ga.2.2.1 (gfm s0) T B (μ 0)) rfl) ⟨rfl, rfl, (Nat.le_of_ble_eq_true rfl), (Nat.le_of_ble_eq_true rfl)⟩ rfl hl.1 rfl (Nat.le_of_ble_eq_true rfl) dL_writeWay_3 ⟨(Nat.le_of_ble_eq_true rfl), (Nat.le_of_ble_eq_true rfl)⟩ (fun v9 ho H1 locs1 hW1 hS1 => ?_) (fun k9 ho H1 locs1 q9 ce9 hW1 hS1 hce hvm hcl => ?_)
  · obtain ⟨x9, hv9, rfl⟩ := oI_r ho
    exact gr_iret hx hb hr hlocks ⟨Z, hs, r.1.2.2, _, hSr, by rw [hv9]; rfl, ⟨r.1.1, r.1.2.1, hW1, hcap2, hP2⟩⟩ hS1 (Nat.le_of_eq (Nat.zero_add _)) (Nat.le_of_eq (Nat.zero_add _)) dL_writeWay_6
  · have hv9 := oI_l ho
    have hL9 := hL _ _ _ k9 (by have h9 := hSr; rw [hv9] at h9; exact h9)
    rcases hL9 with rfl | rfl
    · refine vx_catch hown [] ⟨0, 6, 7, 22⟩ [⟨0, 6, 11, 31⟩] (htab.trans rfl) (fun z hz => by cases hz) (by decide) (by decide) (hts _ kl_L_22) (FX_cs F hk cs_0) hce hvm hcl ?_
      refine lv_astore_n hx hb dL_writeWay_7 rfl hl (by decide) rfl (fun ls9 hl9 => ?_)
      refine lv_bipush (v := (-11)) hx hb dL_writeWay_8 (by decide) ?_
      exact gr_iret hx hb hr hlocks ⟨Z, hs, r.1.2.2, _, hSr, by rw [hv9]; rfl, ⟨r.1.1, r.1.2.1, hW1, hcap2, hP2⟩⟩ hS1 (Nat.le_of_eq (Nat.zero_add _)) (Nat.le_of_eq (Nat.zero_add _)) dL_writeWay_10
    · refine vx_catch hown [⟨0, 6, 7, 22⟩] ⟨0, 6, 11, 31⟩ [] (htab.trans rfl) (fun z hz => by cases List.mem_singleton.mp hz; exact Or.inr ⟨by decide, _, hts _ kl_L_22, FX_nc F hk nc_3_0⟩) (by decide) (by decide) (hts _ kl_L_31) (FX_cs F hk cs_3) hce hvm hcl ?_
      refine lv_astore_n hx hb dL_writeWay_11 rfl hl (by decide) rfl (fun ls9 hl9 => ?_)
      refine lv_bipush (v := (-13)) hx hb dL_writeWay_12 (by decide) ?_
      exact gr_iret hx hb hr hlocks ⟨Z, hs, r.1.2.2, _, hSr, by rw [hv9]; rfl, ⟨r.1.1, r.1.2.1, hW1, hcap2, hP2⟩⟩ hS1 (Nat.le_of_eq (Nat.zero_add _)) (Nat.le_of_eq (Nat.zero_add _)) dL_writeWay_14
theorem dL_setWarmth_0 : decode cL_setWarmth 0 = .ok (.aload_n 0, 1) := by decide +kernel
theorem dL_setWarmth_1 : decode cL_setWarmth 1 = .ok (.iload_n 1, 1) := by decide +kernel
theorem dL_setWarmth_2 : decode cL_setWarmth 2 = .ok (.iload_n 2, 1) := by decide +kernel
theorem dL_setWarmth_3 : decode cL_setWarmth 3 = .ok (.invokevirtual 18, 3) := by decide +kernel
theorem dL_setWarmth_6 : decode cL_setWarmth 6 = .ok (.ireturn, 1) := by decide +kernel
theorem dL_setWarmth_7 : decode cL_setWarmth 7 = .ok (.astore_n 3, 1) := by decide +kernel
theorem dL_setWarmth_8 : decode cL_setWarmth 8 = .ok (.iconst (-1), 1) := by decide +kernel
theorem dL_setWarmth_9 : decode cL_setWarmth 9 = .ok (.ireturn, 1) := by decide +kernel
theorem dL_setWarmth_10 : decode cL_setWarmth 10 = .ok (.astore_n 3, 1) := by decide +kernel
theorem dL_setWarmth_11 : decode cL_setWarmth 11 = .ok (.bipush (-2), 2) := by decide +kernel
theorem dL_setWarmth_13 : decode cL_setWarmth 13 = .ok (.ireturn, 1) := by decide +kernel
theorem ml_L_18 : gMV RL 18 yX10_setWarmth cX10_setWarmth 4 (some .int) 2 := ⟨⟨wg_t 1595 (by decide +kernel) (by decide +kernel), wg_t 1598 (by decide +kernel) (by decide +kernel), wg_t 1 (by decide +kernel) (by decide +kernel), by decide +kernel⟩, wg_t 1596 (by decide +kernel) (by decide +kernel), wg_t 1597 (by decide +kernel) (by decide +kernel)⟩
abbrev hhL_setWarmth : List (Nat × Nat × Nat × Nat) := [(0, 6, 7, 22), (0, 6, 10, 14)]
theorem mw_L_437 : gML RL 437 yL_setWarmth cL_setWarmth 4 hhL_setWarmth 3 := ⟨wg_t 1592 (by decide +kernel) (by decide +kernel), wg_t 1594 (by decide +kernel) (by decide +kernel), wg_t 0 (by decide +kernel) (by decide +kernel), by decide +kernel, wg_t 1593 (by decide +kernel) (by decide +kernel)⟩
abbrev rmL_setWarmth : Room := { frames := 8, cells := 2, slots := 12, locals := 167 }
set_option maxHeartbeats 4000000 in
set_option maxRecDepth 100000 in
theorem metL_setWarmth {l : Launch} {s0 : State} {b B : Nat} {D : va_G} {T : Nat → ClassId} (F : FX l s0 b D T B) {X : Nat → Prop} (hX : ∀ o, o < 561 → ¬ X (B + o)) {N : Nat} {Z : Nat → Int32} {hs : List (Nat → Int32)} {t : List Nat} {a1 : Int32} {a2 : Int32} {S : RSt} (q : ∀ μ : Mem, PZ μ t Z hs → Ok (fX10_setWarmth N μ 0 a1 a2) (fun r => ∃ Z2 hs2, PZ r.1 t Z2 hs2 ∧ S Z2 hs2 t (r.2))) (hL : ∀ Z2 hs2 t2 k, S Z2 hs2 t2 (.inl k) → k = 0 ∨ k = 1) : gMetR l yL_setWarmth cL_setWarmth 4 hhL_setWarmth rmL_setWarmth [.ref (B + 0), .int a1, .int a2] (gZ s0 D T B X Z hs t) (KC s0 X) (gRS s0 D T B X S (wr [(0, (-1)), (1, (-2))])) (gA B X) 2 12 := by
  refine gMetR_of RL (by decide +kernel) rfl (Nat.le_of_ble_eq_true rfl) ?_
  intro p e s m below meth c ls hx hb hr hlocks hml hown hts htab hW hk hl hS
  have hC := FX_C F hk hx hb hown hts
  have hl : lv_has ls 4 [(0, .ref (B + 0)), (1, .int a1), (2, .int a2)] := hl
  have hS0 : va_S (gA B X) s.heap s.heap [] := va_S.rf
  obtain ⟨μ, cap, hg, hcap, hP⟩ := hW
  obtain ⟨r, hf, Z2, hs2, hP2, hSr⟩ := q μ hP
  refine lv_aload_n hx hb dL_setWarmth_0 rfl (lv_at hl 0 rfl) ?_
  refine lv_iload_n hx hb dL_setWarmth_1 rfl (lv_at hl 1 rfl) ?_
  refine lv_iload_n hx hb dL_setWarmth_2 rfl (lv_at hl 2 rfl) ?_
  refine gs_callXV (As := [.int a1, .int a2]) F hX hk hC hml hS0 hg (fun X9 hX9 => metX10_setWarmth F hX9 is_Ga hf) ml_L_18 (gw_recv hC hg.1 is_Ga.1 (is_Ga.2.2.1 (gfm s0) T B (μ 0)) rfl) ⟨rfl, rfl, (Nat.le_of_ble_eq_true rfl), (Nat.le_of_ble_eq_true rfl)⟩ rfl hl.1 rfl (Nat.le_of_ble_eq_true rfl) dL_setWarmth_3 ⟨(Nat.le_of_ble_eq_true rfl), (Nat.le_of_ble_eq_true rfl)⟩ (fun v9 ho H1 locs1 hW1 hS1 => ?_) (fun k9 ho H1 locs1 q9 ce9 hW1 hS1 hce hvm hcl => ?_)
  · obtain ⟨x9, hv9, rfl⟩ := oI_r ho
    exact gr_iret hx hb hr hlocks ⟨Z2, hs2, t, _, hSr, by rw [hv9]; rfl, ⟨r.1, cap, hW1, hcap, hP2⟩⟩ hS1 (Nat.le_of_eq (Nat.zero_add _)) (Nat.le_of_eq (Nat.zero_add _)) dL_setWarmth_6
  · have hv9 := oI_l ho
    have hL9 := hL _ _ _ k9 (by have h9 := hSr; rw [hv9] at h9; exact h9)
    rcases hL9 with rfl | rfl
    · refine vx_catch hown [] ⟨0, 6, 7, 22⟩ [⟨0, 6, 10, 14⟩] (htab.trans rfl) (fun z hz => by cases hz) (by decide) (by decide) (hts _ kl_L_22) (FX_cs F hk cs_0) hce hvm hcl ?_
      refine lv_astore_n hx hb dL_setWarmth_7 rfl hl (by decide) rfl (fun ls9 hl9 => ?_)
      refine lv_iconst (v := (-1)) hx hb dL_setWarmth_8 (by decide) ?_
      exact gr_iret hx hb hr hlocks ⟨Z2, hs2, t, _, hSr, by rw [hv9]; rfl, ⟨r.1, cap, hW1, hcap, hP2⟩⟩ hS1 (Nat.le_of_eq (Nat.zero_add _)) (Nat.le_of_eq (Nat.zero_add _)) dL_setWarmth_9
    · refine vx_catch hown [⟨0, 6, 7, 22⟩] ⟨0, 6, 10, 14⟩ [] (htab.trans rfl) (fun z hz => by cases List.mem_singleton.mp hz; exact Or.inr ⟨by decide, _, hts _ kl_L_22, FX_nc F hk nc_1_0⟩) (by decide) (by decide) (hts _ kl_L_14) (FX_cs F hk cs_1) hce hvm hcl ?_
      refine lv_astore_n hx hb dL_setWarmth_10 rfl hl (by decide) rfl (fun ls9 hl9 => ?_)
      refine lv_bipush (v := (-2)) hx hb dL_setWarmth_11 (by decide) ?_
      exact gr_iret hx hb hr hlocks ⟨Z2, hs2, t, _, hSr, by rw [hv9]; rfl, ⟨r.1, cap, hW1, hcap, hP2⟩⟩ hS1 (Nat.le_of_eq (Nat.zero_add _)) (Nat.le_of_eq (Nat.zero_add _)) dL_setWarmth_13
theorem dL_setLimit_0 : decode cL_setLimit 0 = .ok (.aload_n 0, 1) := by decide +kernel
theorem dL_setLimit_1 : decode cL_setLimit 1 = .ok (.iload_n 1, 1) := by decide +kernel
theorem dL_setLimit_2 : decode cL_setLimit 2 = .ok (.iload_n 2, 1) := by decide +kernel
theorem dL_setLimit_3 : decode cL_setLimit 3 = .ok (.invokevirtual 58, 3) := by decide +kernel
theorem dL_setLimit_6 : decode cL_setLimit 6 = .ok (.ireturn, 1) := by decide +kernel
theorem dL_setLimit_7 : decode cL_setLimit 7 = .ok (.astore_n 3, 1) := by decide +kernel
theorem dL_setLimit_8 : decode cL_setLimit 8 = .ok (.iconst (-1), 1) := by decide +kernel
theorem dL_setLimit_9 : decode cL_setLimit 9 = .ok (.ireturn, 1) := by decide +kernel
theorem dL_setLimit_10 : decode cL_setLimit 10 = .ok (.astore_n 3, 1) := by decide +kernel
theorem dL_setLimit_11 : decode cL_setLimit 11 = .ok (.bipush (-2), 2) := by decide +kernel
theorem dL_setLimit_13 : decode cL_setLimit 13 = .ok (.ireturn, 1) := by decide +kernel
theorem ml_L_58 : gMV RL 58 yX10_setLimit cX10_setLimit 5 (some .int) 2 := ⟨⟨wg_t 1602 (by decide +kernel) (by decide +kernel), wg_t 1605 (by decide +kernel) (by decide +kernel), wg_t 1 (by decide +kernel) (by decide +kernel), by decide +kernel⟩, wg_t 1603 (by decide +kernel) (by decide +kernel), wg_t 1604 (by decide +kernel) (by decide +kernel)⟩
abbrev hhL_setLimit : List (Nat × Nat × Nat × Nat) := [(0, 6, 7, 22), (0, 6, 10, 14)]
theorem mw_L_439 : gML RL 439 yL_setLimit cL_setLimit 4 hhL_setLimit 3 := ⟨wg_t 1599 (by decide +kernel) (by decide +kernel), wg_t 1601 (by decide +kernel) (by decide +kernel), wg_t 0 (by decide +kernel) (by decide +kernel), by decide +kernel, wg_t 1600 (by decide +kernel) (by decide +kernel)⟩
abbrev rmL_setLimit : Room := { frames := 8, cells := 2, slots := 12, locals := 168 }
set_option maxHeartbeats 4000000 in
set_option maxRecDepth 100000 in
theorem metL_setLimit {l : Launch} {s0 : State} {b B : Nat} {D : va_G} {T : Nat → ClassId} (F : FX l s0 b D T B) {X : Nat → Prop} (hX : ∀ o, o < 561 → ¬ X (B + o)) {N : Nat} {Z : Nat → Int32} {hs : List (Nat → Int32)} {t : List Nat} {a1 : Int32} {a2 : Int32} {S : RSt} (q : ∀ μ : Mem, PZ μ t Z hs → Ok (fX10_setLimit N μ 0 a1 a2) (fun r => ∃ Z2 hs2, PZ r.1 t Z2 hs2 ∧ S Z2 hs2 t (r.2))) (hL : ∀ Z2 hs2 t2 k, S Z2 hs2 t2 (.inl k) → k = 0 ∨ k = 1) : gMetR l yL_setLimit cL_setLimit 4 hhL_setLimit rmL_setLimit [.ref (B + 0), .int a1, .int a2] (gZ s0 D T B X Z hs t) (KC s0 X) (gRS s0 D T B X S (wr [(0, (-1)), (1, (-2))])) (gA B X) 2 12 := by
  refine gMetR_of RL (by decide +kernel) rfl (Nat.le_of_ble_eq_true rfl) ?_
  intro p e s m below meth c ls hx hb hr hlocks hml hown hts htab hW hk hl hS
  have hC := FX_C F hk hx hb hown hts
  have hl : lv_has ls 4 [(0, .ref (B + 0)), (1, .int a1), (2, .int a2)] := hl
  have hS0 : va_S (gA B X) s.heap s.heap [] := va_S.rf
  obtain ⟨μ, cap, hg, hcap, hP⟩ := hW
  obtain ⟨r, hf, Z2, hs2, hP2, hSr⟩ := q μ hP
  refine lv_aload_n hx hb dL_setLimit_0 rfl (lv_at hl 0 rfl) ?_
  refine lv_iload_n hx hb dL_setLimit_1 rfl (lv_at hl 1 rfl) ?_
  refine lv_iload_n hx hb dL_setLimit_2 rfl (lv_at hl 2 rfl) ?_
  refine gs_callXV (As := [.int a1, .int a2]) F hX hk hC hml hS0 hg (fun X9 hX9 => metX10_setLimit F hX9 is_Ga hf) ml_L_58 (gw_recv hC hg.1 is_Ga.1 (is_Ga.2.2.1 (gfm s0) T B (μ 0)) rfl) ⟨rfl, rfl, (Nat.le_of_ble_eq_true rfl), (Nat.le_of_ble_eq_true rfl)⟩ rfl hl.1 rfl (Nat.le_of_ble_eq_true rfl) dL_setLimit_3 ⟨(Nat.le_of_ble_eq_true rfl), (Nat.le_of_ble_eq_true rfl)⟩ (fun v9 ho H1 locs1 hW1 hS1 => ?_) (fun k9 ho H1 locs1 q9 ce9 hW1 hS1 hce hvm hcl => ?_)
  · obtain ⟨x9, hv9, rfl⟩ := oI_r ho
    exact gr_iret hx hb hr hlocks ⟨Z2, hs2, t, _, hSr, by rw [hv9]; rfl, ⟨r.1, cap, hW1, hcap, hP2⟩⟩ hS1 (Nat.le_of_eq (Nat.zero_add _)) (Nat.le_of_eq (Nat.zero_add _)) dL_setLimit_6
  · have hv9 := oI_l ho
    have hL9 := hL _ _ _ k9 (by have h9 := hSr; rw [hv9] at h9; exact h9)
    rcases hL9 with rfl | rfl
    · refine vx_catch hown [] ⟨0, 6, 7, 22⟩ [⟨0, 6, 10, 14⟩] (htab.trans rfl) (fun z hz => by cases hz) (by decide) (by decide) (hts _ kl_L_22) (FX_cs F hk cs_0) hce hvm hcl ?_
      refine lv_astore_n hx hb dL_setLimit_7 rfl hl (by decide) rfl (fun ls9 hl9 => ?_)
      refine lv_iconst (v := (-1)) hx hb dL_setLimit_8 (by decide) ?_
      exact gr_iret hx hb hr hlocks ⟨Z2, hs2, t, _, hSr, by rw [hv9]; rfl, ⟨r.1, cap, hW1, hcap, hP2⟩⟩ hS1 (Nat.le_of_eq (Nat.zero_add _)) (Nat.le_of_eq (Nat.zero_add _)) dL_setLimit_9
    · refine vx_catch hown [⟨0, 6, 7, 22⟩] ⟨0, 6, 10, 14⟩ [] (htab.trans rfl) (fun z hz => by cases List.mem_singleton.mp hz; exact Or.inr ⟨by decide, _, hts _ kl_L_22, FX_nc F hk nc_1_0⟩) (by decide) (by decide) (hts _ kl_L_14) (FX_cs F hk cs_1) hce hvm hcl ?_
      refine lv_astore_n hx hb dL_setLimit_10 rfl hl (by decide) rfl (fun ls9 hl9 => ?_)
      refine lv_bipush (v := (-2)) hx hb dL_setLimit_11 (by decide) ?_
      exact gr_iret hx hb hr hlocks ⟨Z2, hs2, t, _, hSr, by rw [hv9]; rfl, ⟨r.1, cap, hW1, hcap, hP2⟩⟩ hS1 (Nat.le_of_eq (Nat.zero_add _)) (Nat.le_of_eq (Nat.zero_add _)) dL_setLimit_13
theorem dL_removeLeg_0 : decode cL_removeLeg 0 = .ok (.aload_n 0, 1) := by decide +kernel
theorem dL_removeLeg_1 : decode cL_removeLeg 1 = .ok (.iload_n 1, 1) := by decide +kernel
theorem dL_removeLeg_2 : decode cL_removeLeg 2 = .ok (.iload_n 2, 1) := by decide +kernel
theorem dL_removeLeg_3 : decode cL_removeLeg 3 = .ok (.invokevirtual 28, 3) := by decide +kernel
theorem dL_removeLeg_6 : decode cL_removeLeg 6 = .ok (.ireturn, 1) := by decide +kernel
theorem dL_removeLeg_7 : decode cL_removeLeg 7 = .ok (.astore_n 3, 1) := by decide +kernel
theorem dL_removeLeg_8 : decode cL_removeLeg 8 = .ok (.iconst (-1), 1) := by decide +kernel
theorem dL_removeLeg_9 : decode cL_removeLeg 9 = .ok (.ireturn, 1) := by decide +kernel
theorem dL_removeLeg_10 : decode cL_removeLeg 10 = .ok (.astore_n 3, 1) := by decide +kernel
theorem dL_removeLeg_11 : decode cL_removeLeg 11 = .ok (.bipush (-2), 2) := by decide +kernel
theorem dL_removeLeg_13 : decode cL_removeLeg 13 = .ok (.ireturn, 1) := by decide +kernel
theorem ml_L_28 : gMV RL 28 yX10_removeLeg cX10_removeLeg 3 (some .int) 2 := ⟨⟨wg_t 1609 (by decide +kernel) (by decide +kernel), wg_t 1612 (by decide +kernel) (by decide +kernel), wg_t 1 (by decide +kernel) (by decide +kernel), by decide +kernel⟩, wg_t 1610 (by decide +kernel) (by decide +kernel), wg_t 1611 (by decide +kernel) (by decide +kernel)⟩
abbrev hhL_removeLeg : List (Nat × Nat × Nat × Nat) := [(0, 6, 7, 22), (0, 6, 10, 31)]
theorem mw_L_441 : gML RL 441 yL_removeLeg cL_removeLeg 4 hhL_removeLeg 3 := ⟨wg_t 1606 (by decide +kernel) (by decide +kernel), wg_t 1608 (by decide +kernel) (by decide +kernel), wg_t 0 (by decide +kernel) (by decide +kernel), by decide +kernel, wg_t 1607 (by decide +kernel) (by decide +kernel)⟩
abbrev rmL_removeLeg : Room := { frames := 8, cells := 1, slots := 6, locals := 166 }
set_option maxHeartbeats 4000000 in
set_option maxRecDepth 100000 in
theorem metL_removeLeg {l : Launch} {s0 : State} {b B : Nat} {D : va_G} {T : Nat → ClassId} (F : FX l s0 b D T B) {X : Nat → Prop} (hX : ∀ o, o < 561 → ¬ X (B + o)) {N : Nat} {Z : Nat → Int32} {hs : List (Nat → Int32)} {t : List Nat} {a1 : Int32} {a2 : Int32} {S : RSt} (q : ∀ μ : Mem, PZ μ t Z hs → Ok (fX10_removeLeg N μ 0 a1 a2) (fun r => ∃ Z2 hs2, PZ r.1 t Z2 hs2 ∧ S Z2 hs2 t (r.2))) (hL : ∀ Z2 hs2 t2 k, S Z2 hs2 t2 (.inl k) → k = 0 ∨ k = 3) : gMetR l yL_removeLeg cL_removeLeg 4 hhL_removeLeg rmL_removeLeg [.ref (B + 0), .int a1, .int a2] (gZ s0 D T B X Z hs t) (KC s0 X) (gRS s0 D T B X S (wr [(0, (-1)), (3, (-2))])) (gA B X) 1 6 := by
  refine gMetR_of RL (by decide +kernel) rfl (Nat.le_of_ble_eq_true rfl) ?_
  intro p e s m below meth c ls hx hb hr hlocks hml hown hts htab hW hk hl hS
  have hC := FX_C F hk hx hb hown hts
  have hl : lv_has ls 4 [(0, .ref (B + 0)), (1, .int a1), (2, .int a2)] := hl
  have hS0 : va_S (gA B X) s.heap s.heap [] := va_S.rf
  obtain ⟨μ, cap, hg, hcap, hP⟩ := hW
  obtain ⟨r, hf, Z2, hs2, hP2, hSr⟩ := q μ hP
  refine lv_aload_n hx hb dL_removeLeg_0 rfl (lv_at hl 0 rfl) ?_
  refine lv_iload_n hx hb dL_removeLeg_1 rfl (lv_at hl 1 rfl) ?_
  refine lv_iload_n hx hb dL_removeLeg_2 rfl (lv_at hl 2 rfl) ?_
  refine gs_callXV (As := [.int a1, .int a2]) F hX hk hC hml hS0 hg (fun X9 hX9 => metX10_removeLeg F hX9 is_Ga hf) ml_L_28 (gw_recv hC hg.1 is_Ga.1 (is_Ga.2.2.1 (gfm s0) T B (μ 0)) rfl) ⟨rfl, rfl, (Nat.le_of_ble_eq_true rfl), (Nat.le_of_ble_eq_true rfl)⟩ rfl hl.1 rfl (Nat.le_of_ble_eq_true rfl) dL_removeLeg_3 ⟨(Nat.le_of_ble_eq_true rfl), (Nat.le_of_ble_eq_true rfl)⟩ (fun v9 ho H1 locs1 hW1 hS1 => ?_) (fun k9 ho H1 locs1 q9 ce9 hW1 hS1 hce hvm hcl => ?_)
  · obtain ⟨x9, hv9, rfl⟩ := oI_r ho
    exact gr_iret hx hb hr hlocks ⟨Z2, hs2, t, _, hSr, by rw [hv9]; rfl, ⟨r.1, cap, hW1, hcap, hP2⟩⟩ hS1 (Nat.le_of_eq (Nat.zero_add _)) (Nat.le_of_eq (Nat.zero_add _)) dL_removeLeg_6
  · have hv9 := oI_l ho
    have hL9 := hL _ _ _ k9 (by have h9 := hSr; rw [hv9] at h9; exact h9)
    rcases hL9 with rfl | rfl
    · refine vx_catch hown [] ⟨0, 6, 7, 22⟩ [⟨0, 6, 10, 31⟩] (htab.trans rfl) (fun z hz => by cases hz) (by decide) (by decide) (hts _ kl_L_22) (FX_cs F hk cs_0) hce hvm hcl ?_
      refine lv_astore_n hx hb dL_removeLeg_7 rfl hl (by decide) rfl (fun ls9 hl9 => ?_)
      refine lv_iconst (v := (-1)) hx hb dL_removeLeg_8 (by decide) ?_
      exact gr_iret hx hb hr hlocks ⟨Z2, hs2, t, _, hSr, by rw [hv9]; rfl, ⟨r.1, cap, hW1, hcap, hP2⟩⟩ hS1 (Nat.le_of_eq (Nat.zero_add _)) (Nat.le_of_eq (Nat.zero_add _)) dL_removeLeg_9
    · refine vx_catch hown [⟨0, 6, 7, 22⟩] ⟨0, 6, 10, 31⟩ [] (htab.trans rfl) (fun z hz => by cases List.mem_singleton.mp hz; exact Or.inr ⟨by decide, _, hts _ kl_L_22, FX_nc F hk nc_3_0⟩) (by decide) (by decide) (hts _ kl_L_31) (FX_cs F hk cs_3) hce hvm hcl ?_
      refine lv_astore_n hx hb dL_removeLeg_10 rfl hl (by decide) rfl (fun ls9 hl9 => ?_)
      refine lv_bipush (v := (-2)) hx hb dL_removeLeg_11 (by decide) ?_
      exact gr_iret hx hb hr hlocks ⟨Z2, hs2, t, _, hSr, by rw [hv9]; rfl, ⟨r.1, cap, hW1, hcap, hP2⟩⟩ hS1 (Nat.le_of_eq (Nat.zero_add _)) (Nat.le_of_eq (Nat.zero_add _)) dL_removeLeg_13
theorem dL_feed_0 : decode cL_feed 0 = .ok (.aload_n 0, 1) := by decide +kernel
theorem dL_feed_1 : decode cL_feed 1 = .ok (.iload_n 1, 1) := by decide +kernel
theorem dL_feed_2 : decode cL_feed 2 = .ok (.invokevirtual 160, 3) := by decide +kernel
theorem dL_feed_5 : decode cL_feed 5 = .ok (.ireturn, 1) := by decide +kernel
theorem dL_feed_6 : decode cL_feed 6 = .ok (.astore_n 2, 1) := by decide +kernel
theorem dL_feed_7 : decode cL_feed 7 = .ok (.bipush (-14), 2) := by decide +kernel
theorem dL_feed_9 : decode cL_feed 9 = .ok (.ireturn, 1) := by decide +kernel
theorem ml_L_160 : gMV RL 160 yX10_feed cX10_feed 2 (some .int) 1 := ⟨⟨wg_t 1623 (by decide +kernel) (by decide +kernel), wg_t 1626 (by decide +kernel) (by decide +kernel), wg_t 1 (by decide +kernel) (by decide +kernel), by decide +kernel⟩, wg_t 1624 (by decide +kernel) (by decide +kernel), wg_t 1625 (by decide +kernel) (by decide +kernel)⟩
abbrev hhL_feed : List (Nat × Nat × Nat × Nat) := [(0, 5, 6, 16)]
theorem mw_L_184 : gML RL 184 yL_feed cL_feed 3 hhL_feed 2 := ⟨wg_t 1620 (by decide +kernel) (by decide +kernel), wg_t 1622 (by decide +kernel) (by decide +kernel), wg_t 0 (by decide +kernel) (by decide +kernel), by decide +kernel, wg_t 1621 (by decide +kernel) (by decide +kernel)⟩
abbrev rmL_feed : Room := { frames := 7, cells := 1, slots := 6, locals := 141 }
set_option maxHeartbeats 4000000 in
set_option maxRecDepth 100000 in
theorem metL_feed {l : Launch} {s0 : State} {b B : Nat} {D : va_G} {T : Nat → ClassId} (F : FX l s0 b D T B) {X : Nat → Prop} (hX : ∀ o, o < 561 → ¬ X (B + o)) {N : Nat} {Z : Nat → Int32} {hs : List (Nat → Int32)} {t : List Nat} {a1 : Int32} {S : RSt} (q : ∀ μ : Mem, PZ μ t Z hs → Ok (fX10_feed N μ 0 a1) (fun r => ∃ Z2 hs2, PZ r.1 t Z2 hs2 ∧ S Z2 hs2 t (r.2))) (hL : ∀ Z2 hs2 t2 k, S Z2 hs2 t2 (.inl k) → k = 2) : gMetR l yL_feed cL_feed 3 hhL_feed rmL_feed [.ref (B + 0), .int a1] (gZ s0 D T B X Z hs t) (KC s0 X) (gRS s0 D T B X S (wr [(2, (-14))])) (gA B X) 1 6 := by
  refine gMetR_of RL (by decide +kernel) rfl (Nat.le_of_ble_eq_true rfl) ?_
  intro p e s m below meth c ls hx hb hr hlocks hml hown hts htab hW hk hl hS
  have hC := FX_C F hk hx hb hown hts
  have hl : lv_has ls 3 [(0, .ref (B + 0)), (1, .int a1)] := hl
  have hS0 : va_S (gA B X) s.heap s.heap [] := va_S.rf
  obtain ⟨μ, cap, hg, hcap, hP⟩ := hW
  obtain ⟨r, hf, Z2, hs2, hP2, hSr⟩ := q μ hP
  refine lv_aload_n hx hb dL_feed_0 rfl (lv_at hl 0 rfl) ?_
  refine lv_iload_n hx hb dL_feed_1 rfl (lv_at hl 1 rfl) ?_
  refine gs_callXV (As := [.int a1]) F hX hk hC hml hS0 hg (fun X9 hX9 => metX10_feed F hX9 is_Ga hf) ml_L_160 (gw_recv hC hg.1 is_Ga.1 (is_Ga.2.2.1 (gfm s0) T B (μ 0)) rfl) ⟨rfl, rfl, (Nat.le_of_ble_eq_true rfl), (Nat.le_of_ble_eq_true rfl)⟩ rfl hl.1 rfl (Nat.le_of_ble_eq_true rfl) dL_feed_2 ⟨(Nat.le_of_ble_eq_true rfl), (Nat.le_of_ble_eq_true rfl)⟩ (fun v9 ho H1 locs1 hW1 hS1 => ?_) (fun k9 ho H1 locs1 q9 ce9 hW1 hS1 hce hvm hcl => ?_)
  · obtain ⟨x9, hv9, rfl⟩ := oI_r ho
    exact gr_iret hx hb hr hlocks ⟨Z2, hs2, t, _, hSr, by rw [hv9]; rfl, ⟨r.1, cap, hW1, hcap, hP2⟩⟩ hS1 (Nat.le_of_eq (Nat.zero_add _)) (Nat.le_of_eq (Nat.zero_add _)) dL_feed_5
  · have hv9 := oI_l ho
    have hL9 := hL _ _ _ k9 (by have h9 := hSr; rw [hv9] at h9; exact h9)
    subst hL9
    refine vx_catch hown [] ⟨0, 5, 6, 16⟩ [] (htab.trans rfl) (fun z hz => by cases hz) (by decide) (by decide) (hts _ kl_L_16) (FX_cs F hk cs_2) hce hvm hcl ?_
    refine lv_astore_n hx hb dL_feed_6 rfl hl (by decide) rfl (fun ls9 hl9 => ?_)
    refine lv_bipush (v := (-14)) hx hb dL_feed_7 (by decide) ?_
    exact gr_iret hx hb hr hlocks ⟨Z2, hs2, t, _, hSr, by rw [hv9]; rfl, ⟨r.1, cap, hW1, hcap, hP2⟩⟩ hS1 (Nat.le_of_eq (Nat.zero_add _)) (Nat.le_of_eq (Nat.zero_add _)) dL_feed_9
theorem dL_executes_0 : decode cL_executes 0 = .ok (.aload_n 0, 1) := by decide +kernel
theorem dL_executes_1 : decode cL_executes 1 = .ok (.invokevirtual 164, 3) := by decide +kernel
theorem dL_executes_4 : decode cL_executes 4 = .ok (.ireturn, 1) := by decide +kernel
theorem dL_executes_5 : decode cL_executes 5 = .ok (.astore_n 1, 1) := by decide +kernel
theorem dL_executes_6 : decode cL_executes 6 = .ok (.iconst (-1), 1) := by decide +kernel
theorem dL_executes_7 : decode cL_executes 7 = .ok (.ireturn, 1) := by decide +kernel
theorem dL_executes_8 : decode cL_executes 8 = .ok (.astore_n 1, 1) := by decide +kernel
theorem dL_executes_9 : decode cL_executes 9 = .ok (.bipush (-2), 2) := by decide +kernel
theorem dL_executes_11 : decode cL_executes 11 = .ok (.ireturn, 1) := by decide +kernel
theorem ml_L_164 : gMV RL 164 yX10_execute cX10_execute 3 (some .int) 0 := ⟨⟨wg_t 1631 (by decide +kernel) (by decide +kernel), wg_t 1634 (by decide +kernel) (by decide +kernel), wg_t 1 (by decide +kernel) (by decide +kernel), by decide +kernel⟩, wg_t 1632 (by decide +kernel) (by decide +kernel), wg_t 1633 (by decide +kernel) (by decide +kernel)⟩
abbrev hhL_executes : List (Nat × Nat × Nat × Nat) := [(0, 4, 5, 14), (0, 4, 8, 107)]
theorem mw_L_189 : gML RL 189 yL_executes cL_executes 2 hhL_executes 1 := ⟨wg_t 1628 (by decide +kernel) (by decide +kernel), wg_t 1630 (by decide +kernel) (by decide +kernel), wg_t 0 (by decide +kernel) (by decide +kernel), by decide +kernel, wg_t 1629 (by decide +kernel) (by decide +kernel)⟩
abbrev rmL_executes : Room := { frames := 10, cells := 1, slots := 6, locals := 296 }
set_option maxHeartbeats 4000000 in
set_option maxRecDepth 100000 in
theorem metL_executes {l : Launch} {s0 : State} {b B : Nat} {D : va_G} {T : Nat → ClassId} (F : FX l s0 b D T B) {X : Nat → Prop} (hX : ∀ o, o < 561 → ¬ X (B + o)) {N : Nat} {Z : Nat → Int32} {hs : List (Nat → Int32)} {t : List Nat} {S : RSt} (q : ∀ μ : Mem, PZ μ t Z hs → Ok (fX10_execute N μ 0) (fun r => ∃ Z2 hs2, PZ r.1 t Z2 hs2 ∧ S Z2 hs2 t (r.2))) (hL : ∀ Z2 hs2 t2 k, S Z2 hs2 t2 (.inl k) → k = 1 ∨ k = 4) : gMetR l yL_executes cL_executes 2 hhL_executes rmL_executes [.ref (B + 0)] (gZ s0 D T B X Z hs t) (KC s0 X) (gRS s0 D T B X S (wr [(1, (-1)), (4, (-2))])) (gA B X) 1 6 := by
  refine gMetR_of RL (by decide +kernel) rfl (Nat.le_of_ble_eq_true rfl) ?_
  intro p e s m below meth c ls hx hb hr hlocks hml hown hts htab hW hk hl hS
  have hC := FX_C F hk hx hb hown hts
  have hl : lv_has ls 2 [(0, .ref (B + 0))] := hl
  have hS0 : va_S (gA B X) s.heap s.heap [] := va_S.rf
  obtain ⟨μ, cap, hg, hcap, hP⟩ := hW
  obtain ⟨r, hf, Z2, hs2, hP2, hSr⟩ := q μ hP
  refine lv_aload_n hx hb dL_executes_0 rfl (lv_at hl 0 rfl) ?_
  refine gs_callXV (As := []) F hX hk hC hml hS0 hg (fun X9 hX9 => metX10_execute F hX9 is_Ga hf) ml_L_164 (gw_recv hC hg.1 is_Ga.1 (is_Ga.2.2.1 (gfm s0) T B (μ 0)) rfl) ⟨rfl, rfl, (Nat.le_of_ble_eq_true rfl), (Nat.le_of_ble_eq_true rfl)⟩ rfl hl.1 rfl (Nat.le_of_ble_eq_true rfl) dL_executes_1 ⟨(Nat.le_of_ble_eq_true rfl), (Nat.le_of_ble_eq_true rfl)⟩ (fun v9 ho H1 locs1 hW1 hS1 => ?_) (fun k9 ho H1 locs1 q9 ce9 hW1 hS1 hce hvm hcl => ?_)
  · obtain ⟨x9, hv9, rfl⟩ := oI_r ho
    exact gr_iret hx hb hr hlocks ⟨Z2, hs2, t, _, hSr, by rw [hv9]; rfl, ⟨r.1, cap, hW1, hcap, hP2⟩⟩ hS1 (Nat.le_of_eq (Nat.zero_add _)) (Nat.le_of_eq (Nat.zero_add _)) dL_executes_4
  · have hv9 := oI_l ho
    have hL9 := hL _ _ _ k9 (by have h9 := hSr; rw [hv9] at h9; exact h9)
    rcases hL9 with rfl | rfl
    · refine vx_catch hown [] ⟨0, 4, 5, 14⟩ [⟨0, 4, 8, 107⟩] (htab.trans rfl) (fun z hz => by cases hz) (by decide) (by decide) (hts _ kl_L_14) (FX_cs F hk cs_1) hce hvm hcl ?_
      refine lv_astore_n hx hb dL_executes_5 rfl hl (by decide) rfl (fun ls9 hl9 => ?_)
      refine lv_iconst (v := (-1)) hx hb dL_executes_6 (by decide) ?_
      exact gr_iret hx hb hr hlocks ⟨Z2, hs2, t, _, hSr, by rw [hv9]; rfl, ⟨r.1, cap, hW1, hcap, hP2⟩⟩ hS1 (Nat.le_of_eq (Nat.zero_add _)) (Nat.le_of_eq (Nat.zero_add _)) dL_executes_7
    · refine vx_catch hown [⟨0, 4, 5, 14⟩] ⟨0, 4, 8, 107⟩ [] (htab.trans rfl) (fun z hz => by cases List.mem_singleton.mp hz; exact Or.inr ⟨by decide, _, hts _ kl_L_14, FX_nc F hk nc_4_1⟩) (by decide) (by decide) (hts _ kl_L_107) (FX_cs F hk cs_4) hce hvm hcl ?_
      refine lv_astore_n hx hb dL_executes_8 rfl hl (by decide) rfl (fun ls9 hl9 => ?_)
      refine lv_bipush (v := (-2)) hx hb dL_executes_9 (by decide) ?_
      exact gr_iret hx hb hr hlocks ⟨Z2, hs2, t, _, hSr, by rw [hv9]; rfl, ⟨r.1, cap, hW1, hcap, hP2⟩⟩ hS1 (Nat.le_of_eq (Nat.zero_add _)) (Nat.le_of_eq (Nat.zero_add _)) dL_executes_11
theorem dL_undo_0 : decode cL_undo 0 = .ok (.aload_n 0, 1) := by decide +kernel
theorem dL_undo_1 : decode cL_undo 1 = .ok (.invokevirtual 173, 3) := by decide +kernel
theorem dL_undo_4 : decode cL_undo 4 = .ok (.ireturn, 1) := by decide +kernel
theorem dL_undo_5 : decode cL_undo 5 = .ok (.astore_n 1, 1) := by decide +kernel
theorem dL_undo_6 : decode cL_undo 6 = .ok (.iconst (-1), 1) := by decide +kernel
theorem dL_undo_7 : decode cL_undo 7 = .ok (.ireturn, 1) := by decide +kernel
theorem ml_L_173 : gMV RL 173 yX10_undo cX10_undo 1 (some .int) 0 := ⟨⟨wg_t 1687 (by decide +kernel) (by decide +kernel), wg_t 1690 (by decide +kernel) (by decide +kernel), wg_t 1 (by decide +kernel) (by decide +kernel), by decide +kernel⟩, wg_t 1688 (by decide +kernel) (by decide +kernel), wg_t 1689 (by decide +kernel) (by decide +kernel)⟩
abbrev hhL_undo : List (Nat × Nat × Nat × Nat) := [(0, 4, 5, 16)]
theorem mw_L_454 : gML RL 454 yL_undo cL_undo 2 hhL_undo 1 := ⟨wg_t 1684 (by decide +kernel) (by decide +kernel), wg_t 1686 (by decide +kernel) (by decide +kernel), wg_t 0 (by decide +kernel) (by decide +kernel), by decide +kernel, wg_t 1685 (by decide +kernel) (by decide +kernel)⟩
abbrev rmL_undo : Room := { frames := 7, cells := 1, slots := 6, locals := 140 }
set_option maxHeartbeats 4000000 in
set_option maxRecDepth 100000 in
theorem metL_undo {l : Launch} {s0 : State} {b B : Nat} {D : va_G} {T : Nat → ClassId} (F : FX l s0 b D T B) {X : Nat → Prop} (hX : ∀ o, o < 561 → ¬ X (B + o)) {N : Nat} {Z : Nat → Int32} {hs : List (Nat → Int32)} {t : List Nat} {S : RSt} (q : ∀ μ : Mem, PZ μ t Z hs → Ok (fX10_undo N μ 0) (fun r => ∃ Z2 hs2, PZ r.1 t Z2 hs2 ∧ S Z2 hs2 t (r.2))) (hL : ∀ Z2 hs2 t2 k, S Z2 hs2 t2 (.inl k) → k = 2) : gMetR l yL_undo cL_undo 2 hhL_undo rmL_undo [.ref (B + 0)] (gZ s0 D T B X Z hs t) (KC s0 X) (gRS s0 D T B X S (wr [(2, (-1))])) (gA B X) 1 6 := by
  refine gMetR_of RL (by decide +kernel) rfl (Nat.le_of_ble_eq_true rfl) ?_
  intro p e s m below meth c ls hx hb hr hlocks hml hown hts htab hW hk hl hS
  have hC := FX_C F hk hx hb hown hts
  have hl : lv_has ls 2 [(0, .ref (B + 0))] := hl
  have hS0 : va_S (gA B X) s.heap s.heap [] := va_S.rf
  obtain ⟨μ, cap, hg, hcap, hP⟩ := hW
  obtain ⟨r, hf, Z2, hs2, hP2, hSr⟩ := q μ hP
  refine lv_aload_n hx hb dL_undo_0 rfl (lv_at hl 0 rfl) ?_
  refine gs_callXV (As := []) F hX hk hC hml hS0 hg (fun X9 hX9 => metX10_undo F hX9 is_Ga hf) ml_L_173 (gw_recv hC hg.1 is_Ga.1 (is_Ga.2.2.1 (gfm s0) T B (μ 0)) rfl) ⟨rfl, rfl, (Nat.le_of_ble_eq_true rfl), (Nat.le_of_ble_eq_true rfl)⟩ rfl hl.1 rfl (Nat.le_of_ble_eq_true rfl) dL_undo_1 ⟨(Nat.le_of_ble_eq_true rfl), (Nat.le_of_ble_eq_true rfl)⟩ (fun v9 ho H1 locs1 hW1 hS1 => ?_) (fun k9 ho H1 locs1 q9 ce9 hW1 hS1 hce hvm hcl => ?_)
  · obtain ⟨x9, hv9, rfl⟩ := oI_r ho
    exact gr_iret hx hb hr hlocks ⟨Z2, hs2, t, _, hSr, by rw [hv9]; rfl, ⟨r.1, cap, hW1, hcap, hP2⟩⟩ hS1 (Nat.le_of_eq (Nat.zero_add _)) (Nat.le_of_eq (Nat.zero_add _)) dL_undo_4
  · have hv9 := oI_l ho
    have hL9 := hL _ _ _ k9 (by have h9 := hSr; rw [hv9] at h9; exact h9)
    subst hL9
    refine vx_catch hown [] ⟨0, 4, 5, 16⟩ [] (htab.trans rfl) (fun z hz => by cases hz) (by decide) (by decide) (hts _ kl_L_16) (FX_cs F hk cs_2) hce hvm hcl ?_
    refine lv_astore_n hx hb dL_undo_5 rfl hl (by decide) rfl (fun ls9 hl9 => ?_)
    refine lv_iconst (v := (-1)) hx hb dL_undo_6 (by decide) ?_
    exact gr_iret hx hb hr hlocks ⟨Z2, hs2, t, _, hSr, by rw [hv9]; rfl, ⟨r.1, cap, hW1, hcap, hP2⟩⟩ hS1 (Nat.le_of_eq (Nat.zero_add _)) (Nat.le_of_eq (Nat.zero_add _)) dL_undo_7
