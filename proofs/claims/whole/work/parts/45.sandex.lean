/-! What the constructors make: sand, exhibits. -/
theorem dX6_init_0 : decode cX6_init 0 = .ok (.aload_n 0, 1) := by decide +kernel
theorem dX6_init_1 : decode cX6_init 1 = .ok (.invokespecial 3, 3) := by decide +kernel
theorem dX6_init_4 : decode cX6_init 4 = .ok (.aload_n 0, 1) := by decide +kernel
theorem dX6_init_5 : decode cX6_init 5 = .ok (.bipush 16, 2) := by decide +kernel
theorem dX6_init_7 : decode cX6_init 7 = .ok (.newarray .int, 2) := by decide +kernel
theorem dX6_init_9 : decode cX6_init 9 = .ok (.putfield 9, 3) := by decide +kernel
theorem dX6_init_12 : decode cX6_init 12 = .ok (.aload_n 0, 1) := by decide +kernel
theorem dX6_init_13 : decode cX6_init 13 = .ok (.bipush 16, 2) := by decide +kernel
theorem dX6_init_15 : decode cX6_init 15 = .ok (.newarray .int, 2) := by decide +kernel
theorem dX6_init_17 : decode cX6_init 17 = .ok (.putfield 15, 3) := by decide +kernel
theorem dX6_init_20 : decode cX6_init 20 = .ok (.aload_n 0, 1) := by decide +kernel
theorem dX6_init_21 : decode cX6_init 21 = .ok (.bipush 16, 2) := by decide +kernel
theorem dX6_init_23 : decode cX6_init 23 = .ok (.newarray .boolean, 2) := by decide +kernel
theorem dX6_init_25 : decode cX6_init 25 = .ok (.putfield 18, 3) := by decide +kernel
theorem dX6_init_28 : decode cX6_init 28 = .ok (.aload_n 0, 1) := by decide +kernel
theorem dX6_init_29 : decode cX6_init 29 = .ok (.bipush 16, 2) := by decide +kernel
theorem dX6_init_31 : decode cX6_init 31 = .ok (.newarray .int, 2) := by decide +kernel
theorem dX6_init_33 : decode cX6_init 33 = .ok (.putfield 22, 3) := by decide +kernel
theorem dX6_init_36 : decode cX6_init 36 = .ok (.return_, 1) := by decide +kernel
theorem lo_X6_3 : Cond.methodLink RX6 3 Lib.objectInit ∈ WG := wg_t 210 (by decide +kernel) (by decide +kernel)
theorem fj_X6_9 : Cond.fieldLink RX6 9 "AvalancheGallery$Sand" "trial" "[I" ∈ WG := wg_t 211 (by decide +kernel) (by decide +kernel)
theorem fj_X6_15 : Cond.fieldLink RX6 15 "AvalancheGallery$Sand" "topplings" "[I" ∈ WG := wg_t 213 (by decide +kernel) (by decide +kernel)
theorem fj_X6_18 : Cond.fieldLink RX6 18 "AvalancheGallery$Sand" "marked" "[Z" ∈ WG := wg_t 214 (by decide +kernel) (by decide +kernel)
theorem fj_X6_22 : Cond.fieldLink RX6 22 "AvalancheGallery$Sand" "slopes" "[I" ∈ WG := wg_t 215 (by decide +kernel) (by decide +kernel)
abbrev rmk6 : Room := { frames := 2, cells := 4, slots := 64, locals := 60 }
set_option maxHeartbeats 4000000 in
set_option maxRecDepth 100000 in
theorem metX6_init {l : Launch} {s0 : State} {b B : Nat} {D : va_G} {T : Nat → ClassId} {X : Nat → Prop} {q h0 : Nat} (F : FX l s0 b D T B) (hq : q < h0) : gMet l yX6_init cX6_init 1 none rmk6 [.ref q] (fun H => H.size = h0 ∧ va_P D vwCl [(q, .inr (7, [.null, .null, .null, .null]))] H) (KC s0 X) none (fun H => H.size = h0 + 4 ∧ va_P D vwCl [(q, .inr (7, [.ref h0, .ref (h0 + 1), .ref (h0 + 2), .ref (h0 + 3)])), (h0, eInt T 16 (fun _ => 0)), (h0 + 1, eInt T 16 (fun _ => 0)), (h0 + 2, eBol T 16 (fun _ => 0)), (h0 + 3, eInt T 16 (fun _ => 0))] H) (fun z => z = q ∨ h0 ≤ z) 4 64 := by
  refine gMet_of RX6 (by decide +kernel) rfl (Nat.le_of_ble_eq_true rfl) ?_
  intro p e s m below meth c ls hx hb hr hlocks hml hown hts hnm hW hk hl hS
  obtain ⟨hz, hP⟩ := hW
  have hC := FX_C F hk hx hb hown hts
  have hl : lv_has ls 1 [(0, .ref q)] := hl
  refine lv_aload_n hx hb dX6_init_0 rfl (lv_at hl 0 rfl) ?_
  refine al_init hC lo_X6_3 (hl.1.trans hml.symm) (Nat.le_of_ble_eq_true rfl) (Nat.le_of_ble_eq_true rfl) dX6_init_1 ?_
  refine lv_aload_n hx hb dX6_init_4 rfl (lv_at hl 0 rfl) ?_
  refine lv_bipush (v := 16) hx hb dX6_init_5 (by decide) ?_
  refine al_arr (ty := .int) (t0 := 0) (cA := T 0) (n0 := 16) (a0 := (16, .inl (fun _ => 0))) hC lac_int rfl rfl hP hS rfl (by decide) (by decide) (Nat.le_of_ble_eq_true rfl) (Nat.le_of_ble_eq_true rfl) (Nat.le_of_ble_eq_true rfl) dX6_init_7 (fun H0a hP hS hz0a hk0a => ?_)
  rw [hz] at hP hz0a ⊢
  refine al_putF (C := RX6) (T := TX6) (N := 4) (ci := 7) tyX6 hC uw_X6 tyX6_ok nmX6 hP (vaD_of (by simp; omega) (by simp)) hS 0 (fs := [.null, .null, .null, .null]) rfl rfl 0 (by decide) fj_X6_9 rfl (hnm.trans rfl) rfl rfl rfl (Nat.le_of_ble_eq_true rfl) dX6_init_9 (fun H0b locs0 hP hS hz0c hk0b => ?_)
  have hz1b : H0b.size = h0 + 1 := by rw [hz0c, hz0a]
  refine lv_aload_n hx hb dX6_init_12 rfl (lv_at hl 0 rfl) ?_
  refine lv_bipush (v := 16) hx hb dX6_init_13 (by decide) ?_
  refine al_arr (ty := .int) (t0 := 0) (cA := T 0) (n0 := 16) (a0 := (16, .inl (fun _ => 0))) hC lac_int rfl rfl hP hS rfl (by decide) (by decide) (Nat.le_of_ble_eq_true rfl) (Nat.le_of_ble_eq_true rfl) (Nat.le_of_ble_eq_true rfl) dX6_init_15 (fun H1a hP hS hz1a hk1a => ?_)
  rw [hz1b] at hP hz1a ⊢
  refine al_putF (C := RX6) (T := TX6) (N := 4) (ci := 7) tyX6 hC uw_X6 tyX6_ok nmX6 hP (vaD_of (by simp; omega) (by simp)) hS 0 (fs := [.ref h0, .null, .null, .null]) rfl rfl 1 (by decide) fj_X6_15 rfl (hnm.trans rfl) rfl rfl rfl (Nat.le_of_ble_eq_true rfl) dX6_init_17 (fun H1b locs1 hP hS hz1c hk1b => ?_)
  have hz2b : H1b.size = h0 + 2 := by rw [hz1c, hz1a]
  refine lv_aload_n hx hb dX6_init_20 rfl (lv_at hl 0 rfl) ?_
  refine lv_bipush (v := 16) hx hb dX6_init_21 (by decide) ?_
  refine al_arr (ty := .boolean) (t0 := 1) (cA := T 1) (n0 := 16) (a0 := (16, .inl (fun _ => 0))) hC lac_boolean rfl rfl hP hS rfl (by decide) (by decide) (Nat.le_of_ble_eq_true rfl) (Nat.le_of_ble_eq_true rfl) (Nat.le_of_ble_eq_true rfl) dX6_init_23 (fun H2a hP hS hz2a hk2a => ?_)
  rw [hz2b] at hP hz2a ⊢
  refine al_putF (C := RX6) (T := TX6) (N := 4) (ci := 7) tyX6 hC uw_X6 tyX6_ok nmX6 hP (vaD_of (by simp; omega) (by simp)) hS 0 (fs := [.ref h0, .ref (h0 + 1), .null, .null]) rfl rfl 2 (by decide) fj_X6_18 rfl (hnm.trans rfl) rfl rfl rfl (Nat.le_of_ble_eq_true rfl) dX6_init_25 (fun H2b locs2 hP hS hz2c hk2b => ?_)
  have hz3b : H2b.size = h0 + 3 := by rw [hz2c, hz2a]
  refine lv_aload_n hx hb dX6_init_28 rfl (lv_at hl 0 rfl) ?_
  refine lv_bipush (v := 16) hx hb dX6_init_29 (by decide) ?_
  refine al_arr (ty := .int) (t0 := 0) (cA := T 0) (n0 := 16) (a0 := (16, .inl (fun _ => 0))) hC lac_int rfl rfl hP hS rfl (by decide) (by decide) (Nat.le_of_ble_eq_true rfl) (Nat.le_of_ble_eq_true rfl) (Nat.le_of_ble_eq_true rfl) dX6_init_31 (fun H3a hP hS hz3a hk3a => ?_)
  rw [hz3b] at hP hz3a ⊢
  refine al_putF (C := RX6) (T := TX6) (N := 4) (ci := 7) tyX6 hC uw_X6 tyX6_ok nmX6 hP (vaD_of (by simp; omega) (by simp)) hS 0 (fs := [.ref h0, .ref (h0 + 1), .ref (h0 + 2), .null]) rfl rfl 3 (by decide) fj_X6_22 rfl (hnm.trans rfl) rfl rfl rfl (Nat.le_of_ble_eq_true rfl) dX6_init_33 (fun H3b locs3 hP hS hz3c hk3b => ?_)
  have hz4b : H3b.size = h0 + 4 := by rw [hz3c, hz3a]
  exact gw_vret hx hb hr hlocks ⟨hz4b, hP⟩ hS (Nat.le_of_ble_eq_true rfl) (Nat.le_of_ble_eq_true rfl) dX6_init_36
theorem dX1_init_0 : decode cX1_init 0 = .ok (.aload_n 0, 1) := by decide +kernel
theorem dX1_init_1 : decode cX1_init 1 = .ok (.invokespecial 3, 3) := by decide +kernel
theorem dX1_init_4 : decode cX1_init 4 = .ok (.aload_n 0, 1) := by decide +kernel
theorem dX1_init_5 : decode cX1_init 5 = .ok (.bipush 16, 2) := by decide +kernel
theorem dX1_init_7 : decode cX1_init 7 = .ok (.newarray .int, 2) := by decide +kernel
theorem dX1_init_9 : decode cX1_init 9 = .ok (.putfield 9, 3) := by decide +kernel
theorem dX1_init_12 : decode cX1_init 12 = .ok (.aload_n 0, 1) := by decide +kernel
theorem dX1_init_13 : decode cX1_init 13 = .ok (.bipush 8, 2) := by decide +kernel
theorem dX1_init_15 : decode cX1_init 15 = .ok (.newarray .int, 2) := by decide +kernel
theorem dX1_init_17 : decode cX1_init 17 = .ok (.putfield 15, 3) := by decide +kernel
theorem dX1_init_20 : decode cX1_init 20 = .ok (.aload_n 0, 1) := by decide +kernel
theorem dX1_init_21 : decode cX1_init 21 = .ok (.bipush 8, 2) := by decide +kernel
theorem dX1_init_23 : decode cX1_init 23 = .ok (.newarray .int, 2) := by decide +kernel
theorem dX1_init_25 : decode cX1_init 25 = .ok (.putfield 18, 3) := by decide +kernel
theorem dX1_init_28 : decode cX1_init 28 = .ok (.aload_n 0, 1) := by decide +kernel
theorem dX1_init_29 : decode cX1_init 29 = .ok (.bipush 8, 2) := by decide +kernel
theorem dX1_init_31 : decode cX1_init 31 = .ok (.newarray .int, 2) := by decide +kernel
theorem dX1_init_33 : decode cX1_init 33 = .ok (.putfield 21, 3) := by decide +kernel
theorem dX1_init_36 : decode cX1_init 36 = .ok (.aload_n 0, 1) := by decide +kernel
theorem dX1_init_37 : decode cX1_init 37 = .ok (.bipush 100, 2) := by decide +kernel
theorem dX1_init_39 : decode cX1_init 39 = .ok (.newarray .int, 2) := by decide +kernel
theorem dX1_init_41 : decode cX1_init 41 = .ok (.putfield 24, 3) := by decide +kernel
theorem dX1_init_44 : decode cX1_init 44 = .ok (.return_, 1) := by decide +kernel
theorem lo_X1_3 : Cond.methodLink RX1 3 Lib.objectInit ∈ WG := wg_t 58 (by decide +kernel) (by decide +kernel)
theorem fj_X1_9 : Cond.fieldLink RX1 9 "AvalancheGallery$Exhibit" "pile" "[I" ∈ WG := wg_t 67 (by decide +kernel) (by decide +kernel)
theorem fj_X1_15 : Cond.fieldLink RX1 15 "AvalancheGallery$Exhibit" "firstDays" "[I" ∈ WG := wg_t 81 (by decide +kernel) (by decide +kernel)
theorem fj_X1_18 : Cond.fieldLink RX1 18 "AvalancheGallery$Exhibit" "lastDays" "[I" ∈ WG := wg_t 83 (by decide +kernel) (by decide +kernel)
theorem fj_X1_21 : Cond.fieldLink RX1 21 "AvalancheGallery$Exhibit" "loanFees" "[I" ∈ WG := wg_t 85 (by decide +kernel) (by decide +kernel)
theorem fj_X1_24 : Cond.fieldLink RX1 24 "AvalancheGallery$Exhibit" "loanEnds" "[I" ∈ WG := wg_t 89 (by decide +kernel) (by decide +kernel)
abbrev rmk1 : Room := { frames := 2, cells := 5, slots := 140, locals := 60 }
set_option maxHeartbeats 4000000 in
set_option maxRecDepth 100000 in
theorem metX1_init {l : Launch} {s0 : State} {b B : Nat} {D : va_G} {T : Nat → ClassId} {X : Nat → Prop} {q h0 : Nat} (F : FX l s0 b D T B) (hq : q < h0) : gMet l yX1_init cX1_init 1 none rmk1 [.ref q] (fun H => H.size = h0 ∧ va_P D vwCl [(q, .inr (4, [.int 0, .int 0, .null, .int 0, .int 0, .int 0, .int 0, .null, .null, .null, .int 0, .null]))] H) (KC s0 X) none (fun H => H.size = h0 + 5 ∧ va_P D vwCl [(q, .inr (4, [.int 0, .int 0, .ref h0, .int 0, .int 0, .int 0, .int 0, .ref (h0 + 1), .ref (h0 + 2), .ref (h0 + 3), .int 0, .ref (h0 + 4)])), (h0, eInt T 16 (fun _ => 0)), (h0 + 1, eInt T 8 (fun _ => 0)), (h0 + 2, eInt T 8 (fun _ => 0)), (h0 + 3, eInt T 8 (fun _ => 0)), (h0 + 4, eInt T 100 (fun _ => 0))] H) (fun z => z = q ∨ h0 ≤ z) 5 140 := by
  refine gMet_of RX1 (by decide +kernel) rfl (Nat.le_of_ble_eq_true rfl) ?_
  intro p e s m below meth c ls hx hb hr hlocks hml hown hts hnm hW hk hl hS
  obtain ⟨hz, hP⟩ := hW
  have hC := FX_C F hk hx hb hown hts
  have hl : lv_has ls 1 [(0, .ref q)] := hl
  refine lv_aload_n hx hb dX1_init_0 rfl (lv_at hl 0 rfl) ?_
  refine al_init hC lo_X1_3 (hl.1.trans hml.symm) (Nat.le_of_ble_eq_true rfl) (Nat.le_of_ble_eq_true rfl) dX1_init_1 ?_
  refine lv_aload_n hx hb dX1_init_4 rfl (lv_at hl 0 rfl) ?_
  refine lv_bipush (v := 16) hx hb dX1_init_5 (by decide) ?_
  refine al_arr (ty := .int) (t0 := 0) (cA := T 0) (n0 := 16) (a0 := (16, .inl (fun _ => 0))) hC lac_int rfl rfl hP hS rfl (by decide) (by decide) (Nat.le_of_ble_eq_true rfl) (Nat.le_of_ble_eq_true rfl) (Nat.le_of_ble_eq_true rfl) dX1_init_7 (fun H0a hP hS hz0a hk0a => ?_)
  rw [hz] at hP hz0a ⊢
  refine al_putF (C := RX1) (T := TX1) (N := 12) (ci := 4) tyX1 hC uw_X1 tyX1_ok nmX1 hP (vaD_of (by simp; omega) (by simp)) hS 0 (fs := [.int 0, .int 0, .null, .int 0, .int 0, .int 0, .int 0, .null, .null, .null, .int 0, .null]) rfl rfl 2 (by decide) fj_X1_9 rfl (hnm.trans rfl) rfl rfl rfl (Nat.le_of_ble_eq_true rfl) dX1_init_9 (fun H0b locs0 hP hS hz0c hk0b => ?_)
  have hz1b : H0b.size = h0 + 1 := by rw [hz0c, hz0a]
  refine lv_aload_n hx hb dX1_init_12 rfl (lv_at hl 0 rfl) ?_
  refine lv_bipush (v := 8) hx hb dX1_init_13 (by decide) ?_
  refine al_arr (ty := .int) (t0 := 0) (cA := T 0) (n0 := 8) (a0 := (8, .inl (fun _ => 0))) hC lac_int rfl rfl hP hS rfl (by decide) (by decide) (Nat.le_of_ble_eq_true rfl) (Nat.le_of_ble_eq_true rfl) (Nat.le_of_ble_eq_true rfl) dX1_init_15 (fun H1a hP hS hz1a hk1a => ?_)
  rw [hz1b] at hP hz1a ⊢
  refine al_putF (C := RX1) (T := TX1) (N := 12) (ci := 4) tyX1 hC uw_X1 tyX1_ok nmX1 hP (vaD_of (by simp; omega) (by simp)) hS 0 (fs := [.int 0, .int 0, .ref h0, .int 0, .int 0, .int 0, .int 0, .null, .null, .null, .int 0, .null]) rfl rfl 7 (by decide) fj_X1_15 rfl (hnm.trans rfl) rfl rfl rfl (Nat.le_of_ble_eq_true rfl) dX1_init_17 (fun H1b locs1 hP hS hz1c hk1b => ?_)
  have hz2b : H1b.size = h0 + 2 := by rw [hz1c, hz1a]
  refine lv_aload_n hx hb dX1_init_20 rfl (lv_at hl 0 rfl) ?_
  refine lv_bipush (v := 8) hx hb dX1_init_21 (by decide) ?_
  refine al_arr (ty := .int) (t0 := 0) (cA := T 0) (n0 := 8) (a0 := (8, .inl (fun _ => 0))) hC lac_int rfl rfl hP hS rfl (by decide) (by decide) (Nat.le_of_ble_eq_true rfl) (Nat.le_of_ble_eq_true rfl) (Nat.le_of_ble_eq_true rfl) dX1_init_23 (fun H2a hP hS hz2a hk2a => ?_)
  rw [hz2b] at hP hz2a ⊢
  refine al_putF (C := RX1) (T := TX1) (N := 12) (ci := 4) tyX1 hC uw_X1 tyX1_ok nmX1 hP (vaD_of (by simp; omega) (by simp)) hS 0 (fs := [.int 0, .int 0, .ref h0, .int 0, .int 0, .int 0, .int 0, .ref (h0 + 1), .null, .null, .int 0, .null]) rfl rfl 8 (by decide) fj_X1_18 rfl (hnm.trans rfl) rfl rfl rfl (Nat.le_of_ble_eq_true rfl) dX1_init_25 (fun H2b locs2 hP hS hz2c hk2b => ?_)
  have hz3b : H2b.size = h0 + 3 := by rw [hz2c, hz2a]
  refine lv_aload_n hx hb dX1_init_28 rfl (lv_at hl 0 rfl) ?_
  refine lv_bipush (v := 8) hx hb dX1_init_29 (by decide) ?_
  refine al_arr (ty := .int) (t0 := 0) (cA := T 0) (n0 := 8) (a0 := (8, .inl (fun _ => 0))) hC lac_int rfl rfl hP hS rfl (by decide) (by decide) (Nat.le_of_ble_eq_true rfl) (Nat.le_of_ble_eq_true rfl) (Nat.le_of_ble_eq_true rfl) dX1_init_31 (fun H3a hP hS hz3a hk3a => ?_)
  rw [hz3b] at hP hz3a ⊢
  refine al_putF (C := RX1) (T := TX1) (N := 12) (ci := 4) tyX1 hC uw_X1 tyX1_ok nmX1 hP (vaD_of (by simp; omega) (by simp)) hS 0 (fs := [.int 0, .int 0, .ref h0, .int 0, .int 0, .int 0, .int 0, .ref (h0 + 1), .ref (h0 + 2), .null, .int 0, .null]) rfl rfl 9 (by decide) fj_X1_21 rfl (hnm.trans rfl) rfl rfl rfl (Nat.le_of_ble_eq_true rfl) dX1_init_33 (fun H3b locs3 hP hS hz3c hk3b => ?_)
  have hz4b : H3b.size = h0 + 4 := by rw [hz3c, hz3a]
  refine lv_aload_n hx hb dX1_init_36 rfl (lv_at hl 0 rfl) ?_
  refine lv_bipush (v := 100) hx hb dX1_init_37 (by decide) ?_
  refine al_arr (ty := .int) (t0 := 0) (cA := T 0) (n0 := 100) (a0 := (100, .inl (fun _ => 0))) hC lac_int rfl rfl hP hS rfl (by decide) (by decide) (Nat.le_of_ble_eq_true rfl) (Nat.le_of_ble_eq_true rfl) (Nat.le_of_ble_eq_true rfl) dX1_init_39 (fun H4a hP hS hz4a hk4a => ?_)
  rw [hz4b] at hP hz4a ⊢
  refine al_putF (C := RX1) (T := TX1) (N := 12) (ci := 4) tyX1 hC uw_X1 tyX1_ok nmX1 hP (vaD_of (by simp; omega) (by simp)) hS 0 (fs := [.int 0, .int 0, .ref h0, .int 0, .int 0, .int 0, .int 0, .ref (h0 + 1), .ref (h0 + 2), .ref (h0 + 3), .int 0, .null]) rfl rfl 11 (by decide) fj_X1_24 rfl (hnm.trans rfl) rfl rfl rfl (Nat.le_of_ble_eq_true rfl) dX1_init_41 (fun H4b locs4 hP hS hz4c hk4b => ?_)
  have hz5b : H4b.size = h0 + 5 := by rw [hz4c, hz4a]
  exact gw_vret hx hb hr hlocks ⟨hz5b, hP⟩ hS (Nat.le_of_ble_eq_true rfl) (Nat.le_of_ble_eq_true rfl) dX1_init_44
