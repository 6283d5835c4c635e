/-! What the constructors make, told from its first object on: exhibits, lender, sand, ways, script. -/
theorem ao_int : Cond.arrayOver (.array .int) ∈ lw_tbl := List.mem_append_right _ (List.mem_of_getElem? (i := 53) (by decide +kernel))
abbrev z0 : Nat → Int32 := fun _ => 0
def gxEx (T : Nat → ClassId) (B o k : Nat) : va_E := if k = 0 then eEx B o z0 else if k = 1 then eInt T 16 z0 else if k < 5 then eInt T 8 z0 else eInt T 100 z0
def gxLe (T : Nat → ClassId) (B o k : Nat) : va_E := if k = 0 then eLe B o else if k = 1 then eInt T 8 z0 else eInt T 9 z0
def gxSa (T : Nat → ClassId) (B o k : Nat) : va_E := if k = 0 then eSa B o else if k < 3 then eInt T 16 z0 else if k = 3 then eBol T 16 z0 else eInt T 16 z0
def gxWy (T : Nat → ClassId) (B o k : Nat) : va_E := if k = 0 then eWy B o z0 else if k = 1 then eInt T 6 z0 else if k = 2 then eRef T 3 6 B (o + 2) 1 else if k < 9 then eInt T 6 z0 else if k = 9 then eRef T 3 6 B (o + 9) 1 else if k < 17 then eInt T 6 z0 else eBol T 6 z0
def gxSc (T : Nat → ClassId) (B o k : Nat) : va_E := if k = 0 then eSc B o z0 else if k = 1 then eChr T 60 z0 else if k = 2 then .inl (T 6, 10, rws (fun _ => none)) else if k = 3 then eRef T 3 10 B (o + 3) 1 else eInt T 4 z0
theorem dX1_init_0 : decode cX1_init 0 = .ok (.aload_n 0, 1) := by decide +kernel
theorem dX1_init_1 : decode cX1_init 1 = .ok (.invokespecial 3, 3) := by decide +kernel
theorem dX1_init_4 : decode cX1_init 4 = .ok (.aload_n 0, 1) := by decide +kernel
theorem dX1_init_5 : decode cX1_init 5 = .ok (.bipush 16, 2) := by decide +kernel
theorem dX1_init_7 : decode cX1_init 7 = .ok (.newarray .int, 2) := by decide +kernel
theorem dX1_init_9 : decode cX1_init 9 = .ok (.putfield 9, 3) := by decide +kernel
theorem dX1_init_12 : decode cX1_init 12 = .ok (.aload_n 0, 1) := by decide +kernel
theorem dX1_init_13 : decode cX1_init 13 = .ok (.bipush 8, 2) := by decide +kernel
theorem dX1_init_15 : decode cX1_init 15 = .ok (.newarray .int, 2) := by decide +kernel
theorem dX1_init_17 : decode cX1_init 17 = .ok (.putfield 15, 3) := by decide +kernel
theorem dX1_init_20 : decode cX1_init 20 = .ok (.aload_n 0, 1) := by decide +kernel
theorem dX1_init_21 : decode cX1_init 21 = .ok (.bipush 8, 2) := by decide +kernel
theorem dX1_init_23 : decode cX1_init 23 = .ok (.newarray .int, 2) := by decide +kernel
theorem dX1_init_25 : decode cX1_init 25 = .ok (.putfield 18, 3) := by decide +kernel
theorem dX1_init_28 : decode cX1_init 28 = .ok (.aload_n 0, 1) := by decide +kernel
theorem dX1_init_29 : decode cX1_init 29 = .ok (.bipush 8, 2) := by decide +kernel
theorem dX1_init_31 : decode cX1_init 31 = .ok (.newarray .int, 2) := by decide +kernel
theorem dX1_init_33 : decode cX1_init 33 = .ok (.putfield 21, 3) := by decide +kernel
theorem dX1_init_36 : decode cX1_init 36 = .ok (.aload_n 0, 1) := by decide +kernel
theorem dX1_init_37 : decode cX1_init 37 = .ok (.bipush 100, 2) := by decide +kernel
theorem dX1_init_39 : decode cX1_init 39 = .ok (.newarray .int, 2) := by decide +kernel
theorem dX1_init_41 : decode cX1_init 41 = .ok (.putfield 24, 3) := by decide +kernel
theorem dX1_init_44 : decode cX1_init 44 = .ok (.return_, 1) := by decide +kernel
theorem lo_X1_3 : Cond.methodLink RX1 3 Lib.objectInit ∈ WG := wg_t 60 (by decide +kernel) (by decide +kernel)
theorem fj_X1_9 : Cond.fieldLink RX1 9 "AvalancheGallery$Exhibit" "pile" "[I" ∈ WG := wg_t 69 (by decide +kernel) (by decide +kernel)
theorem fj_X1_15 : Cond.fieldLink RX1 15 "AvalancheGallery$Exhibit" "firstDays" "[I" ∈ WG := wg_t 83 (by decide +kernel) (by decide +kernel)
theorem fj_X1_18 : Cond.fieldLink RX1 18 "AvalancheGallery$Exhibit" "lastDays" "[I" ∈ WG := wg_t 85 (by decide +kernel) (by decide +kernel)
theorem fj_X1_21 : Cond.fieldLink RX1 21 "AvalancheGallery$Exhibit" "loanFees" "[I" ∈ WG := wg_t 87 (by decide +kernel) (by decide +kernel)
theorem fj_X1_24 : Cond.fieldLink RX1 24 "AvalancheGallery$Exhibit" "loanEnds" "[I" ∈ WG := wg_t 91 (by decide +kernel) (by decide +kernel)
abbrev rmiX1 : Room := { frames := 2, cells := 5, slots := 140, locals := 60 }
set_option maxHeartbeats 4000000 in
set_option maxRecDepth 100000 in
theorem metX1_init {l : Launch} {s0 : State} {b B : Nat} {D : va_G} {T : Nat → ClassId} {X : Nat → Prop} {o : Nat} {E : Nat → va_E} (F : FX l s0 b D T B) (he : E o = .inr (4, [.int 0, .int 0, .null, .int 0, .int 0, .int 0, .int 0, .null, .null, .null, .int 0, .null])) : gMet l yX1_init cX1_init 1 none rmiX1 [.ref (B + o)] (gE D B (o + 1) E) (KC s0 X) none (gE D B (o + 6) (eCat E o (gxEx T B o))) (fun z => B + o ≤ z) 5 140 := by
  refine gCt_of RX1 (by decide +kernel) rfl (Nat.le_of_ble_eq_true rfl) ?_
  intro p e s m args below meth c ls Q hx hb hlocks hml hown hts hnm hW hk hl hS hend
  have hC := FX_C F hk hx hb hown hts
  have hE := le_start hW he
  have hl : lv_has ls 1 [(0, .ref (B + o))] := hl
  refine lv_aload_n hx hb dX1_init_0 rfl (lv_at hl 0 rfl) ?_
  refine al_init hC lo_X1_3 (hl.1.trans hml.symm) (Nat.le_of_ble_eq_true rfl) (Nat.le_of_ble_eq_true rfl) dX1_init_1 ?_
  refine lv_aload_n hx hb dX1_init_4 rfl (lv_at hl 0 rfl) ?_
  refine lv_bipush (v := 16) hx hb dX1_init_5 (by decide) ?_
  refine ge_arr (ty := .int) (t0 := 0) (cA := T 0) (n0 := 16) (a0 := (16, .inl (fun _ => 0))) hC lac_int rfl rfl hE hS rfl (by decide) (by decide) (Nat.le_of_ble_eq_true rfl) (Nat.le_of_ble_eq_true rfl) (Nat.le_of_ble_eq_true rfl) dX1_init_7 (fun H hE hS => ?_)
  replace hE := le_push (t := 1) (t' := 2) rfl hE
  refine ge_putF (C := RX1) (T := TX1) (N := 12) (ci := 4) (k0 := o) tyX1 hC uw_X1 tyX1_ok nmX1 hE (Nat.le_refl _) hS (by omega) (fs := [.int 0, .int 0, .null, .int 0, .int 0, .int 0, .int 0, .null, .null, .null, .int 0, .null]) (eCat_0.trans rfl) rfl 2 (by decide) fj_X1_9 rfl (hnm.trans rfl) rfl rfl rfl (Nat.le_of_ble_eq_true rfl) dX1_init_9 (fun H locs hE hS => ?_)
  replace hE := le_set0 hE
  refine lv_aload_n hx hb dX1_init_12 rfl (lv_at hl 0 rfl) ?_
  refine lv_bipush (v := 8) hx hb dX1_init_13 (by decide) ?_
  refine ge_arr (ty := .int) (t0 := 0) (cA := T 0) (n0 := 8) (a0 := (8, .inl (fun _ => 0))) hC lac_int rfl rfl hE hS rfl (by decide) (by decide) (Nat.le_of_ble_eq_true rfl) (Nat.le_of_ble_eq_true rfl) (Nat.le_of_ble_eq_true rfl) dX1_init_15 (fun H hE hS => ?_)
  replace hE := le_push (t := 2) (t' := 3) rfl hE
  refine ge_putF (C := RX1) (T := TX1) (N := 12) (ci := 4) (k0 := o) tyX1 hC uw_X1 tyX1_ok nmX1 hE (Nat.le_refl _) hS (by omega) (fs := [.int 0, .int 0, .ref (B + (o + 1)), .int 0, .int 0, .int 0, .int 0, .null, .null, .null, .int 0, .null]) (eCat_0.trans rfl) rfl 7 (by decide) fj_X1_15 rfl (hnm.trans rfl) rfl rfl rfl (Nat.le_of_ble_eq_true rfl) dX1_init_17 (fun H locs hE hS => ?_)
  replace hE := le_set0 hE
  refine lv_aload_n hx hb dX1_init_20 rfl (lv_at hl 0 rfl) ?_
  refine lv_bipush (v := 8) hx hb dX1_init_21 (by decide) ?_
  refine ge_arr (ty := .int) (t0 := 0) (cA := T 0) (n0 := 8) (a0 := (8, .inl (fun _ => 0))) hC lac_int rfl rfl hE hS rfl (by decide) (by decide) (Nat.le_of_ble_eq_true rfl) (Nat.le_of_ble_eq_true rfl) (Nat.le_of_ble_eq_true rfl) dX1_init_23 (fun H hE hS => ?_)
  replace hE := le_push (t := 3) (t' := 4) rfl hE
  refine ge_putF (C := RX1) (T := TX1) (N := 12) (ci := 4) (k0 := o) tyX1 hC uw_X1 tyX1_ok nmX1 hE (Nat.le_refl _) hS (by omega) (fs := [.int 0, .int 0, .ref (B + (o + 1)), .int 0, .int 0, .int 0, .int 0, .ref (B + (o + 2)), .null, .null, .int 0, .null]) (eCat_0.trans rfl) rfl 8 (by decide) fj_X1_18 rfl (hnm.trans rfl) rfl rfl rfl (Nat.le_of_ble_eq_true rfl) dX1_init_25 (fun H locs hE hS => ?_)
  replace hE := le_set0 hE
  refine lv_aload_n hx hb dX1_init_28 rfl (lv_at hl 0 rfl) ?_
  refine lv_bipush (v := 8) hx hb dX1_init_29 (by decide) ?_
  refine ge_arr (ty := .int) (t0 := 0) (cA := T 0) (n0 := 8) (a0 := (8, .inl (fun _ => 0))) hC lac_int rfl rfl hE hS rfl (by decide) (by decide) (Nat.le_of_ble_eq_true rfl) (Nat.le_of_ble_eq_true rfl) (Nat.le_of_ble_eq_true rfl) dX1_init_31 (fun H hE hS => ?_)
  replace hE := le_push (t := 4) (t' := 5) rfl hE
  refine ge_putF (C := RX1) (T := TX1) (N := 12) (ci := 4) (k0 := o) tyX1 hC uw_X1 tyX1_ok nmX1 hE (Nat.le_refl _) hS (by omega) (fs := [.int 0, .int 0, .ref (B + (o + 1)), .int 0, .int 0, .int 0, .int 0, .ref (B + (o + 2)), .ref (B + (o + 3)), .null, .int 0, .null]) (eCat_0.trans rfl) rfl 9 (by decide) fj_X1_21 rfl (hnm.trans rfl) rfl rfl rfl (Nat.le_of_ble_eq_true rfl) dX1_init_33 (fun H locs hE hS => ?_)
  replace hE := le_set0 hE
  refine lv_aload_n hx hb dX1_init_36 rfl (lv_at hl 0 rfl) ?_
  refine lv_bipush (v := 100) hx hb dX1_init_37 (by decide) ?_
  refine ge_arr (ty := .int) (t0 := 0) (cA := T 0) (n0 := 100) (a0 := (100, .inl (fun _ => 0))) hC lac_int rfl rfl hE hS rfl (by decide) (by decide) (Nat.le_of_ble_eq_true rfl) (Nat.le_of_ble_eq_true rfl) (Nat.le_of_ble_eq_true rfl) dX1_init_39 (fun H hE hS => ?_)
  replace hE := le_push (t := 5) (t' := 6) rfl hE
  refine ge_putF (C := RX1) (T := TX1) (N := 12) (ci := 4) (k0 := o) tyX1 hC uw_X1 tyX1_ok nmX1 hE (Nat.le_refl _) hS (by omega) (fs := [.int 0, .int 0, .ref (B + (o + 1)), .int 0, .int 0, .int 0, .int 0, .ref (B + (o + 2)), .ref (B + (o + 3)), .ref (B + (o + 4)), .int 0, .null]) (eCat_0.trans rfl) rfl 11 (by decide) fj_X1_24 rfl (hnm.trans rfl) rfl rfl rfl (Nat.le_of_ble_eq_true rfl) dX1_init_41 (fun H locs hE hS => ?_)
  replace hE := le_set0 hE
  exact hend dX1_init_44 (le_end hE rfl (fun k hk => by rcases (show k = 0 ∨ k = 1 ∨ k = 2 ∨ k = 3 ∨ k = 4 ∨ k = 5 by omega) with rfl | rfl | rfl | rfl | rfl | rfl <;> rfl)) hS (Nat.le_of_ble_eq_true rfl) (Nat.le_of_ble_eq_true rfl)
theorem dX5_init_0 : decode cX5_init 0 = .ok (.aload_n 0, 1) := by decide +kernel
theorem dX5_init_1 : decode cX5_init 1 = .ok (.invokespecial 3, 3) := by decide +kernel
theorem dX5_init_4 : decode cX5_init 4 = .ok (.aload_n 0, 1) := by decide +kernel
theorem dX5_init_5 : decode cX5_init 5 = .ok (.bipush 8, 2) := by decide +kernel
theorem dX5_init_7 : decode cX5_init 7 = .ok (.newarray .int, 2) := by decide +kernel
theorem dX5_init_9 : decode cX5_init 9 = .ok (.putfield 9, 3) := by decide +kernel
theorem dX5_init_12 : decode cX5_init 12 = .ok (.aload_n 0, 1) := by decide +kernel
theorem dX5_init_13 : decode cX5_init 13 = .ok (.bipush 9, 2) := by decide +kernel
theorem dX5_init_15 : decode cX5_init 15 = .ok (.newarray .int, 2) := by decide +kernel
theorem dX5_init_17 : decode cX5_init 17 = .ok (.putfield 15, 3) := by decide +kernel
theorem dX5_init_20 : decode cX5_init 20 = .ok (.return_, 1) := by decide +kernel
theorem lo_X5_3 : Cond.methodLink RX5 3 Lib.objectInit ∈ WG := wg_t 232 (by decide +kernel) (by decide +kernel)
theorem fj_X5_9 : Cond.fieldLink RX5 9 "AvalancheGallery$Lender" "order" "[I" ∈ WG := wg_t 233 (by decide +kernel) (by decide +kernel)
theorem fj_X5_15 : Cond.fieldLink RX5 15 "AvalancheGallery$Lender" "best" "[I" ∈ WG := wg_t 234 (by decide +kernel) (by decide +kernel)
abbrev rmiX5 : Room := { frames := 2, cells := 2, slots := 17, locals := 60 }
set_option maxHeartbeats 4000000 in
set_option maxRecDepth 100000 in
theorem metX5_init {l : Launch} {s0 : State} {b B : Nat} {D : va_G} {T : Nat → ClassId} {X : Nat → Prop} {o : Nat} {E : Nat → va_E} (F : FX l s0 b D T B) (he : E o = .inr (6, [.null, .null])) : gMet l yX5_init cX5_init 1 none rmiX5 [.ref (B + o)] (gE D B (o + 1) E) (KC s0 X) none (gE D B (o + 3) (eCat E o (gxLe T B o))) (fun z => B + o ≤ z) 2 17 := by
  refine gCt_of RX5 (by decide +kernel) rfl (Nat.le_of_ble_eq_true rfl) ?_
  intro p e s m args below meth c ls Q hx hb hlocks hml hown hts hnm hW hk hl hS hend
  have hC := FX_C F hk hx hb hown hts
  have hE := le_start hW he
  have hl : lv_has ls 1 [(0, .ref (B + o))] := hl
  refine lv_aload_n hx hb dX5_init_0 rfl (lv_at hl 0 rfl) ?_
  refine al_init hC lo_X5_3 (hl.1.trans hml.symm) (Nat.le_of_ble_eq_true rfl) (Nat.le_of_ble_eq_true rfl) dX5_init_1 ?_
  refine lv_aload_n hx hb dX5_init_4 rfl (lv_at hl 0 rfl) ?_
  refine lv_bipush (v := 8) hx hb dX5_init_5 (by decide) ?_
  refine ge_arr (ty := .int) (t0 := 0) (cA := T 0) (n0 := 8) (a0 := (8, .inl (fun _ => 0))) hC lac_int rfl rfl hE hS rfl (by decide) (by decide) (Nat.le_of_ble_eq_true rfl) (Nat.le_of_ble_eq_true rfl) (Nat.le_of_ble_eq_true rfl) dX5_init_7 (fun H hE hS => ?_)
  replace hE := le_push (t := 1) (t' := 2) rfl hE
  refine ge_putF (C := RX5) (T := TX5) (N := 2) (ci := 6) (k0 := o) tyX5 hC uw_X5 tyX5_ok nmX5 hE (Nat.le_refl _) hS (by omega) (fs := [.null, .null]) (eCat_0.trans rfl) rfl 0 (by decide) fj_X5_9 rfl (hnm.trans rfl) rfl rfl rfl (Nat.le_of_ble_eq_true rfl) dX5_init_9 (fun H locs hE hS => ?_)
  replace hE := le_set0 hE
  refine lv_aload_n hx hb dX5_init_12 rfl (lv_at hl 0 rfl) ?_
  refine lv_bipush (v := 9) hx hb dX5_init_13 (by decide) ?_
  refine ge_arr (ty := .int) (t0 := 0) (cA := T 0) (n0 := 9) (a0 := (9, .inl (fun _ => 0))) hC lac_int rfl rfl hE hS rfl (by decide) (by decide) (Nat.le_of_ble_eq_true rfl) (Nat.le_of_ble_eq_true rfl) (Nat.le_of_ble_eq_true rfl) dX5_init_15 (fun H hE hS => ?_)
  replace hE := le_push (t := 2) (t' := 3) rfl hE
  refine ge_putF (C := RX5) (T := TX5) (N := 2) (ci := 6) (k0 := o) tyX5 hC uw_X5 tyX5_ok nmX5 hE (Nat.le_refl _) hS (by omega) (fs := [.ref (B + (o + 1)), .null]) (eCat_0.trans rfl) rfl 1 (by decide) fj_X5_15 rfl (hnm.trans rfl) rfl rfl rfl (Nat.le_of_ble_eq_true rfl) dX5_init_17 (fun H locs hE hS => ?_)
  replace hE := le_set0 hE
  exact hend dX5_init_20 (le_end hE rfl (fun k hk => by rcases (show k = 0 ∨ k = 1 ∨ k = 2 by omega) with rfl | rfl | rfl <;> rfl)) hS (Nat.le_of_ble_eq_true rfl) (Nat.le_of_ble_eq_true rfl)
theorem dX6_init_0 : decode cX6_init 0 = .ok (.aload_n 0, 1) := by decide +kernel
theorem dX6_init_1 : decode cX6_init 1 = .ok (.invokespecial 3, 3) := by decide +kernel
theorem dX6_init_4 : decode cX6_init 4 = .ok (.aload_n 0, 1) := by decide +kernel
theorem dX6_init_5 : decode cX6_init 5 = .ok (.bipush 16, 2) := by decide +kernel
theorem dX6_init_7 : decode cX6_init 7 = .ok (.newarray .int, 2) := by decide +kernel
theorem dX6_init_9 : decode cX6_init 9 = .ok (.putfield 9, 3) := by decide +kernel
theorem dX6_init_12 : decode cX6_init 12 = .ok (.aload_n 0, 1) := by decide +kernel
theorem dX6_init_13 : decode cX6_init 13 = .ok (.bipush 16, 2) := by decide +kernel
theorem dX6_init_15 : decode cX6_init 15 = .ok (.newarray .int, 2) := by decide +kernel
theorem dX6_init_17 : decode cX6_init 17 = .ok (.putfield 15, 3) := by decide +kernel
theorem dX6_init_20 : decode cX6_init 20 = .ok (.aload_n 0, 1) := by decide +kernel
theorem dX6_init_21 : decode cX6_init 21 = .ok (.bipush 16, 2) := by decide +kernel
theorem dX6_init_23 : decode cX6_init 23 = .ok (.newarray .boolean, 2) := by decide +kernel
theorem dX6_init_25 : decode cX6_init 25 = .ok (.putfield 18, 3) := by decide +kernel
theorem dX6_init_28 : decode cX6_init 28 = .ok (.aload_n 0, 1) := by decide +kernel
theorem dX6_init_29 : decode cX6_init 29 = .ok (.bipush 16, 2) := by decide +kernel
theorem dX6_init_31 : decode cX6_init 31 = .ok (.newarray .int, 2) := by decide +kernel
theorem dX6_init_33 : decode cX6_init 33 = .ok (.putfield 22, 3) := by decide +kernel
theorem dX6_init_36 : decode cX6_init 36 = .ok (.return_, 1) := by decide +kernel
theorem lo_X6_3 : Cond.methodLink RX6 3 Lib.objectInit ∈ WG := wg_t 212 (by decide +kernel) (by decide +kernel)
theorem fj_X6_9 : Cond.fieldLink RX6 9 "AvalancheGallery$Sand" "trial" "[I" ∈ WG := wg_t 213 (by decide +kernel) (by decide +kernel)
theorem fj_X6_15 : Cond.fieldLink RX6 15 "AvalancheGallery$Sand" "topplings" "[I" ∈ WG := wg_t 215 (by decide +kernel) (by decide +kernel)
theorem fj_X6_18 : Cond.fieldLink RX6 18 "AvalancheGallery$Sand" "marked" "[Z" ∈ WG := wg_t 216 (by decide +kernel) (by decide +kernel)
theorem fj_X6_22 : Cond.fieldLink RX6 22 "AvalancheGallery$Sand" "slopes" "[I" ∈ WG := wg_t 217 (by decide +kernel) (by decide +kernel)
abbrev rmiX6 : Room := { frames := 2, cells := 4, slots := 64, locals := 60 }
set_option maxHeartbeats 4000000 in
set_option maxRecDepth 100000 in
theorem metX6_init {l : Launch} {s0 : State} {b B : Nat} {D : va_G} {T : Nat → ClassId} {X : Nat → Prop} {o : Nat} {E : Nat → va_E} (F : FX l s0 b D T B) (he : E o = .inr (7, [.null, .null, .null, .null])) : gMet l yX6_init cX6_init 1 none rmiX6 [.ref (B + o)] (gE D B (o + 1) E) (KC s0 X) none (gE D B (o + 5) (eCat E o (gxSa T B o))) (fun z => B + o ≤ z) 4 64 := by
  refine gCt_of RX6 (by decide +kernel) rfl (Nat.le_of_ble_eq_true rfl) ?_
  intro p e s m args below meth c ls Q hx hb hlocks hml hown hts hnm hW hk hl hS hend
  have hC := FX_C F hk hx hb hown hts
  have hE := le_start hW he
  have hl : lv_has ls 1 [(0, .ref (B + o))] := hl
  refine lv_aload_n hx hb dX6_init_0 rfl (lv_at hl 0 rfl) ?_
  refine al_init hC lo_X6_3 (hl.1.trans hml.symm) (Nat.le_of_ble_eq_true rfl) (Nat.le_of_ble_eq_true rfl) dX6_init_1 ?_
  refine lv_aload_n hx hb dX6_init_4 rfl (lv_at hl 0 rfl) ?_
  refine lv_bipush (v := 16) hx hb dX6_init_5 (by decide) ?_
  refine ge_arr (ty := .int) (t0 := 0) (cA := T 0) (n0 := 16) (a0 := (16, .inl (fun _ => 0))) hC lac_int rfl rfl hE hS rfl (by decide) (by decide) (Nat.le_of_ble_eq_true rfl) (Nat.le_of_ble_eq_true rfl) (Nat.le_of_ble_eq_true rfl) dX6_init_7 (fun H hE hS => ?_)
  replace hE := le_push (t := 1) (t' := 2) rfl hE
  refine ge_putF (C := RX6) (T := TX6) (N := 4) (ci := 7) (k0 := o) tyX6 hC uw_X6 tyX6_ok nmX6 hE (Nat.le_refl _) hS (by omega) (fs := [.null, .null, .null, .null]) (eCat_0.trans rfl) rfl 0 (by decide) fj_X6_9 rfl (hnm.trans rfl) rfl rfl rfl (Nat.le_of_ble_eq_true rfl) dX6_init_9 (fun H locs hE hS => ?_)
  replace hE := le_set0 hE
  refine lv_aload_n hx hb dX6_init_12 rfl (lv_at hl 0 rfl) ?_
  refine lv_bipush (v := 16) hx hb dX6_init_13 (by decide) ?_
  refine ge_arr (ty := .int) (t0 := 0) (cA := T 0) (n0 := 16) (a0 := (16, .inl (fun _ => 0))) hC lac_int rfl rfl hE hS rfl (by decide) (by decide) (Nat.le_of_ble_eq_true rfl) (Nat.le_of_ble_eq_true rfl) (Nat.le_of_ble_eq_true rfl) dX6_init_15 (fun H hE hS => ?_)
  replace hE := le_push (t := 2) (t' := 3) rfl hE
  refine ge_putF (C := RX6) (T := TX6) (N := 4) (ci := 7) (k0 := o) tyX6 hC uw_X6 tyX6_ok nmX6 hE (Nat.le_refl _) hS (by omega) (fs := [.ref (B + (o + 1)), .null, .null, .null]) (eCat_0.trans rfl) rfl 1 (by decide) fj_X6_15 rfl (hnm.trans rfl) rfl rfl rfl (Nat.le_of_ble_eq_true rfl) dX6_init_17 (fun H locs hE hS => ?_)
  replace hE := le_set0 hE
  refine lv_aload_n hx hb dX6_init_20 rfl (lv_at hl 0 rfl) ?_
  refine lv_bipush (v := 16) hx hb dX6_init_21 (by decide) ?_
  refine ge_arr (ty := .boolean) (t0 := 1) (cA := T 1) (n0 := 16) (a0 := (16, .inl (fun _ => 0))) hC lac_boolean rfl rfl hE hS rfl (by decide) (by decide) (Nat.le_of_ble_eq_true rfl) (Nat.le_of_ble_eq_true rfl) (Nat.le_of_ble_eq_true rfl) dX6_init_23 (fun H hE hS => ?_)
  replace hE := le_push (t := 3) (t' := 4) rfl hE
  refine ge_putF (C := RX6) (T := TX6) (N := 4) (ci := 7) (k0 := o) tyX6 hC uw_X6 tyX6_ok nmX6 hE (Nat.le_refl _) hS (by omega) (fs := [.ref (B + (o + 1)), .ref (B + (o + 2)), .null, .null]) (eCat_0.trans rfl) rfl 2 (by decide) fj_X6_18 rfl (hnm.trans rfl) rfl rfl rfl (Nat.le_of_ble_eq_true rfl) dX6_init_25 (fun H locs hE hS => ?_)
  replace hE := le_set0 hE
  refine lv_aload_n hx hb dX6_init_28 rfl (lv_at hl 0 rfl) ?_
  refine lv_bipush (v := 16) hx hb dX6_init_29 (by decide) ?_
  refine ge_arr (ty := .int) (t0 := 0) (cA := T 0) (n0 := 16) (a0 := (16, .inl (fun _ => 0))) hC lac_int rfl rfl hE hS rfl (by decide) (by decide) (Nat.le_of_ble_eq_true rfl) (Nat.le_of_ble_eq_true rfl) (Nat.le_of_ble_eq_true rfl) dX6_init_31 (fun H hE hS => ?_)
  replace hE := le_push (t := 4) (t' := 5) rfl hE
  refine ge_putF (C := RX6) (T := TX6) (N := 4) (ci := 7) (k0 := o) tyX6 hC uw_X6 tyX6_ok nmX6 hE (Nat.le_refl _) hS (by omega) (fs := [.ref (B + (o + 1)), .ref (B + (o + 2)), .ref (B + (o + 3)), .null]) (eCat_0.trans rfl) rfl 3 (by decide) fj_X6_22 rfl (hnm.trans rfl) rfl rfl rfl (Nat.le_of_ble_eq_true rfl) dX6_init_33 (fun H locs hE hS => ?_)
  replace hE := le_set0 hE
  exact hend dX6_init_36 (le_end hE rfl (fun k hk => by rcases (show k = 0 ∨ k = 1 ∨ k = 2 ∨ k = 3 ∨ k = 4 by omega) with rfl | rfl | rfl | rfl | rfl <;> rfl)) hS (Nat.le_of_ble_eq_true rfl) (Nat.le_of_ble_eq_true rfl)
theorem dX9_init_0 : decode cX9_init 0 = .ok (.aload_n 0, 1) := by decide +kernel
theorem dX9_init_1 : decode cX9_init 1 = .ok (.invokespecial 3, 3) := by decide +kernel
theorem dX9_init_4 : decode cX9_init 4 = .ok (.aload_n 0, 1) := by decide +kernel
theorem dX9_init_5 : decode cX9_init 5 = .ok (.bipush 6, 2) := by decide +kernel
theorem dX9_init_7 : decode cX9_init 7 = .ok (.newarray .int, 2) := by decide +kernel
theorem dX9_init_9 : decode cX9_init 9 = .ok (.putfield 9, 3) := by decide +kernel
theorem dX9_init_12 : decode cX9_init 12 = .ok (.aload_n 0, 1) := by decide +kernel
theorem dX9_init_13 : decode cX9_init 13 = .ok (.bipush 6, 2) := by decide +kernel
theorem dX9_init_15 : decode cX9_init 15 = .ok (.bipush 6, 2) := by decide +kernel
theorem dX9_init_17 : decode cX9_init 17 = .ok (.multianewarray 15 2, 4) := by decide +kernel
theorem dX9_init_21 : decode cX9_init 21 = .ok (.putfield 17, 3) := by decide +kernel
theorem dX9_init_24 : decode cX9_init 24 = .ok (.aload_n 0, 1) := by decide +kernel
theorem dX9_init_25 : decode cX9_init 25 = .ok (.bipush 6, 2) := by decide +kernel
theorem dX9_init_27 : decode cX9_init 27 = .ok (.bipush 6, 2) := by decide +kernel
theorem dX9_init_29 : decode cX9_init 29 = .ok (.multianewarray 15 2, 4) := by decide +kernel
theorem dX9_init_33 : decode cX9_init 33 = .ok (.putfield 20, 3) := by decide +kernel
theorem dX9_init_36 : decode cX9_init 36 = .ok (.aload_n 0, 1) := by decide +kernel
theorem dX9_init_37 : decode cX9_init 37 = .ok (.bipush 6, 2) := by decide +kernel
theorem dX9_init_39 : decode cX9_init 39 = .ok (.newarray .int, 2) := by decide +kernel
theorem dX9_init_41 : decode cX9_init 41 = .ok (.putfield 23, 3) := by decide +kernel
theorem dX9_init_44 : decode cX9_init 44 = .ok (.aload_n 0, 1) := by decide +kernel
theorem dX9_init_45 : decode cX9_init 45 = .ok (.bipush 6, 2) := by decide +kernel
theorem dX9_init_47 : decode cX9_init 47 = .ok (.newarray .boolean, 2) := by decide +kernel
theorem dX9_init_49 : decode cX9_init 49 = .ok (.putfield 26, 3) := by decide +kernel
theorem dX9_init_52 : decode cX9_init 52 = .ok (.return_, 1) := by decide +kernel
theorem lo_X9_3 : Cond.methodLink RX9 3 Lib.objectInit ∈ WG := wg_t 179 (by decide +kernel) (by decide +kernel)
theorem fj_X9_9 : Cond.fieldLink RX9 9 "AvalancheGallery$Ways" "way" "[I" ∈ WG := wg_t 181 (by decide +kernel) (by decide +kernel)
theorem cl_X9_15 : Cond.classLink RX9 15 "[[I" ∈ WG := wg_t 180 (by decide +kernel) (by decide +kernel)
theorem fj_X9_17 : Cond.fieldLink RX9 17 "AvalancheGallery$Ways" "costs" "[[I" ∈ WG := wg_t 187 (by decide +kernel) (by decide +kernel)
theorem fj_X9_20 : Cond.fieldLink RX9 20 "AvalancheGallery$Ways" "table" "[[I" ∈ WG := wg_t 188 (by decide +kernel) (by decide +kernel)
theorem fj_X9_23 : Cond.fieldLink RX9 23 "AvalancheGallery$Ways" "sums" "[I" ∈ WG := wg_t 189 (by decide +kernel) (by decide +kernel)
theorem fj_X9_26 : Cond.fieldLink RX9 26 "AvalancheGallery$Ways" "settled" "[Z" ∈ WG := wg_t 190 (by decide +kernel) (by decide +kernel)
abbrev rmiX9 : Room := { frames := 2, cells := 17, slots := 102, locals := 60 }
set_option maxHeartbeats 4000000 in
set_option maxRecDepth 100000 in
theorem metX9_init {l : Launch} {s0 : State} {b B : Nat} {D : va_G} {T : Nat → ClassId} {X : Nat → Prop} {o : Nat} {E : Nat → va_E} (F : FX l s0 b D T B) (he : E o = .inr (10, [.null, .int 0, .int 0, .null, .null, .null, .null])) : gMet l yX9_init cX9_init 1 none rmiX9 [.ref (B + o)] (gE D B (o + 1) E) (KC s0 X) none (gE D B (o + 18) (eCat E o (gxWy T B o))) (fun z => B + o ≤ z) 17 102 := by
  refine gCt_of RX9 (by decide +kernel) rfl (Nat.le_of_ble_eq_true rfl) ?_
  intro p e s m args below meth c ls Q hx hb hlocks hml hown hts hnm hW hk hl hS hend
  have hC := FX_C F hk hx hb hown hts
  have hE := le_start hW he
  have hl : lv_has ls 1 [(0, .ref (B + o))] := hl
  refine lv_aload_n hx hb dX9_init_0 rfl (lv_at hl 0 rfl) ?_
  refine al_init hC lo_X9_3 (hl.1.trans hml.symm) (Nat.le_of_ble_eq_true rfl) (Nat.le_of_ble_eq_true rfl) dX9_init_1 ?_
  refine lv_aload_n hx hb dX9_init_4 rfl (lv_at hl 0 rfl) ?_
  refine lv_bipush (v := 6) hx hb dX9_init_5 (by decide) ?_
  refine ge_arr (ty := .int) (t0 := 0) (cA := T 0) (n0 := 6) (a0 := (6, .inl (fun _ => 0))) hC lac_int rfl rfl hE hS rfl (by decide) (by decide) (Nat.le_of_ble_eq_true rfl) (Nat.le_of_ble_eq_true rfl) (Nat.le_of_ble_eq_true rfl) dX9_init_7 (fun H hE hS => ?_)
  replace hE := le_push (t := 1) (t' := 2) rfl hE
  refine ge_putF (C := RX9) (T := TX9) (N := 7) (ci := 10) (k0 := o) tyX9 hC uw_X9 tyX9_ok nmX9 hE (Nat.le_refl _) hS (by omega) (fs := [.null, .int 0, .int 0, .null, .null, .null, .null]) (eCat_0.trans rfl) rfl 0 (by decide) fj_X9_9 rfl (hnm.trans rfl) rfl rfl rfl (Nat.le_of_ble_eq_true rfl) dX9_init_9 (fun H locs hE hS => ?_)
  replace hE := le_set0 hE
  refine lv_aload_n hx hb dX9_init_12 rfl (lv_at hl 0 rfl) ?_
  refine lv_bipush (v := 6) hx hb dX9_init_13 (by decide) ?_
  refine lv_bipush (v := 6) hx hb dX9_init_15 (by decide) ?_
  refine ge_mna (t0 := 0) (t3 := 3) (n0 := 6) (n1 := 6) (cI := T 0) (cA := T 3) hC cl_X9_15 (FX_AOA F hk ao_int) lac_int rfl rfl hE hS (by decide) (by decide) (by decide) (by decide) (Nat.le_of_ble_eq_true rfl) (Nat.le_of_ble_eq_true rfl) (Nat.le_of_ble_eq_true rfl) (Nat.le_of_ble_eq_true rfl) dX9_init_17 (fun H hE hS => ?_)
  replace hE := le_more (t := 2) (m := 7) (t' := 9) rfl hE
  refine ge_putF (C := RX9) (T := TX9) (N := 7) (ci := 10) (k0 := o) tyX9 hC uw_X9 tyX9_ok nmX9 hE (Nat.le_refl _) hS (by omega) (fs := [.ref (B + (o + 1)), .int 0, .int 0, .null, .null, .null, .null]) (eCat_0.trans rfl) rfl 3 (by decide) fj_X9_17 rfl (hnm.trans rfl) rfl rfl rfl (Nat.le_of_ble_eq_true rfl) dX9_init_21 (fun H locs hE hS => ?_)
  replace hE := le_set0 hE
  refine lv_aload_n hx hb dX9_init_24 rfl (lv_at hl 0 rfl) ?_
  refine lv_bipush (v := 6) hx hb dX9_init_25 (by decide) ?_
  refine lv_bipush (v := 6) hx hb dX9_init_27 (by decide) ?_
  refine ge_mna (t0 := 0) (t3 := 3) (n0 := 6) (n1 := 6) (cI := T 0) (cA := T 3) hC cl_X9_15 (FX_AOA F hk ao_int) lac_int rfl rfl hE hS (by decide) (by decide) (by decide) (by decide) (Nat.le_of_ble_eq_true rfl) (Nat.le_of_ble_eq_true rfl) (Nat.le_of_ble_eq_true rfl) (Nat.le_of_ble_eq_true rfl) dX9_init_29 (fun H hE hS => ?_)
  replace hE := le_more (t := 9) (m := 7) (t' := 16) rfl hE
  refine ge_putF (C := RX9) (T := TX9) (N := 7) (ci := 10) (k0 := o) tyX9 hC uw_X9 tyX9_ok nmX9 hE (Nat.le_refl _) hS (by omega) (fs := [.ref (B + (o + 1)), .int 0, .int 0, .ref (B + (o + 2)), .null, .null, .null]) (eCat_0.trans rfl) rfl 4 (by decide) fj_X9_20 rfl (hnm.trans rfl) rfl rfl rfl (Nat.le_of_ble_eq_true rfl) dX9_init_33 (fun H locs hE hS => ?_)
  replace hE := le_set0 hE
  refine lv_aload_n hx hb dX9_init_36 rfl (lv_at hl 0 rfl) ?_
  refine lv_bipush (v := 6) hx hb dX9_init_37 (by decide) ?_
  refine ge_arr (ty := .int) (t0 := 0) (cA := T 0) (n0 := 6) (a0 := (6, .inl (fun _ => 0))) hC lac_int rfl rfl hE hS rfl (by decide) (by decide) (Nat.le_of_ble_eq_true rfl) (Nat.le_of_ble_eq_true rfl) (Nat.le_of_ble_eq_true rfl) dX9_init_39 (fun H hE hS => ?_)
  replace hE := le_push (t := 16) (t' := 17) rfl hE
  refine ge_putF (C := RX9) (T := TX9) (N := 7) (ci := 10) (k0 := o) tyX9 hC uw_X9 tyX9_ok nmX9 hE (Nat.le_refl _) hS (by omega) (fs := [.ref (B + (o + 1)), .int 0, .int 0, .ref (B + (o + 2)), .ref (B + (o + 9)), .null, .null]) (eCat_0.trans rfl) rfl 5 (by decide) fj_X9_23 rfl (hnm.trans rfl) rfl rfl rfl (Nat.le_of_ble_eq_true rfl) dX9_init_41 (fun H locs hE hS => ?_)
  replace hE := le_set0 hE
  refine lv_aload_n hx hb dX9_init_44 rfl (lv_at hl 0 rfl) ?_
  refine lv_bipush (v := 6) hx hb dX9_init_45 (by decide) ?_
  refine ge_arr (ty := .boolean) (t0 := 1) (cA := T 1) (n0 := 6) (a0 := (6, .inl (fun _ => 0))) hC lac_boolean rfl rfl hE hS rfl (by decide) (by decide) (Nat.le_of_ble_eq_true rfl) (Nat.le_of_ble_eq_true rfl) (Nat.le_of_ble_eq_true rfl) dX9_init_47 (fun H hE hS => ?_)
  replace hE := le_push (t := 17) (t' := 18) rfl hE
  refine ge_putF (C := RX9) (T := TX9) (N := 7) (ci := 10) (k0 := o) tyX9 hC uw_X9 tyX9_ok nmX9 hE (Nat.le_refl _) hS (by omega) (fs := [.ref (B + (o + 1)), .int 0, .int 0, .ref (B + (o + 2)), .ref (B + (o + 9)), .ref (B + (o + 16)), .null]) (eCat_0.trans rfl) rfl 6 (by decide) fj_X9_26 rfl (hnm.trans rfl) rfl rfl rfl (Nat.le_of_ble_eq_true rfl) dX9_init_49 (fun H locs hE hS => ?_)
  replace hE := le_set0 hE
  exact hend dX9_init_52 (le_end hE rfl (fun k hk => by rcases (show k = 0 ∨ k = 1 ∨ k = 2 ∨ k = 3 ∨ k = 4 ∨ k = 5 ∨ k = 6 ∨ k = 7 ∨ k = 8 ∨ k = 9 ∨ k = 10 ∨ k = 11 ∨ k = 12 ∨ k = 13 ∨ k = 14 ∨ k = 15 ∨ k = 16 ∨ k = 17 by omega) with rfl | rfl | rfl | rfl | rfl | rfl | rfl | rfl | rfl | rfl | rfl | rfl | rfl | rfl | rfl | rfl | rfl | rfl <;> rfl)) hS (Nat.le_of_ble_eq_true rfl) (Nat.le_of_ble_eq_true rfl)
theorem dX7_init_0 : decode cX7_init 0 = .ok (.aload_n 0, 1) := by decide +kernel
theorem dX7_init_1 : decode cX7_init 1 = .ok (.invokespecial 3, 3) := by decide +kernel
theorem dX7_init_4 : decode cX7_init 4 = .ok (.aload_n 0, 1) := by decide +kernel
theorem dX7_init_5 : decode cX7_init 5 = .ok (.bipush 60, 2) := by decide +kernel
theorem dX7_init_7 : decode cX7_init 7 = .ok (.newarray .char, 2) := by decide +kernel
theorem dX7_init_9 : decode cX7_init 9 = .ok (.putfield 9, 3) := by decide +kernel
theorem dX7_init_12 : decode cX7_init 12 = .ok (.aload_n 0, 1) := by decide +kernel
theorem dX7_init_13 : decode cX7_init 13 = .ok (.bipush 10, 2) := by decide +kernel
theorem dX7_init_15 : decode cX7_init 15 = .ok (.anewarray 15, 3) := by decide +kernel
theorem dX7_init_18 : decode cX7_init 18 = .ok (.putfield 17, 3) := by decide +kernel
theorem dX7_init_21 : decode cX7_init 21 = .ok (.aload_n 0, 1) := by decide +kernel
theorem dX7_init_22 : decode cX7_init 22 = .ok (.bipush 10, 2) := by decide +kernel
theorem dX7_init_24 : decode cX7_init 24 = .ok (.iconst 4, 1) := by decide +kernel
theorem dX7_init_25 : decode cX7_init 25 = .ok (.multianewarray 21 2, 4) := by decide +kernel
theorem dX7_init_29 : decode cX7_init 29 = .ok (.putfield 23, 3) := by decide +kernel
theorem dX7_init_32 : decode cX7_init 32 = .ok (.return_, 1) := by decide +kernel
theorem lo_X7_3 : Cond.methodLink RX7 3 Lib.objectInit ∈ WG := wg_t 245 (by decide +kernel) (by decide +kernel)
theorem fj_X7_9 : Cond.fieldLink RX7 9 "AvalancheGallery$Script" "text" "[C" ∈ WG := wg_t 249 (by decide +kernel) (by decide +kernel)
theorem ao_X7 : Cond.arrayOver (.object "AvalancheGallery$Form") ∈ lw_tbl := List.mem_append_right _ (List.mem_of_getElem? (i := 247) (by decide +kernel))
theorem cl_X7_15 : Cond.classLink RX7 15 "AvalancheGallery$Form" ∈ WG := wg_t 246 (by decide +kernel) (by decide +kernel)
theorem fj_X7_17 : Cond.fieldLink RX7 17 "AvalancheGallery$Script" "forms" "[LAvalancheGallery$Form;" ∈ WG := wg_t 253 (by decide +kernel) (by decide +kernel)
theorem cl_X7_21 : Cond.classLink RX7 21 "[[I" ∈ WG := wg_t 248 (by decide +kernel) (by decide +kernel)
theorem fj_X7_23 : Cond.fieldLink RX7 23 "AvalancheGallery$Script" "values" "[[I" ∈ WG := wg_t 255 (by decide +kernel) (by decide +kernel)
abbrev rmiX7 : Room := { frames := 2, cells := 13, slots := 120, locals := 60 }
set_option maxHeartbeats 4000000 in
set_option maxRecDepth 100000 in
theorem metX7_init {l : Launch} {s0 : State} {b B : Nat} {D : va_G} {T : Nat → ClassId} {X : Nat → Prop} {o : Nat} {E : Nat → va_E} (F : FX l s0 b D T B) (he : E o = .inr (8, [.null, .int 0, .null, .null, .int 0, .int 0])) : gMet l yX7_init cX7_init 1 none rmiX7 [.ref (B + o)] (gE D B (o + 1) E) (KC s0 X) none (gE D B (o + 14) (eCat E o (gxSc T B o))) (fun z => B + o ≤ z) 13 120 := by
  refine gCt_of RX7 (by decide +kernel) rfl (Nat.le_of_ble_eq_true rfl) ?_
  intro p e s m args below meth c ls Q hx hb hlocks hml hown hts hnm hW hk hl hS hend
  have hC := FX_C F hk hx hb hown hts
  have hE := le_start hW he
  have hl : lv_has ls 1 [(0, .ref (B + o))] := hl
  refine lv_aload_n hx hb dX7_init_0 rfl (lv_at hl 0 rfl) ?_
  refine al_init hC lo_X7_3 (hl.1.trans hml.symm) (Nat.le_of_ble_eq_true rfl) (Nat.le_of_ble_eq_true rfl) dX7_init_1 ?_
  refine lv_aload_n hx hb dX7_init_4 rfl (lv_at hl 0 rfl) ?_
  refine lv_bipush (v := 60) hx hb dX7_init_5 (by decide) ?_
  refine ge_arr (ty := .char) (t0 := 2) (cA := T 2) (n0 := 60) (a0 := (60, .inl (fun _ => 0))) hC lac_char rfl rfl hE hS rfl (by decide) (by decide) (Nat.le_of_ble_eq_true rfl) (Nat.le_of_ble_eq_true rfl) (Nat.le_of_ble_eq_true rfl) dX7_init_7 (fun H hE hS => ?_)
  replace hE := le_push (t := 1) (t' := 2) rfl hE
  refine ge_putF (C := RX7) (T := TX7) (N := 6) (ci := 8) (k0 := o) tyX7 hC uw_X7 tyX7_ok nmX7 hE (Nat.le_refl _) hS (by omega) (fs := [.null, .int 0, .null, .null, .int 0, .int 0]) (eCat_0.trans rfl) rfl 0 (by decide) fj_X7_9 rfl (hnm.trans rfl) rfl rfl rfl (Nat.le_of_ble_eq_true rfl) dX7_init_9 (fun H locs hE hS => ?_)
  replace hE := le_set0 hE
  refine lv_aload_n hx hb dX7_init_12 rfl (lv_at hl 0 rfl) ?_
  refine lv_bipush (v := 10) hx hb dX7_init_13 (by decide) ?_
  refine ge_anew (C := "AvalancheGallery$Form") (t0 := 6) (cA := T 6) (n0 := 10) hC cl_X7_15 (FX_AO F hk ao_X7) rfl hE hS (by decide) (by decide) (Nat.le_of_ble_eq_true rfl) (Nat.le_of_ble_eq_true rfl) (Nat.le_of_ble_eq_true rfl) dX7_init_15 (fun H hE hS => ?_)
  replace hE := le_push (t := 2) (t' := 3) rfl hE
  refine ge_putF (C := RX7) (T := TX7) (N := 6) (ci := 8) (k0 := o) tyX7 hC uw_X7 tyX7_ok nmX7 hE (Nat.le_refl _) hS (by omega) (fs := [.ref (B + (o + 1)), .int 0, .null, .null, .int 0, .int 0]) (eCat_0.trans rfl) rfl 2 (by decide) fj_X7_17 rfl (hnm.trans rfl) rfl rfl rfl (Nat.le_of_ble_eq_true rfl) dX7_init_18 (fun H locs hE hS => ?_)
  replace hE := le_set0 hE
  refine lv_aload_n hx hb dX7_init_21 rfl (lv_at hl 0 rfl) ?_
  refine lv_bipush (v := 10) hx hb dX7_init_22 (by decide) ?_
  refine lv_iconst (v := 4) hx hb dX7_init_24 (by decide) ?_
  refine ge_mna (t0 := 0) (t3 := 3) (n0 := 10) (n1 := 4) (cI := T 0) (cA := T 3) hC cl_X7_21 (FX_AOA F hk ao_int) lac_int rfl rfl hE hS (by decide) (by decide) (by decide) (by decide) (Nat.le_of_ble_eq_true rfl) (Nat.le_of_ble_eq_true rfl) (Nat.le_of_ble_eq_true rfl) (Nat.le_of_ble_eq_true rfl) dX7_init_25 (fun H hE hS => ?_)
  replace hE := le_more (t := 3) (m := 11) (t' := 14) rfl hE
  refine ge_putF (C := RX7) (T := TX7) (N := 6) (ci := 8) (k0 := o) tyX7 hC uw_X7 tyX7_ok nmX7 hE (Nat.le_refl _) hS (by omega) (fs := [.ref (B + (o + 1)), .int 0, .ref (B + (o + 2)), .null, .int 0, .int 0]) (eCat_0.trans rfl) rfl 3 (by decide) fj_X7_23 rfl (hnm.trans rfl) rfl rfl rfl (Nat.le_of_ble_eq_true rfl) dX7_init_29 (fun H locs hE hS => ?_)
  replace hE := le_set0 hE
  exact hend dX7_init_32 (le_end hE rfl (fun k hk => by rcases (show k = 0 ∨ k = 1 ∨ k = 2 ∨ k = 3 ∨ k = 4 ∨ k = 5 ∨ k = 6 ∨ k = 7 ∨ k = 8 ∨ k = 9 ∨ k = 10 ∨ k = 11 ∨ k = 12 ∨ k = 13 by omega) with rfl | rfl | rfl | rfl | rfl | rfl | rfl | rfl | rfl | rfl | rfl | rfl | rfl | rfl <;> rfl)) hS (Nat.le_of_ble_eq_true rfl) (Nat.le_of_ble_eq_true rfl)
