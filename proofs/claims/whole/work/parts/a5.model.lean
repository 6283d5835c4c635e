/-! What the constructors make: the reference. -/
theorem vpc_int {c : ClassId} {n : Nat} : vp_cell c (n, .inl (fun _ => 0)) = arrV c n (fun _ => defaultValue .int) := rfl
theorem vpc_char {c : ClassId} {n : Nat} : vp_cell c (n, .inl (fun _ => 0)) = arrV c n (fun _ => defaultValue .char) := rfl
theorem vpc_byte {c : ClassId} {n : Nat} : vp_cell c (n, .inl (fun _ => 0)) = arrV c n (fun _ => defaultValue .byte) := rfl
/-- the reference's fields at the start -/
def zMo : Nat → Int32 := fun i => if i = 20 ∨ i = 21 then -1 else 0
def gxMo (T : Nat → ClassId) (B o k : Nat) : va_E := if k = 0 then eMo B o zMo else if k < 4 then eInt T 817 z0 else if k = 4 then eInt T 6536 z0 else if k < 7 then eInt T 6 z0 else if k < 9 then eInt T 16 z0 else if k = 9 then eChr T 40 z0 else if k = 10 then eChr T 60 z0 else eInt T 300 z0
theorem dX11_init_0 : decode cX11_init 0 = .ok (.aload_n 0, 1) := by decide +kernel
theorem dX11_init_1 : decode cX11_init 1 = .ok (.invokespecial 3, 3) := by decide +kernel
theorem dX11_init_4 : decode cX11_init 4 = .ok (.aload_n 0, 1) := by decide +kernel
theorem dX11_init_5 : decode cX11_init 5 = .ok (.sipush 817, 3) := by decide +kernel
theorem dX11_init_8 : decode cX11_init 8 = .ok (.newarray .int, 2) := by decide +kernel
theorem dX11_init_10 : decode cX11_init 10 = .ok (.putfield 9, 3) := by decide +kernel
theorem dX11_init_13 : decode cX11_init 13 = .ok (.aload_n 0, 1) := by decide +kernel
theorem dX11_init_14 : decode cX11_init 14 = .ok (.sipush 817, 3) := by decide +kernel
theorem dX11_init_17 : decode cX11_init 17 = .ok (.newarray .int, 2) := by decide +kernel
theorem dX11_init_19 : decode cX11_init 19 = .ok (.putfield 13, 3) := by decide +kernel
theorem dX11_init_22 : decode cX11_init 22 = .ok (.aload_n 0, 1) := by decide +kernel
theorem dX11_init_23 : decode cX11_init 23 = .ok (.sipush 817, 3) := by decide +kernel
theorem dX11_init_26 : decode cX11_init 26 = .ok (.newarray .int, 2) := by decide +kernel
theorem dX11_init_28 : decode cX11_init 28 = .ok (.putfield 16, 3) := by decide +kernel
theorem dX11_init_31 : decode cX11_init 31 = .ok (.aload_n 0, 1) := by decide +kernel
theorem dX11_init_32 : decode cX11_init 32 = .ok (.sipush 6536, 3) := by decide +kernel
theorem dX11_init_35 : decode cX11_init 35 = .ok (.newarray .int, 2) := by decide +kernel
theorem dX11_init_37 : decode cX11_init 37 = .ok (.putfield 19, 3) := by decide +kernel
theorem dX11_init_40 : decode cX11_init 40 = .ok (.aload_n 0, 1) := by decide +kernel
theorem dX11_init_41 : decode cX11_init 41 = .ok (.bipush 6, 2) := by decide +kernel
theorem dX11_init_43 : decode cX11_init 43 = .ok (.newarray .int, 2) := by decide +kernel
theorem dX11_init_45 : decode cX11_init 45 = .ok (.putfield 22, 3) := by decide +kernel
theorem dX11_init_48 : decode cX11_init 48 = .ok (.aload_n 0, 1) := by decide +kernel
theorem dX11_init_49 : decode cX11_init 49 = .ok (.bipush 6, 2) := by decide +kernel
theorem dX11_init_51 : decode cX11_init 51 = .ok (.newarray .int, 2) := by decide +kernel
theorem dX11_init_53 : decode cX11_init 53 = .ok (.putfield 25, 3) := by decide +kernel
theorem dX11_init_56 : decode cX11_init 56 = .ok (.aload_n 0, 1) := by decide +kernel
theorem dX11_init_57 : decode cX11_init 57 = .ok (.bipush 16, 2) := by decide +kernel
theorem dX11_init_59 : decode cX11_init 59 = .ok (.newarray .int, 2) := by decide +kernel
theorem dX11_init_61 : decode cX11_init 61 = .ok (.putfield 28, 3) := by decide +kernel
theorem dX11_init_64 : decode cX11_init 64 = .ok (.aload_n 0, 1) := by decide +kernel
theorem dX11_init_65 : decode cX11_init 65 = .ok (.bipush 16, 2) := by decide +kernel
theorem dX11_init_67 : decode cX11_init 67 = .ok (.newarray .int, 2) := by decide +kernel
theorem dX11_init_69 : decode cX11_init 69 = .ok (.putfield 31, 3) := by decide +kernel
theorem dX11_init_72 : decode cX11_init 72 = .ok (.aload_n 0, 1) := by decide +kernel
theorem dX11_init_73 : decode cX11_init 73 = .ok (.bipush 40, 2) := by decide +kernel
theorem dX11_init_75 : decode cX11_init 75 = .ok (.newarray .char, 2) := by decide +kernel
theorem dX11_init_77 : decode cX11_init 77 = .ok (.putfield 34, 3) := by decide +kernel
theorem dX11_init_80 : decode cX11_init 80 = .ok (.aload_n 0, 1) := by decide +kernel
theorem dX11_init_81 : decode cX11_init 81 = .ok (.bipush 60, 2) := by decide +kernel
theorem dX11_init_83 : decode cX11_init 83 = .ok (.newarray .char, 2) := by decide +kernel
theorem dX11_init_85 : decode cX11_init 85 = .ok (.putfield 38, 3) := by decide +kernel
theorem dX11_init_88 : decode cX11_init 88 = .ok (.aload_n 0, 1) := by decide +kernel
theorem dX11_init_89 : decode cX11_init 89 = .ok (.iconst (-1), 1) := by decide +kernel
theorem dX11_init_90 : decode cX11_init 90 = .ok (.putfield 41, 3) := by decide +kernel
theorem dX11_init_93 : decode cX11_init 93 = .ok (.aload_n 0, 1) := by decide +kernel
theorem dX11_init_94 : decode cX11_init 94 = .ok (.iconst (-1), 1) := by decide +kernel
theorem dX11_init_95 : decode cX11_init 95 = .ok (.putfield 45, 3) := by decide +kernel
theorem dX11_init_98 : decode cX11_init 98 = .ok (.aload_n 0, 1) := by decide +kernel
theorem dX11_init_99 : decode cX11_init 99 = .ok (.sipush 300, 3) := by decide +kernel
theorem dX11_init_102 : decode cX11_init 102 = .ok (.newarray .int, 2) := by decide +kernel
theorem dX11_init_104 : decode cX11_init 104 = .ok (.putfield 48, 3) := by decide +kernel
theorem dX11_init_107 : decode cX11_init 107 = .ok (.return_, 1) := by decide +kernel
theorem lo_X11_3 : Cond.methodLink RX11 3 Lib.objectInit ∈ WG := wg_t 1669 (by decide +kernel) (by decide +kernel)
theorem fj_X11_9 : Cond.fieldLink RX11 9 "AvalancheGalleryModel" "s" "[I" ∈ WG := wg_t 1670 (by decide +kernel) (by decide +kernel)
theorem fj_X11_13 : Cond.fieldLink RX11 13 "AvalancheGalleryModel" "before" "[I" ∈ WG := wg_t 1671 (by decide +kernel) (by decide +kernel)
theorem fj_X11_16 : Cond.fieldLink RX11 16 "AvalancheGalleryModel" "saved" "[I" ∈ WG := wg_t 1672 (by decide +kernel) (by decide +kernel)
theorem fj_X11_19 : Cond.fieldLink RX11 19 "AvalancheGalleryModel" "past" "[I" ∈ WG := wg_t 1674 (by decide +kernel) (by decide +kernel)
theorem fj_X11_22 : Cond.fieldLink RX11 22 "AvalancheGalleryModel" "far" "[I" ∈ WG := wg_t 1679 (by decide +kernel) (by decide +kernel)
theorem fj_X11_25 : Cond.fieldLink RX11 25 "AvalancheGalleryModel" "steps" "[I" ∈ WG := wg_t 1680 (by decide +kernel) (by decide +kernel)
theorem fj_X11_28 : Cond.fieldLink RX11 28 "AvalancheGalleryModel" "pile" "[I" ∈ WG := wg_t 1681 (by decide +kernel) (by decide +kernel)
theorem fj_X11_31 : Cond.fieldLink RX11 31 "AvalancheGalleryModel" "toppled" "[I" ∈ WG := wg_t 1682 (by decide +kernel) (by decide +kernel)
theorem fj_X11_34 : Cond.fieldLink RX11 34 "AvalancheGalleryModel" "output" "[C" ∈ WG := wg_t 1684 (by decide +kernel) (by decide +kernel)
theorem fj_X11_38 : Cond.fieldLink RX11 38 "AvalancheGalleryModel" "text" "[C" ∈ WG := wg_t 1686 (by decide +kernel) (by decide +kernel)
theorem fj_X11_41 : Cond.fieldLink RX11 41 "AvalancheGalleryModel" "errorAt" "I" ∈ WG := wg_t 1690 (by decide +kernel) (by decide +kernel)
theorem fj_X11_45 : Cond.fieldLink RX11 45 "AvalancheGalleryModel" "failedAt" "I" ∈ WG := wg_t 1691 (by decide +kernel) (by decide +kernel)
theorem fj_X11_48 : Cond.fieldLink RX11 48 "AvalancheGalleryModel" "commands" "[I" ∈ WG := wg_t 1692 (by decide +kernel) (by decide +kernel)
abbrev rmiX11 : Room := { frames := 2, cells := 11, slots := 9431, locals := 60 }
set_option maxHeartbeats 4000000 in
set_option maxRecDepth 100000 in
theorem metX11_init {l : Launch} {s0 : State} {b B : Nat} {D : va_G} {T : Nat → ClassId} {X : Nat → Prop} {o : Nat} {E : Nat → va_E} (F : FX l s0 b D T B) (he : E o = .inr (12, [.null, .null, .null, .int 0, .null, .int 0, .int 0, .int 0, .int 0, .null, .null, .null, .null, .int 0, .null, .int 0, .null, .int 0, .int 0, .int 0, .int 0, .int 0, .null, .int 0])) : gMet l yX11_init cX11_init 1 none rmiX11 [.ref (B + o)] (gE D B (o + 1) E) (KC s0 X) none (gE D B (o + 12) (eCat E o (gxMo T B o))) (fun z => B + o ≤ z) 11 9431 := by
  refine gCt_of RX11 (by decide +kernel) rfl (Nat.le_of_ble_eq_true rfl) ?_
  intro p e s m args below meth c ls Q hx hb hlocks hml hown hts hnm hW hk hl hS hend
  have hC := FX_C F hk hx hb hown hts
  have hE := le_start hW he
  have hl : lv_has ls 1 [(0, .ref (B + o))] := hl
  refine lv_aload_n hx hb dX11_init_0 rfl (lv_at hl 0 rfl) ?_
  refine al_init hC lo_X11_3 (hl.1.trans hml.symm) (Nat.le_of_ble_eq_true rfl) (Nat.le_of_ble_eq_true rfl) dX11_init_1 ?_
  refine lv_aload_n hx hb dX11_init_4 rfl (lv_at hl 0 rfl) ?_
  refine lv_sipush (v := 817) hx hb dX11_init_5 (by decide +kernel) ?_
  refine ge_arr (ty := .int) (t0 := 0) (cA := T 0) (n0 := 817) (a0 := (817, .inl (fun _ => 0))) hC lac_int rfl rfl hE hS vpc_int (by decide +kernel) (by decide +kernel) (Nat.le_of_ble_eq_true rfl) (Nat.le_of_ble_eq_true rfl) (Nat.le_of_ble_eq_true rfl) dX11_init_8 (fun H hE hS => ?_)
  replace hE := le_push (t := 1) (t' := 2) rfl hE
  refine ge_putF (C := RX11) (T := TX11) (N := 24) (ci := 12) (k0 := o) tyX11 hC uw_X11 tyX11_ok nmX11 hE (Nat.le_refl _) hS (by omega) (fs := [.null, .null, .null, .int 0, .null, .int 0, .int 0, .int 0, .int 0, .null, .null, .null, .null, .int 0, .null, .int 0, .null, .int 0, .int 0, .int 0, .int 0, .int 0, .null, .int 0]) (eCat_0.trans rfl) rfl 0 (by decide) fj_X11_9 rfl (hnm.trans rfl) rfl rfl rfl (Nat.le_of_ble_eq_true rfl) dX11_init_10 (fun H locs hE hS => ?_)
  replace hE := le_set0 hE
  refine lv_aload_n hx hb dX11_init_13 rfl (lv_at hl 0 rfl) ?_
  refine lv_sipush (v := 817) hx hb dX11_init_14 (by decide +kernel) ?_
  refine ge_arr (ty := .int) (t0 := 0) (cA := T 0) (n0 := 817) (a0 := (817, .inl (fun _ => 0))) hC lac_int rfl rfl hE hS vpc_int (by decide +kernel) (by decide +kernel) (Nat.le_of_ble_eq_true rfl) (Nat.le_of_ble_eq_true rfl) (Nat.le_of_ble_eq_true rfl) dX11_init_17 (fun H hE hS => ?_)
  replace hE := le_push (t := 2) (t' := 3) rfl hE
  refine ge_putF (C := RX11) (T := TX11) (N := 24) (ci := 12) (k0 := o) tyX11 hC uw_X11 tyX11_ok nmX11 hE (Nat.le_refl _) hS (by omega) (fs := [.ref (B + (o + 1)), .null, .null, .int 0, .null, .int 0, .int 0, .int 0, .int 0, .null, .null, .null, .null, .int 0, .null, .int 0, .null, .int 0, .int 0, .int 0, .int 0, .int 0, .null, .int 0]) (eCat_0.trans rfl) rfl 1 (by decide) fj_X11_13 rfl (hnm.trans rfl) rfl rfl rfl (Nat.le_of_ble_eq_true rfl) dX11_init_19 (fun H locs hE hS => ?_)
  replace hE := le_set0 hE
  refine lv_aload_n hx hb dX11_init_22 rfl (lv_at hl 0 rfl) ?_
  refine lv_sipush (v := 817) hx hb dX11_init_23 (by decide +kernel) ?_
  refine ge_arr (ty := .int) (t0 := 0) (cA := T 0) (n0 := 817) (a0 := (817, .inl (fun _ => 0))) hC lac_int rfl rfl hE hS vpc_int (by decide +kernel) (by decide +kernel) (Nat.le_of_ble_eq_true rfl) (Nat.le_of_ble_eq_true rfl) (Nat.le_of_ble_eq_true rfl) dX11_init_26 (fun H hE hS => ?_)
  replace hE := le_push (t := 3) (t' := 4) rfl hE
  refine ge_putF (C := RX11) (T := TX11) (N := 24) (ci := 12) (k0 := o) tyX11 hC uw_X11 tyX11_ok nmX11 hE (Nat.le_refl _) hS (by omega) (fs := [.ref (B + (o + 1)), .ref (B + (o + 2)), .null, .int 0, .null, .int 0, .int 0, .int 0, .int 0, .null, .null, .null, .null, .int 0, .null, .int 0, .null, .int 0, .int 0, .int 0, .int 0, .int 0, .null, .int 0]) (eCat_0.trans rfl) rfl 2 (by decide) fj_X11_16 rfl (hnm.trans rfl) rfl rfl rfl (Nat.le_of_ble_eq_true rfl) dX11_init_28 (fun H locs hE hS => ?_)
  replace hE := le_set0 hE
  refine lv_aload_n hx hb dX11_init_31 rfl (lv_at hl 0 rfl) ?_
  refine lv_sipush (v := 6536) hx hb dX11_init_32 (by decide +kernel) ?_
  refine ge_arr (ty := .int) (t0 := 0) (cA := T 0) (n0 := 6536) (a0 := (6536, .inl (fun _ => 0))) hC lac_int rfl rfl hE hS vpc_int (by decide +kernel) (by decide +kernel) (Nat.le_of_ble_eq_true rfl) (Nat.le_of_ble_eq_true rfl) (Nat.le_of_ble_eq_true rfl) dX11_init_35 (fun H hE hS => ?_)
  replace hE := le_push (t := 4) (t' := 5) rfl hE
  refine ge_putF (C := RX11) (T := TX11) (N := 24) (ci := 12) (k0 := o) tyX11 hC uw_X11 tyX11_ok nmX11 hE (Nat.le_refl _) hS (by omega) (fs := [.ref (B + (o + 1)), .ref (B + (o + 2)), .ref (B + (o + 3)), .int 0, .null, .int 0, .int 0, .int 0, .int 0, .null, .null, .null, .null, .int 0, .null, .int 0, .null, .int 0, .int 0, .int 0, .int 0, .int 0, .null, .int 0]) (eCat_0.trans rfl) rfl 4 (by decide) fj_X11_19 rfl (hnm.trans rfl) rfl rfl rfl (Nat.le_of_ble_eq_true rfl) dX11_init_37 (fun H locs hE hS => ?_)
  replace hE := le_set0 hE
  refine lv_aload_n hx hb dX11_init_40 rfl (lv_at hl 0 rfl) ?_
  refine lv_bipush (v := 6) hx hb dX11_init_41 (by decide +kernel) ?_
  refine ge_arr (ty := .int) (t0 := 0) (cA := T 0) (n0 := 6) (a0 := (6, .inl (fun _ => 0))) hC lac_int rfl rfl hE hS vpc_int (by decide +kernel) (by decide +kernel) (Nat.le_of_ble_eq_true rfl) (Nat.le_of_ble_eq_true rfl) (Nat.le_of_ble_eq_true rfl) dX11_init_43 (fun H hE hS => ?_)
  replace hE := le_push (t := 5) (t' := 6) rfl hE
  refine ge_putF (C := RX11) (T := TX11) (N := 24) (ci := 12) (k0 := o) tyX11 hC uw_X11 tyX11_ok nmX11 hE (Nat.le_refl _) hS (by omega) (fs := [.ref (B + (o + 1)), .ref (B + (o + 2)), .ref (B + (o + 3)), .int 0, .ref (B + (o + 4)), .int 0, .int 0, .int 0, .int 0, .null, .null, .null, .null, .int 0, .null, .int 0, .null, .int 0, .int 0, .int 0, .int 0, .int 0, .null, .int 0]) (eCat_0.trans rfl) rfl 9 (by decide) fj_X11_22 rfl (hnm.trans rfl) rfl rfl rfl (Nat.le_of_ble_eq_true rfl) dX11_init_45 (fun H locs hE hS => ?_)
  replace hE := le_set0 hE
  refine lv_aload_n hx hb dX11_init_48 rfl (lv_at hl 0 rfl) ?_
  refine lv_bipush (v := 6) hx hb dX11_init_49 (by decide +kernel) ?_
  refine ge_arr (ty := .int) (t0 := 0) (cA := T 0) (n0 := 6) (a0 := (6, .inl (fun _ => 0))) hC lac_int rfl rfl hE hS vpc_int (by decide +kernel) (by decide +kernel) (Nat.le_of_ble_eq_true rfl) (Nat.le_of_ble_eq_true rfl) (Nat.le_of_ble_eq_true rfl) dX11_init_51 (fun H hE hS => ?_)
  replace hE := le_push (t := 6) (t' := 7) rfl hE
  refine ge_putF (C := RX11) (T := TX11) (N := 24) (ci := 12) (k0 := o) tyX11 hC uw_X11 tyX11_ok nmX11 hE (Nat.le_refl _) hS (by omega) (fs := [.ref (B + (o + 1)), .ref (B + (o + 2)), .ref (B + (o + 3)), .int 0, .ref (B + (o + 4)), .int 0, .int 0, .int 0, .int 0, .ref (B + (o + 5)), .null, .null, .null, .int 0, .null, .int 0, .null, .int 0, .int 0, .int 0, .int 0, .int 0, .null, .int 0]) (eCat_0.trans rfl) rfl 10 (by decide) fj_X11_25 rfl (hnm.trans rfl) rfl rfl rfl (Nat.le_of_ble_eq_true rfl) dX11_init_53 (fun H locs hE hS => ?_)
  replace hE := le_set0 hE
  refine lv_aload_n hx hb dX11_init_56 rfl (lv_at hl 0 rfl) ?_
  refine lv_bipush (v := 16) hx hb dX11_init_57 (by decide +kernel) ?_
  refine ge_arr (ty := .int) (t0 := 0) (cA := T 0) (n0 := 16) (a0 := (16, .inl (fun _ => 0))) hC lac_int rfl rfl hE hS vpc_int (by decide +kernel) (by decide +kernel) (Nat.le_of_ble_eq_true rfl) (Nat.le_of_ble_eq_true rfl) (Nat.le_of_ble_eq_true rfl) dX11_init_59 (fun H hE hS => ?_)
  replace hE := le_push (t := 7) (t' := 8) rfl hE
  refine ge_putF (C := RX11) (T := TX11) (N := 24) (ci := 12) (k0 := o) tyX11 hC uw_X11 tyX11_ok nmX11 hE (Nat.le_refl _) hS (by omega) (fs := [.ref (B + (o + 1)), .ref (B + (o + 2)), .ref (B + (o + 3)), .int 0, .ref (B + (o + 4)), .int 0, .int 0, .int 0, .int 0, .ref (B + (o + 5)), .ref (B + (o + 6)), .null, .null, .int 0, .null, .int 0, .null, .int 0, .int 0, .int 0, .int 0, .int 0, .null, .int 0]) (eCat_0.trans rfl) rfl 11 (by decide) fj_X11_28 rfl (hnm.trans rfl) rfl rfl rfl (Nat.le_of_ble_eq_true rfl) dX11_init_61 (fun H locs hE hS => ?_)
  replace hE := le_set0 hE
  refine lv_aload_n hx hb dX11_init_64 rfl (lv_at hl 0 rfl) ?_
  refine lv_bipush (v := 16) hx hb dX11_init_65 (by decide +kernel) ?_
  refine ge_arr (ty := .int) (t0 := 0) (cA := T 0) (n0 := 16) (a0 := (16, .inl (fun _ => 0))) hC lac_int rfl rfl hE hS vpc_int (by decide +kernel) (by decide +kernel) (Nat.le_of_ble_eq_true rfl) (Nat.le_of_ble_eq_true rfl) (Nat.le_of_ble_eq_true rfl) dX11_init_67 (fun H hE hS => ?_)
  replace hE := le_push (t := 8) (t' := 9) rfl hE
  refine ge_putF (C := RX11) (T := TX11) (N := 24) (ci := 12) (k0 := o) tyX11 hC uw_X11 tyX11_ok nmX11 hE (Nat.le_refl _) hS (by omega) (fs := [.ref (B + (o + 1)), .ref (B + (o + 2)), .ref (B + (o + 3)), .int 0, .ref (B + (o + 4)), .int 0, .int 0, .int 0, .int 0, .ref (B + (o + 5)), .ref (B + (o + 6)), .ref (B + (o + 7)), .null, .int 0, .null, .int 0, .null, .int 0, .int 0, .int 0, .int 0, .int 0, .null, .int 0]) (eCat_0.trans rfl) rfl 12 (by decide) fj_X11_31 rfl (hnm.trans rfl) rfl rfl rfl (Nat.le_of_ble_eq_true rfl) dX11_init_69 (fun H locs hE hS => ?_)
  replace hE := le_set0 hE
  refine lv_aload_n hx hb dX11_init_72 rfl (lv_at hl 0 rfl) ?_
  refine lv_bipush (v := 40) hx hb dX11_init_73 (by decide +kernel) ?_
  refine ge_arr (ty := .char) (t0 := 2) (cA := T 2) (n0 := 40) (a0 := (40, .inl (fun _ => 0))) hC lac_char rfl rfl hE hS vpc_char (by decide +kernel) (by decide +kernel) (Nat.le_of_ble_eq_true rfl) (Nat.le_of_ble_eq_true rfl) (Nat.le_of_ble_eq_true rfl) dX11_init_75 (fun H hE hS => ?_)
  replace hE := le_push (t := 9) (t' := 10) rfl hE
  refine ge_putF (C := RX11) (T := TX11) (N := 24) (ci := 12) (k0 := o) tyX11 hC uw_X11 tyX11_ok nmX11 hE (Nat.le_refl _) hS (by omega) (fs := [.ref (B + (o + 1)), .ref (B + (o + 2)), .ref (B + (o + 3)), .int 0, .ref (B + (o + 4)), .int 0, .int 0, .int 0, .int 0, .ref (B + (o + 5)), .ref (B + (o + 6)), .ref (B + (o + 7)), .ref (B + (o + 8)), .int 0, .null, .int 0, .null, .int 0, .int 0, .int 0, .int 0, .int 0, .null, .int 0]) (eCat_0.trans rfl) rfl 14 (by decide) fj_X11_34 rfl (hnm.trans rfl) rfl rfl rfl (Nat.le_of_ble_eq_true rfl) dX11_init_77 (fun H locs hE hS => ?_)
  replace hE := le_set0 hE
  refine lv_aload_n hx hb dX11_init_80 rfl (lv_at hl 0 rfl) ?_
  refine lv_bipush (v := 60) hx hb dX11_init_81 (by decide +kernel) ?_
  refine ge_arr (ty := .char) (t0 := 2) (cA := T 2) (n0 := 60) (a0 := (60, .inl (fun _ => 0))) hC lac_char rfl rfl hE hS vpc_char (by decide +kernel) (by decide +kernel) (Nat.le_of_ble_eq_true rfl) (Nat.le_of_ble_eq_true rfl) (Nat.le_of_ble_eq_true rfl) dX11_init_83 (fun H hE hS => ?_)
  replace hE := le_push (t := 10) (t' := 11) rfl hE
  refine ge_putF (C := RX11) (T := TX11) (N := 24) (ci := 12) (k0 := o) tyX11 hC uw_X11 tyX11_ok nmX11 hE (Nat.le_refl _) hS (by omega) (fs := [.ref (B + (o + 1)), .ref (B + (o + 2)), .ref (B + (o + 3)), .int 0, .ref (B + (o + 4)), .int 0, .int 0, .int 0, .int 0, .ref (B + (o + 5)), .ref (B + (o + 6)), .ref (B + (o + 7)), .ref (B + (o + 8)), .int 0, .ref (B + (o + 9)), .int 0, .null, .int 0, .int 0, .int 0, .int 0, .int 0, .null, .int 0]) (eCat_0.trans rfl) rfl 16 (by decide) fj_X11_38 rfl (hnm.trans rfl) rfl rfl rfl (Nat.le_of_ble_eq_true rfl) dX11_init_85 (fun H locs hE hS => ?_)
  replace hE := le_set0 hE
  refine lv_aload_n hx hb dX11_init_88 rfl (lv_at hl 0 rfl) ?_
  refine lv_iconst (v := (-1)) hx hb dX11_init_89 (by decide +kernel) ?_
  refine ge_put (C := RX11) (T := TX11) (N := 24) (ci := 12) (k0 := o) tyX11 hC uw_X11 tyX11_ok nmX11 hE (Nat.le_refl _) hS (by omega) (fs := [.ref (B + (o + 1)), .ref (B + (o + 2)), .ref (B + (o + 3)), .int 0, .ref (B + (o + 4)), .int 0, .int 0, .int 0, .int 0, .ref (B + (o + 5)), .ref (B + (o + 6)), .ref (B + (o + 7)), .ref (B + (o + 8)), .int 0, .ref (B + (o + 9)), .int 0, .ref (B + (o + 10)), .int 0, .int 0, .int 0, .int 0, .int 0, .null, .int 0]) (eCat_0.trans rfl) rfl 20 (by decide) fj_X11_41 rfl rfl rfl (Nat.le_of_ble_eq_true rfl) dX11_init_90 (fun H locs hE hS => ?_)
  replace hE := le_set0 hE
  refine lv_aload_n hx hb dX11_init_93 rfl (lv_at hl 0 rfl) ?_
  refine lv_iconst (v := (-1)) hx hb dX11_init_94 (by decide +kernel) ?_
  refine ge_put (C := RX11) (T := TX11) (N := 24) (ci := 12) (k0 := o) tyX11 hC uw_X11 tyX11_ok nmX11 hE (Nat.le_refl _) hS (by omega) (fs := [.ref (B + (o + 1)), .ref (B + (o + 2)), .ref (B + (o + 3)), .int 0, .ref (B + (o + 4)), .int 0, .int 0, .int 0, .int 0, .ref (B + (o + 5)), .ref (B + (o + 6)), .ref (B + (o + 7)), .ref (B + (o + 8)), .int 0, .ref (B + (o + 9)), .int 0, .ref (B + (o + 10)), .int 0, .int 0, .int 0, .int (-1), .int 0, .null, .int 0]) (eCat_0.trans rfl) rfl 21 (by decide) fj_X11_45 rfl rfl rfl (Nat.le_of_ble_eq_true rfl) dX11_init_95 (fun H locs hE hS => ?_)
  replace hE := le_set0 hE
  refine lv_aload_n hx hb dX11_init_98 rfl (lv_at hl 0 rfl) ?_
  refine lv_sipush (v := 300) hx hb dX11_init_99 (by decide +kernel) ?_
  refine ge_arr (ty := .int) (t0 := 0) (cA := T 0) (n0 := 300) (a0 := (300, .inl (fun _ => 0))) hC lac_int rfl rfl hE hS vpc_int (by decide +kernel) (by decide +kernel) (Nat.le_of_ble_eq_true rfl) (Nat.le_of_ble_eq_true rfl) (Nat.le_of_ble_eq_true rfl) dX11_init_102 (fun H hE hS => ?_)
  replace hE := le_push (t := 11) (t' := 12) rfl hE
  refine ge_putF (C := RX11) (T := TX11) (N := 24) (ci := 12) (k0 := o) tyX11 hC uw_X11 tyX11_ok nmX11 hE (Nat.le_refl _) hS (by omega) (fs := [.ref (B + (o + 1)), .ref (B + (o + 2)), .ref (B + (o + 3)), .int 0, .ref (B + (o + 4)), .int 0, .int 0, .int 0, .int 0, .ref (B + (o + 5)), .ref (B + (o + 6)), .ref (B + (o + 7)), .ref (B + (o + 8)), .int 0, .ref (B + (o + 9)), .int 0, .ref (B + (o + 10)), .int 0, .int 0, .int 0, .int (-1), .int (-1), .null, .int 0]) (eCat_0.trans rfl) rfl 22 (by decide) fj_X11_48 rfl (hnm.trans rfl) rfl rfl rfl (Nat.le_of_ble_eq_true rfl) dX11_init_104 (fun H locs hE hS => ?_)
  replace hE := le_set0 hE
  exact hend dX11_init_107 (le_end hE rfl (fun k hk => by rcases (show k = 0 ∨ k = 1 ∨ k = 2 ∨ k = 3 ∨ k = 4 ∨ k = 5 ∨ k = 6 ∨ k = 7 ∨ k = 8 ∨ k = 9 ∨ k = 10 ∨ k = 11 by omega) with rfl | rfl | rfl | rfl | rfl | rfl | rfl | rfl | rfl | rfl | rfl | rfl <;> rfl)) hS (Nat.le_of_ble_eq_true rfl) (Nat.le_of_ble_eq_true rfl)
