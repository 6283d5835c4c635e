/-! What the constructors make: a state. -/
def gxStL (T : Nat → ClassId) (B o x k : Nat) : va_E := if k = 16 then .inl (T 5, 5, rws (fun j => if j < x then some (B + (o + 16 + 1 + 6 * j)) else none)) else shSt T B z0 (o + k) k
theorem shSt_ex {T : Nat → ClassId} {B o j n : Nat} (hn : n < 6) : shSt T B z0 (o + (17 + 6 * j + n)) (17 + 6 * j + n) = gxEx T B (o + (17 + 6 * j)) n := by
  unfold shSt gxEx
  have e : (17 + 6 * j + n - 17) % 6 = n := by omega
  rw [if_neg (by omega), if_neg (by omega), if_neg (by omega), if_neg (by omega), if_neg (by omega), if_neg (by omega), if_neg (by omega), e]
  by_cases h : n = 0
  · subst h; rfl
  · rw [if_neg h, if_neg h]
theorem gE.wk {D : va_G} {B n : Nat} {E E' : Nat → va_E} {H : Heap} (h : gE D B n E H) (he : ∀ o, o < n → E' o = E o ∨ ∃ (c : ClassId) (k : Nat) (f g : Nat → Option Nat), E o = .inl (c, k, rws f) ∧ E' o = .inl (c, k, rws g) ∧ ∀ j, j < k → f j = g j) : gE D B n E' H := by
  refine ⟨h.1, fun o ho => ?_⟩
  have h0 := h.2 o ho
  rcases he o ho with e | ⟨c, k, f, g, e1, e2, e3⟩
  · rw [e]; exact h0
  · rw [e1] at h0
    rw [e2]
    have h1 : H[B + o]? = some (vp_cell c (k, rws f)) := h0
    show H[B + o]? = some (vp_cell c (k, rws g))
    rw [h1, vp_cell_q, vp_cell_q]
    exact congrArg some (arrV_cg (fun j hj => by rw [e3 j hj]))
theorem inA_nI {x n : Nat} (h : x < n) (h2 : x < 2 ^ 31) : vp_in (nI x) n := fun z => z.elim (nI_pos h2) (fun z => by rw [nI_clamp h2] at z; omega)
theorem dX8_init_0 : decode cX8_init 0 = .ok (.aload_n 0, 1) := by decide +kernel
theorem dX8_init_1 : decode cX8_init 1 = .ok (.invokespecial 3, 3) := by decide +kernel
theorem dX8_init_4 : decode cX8_init 4 = .ok (.aload_n 0, 1) := by decide +kernel
theorem dX8_init_5 : decode cX8_init 5 = .ok (.bipush 6, 2) := by decide +kernel
theorem dX8_init_7 : decode cX8_init 7 = .ok (.newarray .int, 2) := by decide +kernel
theorem dX8_init_9 : decode cX8_init 9 = .ok (.putfield 9, 3) := by decide +kernel
theorem dX8_init_12 : decode cX8_init 12 = .ok (.aload_n 0, 1) := by decide +kernel
theorem dX8_init_13 : decode cX8_init 13 = .ok (.bipush 6, 2) := by decide +kernel
theorem dX8_init_15 : decode cX8_init 15 = .ok (.bipush 6, 2) := by decide +kernel
theorem dX8_init_17 : decode cX8_init 17 = .ok (.multianewarray 15 2, 4) := by decide +kernel
theorem dX8_init_21 : decode cX8_init 21 = .ok (.putfield 17, 3) := by decide +kernel
theorem dX8_init_24 : decode cX8_init 24 = .ok (.aload_n 0, 1) := by decide +kernel
theorem dX8_init_25 : decode cX8_init 25 = .ok (.bipush 6, 2) := by decide +kernel
theorem dX8_init_27 : decode cX8_init 27 = .ok (.bipush 6, 2) := by decide +kernel
theorem dX8_init_29 : decode cX8_init 29 = .ok (.multianewarray 15 2, 4) := by decide +kernel
theorem dX8_init_33 : decode cX8_init 33 = .ok (.putfield 20, 3) := by decide +kernel
theorem dX8_init_36 : decode cX8_init 36 = .ok (.aload_n 0, 1) := by decide +kernel
theorem dX8_init_37 : decode cX8_init 37 = .ok (.iconst 5, 1) := by decide +kernel
theorem dX8_init_38 : decode cX8_init 38 = .ok (.anewarray 23, 3) := by decide +kernel
theorem dX8_init_41 : decode cX8_init 41 = .ok (.putfield 25, 3) := by decide +kernel
theorem dX8_init_44 : decode cX8_init 44 = .ok (.iconst 0, 1) := by decide +kernel
theorem dX8_init_45 : decode cX8_init 45 = .ok (.istore_n 1, 1) := by decide +kernel
theorem dX8_init_46 : decode cX8_init 46 = .ok (.iload_n 1, 1) := by decide +kernel
theorem dX8_init_47 : decode cX8_init 47 = .ok (.iconst 5, 1) := by decide +kernel
theorem dX8_init_48 : decode cX8_init 48 = .ok (.if_icmp .ge 22, 3) := by decide +kernel
theorem dX8_init_51 : decode cX8_init 51 = .ok (.aload_n 0, 1) := by decide +kernel
theorem dX8_init_52 : decode cX8_init 52 = .ok (.getfield 25, 3) := by decide +kernel
theorem dX8_init_55 : decode cX8_init 55 = .ok (.iload_n 1, 1) := by decide +kernel
theorem dX8_init_56 : decode cX8_init 56 = .ok (.new 23, 3) := by decide +kernel
theorem dX8_init_59 : decode cX8_init 59 = .ok (.dup, 1) := by decide +kernel
theorem dX8_init_60 : decode cX8_init 60 = .ok (.invokespecial 29, 3) := by decide +kernel
theorem dX8_init_63 : decode cX8_init 63 = .ok (.aastore, 1) := by decide +kernel
theorem dX8_init_64 : decode cX8_init 64 = .ok (.iinc 1 1, 3) := by decide +kernel
theorem dX8_init_67 : decode cX8_init 67 = .ok (.goto (-21), 3) := by decide +kernel
theorem dX8_init_70 : decode cX8_init 70 = .ok (.return_, 1) := by decide +kernel
theorem lo_X8_3 : Cond.methodLink RX8 3 Lib.objectInit ∈ WG := wg_t 51 (by decide +kernel) (by decide +kernel)
theorem fj_X8_9 : Cond.fieldLink RX8 9 "AvalancheGallery$State" "warmths" "[I" ∈ WG := wg_t 121 (by decide +kernel) (by decide +kernel)
theorem cl_X8_15 : Cond.classLink RX8 15 "[[I" ∈ WG := wg_t 52 (by decide +kernel) (by decide +kernel)
theorem fj_X8_17 : Cond.fieldLink RX8 17 "AvalancheGallery$State" "minutesOfLegs" "[[I" ∈ WG := wg_t 123 (by decide +kernel) (by decide +kernel)
theorem fj_X8_20 : Cond.fieldLink RX8 20 "AvalancheGallery$State" "warmthOfLegs" "[[I" ∈ WG := wg_t 126 (by decide +kernel) (by decide +kernel)
theorem ao_X8 : Cond.arrayOver (.object "AvalancheGallery$Exhibit") ∈ lw_tbl := List.mem_append_right _ (List.mem_of_getElem? (i := 55) (by decide +kernel))
theorem cl_X8_23 : Cond.classLink RX8 23 "AvalancheGallery$Exhibit" ∈ WG := wg_t 54 (by decide +kernel) (by decide +kernel)
theorem fj_X8_25 : Cond.fieldLink RX8 25 "AvalancheGallery$State" "exhibits" "[LAvalancheGallery$Exhibit;" ∈ WG := wg_t 131 (by decide +kernel) (by decide +kernel)
theorem cl_X8_o : Cond.classLink RX8 23 RX1 ∈ WG ∧ Cond.instantiable RX1 12 ∈ WG ∧ Cond.initialized RX1 ∈ WG := ⟨cl_X8_23, wg_t 56 (by decide +kernel) (by decide +kernel), wg_t 3 (by decide +kernel) (by decide +kernel)⟩
theorem nc_X1 : Cond.code yX1_init cX1_init 1 none ∈ WG ∧ Cond.initialized yX1_init.cls ∈ WG ∧ Cond.instanceMethod yX1_init ∈ WG ∧ (yX1_init.cls ≠ "java/lang/invoke/MethodHandle" ∧ yX1_init.cls ≠ "java/lang/invoke/VarHandle" ∧ (parseMethodDescriptor yX1_init.desc).map (fun d => d.parameters.length) = some 0) := ⟨wg_t 59 (by decide +kernel) (by decide +kernel), wg_t 3 (by decide +kernel) (by decide +kernel), wg_t 58 (by decide +kernel) (by decide +kernel), by decide +kernel⟩
theorem nl_X8_29 : tables_1[57]? = some (.methodLinkNest RX8 29 yX1_init RX10) := by decide +kernel
abbrev rmiX8 : Room := { frames := 4, cells := 46, slots := 855, locals := 140 }
set_option maxHeartbeats 4000000 in
set_option maxRecDepth 100000 in
theorem metX8_init {l : Launch} {s0 : State} {b B : Nat} {D : va_G} {T : Nat → ClassId} {X : Nat → Prop} {o : Nat} {E : Nat → va_E} (F : FX l s0 b D T B) (he : E o = .inr (9, [.int 0, .null, .null, .null, .int 0, .null, .int 0, .int 0])) : gMet l yX8_init cX8_init 2 none rmiX8 [.ref (B + o)] (gE D B (o + 1) E) (KC s0 X) none (gE D B (o + 47) (eCat E o (fun k => shSt T B z0 (o + k) k))) (fun z => B + o ≤ z) 46 855 := by
  refine gCt_of RX8 (by decide +kernel) rfl (Nat.le_of_ble_eq_true rfl) ?_
  intro p e s m args below meth c ls Q hx hb hlocks hml hown hts hnm hW hk hl hS hend
  have hC := FX_C F hk hx hb hown hts
  have hE := le_start hW he
  have hl : lv_has ls 2 [(0, .ref (B + o))] := hl
  refine lv_aload_n hx hb dX8_init_0 rfl (lv_at hl 0 rfl) ?_
  refine al_init hC lo_X8_3 (hl.1.trans hml.symm) (Nat.le_of_ble_eq_true rfl) (Nat.le_of_ble_eq_true rfl) dX8_init_1 ?_
  refine lv_aload_n hx hb dX8_init_4 rfl (lv_at hl 0 rfl) ?_
  refine lv_bipush (v := 6) hx hb dX8_init_5 (by decide) ?_
  refine ge_arr (ty := .int) (t0 := 0) (cA := T 0) (n0 := 6) (a0 := (6, .inl (fun _ => 0))) hC lac_int rfl rfl hE hS rfl (by decide) (by decide) (Nat.le_of_ble_eq_true rfl) (Nat.le_of_ble_eq_true rfl) (Nat.le_of_ble_eq_true rfl) dX8_init_7 (fun H hE hS => ?_)
  replace hE := le_push (t := 1) (t' := 2) rfl hE
  refine ge_putF (C := RX8) (T := TX8) (N := 8) (ci := 9) (k0 := o) tyX8 hC uw_X8 tyX8_ok nmX8 hE (Nat.le_refl _) hS (by omega) (fs := [.int 0, .null, .null, .null, .int 0, .null, .int 0, .int 0]) (eCat_0.trans rfl) rfl 1 (by decide) fj_X8_9 rfl (hnm.trans rfl) rfl rfl rfl (Nat.le_of_ble_eq_true rfl) dX8_init_9 (fun H locs hE hS => ?_)
  replace hE := le_set0 hE
  refine lv_aload_n hx hb dX8_init_12 rfl (lv_at hl 0 rfl) ?_
  refine lv_bipush (v := 6) hx hb dX8_init_13 (by decide) ?_
  refine lv_bipush (v := 6) hx hb dX8_init_15 (by decide) ?_
  refine ge_mna (t0 := 0) (t3 := 3) (n0 := 6) (n1 := 6) (cI := T 0) (cA := T 3) hC cl_X8_15 (FX_AOA F hk ao_int) lac_int rfl rfl hE hS (by decide) (by decide) (by decide) (by decide) (Nat.le_of_ble_eq_true rfl) (Nat.le_of_ble_eq_true rfl) (Nat.le_of_ble_eq_true rfl) (Nat.le_of_ble_eq_true rfl) dX8_init_17 (fun H hE hS => ?_)
  replace hE := le_more (t := 2) (m := 7) (t' := 9) rfl hE
  refine ge_putF (C := RX8) (T := TX8) (N := 8) (ci := 9) (k0 := o) tyX8 hC uw_X8 tyX8_ok nmX8 hE (Nat.le_refl _) hS (by omega) (fs := [.int 0, .ref (B + (o + 1)), .null, .null, .int 0, .null, .int 0, .int 0]) (eCat_0.trans rfl) rfl 2 (by decide) fj_X8_17 rfl (hnm.trans rfl) rfl rfl rfl (Nat.le_of_ble_eq_true rfl) dX8_init_21 (fun H locs hE hS => ?_)
  replace hE := le_set0 hE
  refine lv_aload_n hx hb dX8_init_24 rfl (lv_at hl 0 rfl) ?_
  refine lv_bipush (v := 6) hx hb dX8_init_25 (by decide) ?_
  refine lv_bipush (v := 6) hx hb dX8_init_27 (by decide) ?_
  refine ge_mna (t0 := 0) (t3 := 3) (n0 := 6) (n1 := 6) (cI := T 0) (cA := T 3) hC cl_X8_15 (FX_AOA F hk ao_int) lac_int rfl rfl hE hS (by decide) (by decide) (by decide) (by decide) (Nat.le_of_ble_eq_true rfl) (Nat.le_of_ble_eq_true rfl) (Nat.le_of_ble_eq_true rfl) (Nat.le_of_ble_eq_true rfl) dX8_init_29 (fun H hE hS => ?_)
  replace hE := le_more (t := 9) (m := 7) (t' := 16) rfl hE
  refine ge_putF (C := RX8) (T := TX8) (N := 8) (ci := 9) (k0 := o) tyX8 hC uw_X8 tyX8_ok nmX8 hE (Nat.le_refl _) hS (by omega) (fs := [.int 0, .ref (B + (o + 1)), .ref (B + (o + 2)), .null, .int 0, .null, .int 0, .int 0]) (eCat_0.trans rfl) rfl 3 (by decide) fj_X8_20 rfl (hnm.trans rfl) rfl rfl rfl (Nat.le_of_ble_eq_true rfl) dX8_init_33 (fun H locs hE hS => ?_)
  replace hE := le_set0 hE
  refine lv_aload_n hx hb dX8_init_36 rfl (lv_at hl 0 rfl) ?_
  refine lv_iconst (v := 5) hx hb dX8_init_37 (by decide) ?_
  refine ge_anew (C := "AvalancheGallery$Exhibit") (t0 := 5) (cA := T 5) (n0 := 5) hC cl_X8_23 (FX_AO F hk ao_X8) rfl hE hS (by decide) (by decide) (Nat.le_of_ble_eq_true rfl) (Nat.le_of_ble_eq_true rfl) (Nat.le_of_ble_eq_true rfl) dX8_init_38 (fun H hE hS => ?_)
  replace hE := le_push (t := 16) (t' := 17) rfl hE
  refine ge_putF (C := RX8) (T := TX8) (N := 8) (ci := 9) (k0 := o) tyX8 hC uw_X8 tyX8_ok nmX8 hE (Nat.le_refl _) hS (by omega) (fs := [.int 0, .ref (B + (o + 1)), .ref (B + (o + 2)), .ref (B + (o + 9)), .int 0, .null, .int 0, .int 0]) (eCat_0.trans rfl) rfl 5 (by decide) fj_X8_25 rfl (hnm.trans rfl) rfl rfl rfl (Nat.le_of_ble_eq_true rfl) dX8_init_41 (fun H locs hE hS => ?_)
  replace hE := le_set0 hE
  refine lv_iconst (v := 0) hx hb dX8_init_44 (by decide) ?_
  refine lv_istore_n (lv' := [(1, .int 0), (0, .ref (B + o))]) hx hb dX8_init_45 rfl hl (by decide) rfl (fun ls hl => ?_)
  have key : ∀ (d x : Nat) (H : Heap) (locs : List Loc) (ls : Array Slot), x + d = 5 → gE D B (o + (17 + 6 * x)) (eCat E o (gxStL T B o x)) H → va_S (fun z => B + o ≤ z) s.heap H locs → lv_has ls 2 [(0, .ref (B + o)), (1, .int (nI x))] → W p l e rmiX8 s m args below meth c H locs (16 + 6 * x) (95 + 152 * x) Q (F0 m 46 ls []) := by
    clear hE hS hl ls hW
    intro d
    induction d with
    | zero =>
      intro x H locs ls hxd hE hS hl
      obtain rfl : x = 5 := hxd
      refine lv_iload_n hx hb dX8_init_46 rfl (lv_at hl 1 rfl) ?_
      refine lv_iconst (v := 5) hx hb dX8_init_47 (by decide) ?_
      refine lv_icmp_ge (tgt := 70) hx hb dX8_init_48 (by decide) (fun c9 => ?_) (fun c9 => absurd (Int32.le_refl _) c9)
      refine hend dX8_init_70 (le_end (m := 47) (g := fun k => shSt T B z0 (o + k) k) (hE.wk (fun j hj => ?_)) rfl (fun k hk => rfl)) hS (by omega) (by omega)
      unfold eCat
      by_cases c1 : j < o
      · rw [if_pos c1, if_pos c1]; exact Or.inl rfl
      · rw [if_neg c1, if_neg c1]
        unfold gxStL
        by_cases c2 : j - o = 16
        · rw [if_pos c2, c2]
          exact Or.inr ⟨T 5, 5, _, _, rfl, rfl, fun i hi => if_pos hi⟩
        · rw [if_neg c2]; exact Or.inl rfl
    | succ d ih =>
      intro x H locs ls hxd hE hS hl
      refine lv_iload_n hx hb dX8_init_46 rfl (lv_at hl 1 rfl) ?_
      refine lv_iconst (v := 5) hx hb dX8_init_47 (by decide) ?_
      refine lv_icmp_ge (tgt := 70) hx hb dX8_init_48 (by decide) (fun c9 => absurd ((nI_leI (a := 5) (b := x) (by omega) (by omega)).mp c9) (by omega)) (fun c9 => ?_)
      refine lv_aload_n hx hb dX8_init_51 rfl (lv_at hl 0 rfl) ?_
      refine ge_get (C := RX8) (T := TX8) (N := 8) (ci := 9) (k0 := o) hC uw_X8 hE (by omega) (fs := [.int 0, .ref (B + (o + 1)), .ref (B + (o + 2)), .ref (B + (o + 9)), .int 0, .ref (B + (o + 16)), .int 0, .int 0]) (eCat_0.trans rfl) rfl 5 (by decide) fj_X8_25 rfl dX8_init_52 ?_
      refine lv_iload_n hx hb dX8_init_55 rfl (lv_at hl 1 rfl) ?_
      refine ge_obj (C := RX1) (T := TX1) (N := 12) (ci := 4) tyX1 hC cl_X8_o uw_X1 tyX1_ok rfl (fs := [.int 0, .int 0, .null, .int 0, .int 0, .int 0, .int 0, .null, .null, .null, .int 0, .null]) (fun j hj => by rcases (show j = 0 ∨ j = 1 ∨ j = 2 ∨ j = 3 ∨ j = 4 ∨ j = 5 ∨ j = 6 ∨ j = 7 ∨ j = 8 ∨ j = 9 ∨ j = 10 ∨ j = 11 by omega) with rfl | rfl | rfl | rfl | rfl | rfl | rfl | rfl | rfl | rfl | rfl | rfl <;> rfl) hE hS (show 16 + 6 * x + 1 ≤ 46 by omega) (show 95 + 152 * x + 12 ≤ 855 by omega) dX8_init_56 (fun H hE hS => ?_)
      replace hE := le_push (t := 17 + 6 * x) (t' := 17 + 6 * x + 1) rfl hE
      refine lv_dup hx hb dX8_init_59 rfl ?_
      refine gw_callIN (a := B + (o + (17 + 6 * x))) (As := []) (v := none) hC hml hS hE (KC_atA hk hS (fun q hq => Nat.le_trans (Nat.le_add_right _ _) hq) F.2.2.2.2) KC_blind (metX1_init F (o := o + (17 + 6 * x)) (eCat_at.trans (eup_at rfl))) nc_X1 rfl (FX_N F hk _ nl_X8_29) (fun q hq => Nat.le_trans (by omega) hq) ⟨rfl, rfl, Nat.le_of_ble_eq_true rfl, Nat.le_of_ble_eq_true rfl⟩ rfl hl.1 rfl (Nat.le_of_ble_eq_true rfl) dX8_init_60 ⟨show 16 + 6 * x + 1 + 5 ≤ 46 by omega, show 95 + 152 * x + 12 + 140 ≤ 855 by omega⟩ (fun H locs hE hS _ _ => ?_)
      replace hE := le_more (t := 17 + 6 * x) (m := 6) (t' := 17 + 6 * (x + 1)) (by omega) hE
      refine ge_ast (ci := 4) (t0 := 5) (k0 := o + 16) (kv := o + (17 + 6 * x)) (n0 := 5) (cA := T 5) (r := (RX1, TX1, 12)) hC hE (show B + o ≤ B + (o + 16) by omega) hS (by omega) (by omega) (eCat_at.trans (show eCat (eup (gxStL T B o x) (17 + 6 * x) _) (17 + 6 * x) _ 16 = _ by unfold eCat; rw [if_pos (by omega), eup_ne (by omega)]; rfl)) rfl (eCat_at.trans (eCat_0.trans rfl)) rfl (inA_nI (by omega) (by omega)) dX8_init_63 (fun H locs hE hS => ?_)
      replace hE := le_set (t := 16) hE
      refine lv_iinc (v := nI (x + 1)) (lv' := [(1, .int (nI (x + 1))), (0, .ref (B + o))]) hx hb dX8_init_64 hl (k := 1) rfl (by rw [← nI_1]; rfl) (by decide) rfl (fun ls hl => ?_)
      refine lv_goto (tgt := 46) hx hb dX8_init_67 (by decide) ?_
      refine W.widen (show 16 + 6 * x + 1 + 5 ≤ 16 + 6 * (x + 1) by omega) (show 95 + 152 * x + 12 + 140 ≤ 95 + 152 * (x + 1) by omega) (ih (x + 1) _ _ _ (by omega) (le_end hE rfl (fun k hk => ?_)) hS (lv_sub hl [1, 0] rfl))
      unfold gxStL
      by_cases c2 : k = 16
      · rw [if_pos c2, eup_at c2]
        refine congrArg Sum.inl (Prod.ext rfl (Prod.ext rfl (congrArg rws (funext fun j => ?_))))
        unfold va_up
        rw [nI_clamp (by omega)]
        by_cases c3 : j = x
        · rw [if_pos (by omega), if_pos c3, c3]
          congr 1
          omega
        · rw [if_neg c3]
          dsimp only
          by_cases c4 : j < x
          · rw [if_pos c4, if_pos (by omega)]
          · rw [if_neg c4, if_neg (by omega)]
      · rw [if_neg c2, eup_ne c2]
        unfold eCat
        by_cases c3 : k < 17 + 6 * x
        · rw [if_pos c3, eup_ne (by omega), if_neg c2]
        · rw [if_neg c3]
          have e := shSt_ex (T := T) (B := B) (o := o) (j := x) (n := k - (17 + 6 * x)) (by omega)
          rw [show 17 + 6 * x + (k - (17 + 6 * x)) = k by omega] at e
          exact e
  refine key 5 0 _ _ _ rfl (le_end (m := 17 + 6 * 0) hE rfl (fun k hk => ?_)) hS (lv_sub hl [1, 0] rfl)
  rcases (show k = 0 ∨ k = 1 ∨ k = 2 ∨ k = 3 ∨ k = 4 ∨ k = 5 ∨ k = 6 ∨ k = 7 ∨ k = 8 ∨ k = 9 ∨ k = 10 ∨ k = 11 ∨ k = 12 ∨ k = 13 ∨ k = 14 ∨ k = 15 ∨ k = 16 by omega) with rfl | rfl | rfl | rfl | rfl | rfl | rfl | rfl | rfl | rfl | rfl | rfl | rfl | rfl | rfl | rfl | rfl
  all_goals first | rfl | (unfold gxStL; rw [if_pos rfl]; exact congrArg Sum.inl (Prod.ext rfl (Prod.ext rfl (congrArg rws (funext fun j => if_neg (Nat.not_lt_zero _))))))
