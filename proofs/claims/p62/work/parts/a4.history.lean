/-! What the constructors make: the history. -/
def gxHi (T : Nat → ClassId) (B o k : Nat) : va_E := if k = 0 then eHi B o z0 else if k = 1 then eRef T 4 9 B (o + 1) 47 else shSt T B z0 (o + k) ((k - 2) % 47)
def gxHiL (T : Nat → ClassId) (B o x k : Nat) : va_E := if k = 1 then .inl (T 4, 9, rws (fun j => if j < x then some (B + (o + 1 + 1 + 47 * j)) else none)) else gxHi T B o k
theorem dX4_init_0 : decode cX4_init 0 = .ok (.aload_n 0, 1) := by decide +kernel
theorem dX4_init_1 : decode cX4_init 1 = .ok (.invokespecial 3, 3) := by decide +kernel
theorem dX4_init_4 : decode cX4_init 4 = .ok (.aload_n 0, 1) := by decide +kernel
theorem dX4_init_5 : decode cX4_init 5 = .ok (.bipush 9, 2) := by decide +kernel
theorem dX4_init_7 : decode cX4_init 7 = .ok (.anewarray 9, 3) := by decide +kernel
theorem dX4_init_10 : decode cX4_init 10 = .ok (.putfield 11, 3) := by decide +kernel
theorem dX4_init_13 : decode cX4_init 13 = .ok (.iconst 0, 1) := by decide +kernel
theorem dX4_init_14 : decode cX4_init 14 = .ok (.istore_n 1, 1) := by decide +kernel
theorem dX4_init_15 : decode cX4_init 15 = .ok (.iload_n 1, 1) := by decide +kernel
theorem dX4_init_16 : decode cX4_init 16 = .ok (.aload_n 0, 1) := by decide +kernel
theorem dX4_init_17 : decode cX4_init 17 = .ok (.getfield 11, 3) := by decide +kernel
theorem dX4_init_20 : decode cX4_init 20 = .ok (.arraylength, 1) := by decide +kernel
theorem dX4_init_21 : decode cX4_init 21 = .ok (.if_icmp .ge 22, 3) := by decide +kernel
theorem dX4_init_24 : decode cX4_init 24 = .ok (.aload_n 0, 1) := by decide +kernel
theorem dX4_init_25 : decode cX4_init 25 = .ok (.getfield 11, 3) := by decide +kernel
theorem dX4_init_28 : decode cX4_init 28 = .ok (.iload_n 1, 1) := by decide +kernel
theorem dX4_init_29 : decode cX4_init 29 = .ok (.new 9, 3) := by decide +kernel
theorem dX4_init_32 : decode cX4_init 32 = .ok (.dup, 1) := by decide +kernel
theorem dX4_init_33 : decode cX4_init 33 = .ok (.invokespecial 17, 3) := by decide +kernel
theorem dX4_init_36 : decode cX4_init 36 = .ok (.aastore, 1) := by decide +kernel
theorem dX4_init_37 : decode cX4_init 37 = .ok (.iinc 1 1, 3) := by decide +kernel
theorem dX4_init_40 : decode cX4_init 40 = .ok (.goto (-25), 3) := by decide +kernel
theorem dX4_init_43 : decode cX4_init 43 = .ok (.return_, 1) := by decide +kernel
theorem lo_X4_3 : Cond.methodLink RX4 3 Lib.objectInit ∈ WG := wg_t 159 (by decide +kernel) (by decide +kernel)
theorem ao_X4 : Cond.arrayOver (.object "AvalancheGallery$State") ∈ lw_tbl := List.mem_append_right _ (List.mem_of_getElem? (i := 161) (by decide +kernel))
theorem cl_X4_9 : Cond.classLink RX4 9 "AvalancheGallery$State" ∈ WG := wg_t 160 (by decide +kernel) (by decide +kernel)
theorem fj_X4_11 : Cond.fieldLink RX4 11 "AvalancheGallery$History" "slots" "[LAvalancheGallery$State;" ∈ WG := wg_t 163 (by decide +kernel) (by decide +kernel)
theorem cl_X4_o : Cond.classLink RX4 9 RX8 ∈ WG ∧ Cond.instantiable RX8 8 ∈ WG ∧ Cond.initialized RX8 ∈ WG := ⟨cl_X4_9, wg_t 47 (by decide +kernel) (by decide +kernel), wg_t 2 (by decide +kernel) (by decide +kernel)⟩
abbrev rmiX4 : Room := { frames := 6, cells := 424, slots := 7776, locals := 240 }
set_option maxHeartbeats 4000000 in
set_option maxRecDepth 100000 in
theorem metX4_init {l : Launch} {s0 : State} {b B : Nat} {D : va_G} {T : Nat → ClassId} {X : Nat → Prop} {o : Nat} {E : Nat → va_E} (F : FX l s0 b D T B) (he : E o = .inr (5, [.null, .int 0, .int 0])) : gMet l yX4_init cX4_init 2 none rmiX4 [.ref (B + o)] (gE D B (o + 1) E) (KC s0 X) none (gE D B (o + 425) (eCat E o (gxHi T B o))) (fun z => B + o ≤ z) 424 7776 := by
  refine gCt_of RX4 (by decide +kernel) rfl (Nat.le_of_ble_eq_true rfl) ?_
  intro p e s m args below meth c ls Q hx hb hlocks hml hown hts hnm hW hk hl hS hend
  have hC := FX_C F hk hx hb hown hts
  have hE := le_start hW he
  have hl : lv_has ls 2 [(0, .ref (B + o))] := hl
  refine lv_aload_n hx hb dX4_init_0 rfl (lv_at hl 0 rfl) ?_
  refine al_init hC lo_X4_3 (hl.1.trans hml.symm) (Nat.le_of_ble_eq_true rfl) (Nat.le_of_ble_eq_true rfl) dX4_init_1 ?_
  refine lv_aload_n hx hb dX4_init_4 rfl (lv_at hl 0 rfl) ?_
  refine lv_bipush (v := 9) hx hb dX4_init_5 (by decide) ?_
  refine ge_anew (C := "AvalancheGallery$State") (t0 := 4) (cA := T 4) (n0 := 9) hC cl_X4_9 (FX_AO F hk ao_X4) rfl hE hS (by decide) (by decide) (Nat.le_of_ble_eq_true rfl) (Nat.le_of_ble_eq_true rfl) (Nat.le_of_ble_eq_true rfl) dX4_init_7 (fun H hE hS => ?_)
  replace hE := le_push (t := 1) (t' := 2) rfl hE
  refine ge_putF (C := RX4) (T := TX4) (N := 3) (ci := 5) (k0 := o) tyX4 hC uw_X4 tyX4_ok nmX4 hE (Nat.le_refl _) hS (by omega) (fs := [.null, .int 0, .int 0]) (eCat_0.trans rfl) rfl 0 (by decide) fj_X4_11 rfl (hnm.trans rfl) rfl rfl rfl (Nat.le_of_ble_eq_true rfl) dX4_init_10 (fun H locs hE hS => ?_)
  replace hE := le_set0 hE
  refine lv_iconst (v := 0) hx hb dX4_init_13 (by decide) ?_
  refine lv_istore_n (lv' := [(1, .int 0), (0, .ref (B + o))]) hx hb dX4_init_14 rfl hl (by decide) rfl (fun ls hl => ?_)
  have key : ∀ (d x : Nat) (H : Heap) (locs : List Loc) (ls : Array Slot), x + d = 9 → gE D B (o + (2 + 47 * x)) (eCat E o (gxHiL T B o x)) H → va_S (fun z => B + o ≤ z) s.heap H locs → lv_has ls 2 [(0, .ref (B + o)), (1, .int (nI x))] → W p l e rmiX4 s m args below meth c H locs (1 + 47 * x) (9 + 863 * x) Q (F0 m 15 ls []) := by
    clear hE hS hl ls hW
    intro d
    induction d with
    | zero =>
      intro x H locs ls hxd hE hS hl
      obtain rfl : x = 9 := hxd
      refine lv_iload_n hx hb dX4_init_15 rfl (lv_at hl 1 rfl) ?_
      refine lv_aload_n hx hb dX4_init_16 rfl (lv_at hl 0 rfl) ?_
      refine ge_get (C := RX4) (T := TX4) (N := 3) (ci := 5) (k0 := o) hC uw_X4 hE (by omega) (fs := [.ref (B + (o + 1)), .int 0, .int 0]) (eCat_0.trans rfl) rfl 0 (by decide) fj_X4_11 rfl dX4_init_17 ?_
      refine ge_alen (k0 := o + 1) (t0 := 4) (cA := T 4) (v := 9) hC hE (by omega) (eCat_at.trans rfl) rfl rfl dX4_init_20 ?_
      refine lv_icmp_ge (tgt := 43) hx hb dX4_init_21 (by decide) (fun c9 => ?_) (fun c9 => absurd (Int32.le_refl _) c9)
      refine hend dX4_init_43 (le_end (m := 425) (g := gxHi T B o) (hE.wk (fun j hj => ?_)) rfl (fun k hk => rfl)) hS (by omega) (by omega)
      unfold eCat
      by_cases c1 : j < o
      · rw [if_pos c1, if_pos c1]; exact Or.inl rfl
      · rw [if_neg c1, if_neg c1]
        unfold gxHiL
        by_cases c2 : j - o = 1
        · rw [if_pos c2, c2]
          exact Or.inr ⟨T 4, 9, _, _, rfl, rfl, fun i hi => if_pos hi⟩
        · rw [if_neg c2]; exact Or.inl rfl
    | succ d ih =>
      intro x H locs ls hxd hE hS hl
      refine lv_iload_n hx hb dX4_init_15 rfl (lv_at hl 1 rfl) ?_
      refine lv_aload_n hx hb dX4_init_16 rfl (lv_at hl 0 rfl) ?_
      refine ge_get (C := RX4) (T := TX4) (N := 3) (ci := 5) (k0 := o) hC uw_X4 hE (by omega) (fs := [.ref (B + (o + 1)), .int 0, .int 0]) (eCat_0.trans rfl) rfl 0 (by decide) fj_X4_11 rfl dX4_init_17 ?_
      refine ge_alen (k0 := o + 1) (t0 := 4) (cA := T 4) (v := 9) hC hE (by omega) (eCat_at.trans rfl) rfl rfl dX4_init_20 ?_
      refine lv_icmp_ge (tgt := 43) hx hb dX4_init_21 (by decide) (fun c9 => absurd ((nI_leI (a := 9) (b := x) (by omega) (by omega)).mp c9) (by omega)) (fun c9 => ?_)
      refine lv_aload_n hx hb dX4_init_24 rfl (lv_at hl 0 rfl) ?_
      refine ge_get (C := RX4) (T := TX4) (N := 3) (ci := 5) (k0 := o) hC uw_X4 hE (by omega) (fs := [.ref (B + (o + 1)), .int 0, .int 0]) (eCat_0.trans rfl) rfl 0 (by decide) fj_X4_11 rfl dX4_init_25 ?_
      refine lv_iload_n hx hb dX4_init_28 rfl (lv_at hl 1 rfl) ?_
      refine ge_obj (C := RX8) (T := TX8) (N := 8) (ci := 9) tyX8 hC cl_X4_o uw_X8 tyX8_ok rfl (fs := [.int 0, .null, .null, .null, .int 0, .null, .int 0, .int 0]) (fun j hj => by rcases (show j = 0 ∨ j = 1 ∨ j = 2 ∨ j = 3 ∨ j = 4 ∨ j = 5 ∨ j = 6 ∨ j = 7 by omega) with rfl | rfl | rfl | rfl | rfl | rfl | rfl | rfl <;> rfl) hE hS (show 1 + 47 * x + 1 ≤ 424 by omega) (show 9 + 863 * x + 8 ≤ 7776 by omega) dX4_init_29 (fun H hE hS => ?_)
      replace hE := le_push (t := 2 + 47 * x) (t' := 2 + 47 * x + 1) rfl hE
      refine lv_dup hx hb dX4_init_32 rfl ?_
      refine gw_callI (a := B + (o + (2 + 47 * x))) (As := []) (v := none) hC hml hS hE (KC_atA hk hS (fun q hq => Nat.le_trans (Nat.le_add_right _ _) hq) F.2.2.2.2) KC_blind (metX8_init F (o := o + (2 + 47 * x)) (eCat_at.trans (eup_at rfl))) ml_X4_17 rfl (fun q hq => Nat.le_trans (by omega) hq) ⟨rfl, rfl, Nat.le_of_ble_eq_true rfl, Nat.le_of_ble_eq_true rfl⟩ rfl hl.1 rfl (Nat.le_of_ble_eq_true rfl) dX4_init_33 ⟨show 1 + 47 * x + 1 + 46 ≤ 424 by omega, show 9 + 863 * x + 8 + 855 ≤ 7776 by omega⟩ (fun H locs hE hS _ _ => ?_)
      replace hE := le_more (t := 2 + 47 * x) (m := 47) (t' := 2 + 47 * (x + 1)) (by omega) hE
      refine ge_ast (ci := 9) (t0 := 4) (k0 := o + 1) (kv := o + (2 + 47 * x)) (n0 := 9) (cA := T 4) (r := (RX8, TX8, 8)) hC hE (show B + o ≤ B + (o + 1) by omega) hS (by omega) (by omega) (eCat_at.trans (show eCat (eup (gxHiL T B o x) (2 + 47 * x) _) (2 + 47 * x) _ 1 = _ by unfold eCat; rw [if_pos (by omega), eup_ne (by omega)]; rfl)) rfl (eCat_at.trans (eCat_0.trans rfl)) rfl (inA_nI (by omega) (by omega)) dX4_init_36 (fun H locs hE hS => ?_)
      replace hE := le_set (t := 1) hE
      refine lv_iinc (v := nI (x + 1)) (lv' := [(1, .int (nI (x + 1))), (0, .ref (B + o))]) hx hb dX4_init_37 hl (k := 1) rfl (by rw [← nI_1]; rfl) (by decide) rfl (fun ls hl => ?_)
      refine lv_goto (tgt := 15) hx hb dX4_init_40 (by decide) ?_
      refine W.widen (show 1 + 47 * x + 1 + 46 ≤ 1 + 47 * (x + 1) by omega) (show 9 + 863 * x + 8 + 855 ≤ 9 + 863 * (x + 1) by omega) (ih (x + 1) _ _ _ (by omega) (le_end hE rfl (fun k hk => ?_)) hS (lv_sub hl [1, 0] rfl))
      unfold gxHiL
      by_cases c2 : k = 1
      · rw [if_pos c2, eup_at c2]
        refine congrArg Sum.inl (Prod.ext rfl (Prod.ext rfl (congrArg rws (funext fun j => ?_))))
        unfold va_up
        rw [nI_clamp (by omega)]
        by_cases c3 : j = x
        · rw [if_pos (by omega), if_pos c3, c3]
          congr 1
          omega
        · rw [if_neg c3]
          dsimp only
          by_cases c4 : j < x
          · rw [if_pos c4, if_pos (by omega)]
          · rw [if_neg c4, if_neg (by omega)]
      · rw [if_neg c2, eup_ne c2]
        unfold eCat
        by_cases c3 : k < 2 + 47 * x
        · rw [if_pos c3, eup_ne (by omega), if_neg c2]
        · rw [if_neg c3]
          show gxHi T B o k = shSt T B z0 (o + (2 + 47 * x) + (k - (2 + 47 * x))) (k - (2 + 47 * x))
          unfold gxHi
          rw [if_neg (by omega), if_neg c2, show o + (2 + 47 * x) + (k - (2 + 47 * x)) = o + k by omega, show (k - 2) % 47 = k - (2 + 47 * x) by omega]
  refine key 9 0 _ _ _ rfl (le_end (m := 2 + 47 * 0) hE rfl (fun k hk => ?_)) hS (lv_sub hl [1, 0] rfl)
  rcases (show k = 0 ∨ k = 1 by omega) with rfl | rfl
  · rfl
  · unfold gxHiL
    rw [if_pos rfl]
    exact congrArg Sum.inl (Prod.ext rfl (Prod.ext rfl (congrArg rws (funext fun j => if_neg (Nat.not_lt_zero _)))))
