/-! What the constructors make: the text builder and the gallery. -/
theorem dJ4_init_da8c8_0 : decode cJ4_init_da8c8 0 = .ok (.aload_n 0, 1) := by decide +kernel
theorem dJ4_init_da8c8_1 : decode cJ4_init_da8c8 1 = .ok (.bipush 16, 2) := by decide +kernel
theorem dJ4_init_da8c8_3 : decode cJ4_init_da8c8 3 = .ok (.invokespecial 1, 3) := by decide +kernel
theorem dJ4_init_da8c8_6 : decode cJ4_init_da8c8 6 = .ok (.return_, 1) := by decide +kernel
theorem dJ5_init_d00df_0 : decode cJ5_init_d00df 0 = .ok (.aload_n 0, 1) := by decide +kernel
theorem dJ5_init_d00df_1 : decode cJ5_init_d00df 1 = .ok (.invokespecial 3, 3) := by decide +kernel
theorem dJ5_init_d00df_4 : decode cJ5_init_d00df 4 = .ok (.getstatic 18, 3) := by decide +kernel
theorem dJ5_init_d00df_7 : decode cJ5_init_d00df 7 = .ok (.ifCond .eq 18, 3) := by decide +kernel
theorem dJ5_init_d00df_10 : decode cJ5_init_d00df 10 = .ok (.aload_n 0, 1) := by decide +kernel
theorem dJ5_init_d00df_11 : decode cJ5_init_d00df 11 = .ok (.iload_n 1, 1) := by decide +kernel
theorem dJ5_init_d00df_12 : decode cJ5_init_d00df 12 = .ok (.newarray .byte, 2) := by decide +kernel
theorem dJ5_init_d00df_14 : decode cJ5_init_d00df 14 = .ok (.putfield 15, 3) := by decide +kernel
theorem dJ5_init_d00df_17 : decode cJ5_init_d00df 17 = .ok (.aload_n 0, 1) := by decide +kernel
theorem dJ5_init_d00df_18 : decode cJ5_init_d00df 18 = .ok (.iconst 0, 1) := by decide +kernel
theorem dJ5_init_d00df_19 : decode cJ5_init_d00df 19 = .ok (.putfield 22, 3) := by decide +kernel
theorem dJ5_init_d00df_22 : decode cJ5_init_d00df 22 = .ok (.goto 16, 3) := by decide +kernel
theorem dJ5_init_d00df_25 : decode cJ5_init_d00df 25 = .ok (.aload_n 0, 1) := by decide +kernel
theorem dJ5_init_d00df_26 : decode cJ5_init_d00df 26 = .ok (.iload_n 1, 1) := by decide +kernel
theorem dJ5_init_d00df_27 : decode cJ5_init_d00df 27 = .ok (.invokestatic 26, 3) := by decide +kernel
theorem dJ5_init_d00df_30 : decode cJ5_init_d00df 30 = .ok (.putfield 15, 3) := by decide +kernel
theorem dJ5_init_d00df_33 : decode cJ5_init_d00df 33 = .ok (.aload_n 0, 1) := by decide +kernel
theorem dJ5_init_d00df_34 : decode cJ5_init_d00df 34 = .ok (.iconst 1, 1) := by decide +kernel
theorem dJ5_init_d00df_35 : decode cJ5_init_d00df 35 = .ok (.putfield 22, 3) := by decide +kernel
theorem dJ5_init_d00df_38 : decode cJ5_init_d00df 38 = .ok (.return_, 1) := by decide +kernel
theorem lo_J5_3 : Cond.methodLink RJ5 3 Lib.objectInit ∈ WG := wg_t 282 (by decide +kernel) (by decide +kernel)
theorem ml_J4_1 : gMI RJ4 1 yJ5_init_d00df cJ5_init_d00df 2 1 := ⟨⟨wg_t 279 (by decide +kernel) (by decide +kernel), wg_t 281 (by decide +kernel) (by decide +kernel), wg_t 9 (by decide +kernel) (by decide +kernel), by decide +kernel⟩, wg_t 280 (by decide +kernel) (by decide +kernel)⟩
theorem zCSA {l : Launch} {s0 s : State} {b B : Nat} {D : va_G} {T : Nat → ClassId} {X A : Nat → Prop} (F : FX l s0 b D T B) (hk : KC s0 X s) (hA : ∀ q, A q → B ≤ q) : va_Z "java/lang/String" "COMPACT_STRINGS" "Z" (.int 1) A s s.heap :=
  (va_Z.moved hk.1.alike ((va_Zof (args := #[.ref b]) (F.2.1 _ (List.mem_append_right _ (List.mem_of_getElem? (i := 284) (by decide +kernel)))) (F.2.1 _ (List.mem_append_right _ (List.mem_of_getElem? (i := 11) (by decide +kernel)))) (va_eqi (FX_narrow F (by decide +kernel))) (fun a ha => Nat.not_le.mpr ha)).kept (fun a ha hn => hk.2.2.1 a ha))).narrow (A := fun q => s0.heap.size ≤ q) (fun q h => Nat.le_trans F.2.2.2.2 (hA q h))
def gxSB (T : Nat → ClassId) (B o k : Nat) : va_E := if k = 0 then .inr (1, [.ref (B + (o + 1)), .int 0, .int 0, .int 0]) else .inl (T 7, 16, .inl z0)
abbrev rmiJ5 : Room := { frames := 2, cells := 1, slots := 16, locals := 60 }
abbrev rmiJ4 : Room := { frames := 4, cells := 1, slots := 16, locals := 140 }
section SBI
variable {l : Launch} {s0 : State} {b B : Nat} {D : va_G} {T : Nat → ClassId} {X : Nat → Prop} {o : Nat} {E : Nat → va_E}
set_option maxHeartbeats 4000000 in
set_option maxRecDepth 100000 in
theorem metJ5_init (F : FX l s0 b D T B) (he : E o = .inr (1, [.null, .int 0, .int 0, .int 0])) : gMet l yJ5_init_d00df cJ5_init_d00df 2 none rmiJ5 [.ref (B + o), .int 16] (gE D B (o + 1) E) (KC s0 X) none (gE D B (o + 2) (eCat E o (gxSB T B o))) (fun z => B + o ≤ z) 1 16 := by
  refine gCt_of RJ5 (by decide +kernel) rfl (Nat.le_of_ble_eq_true rfl) ?_
  intro p e s m args below meth c ls Q hx hb hlocks hml hown hts hnm hW hk hl hS hend
  have hC := FX_C F hk hx hb hown hts
  have hE := le_start hW he
  have hl : lv_has ls 2 [(0, .ref (B + o)), (1, .int 16)] := hl
  refine lv_aload_n hx hb dJ5_init_d00df_0 rfl (lv_at hl 0 rfl) ?_
  refine al_init hC lo_J5_3 (hl.1.trans hml.symm) (Nat.le_of_ble_eq_true rfl) (Nat.le_of_ble_eq_true rfl) dJ5_init_d00df_1 ?_
  refine va_gets hx hb (zCSA F hk (fun q hq => Nat.le_trans (Nat.le_add_right _ _) hq)) hS hown (hts _ fj_J5_18) (fun _ h => h) dJ5_init_d00df_4 ?_
  refine lv_if_eq (tgt := 25) hx hb dJ5_init_d00df_7 (by decide) (fun h => absurd h (by decide)) (fun _ => ?_)
  refine lv_aload_n hx hb dJ5_init_d00df_10 rfl (lv_at hl 0 rfl) ?_
  refine lv_iload_n hx hb dJ5_init_d00df_11 rfl (lv_at hl 1 rfl) ?_
  refine ge_arr (ty := .byte) (t0 := 7) (cA := T 7) (n0 := 16) (a0 := (16, .inl (fun _ => 0))) hC lac_byte rfl rfl hE hS vpc_byte (by decide) (by decide) (Nat.le_of_ble_eq_true rfl) (Nat.le_of_ble_eq_true rfl) (Nat.le_of_ble_eq_true rfl) dJ5_init_d00df_12 (fun H hE hS => ?_)
  replace hE := le_push (t := 1) (t' := 2) rfl hE
  refine ge_put (C := RJ4) (T := TJ4) (N := 4) (ci := 1) (k0 := o) tyJ4 hC uw_J4 tyJ4_ok nmJ4 hE (Nat.le_refl _) hS (by omega) (fs := [.null, .int 0, .int 0, .int 0]) (eCat_0.trans rfl) rfl 0 (by decide) fj_J5_15 rfl rfl rfl (Nat.le_of_ble_eq_true rfl) dJ5_init_d00df_14 (fun H locs hE hS => ?_)
  replace hE := le_set0 hE
  refine lv_aload_n hx hb dJ5_init_d00df_17 rfl (lv_at hl 0 rfl) ?_
  refine lv_iconst (v := 0) hx hb dJ5_init_d00df_18 (by decide) ?_
  refine ge_put (C := RJ4) (T := TJ4) (N := 4) (ci := 1) (k0 := o) tyJ4 hC uw_J4 tyJ4_ok nmJ4 hE (Nat.le_refl _) hS (by omega) (fs := [.ref (B + (o + 1)), .int 0, .int 0, .int 0]) (eCat_0.trans rfl) rfl 1 (by decide) fj_J5_22 rfl rfl rfl (Nat.le_of_ble_eq_true rfl) dJ5_init_d00df_19 (fun H locs hE hS => ?_)
  replace hE := le_set0 hE
  refine lv_goto (tgt := 38) hx hb dJ5_init_d00df_22 (by decide) ?_
  exact hend dJ5_init_d00df_38 (le_end hE rfl (fun k hk => by rcases (show k = 0 ∨ k = 1 by omega) with rfl | rfl <;> rfl)) hS (Nat.le_of_ble_eq_true rfl) (Nat.le_of_ble_eq_true rfl)
set_option maxHeartbeats 4000000 in
set_option maxRecDepth 100000 in
theorem metJ4_init (F : FX l s0 b D T B) (he : E o = .inr (1, [.null, .int 0, .int 0, .int 0])) : gMet l yJ4_init_da8c8 cJ4_init_da8c8 1 none rmiJ4 [.ref (B + o)] (gE D B (o + 1) E) (KC s0 X) none (gE D B (o + 2) (eCat E o (gxSB T B o))) (fun z => B + o ≤ z) 1 16 := by
  refine gCt_of RJ4 (by decide +kernel) rfl (Nat.le_of_ble_eq_true rfl) ?_
  intro p e s m args below meth c ls Q hx hb hlocks hml hown hts hnm hW hk hl hS hend
  have hC := FX_C F hk hx hb hown hts
  have hl : lv_has ls 1 [(0, .ref (B + o))] := hl
  refine lv_aload_n hx hb dJ4_init_da8c8_0 rfl (lv_at hl 0 rfl) ?_
  refine lv_bipush (v := 16) hx hb dJ4_init_da8c8_1 (by decide) ?_
  refine gw_callI (a := B + o) (As := [.int 16]) (v := none) hC hml hS hW (KC_atA hk hS (fun q hq => Nat.le_trans (Nat.le_add_right _ _) hq) F.2.2.2.2) KC_blind (metJ5_init F he) ml_J4_1 rfl (fun q hq => hq) ⟨rfl, rfl, (Nat.le_of_ble_eq_true rfl), (Nat.le_of_ble_eq_true rfl)⟩ rfl hl.1 rfl (Nat.le_of_ble_eq_true rfl) dJ4_init_da8c8_3 ⟨(Nat.le_of_ble_eq_true rfl), (Nat.le_of_ble_eq_true rfl)⟩ (fun H locs hE hS _ _ => ?_)
  exact hend dJ4_init_da8c8_6 hE hS (Nat.le_of_ble_eq_true rfl) (Nat.le_of_ble_eq_true rfl)
end SBI
theorem eCat_two {F F' g : Nat → va_E} {t k : Nat} {e : va_E} (h : k < t → F' k = F k) : eCat F' t g k = eCat (eup F t e) t g k := by
  unfold eCat
  by_cases c : k < t
  · rw [if_pos c, if_pos c, eup_ne (by omega)]; exact h c
  · rw [if_neg c, if_neg c]
/-- the gallery's fields at the start -/
def zGa : Nat → Int32 := fun i => if i = 11 ∨ i = 12 then -1 else 0
/-- what the gallery's constructor makes -/
def gxGa (T : Nat → ClassId) (B o : Nat) : Nat → va_E := eCat (eCat (eCat (eCat (eCat (eCat (eCat (eCat (fun _ => .inr (11, [.ref (B + (o + 1)), .ref (B + (o + 48)), .int 0, .ref (B + (o + 95)), .ref (B + (o + 520)), .ref (B + (o + 538)), .ref (B + (o + 543)), .ref (B + (o + 546)), .ref (B + (o + 560)), .int 0, .int 0, .int (-1), .int (-1)])) 1 (fun k => shSt T B z0 (o + 1 + k) k)) 48 (fun k => shSt T B z0 (o + 48 + k) k)) 95 (gxHi T B (o + 95))) 520 (gxWy T B (o + 520))) 538 (gxSa T B (o + 538))) 543 (gxLe T B (o + 543))) 546 (gxSc T B (o + 546))) 560 (gxSB T B (o + 560))
theorem dX10_init_0 : decode cX10_init 0 = .ok (.aload_n 0, 1) := by decide +kernel
theorem dX10_init_1 : decode cX10_init 1 = .ok (.invokespecial 3, 3) := by decide +kernel
theorem dX10_init_4 : decode cX10_init 4 = .ok (.aload_n 0, 1) := by decide +kernel
theorem dX10_init_5 : decode cX10_init 5 = .ok (.new 9, 3) := by decide +kernel
theorem dX10_init_8 : decode cX10_init 8 = .ok (.dup, 1) := by decide +kernel
theorem dX10_init_9 : decode cX10_init 9 = .ok (.invokespecial 11, 3) := by decide +kernel
theorem dX10_init_12 : decode cX10_init 12 = .ok (.putfield 12, 3) := by decide +kernel
theorem dX10_init_15 : decode cX10_init 15 = .ok (.aload_n 0, 1) := by decide +kernel
theorem dX10_init_16 : decode cX10_init 16 = .ok (.new 9, 3) := by decide +kernel
theorem dX10_init_19 : decode cX10_init 19 = .ok (.dup, 1) := by decide +kernel
theorem dX10_init_20 : decode cX10_init 20 = .ok (.invokespecial 11, 3) := by decide +kernel
theorem dX10_init_23 : decode cX10_init 23 = .ok (.putfield 16, 3) := by decide +kernel
theorem dX10_init_26 : decode cX10_init 26 = .ok (.aload_n 0, 1) := by decide +kernel
theorem dX10_init_27 : decode cX10_init 27 = .ok (.new 19, 3) := by decide +kernel
theorem dX10_init_30 : decode cX10_init 30 = .ok (.dup, 1) := by decide +kernel
theorem dX10_init_31 : decode cX10_init 31 = .ok (.invokespecial 21, 3) := by decide +kernel
theorem dX10_init_34 : decode cX10_init 34 = .ok (.putfield 22, 3) := by decide +kernel
theorem dX10_init_37 : decode cX10_init 37 = .ok (.aload_n 0, 1) := by decide +kernel
theorem dX10_init_38 : decode cX10_init 38 = .ok (.new 26, 3) := by decide +kernel
theorem dX10_init_41 : decode cX10_init 41 = .ok (.dup, 1) := by decide +kernel
theorem dX10_init_42 : decode cX10_init 42 = .ok (.invokespecial 28, 3) := by decide +kernel
theorem dX10_init_45 : decode cX10_init 45 = .ok (.putfield 29, 3) := by decide +kernel
theorem dX10_init_48 : decode cX10_init 48 = .ok (.aload_n 0, 1) := by decide +kernel
theorem dX10_init_49 : decode cX10_init 49 = .ok (.new 33, 3) := by decide +kernel
theorem dX10_init_52 : decode cX10_init 52 = .ok (.dup, 1) := by decide +kernel
theorem dX10_init_53 : decode cX10_init 53 = .ok (.invokespecial 35, 3) := by decide +kernel
theorem dX10_init_56 : decode cX10_init 56 = .ok (.putfield 36, 3) := by decide +kernel
theorem dX10_init_59 : decode cX10_init 59 = .ok (.aload_n 0, 1) := by decide +kernel
theorem dX10_init_60 : decode cX10_init 60 = .ok (.new 40, 3) := by decide +kernel
theorem dX10_init_63 : decode cX10_init 63 = .ok (.dup, 1) := by decide +kernel
theorem dX10_init_64 : decode cX10_init 64 = .ok (.invokespecial 42, 3) := by decide +kernel
theorem dX10_init_67 : decode cX10_init 67 = .ok (.putfield 43, 3) := by decide +kernel
theorem dX10_init_70 : decode cX10_init 70 = .ok (.aload_n 0, 1) := by decide +kernel
theorem dX10_init_71 : decode cX10_init 71 = .ok (.new 47, 3) := by decide +kernel
theorem dX10_init_74 : decode cX10_init 74 = .ok (.dup, 1) := by decide +kernel
theorem dX10_init_75 : decode cX10_init 75 = .ok (.invokespecial 49, 3) := by decide +kernel
theorem dX10_init_78 : decode cX10_init 78 = .ok (.putfield 50, 3) := by decide +kernel
theorem dX10_init_81 : decode cX10_init 81 = .ok (.aload_n 0, 1) := by decide +kernel
theorem dX10_init_82 : decode cX10_init 82 = .ok (.new 54, 3) := by decide +kernel
theorem dX10_init_85 : decode cX10_init 85 = .ok (.dup, 1) := by decide +kernel
theorem dX10_init_86 : decode cX10_init 86 = .ok (.invokespecial 56, 3) := by decide +kernel
theorem dX10_init_89 : decode cX10_init 89 = .ok (.putfield 57, 3) := by decide +kernel
theorem dX10_init_92 : decode cX10_init 92 = .ok (.aload_n 0, 1) := by decide +kernel
theorem dX10_init_93 : decode cX10_init 93 = .ok (.iconst (-1), 1) := by decide +kernel
theorem dX10_init_94 : decode cX10_init 94 = .ok (.putfield 61, 3) := by decide +kernel
theorem dX10_init_97 : decode cX10_init 97 = .ok (.aload_n 0, 1) := by decide +kernel
theorem dX10_init_98 : decode cX10_init 98 = .ok (.iconst (-1), 1) := by decide +kernel
theorem dX10_init_99 : decode cX10_init 99 = .ok (.putfield 65, 3) := by decide +kernel
theorem dX10_init_102 : decode cX10_init 102 = .ok (.return_, 1) := by decide +kernel
theorem lo_X10_3 : Cond.methodLink RX10 3 Lib.objectInit ∈ WG := wg_t 43 (by decide +kernel) (by decide +kernel)
theorem cl_X10_9 : Cond.classLink RX10 9 RX8 ∈ WG ∧ Cond.instantiable RX8 8 ∈ WG ∧ Cond.initialized RX8 ∈ WG := ⟨wg_t 46 (by decide +kernel) (by decide +kernel), wg_t 47 (by decide +kernel) (by decide +kernel), wg_t 2 (by decide +kernel) (by decide +kernel)⟩
theorem fj_X10_12 : Cond.fieldLink RX10 12 "AvalancheGallery" "now" "LAvalancheGallery$State;" ∈ WG := wg_t 307 (by decide +kernel) (by decide +kernel)
theorem fj_X10_16 : Cond.fieldLink RX10 16 "AvalancheGallery" "saved" "LAvalancheGallery$State;" ∈ WG := wg_t 308 (by decide +kernel) (by decide +kernel)
theorem cl_X10_19 : Cond.classLink RX10 19 RX4 ∈ WG ∧ Cond.instantiable RX4 3 ∈ WG ∧ Cond.initialized RX4 ∈ WG := ⟨wg_t 154 (by decide +kernel) (by decide +kernel), wg_t 155 (by decide +kernel) (by decide +kernel), wg_t 4 (by decide +kernel) (by decide +kernel)⟩
theorem fj_X10_22 : Cond.fieldLink RX10 22 "AvalancheGallery" "history" "LAvalancheGallery$History;" ∈ WG := wg_t 309 (by decide +kernel) (by decide +kernel)
theorem cl_X10_26 : Cond.classLink RX10 26 RX9 ∈ WG ∧ Cond.instantiable RX9 7 ∈ WG ∧ Cond.initialized RX9 ∈ WG := ⟨wg_t 174 (by decide +kernel) (by decide +kernel), wg_t 175 (by decide +kernel) (by decide +kernel), wg_t 5 (by decide +kernel) (by decide +kernel)⟩
theorem nc_X9 : Cond.code yX9_init cX9_init 1 none ∈ WG ∧ Cond.initialized yX9_init.cls ∈ WG ∧ Cond.instanceMethod yX9_init ∈ WG ∧ (yX9_init.cls ≠ "java/lang/invoke/MethodHandle" ∧ yX9_init.cls ≠ "java/lang/invoke/VarHandle" ∧ (parseMethodDescriptor yX9_init.desc).map (fun d => d.parameters.length) = some 0) := ⟨wg_t 178 (by decide +kernel) (by decide +kernel), wg_t 5 (by decide +kernel) (by decide +kernel), wg_t 177 (by decide +kernel) (by decide +kernel), by decide +kernel⟩
theorem nl_X10_28 : tables_1[176]? = some (.methodLinkNest RX10 28 yX9_init RX10) := by decide +kernel
theorem fj_X10_29 : Cond.fieldLink RX10 29 "AvalancheGallery" "ways" "LAvalancheGallery$Ways;" ∈ WG := wg_t 310 (by decide +kernel) (by decide +kernel)
theorem cl_X10_33 : Cond.classLink RX10 33 RX6 ∈ WG ∧ Cond.instantiable RX6 4 ∈ WG ∧ Cond.initialized RX6 ∈ WG := ⟨wg_t 207 (by decide +kernel) (by decide +kernel), wg_t 208 (by decide +kernel) (by decide +kernel), wg_t 6 (by decide +kernel) (by decide +kernel)⟩
theorem nc_X6 : Cond.code yX6_init cX6_init 1 none ∈ WG ∧ Cond.initialized yX6_init.cls ∈ WG ∧ Cond.instanceMethod yX6_init ∈ WG ∧ (yX6_init.cls ≠ "java/lang/invoke/MethodHandle" ∧ yX6_init.cls ≠ "java/lang/invoke/VarHandle" ∧ (parseMethodDescriptor yX6_init.desc).map (fun d => d.parameters.length) = some 0) := ⟨wg_t 211 (by decide +kernel) (by decide +kernel), wg_t 6 (by decide +kernel) (by decide +kernel), wg_t 210 (by decide +kernel) (by decide +kernel), by decide +kernel⟩
theorem nl_X10_35 : tables_1[209]? = some (.methodLinkNest RX10 35 yX6_init RX10) := by decide +kernel
theorem fj_X10_36 : Cond.fieldLink RX10 36 "AvalancheGallery" "sand" "LAvalancheGallery$Sand;" ∈ WG := wg_t 311 (by decide +kernel) (by decide +kernel)
theorem cl_X10_40 : Cond.classLink RX10 40 RX5 ∈ WG ∧ Cond.instantiable RX5 2 ∈ WG ∧ Cond.initialized RX5 ∈ WG := ⟨wg_t 227 (by decide +kernel) (by decide +kernel), wg_t 228 (by decide +kernel) (by decide +kernel), wg_t 7 (by decide +kernel) (by decide +kernel)⟩
theorem nc_X5 : Cond.code yX5_init cX5_init 1 none ∈ WG ∧ Cond.initialized yX5_init.cls ∈ WG ∧ Cond.instanceMethod yX5_init ∈ WG ∧ (yX5_init.cls ≠ "java/lang/invoke/MethodHandle" ∧ yX5_init.cls ≠ "java/lang/invoke/VarHandle" ∧ (parseMethodDescriptor yX5_init.desc).map (fun d => d.parameters.length) = some 0) := ⟨wg_t 231 (by decide +kernel) (by decide +kernel), wg_t 7 (by decide +kernel) (by decide +kernel), wg_t 230 (by decide +kernel) (by decide +kernel), by decide +kernel⟩
theorem nl_X10_42 : tables_1[229]? = some (.methodLinkNest RX10 42 yX5_init RX10) := by decide +kernel
theorem fj_X10_43 : Cond.fieldLink RX10 43 "AvalancheGallery" "lender" "LAvalancheGallery$Lender;" ∈ WG := wg_t 312 (by decide +kernel) (by decide +kernel)
theorem cl_X10_47 : Cond.classLink RX10 47 RX7 ∈ WG ∧ Cond.instantiable RX7 6 ∈ WG ∧ Cond.initialized RX7 ∈ WG := ⟨wg_t 240 (by decide +kernel) (by decide +kernel), wg_t 241 (by decide +kernel) (by decide +kernel), wg_t 8 (by decide +kernel) (by decide +kernel)⟩
theorem nc_X7 : Cond.code yX7_init cX7_init 1 none ∈ WG ∧ Cond.initialized yX7_init.cls ∈ WG ∧ Cond.instanceMethod yX7_init ∈ WG ∧ (yX7_init.cls ≠ "java/lang/invoke/MethodHandle" ∧ yX7_init.cls ≠ "java/lang/invoke/VarHandle" ∧ (parseMethodDescriptor yX7_init.desc).map (fun d => d.parameters.length) = some 0) := ⟨wg_t 244 (by decide +kernel) (by decide +kernel), wg_t 8 (by decide +kernel) (by decide +kernel), wg_t 243 (by decide +kernel) (by decide +kernel), by decide +kernel⟩
theorem nl_X10_49 : tables_1[242]? = some (.methodLinkNest RX10 49 yX7_init RX10) := by decide +kernel
theorem fj_X10_50 : Cond.fieldLink RX10 50 "AvalancheGallery" "script" "LAvalancheGallery$Script;" ∈ WG := wg_t 313 (by decide +kernel) (by decide +kernel)
theorem cl_X10_54 : Cond.classLink RX10 54 RJ4 ∈ WG ∧ Cond.instantiable RJ4 4 ∈ WG ∧ Cond.initialized RJ4 ∈ WG := ⟨wg_t 274 (by decide +kernel) (by decide +kernel), wg_t 275 (by decide +kernel) (by decide +kernel), wg_t 10 (by decide +kernel) (by decide +kernel)⟩
theorem fj_X10_57 : Cond.fieldLink RX10 57 "AvalancheGallery" "output" "Ljava/lang/StringBuilder;" ∈ WG := wg_t 314 (by decide +kernel) (by decide +kernel)
theorem fj_X10_61 : Cond.fieldLink RX10 61 "AvalancheGallery" "keptErrorPosition" "I" ∈ WG := wg_t 317 (by decide +kernel) (by decide +kernel)
theorem fj_X10_65 : Cond.fieldLink RX10 65 "AvalancheGallery" "keptFailedCommand" "I" ∈ WG := wg_t 318 (by decide +kernel) (by decide +kernel)
abbrev rmiX10 : Room := { frames := 8, cells := 561, slots := 9847, locals := 320 }
set_option maxHeartbeats 4000000 in
set_option maxRecDepth 100000 in
theorem metX10_init {l : Launch} {s0 : State} {b B : Nat} {D : va_G} {T : Nat → ClassId} {X : Nat → Prop} {o : Nat} {E : Nat → va_E} (F : FX l s0 b D T B) (he : E o = .inr (11, [.null, .null, .int 0, .null, .null, .null, .null, .null, .null, .int 0, .int 0, .int 0, .int 0])) : gMet l yX10_init cX10_init 1 none rmiX10 [.ref (B + o)] (gE D B (o + 1) E) (KC s0 X) none (gE D B (o + 562) (eCat E o (gxGa T B o))) (fun z => B + o ≤ z) 561 9847 := by
  refine gCt_of RX10 (by decide +kernel) rfl (Nat.le_of_ble_eq_true rfl) ?_
  intro p e s m args below meth c ls Q hx hb hlocks hml hown hts hnm hW hk hl hS hend
  have hC := FX_C F hk hx hb hown hts
  have hE := le_start hW he
  have hl : lv_has ls 1 [(0, .ref (B + o))] := hl
  refine lv_aload_n hx hb dX10_init_0 rfl (lv_at hl 0 rfl) ?_
  refine al_init hC lo_X10_3 (hl.1.trans hml.symm) (Nat.le_of_ble_eq_true rfl) (Nat.le_of_ble_eq_true rfl) dX10_init_1 ?_
  refine lv_aload_n hx hb dX10_init_4 rfl (lv_at hl 0 rfl) ?_
  refine ge_obj (C := RX8) (T := TX8) (N := 8) (ci := 9) tyX8 hC cl_X10_9 uw_X8 tyX8_ok rfl (fs := [.int 0, .null, .null, .null, .int 0, .null, .int 0, .int 0]) (fun j hj => by rcases (show j = 0 ∨ j = 1 ∨ j = 2 ∨ j = 3 ∨ j = 4 ∨ j = 5 ∨ j = 6 ∨ j = 7 by omega) with rfl | rfl | rfl | rfl | rfl | rfl | rfl | rfl <;> rfl) hE hS (Nat.le_of_ble_eq_true rfl) (Nat.le_of_ble_eq_true rfl) dX10_init_5 (fun H hE hS => ?_)
  replace hE := le_push (t := 1) (t' := 2) rfl hE
  refine lv_dup hx hb dX10_init_8 rfl ?_
  refine gw_callI (a := B + (o + 1)) (As := []) (v := none) hC hml hS hE (KC_atA hk hS (fun q hq => Nat.le_trans (Nat.le_add_right _ _) hq) F.2.2.2.2) KC_blind (metX8_init F (o := o + 1) (eCat_at.trans (eup_at rfl))) ml_X10_11 rfl (fun q hq => Nat.le_trans (by omega) hq) ⟨rfl, rfl, (Nat.le_of_ble_eq_true rfl), (Nat.le_of_ble_eq_true rfl)⟩ rfl hl.1 rfl (Nat.le_of_ble_eq_true rfl) dX10_init_9 ⟨(Nat.le_of_ble_eq_true rfl), (Nat.le_of_ble_eq_true rfl)⟩ (fun H locs hE hS _ _ => ?_)
  replace hE := le_more (t := 1) (m := 47) (t' := 48) rfl hE
  refine ge_putF (C := RX10) (T := TX10) (N := 13) (ci := 11) (k0 := o) tyX10 hC uw_X10 tyX10_ok nmX10 hE (Nat.le_refl _) hS (by omega) (fs := [.null, .null, .int 0, .null, .null, .null, .null, .null, .null, .int 0, .int 0, .int 0, .int 0]) (eCat_0.trans rfl) rfl 0 (by decide) fj_X10_12 rfl (hnm.trans rfl) rfl rfl rfl (Nat.le_of_ble_eq_true rfl) dX10_init_12 (fun H locs hE hS => ?_)
  replace hE := le_set0 hE
  refine lv_aload_n hx hb dX10_init_15 rfl (lv_at hl 0 rfl) ?_
  refine ge_obj (C := RX8) (T := TX8) (N := 8) (ci := 9) tyX8 hC cl_X10_9 uw_X8 tyX8_ok rfl (fs := [.int 0, .null, .null, .null, .int 0, .null, .int 0, .int 0]) (fun j hj => by rcases (show j = 0 ∨ j = 1 ∨ j = 2 ∨ j = 3 ∨ j = 4 ∨ j = 5 ∨ j = 6 ∨ j = 7 by omega) with rfl | rfl | rfl | rfl | rfl | rfl | rfl | rfl <;> rfl) hE hS (Nat.le_of_ble_eq_true rfl) (Nat.le_of_ble_eq_true rfl) dX10_init_16 (fun H hE hS => ?_)
  replace hE := le_push (t := 48) (t' := 49) rfl hE
  refine lv_dup hx hb dX10_init_19 rfl ?_
  refine gw_callI (a := B + (o + 48)) (As := []) (v := none) hC hml hS hE (KC_atA hk hS (fun q hq => Nat.le_trans (Nat.le_add_right _ _) hq) F.2.2.2.2) KC_blind (metX8_init F (o := o + 48) (eCat_at.trans (eup_at rfl))) ml_X10_11 rfl (fun q hq => Nat.le_trans (by omega) hq) ⟨rfl, rfl, (Nat.le_of_ble_eq_true rfl), (Nat.le_of_ble_eq_true rfl)⟩ rfl hl.1 rfl (Nat.le_of_ble_eq_true rfl) dX10_init_20 ⟨(Nat.le_of_ble_eq_true rfl), (Nat.le_of_ble_eq_true rfl)⟩ (fun H locs hE hS _ _ => ?_)
  replace hE := le_more (t := 48) (m := 47) (t' := 95) rfl hE
  refine ge_putF (C := RX10) (T := TX10) (N := 13) (ci := 11) (k0 := o) tyX10 hC uw_X10 tyX10_ok nmX10 hE (Nat.le_refl _) hS (by omega) (fs := [.ref (B + (o + 1)), .null, .int 0, .null, .null, .null, .null, .null, .null, .int 0, .int 0, .int 0, .int 0]) (eCat_0.trans rfl) rfl 1 (by decide) fj_X10_16 rfl (hnm.trans rfl) rfl rfl rfl (Nat.le_of_ble_eq_true rfl) dX10_init_23 (fun H locs hE hS => ?_)
  replace hE := le_set0 hE
  refine lv_aload_n hx hb dX10_init_26 rfl (lv_at hl 0 rfl) ?_
  refine ge_obj (C := RX4) (T := TX4) (N := 3) (ci := 5) tyX4 hC cl_X10_19 uw_X4 tyX4_ok rfl (fs := [.null, .int 0, .int 0]) (fun j hj => by rcases (show j = 0 ∨ j = 1 ∨ j = 2 by omega) with rfl | rfl | rfl <;> rfl) hE hS (Nat.le_of_ble_eq_true rfl) (Nat.le_of_ble_eq_true rfl) dX10_init_27 (fun H hE hS => ?_)
  replace hE := le_push (t := 95) (t' := 96) rfl hE
  refine lv_dup hx hb dX10_init_30 rfl ?_
  refine gw_callI (a := B + (o + 95)) (As := []) (v := none) hC hml hS hE (KC_atA hk hS (fun q hq => Nat.le_trans (Nat.le_add_right _ _) hq) F.2.2.2.2) KC_blind (metX4_init F (o := o + 95) (eCat_at.trans (eup_at rfl))) ml_X10_21 rfl (fun q hq => Nat.le_trans (by omega) hq) ⟨rfl, rfl, (Nat.le_of_ble_eq_true rfl), (Nat.le_of_ble_eq_true rfl)⟩ rfl hl.1 rfl (Nat.le_of_ble_eq_true rfl) dX10_init_31 ⟨(Nat.le_of_ble_eq_true rfl), (Nat.le_of_ble_eq_true rfl)⟩ (fun H locs hE hS _ _ => ?_)
  replace hE := le_more (t := 95) (m := 425) (t' := 520) rfl hE
  refine ge_putF (C := RX10) (T := TX10) (N := 13) (ci := 11) (k0 := o) tyX10 hC uw_X10 tyX10_ok nmX10 hE (Nat.le_refl _) hS (by omega) (fs := [.ref (B + (o + 1)), .ref (B + (o + 48)), .int 0, .null, .null, .null, .null, .null, .null, .int 0, .int 0, .int 0, .int 0]) (eCat_0.trans rfl) rfl 3 (by decide) fj_X10_22 rfl (hnm.trans rfl) rfl rfl rfl (Nat.le_of_ble_eq_true rfl) dX10_init_34 (fun H locs hE hS => ?_)
  replace hE := le_set0 hE
  refine lv_aload_n hx hb dX10_init_37 rfl (lv_at hl 0 rfl) ?_
  refine ge_obj (C := RX9) (T := TX9) (N := 7) (ci := 10) tyX9 hC cl_X10_26 uw_X9 tyX9_ok rfl (fs := [.null, .int 0, .int 0, .null, .null, .null, .null]) (fun j hj => by rcases (show j = 0 ∨ j = 1 ∨ j = 2 ∨ j = 3 ∨ j = 4 ∨ j = 5 ∨ j = 6 by omega) with rfl | rfl | rfl | rfl | rfl | rfl | rfl <;> rfl) hE hS (Nat.le_of_ble_eq_true rfl) (Nat.le_of_ble_eq_true rfl) dX10_init_38 (fun H hE hS => ?_)
  replace hE := le_push (t := 520) (t' := 521) rfl hE
  refine lv_dup hx hb dX10_init_41 rfl ?_
  refine gw_callIN (a := B + (o + 520)) (As := []) (v := none) hC hml hS hE (KC_atA hk hS (fun q hq => Nat.le_trans (Nat.le_add_right _ _) hq) F.2.2.2.2) KC_blind (metX9_init F (o := o + 520) (eCat_at.trans (eup_at rfl))) nc_X9 rfl (FX_N F hk _ nl_X10_28) (fun q hq => Nat.le_trans (by omega) hq) ⟨rfl, rfl, (Nat.le_of_ble_eq_true rfl), (Nat.le_of_ble_eq_true rfl)⟩ rfl hl.1 rfl (Nat.le_of_ble_eq_true rfl) dX10_init_42 ⟨(Nat.le_of_ble_eq_true rfl), (Nat.le_of_ble_eq_true rfl)⟩ (fun H locs hE hS _ _ => ?_)
  replace hE := le_more (t := 520) (m := 18) (t' := 538) rfl hE
  refine ge_putF (C := RX10) (T := TX10) (N := 13) (ci := 11) (k0 := o) tyX10 hC uw_X10 tyX10_ok nmX10 hE (Nat.le_refl _) hS (by omega) (fs := [.ref (B + (o + 1)), .ref (B + (o + 48)), .int 0, .ref (B + (o + 95)), .null, .null, .null, .null, .null, .int 0, .int 0, .int 0, .int 0]) (eCat_0.trans rfl) rfl 4 (by decide) fj_X10_29 rfl (hnm.trans rfl) rfl rfl rfl (Nat.le_of_ble_eq_true rfl) dX10_init_45 (fun H locs hE hS => ?_)
  replace hE := le_set0 hE
  refine lv_aload_n hx hb dX10_init_48 rfl (lv_at hl 0 rfl) ?_
  refine ge_obj (C := RX6) (T := TX6) (N := 4) (ci := 7) tyX6 hC cl_X10_33 uw_X6 tyX6_ok rfl (fs := [.null, .null, .null, .null]) (fun j hj => by rcases (show j = 0 ∨ j = 1 ∨ j = 2 ∨ j = 3 by omega) with rfl | rfl | rfl | rfl <;> rfl) hE hS (Nat.le_of_ble_eq_true rfl) (Nat.le_of_ble_eq_true rfl) dX10_init_49 (fun H hE hS => ?_)
  replace hE := le_push (t := 538) (t' := 539) rfl hE
  refine lv_dup hx hb dX10_init_52 rfl ?_
  refine gw_callIN (a := B + (o + 538)) (As := []) (v := none) hC hml hS hE (KC_atA hk hS (fun q hq => Nat.le_trans (Nat.le_add_right _ _) hq) F.2.2.2.2) KC_blind (metX6_init F (o := o + 538) (eCat_at.trans (eup_at rfl))) nc_X6 rfl (FX_N F hk _ nl_X10_35) (fun q hq => Nat.le_trans (by omega) hq) ⟨rfl, rfl, (Nat.le_of_ble_eq_true rfl), (Nat.le_of_ble_eq_true rfl)⟩ rfl hl.1 rfl (Nat.le_of_ble_eq_true rfl) dX10_init_53 ⟨(Nat.le_of_ble_eq_true rfl), (Nat.le_of_ble_eq_true rfl)⟩ (fun H locs hE hS _ _ => ?_)
  replace hE := le_more (t := 538) (m := 5) (t' := 543) rfl hE
  refine ge_putF (C := RX10) (T := TX10) (N := 13) (ci := 11) (k0 := o) tyX10 hC uw_X10 tyX10_ok nmX10 hE (Nat.le_refl _) hS (by omega) (fs := [.ref (B + (o + 1)), .ref (B + (o + 48)), .int 0, .ref (B + (o + 95)), .ref (B + (o + 520)), .null, .null, .null, .null, .int 0, .int 0, .int 0, .int 0]) (eCat_0.trans rfl) rfl 5 (by decide) fj_X10_36 rfl (hnm.trans rfl) rfl rfl rfl (Nat.le_of_ble_eq_true rfl) dX10_init_56 (fun H locs hE hS => ?_)
  replace hE := le_set0 hE
  refine lv_aload_n hx hb dX10_init_59 rfl (lv_at hl 0 rfl) ?_
  refine ge_obj (C := RX5) (T := TX5) (N := 2) (ci := 6) tyX5 hC cl_X10_40 uw_X5 tyX5_ok rfl (fs := [.null, .null]) (fun j hj => by rcases (show j = 0 ∨ j = 1 by omega) with rfl | rfl <;> rfl) hE hS (Nat.le_of_ble_eq_true rfl) (Nat.le_of_ble_eq_true rfl) dX10_init_60 (fun H hE hS => ?_)
  replace hE := le_push (t := 543) (t' := 544) rfl hE
  refine lv_dup hx hb dX10_init_63 rfl ?_
  refine gw_callIN (a := B + (o + 543)) (As := []) (v := none) hC hml hS hE (KC_atA hk hS (fun q hq => Nat.le_trans (Nat.le_add_right _ _) hq) F.2.2.2.2) KC_blind (metX5_init F (o := o + 543) (eCat_at.trans (eup_at rfl))) nc_X5 rfl (FX_N F hk _ nl_X10_42) (fun q hq => Nat.le_trans (by omega) hq) ⟨rfl, rfl, (Nat.le_of_ble_eq_true rfl), (Nat.le_of_ble_eq_true rfl)⟩ rfl hl.1 rfl (Nat.le_of_ble_eq_true rfl) dX10_init_64 ⟨(Nat.le_of_ble_eq_true rfl), (Nat.le_of_ble_eq_true rfl)⟩ (fun H locs hE hS _ _ => ?_)
  replace hE := le_more (t := 543) (m := 3) (t' := 546) rfl hE
  refine ge_putF (C := RX10) (T := TX10) (N := 13) (ci := 11) (k0 := o) tyX10 hC uw_X10 tyX10_ok nmX10 hE (Nat.le_refl _) hS (by omega) (fs := [.ref (B + (o + 1)), .ref (B + (o + 48)), .int 0, .ref (B + (o + 95)), .ref (B + (o + 520)), .ref (B + (o + 538)), .null, .null, .null, .int 0, .int 0, .int 0, .int 0]) (eCat_0.trans rfl) rfl 6 (by decide) fj_X10_43 rfl (hnm.trans rfl) rfl rfl rfl (Nat.le_of_ble_eq_true rfl) dX10_init_67 (fun H locs hE hS => ?_)
  replace hE := le_set0 hE
  refine lv_aload_n hx hb dX10_init_70 rfl (lv_at hl 0 rfl) ?_
  refine ge_obj (C := RX7) (T := TX7) (N := 6) (ci := 8) tyX7 hC cl_X10_47 uw_X7 tyX7_ok rfl (fs := [.null, .int 0, .null, .null, .int 0, .int 0]) (fun j hj => by rcases (show j = 0 ∨ j = 1 ∨ j = 2 ∨ j = 3 ∨ j = 4 ∨ j = 5 by omega) with rfl | rfl | rfl | rfl | rfl | rfl <;> rfl) hE hS (Nat.le_of_ble_eq_true rfl) (Nat.le_of_ble_eq_true rfl) dX10_init_71 (fun H hE hS => ?_)
  replace hE := le_push (t := 546) (t' := 547) rfl hE
  refine lv_dup hx hb dX10_init_74 rfl ?_
  refine gw_callIN (a := B + (o + 546)) (As := []) (v := none) hC hml hS hE (KC_atA hk hS (fun q hq => Nat.le_trans (Nat.le_add_right _ _) hq) F.2.2.2.2) KC_blind (metX7_init F (o := o + 546) (eCat_at.trans (eup_at rfl))) nc_X7 rfl (FX_N F hk _ nl_X10_49) (fun q hq => Nat.le_trans (by omega) hq) ⟨rfl, rfl, (Nat.le_of_ble_eq_true rfl), (Nat.le_of_ble_eq_true rfl)⟩ rfl hl.1 rfl (Nat.le_of_ble_eq_true rfl) dX10_init_75 ⟨(Nat.le_of_ble_eq_true rfl), (Nat.le_of_ble_eq_true rfl)⟩ (fun H locs hE hS _ _ => ?_)
  replace hE := le_more (t := 546) (m := 14) (t' := 560) rfl hE
  refine ge_putF (C := RX10) (T := TX10) (N := 13) (ci := 11) (k0 := o) tyX10 hC uw_X10 tyX10_ok nmX10 hE (Nat.le_refl _) hS (by omega) (fs := [.ref (B + (o + 1)), .ref (B + (o + 48)), .int 0, .ref (B + (o + 95)), .ref (B + (o + 520)), .ref (B + (o + 538)), .ref (B + (o + 543)), .null, .null, .int 0, .int 0, .int 0, .int 0]) (eCat_0.trans rfl) rfl 7 (by decide) fj_X10_50 rfl (hnm.trans rfl) rfl rfl rfl (Nat.le_of_ble_eq_true rfl) dX10_init_78 (fun H locs hE hS => ?_)
  replace hE := le_set0 hE
  refine lv_aload_n hx hb dX10_init_81 rfl (lv_at hl 0 rfl) ?_
  refine ge_obj (C := RJ4) (T := TJ4) (N := 4) (ci := 1) tyJ4 hC cl_X10_54 uw_J4 tyJ4_ok rfl (fs := [.null, .int 0, .int 0, .int 0]) (fun j hj => by rcases (show j = 0 ∨ j = 1 ∨ j = 2 ∨ j = 3 by omega) with rfl | rfl | rfl | rfl <;> rfl) hE hS (Nat.le_of_ble_eq_true rfl) (Nat.le_of_ble_eq_true rfl) dX10_init_82 (fun H hE hS => ?_)
  replace hE := le_push (t := 560) (t' := 561) rfl hE
  refine lv_dup hx hb dX10_init_85 rfl ?_
  refine gw_callI (a := B + (o + 560)) (As := []) (v := none) hC hml hS hE (KC_atA hk hS (fun q hq => Nat.le_trans (Nat.le_add_right _ _) hq) F.2.2.2.2) KC_blind (metJ4_init F (o := o + 560) (eCat_at.trans (eup_at rfl))) ml_X10_56 rfl (fun q hq => Nat.le_trans (by omega) hq) ⟨rfl, rfl, (Nat.le_of_ble_eq_true rfl), (Nat.le_of_ble_eq_true rfl)⟩ rfl hl.1 rfl (Nat.le_of_ble_eq_true rfl) dX10_init_86 ⟨(Nat.le_of_ble_eq_true rfl), (Nat.le_of_ble_eq_true rfl)⟩ (fun H locs hE hS _ _ => ?_)
  replace hE := le_more (t := 560) (m := 2) (t' := 562) rfl hE
  refine ge_putF (C := RX10) (T := TX10) (N := 13) (ci := 11) (k0 := o) tyX10 hC uw_X10 tyX10_ok nmX10 hE (Nat.le_refl _) hS (by omega) (fs := [.ref (B + (o + 1)), .ref (B + (o + 48)), .int 0, .ref (B + (o + 95)), .ref (B + (o + 520)), .ref (B + (o + 538)), .ref (B + (o + 543)), .ref (B + (o + 546)), .null, .int 0, .int 0, .int 0, .int 0]) (eCat_0.trans rfl) rfl 8 (by decide) fj_X10_57 rfl (hnm.trans rfl) rfl rfl rfl (Nat.le_of_ble_eq_true rfl) dX10_init_89 (fun H locs hE hS => ?_)
  replace hE := le_set0 hE
  refine lv_aload_n hx hb dX10_init_92 rfl (lv_at hl 0 rfl) ?_
  refine lv_iconst (v := (-1)) hx hb dX10_init_93 (by decide) ?_
  refine ge_put (C := RX10) (T := TX10) (N := 13) (ci := 11) (k0 := o) tyX10 hC uw_X10 tyX10_ok nmX10 hE (Nat.le_refl _) hS (by omega) (fs := [.ref (B + (o + 1)), .ref (B + (o + 48)), .int 0, .ref (B + (o + 95)), .ref (B + (o + 520)), .ref (B + (o + 538)), .ref (B + (o + 543)), .ref (B + (o + 546)), .ref (B + (o + 560)), .int 0, .int 0, .int 0, .int 0]) (eCat_0.trans rfl) rfl 11 (by decide) fj_X10_61 rfl rfl rfl (Nat.le_of_ble_eq_true rfl) dX10_init_94 (fun H locs hE hS => ?_)
  replace hE := le_set0 hE
  refine lv_aload_n hx hb dX10_init_97 rfl (lv_at hl 0 rfl) ?_
  refine lv_iconst (v := (-1)) hx hb dX10_init_98 (by decide) ?_
  refine ge_put (C := RX10) (T := TX10) (N := 13) (ci := 11) (k0 := o) tyX10 hC uw_X10 tyX10_ok nmX10 hE (Nat.le_refl _) hS (by omega) (fs := [.ref (B + (o + 1)), .ref (B + (o + 48)), .int 0, .ref (B + (o + 95)), .ref (B + (o + 520)), .ref (B + (o + 538)), .ref (B + (o + 543)), .ref (B + (o + 546)), .ref (B + (o + 560)), .int 0, .int 0, .int (-1), .int 0]) (eCat_0.trans rfl) rfl 12 (by decide) fj_X10_65 rfl rfl rfl (Nat.le_of_ble_eq_true rfl) dX10_init_99 (fun H locs hE hS => ?_)
  replace hE := le_set0 hE
  refine hend dX10_init_102 (le_end hE rfl (fun k hk => ?_)) hS (Nat.le_of_ble_eq_true rfl) (Nat.le_of_ble_eq_true rfl)
  by_cases hk0 : k = 0
  · subst hk0; rfl
  unfold gxGa
  rw [eup_ne hk0, eup_ne hk0, eup_ne hk0]
  refine eCat_two fun _ => ?_
  rw [eup_ne hk0]
  refine eCat_two fun _ => ?_
  rw [eup_ne hk0]
  refine eCat_two fun _ => ?_
  rw [eup_ne hk0]
  refine eCat_two fun _ => ?_
  rw [eup_ne hk0]
  refine eCat_two fun _ => ?_
  rw [eup_ne hk0]
  refine eCat_two fun _ => ?_
  rw [eup_ne hk0]
  refine eCat_two fun _ => ?_
  rw [eup_ne hk0]
  exact eCat_two fun hc => absurd hc (by omega)
