/-! The text builder: what is read of it; its room. -/
theorem dJ8_newLength_cabcc_0 : decode cJ8_newLength_cabcc 0 = .ok (.iload_n 0, 1) := by decide +kernel
theorem dJ8_newLength_cabcc_1 : decode cJ8_newLength_cabcc 1 = .ok (.iload_n 1, 1) := by decide +kernel
theorem dJ8_newLength_cabcc_2 : decode cJ8_newLength_cabcc 2 = .ok (.iload_n 2, 1) := by decide +kernel
theorem dJ8_newLength_cabcc_3 : decode cJ8_newLength_cabcc 3 = .ok (.invokestatic 194, 3) := by decide +kernel
theorem dJ8_newLength_cabcc_6 : decode cJ8_newLength_cabcc 6 = .ok (.iadd, 1) := by decide +kernel
theorem dJ8_newLength_cabcc_7 : decode cJ8_newLength_cabcc 7 = .ok (.istore_n 3, 1) := by decide +kernel
theorem dJ8_newLength_cabcc_8 : decode cJ8_newLength_cabcc 8 = .ok (.iconst 0, 1) := by decide +kernel
theorem dJ8_newLength_cabcc_9 : decode cJ8_newLength_cabcc 9 = .ok (.iload_n 3, 1) := by decide +kernel
theorem dJ8_newLength_cabcc_10 : decode cJ8_newLength_cabcc 10 = .ok (.if_icmp .ge 11, 3) := by decide +kernel
theorem dJ8_newLength_cabcc_13 : decode cJ8_newLength_cabcc 13 = .ok (.iload_n 3, 1) := by decide +kernel
theorem dJ8_newLength_cabcc_14 : decode cJ8_newLength_cabcc 14 = .ok (.ldc 200, 2) := by decide +kernel
theorem dJ8_newLength_cabcc_16 : decode cJ8_newLength_cabcc 16 = .ok (.if_icmp .gt 5, 3) := by decide +kernel
theorem dJ8_newLength_cabcc_19 : decode cJ8_newLength_cabcc 19 = .ok (.iload_n 3, 1) := by decide +kernel
theorem dJ8_newLength_cabcc_20 : decode cJ8_newLength_cabcc 20 = .ok (.ireturn, 1) := by decide +kernel
theorem dJ8_newLength_cabcc_21 : decode cJ8_newLength_cabcc 21 = .ok (.iload_n 0, 1) := by decide +kernel
theorem dJ8_newLength_cabcc_22 : decode cJ8_newLength_cabcc 22 = .ok (.iload_n 1, 1) := by decide +kernel
theorem dJ8_newLength_cabcc_23 : decode cJ8_newLength_cabcc 23 = .ok (.invokestatic 201, 3) := by decide +kernel
theorem dJ8_newLength_cabcc_26 : decode cJ8_newLength_cabcc 26 = .ok (.ireturn, 1) := by decide +kernel
theorem dJ5_newCapacity_0f7a4_0 : decode cJ5_newCapacity_0f7a4 0 = .ok (.aload_n 0, 1) := by decide +kernel
theorem dJ5_newCapacity_0f7a4_1 : decode cJ5_newCapacity_0f7a4 1 = .ok (.getfield 15, 3) := by decide +kernel
theorem dJ5_newCapacity_0f7a4_4 : decode cJ5_newCapacity_0f7a4 4 = .ok (.arraylength, 1) := by decide +kernel
theorem dJ5_newCapacity_0f7a4_5 : decode cJ5_newCapacity_0f7a4 5 = .ok (.istore_n 2, 1) := by decide +kernel
theorem dJ5_newCapacity_0f7a4_6 : decode cJ5_newCapacity_0f7a4 6 = .ok (.iload_n 1, 1) := by decide +kernel
theorem dJ5_newCapacity_0f7a4_7 : decode cJ5_newCapacity_0f7a4 7 = .ok (.aload_n 0, 1) := by decide +kernel
theorem dJ5_newCapacity_0f7a4_8 : decode cJ5_newCapacity_0f7a4 8 = .ok (.getfield 22, 3) := by decide +kernel
theorem dJ5_newCapacity_0f7a4_11 : decode cJ5_newCapacity_0f7a4 11 = .ok (.ishl, 1) := by decide +kernel
theorem dJ5_newCapacity_0f7a4_12 : decode cJ5_newCapacity_0f7a4 12 = .ok (.istore_n 3, 1) := by decide +kernel
theorem dJ5_newCapacity_0f7a4_13 : decode cJ5_newCapacity_0f7a4 13 = .ok (.iload_n 3, 1) := by decide +kernel
theorem dJ5_newCapacity_0f7a4_14 : decode cJ5_newCapacity_0f7a4 14 = .ok (.iload_n 2, 1) := by decide +kernel
theorem dJ5_newCapacity_0f7a4_15 : decode cJ5_newCapacity_0f7a4 15 = .ok (.isub, 1) := by decide +kernel
theorem dJ5_newCapacity_0f7a4_16 : decode cJ5_newCapacity_0f7a4 16 = .ok (.istore 4, 2) := by decide +kernel
theorem dJ5_newCapacity_0f7a4_18 : decode cJ5_newCapacity_0f7a4 18 = .ok (.iload_n 2, 1) := by decide +kernel
theorem dJ5_newCapacity_0f7a4_19 : decode cJ5_newCapacity_0f7a4 19 = .ok (.iload 4, 2) := by decide +kernel
theorem dJ5_newCapacity_0f7a4_21 : decode cJ5_newCapacity_0f7a4 21 = .ok (.iload_n 2, 1) := by decide +kernel
theorem dJ5_newCapacity_0f7a4_22 : decode cJ5_newCapacity_0f7a4 22 = .ok (.iconst 2, 1) := by decide +kernel
theorem dJ5_newCapacity_0f7a4_23 : decode cJ5_newCapacity_0f7a4 23 = .ok (.aload_n 0, 1) := by decide +kernel
theorem dJ5_newCapacity_0f7a4_24 : decode cJ5_newCapacity_0f7a4 24 = .ok (.getfield 22, 3) := by decide +kernel
theorem dJ5_newCapacity_0f7a4_27 : decode cJ5_newCapacity_0f7a4 27 = .ok (.ishl, 1) := by decide +kernel
theorem dJ5_newCapacity_0f7a4_28 : decode cJ5_newCapacity_0f7a4 28 = .ok (.iadd, 1) := by decide +kernel
theorem dJ5_newCapacity_0f7a4_29 : decode cJ5_newCapacity_0f7a4 29 = .ok (.invokestatic 114, 3) := by decide +kernel
theorem dJ5_newCapacity_0f7a4_32 : decode cJ5_newCapacity_0f7a4 32 = .ok (.istore 5, 2) := by decide +kernel
theorem dJ5_newCapacity_0f7a4_34 : decode cJ5_newCapacity_0f7a4 34 = .ok (.iload 5, 2) := by decide +kernel
theorem dJ5_newCapacity_0f7a4_36 : decode cJ5_newCapacity_0f7a4 36 = .ok (.ldc 39, 2) := by decide +kernel
theorem dJ5_newCapacity_0f7a4_38 : decode cJ5_newCapacity_0f7a4 38 = .ok (.if_icmp .ne 13, 3) := by decide +kernel
theorem dJ5_newCapacity_0f7a4_41 : decode cJ5_newCapacity_0f7a4 41 = .ok (.new 120, 3) := by decide +kernel
theorem dJ5_newCapacity_0f7a4_44 : decode cJ5_newCapacity_0f7a4 44 = .ok (.dup, 1) := by decide +kernel
theorem dJ5_newCapacity_0f7a4_45 : decode cJ5_newCapacity_0f7a4 45 = .ok (.ldc 122, 2) := by decide +kernel
theorem dJ5_newCapacity_0f7a4_47 : decode cJ5_newCapacity_0f7a4 47 = .ok (.invokespecial 124, 3) := by decide +kernel
theorem dJ5_newCapacity_0f7a4_50 : decode cJ5_newCapacity_0f7a4 50 = .ok (.athrow, 1) := by decide +kernel
theorem dJ5_newCapacity_0f7a4_51 : decode cJ5_newCapacity_0f7a4 51 = .ok (.iload 5, 2) := by decide +kernel
theorem dJ5_newCapacity_0f7a4_53 : decode cJ5_newCapacity_0f7a4 53 = .ok (.aload_n 0, 1) := by decide +kernel
theorem dJ5_newCapacity_0f7a4_54 : decode cJ5_newCapacity_0f7a4 54 = .ok (.getfield 22, 3) := by decide +kernel
theorem dJ5_newCapacity_0f7a4_57 : decode cJ5_newCapacity_0f7a4 57 = .ok (.ishr, 1) := by decide +kernel
theorem dJ5_newCapacity_0f7a4_58 : decode cJ5_newCapacity_0f7a4 58 = .ok (.ireturn, 1) := by decide +kernel
theorem dJ7_copyOf_9075b_0 : decode cJ7_copyOf_9075b 0 = .ok (.iload_n 1, 1) := by decide +kernel
theorem dJ7_copyOf_9075b_1 : decode cJ7_copyOf_9075b 1 = .ok (.aload_n 0, 1) := by decide +kernel
theorem dJ7_copyOf_9075b_2 : decode cJ7_copyOf_9075b 2 = .ok (.arraylength, 1) := by decide +kernel
theorem dJ7_copyOf_9075b_3 : decode cJ7_copyOf_9075b 3 = .ok (.if_icmp .ne 11, 3) := by decide +kernel
theorem dJ7_copyOf_9075b_6 : decode cJ7_copyOf_9075b 6 = .ok (.aload_n 0, 1) := by decide +kernel
theorem dJ7_copyOf_9075b_7 : decode cJ7_copyOf_9075b 7 = .ok (.invokevirtual 310, 3) := by decide +kernel
theorem dJ7_copyOf_9075b_10 : decode cJ7_copyOf_9075b 10 = .ok (.checkcast 311, 3) := by decide +kernel
theorem dJ7_copyOf_9075b_13 : decode cJ7_copyOf_9075b 13 = .ok (.areturn, 1) := by decide +kernel
theorem dJ7_copyOf_9075b_14 : decode cJ7_copyOf_9075b 14 = .ok (.iload_n 1, 1) := by decide +kernel
theorem dJ7_copyOf_9075b_15 : decode cJ7_copyOf_9075b 15 = .ok (.newarray .byte, 2) := by decide +kernel
theorem dJ7_copyOf_9075b_17 : decode cJ7_copyOf_9075b 17 = .ok (.astore_n 2, 1) := by decide +kernel
theorem dJ7_copyOf_9075b_18 : decode cJ7_copyOf_9075b 18 = .ok (.aload_n 0, 1) := by decide +kernel
theorem dJ7_copyOf_9075b_19 : decode cJ7_copyOf_9075b 19 = .ok (.iconst 0, 1) := by decide +kernel
theorem dJ7_copyOf_9075b_20 : decode cJ7_copyOf_9075b 20 = .ok (.aload_n 2, 1) := by decide +kernel
theorem dJ7_copyOf_9075b_21 : decode cJ7_copyOf_9075b 21 = .ok (.iconst 0, 1) := by decide +kernel
theorem dJ7_copyOf_9075b_22 : decode cJ7_copyOf_9075b 22 = .ok (.aload_n 0, 1) := by decide +kernel
theorem dJ7_copyOf_9075b_23 : decode cJ7_copyOf_9075b 23 = .ok (.arraylength, 1) := by decide +kernel
theorem dJ7_copyOf_9075b_24 : decode cJ7_copyOf_9075b 24 = .ok (.iload_n 1, 1) := by decide +kernel
theorem dJ7_copyOf_9075b_25 : decode cJ7_copyOf_9075b 25 = .ok (.invokestatic 304, 3) := by decide +kernel
theorem dJ7_copyOf_9075b_28 : decode cJ7_copyOf_9075b 28 = .ok (.invokestatic 150, 3) := by decide +kernel
theorem dJ7_copyOf_9075b_31 : decode cJ7_copyOf_9075b 31 = .ok (.aload_n 2, 1) := by decide +kernel
theorem dJ7_copyOf_9075b_32 : decode cJ7_copyOf_9075b 32 = .ok (.areturn, 1) := by decide +kernel
theorem ml_J5_144 : gMS RJ5 144 yJ0_checkIndex_df160 cJ0_checkIndex_df160 2 none 2 := ⟨⟨wg_t 1546 (by decide +kernel) (by decide +kernel), wg_t 1520 (by decide +kernel) (by decide +kernel), wg_t 11 (by decide +kernel) (by decide +kernel), by decide +kernel⟩, wg_t 1519 (by decide +kernel) (by decide +kernel)⟩
theorem ml_J5_114 : gMS RJ5 114 yJ8_newLength_cabcc cJ8_newLength_cabcc 4 (some .int) 3 := ⟨⟨wg_t 1259 (by decide +kernel) (by decide +kernel), wg_t 1261 (by decide +kernel) (by decide +kernel), wg_t 29 (by decide +kernel) (by decide +kernel), by decide +kernel⟩, wg_t 1260 (by decide +kernel) (by decide +kernel)⟩
theorem ml_J5_108 : gMS RJ5 108 yJ7_copyOf_9075b cJ7_copyOf_9075b 3 (some (.array .byte)) 2 := ⟨⟨wg_t 1268 (by decide +kernel) (by decide +kernel), wg_t 1270 (by decide +kernel) (by decide +kernel), wg_t 30 (by decide +kernel) (by decide +kernel), by decide +kernel⟩, wg_t 1269 (by decide +kernel) (by decide +kernel)⟩
theorem lm_J5_138 : Cond.methodLink RJ5 138 Lib.Math.min.name ∈ WG := wg_t 1545 (by decide +kernel) (by decide +kernel)
theorem lm_J8_194 : Cond.methodLink RJ8 194 Lib.Math.max.name ∈ WG := wg_t 1262 (by decide +kernel) (by decide +kernel)
theorem kc_J8_200 : Cond.constant RJ8 200 2147483639 ∈ WG := wg_t 1263 (by decide +kernel) (by decide +kernel)
theorem kc_J5_39 : Cond.constant RJ5 39 2147483647 ∈ WG := wg_t 1267 (by decide +kernel) (by decide +kernel)
theorem KC_gen {s0 s : State} {X A : Nat → Prop} {H : Heap} {locs : List Loc} (hk : KC s0 X s) (hA : ∀ q, A q → s0.heap.size ≤ q) (hS : va_S A s.heap H locs) : ∀ U : State, U.heap = H → s.WarmedH U.vm → KC s0 X U := by
  intro U hU hW
  refine ⟨State.WarmedH.trans hk.1 hW, by rw [hU]; exact Nat.le_trans hk.2.1 hS.1, fun q hq => ?_, fun q hq => by rw [hU]; exact Nat.lt_of_lt_of_le (hk.2.2.2 q hq) hS.1⟩
  rw [hU, hS.2.1 q (Nat.lt_of_lt_of_le hq hk.2.1) (fun z => absurd hq (Nat.not_lt.mpr (hA q z)))]
  exact hk.2.2.1 q hq
def KS (s0 : State) (X : Nat → Prop) (D : va_G) (ws : va_W) (U : State) : Prop := KC s0 X U ∧ va_P D vwCl ws U.heap
theorem KS_blind {s0 : State} {X : Nat → Prop} {D : va_G} {ws : va_W} : gBlind (KS s0 X D ws) := fun U g mk ar h => h
section SB1
variable {l : Launch} {s0 : State} {b B : Nat} {D : va_G} {T : Nat → ClassId} {X : Nat → Prop} {H0 : Heap} {sb v cap n : Nat} {row : Nat → Int32} {mb : Int32}
theorem KS_na {s : State} {ws : va_W} {locs : List Loc} (hk : KS s0 X D ws s) (hS : va_S NF s.heap s.heap locs) : ∀ U : State, U.heap = s.heap → s.WarmedH U.vm → KS s0 X D ws U := fun U hU hW => ⟨KC_gen hk.1 (fun q (z : False) => z.elim) hS U hU hW, by rw [hU]; exact hk.2⟩
theorem sb_recv {s : State} {H : Heap} {ws : va_W} {q0 a : Nat} {fs : List Value} (hK : va_K D vwCl (tysG T) s) (hP : va_P D vwCl ws H) (he : ws[q0]? = some (a, .inr (1, fs))) : ∃ cell : Cell, H[a]? = some cell ∧ cell.vm.isStatics = false ∧ s.vm.findClass RJ4 = some cell.cls := va_recv hK hP (q := (RJ4, TJ4, 4)) rfl he
theorem sb_class {s : State} (hK : va_K D vwCl (tysG T) s) : ClassAt s RJ4 (D.1 1) := (hK.1 1 _ (rfl : vwCl[1]? = some (RJ4, TJ4, 4))).2
set_option maxHeartbeats 4000000 in
set_option maxRecDepth 100000 in
theorem metJ5_isLatin1 (F : FX l s0 b D T B) : gMet l yJ5_isLatin1_aae02 cJ5_isLatin1_aae02 1 (some .boolean) rms0 [.ref sb] (eqH H0) (KS s0 X D (SBp T sb v cap row mb (nI n))) (some (.int 1)) (eqH H0) NF 0 0 := by
  refine gMet_of RJ5 (by decide +kernel) rfl (Nat.le_of_ble_eq_true rfl) ?_
  intro p e s m below meth c ls hx hb hr hlocks hml hown hts hnm hW hks hl hS
  obtain ⟨hk, hP⟩ := id hks
  have hK := (FX_C F hk hx hb hown hts).2.2.2.2
  have hl : lv_has ls 1 [(0, .ref sb)] := hl
  refine va_gets hx hb (zCS F hk) hS hown (hts _ fj_J5_18) (fun _ h => h) dJ5_isLatin1_aae02_0 ?_
  refine lv_if_eq (tgt := 17) hx hb dJ5_isLatin1_aae02_3 (by decide) (fun h => absurd h (by decide)) (fun _ => ?_)
  refine lv_aload_n hx hb dJ5_isLatin1_aae02_6 rfl (lv_at hl 0 rfl) ?_
  refine va_get (C := RJ4) (T := TJ4) (N := 4) (ci := 1) hx hb hts uw_J4 hown hK hP 0 rfl rfl 1 (by decide) (hts _ fj_J5_22) (fun _ h => h) (v := .int 0) rfl dJ5_isLatin1_aae02_7 ?_
  refine lv_if_ne (tgt := 17) hx hb dJ5_isLatin1_aae02_10 (by decide) (fun h => absurd rfl h) (fun _ => ?_)
  refine lv_iconst (v := 1) hx hb dJ5_isLatin1_aae02_13 (by decide) ?_
  refine lv_goto (tgt := 18) hx hb dJ5_isLatin1_aae02_14 (by decide) ?_
  exact gw_zret hx hb hr rfl hlocks hW hS (Nat.le_of_ble_eq_true rfl) (Nat.le_of_ble_eq_true rfl) dJ5_isLatin1_aae02_18
set_option maxHeartbeats 4000000 in
set_option maxRecDepth 100000 in
theorem metJ5_length (F : FX l s0 b D T B) : gMet l yJ5_length_8abf5 cJ5_length_8abf5 1 (some .int) rms0 [.ref sb] (eqH H0) (KS s0 X D (SBp T sb v cap row mb (nI n))) (some (.int (nI n))) (eqH H0) NF 0 0 := by
  refine gMet_of RJ5 (by decide +kernel) rfl (Nat.le_of_ble_eq_true rfl) ?_
  intro p e s m below meth c ls hx hb hr hlocks hml hown hts hnm hW hks hl hS
  obtain ⟨hk, hP⟩ := id hks
  have hK := (FX_C F hk hx hb hown hts).2.2.2.2
  have hl : lv_has ls 1 [(0, .ref sb)] := hl
  refine lv_aload_n hx hb dJ5_length_8abf5_0 rfl (lv_at hl 0 rfl) ?_
  refine va_get (C := RJ4) (T := TJ4) (N := 4) (ci := 1) hx hb hts uw_J4 hown hK hP 0 rfl rfl 3 (by decide) (hts _ fj_J5_79) (fun _ h => h) (v := .int (nI n)) rfl dJ5_length_8abf5_1 ?_
  exact gw_iret hx hb hr hlocks hW hS (Nat.le_of_ble_eq_true rfl) (Nat.le_of_ble_eq_true rfl) dJ5_length_8abf5_4
set_option maxHeartbeats 4000000 in
set_option maxRecDepth 100000 in
theorem metJ4_length (F : FX l s0 b D T B) : gMet l yJ4_length_8abf5 cJ4_length_8abf5 1 (some .int) rms1 [.ref sb] (eqH H0) (KS s0 X D (SBp T sb v cap row mb (nI n))) (some (.int (nI n))) (eqH H0) NF 0 0 := by
  refine gMet_of RJ4 (by decide +kernel) rfl (Nat.le_of_ble_eq_true rfl) ?_
  intro p e s m below meth c ls hx hb hr hlocks hml hown hts hnm hW hks hl hS
  obtain ⟨hk, hP⟩ := id hks
  have hC := FX_C F hk hx hb hown hts
  have hl : lv_has ls 1 [(0, .ref sb)] := hl
  refine lv_aload_n hx hb dJ4_length_8abf5_0 rfl (lv_at hl 0 rfl) ?_
  refine gw_callSU (As := []) (rest := []) (sb_class hC.2.2.2.2) hC hml hS hW (KS_na hks hS) KS_blind (metJ5_length (X := X) F) su_J4_343 (sb_recv (q0 := 0) hC.2.2.2.2 hP rfl) (fun _ h => h) ⟨rfl, rfl, (Nat.le_of_ble_eq_true rfl), (Nat.le_of_ble_eq_true rfl)⟩ rfl hl.1 rfl (Nat.le_of_ble_eq_true rfl) dJ4_length_8abf5_1 ⟨(Nat.le_of_ble_eq_true rfl), (Nat.le_of_ble_eq_true rfl)⟩ (fun H locs hW hS _ _ => ?_)
  exact gw_iret hx hb hr hlocks hW hS (Nat.le_of_ble_eq_true rfl) (Nat.le_of_ble_eq_true rfl) dJ4_length_8abf5_4
set_option maxHeartbeats 4000000 in
set_option maxRecDepth 100000 in
theorem metJ5_charAt (F : FX l s0 b D T B) {i t : Nat} (hi : i < n) (hn : n ≤ cap) (hcap : cap ≤ 65536) (ht : t < 256) (hrow : row i = sb_b t) : gMet l yJ5_charAt_5068e cJ5_charAt_5068e 5 (some .char) rms2 [.ref sb, .int (nI i)] (eqH H0) (KS s0 X D (SBp T sb v cap row mb (nI n))) (some (.int (nI t))) (eqH H0) NF 0 0 := by
  refine gMet_of RJ5 (by decide +kernel) rfl (Nat.le_of_ble_eq_true rfl) ?_
  intro p e s m below meth c ls hx hb hr hlocks hml hown hts hnm hW hks hl hS
  obtain ⟨hk, hP⟩ := id hks
  have hC := FX_C F hk hx hb hown hts
  have hK := hC.2.2.2.2
  have hl : lv_has ls 5 [(0, .ref sb), (1, .int (nI i))] := hl
  refine lv_aload_n hx hb dJ5_charAt_5068e_0 rfl (lv_at hl 0 rfl) ?_
  refine va_get (C := RJ4) (T := TJ4) (N := 4) (ci := 1) hx hb hts uw_J4 hown hK hP 0 rfl rfl 1 (by decide) (hts _ fj_J5_22) (fun _ h => h) (v := .int 0) rfl dJ5_charAt_5068e_1 ?_
  refine lv_istore_n (lv' := [(2, .int 0), (0, .ref sb), (1, .int (nI i))]) hx hb dJ5_charAt_5068e_4 rfl hl (by decide) rfl (fun ls hl => ?_)
  refine lv_aload_n hx hb dJ5_charAt_5068e_5 rfl (lv_at hl 1 rfl) ?_
  refine va_get (C := RJ4) (T := TJ4) (N := 4) (ci := 1) hx hb hts uw_J4 hown hK hP 0 rfl rfl 0 (by decide) (hts _ fj_J5_15) (fun _ h => h) (v := .ref v) rfl dJ5_charAt_5068e_6 ?_
  refine lv_astore_n (lv' := [(3, .ref v), (2, .int 0), (0, .ref sb), (1, .int (nI i))]) hx hb dJ5_charAt_5068e_9 rfl hl (by decide) rfl (fun ls hl => ?_)
  refine lv_aload_n hx hb dJ5_charAt_5068e_10 rfl (lv_at hl 2 rfl) ?_
  refine va_get (C := RJ4) (T := TJ4) (N := 4) (ci := 1) hx hb hts uw_J4 hown hK hP 0 rfl rfl 3 (by decide) (hts _ fj_J5_79) (fun _ h => h) (v := .int (nI n)) rfl dJ5_charAt_5068e_11 ?_
  refine lv_aload_n hx hb dJ5_charAt_5068e_14 rfl (lv_at hl 0 rfl) ?_
  refine va_alen hx hb hK hP 1 7 rfl rfl (v := nI cap) rfl dJ5_charAt_5068e_15 ?_
  refine lv_iload_n hx hb dJ5_charAt_5068e_16 rfl (lv_at hl 1 rfl) ?_
  refine lv_ishr hx hb dJ5_charAt_5068e_17 ?_
  rw [sb_shr0]
  refine gw_min hC (hml.trans hl.1.symm) lm_J5_138 lb_min.1 lb_min.2.1 lb_min.2.2 (Nat.le_of_ble_eq_true rfl) (Nat.le_of_ble_eq_true rfl) (Nat.le_of_ble_eq_true rfl) (Nat.le_of_ble_eq_true rfl) dJ5_charAt_5068e_18 ?_
  have e2 : imin (nI n) (nI cap) = nI n := if_neg (nI_nlt hn (by omega))
  rw [e2]
  refine lv_istore (lv' := [(4, .int (nI n)), (3, .ref v), (2, .int 0), (0, .ref sb), (1, .int (nI i))]) hx hb dJ5_charAt_5068e_21 hl (by decide) rfl (fun ls hl => ?_)
  refine lv_iload_n hx hb dJ5_charAt_5068e_23 rfl (lv_at hl 4 rfl) ?_
  refine lv_iload hx hb dJ5_charAt_5068e_24 (lv_at hl 0 rfl) ?_
  refine gw_callS (As := [.int (nI i), .int (nI n)]) (rest := []) hC hml hS (Wp := eqH s.heap) rfl (KC_gen hk (fun q (z : False) => z.elim) hS) KC_blind (metJ0_checkIndex (X := X) F hi (by omega)) ml_J5_144 (fun _ h => h) ⟨rfl, rfl, (Nat.le_of_ble_eq_true rfl), (Nat.le_of_ble_eq_true rfl)⟩ rfl hl.1 rfl (Nat.le_of_ble_eq_true rfl) dJ5_charAt_5068e_26 ⟨(Nat.le_of_ble_eq_true rfl), (Nat.le_of_ble_eq_true rfl)⟩ (fun H locs hW1 hS _ _ => ?_)
  cases hW1
  refine lv_iload_n hx hb dJ5_charAt_5068e_29 rfl (lv_at hl 2 rfl) ?_
  refine lv_if_ne (tgt := 42) hx hb dJ5_charAt_5068e_30 (by decide) (fun h => absurd rfl h) (fun _ => ?_)
  refine lv_aload_n hx hb dJ5_charAt_5068e_33 rfl (lv_at hl 1 rfl) ?_
  refine lv_iload_n hx hb dJ5_charAt_5068e_34 rfl (lv_at hl 4 rfl) ?_
  refine va_bald hx hb hK hP 1 7 rfl rfl (vp_in_nI (by omega) (by omega)) dJ5_charAt_5068e_35 ?_
  rw [nI_clamp (by omega), hrow]
  refine lv_sipush (v := 255) hx hb dJ5_charAt_5068e_36 (by decide) ?_
  refine lv_iand hx hb dJ5_charAt_5068e_39 ?_
  refine lv_i2c hx hb dJ5_charAt_5068e_40 (sb_c2 _ ht) ?_
  exact gw_zret hx hb hr (sb_nc _ ht) hlocks hW hS (Nat.le_of_ble_eq_true rfl) (Nat.le_of_ble_eq_true rfl) dJ5_charAt_5068e_41
set_option maxHeartbeats 4000000 in
set_option maxRecDepth 100000 in
theorem metJ4_charAt (F : FX l s0 b D T B) {i t : Nat} (hi : i < n) (hn : n ≤ cap) (hcap : cap ≤ 65536) (ht : t < 256) (hrow : row i = sb_b t) : gMet l yJ4_charAt_5068e cJ4_charAt_5068e 2 (some .char) rms3 [.ref sb, .int (nI i)] (eqH H0) (KS s0 X D (SBp T sb v cap row mb (nI n))) (some (.int (nI t))) (eqH H0) NF 0 0 := by
  refine gMet_of RJ4 (by decide +kernel) rfl (Nat.le_of_ble_eq_true rfl) ?_
  intro p e s m below meth c ls hx hb hr hlocks hml hown hts hnm hW hks hl hS
  obtain ⟨hk, hP⟩ := id hks
  have hC := FX_C F hk hx hb hown hts
  have hl : lv_has ls 2 [(0, .ref sb), (1, .int (nI i))] := hl
  refine lv_aload_n hx hb dJ4_charAt_5068e_0 rfl (lv_at hl 0 rfl) ?_
  refine lv_iload_n hx hb dJ4_charAt_5068e_1 rfl (lv_at hl 1 rfl) ?_
  refine gw_callSU (As := [.int (nI i)]) (rest := []) (sb_class hC.2.2.2.2) hC hml hS hW (KS_na hks hS) KS_blind (metJ5_charAt (X := X) F hi hn hcap ht hrow) su_J4_329 (sb_recv (q0 := 0) hC.2.2.2.2 hP rfl) (fun _ h => h) ⟨rfl, rfl, (Nat.le_of_ble_eq_true rfl), (Nat.le_of_ble_eq_true rfl)⟩ rfl hl.1 rfl (Nat.le_of_ble_eq_true rfl) dJ4_charAt_5068e_2 ⟨(Nat.le_of_ble_eq_true rfl), (Nat.le_of_ble_eq_true rfl)⟩ (fun H locs hW hS _ _ => ?_)
  exact gw_zret hx hb hr (sb_nc _ ht) hlocks hW hS (Nat.le_of_ble_eq_true rfl) (Nat.le_of_ble_eq_true rfl) dJ4_charAt_5068e_5
set_option maxHeartbeats 4000000 in
set_option maxRecDepth 100000 in
theorem metJ8_newLength (F : FX l s0 b D T B) {x y z : Nat} (h : x + (if y < z then z else y) ≤ 65536) (h0 : 0 < x + (if y < z then z else y)) : gMet l yJ8_newLength_cabcc cJ8_newLength_cabcc 4 (some .int) rms0 [.int (nI x), .int (nI y), .int (nI z)] (eqH H0) (KC s0 X) (some (.int (nI (x + (if y < z then z else y))))) (eqH H0) NF 0 0 := by
  refine gMet_of RJ8 (by decide +kernel) rfl (Nat.le_of_ble_eq_true rfl) ?_
  intro p e s m below meth c ls hx hb hr hlocks hml hown hts hnm hW hk hl hS
  have hC := FX_C F hk hx hb hown hts
  have hl : lv_has ls 4 [(0, .int (nI x)), (1, .int (nI y)), (2, .int (nI z))] := hl
  have hy : y ≤ 65536 ∧ z ≤ 65536 := by
    by_cases q : y < z
    · rw [if_pos q] at h; omega
    · rw [if_neg q] at h; omega
  refine lv_iload_n hx hb dJ8_newLength_cabcc_0 rfl (lv_at hl 0 rfl) ?_
  refine lv_iload_n hx hb dJ8_newLength_cabcc_1 rfl (lv_at hl 1 rfl) ?_
  refine lv_iload_n hx hb dJ8_newLength_cabcc_2 rfl (lv_at hl 2 rfl) ?_
  refine gw_max hC (hml.trans hl.1.symm) lm_J8_194 lb_max.1 lb_max.2.1 lb_max.2.2 (Nat.le_of_ble_eq_true rfl) (Nat.le_of_ble_eq_true rfl) (Nat.le_of_ble_eq_true rfl) (Nat.le_of_ble_eq_true rfl) dJ8_newLength_cabcc_3 ?_
  refine lv_iadd hx hb dJ8_newLength_cabcc_6 ?_
  have e1 : nI x + imax (nI y) (nI z) = nI (x + (if y < z then z else y)) := by
    unfold imax
    by_cases q : y < z
    · rw [if_pos (nI_lt q (by omega)), if_pos q, nI_add]
    · rw [if_neg (nI_nlt (by omega) (by omega)), if_neg q, nI_add]
  rw [e1]
  generalize hw : x + (if y < z then z else y) = w at h h0
  refine lv_istore_n (lv' := [(3, .int (nI w)), (0, .int (nI x)), (1, .int (nI y)), (2, .int (nI z))]) hx hb dJ8_newLength_cabcc_7 rfl hl (by decide) rfl (fun ls hl => ?_)
  refine lv_iconst (v := 0) hx hb dJ8_newLength_cabcc_8 (by decide) ?_
  refine lv_iload_n hx hb dJ8_newLength_cabcc_9 rfl (lv_at hl 0 rfl) ?_
  refine lv_icmp_ge (tgt := 21) hx hb dJ8_newLength_cabcc_10 (by decide) (fun h9 => absurd h9 (nI_nle h0 (by omega))) (fun _ => ?_)
  refine lv_iload_n hx hb dJ8_newLength_cabcc_13 rfl (lv_at hl 0 rfl) ?_
  refine lv_ldc (v := 2147483639) hx hb hown (hts _ kc_J8_200) dJ8_newLength_cabcc_14 ?_
  refine lv_icmp_gt (tgt := 21) hx hb dJ8_newLength_cabcc_16 (by decide) (fun h9 => absurd h9 (show ¬ nI 2147483639 < nI w from nI_nlt (by omega) (by decide))) (fun _ => ?_)
  refine lv_iload_n hx hb dJ8_newLength_cabcc_19 rfl (lv_at hl 0 rfl) ?_
  exact gw_iret hx hb hr hlocks hW hS (Nat.le_of_ble_eq_true rfl) (Nat.le_of_ble_eq_true rfl) dJ8_newLength_cabcc_20
end SB1
