theorem dJ0_length_8abf5_0 : decode cJ0_length_8abf5 0 = .ok (.aload_n 0, 1) := by decide +kernel
theorem dJ0_length_8abf5_1 : decode cJ0_length_8abf5 1 = .ok (.getfield 9, 3) := by decide +kernel
theorem dJ0_length_8abf5_4 : decode cJ0_length_8abf5 4 = .ok (.arraylength, 1) := by decide +kernel
theorem dJ0_length_8abf5_5 : decode cJ0_length_8abf5 5 = .ok (.aload_n 0, 1) := by decide +kernel
theorem dJ0_length_8abf5_6 : decode cJ0_length_8abf5 6 = .ok (.invokevirtual 335, 3) := by decide +kernel
theorem dJ0_length_8abf5_9 : decode cJ0_length_8abf5 9 = .ok (.ishr, 1) := by decide +kernel
theorem dJ0_length_8abf5_10 : decode cJ0_length_8abf5 10 = .ok (.ireturn, 1) := by decide +kernel
theorem dJ0_charAt_5068e_0 : decode cJ0_charAt_5068e 0 = .ok (.aload_n 0, 1) := by decide +kernel
theorem dJ0_charAt_5068e_1 : decode cJ0_charAt_5068e 1 = .ok (.invokevirtual 492, 3) := by decide +kernel
theorem dJ0_charAt_5068e_4 : decode cJ0_charAt_5068e 4 = .ok (.ifCond .eq 12, 3) := by decide +kernel
theorem dJ0_charAt_5068e_7 : decode cJ0_charAt_5068e 7 = .ok (.aload_n 0, 1) := by decide +kernel
theorem dJ0_charAt_5068e_8 : decode cJ0_charAt_5068e 8 = .ok (.getfield 9, 3) := by decide +kernel
theorem dJ0_charAt_5068e_11 : decode cJ0_charAt_5068e 11 = .ok (.iload_n 1, 1) := by decide +kernel
theorem dJ0_charAt_5068e_12 : decode cJ0_charAt_5068e 12 = .ok (.invokestatic 495, 3) := by decide +kernel
theorem dJ0_charAt_5068e_15 : decode cJ0_charAt_5068e 15 = .ok (.ireturn, 1) := by decide +kernel
theorem dJ0_charAt_5068e_16 : decode cJ0_charAt_5068e 16 = .ok (.aload_n 0, 1) := by decide +kernel
theorem dJ0_charAt_5068e_17 : decode cJ0_charAt_5068e 17 = .ok (.getfield 9, 3) := by decide +kernel
theorem dJ0_charAt_5068e_20 : decode cJ0_charAt_5068e 20 = .ok (.iload_n 1, 1) := by decide +kernel
theorem dJ0_charAt_5068e_21 : decode cJ0_charAt_5068e 21 = .ok (.invokestatic 498, 3) := by decide +kernel
theorem dJ0_charAt_5068e_24 : decode cJ0_charAt_5068e 24 = .ok (.ireturn, 1) := by decide +kernel
theorem dJ0_isLatin1_aae02_0 : decode cJ0_isLatin1_aae02 0 = .ok (.getstatic 38, 3) := by decide +kernel
theorem dJ0_isLatin1_aae02_3 : decode cJ0_isLatin1_aae02 3 = .ok (.ifCond .eq 14, 3) := by decide +kernel
theorem dJ0_isLatin1_aae02_6 : decode cJ0_isLatin1_aae02 6 = .ok (.aload_n 0, 1) := by decide +kernel
theorem dJ0_isLatin1_aae02_7 : decode cJ0_isLatin1_aae02 7 = .ok (.getfield 15, 3) := by decide +kernel
theorem dJ0_isLatin1_aae02_10 : decode cJ0_isLatin1_aae02 10 = .ok (.ifCond .ne 7, 3) := by decide +kernel
theorem dJ0_isLatin1_aae02_13 : decode cJ0_isLatin1_aae02 13 = .ok (.iconst 1, 1) := by decide +kernel
theorem dJ0_isLatin1_aae02_14 : decode cJ0_isLatin1_aae02 14 = .ok (.goto 4, 3) := by decide +kernel
theorem dJ0_isLatin1_aae02_17 : decode cJ0_isLatin1_aae02 17 = .ok (.iconst 0, 1) := by decide +kernel
theorem dJ0_isLatin1_aae02_18 : decode cJ0_isLatin1_aae02 18 = .ok (.ireturn, 1) := by decide +kernel
theorem dJ0_coder_7d493_0 : decode cJ0_coder_7d493 0 = .ok (.getstatic 38, 3) := by decide +kernel
theorem dJ0_coder_7d493_3 : decode cJ0_coder_7d493 3 = .ok (.ifCond .eq 10, 3) := by decide +kernel
theorem dJ0_coder_7d493_6 : decode cJ0_coder_7d493 6 = .ok (.aload_n 0, 1) := by decide +kernel
theorem dJ0_coder_7d493_7 : decode cJ0_coder_7d493 7 = .ok (.getfield 15, 3) := by decide +kernel
theorem dJ0_coder_7d493_10 : decode cJ0_coder_7d493 10 = .ok (.goto 4, 3) := by decide +kernel
theorem dJ0_coder_7d493_13 : decode cJ0_coder_7d493 13 = .ok (.iconst 1, 1) := by decide +kernel
theorem dJ0_coder_7d493_14 : decode cJ0_coder_7d493 14 = .ok (.ireturn, 1) := by decide +kernel
theorem dJ1_charAt_3b067_0 : decode cJ1_charAt_3b067 0 = .ok (.iload_n 1, 1) := by decide +kernel
theorem dJ1_charAt_3b067_1 : decode cJ1_charAt_3b067 1 = .ok (.aload_n 0, 1) := by decide +kernel
theorem dJ1_charAt_3b067_2 : decode cJ1_charAt_3b067 2 = .ok (.arraylength, 1) := by decide +kernel
theorem dJ1_charAt_3b067_3 : decode cJ1_charAt_3b067 3 = .ok (.invokestatic 9, 3) := by decide +kernel
theorem dJ1_charAt_3b067_6 : decode cJ1_charAt_3b067 6 = .ok (.aload_n 0, 1) := by decide +kernel
theorem dJ1_charAt_3b067_7 : decode cJ1_charAt_3b067 7 = .ok (.iload_n 1, 1) := by decide +kernel
theorem dJ1_charAt_3b067_8 : decode cJ1_charAt_3b067 8 = .ok (.baload, 1) := by decide +kernel
theorem dJ1_charAt_3b067_9 : decode cJ1_charAt_3b067 9 = .ok (.sipush 255, 3) := by decide +kernel
theorem dJ1_charAt_3b067_12 : decode cJ1_charAt_3b067 12 = .ok (.iand, 1) := by decide +kernel
theorem dJ1_charAt_3b067_13 : decode cJ1_charAt_3b067 13 = .ok (.i2c, 1) := by decide +kernel
theorem dJ1_charAt_3b067_14 : decode cJ1_charAt_3b067 14 = .ok (.ireturn, 1) := by decide +kernel
theorem dJ0_checkIndex_df160_0 : decode cJ0_checkIndex_df160 0 = .ok (.iload_n 0, 1) := by decide +kernel
theorem dJ0_checkIndex_df160_1 : decode cJ0_checkIndex_df160 1 = .ok (.iload_n 1, 1) := by decide +kernel
theorem dJ0_checkIndex_df160_2 : decode cJ0_checkIndex_df160 2 = .ok (.getstatic 1053, 3) := by decide +kernel
theorem dJ0_checkIndex_df160_5 : decode cJ0_checkIndex_df160 5 = .ok (.invokestatic 1059, 3) := by decide +kernel
theorem dJ0_checkIndex_df160_8 : decode cJ0_checkIndex_df160 8 = .ok (.pop, 1) := by decide +kernel
theorem dJ0_checkIndex_df160_9 : decode cJ0_checkIndex_df160 9 = .ok (.return_, 1) := by decide +kernel
theorem dJ3_checkIndex_8e157_0 : decode cJ3_checkIndex_8e157 0 = .ok (.iload_n 0, 1) := by decide +kernel
theorem dJ3_checkIndex_8e157_1 : decode cJ3_checkIndex_8e157 1 = .ok (.ifCond .lt 8, 3) := by decide +kernel
theorem dJ3_checkIndex_8e157_4 : decode cJ3_checkIndex_8e157 4 = .ok (.iload_n 0, 1) := by decide +kernel
theorem dJ3_checkIndex_8e157_5 : decode cJ3_checkIndex_8e157 5 = .ok (.iload_n 1, 1) := by decide +kernel
theorem dJ3_checkIndex_8e157_6 : decode cJ3_checkIndex_8e157 6 = .ok (.if_icmp .lt 10, 3) := by decide +kernel
theorem dJ3_checkIndex_8e157_9 : decode cJ3_checkIndex_8e157 9 = .ok (.aload_n 2, 1) := by decide +kernel
theorem dJ3_checkIndex_8e157_10 : decode cJ3_checkIndex_8e157 10 = .ok (.iload_n 0, 1) := by decide +kernel
theorem dJ3_checkIndex_8e157_11 : decode cJ3_checkIndex_8e157 11 = .ok (.iload_n 1, 1) := by decide +kernel
theorem dJ3_checkIndex_8e157_12 : decode cJ3_checkIndex_8e157 12 = .ok (.invokestatic 95, 3) := by decide +kernel
theorem dJ3_checkIndex_8e157_15 : decode cJ3_checkIndex_8e157 15 = .ok (.athrow, 1) := by decide +kernel
theorem dJ3_checkIndex_8e157_16 : decode cJ3_checkIndex_8e157 16 = .ok (.iload_n 0, 1) := by decide +kernel
theorem dJ3_checkIndex_8e157_17 : decode cJ3_checkIndex_8e157 17 = .ok (.ireturn, 1) := by decide +kernel
theorem fj_J0_9 : Cond.fieldLink RJ0 9 "java/lang/String" "value" "[B" ∈ WG := wg_t 1436 (by decide +kernel) (by decide +kernel)
theorem fj_J0_15 : Cond.fieldLink RJ0 15 "java/lang/String" "coder" "B" ∈ WG := wg_t 1437 (by decide +kernel) (by decide +kernel)
theorem fj_J0_38 : Cond.fieldLink RJ0 38 "java/lang/String" "COMPACT_STRINGS" "Z" ∈ WG := wg_t 1319 (by decide +kernel) (by decide +kernel)
theorem fj_J0_1053 : Cond.fieldLink RJ0 1053 "jdk/internal/util/Preconditions" "SIOOBE_FORMATTER" "Ljava/util/function/BiFunction;" ∈ WG := wg_t 1297 (by decide +kernel) (by decide +kernel)
theorem ml_J0_335 : gMV RJ0 335 yJ0_coder_7d493 cJ0_coder_7d493 1 (some .byte) 0 := ⟨⟨wg_t 1315 (by decide +kernel) (by decide +kernel), wg_t 1318 (by decide +kernel) (by decide +kernel), wg_t 11 (by decide +kernel) (by decide +kernel), by decide +kernel⟩, wg_t 1316 (by decide +kernel) (by decide +kernel), wg_t 1317 (by decide +kernel) (by decide +kernel)⟩
theorem ml_J0_492 : gMV RJ0 492 yJ0_isLatin1_aae02 cJ0_isLatin1_aae02 1 (some .boolean) 0 := ⟨⟨wg_t 1552 (by decide +kernel) (by decide +kernel), wg_t 1555 (by decide +kernel) (by decide +kernel), wg_t 11 (by decide +kernel) (by decide +kernel), by decide +kernel⟩, wg_t 1553 (by decide +kernel) (by decide +kernel), wg_t 1554 (by decide +kernel) (by decide +kernel)⟩
theorem ml_J0_495 : gMS RJ0 495 yJ1_charAt_3b067 cJ1_charAt_3b067 2 (some .char) 2 := ⟨⟨wg_t 1556 (by decide +kernel) (by decide +kernel), wg_t 1558 (by decide +kernel) (by decide +kernel), wg_t 32 (by decide +kernel) (by decide +kernel), by decide +kernel⟩, wg_t 1557 (by decide +kernel) (by decide +kernel)⟩
theorem ml_J1_9 : gMS RJ1 9 yJ0_checkIndex_df160 cJ0_checkIndex_df160 2 none 2 := ⟨⟨wg_t 1559 (by decide +kernel) (by decide +kernel), wg_t 1520 (by decide +kernel) (by decide +kernel), wg_t 11 (by decide +kernel) (by decide +kernel), by decide +kernel⟩, wg_t 1519 (by decide +kernel) (by decide +kernel)⟩
theorem ml_J0_1059 : gMS RJ0 1059 yJ3_checkIndex_8e157 cJ3_checkIndex_8e157 3 (some .int) 3 := ⟨⟨wg_t 1521 (by decide +kernel) (by decide +kernel), wg_t 1523 (by decide +kernel) (by decide +kernel), wg_t 31 (by decide +kernel) (by decide +kernel), by decide +kernel⟩, wg_t 1522 (by decide +kernel) (by decide +kernel)⟩
/-! Strings of Latin-1 letters, old or new: what is read of them. -/
abbrev NF : Nat → Prop := fun _ => False
def SV (a n : Nat) (t : Nat → Nat) (U : State) (H : Heap) : Prop := n < 2 ^ 31 ∧ (∀ j, j < n → t j < 256) ∧ ∃ v, va_O "java/lang/String" a NF U H ∧ va_OF "java/lang/String" "coder" "B" (.int 0) a NF U H ∧ va_OF "java/lang/String" "value" "[B" (.ref v) a NF U H ∧ va_T .byte v n (fun j => .int (sb_b (t j))) NF U H
theorem SV.moved {a n : Nat} {t : Nat → Nat} {u U : State} {H : Heap} (hvm : u.vm.Alike U.vm) (h : SV a n t u H) : SV a n t U H := by
  obtain ⟨h0, h1, v, h2, h3, h4, h5⟩ := h
  exact ⟨h0, h1, v, va_O.moved hvm h2, va_OF.moved hvm h3, va_OF.moved hvm h4, va_T.moved hvm h5⟩
def KV (s0 : State) (X : Nat → Prop) (a n : Nat) (t : Nat → Nat) (U : State) : Prop := KC s0 X U ∧ SV a n t U U.heap
theorem KV_blind {s0 : State} {X : Nat → Prop} {a n : Nat} {t : Nat → Nat} : gBlind (KV s0 X a n t) := fun U g mk ar h => h
theorem KV_at {s0 s : State} {X : Nat → Prop} {B : Nat} {H : Heap} {locs : List Loc} {a n : Nat} {t : Nat → Nat} (hk : KC s0 X s) (hS : va_S (gA B X) s.heap H locs) (hB : s0.heap.size ≤ B) (hV : SV a n t s H) : ∀ U : State, U.heap = H → s.WarmedH U.vm → KV s0 X a n t U := fun U hU hW => ⟨KC_at hk hS hB U hU hW, by rw [hU]; exact hV.moved hW.alike⟩
theorem vS_w {A A2 : Nat → Prop} {Ha H : Heap} {locs : List Loc} (h : va_S A Ha H locs) (hA : ∀ q, A q → A2 q) : va_S A2 Ha H locs := ⟨h.1, fun q h1 h2 => h.2.1 q h1 (fun z => h2 (hA q z)), fun q hq => hA _ (h.2.2 q hq)⟩
theorem vS_n {B : Nat} {X : Nat → Prop} {Ha H : Heap} {locs : List Loc} (h : va_S NF Ha H locs) : va_S (gA B X) Ha H locs := vS_w h (fun q z => z.elim)
abbrev rms0 : Room := { frames := 2, cells := 0, slots := 0, locals := 60 }
abbrev rms1 : Room := { frames := 3, cells := 0, slots := 0, locals := 85 }
abbrev rms2 : Room := { frames := 4, cells := 0, slots := 0, locals := 110 }
abbrev rms3 : Room := { frames := 5, cells := 0, slots := 0, locals := 135 }
abbrev rms4 : Room := { frames := 6, cells := 0, slots := 0, locals := 160 }
abbrev eqH (H0 : Heap) : Heap → Prop := fun H => H = H0
section SVM
variable {l : Launch} {s0 : State} {b B : Nat} {D : va_G} {T : Nat → ClassId} {X : Nat → Prop} {H0 : Heap} {a n : Nat} {t : Nat → Nat}
theorem zCS {s : State} (F : FX l s0 b D T B) (hk : KC s0 X s) : va_Z "java/lang/String" "COMPACT_STRINGS" "Z" (.int 1) NF s s.heap := va_Z.narrow (A := gA B X) (KC_Z F hk (va_Zof (args := #[.ref b]) (F.2.1 _ (List.mem_append_right _ (List.mem_of_getElem? (i := 284) (by decide +kernel)))) (F.2.1 _ (List.mem_append_right _ (List.mem_of_getElem? (i := 11) (by decide +kernel)))) (va_eqi (FX_narrow F (by decide +kernel))) (fun a ha => Nat.not_le.mpr ha))) (fun q z => z.elim)
set_option maxHeartbeats 4000000 in
set_option maxRecDepth 100000 in
theorem metJ0_coder (F : FX l s0 b D T B) : gMet l yJ0_coder_7d493 cJ0_coder_7d493 1 (some .byte) rms0 [.ref a] (eqH H0) (KV s0 X a n t) (some (.int 0)) (eqH H0) NF 0 0 := by
  refine gMet_of RJ0 (by decide +kernel) rfl (Nat.le_of_ble_eq_true rfl) ?_
  intro p e s m below meth c ls hx hb hr hlocks hml hown hts hnm hW hk hl hS
  obtain ⟨hk, -, -, v, hO, hC0, hV, hT⟩ := hk
  have hl : lv_has ls 1 [(0, .ref a)] := hl
  have hS0 := hS
  refine va_gets hx hb (zCS F hk) hS hown (hts _ fj_J0_38) (fun _ h => h) dJ0_coder_7d493_0 ?_
  refine lv_if_eq (tgt := 13) hx hb dJ0_coder_7d493_3 (by decide) (fun h => absurd h (by decide)) (fun _ => ?_)
  refine lv_aload_n hx hb dJ0_coder_7d493_6 rfl (lv_at hl 0 rfl) ?_
  refine vk_getf hx hb hC0 hS0 hown (hts _ fj_J0_15) (fun _ h => h) dJ0_coder_7d493_7 ?_
  refine lv_goto (tgt := 14) hx hb dJ0_coder_7d493_10 (by decide) ?_
  exact gw_zret hx hb hr rfl hlocks hW hS (Nat.le_of_ble_eq_true rfl) (Nat.le_of_ble_eq_true rfl) dJ0_coder_7d493_14
set_option maxHeartbeats 4000000 in
set_option maxRecDepth 100000 in
theorem metJ0_isLatin1 (F : FX l s0 b D T B) : gMet l yJ0_isLatin1_aae02 cJ0_isLatin1_aae02 1 (some .boolean) rms0 [.ref a] (eqH H0) (KV s0 X a n t) (some (.int 1)) (eqH H0) NF 0 0 := by
  refine gMet_of RJ0 (by decide +kernel) rfl (Nat.le_of_ble_eq_true rfl) ?_
  intro p e s m below meth c ls hx hb hr hlocks hml hown hts hnm hW hk hl hS
  obtain ⟨hk, -, -, v, hO, hC0, hV, hT⟩ := hk
  have hl : lv_has ls 1 [(0, .ref a)] := hl
  have hS0 := hS
  refine va_gets hx hb (zCS F hk) hS hown (hts _ fj_J0_38) (fun _ h => h) dJ0_isLatin1_aae02_0 ?_
  refine lv_if_eq (tgt := 17) hx hb dJ0_isLatin1_aae02_3 (by decide) (fun h => absurd h (by decide)) (fun _ => ?_)
  refine lv_aload_n hx hb dJ0_isLatin1_aae02_6 rfl (lv_at hl 0 rfl) ?_
  refine vk_getf hx hb hC0 hS0 hown (hts _ fj_J0_15) (fun _ h => h) dJ0_isLatin1_aae02_7 ?_
  refine lv_if_ne (tgt := 17) hx hb dJ0_isLatin1_aae02_10 (by decide) (fun h => absurd rfl h) (fun _ => ?_)
  refine lv_iconst (v := 1) hx hb dJ0_isLatin1_aae02_13 (by decide) ?_
  refine lv_goto (tgt := 18) hx hb dJ0_isLatin1_aae02_14 (by decide) ?_
  exact gw_zret hx hb hr rfl hlocks hW hS (Nat.le_of_ble_eq_true rfl) (Nat.le_of_ble_eq_true rfl) dJ0_isLatin1_aae02_18
set_option maxHeartbeats 4000000 in
set_option maxRecDepth 100000 in
theorem metJ0_length (F : FX l s0 b D T B) : gMet l yJ0_length_8abf5 cJ0_length_8abf5 1 (some .int) rms1 [.ref a] (eqH H0) (KV s0 X a n t) (some (.int (nI n))) (eqH H0) NF 0 0 := by
  refine gMet_of RJ0 (by decide +kernel) rfl (Nat.le_of_ble_eq_true rfl) ?_
  intro p e s m below meth c ls hx hb hr hlocks hml hown hts hnm hW hkv hl hS
  obtain ⟨hk, hn, -, v, hO, hC0, hV, hT⟩ := id hkv
  have hl : lv_has ls 1 [(0, .ref a)] := hl
  have hS0 := hS
  have hC := FX_C F hk hx hb hown hts
  refine lv_aload_n hx hb dJ0_length_8abf5_0 rfl (lv_at hl 0 rfl) ?_
  refine vk_getf hx hb hV hS0 hown (hts _ fj_J0_9) (fun _ h => h) dJ0_length_8abf5_1 ?_
  refine va_tlen hx hb hT hS0 (v := nI n) rfl dJ0_length_8abf5_4 ?_
  refine lv_aload_n hx hb dJ0_length_8abf5_5 rfl (lv_at hl 0 rfl) ?_
  refine gw_callV (As := []) (rest := [.int (nI n)]) hC hml hS hW (KV_at hk (vS_n hS) F.2.2.2.2 hkv.2) KV_blind (metJ0_coder (X := X) F) ml_J0_335 (by obtain ⟨cell, h1, h2, h3, -⟩ := hO; exact ⟨cell, h1, h2, h3⟩) (fun _ h => h) ⟨rfl, rfl, (Nat.le_of_ble_eq_true rfl), (Nat.le_of_ble_eq_true rfl)⟩ rfl hl.1 rfl (Nat.le_of_ble_eq_true rfl) dJ0_length_8abf5_6 ⟨(Nat.le_of_ble_eq_true rfl), (Nat.le_of_ble_eq_true rfl)⟩ (fun H locs hW hS _ _ => ?_)
  refine lv_ishr hx hb dJ0_length_8abf5_9 ?_
  have e0 : nI n >>> ((0 : Int32) &&& 31) = nI n := sb_shr0 _
  rw [e0]
  exact gw_iret hx hb hr hlocks hW hS (Nat.le_of_ble_eq_true rfl) (Nat.le_of_ble_eq_true rfl) dJ0_length_8abf5_10
theorem zSI {s : State} (F : FX l s0 b D T B) (hk : KC s0 X s) : ∃ z : Value, (z = .null ∨ ∃ q, z = .ref q) ∧ va_Z "jdk/internal/util/Preconditions" "SIOOBE_FORMATTER" "Ljava/util/function/BiFunction;" z NF s s.heap := by
  rcases (KC_Zq (C := "jdk/internal/util/Preconditions") (n := "SIOOBE_FORMATTER") (d := "Ljava/util/function/BiFunction;") (X := X) F hk (List.mem_append_right _ (List.mem_of_getElem? (i := 1298) (by decide +kernel))) (List.mem_append_right _ (List.mem_of_getElem? (i := 31) (by decide +kernel))) (by decide +kernel)).1 with h | ⟨q, h⟩
  · exact ⟨_, Or.inl rfl, h.narrow (fun q z => z.elim)⟩
  · exact ⟨_, Or.inr ⟨q, rfl⟩, h.narrow (fun q z => z.elim)⟩
set_option maxHeartbeats 4000000 in
set_option maxRecDepth 100000 in
theorem metJ3_checkIndex (F : FX l s0 b D T B) {i : Nat} {z : Value} (hz : z = .null ∨ ∃ q, z = .ref q) (hi : i < n) (hn : n < 2 ^ 31) : gMet l yJ3_checkIndex_8e157 cJ3_checkIndex_8e157 3 (some .int) rms0 [.int (nI i), .int (nI n), z] (eqH H0) (KC s0 X) (some (.int (nI i))) (eqH H0) NF 0 0 := by
  have hz1 : z.category = 1 := by rcases hz with rfl | ⟨q, rfl⟩ <;> rfl
  refine gMet_of RJ3 (by decide +kernel) rfl (by rcases hz with rfl | ⟨q, rfl⟩ <;> exact (Nat.le_of_ble_eq_true rfl)) ?_
  intro p e s m below meth c ls hx hb hr hlocks hml hown hts hnm hW hk hl hS
  have hl : lv_has ls 3 [(0, .int (nI i)), (1, .int (nI n))] := lv_sub hl [0, 1] rfl
  refine lv_iload_n hx hb dJ3_checkIndex_8e157_0 rfl (lv_at hl 0 rfl) ?_
  refine lv_if_lt (tgt := 9) hx hb dJ3_checkIndex_8e157_1 (by decide) (fun h => absurd h (nI_pos (by omega))) (fun _ => ?_)
  refine lv_iload_n hx hb dJ3_checkIndex_8e157_4 rfl (lv_at hl 0 rfl) ?_
  refine lv_iload_n hx hb dJ3_checkIndex_8e157_5 rfl (lv_at hl 1 rfl) ?_
  refine lv_icmp_lt (tgt := 16) hx hb dJ3_checkIndex_8e157_6 (by decide) (fun _ => ?_) (fun h => absurd (nI_lt hi hn) h)
  refine lv_iload_n hx hb dJ3_checkIndex_8e157_16 rfl (lv_at hl 0 rfl) ?_
  exact gw_iret hx hb hr hlocks hW hS (Nat.le_of_ble_eq_true rfl) (Nat.le_of_ble_eq_true rfl) dJ3_checkIndex_8e157_17
set_option maxHeartbeats 4000000 in
set_option maxRecDepth 100000 in
theorem metJ0_checkIndex (F : FX l s0 b D T B) {i : Nat} (hi : i < n) (hn : n < 2 ^ 31) : gMet l yJ0_checkIndex_df160 cJ0_checkIndex_df160 2 none rms1 [.int (nI i), .int (nI n)] (eqH H0) (KC s0 X) none (eqH H0) NF 0 0 := by
  refine gMet_of RJ0 (by decide +kernel) rfl (Nat.le_of_ble_eq_true rfl) ?_
  intro p e s m below meth c ls hx hb hr hlocks hml hown hts hnm hW hk hl hS
  have hl : lv_has ls 2 [(0, .int (nI i)), (1, .int (nI n))] := hl
  have hC := FX_C F hk hx hb hown hts
  obtain ⟨z, hz, hZ⟩ := zSI F hk
  refine lv_iload_n hx hb dJ0_checkIndex_df160_0 rfl (lv_at hl 0 rfl) ?_
  refine lv_iload_n hx hb dJ0_checkIndex_df160_1 rfl (lv_at hl 1 rfl) ?_
  refine va_gets hx hb hZ hS hown (hts _ fj_J0_1053) (fun _ h => h) dJ0_checkIndex_df160_2 ?_
  refine gw_callS (As := [.int (nI i), .int (nI n), z]) (rest := []) hC hml hS hW (KC_at (X := X) hk (vS_n hS) F.2.2.2.2) KC_blind (metJ3_checkIndex (X := X) F hz hi hn) ml_J0_1059 (fun _ h => h) ⟨rfl, rfl, (Nat.le_of_ble_eq_true rfl), (Nat.le_of_ble_eq_true rfl)⟩ rfl hl.1 rfl (Nat.le_of_ble_eq_true rfl) dJ0_checkIndex_df160_5 ⟨(Nat.le_of_ble_eq_true rfl), (Nat.le_of_ble_eq_true rfl)⟩ (fun H locs hW hS _ _ => ?_)
  refine lv_pop hx hb dJ0_checkIndex_df160_8 rfl ?_
  exact gw_vret hx hb hr hlocks hW hS (Nat.le_of_ble_eq_true rfl) (Nat.le_of_ble_eq_true rfl) dJ0_checkIndex_df160_9
theorem sb_c2 : ∀ c, c < 256 → (((sb_b c) &&& 255).toUInt32 % 65536).toInt32 = nI c := by decide +kernel
theorem sb_nc : ∀ c, c < 256 → narrow .char (.int (nI c)) = .int (nI c) := by decide +kernel
set_option maxHeartbeats 4000000 in
set_option maxRecDepth 100000 in
theorem metJ1_charAt (F : FX l s0 b D T B) {i v : Nat} (hi : i < n) (hn : n < 2 ^ 31) (hc : t i < 256) : gMet l yJ1_charAt_3b067 cJ1_charAt_3b067 2 (some .char) rms2 [.ref v, .int (nI i)] (eqH H0) (fun U => KC s0 X U ∧ va_T .byte v n (fun j => .int (sb_b (t j))) NF U U.heap) (some (.int (nI (t i)))) (eqH H0) NF 0 0 := by
  refine gMet_of RJ1 (by decide +kernel) rfl (Nat.le_of_ble_eq_true rfl) ?_
  intro p e s m below meth c ls hx hb hr hlocks hml hown hts hnm hW hk hl hS
  obtain ⟨hk, hT⟩ := hk
  have hl : lv_has ls 2 [(0, .ref v), (1, .int (nI i))] := hl
  have hC := FX_C F hk hx hb hown hts
  have hS0 := hS
  refine lv_iload_n hx hb dJ1_charAt_3b067_0 rfl (lv_at hl 1 rfl) ?_
  refine lv_aload_n hx hb dJ1_charAt_3b067_1 rfl (lv_at hl 0 rfl) ?_
  refine va_tlen hx hb hT hS0 (v := nI n) rfl dJ1_charAt_3b067_2 ?_
  refine gw_callS (As := [.int (nI i), .int (nI n)]) (rest := []) hC hml hS hW (KC_at (X := X) hk (vS_n hS) F.2.2.2.2) KC_blind (metJ0_checkIndex (X := X) F hi hn) ml_J1_9 (fun _ h => h) ⟨rfl, rfl, (Nat.le_of_ble_eq_true rfl), (Nat.le_of_ble_eq_true rfl)⟩ rfl hl.1 rfl (Nat.le_of_ble_eq_true rfl) dJ1_charAt_3b067_3 ⟨(Nat.le_of_ble_eq_true rfl), (Nat.le_of_ble_eq_true rfl)⟩ (fun H locs hW1 hS _ _ => ?_)
  obtain rfl : H = s.heap := hW1.trans hW.symm
  have hS1 := hS
  refine lv_aload_n hx hb dJ1_charAt_3b067_6 rfl (lv_at hl 0 rfl) ?_
  refine lv_iload_n hx hb dJ1_charAt_3b067_7 rfl (lv_at hl 1 rfl) ?_
  refine va_tb hx hb hT hS1 (vp_in_nI hi hn) (v := .int (sb_b (t i))) (by rw [nI_clamp (by omega)]) dJ1_charAt_3b067_8 ?_
  refine lv_sipush (v := 255) hx hb dJ1_charAt_3b067_9 (by decide) ?_
  refine lv_iand hx hb dJ1_charAt_3b067_12 ?_
  refine lv_i2c hx hb dJ1_charAt_3b067_13 (sb_c2 _ hc) ?_
  exact gw_zret hx hb hr (sb_nc _ hc) hlocks hW1 hS (Nat.le_of_ble_eq_true rfl) (Nat.le_of_ble_eq_true rfl) dJ1_charAt_3b067_14
set_option maxHeartbeats 4000000 in
set_option maxRecDepth 100000 in
theorem metJ0_charAt (F : FX l s0 b D T B) {i : Nat} (hi : i < n) : gMet l yJ0_charAt_5068e cJ0_charAt_5068e 2 (some .char) rms3 [.ref a, .int (nI i)] (eqH H0) (KV s0 X a n t) (some (.int (nI (t i)))) (eqH H0) NF 0 0 := by
  refine gMet_of RJ0 (by decide +kernel) rfl (Nat.le_of_ble_eq_true rfl) ?_
  intro p e s m below meth c ls hx hb hr hlocks hml hown hts hnm hW hkv hl hS
  obtain ⟨hk, hn, ht, v, hO, hC0, hV, hT⟩ := id hkv
  have hl : lv_has ls 2 [(0, .ref a), (1, .int (nI i))] := hl
  have hC := FX_C F hk hx hb hown hts
  refine lv_aload_n hx hb dJ0_charAt_5068e_0 rfl (lv_at hl 0 rfl) ?_
  refine gw_callV (As := []) (rest := []) hC hml hS hW (KV_at hk (vS_n hS) F.2.2.2.2 hkv.2) KV_blind (metJ0_isLatin1 (X := X) F) ml_J0_492 (by obtain ⟨cell, h1, h2, h3, -⟩ := hO; exact ⟨cell, h1, h2, h3⟩) (fun _ h => h) ⟨rfl, rfl, (Nat.le_of_ble_eq_true rfl), (Nat.le_of_ble_eq_true rfl)⟩ rfl hl.1 rfl (Nat.le_of_ble_eq_true rfl) dJ0_charAt_5068e_1 ⟨(Nat.le_of_ble_eq_true rfl), (Nat.le_of_ble_eq_true rfl)⟩ (fun H locs hW1 hS _ _ => ?_)
  obtain rfl : H = s.heap := hW1.trans hW.symm
  have hS1 := hS
  refine lv_if_eq (tgt := 16) hx hb dJ0_charAt_5068e_4 (by decide) (fun h => absurd h (by decide)) (fun _ => ?_)
  refine lv_aload_n hx hb dJ0_charAt_5068e_7 rfl (lv_at hl 0 rfl) ?_
  refine vk_getf hx hb hV hS1 hown (hts _ fj_J0_9) (fun _ h => h) dJ0_charAt_5068e_8 ?_
  refine lv_iload_n hx hb dJ0_charAt_5068e_11 rfl (lv_at hl 1 rfl) ?_
  refine gw_callS (As := [.ref v, .int (nI i)]) (rest := []) hC hml hS hW1 (fun U hU hWm => ⟨KC_at (X := X) hk (vS_n hS) F.2.2.2.2 U hU hWm, by rw [hU]; exact va_T.moved hWm.alike hT⟩) (fun U g mk ar h => h) (metJ1_charAt (X := X) F hi hn (ht i hi)) ml_J0_495 (fun _ h => h) ⟨rfl, rfl, (Nat.le_of_ble_eq_true rfl), (Nat.le_of_ble_eq_true rfl)⟩ rfl hl.1 rfl (Nat.le_of_ble_eq_true rfl) dJ0_charAt_5068e_12 ⟨(Nat.le_of_ble_eq_true rfl), (Nat.le_of_ble_eq_true rfl)⟩ (fun H locs hW2 hS _ _ => ?_)
  exact gw_zret hx hb hr (sb_nc _ (ht i hi)) hlocks hW2 hS (Nat.le_of_ble_eq_true rfl) (Nat.le_of_ble_eq_true rfl) dJ0_charAt_5068e_15
end SVM
