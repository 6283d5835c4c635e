/-! The text builder grows. -/
theorem dJ5_ensureCapacityInternal_d00df_0 : decode cJ5_ensureCapacityInternal_d00df 0 = .ok (.aload_n 0, 1) := by decide +kernel
theorem dJ5_ensureCapacityInternal_d00df_1 : decode cJ5_ensureCapacityInternal_d00df 1 = .ok (.getfield 15, 3) := by decide +kernel
theorem dJ5_ensureCapacityInternal_d00df_4 : decode cJ5_ensureCapacityInternal_d00df 4 = .ok (.arraylength, 1) := by decide +kernel
theorem dJ5_ensureCapacityInternal_d00df_5 : decode cJ5_ensureCapacityInternal_d00df 5 = .ok (.aload_n 0, 1) := by decide +kernel
theorem dJ5_ensureCapacityInternal_d00df_6 : decode cJ5_ensureCapacityInternal_d00df 6 = .ok (.getfield 22, 3) := by decide +kernel
theorem dJ5_ensureCapacityInternal_d00df_9 : decode cJ5_ensureCapacityInternal_d00df 9 = .ok (.ishr, 1) := by decide +kernel
theorem dJ5_ensureCapacityInternal_d00df_10 : decode cJ5_ensureCapacityInternal_d00df 10 = .ok (.istore_n 2, 1) := by decide +kernel
theorem dJ5_ensureCapacityInternal_d00df_11 : decode cJ5_ensureCapacityInternal_d00df 11 = .ok (.iload_n 1, 1) := by decide +kernel
theorem dJ5_ensureCapacityInternal_d00df_12 : decode cJ5_ensureCapacityInternal_d00df 12 = .ok (.iload_n 2, 1) := by decide +kernel
theorem dJ5_ensureCapacityInternal_d00df_13 : decode cJ5_ensureCapacityInternal_d00df 13 = .ok (.isub, 1) := by decide +kernel
theorem dJ5_ensureCapacityInternal_d00df_14 : decode cJ5_ensureCapacityInternal_d00df 14 = .ok (.ifCond .le 24, 3) := by decide +kernel
theorem dJ5_ensureCapacityInternal_d00df_17 : decode cJ5_ensureCapacityInternal_d00df 17 = .ok (.aload_n 0, 1) := by decide +kernel
theorem dJ5_ensureCapacityInternal_d00df_18 : decode cJ5_ensureCapacityInternal_d00df 18 = .ok (.aload_n 0, 1) := by decide +kernel
theorem dJ5_ensureCapacityInternal_d00df_19 : decode cJ5_ensureCapacityInternal_d00df 19 = .ok (.getfield 15, 3) := by decide +kernel
theorem dJ5_ensureCapacityInternal_d00df_22 : decode cJ5_ensureCapacityInternal_d00df 22 = .ok (.aload_n 0, 1) := by decide +kernel
theorem dJ5_ensureCapacityInternal_d00df_23 : decode cJ5_ensureCapacityInternal_d00df 23 = .ok (.iload_n 1, 1) := by decide +kernel
theorem dJ5_ensureCapacityInternal_d00df_24 : decode cJ5_ensureCapacityInternal_d00df 24 = .ok (.invokevirtual 104, 3) := by decide +kernel
theorem dJ5_ensureCapacityInternal_d00df_27 : decode cJ5_ensureCapacityInternal_d00df 27 = .ok (.aload_n 0, 1) := by decide +kernel
theorem dJ5_ensureCapacityInternal_d00df_28 : decode cJ5_ensureCapacityInternal_d00df 28 = .ok (.getfield 22, 3) := by decide +kernel
theorem dJ5_ensureCapacityInternal_d00df_31 : decode cJ5_ensureCapacityInternal_d00df 31 = .ok (.ishl, 1) := by decide +kernel
theorem dJ5_ensureCapacityInternal_d00df_32 : decode cJ5_ensureCapacityInternal_d00df 32 = .ok (.invokestatic 108, 3) := by decide +kernel
theorem dJ5_ensureCapacityInternal_d00df_35 : decode cJ5_ensureCapacityInternal_d00df 35 = .ok (.putfield 15, 3) := by decide +kernel
theorem dJ5_ensureCapacityInternal_d00df_38 : decode cJ5_ensureCapacityInternal_d00df 38 = .ok (.return_, 1) := by decide +kernel
abbrev rmg0 : Room := { frames := 4, cells := 0, slots := 0, locals := 100 }
abbrev rmg1 : Room := { frames := 4, cells := 1, slots := 300, locals := 100 }
abbrev rmg2 : Room := { frames := 6, cells := 1, slots := 300, locals := 140 }
theorem sb_cap_eq {q m : Nat} (h : m < q) : m + (if q - m < m + 2 then m + 2 else q - m) = sb_cap q m := by
  unfold sb_cap
  rw [show (if q ≤ m then m else if 2 * m + 2 < q then q else 2 * m + 2) = (if 2 * m + 2 < q then q else 2 * m + 2) from if_neg (by omega)]
  split <;> split <;> omega
/-- a new array of q bytes that begins as row does -/
def PBn (D : va_G) (T : Nat → ClassId) (cap q : Nat) (row : Nat → Int32) : Nat → Heap → Prop := fun a H => ∃ row' : Nat → Int32, sb_Fit row' ∧ (∀ j, j < cap → row' j = row j) ∧ va_P D vwCl [(a, .inl (T 7, q, .inl row'))] H
def AS (sb v h0 : Nat) : Nat → Prop := fun z => z = sb ∨ z = v ∨ h0 ≤ z
section SB2
variable {l : Launch} {s0 : State} {b B : Nat} {D : va_G} {T : Nat → ClassId} {X : Nat → Prop} {H0 : Heap} {sb v cap n : Nat} {row : Nat → Int32} {mb : Int32}
set_option maxHeartbeats 4000000 in
set_option maxRecDepth 100000 in
theorem metJ5_newCapacity (F : FX l s0 b D T B) {q : Nat} (hq : cap < q) (hq3 : sb_cap q cap ≤ 300) : gMet l yJ5_newCapacity_0f7a4 cJ5_newCapacity_0f7a4 6 (some .int) rmg0 [.ref sb, .int (nI q)] (eqH H0) (KS s0 X D (SBp T sb v cap row mb (nI n))) (some (.int (nI (sb_cap q cap)))) (eqH H0) NF 0 0 := by
  refine gMet_of RJ5 (by decide +kernel) rfl (Nat.le_of_ble_eq_true rfl) ?_
  intro p e s m below meth c ls hx hb hr hlocks hml hown hts hnm hW hks hl hS
  obtain ⟨hk, hP⟩ := id hks
  have hC := FX_C F hk hx hb hown hts
  have hK := hC.2.2.2.2
  have hge := sb_cap_ge q cap
  have hl : lv_has ls 6 [(0, .ref sb), (1, .int (nI q))] := hl
  refine lv_aload_n hx hb dJ5_newCapacity_0f7a4_0 rfl (lv_at hl 0 rfl) ?_
  refine va_get (C := RJ4) (T := TJ4) (N := 4) (ci := 1) hx hb hts uw_J4 hown hK hP 0 rfl rfl 0 (by decide) (hts _ fj_J5_15) (fun _ h => h) (v := .ref v) rfl dJ5_newCapacity_0f7a4_1 ?_
  refine va_alen hx hb hK hP 1 7 rfl rfl (v := nI cap) rfl dJ5_newCapacity_0f7a4_4 ?_
  refine lv_istore_n (lv' := [(2, .int (nI cap)), (0, .ref sb), (1, .int (nI q))]) hx hb dJ5_newCapacity_0f7a4_5 rfl hl (by decide) rfl (fun ls hl => ?_)
  refine lv_iload_n hx hb dJ5_newCapacity_0f7a4_6 rfl (lv_at hl 2 rfl) ?_
  refine lv_aload_n hx hb dJ5_newCapacity_0f7a4_7 rfl (lv_at hl 1 rfl) ?_
  refine va_get (C := RJ4) (T := TJ4) (N := 4) (ci := 1) hx hb hts uw_J4 hown hK hP 0 rfl rfl 1 (by decide) (hts _ fj_J5_22) (fun _ h => h) (v := .int 0) rfl dJ5_newCapacity_0f7a4_8 ?_
  refine lv_ishl hx hb dJ5_newCapacity_0f7a4_11 ?_
  rw [sb_shl0]
  refine lv_istore_n (lv' := [(3, .int (nI q)), (2, .int (nI cap)), (0, .ref sb), (1, .int (nI q))]) hx hb dJ5_newCapacity_0f7a4_12 rfl hl (by decide) rfl (fun ls hl => ?_)
  refine lv_iload_n hx hb dJ5_newCapacity_0f7a4_13 rfl (lv_at hl 0 rfl) ?_
  refine lv_iload_n hx hb dJ5_newCapacity_0f7a4_14 rfl (lv_at hl 1 rfl) ?_
  refine lv_isub hx hb dJ5_newCapacity_0f7a4_15 ?_
  rw [show nI q - nI cap = nI (q - cap) from pk_sub (by omega)]
  refine lv_istore (lv' := [(4, .int (nI (q - cap))), (3, .int (nI q)), (2, .int (nI cap)), (0, .ref sb), (1, .int (nI q))]) hx hb dJ5_newCapacity_0f7a4_16 hl (by decide) rfl (fun ls hl => ?_)
  refine lv_iload_n hx hb dJ5_newCapacity_0f7a4_18 rfl (lv_at hl 2 rfl) ?_
  refine lv_iload hx hb dJ5_newCapacity_0f7a4_19 (lv_at hl 0 rfl) ?_
  refine lv_iload_n hx hb dJ5_newCapacity_0f7a4_21 rfl (lv_at hl 2 rfl) ?_
  refine lv_iconst (v := 2) hx hb dJ5_newCapacity_0f7a4_22 (by decide) ?_
  refine lv_aload_n hx hb dJ5_newCapacity_0f7a4_23 rfl (lv_at hl 3 rfl) ?_
  refine va_get (C := RJ4) (T := TJ4) (N := 4) (ci := 1) hx hb hts uw_J4 hown hK hP 0 rfl rfl 1 (by decide) (hts _ fj_J5_22) (fun _ h => h) (v := .int 0) rfl dJ5_newCapacity_0f7a4_24 ?_
  refine lv_ishl hx hb dJ5_newCapacity_0f7a4_27 ?_
  rw [sb_shl0]
  refine lv_iadd hx hb dJ5_newCapacity_0f7a4_28 ?_
  rw [show nI cap + 2 = nI (cap + 2) from nI_add cap 2]
  have ec := sb_cap_eq hq
  have hM := metJ8_newLength (X := X) (H0 := s.heap) F (x := cap) (y := q - cap) (z := cap + 2) (by rw [ec]; omega) (by rw [ec]; omega)
  rw [ec] at hM
  refine gw_callS (As := [.int (nI cap), .int (nI (q - cap)), .int (nI (cap + 2))]) (rest := []) hC hml hS (Wp := eqH s.heap) rfl (KC_gen hk (fun q (z : False) => z.elim) hS) KC_blind hM ml_J5_114 (fun _ h => h) ⟨rfl, rfl, (Nat.le_of_ble_eq_true rfl), (Nat.le_of_ble_eq_true rfl)⟩ rfl hl.1 rfl (Nat.le_of_ble_eq_true rfl) dJ5_newCapacity_0f7a4_29 ⟨(Nat.le_of_ble_eq_true rfl), (Nat.le_of_ble_eq_true rfl)⟩ (fun H locs hW1 hS _ _ => ?_)
  cases hW1
  refine lv_istore (lv' := [(5, .int (nI (sb_cap q cap))), (4, .int (nI (q - cap))), (3, .int (nI q)), (2, .int (nI cap)), (0, .ref sb), (1, .int (nI q))]) hx hb dJ5_newCapacity_0f7a4_32 hl (by decide) rfl (fun ls hl => ?_)
  refine lv_iload hx hb dJ5_newCapacity_0f7a4_34 (lv_at hl 0 rfl) ?_
  refine lv_ldc (v := 2147483647) hx hb hown (hts _ kc_J5_39) dJ5_newCapacity_0f7a4_36 ?_
  refine lv_icmp_ne (tgt := 51) hx hb dJ5_newCapacity_0f7a4_38 (by decide) (fun _ => ?_) (fun h9 => ?_)
  · refine lv_iload hx hb dJ5_newCapacity_0f7a4_51 (lv_at hl 0 rfl) ?_
    refine lv_aload_n hx hb dJ5_newCapacity_0f7a4_53 rfl (lv_at hl 4 rfl) ?_
    refine va_get (C := RJ4) (T := TJ4) (N := 4) (ci := 1) hx hb hts uw_J4 hown hK hP 0 rfl rfl 1 (by decide) (hts _ fj_J5_22) (fun _ h => h) (v := .int 0) rfl dJ5_newCapacity_0f7a4_54 ?_
    refine lv_ishr hx hb dJ5_newCapacity_0f7a4_57 ?_
    rw [sb_shr0]
    exact gw_iret hx hb hr hlocks hW hS (Nat.le_of_ble_eq_true rfl) (Nat.le_of_ble_eq_true rfl) dJ5_newCapacity_0f7a4_58
  · have h8 := (nI_eq (a := sb_cap q cap) (b := 2147483647) (by omega) (by decide)).mp h9
    omega
set_option maxHeartbeats 4000000 in
set_option maxRecDepth 100000 in
theorem metJ7_copyOf (F : FX l s0 b D T B) {q : Nat} (hq : cap < q) (hq3 : q ≤ 300) (hfit : sb_Fit row) : gNMet l yJ7_copyOf_9075b cJ7_copyOf_9075b 3 (some (.array .byte)) rmg1 [.ref v, .int (nI q)] H0 (KS s0 X D [(v, .inl (T 7, cap, .inl row))]) (PBn D T cap q row) 1 300 := by
  refine gNMet_of RJ7 (by decide +kernel) rfl (Nat.le_of_ble_eq_true rfl) ?_
  intro p e s m below meth c ls hx hb hr hlocks hml hown hts hnm hH hks hl
  obtain ⟨hk, hPv⟩ := hks
  subst hH
  have hS : va_S (NA s.heap) s.heap s.heap [] := va_S.rf
  have hC := FX_C F hk hx hb hown hts
  have hK := hC.2.2.2.2
  have hl : lv_has ls 3 [(0, .ref v), (1, .int (nI q))] := hl
  have hbv : s.heap[v]? = some (arrV (T 7) cap (fun j => .int (row j))) := hPv 0 _ rfl
  have hlt : v < s.heap.size := (Array.getElem?_eq_some_iff.mp hbv).1
  have hTA : va_T .byte v cap (fun j => .int (row j)) (NA s.heap) s s.heap := ⟨arrV (T 7) cap (fun j => .int (row j)), hbv, ((hK.2 7 _ (rfl : (tysG T)[7]? = some (T 7, .byte))).1 cap (fun j => .int (row j))), fun h => (by cases h), by rw [arrV_size]; exact Nat.le_refl _, by rw [arrV_size], fun j hj => by rw [arrV_read _ _ hj], Nat.not_le.mpr hlt⟩
  refine lv_iload_n hx hb dJ7_copyOf_9075b_0 rfl (lv_at hl 1 rfl) ?_
  refine lv_aload_n hx hb dJ7_copyOf_9075b_1 rfl (lv_at hl 0 rfl) ?_
  refine va_tlen hx hb hTA hS (v := nI cap) rfl dJ7_copyOf_9075b_2 ?_
  refine lv_icmp_ne (tgt := 14) hx hb dJ7_copyOf_9075b_3 (by decide) (fun _ => ?_) (fun h9 => by
    have := (nI_eq (a := q) (b := cap) (by omega) (by omega)).mp h9
    omega)
  refine lv_iload_n hx hb dJ7_copyOf_9075b_14 rfl (lv_at hl 1 rfl) ?_
  refine al_arr (ty := .byte) (t0 := 7) (cA := T 7) (n0 := q) (a0 := (q, .inl (fun _ => 0))) (ws := []) hC lac_byte rfl rfl (fun k q h => by cases h) hS rfl (nI_pos (by omega)) (nI_clamp (by omega)) (by show q * 1 ≤ _; omega) (Nat.le_of_ble_eq_true rfl) (by show 0 + q ≤ 300; omega) dJ7_copyOf_9075b_15 (fun H1 hP hS hz hk1 => ?_)
  refine lv_astore_n (lv' := [(2, .ref s.heap.size), (0, .ref v), (1, .int (nI q))]) hx hb dJ7_copyOf_9075b_17 rfl hl (by decide) rfl (fun ls hl => ?_)
  refine lv_aload_n hx hb dJ7_copyOf_9075b_18 rfl (lv_at hl 1 rfl) ?_
  refine lv_iconst (v := 0) hx hb dJ7_copyOf_9075b_19 (by decide) ?_
  refine lv_aload_n hx hb dJ7_copyOf_9075b_20 rfl (lv_at hl 0 rfl) ?_
  refine lv_iconst (v := 0) hx hb dJ7_copyOf_9075b_21 (by decide) ?_
  refine lv_aload_n hx hb dJ7_copyOf_9075b_22 rfl (lv_at hl 1 rfl) ?_
  refine va_tlen hx hb hTA hS (v := nI cap) rfl dJ7_copyOf_9075b_23 ?_
  refine lv_iload_n hx hb dJ7_copyOf_9075b_24 rfl (lv_at hl 2 rfl) ?_
  refine gw_min hC (hml.trans hl.1.symm) lm_J7_304 lb_min.1 lb_min.2.1 lb_min.2.2 (Nat.le_of_ble_eq_true rfl) (Nat.le_of_ble_eq_true rfl) (Nat.le_of_ble_eq_true rfl) (by show 0 + q ≤ 300; omega) dJ7_copyOf_9075b_25 ?_
  have e2 : imin (nI cap) (nI q) = nI cap := if_neg (nI_nlt (by omega) (by omega))
  rw [e2]
  have ecl : (nI cap).toNatClampNeg = cap := nI_clamp (by omega)
  refine vk_copyt (A := NA s.heap) hx hb (hml.trans hl.1.symm) hown (hts _ lm_J7_150) (hts _ lb_copy.1) (hts _ lb_copy.2.1) (hts _ lb_copy.2.2) hK hP ⟨fun a b p q hp hq _ => by
      have h1 := (List.getElem?_eq_some_iff.mp hp).1
      have h2 := (List.getElem?_eq_some_iff.mp hq).1
      simp at h1 h2
      omega, fun k q hq => by
      have h1 := (List.getElem?_eq_some_iff.mp hq).1
      simp at h1
      subst h1
      cases hq
      exact Nat.le_refl _⟩ hS (f := row) hTA 0 7 (c1 := T 7) (n1 := q) (g := fun _ => 0) rfl rfl (by decide) (by decide) (nI_pos (by omega)) (by rw [ecl, sb_cl0]; omega) (by rw [ecl, sb_cl0]; omega) (fun k _ => hfit _) (Nat.le_of_ble_eq_true rfl) (Nat.le_of_ble_eq_true rfl) dJ7_copyOf_9075b_28 (fun H2 locs2 hP2 _ hS2 => ?_)
  refine lv_aload_n hx hb dJ7_copyOf_9075b_31 rfl (lv_at hl 0 rfl) ?_
  rw [ecl, sb_cl0] at hP2
  exact gn_aret hx hb hr (Or.inr ⟨_, rfl⟩) hlocks (Nat.le_refl _) ⟨_, sb_fitC hfit sb_fit0, fun j hj => sb_cpy0 hj, hP2⟩ rfl hS2 (Nat.le_of_ble_eq_true rfl) (by omega) dJ7_copyOf_9075b_32
/-- the text builder behind a growth to cap' -/
def WqE (D : va_G) (T : Nat → ClassId) (sb v h0 cap cap' : Nat) (row : Nat → Int32) (mb n : Int32) : Heap → Prop := fun H => ∃ (v' : Nat) (row' : Nat → Int32), (v' = v ∨ h0 ≤ v') ∧ sb_Fit row' ∧ (∀ j, j < cap → row' j = row j) ∧ va_P D vwCl (SBp T sb v' cap' row' mb n) H
theorem SBp_D {A : Nat → Prop} {n : Int32} (h : sb ≠ v) (h1 : A sb) (h2 : A v) : va_D A (SBp T sb v cap row mb n) := ⟨fun i j x y hx hy e => by
    have h3 := (List.getElem?_eq_some_iff.mp hx).1
    have h4 := (List.getElem?_eq_some_iff.mp hy).1
    have h3 : i < 2 := h3
    have h4 : j < 2 := h4
    rcases (show i = 0 ∨ i = 1 by omega) with rfl | rfl <;> rcases (show j = 0 ∨ j = 1 by omega) with rfl | rfl
    · rfl
    · cases hx; cases hy; exact absurd e h
    · cases hx; cases hy; exact absurd e.symm h
    · rfl, fun k x hx => by
    have h3 := (List.getElem?_eq_some_iff.mp hx).1
    have h3 : k < 2 := h3
    rcases (show k = 0 ∨ k = 1 by omega) with rfl | rfl
    · cases hx; exact h1
    · cases hx; exact h2⟩
theorem SBp_D3 {A : Nat → Prop} {n : Int32} {a : Nat} {x : va_E} (h : sb ≠ v) (h4 : sb ≠ a) (h5 : v ≠ a) (h1 : A sb) (h2 : A v) (h3 : A a) : va_D A (SBp T sb v cap row mb n ++ [(a, x)]) := ⟨fun i j x y hx hy e => by
    have h6 := (List.getElem?_eq_some_iff.mp hx).1
    have h7 := (List.getElem?_eq_some_iff.mp hy).1
    have h6 : i < 3 := h6
    have h7 : j < 3 := h7
    rcases (show i = 0 ∨ i = 1 ∨ i = 2 by omega) with rfl | rfl | rfl <;> rcases (show j = 0 ∨ j = 1 ∨ j = 2 by omega) with rfl | rfl | rfl <;> cases hx <;> cases hy
    · rfl
    · exact absurd e h
    · exact absurd e h4
    · exact absurd e.symm h
    · rfl
    · exact absurd e h5
    · exact absurd e.symm h4
    · exact absurd e.symm h5
    · rfl, fun k x hx => by
    have h6 := (List.getElem?_eq_some_iff.mp hx).1
    have h6 : k < 3 := h6
    rcases (show k = 0 ∨ k = 1 ∨ k = 2 by omega) with rfl | rfl | rfl <;> cases hx
    · exact h1
    · exact h2
    · exact h3⟩
set_option maxHeartbeats 4000000 in
set_option maxRecDepth 100000 in
theorem metJ5_ensure (F : FX l s0 b D T B) {q h0 : Nat} (hne : sb ≠ v) (hsb : s0.heap.size ≤ sb) (hv0 : s0.heap.size ≤ v) (hh0 : s0.heap.size ≤ h0) (hcap : cap ≤ 300) (hq3 : sb_cap q cap ≤ 300) (hfit : sb_Fit row) : gMet l yJ5_ensureCapacityInternal_d00df cJ5_ensureCapacityInternal_d00df 3 none rmg2 [.ref sb, .int (nI q)] (fun H => H.size = h0 ∧ va_P D vwCl (SBp T sb v cap row mb (nI n)) H) (KC s0 X) none (WqE D T sb v h0 cap (sb_cap q cap) row mb (nI n)) (AS sb v h0) 1 300 := by
  refine gMet_of RJ5 (by decide +kernel) rfl (Nat.le_of_ble_eq_true rfl) ?_
  intro p e s m below meth c ls hx hb hr hlocks hml hown hts hnm hW hk hl hS
  obtain ⟨hz0, hP⟩ := hW
  have hC := FX_C F hk hx hb hown hts
  have hK := hC.2.2.2.2
  have hge := sb_cap_ge q cap
  have hl : lv_has ls 3 [(0, .ref sb), (1, .int (nI q))] := hl
  have hAS : ∀ z, AS sb v h0 z → s0.heap.size ≤ z := fun z hz => hz.elim (fun e => e ▸ hsb) (fun hz => hz.elim (fun e => e ▸ hv0) (fun e => Nat.le_trans hh0 e))
  refine lv_aload_n hx hb dJ5_ensureCapacityInternal_d00df_0 rfl (lv_at hl 0 rfl) ?_
  refine va_get (C := RJ4) (T := TJ4) (N := 4) (ci := 1) hx hb hts uw_J4 hown hK hP 0 rfl rfl 0 (by decide) (hts _ fj_J5_15) (fun _ h => h) (v := .ref v) rfl dJ5_ensureCapacityInternal_d00df_1 ?_
  refine va_alen hx hb hK hP 1 7 rfl rfl (v := nI cap) rfl dJ5_ensureCapacityInternal_d00df_4 ?_
  refine lv_aload_n hx hb dJ5_ensureCapacityInternal_d00df_5 rfl (lv_at hl 0 rfl) ?_
  refine va_get (C := RJ4) (T := TJ4) (N := 4) (ci := 1) hx hb hts uw_J4 hown hK hP 0 rfl rfl 1 (by decide) (hts _ fj_J5_22) (fun _ h => h) (v := .int 0) rfl dJ5_ensureCapacityInternal_d00df_6 ?_
  refine lv_ishr hx hb dJ5_ensureCapacityInternal_d00df_9 ?_
  rw [sb_shr0]
  refine lv_istore_n (lv' := [(2, .int (nI cap)), (0, .ref sb), (1, .int (nI q))]) hx hb dJ5_ensureCapacityInternal_d00df_10 rfl hl (by decide) rfl (fun ls hl => ?_)
  refine lv_iload_n hx hb dJ5_ensureCapacityInternal_d00df_11 rfl (lv_at hl 2 rfl) ?_
  refine lv_iload_n hx hb dJ5_ensureCapacityInternal_d00df_12 rfl (lv_at hl 0 rfl) ?_
  refine lv_isub hx hb dJ5_ensureCapacityInternal_d00df_13 ?_
  have e1 : (nI q - nI cap).toInt = (q : Int) - cap := pk_sub_toInt (by omega) (by omega)
  by_cases hqc : q ≤ cap
  · refine lv_if_le (tgt := 38) hx hb dJ5_ensureCapacityInternal_d00df_14 (by decide) (fun _ => ?_) (fun h9 => absurd (show nI q - nI cap ≤ 0 by rw [Int32.le_iff_toInt_le, e1, Int32.toInt_zero]; omega) h9)
    refine gw_vret hx hb hr hlocks ⟨v, row, Or.inl rfl, hfit, fun _ _ => rfl, ?_⟩ hS (Nat.le_of_ble_eq_true rfl) (Nat.le_of_ble_eq_true rfl) dJ5_ensureCapacityInternal_d00df_38
    rw [show sb_cap q cap = cap from if_pos hqc]
    exact hP
  · refine lv_if_le (tgt := 38) hx hb dJ5_ensureCapacityInternal_d00df_14 (by decide) (fun h9 => absurd h9 (by rw [Int32.le_iff_toInt_le, e1, Int32.toInt_zero]; omega)) (fun _ => ?_)
    refine lv_aload_n hx hb dJ5_ensureCapacityInternal_d00df_17 rfl (lv_at hl 1 rfl) ?_
    refine lv_aload_n hx hb dJ5_ensureCapacityInternal_d00df_18 rfl (lv_at hl 1 rfl) ?_
    refine va_get (C := RJ4) (T := TJ4) (N := 4) (ci := 1) hx hb hts uw_J4 hown hK hP 0 rfl rfl 0 (by decide) (hts _ fj_J5_15) (fun _ h => h) (v := .ref v) rfl dJ5_ensureCapacityInternal_d00df_19 ?_
    refine lv_aload_n hx hb dJ5_ensureCapacityInternal_d00df_22 rfl (lv_at hl 1 rfl) ?_
    refine lv_iload_n hx hb dJ5_ensureCapacityInternal_d00df_23 rfl (lv_at hl 2 rfl) ?_
    refine gw_callVC (C := RJ4) (As := [.int (nI q)]) (rest := [.ref v, .ref sb]) hC hml hS (Wp := eqH s.heap) rfl (fun U hU hWm => ⟨KC_gen hk hAS hS U hU hWm, by rw [hU]; exact hP⟩) KS_blind (metJ5_newCapacity (X := X) (mb := mb) (n := n) (row := row) (v := v) F (by omega) hq3) gm_J5_104 (zsel_newCapacity F hk) (sb_recv (q0 := 0) hK hP rfl) (fun q (z : False) => z.elim) ⟨rfl, rfl, (Nat.le_of_ble_eq_true rfl), (Nat.le_of_ble_eq_true rfl)⟩ rfl hl.1 rfl (Nat.le_of_ble_eq_true rfl) dJ5_ensureCapacityInternal_d00df_24 ⟨(Nat.le_of_ble_eq_true rfl), (Nat.le_of_ble_eq_true rfl)⟩ (fun H locs hW1 hS _ _ => ?_)
    cases hW1
    refine lv_aload_n hx hb dJ5_ensureCapacityInternal_d00df_27 rfl (lv_at hl 1 rfl) ?_
    refine va_get (C := RJ4) (T := TJ4) (N := 4) (ci := 1) hx hb hts uw_J4 hown hK hP 0 rfl rfl 1 (by decide) (hts _ fj_J5_22) (fun _ h => h) (v := .int 0) rfl dJ5_ensureCapacityInternal_d00df_28 ?_
    refine lv_ishl hx hb dJ5_ensureCapacityInternal_d00df_31 ?_
    rw [sb_shl0]
    have hPv1 : va_P D vwCl [(v, .inl (T 7, cap, .inl row))] s.heap := fun k x hx => by
      have h1 := (List.getElem?_eq_some_iff.mp hx).1
      simp at h1
      subst h1
      cases hx
      exact hP 1 _ rfl
    refine gn_callS (As := [.ref v, .int (nI (sb_cap q cap))]) (rest := [.ref sb]) hC hml hS (fun z hz => Or.inr (Or.inr (hz0 ▸ hz))) (fun U hU hWm => ⟨KC_gen hk hAS hS U hU hWm, by rw [hU]; exact hPv1⟩) KS_blind (metJ7_copyOf (X := X) (cap := cap) (row := row) (v := v) (q := sb_cap q cap) F (by omega) hq3 hfit) ml_J5_108 ⟨rfl, rfl, (Nat.le_of_ble_eq_true rfl), (Nat.le_of_ble_eq_true rfl)⟩ rfl hl.1 rfl (Nat.le_of_ble_eq_true rfl) dJ5_ensureCapacityInternal_d00df_32 ⟨(Nat.le_of_ble_eq_true rfl), (Nat.le_of_ble_eq_true rfl)⟩ (fun a H1 locs1 ha hPB hS1 hz1 hk1 => ?_)
    obtain ⟨row', hf', hag, hPa⟩ := hPB
    have hP1 : va_P D vwCl (SBp T sb v cap row mb (nI n)) H1 := hP.kept fun k x hx => hk1 x.1 (hP k x hx).lt
    have hsbl : sb < s.heap.size := (hP 0 _ rfl).lt
    have hvl : v < s.heap.size := (hP 1 _ rfl).lt
    refine va_put (C := RJ4) (T := TJ4) (N := 4) (ci := 1) hx hb hts uw_J4 tyJ4 tyJ4_ok nmJ4 hown hK (hP1.app hPa) (SBp_D3 (A := AS sb v h0) hne (by omega) (by omega) (Or.inl rfl) (Or.inr (Or.inl rfl)) (Or.inr (Or.inr (hz0 ▸ ha)))) hS1 0 (fs := [.ref v, .int 0, .int mb, .int (nI n)]) rfl rfl 0 (by decide) (hts _ fj_J5_15) (fun _ h => h) rfl (ty := .array .byte) (tyJ4_ok 0 (by decide)) rfl rfl (Nat.le_of_ble_eq_true rfl) dJ5_ensureCapacityInternal_d00df_35 (fun H2 locs2 hP2 _ hS2 => ?_)
    refine gw_vret hx hb hr hlocks ⟨a, row', Or.inr (hz0 ▸ ha), hf', hag, fun k x hx => ?_⟩ hS2 (Nat.le_of_ble_eq_true rfl) (Nat.le_of_ble_eq_true rfl) dJ5_ensureCapacityInternal_d00df_38
    have h3 := (List.getElem?_eq_some_iff.mp hx).1
    have h3 : k < 2 := h3
    rcases (show k = 0 ∨ k = 1 by omega) with rfl | rfl
    · cases hx; exact hP2 0 _ rfl
    · cases hx; exact hP2 2 _ rfl
end SB2
