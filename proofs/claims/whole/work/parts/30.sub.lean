/-! A letter of a String as a String of its own. -/
abbrev rmu0 : Room := { frames := 2, cells := 0, slots := 0, locals := 60 }
abbrev rmu1 : Room := { frames := 4, cells := 1, slots := 1, locals := 100 }
abbrev rmu2 : Room := { frames := 5, cells := 1, slots := 1, locals := 130 }
abbrev rmu3 : Room := { frames := 6, cells := 2, slots := 5, locals := 160 }
abbrev rmu4 : Room := { frames := 7, cells := 2, slots := 5, locals := 200 }
/-- a new array of one byte -/
def PB (D : va_G) (T : Nat → ClassId) (x : Int32) : Nat → Heap → Prop := fun q H => ∃ row : Nat → Int32, row 0 = x ∧ va_P D vwCl [(q, .inl (T 7, 1, .inl row))] H
/-- a new String of one letter -/
def PS1 (D : va_G) (T : Nat → ClassId) (c : Nat) : Nat → Heap → Prop := fun q H => ∃ (v : Nat) (row : Nat → Int32), q < v ∧ row 0 = sb_b c ∧ va_P D vwCl [(v, .inl (T 7, 1, .inl row)), (q, .inr (0, [.ref v, .int 0, .int 0, .int 0]))] H
section SUB
variable {l : Launch} {s0 : State} {b B : Nat} {D : va_G} {T : Nat → ClassId} {X : Nat → Prop} {H0 : Heap} {a n : Nat} {t : Nat → Nat}
set_option maxHeartbeats 4000000 in
set_option maxRecDepth 100000 in
theorem metJ3_checkFromTo (F : FX l s0 b D T B) {i j : Nat} {z : Value} (hz : z = .null ∨ ∃ q, z = .ref q) (hij : i ≤ j) (hj : j ≤ n) (hn : n < 2 ^ 31) : gMet l yJ3_checkFromToIndex_8c36e cJ3_checkFromToIndex_8c36e 4 (some .int) rms0 [.int (nI i), .int (nI j), .int (nI n), z] (eqH H0) (KC s0 X) (some (.int (nI i))) (eqH H0) NF 0 0 := by
  refine gMet_of RJ3 (by decide +kernel) rfl (by rcases hz with rfl | ⟨q, rfl⟩ <;> exact (Nat.le_of_ble_eq_true rfl)) ?_
  intro p e s m below meth c ls hx hb hr hlocks hml hown hts hnm hW hk hl hS
  have hl : lv_has ls 4 [(0, .int (nI i)), (1, .int (nI j)), (2, .int (nI n)), (3, z)] := hl
  refine lv_iload_n hx hb dJ3_checkFromToIndex_8c36e_0 rfl (lv_at hl 0 rfl) ?_
  refine lv_if_lt (tgt := 14) hx hb dJ3_checkFromToIndex_8c36e_1 (by decide) (fun h => absurd h (nI_pos (by omega))) (fun _ => ?_)
  refine lv_iload_n hx hb dJ3_checkFromToIndex_8c36e_4 rfl (lv_at hl 0 rfl) ?_
  refine lv_iload_n hx hb dJ3_checkFromToIndex_8c36e_5 rfl (lv_at hl 1 rfl) ?_
  refine lv_icmp_gt (tgt := 14) hx hb dJ3_checkFromToIndex_8c36e_6 (by decide) (fun h => absurd h (nI_nlt hij (by omega))) (fun _ => ?_)
  refine lv_iload_n hx hb dJ3_checkFromToIndex_8c36e_9 rfl (lv_at hl 1 rfl) ?_
  refine lv_iload_n hx hb dJ3_checkFromToIndex_8c36e_10 rfl (lv_at hl 2 rfl) ?_
  refine lv_icmp_le (tgt := 22) hx hb dJ3_checkFromToIndex_8c36e_11 (by decide) (fun _ => ?_) (fun h => absurd (nI_le hj hn) h)
  refine lv_iload_n hx hb dJ3_checkFromToIndex_8c36e_22 rfl (lv_at hl 0 rfl) ?_
  exact gw_iret hx hb hr hlocks hW hS (Nat.le_of_ble_eq_true rfl) (Nat.le_of_ble_eq_true rfl) dJ3_checkFromToIndex_8c36e_23
set_option maxHeartbeats 4000000 in
set_option maxRecDepth 100000 in
theorem metJ0_checkBeginEnd (F : FX l s0 b D T B) {i j : Nat} (hij : i ≤ j) (hj : j ≤ n) (hn : n < 2 ^ 31) : gMet l yJ0_checkBoundsBeginEnd_23922 cJ0_checkBoundsBeginEnd_23922 3 none rms1 [.int (nI i), .int (nI j), .int (nI n)] (eqH H0) (KC s0 X) none (eqH H0) NF 0 0 := by
  refine gMet_of RJ0 (by decide +kernel) rfl (Nat.le_of_ble_eq_true rfl) ?_
  intro p e s m below meth c ls hx hb hr hlocks hml hown hts hnm hW hk hl hS
  have hl : lv_has ls 3 [(0, .int (nI i)), (1, .int (nI j)), (2, .int (nI n))] := hl
  have hC := FX_C F hk hx hb hown hts
  obtain ⟨z, hz, hZ⟩ := zSI F hk
  refine lv_iload_n hx hb dJ0_checkBoundsBeginEnd_23922_0 rfl (lv_at hl 0 rfl) ?_
  refine lv_iload_n hx hb dJ0_checkBoundsBeginEnd_23922_1 rfl (lv_at hl 1 rfl) ?_
  refine lv_iload_n hx hb dJ0_checkBoundsBeginEnd_23922_2 rfl (lv_at hl 2 rfl) ?_
  refine va_gets hx hb hZ hS hown (hts _ fj_J0_1053) (fun _ h => h) dJ0_checkBoundsBeginEnd_23922_3 ?_
  refine gw_callS (As := [.int (nI i), .int (nI j), .int (nI n), z]) (rest := []) hC hml hS hW (KC_at (X := X) hk (vS_n hS) F.2.2.2.2) KC_blind (metJ3_checkFromTo (X := X) F hz hij hj hn) ml_J0_1062 (fun _ h => h) ⟨rfl, rfl, (Nat.le_of_ble_eq_true rfl), (Nat.le_of_ble_eq_true rfl)⟩ rfl hl.1 rfl (Nat.le_of_ble_eq_true rfl) dJ0_checkBoundsBeginEnd_23922_6 ⟨(Nat.le_of_ble_eq_true rfl), (Nat.le_of_ble_eq_true rfl)⟩ (fun H locs hW hS _ _ => ?_)
  refine lv_pop hx hb dJ0_checkBoundsBeginEnd_23922_9 rfl ?_
  exact gw_vret hx hb hr hlocks hW hS (Nat.le_of_ble_eq_true rfl) (Nat.le_of_ble_eq_true rfl) dJ0_checkBoundsBeginEnd_23922_10
set_option maxHeartbeats 4000000 in
set_option maxRecDepth 100000 in
theorem metJ7_checkLength (F : FX l s0 b D T B) {i j : Nat} (hij : i ≤ j) (hj : j < 2 ^ 31) : gMet l yJ7_checkLength_df160 cJ7_checkLength_df160 2 none rms0 [.int (nI i), .int (nI j)] (eqH H0) (KC s0 X) none (eqH H0) NF 0 0 := by
  refine gMet_of RJ7 (by decide +kernel) rfl (Nat.le_of_ble_eq_true rfl) ?_
  intro p e s m below meth c ls hx hb hr hlocks hml hown hts hnm hW hk hl hS
  have hl : lv_has ls 2 [(0, .int (nI i)), (1, .int (nI j))] := hl
  refine lv_iload_n hx hb dJ7_checkLength_df160_0 rfl (lv_at hl 1 rfl) ?_
  refine lv_iload_n hx hb dJ7_checkLength_df160_1 rfl (lv_at hl 0 rfl) ?_
  refine lv_icmp_ge (tgt := 37) hx hb dJ7_checkLength_df160_2 (by decide) (fun _ => ?_) (fun h => absurd (nI_le hij hj) h)
  exact gw_vret hx hb hr hlocks hW hS (Nat.le_of_ble_eq_true rfl) (Nat.le_of_ble_eq_true rfl) dJ7_checkLength_df160_37
/-- what a call in an allocating walk asks -/
theorem KC_na {s : State} {H : Heap} {locs : List Loc} (hk : KC s0 X s) (hS : va_S (NA s.heap) s.heap H locs) : ∀ U : State, U.heap = H → s.WarmedH U.vm → KC s0 X U := fun U hU hW =>
  ⟨State.WarmedH.trans hk.1 hW, by rw [hU]; exact Nat.le_trans hk.2.1 hS.1, fun q hq => by
    rw [hU, hS.2.1 q (Nat.lt_of_lt_of_le hq hk.2.1) (fun z => absurd (Nat.lt_of_lt_of_le hq hk.2.1) (Nat.not_lt.mpr z))]; exact hk.2.2.1 q hq, fun q hq => by rw [hU]; exact Nat.lt_of_lt_of_le (hk.2.2.2 q hq) hS.1⟩
set_option maxHeartbeats 4000000 in
set_option maxRecDepth 100000 in
theorem metJ7_copyByte (F : FX l s0 b D T B) {i v : Nat} (hi : i < n) (hn : n < 2 ^ 31) (hc : t i < 256) : gNMet l yJ7_copyOfRangeByte_39247 cJ7_copyOfRangeByte_39247 5 (some (.array .byte)) rmu1 [.ref v, .int (nI i), .int (nI (i + 1))] H0 (fun U => KC s0 X U ∧ va_T .byte v n (fun j => .int (sb_b (t j))) NF U U.heap) (PB D T (sb_b (t i))) 1 1 := by
  refine gNMet_of RJ7 (by decide +kernel) rfl (Nat.le_of_ble_eq_true rfl) ?_
  intro p e s m below meth c ls hx hb hr hlocks hml hown hts hnm hH hk hl
  obtain ⟨hk, hT⟩ := hk
  subst hH
  have hS : va_S (NA s.heap) s.heap s.heap [] := va_S.rf
  have hC := FX_C F hk hx hb hown hts
  have hl : lv_has ls 5 [(0, .ref v), (1, .int (nI i)), (2, .int (nI (i + 1)))] := hl
  refine lv_iload_n hx hb dJ7_copyOfRangeByte_39247_0 rfl (lv_at hl 1 rfl) ?_
  refine lv_iload_n hx hb dJ7_copyOfRangeByte_39247_1 rfl (lv_at hl 2 rfl) ?_
  refine gw_callS (As := [.int (nI i), .int (nI (i + 1))]) (rest := []) hC hml hS (Wp := eqH s.heap) rfl (KC_na (X := X) hk hS) KC_blind (metJ7_checkLength (X := X) F (Nat.le_succ i) (by omega)) ml_J7_343 (fun q (z : False) => z.elim) ⟨rfl, rfl, (Nat.le_of_ble_eq_true rfl), (Nat.le_of_ble_eq_true rfl)⟩ rfl hl.1 rfl (Nat.le_of_ble_eq_true rfl) dJ7_copyOfRangeByte_39247_2 ⟨(Nat.le_of_ble_eq_true rfl), (Nat.le_of_ble_eq_true rfl)⟩ (fun H locs hW hS _ _ => ?_)
  cases hW
  refine lv_iload_n hx hb dJ7_copyOfRangeByte_39247_5 rfl (lv_at hl 2 rfl) ?_
  refine lv_iload_n hx hb dJ7_copyOfRangeByte_39247_6 rfl (lv_at hl 1 rfl) ?_
  refine lv_isub hx hb dJ7_copyOfRangeByte_39247_7 ?_
  have e1 : nI (i + 1) - nI i = 1 := by rw [show nI (i + 1) - nI i = nI (i + 1 - i) from pk_sub (by omega), show i + 1 - i = 1 by omega]; rfl
  rw [e1]
  refine lv_istore_n (lv' := [(3, .int 1), (0, .ref v), (1, .int (nI i)), (2, .int (nI (i + 1)))]) hx hb dJ7_copyOfRangeByte_39247_8 rfl hl (by decide) rfl (fun ls hl => ?_)
  refine lv_iload_n hx hb dJ7_copyOfRangeByte_39247_9 rfl (lv_at hl 0 rfl) ?_
  refine al_arr (ty := .byte) (t0 := 7) (cA := T 7) (n0 := 1) (a0 := (1, .inl (fun _ => 0))) (ws := []) hC lac_byte rfl rfl (fun k q h => by cases h) hS rfl (by decide) (by decide) (Nat.le_of_ble_eq_true rfl) (Nat.le_of_ble_eq_true rfl) (Nat.le_of_ble_eq_true rfl) dJ7_copyOfRangeByte_39247_10 (fun H1 hP hS hz hk1 => ?_)
  refine lv_astore (lv' := [(4, .ref s.heap.size), (3, .int 1), (0, .ref v), (1, .int (nI i)), (2, .int (nI (i + 1)))]) hx hb dJ7_copyOfRangeByte_39247_12 hl (by decide) rfl (fun ls hl => ?_)
  refine lv_aload_n hx hb dJ7_copyOfRangeByte_39247_14 rfl (lv_at hl 2 rfl) ?_
  refine lv_iload_n hx hb dJ7_copyOfRangeByte_39247_15 rfl (lv_at hl 3 rfl) ?_
  refine lv_aload hx hb dJ7_copyOfRangeByte_39247_16 (lv_at hl 0 rfl) ?_
  refine lv_iconst (v := 0) hx hb dJ7_copyOfRangeByte_39247_18 (by decide) ?_
  refine lv_aload_n hx hb dJ7_copyOfRangeByte_39247_19 rfl (lv_at hl 2 rfl) ?_
  obtain ⟨cT, g1, g2, g3, g4, g5, g6, g7⟩ := id hT
  have hlt : v < s.heap.size := (Array.getElem?_eq_some_iff.mp g1).1
  have hTA : va_T .byte v n (fun j => .int (sb_b (t j))) (NA s.heap) s s.heap := ⟨cT, g1, g2, g3, g4, g5, g6, Nat.not_le.mpr hlt⟩
  refine va_tlen hx hb hTA hS (v := nI n) rfl dJ7_copyOfRangeByte_39247_20 ?_
  refine lv_iload_n hx hb dJ7_copyOfRangeByte_39247_21 rfl (lv_at hl 3 rfl) ?_
  refine lv_isub hx hb dJ7_copyOfRangeByte_39247_22 ?_
  refine lv_iload_n hx hb dJ7_copyOfRangeByte_39247_23 rfl (lv_at hl 1 rfl) ?_
  refine gw_min hC (hml.trans hl.1.symm) lm_J7_304 lb_min.1 lb_min.2.1 lb_min.2.2 (Nat.le_of_ble_eq_true rfl) (Nat.le_of_ble_eq_true rfl) (Nat.le_of_ble_eq_true rfl) (Nat.le_of_ble_eq_true rfl) dJ7_copyOfRangeByte_39247_24 ?_
  have e2 : imin (nI n - nI i) 1 = 1 := by
    rw [show nI n - nI i = nI (n - i) from pk_sub (by omega)]
    unfold imin
    by_cases h1 : n - i = 1
    · rw [h1]; decide
    · have h2 : nI 1 < nI (n - i) := nI_lt (by omega) (by omega)
      exact if_pos h2
  rw [e2]
  refine vk_copyt (A := NA s.heap) hx hb (hml.trans hl.1.symm) hown (hts _ lm_J7_150) (hts _ lb_copy.1) (hts _ lb_copy.2.1) (hts _ lb_copy.2.2) hC.2.2.2.2 hP ⟨fun a b p q hp hq _ => by
      have h1 := (List.getElem?_eq_some_iff.mp hp).1
      have h2 := (List.getElem?_eq_some_iff.mp hq).1
      simp at h1 h2
      omega, fun k q hq => by
      have h1 := (List.getElem?_eq_some_iff.mp hq).1
      simp at h1
      subst h1
      cases hq
      exact Nat.le_refl _⟩ hS (f := fun j => sb_b (t j)) hTA 0 7 (c1 := T 7) (n1 := 1) (g := fun _ => 0) rfl rfl (nI_pos (by omega)) (by decide) (by decide) (by rw [nI_clamp (by omega)]; show i + 1 ≤ n; omega) (by decide) (fun k _ => pk_fb _) (Nat.le_of_ble_eq_true rfl) (Nat.le_of_ble_eq_true rfl) dJ7_copyOfRangeByte_39247_27 (fun H2 locs2 hP2 _ hS2 => ?_)
  refine lv_aload hx hb dJ7_copyOfRangeByte_39247_30 (lv_at hl 0 rfl) ?_
  exact gn_aret hx hb hr (Or.inr ⟨_, rfl⟩) hlocks (Nat.le_refl _) ⟨_, (by
    show va_cpy _ _ (nI i).toNatClampNeg 0 1 0 = _
    rw [nI_clamp (by omega)]
    unfold va_cpy
    simp), hP2⟩ rfl hS2 (Nat.le_of_ble_eq_true rfl) (Nat.le_of_ble_eq_true rfl) dJ7_copyOfRangeByte_39247_32
section GN
variable {p : Program} {l : Launch} {e : Env} {R : Room} {s : State} {m : MethodId} {args : Array Value} {below : List Frame} {meth : Method} {c : Code} {H : Heap} {locs : List Loc} {cells slots : Nat} {Q : State → Prop}
variable {cc : ByteArray} {pc : Nat} {ls : Array Slot} {st rest As : List Value} {cl : List vw_C} {A : Nat → Prop} {tys : List (ClassId × FieldType)} {own : String} {Ks : State → Prop} {P : Nat → Heap → Prop} {index ml nL mc ms : Nat} {y : MethodName} {bb : ByteArray} {ret : Option FieldType} {rm : Room} {k : Nat}
theorem gn_callS (hC : gC p c cc s m args own D cl tys) (hml : c.maxLocals = nL) (hS : va_S A H0 H locs) (hA : ∀ q, H.size ≤ q → A q) (hks : ∀ U : State, U.heap = H → s.WarmedH U.vm → Ks U) (hbl : gBlind Ks) (hM : gNMet l y bb ml ret rm As H Ks P mc ms) (hw : gMS own index y bb ml ret k) (hrm : gRm R rm ml mc ms)
    (hn : As.length = k) (hsz : ls.size = nL) (hst : st = As.reverse ++ rest) (hroom : (rest.map fun v => v.category).sum ≤ 8) (hdg : decode cc pc = .ok (.invokestatic index, 3)) (hf : cells + mc ≤ R.cells ∧ slots + ms ≤ R.slots)
    (kk : ∀ (q : Nat) (H1 : Heap) (locs1 : List Loc), H.size ≤ q → P q H1 → va_S A H0 H1 locs1 → H.size ≤ H1.size → (∀ q, q < H.size → H1[q]? = H[q]?) → W p l e R s m args below meth c H1 locs1 (cells + mc) (slots + ms) Q (F0 m (pc + 3) ls (.ref q :: rest))) : W p l e R s m args below meth c H locs cells slots Q (F0 m pc ls st) := by
  obtain ⟨hx, hb, hown, hts, -⟩ := hC
  exact gn_ret (As := As) (va_runS ⟨hx, hb, hml, hown, hts⟩ hM ⟨gw_cb hts hw.1 hrm, hts _ hw.2⟩ ⟨gPc_blind hbl, fun U hU hWm => ⟨rfl, hU, hks U hU hWm⟩⟩ rfl hn hsz hst (lv_room hroom) hdg hf) hS hA kk
theorem gn_callV (hC : gC p c cc s m args own D cl tys) (hml : c.maxLocals = nL) (hS : va_S A H0 H locs) (hA : ∀ q, H.size ≤ q → A q) (hks : ∀ U : State, U.heap = H → s.WarmedH U.vm → Ks U) (hbl : gBlind Ks) (hM : gNMet l y bb ml ret rm (.ref a :: As) H Ks P mc ms) (hw : gMV own index y bb ml ret k) (hrecv : ∃ cell : Cell, H[a]? = some cell ∧ cell.vm.isStatics = false ∧ s.vm.findClass y.cls = some cell.cls) (hrm : gRm R rm ml mc ms)
    (hn : As.length = k) (hsz : ls.size = nL) (hst : st = As.reverse ++ .ref a :: rest) (hroom : (rest.map fun v => v.category).sum ≤ 8) (hdg : decode cc pc = .ok (.invokevirtual index, 3)) (hf : cells + mc ≤ R.cells ∧ slots + ms ≤ R.slots)
    (kk : ∀ (q : Nat) (H1 : Heap) (locs1 : List Loc), H.size ≤ q → P q H1 → va_S A H0 H1 locs1 → H.size ≤ H1.size → (∀ q, q < H.size → H1[q]? = H[q]?) → W p l e R s m args below meth c H1 locs1 (cells + mc) (slots + ms) Q (F0 m (pc + 3) ls (.ref q :: rest))) : W p l e R s m args below meth c H locs cells slots Q (F0 m pc ls st) := by
  obtain ⟨hx, hb, hown, hts, -⟩ := hC
  exact gn_ret (As := .ref a :: As) (va_runV ⟨hx, hb, hml, hown, hts⟩ hM ⟨gw_cb hts hw.1 hrm, hts _ hw.2.1, hts _ hw.2.2⟩ ⟨gPc_blind hbl, hrecv, fun U hU hWm => ⟨rfl, hU, hks U hU hWm⟩⟩ rfl hn hsz hst (lv_room hroom) hdg hf) hS hA kk
end GN
set_option maxHeartbeats 4000000 in
set_option maxRecDepth 100000 in
theorem metJ7_copyRange (F : FX l s0 b D T B) {i v : Nat} (hi : i < n) (h2 : 2 ≤ n) (hn : n < 2 ^ 31) (hc : t i < 256) : gNMet l yJ7_copyOfRange_39247 cJ7_copyOfRange_39247 3 (some (.array .byte)) rmu2 [.ref v, .int (nI i), .int (nI (i + 1))] H0 (fun U => KC s0 X U ∧ va_T .byte v n (fun j => .int (sb_b (t j))) NF U U.heap) (PB D T (sb_b (t i))) 1 1 := by
  refine gNMet_of RJ7 (by decide +kernel) rfl (Nat.le_of_ble_eq_true rfl) ?_
  intro p e s m below meth c ls hx hb hr hlocks hml hown hts hnm hH hk hl
  subst hH
  obtain ⟨hk, hT⟩ := hk
  have hS : va_S (NA s.heap) s.heap s.heap [] := va_S.rf
  have hC := FX_C F hk hx hb hown hts
  have hl : lv_has ls 3 [(0, .ref v), (1, .int (nI i)), (2, .int (nI (i + 1)))] := hl
  have go : W p l e rmu2 s m [.ref v, .int (nI i), .int (nI (i + 1))].toArray below meth c s.heap [] 0 0 (MQ below (gQn s.heap (PB D T (sb_b (t i)))) [.ref v, .int (nI i), .int (nI (i + 1))].toArray s 1 1 (NA s.heap)) (F0 m 10 ls []) := by
    refine lv_aload_n hx hb dJ7_copyOfRange_39247_10 rfl (lv_at hl 0 rfl) ?_
    refine lv_iload_n hx hb dJ7_copyOfRange_39247_11 rfl (lv_at hl 1 rfl) ?_
    refine lv_iload_n hx hb dJ7_copyOfRange_39247_12 rfl (lv_at hl 2 rfl) ?_
    refine gn_callS (As := [.ref v, .int (nI i), .int (nI (i + 1))]) (rest := []) hC hml hS (fun q h => h) (fun U hU hWm => ⟨KC_na hk hS U hU hWm, by rw [hU]; exact va_T.moved hWm.alike hT⟩) (fun U g mk ar h => h) (metJ7_copyByte (X := X) F hi hn hc) ml_J7_339 ⟨rfl, rfl, (Nat.le_of_ble_eq_true rfl), (Nat.le_of_ble_eq_true rfl)⟩ rfl hl.1 rfl (Nat.le_of_ble_eq_true rfl) dJ7_copyOfRange_39247_13 ⟨(Nat.le_of_ble_eq_true rfl), (Nat.le_of_ble_eq_true rfl)⟩ (fun q H1 locs1 hq hP hS _ _ => ?_)
    exact gn_aret hx hb hr (Or.inr ⟨_, rfl⟩) hlocks hq hP rfl hS (Nat.le_of_ble_eq_true rfl) (Nat.le_of_ble_eq_true rfl) dJ7_copyOfRange_39247_16
  refine lv_iload_n hx hb dJ7_copyOfRange_39247_0 rfl (lv_at hl 1 rfl) ?_
  refine lv_if_ne (tgt := 10) hx hb dJ7_copyOfRange_39247_1 (by decide) (fun _ => go) (fun h0 => ?_)
  refine lv_iload_n hx hb dJ7_copyOfRange_39247_4 rfl (lv_at hl 2 rfl) ?_
  refine lv_aload_n hx hb dJ7_copyOfRange_39247_5 rfl (lv_at hl 0 rfl) ?_
  refine va_tlen hx hb hT (vS_w (A := NF) ⟨Nat.le_refl _, fun _ _ _ => rfl, fun _ h => by cases h⟩ (fun q z => z)) (v := nI n) rfl dJ7_copyOfRange_39247_6 ?_
  refine lv_icmp_eq (tgt := 17) hx hb dJ7_copyOfRange_39247_7 (by decide) (fun h1 => ?_) (fun _ => go)
  have h3 : i = 0 := by
    have h4 : nI i = 0 := h0
    by_cases h5 : i = 0
    · exact h5
    · exact absurd h4 (nI_ne0 (by omega) (by omega))
  have h4 := (nI_eq (by omega) (by omega)).mp h1
  omega
set_option maxHeartbeats 4000000 in
set_option maxRecDepth 100000 in
theorem metJ0_initB (F : FX l s0 b D T B) {q v : Nat} : gMet l yJ0_init_031fb cJ0_init_031fb 3 none rmu0 [.ref q, .ref v, .int 0] (fun H => va_P D vwCl [(q, .inr (0, [.null, .int 0, .int 0, .int 0]))] H) (KC s0 X) none (fun H => va_P D vwCl [(q, .inr (0, [.ref v, .int 0, .int 0, .int 0]))] H) (fun z => z = q) 0 0 := by
  refine gMet_of RJ0 (by decide +kernel) rfl (Nat.le_of_ble_eq_true rfl) ?_
  intro p e s m below meth c ls hx hb hr hlocks hml hown hts hnm hP hk hl hS
  have hC := FX_C F hk hx hb hown hts
  have hK := hC.2.2.2.2
  have hl : lv_has ls 3 [(0, .ref q), (1, .ref v), (2, .int 0)] := hl
  have hD : va_D (fun z => z = q) [(q, (.inr (0, [.null, .int 0, .int 0, .int 0]) : va_E))] := ⟨fun a b x y hx hy _ => by
      have h1 := (List.getElem?_eq_some_iff.mp hx).1
      have h2 := (List.getElem?_eq_some_iff.mp hy).1
      simp at h1 h2
      omega, fun k x hx => by
      have h1 := (List.getElem?_eq_some_iff.mp hx).1
      simp at h1
      subst h1
      cases hx
      rfl⟩
  refine lv_aload_n hx hb dJ0_init_031fb_0 rfl (lv_at hl 0 rfl) ?_
  refine al_init hC lo_J0_1 (hl.1.trans hml.symm) (Nat.le_of_ble_eq_true rfl) (Nat.le_of_ble_eq_true rfl) dJ0_init_031fb_1 ?_
  refine lv_aload_n hx hb dJ0_init_031fb_4 rfl (lv_at hl 0 rfl) ?_
  refine lv_aload_n hx hb dJ0_init_031fb_5 rfl (lv_at hl 1 rfl) ?_
  refine va_putF (C := RJ0) (T := TJ0) (N := 4) (ci := 0) hx hb hts uw_J0 tyJ0 tyJ0_ok nmJ0 hown hK hP hD hS 0 (fs := [.null, .int 0, .int 0, .int 0]) rfl rfl 0 (by decide) (hts _ fj_J0_9) (fun _ h => h) rfl (hnm.trans rfl) rfl (ty := .array .byte) (tyJ0_ok 0 (by decide)) rfl rfl (Nat.le_of_ble_eq_true rfl) dJ0_init_031fb_6 (fun H1 locs1 hP hD hS => ?_)
  refine lv_aload_n hx hb dJ0_init_031fb_9 rfl (lv_at hl 0 rfl) ?_
  refine lv_iload_n hx hb dJ0_init_031fb_10 rfl (lv_at hl 2 rfl) ?_
  refine va_putF (C := RJ0) (T := TJ0) (N := 4) (ci := 0) hx hb hts uw_J0 tyJ0 tyJ0_ok nmJ0 hown hK hP hD hS 0 (fs := [.ref v, .int 0, .int 0, .int 0]) rfl rfl 1 (by decide) (hts _ fj_J0_15) (fun _ h => h) rfl (hnm.trans rfl) rfl (ty := .byte) (tyJ0_ok 1 (by decide)) rfl rfl (Nat.le_of_ble_eq_true rfl) dJ0_init_031fb_11 (fun H1 locs1 hP hD hS => ?_)
  exact gw_vret hx hb hr hlocks hP hS (Nat.le_of_ble_eq_true rfl) (Nat.le_of_ble_eq_true rfl) dJ0_init_031fb_14
set_option maxHeartbeats 4000000 in
set_option maxRecDepth 100000 in
theorem metJ1_newString (F : FX l s0 b D T B) {i v : Nat} (hi : i < n) (h2 : 2 ≤ n) (hn : n < 2 ^ 31) (hc : t i < 256) : gNMet l yJ1_newString_b4f7a cJ1_newString_b4f7a 3 (some (.object RJ0)) rmu3 [.ref v, .int (nI i), .int 1] H0 (fun U => KC s0 X U ∧ va_T .byte v n (fun j => .int (sb_b (t j))) NF U U.heap) (PS1 D T (t i)) 2 5 := by
  refine gNMet_of RJ1 (by decide +kernel) rfl (Nat.le_of_ble_eq_true rfl) ?_
  intro p e s m below meth c ls hx hb hr hlocks hml hown hts hnm hH hk hl
  subst hH
  obtain ⟨hk, hT⟩ := hk
  have hS : va_S (NA s.heap) s.heap s.heap [] := va_S.rf
  have hC := FX_C F hk hx hb hown hts
  have hl : lv_has ls 3 [(0, .ref v), (1, .int (nI i)), (2, .int 1)] := hl
  obtain ⟨cT, g1, g2, g3, g4, g5, g6, g7⟩ := id hT
  have hlt : v < s.heap.size := (Array.getElem?_eq_some_iff.mp g1).1
  have hTA : va_T .byte v n (fun j => .int (sb_b (t j))) (NA s.heap) s s.heap := ⟨cT, g1, g2, g3, g4, g5, g6, Nat.not_le.mpr hlt⟩
  refine lv_iload_n hx hb dJ1_newString_b4f7a_0 rfl (lv_at hl 2 rfl) ?_
  refine lv_if_ne (tgt := 7) hx hb dJ1_newString_b4f7a_1 (by decide) (fun _ => ?_) (fun h => absurd h (by decide))
  refine al_obj (C := RJ0) (T := TJ0) (N := 4) (ci := 0) (ws := []) tyJ0 hC lcl_J1_1 uw_J0 tyJ0_ok rfl (fs := [.null, .int 0, .int 0, .int 0]) (fun j hj => by rcases (show j = 0 ∨ j = 1 ∨ j = 2 ∨ j = 3 by omega) with rfl | rfl | rfl | rfl <;> rfl) (fun k q h => by cases h) hS (Nat.le_of_ble_eq_true rfl) (Nat.le_of_ble_eq_true rfl) dJ1_newString_b4f7a_7 (fun H1 hP1 hS hz1 hk1 => ?_)
  refine lv_dup hx hb dJ1_newString_b4f7a_10 rfl ?_
  refine lv_aload_n hx hb dJ1_newString_b4f7a_11 rfl (lv_at hl 0 rfl) ?_
  refine lv_iload_n hx hb dJ1_newString_b4f7a_12 rfl (lv_at hl 1 rfl) ?_
  refine lv_iload_n hx hb dJ1_newString_b4f7a_13 rfl (lv_at hl 1 rfl) ?_
  refine lv_iload_n hx hb dJ1_newString_b4f7a_14 rfl (lv_at hl 2 rfl) ?_
  refine lv_iadd hx hb dJ1_newString_b4f7a_15 ?_
  rw [nI_1]
  have hS1 := hS
  refine gn_callS (As := [.ref v, .int (nI i), .int (nI (i + 1))]) (rest := [.ref s.heap.size, .ref s.heap.size]) hC hml hS (fun q h => by show s.heap.size ≤ q; omega) (fun U hU hWm => ⟨KC_na hk hS1 U hU hWm, by rw [hU]; exact (va_T.moved hWm.alike (hTA.kept hS1.2.1)).narrow (fun q z => z.elim)⟩) (fun U g mk ar h => h) (metJ7_copyRange (X := X) F hi h2 hn hc) ml_J1_232 ⟨rfl, rfl, (Nat.le_of_ble_eq_true rfl), (Nat.le_of_ble_eq_true rfl)⟩ rfl hl.1 rfl (Nat.le_of_ble_eq_true rfl) dJ1_newString_b4f7a_16 ⟨(Nat.le_of_ble_eq_true rfl), (Nat.le_of_ble_eq_true rfl)⟩ (fun q H2 locs2 hq hPB hS hz2 hk2 => ?_)
  have hPs : va_P D vwCl [(s.heap.size, .inr (0, [.null, .int 0, .int 0, .int 0]))] H2 := hP1.kept (fun k x hx => by
    have h1 := (List.getElem?_eq_some_iff.mp hx).1
    simp at h1
    subst h1
    cases hx
    exact hk2 _ (by show s.heap.size < H1.size; omega))
  refine lv_iconst (v := 0) hx hb dJ1_newString_b4f7a_19 (by decide) ?_
  have hS2 := hS
  refine gw_callI (a := s.heap.size) (As := [.ref q, .int 0]) (rest := [.ref s.heap.size]) hC hml hS (Wp := fun H => va_P D vwCl [(s.heap.size, .inr (0, [.null, .int 0, .int 0, .int 0]))] H) hPs (KC_na (X := X) hk hS2) KC_blind (metJ0_initB (X := X) (v := q) F) ml_J1_112 rfl (fun z hz => by subst hz; exact Nat.le_refl _) ⟨rfl, rfl, (Nat.le_of_ble_eq_true rfl), (Nat.le_of_ble_eq_true rfl)⟩ rfl hl.1 rfl (Nat.le_of_ble_eq_true rfl) dJ1_newString_b4f7a_20 ⟨(Nat.le_of_ble_eq_true rfl), (Nat.le_of_ble_eq_true rfl)⟩ (fun H3 locs3 hPt hS hz3 hk3 => ?_)
  obtain ⟨row, hr0, hPr⟩ := hPB
  refine gn_aret hx hb hr (Or.inl ⟨_, rfl⟩) hlocks (Nat.le_refl _) ⟨q, row, by omega, hr0, ?_⟩ rfl hS (Nat.le_of_ble_eq_true rfl) (Nat.le_of_ble_eq_true rfl) dJ1_newString_b4f7a_23
  refine va_P.app (w1 := [(q, .inl (T 7, 1, .inl row))]) (hPr.kept fun k x hx => ?_) hPt
  have h1 := (List.getElem?_eq_some_iff.mp hx).1
  simp at h1
  subst h1
  cases hx
  refine hk3 q ?_ (fun z => by have z : q = s.heap.size := z; omega)
  exact (hPr 0 _ rfl).lt
set_option maxHeartbeats 4000000 in
set_option maxRecDepth 100000 in
theorem metJ0_substring (F : FX l s0 b D T B) {i : Nat} (hi : i < n) (h2 : 2 ≤ n) : gNMet l yJ0_substring_37a41 cJ0_substring_37a41 5 (some (.object RJ0)) rmu4 [.ref a, .int (nI i), .int (nI (i + 1))] H0 (KV s0 X a n t) (PS1 D T (t i)) 2 5 := by
  refine gNMet_of RJ0 (by decide +kernel) rfl (Nat.le_of_ble_eq_true rfl) ?_
  intro p e s m below meth c ls hx hb hr hlocks hml hown hts hnm hH hkv hl
  subst hH
  obtain ⟨hk, hn, ht, v, hO, hC0, hV, hT⟩ := id hkv
  have hS : va_S NF s.heap s.heap [] := va_S.rf
  have hS0 : va_S (NA s.heap) s.heap s.heap [] := va_S.rf
  have hC := FX_C F hk hx hb hown hts
  have hl : lv_has ls 5 [(0, .ref a), (1, .int (nI i)), (2, .int (nI (i + 1)))] := hl
  have hrecv : ∃ cell : Cell, s.heap[a]? = some cell ∧ cell.vm.isStatics = false ∧ s.vm.findClass RJ0 = some cell.cls := by obtain ⟨cell, h1, h2, h3, -⟩ := hO; exact ⟨cell, h1, h2, h3⟩
  refine lv_aload_n hx hb dJ0_substring_37a41_0 rfl (lv_at hl 0 rfl) ?_
  refine gw_callV (As := []) (rest := []) hC hml hS0 (Wp := eqH s.heap) rfl (fun U hU hW => ⟨KC_na hk hS0 U hU hW, by rw [hU]; exact hkv.2.moved hW.alike⟩) KV_blind (metJ0_length (X := X) F) ml_J0_505 hrecv (fun q (z : False) => z.elim) ⟨rfl, rfl, (Nat.le_of_ble_eq_true rfl), (Nat.le_of_ble_eq_true rfl)⟩ rfl hl.1 rfl (Nat.le_of_ble_eq_true rfl) dJ0_substring_37a41_1 ⟨(Nat.le_of_ble_eq_true rfl), (Nat.le_of_ble_eq_true rfl)⟩ (fun H locs hW hS0 _ _ => ?_)
  cases hW
  refine lv_istore_n (lv' := [(3, .int (nI n)), (0, .ref a), (1, .int (nI i)), (2, .int (nI (i + 1)))]) hx hb dJ0_substring_37a41_4 rfl hl (by decide) rfl (fun ls hl => ?_)
  refine lv_iload_n hx hb dJ0_substring_37a41_5 rfl (lv_at hl 2 rfl) ?_
  refine lv_iload_n hx hb dJ0_substring_37a41_6 rfl (lv_at hl 3 rfl) ?_
  refine lv_iload_n hx hb dJ0_substring_37a41_7 rfl (lv_at hl 0 rfl) ?_
  refine gw_callS (As := [.int (nI i), .int (nI (i + 1)), .int (nI n)]) (rest := []) hC hml hS0 (Wp := eqH s.heap) rfl (KC_na (X := X) hk hS0) KC_blind (metJ0_checkBeginEnd (X := X) F (Nat.le_succ i) hi hn) ml_J0_521 (fun q (z : False) => z.elim) ⟨rfl, rfl, (Nat.le_of_ble_eq_true rfl), (Nat.le_of_ble_eq_true rfl)⟩ rfl hl.1 rfl (Nat.le_of_ble_eq_true rfl) dJ0_substring_37a41_8 ⟨(Nat.le_of_ble_eq_true rfl), (Nat.le_of_ble_eq_true rfl)⟩ (fun H locs hW hS0 _ _ => ?_)
  cases hW
  have go : W p l e rmu4 s m [.ref a, .int (nI i), .int (nI (i + 1))].toArray below meth c s.heap locs 0 0 (MQ below (gQn s.heap (PS1 D T (t i))) [.ref a, .int (nI i), .int (nI (i + 1))].toArray s 2 5 (NA s.heap)) (F0 m 22 ls []) := by
    refine lv_iload_n hx hb dJ0_substring_37a41_22 rfl (lv_at hl 3 rfl) ?_
    refine lv_iload_n hx hb dJ0_substring_37a41_23 rfl (lv_at hl 2 rfl) ?_
    refine lv_isub hx hb dJ0_substring_37a41_24 ?_
    have e1 : nI (i + 1) - nI i = 1 := by rw [show nI (i + 1) - nI i = nI (i + 1 - i) from pk_sub (by omega), show i + 1 - i = 1 by omega]; rfl
    rw [e1]
    refine lv_istore (lv' := [(4, .int 1), (3, .int (nI n)), (0, .ref a), (1, .int (nI i)), (2, .int (nI (i + 1)))]) hx hb dJ0_substring_37a41_25 hl (by decide) rfl (fun ls hl => ?_)
    refine lv_aload_n hx hb dJ0_substring_37a41_27 rfl (lv_at hl 2 rfl) ?_
    refine gw_callV (As := []) (rest := []) hC hml hS0 (Wp := eqH s.heap) rfl (fun U hU hW => ⟨KC_na hk hS0 U hU hW, by rw [hU]; exact hkv.2.moved hW.alike⟩) KV_blind (metJ0_isLatin1 (X := X) F) ml_J0_492 hrecv (fun q (z : False) => z.elim) ⟨rfl, rfl, (Nat.le_of_ble_eq_true rfl), (Nat.le_of_ble_eq_true rfl)⟩ rfl hl.1 rfl (Nat.le_of_ble_eq_true rfl) dJ0_substring_37a41_28 ⟨(Nat.le_of_ble_eq_true rfl), (Nat.le_of_ble_eq_true rfl)⟩ (fun H locs hW hS0 _ _ => ?_)
    cases hW
    refine lv_if_eq (tgt := 47) hx hb dJ0_substring_37a41_31 (by decide) (fun h => absurd h (by decide)) (fun _ => ?_)
    refine lv_aload_n hx hb dJ0_substring_37a41_34 rfl (lv_at hl 2 rfl) ?_
    obtain ⟨cf, kf, fi, ff, cell, f1, f2, f3, f4, f5, -⟩ := id hV
    refine vk_getf hx hb (A := NA s.heap) ⟨cf, kf, fi, ff, cell, f1, f2, f3, f4, f5, Nat.not_le.mpr (Array.getElem?_eq_some_iff.mp f3).1⟩ hS0 hown (hts _ fj_J0_9) (fun _ h => h) dJ0_substring_37a41_35 ?_
    refine lv_iload_n hx hb dJ0_substring_37a41_38 rfl (lv_at hl 3 rfl) ?_
    refine lv_iload hx hb dJ0_substring_37a41_39 (lv_at hl 0 rfl) ?_
    refine gn_callS (As := [.ref v, .int (nI i), .int 1]) (rest := []) hC hml hS0 (fun q h => h) (fun U hU hWm => ⟨KC_na hk hS0 U hU hWm, by rw [hU]; exact va_T.moved hWm.alike hT⟩) (fun U g mk ar h => h) (metJ1_newString (X := X) F hi h2 hn (ht i hi)) ml_J0_685 ⟨rfl, rfl, (Nat.le_of_ble_eq_true rfl), (Nat.le_of_ble_eq_true rfl)⟩ rfl hl.1 rfl (Nat.le_of_ble_eq_true rfl) dJ0_substring_37a41_41 ⟨(Nat.le_of_ble_eq_true rfl), (Nat.le_of_ble_eq_true rfl)⟩ (fun q H1 locs1 hq hP hS _ _ => ?_)
    refine lv_goto (tgt := 57) hx hb dJ0_substring_37a41_44 (by decide) ?_
    exact gn_aret hx hb hr (Or.inl ⟨_, rfl⟩) hlocks hq hP rfl hS (Nat.le_of_ble_eq_true rfl) (Nat.le_of_ble_eq_true rfl) dJ0_substring_37a41_57
  refine lv_iload_n hx hb dJ0_substring_37a41_11 rfl (lv_at hl 2 rfl) ?_
  refine lv_if_ne (tgt := 22) hx hb dJ0_substring_37a41_12 (by decide) (fun _ => go) (fun h0 => ?_)
  refine lv_iload_n hx hb dJ0_substring_37a41_15 rfl (lv_at hl 3 rfl) ?_
  refine lv_iload_n hx hb dJ0_substring_37a41_16 rfl (lv_at hl 0 rfl) ?_
  refine lv_icmp_ne (tgt := 22) hx hb dJ0_substring_37a41_17 (by decide) (fun _ => go) (fun h1 => ?_)
  have h3 : i = 0 := by
    have h4 : nI i = 0 := h0
    by_cases h5 : i = 0
    · exact h5
    · exact absurd h4 (nI_ne0 (by omega) (by omega))
  have h4 := (nI_eq (by omega) (by omega)).mp h1
  omega
end SUB
