/-! The text builder's text as a String. -/
theorem lenO : ∀ w ∈ va_wsO RJ0 549 RJ4 RJ5 yJ5_length_8abf5 yJ4_length_8abf5 (.code yJ4_length_8abf5 cJ4_length_8abf5 1 (some .int) :: WG), w ∈ WG := fun w h => by
  rcases List.mem_append.mp h with h | h
  · simp only [List.mem_cons, List.mem_nil_iff, or_false] at h
    rcases h with rfl | rfl | rfl | rfl | rfl | rfl
    · exact wg_t 1397 (by decide +kernel) (by decide +kernel)
    · exact wg_t 1399 (by decide +kernel) (by decide +kernel)
    · exact wg_t 1398 (by decide +kernel) (by decide +kernel)
    · exact wg_t 1400 (by decide +kernel) (by decide +kernel)
    · exact wg_t 1401 (by decide +kernel) (by decide +kernel)
    · exact wg_t 10 (by decide +kernel) (by decide +kernel)
  · rcases List.mem_cons.mp h with rfl | h
    · exact wg_t 1402 (by decide +kernel) (by decide +kernel)
    · exact h
theorem len5c : Cond.code yJ5_length_8abf5 cJ5_length_8abf5 1 (some .int) ∈ WG := wg_t 1404 (by decide +kernel) (by decide +kernel)
abbrev rmk0 : Room := { frames := 2, cells := 0, slots := 0, locals := 60 }
abbrev rmk1 : Room := { frames := 7, cells := 1, slots := 300, locals := 180 }
abbrev rmk2 : Room := { frames := 8, cells := 1, slots := 300, locals := 220 }
abbrev rmk3 : Room := { frames := 9, cells := 2, slots := 304, locals := 260 }
section TOS
variable {l : Launch} {s0 : State} {b B : Nat} {D : va_G} {T : Nat → ClassId} {X : Nat → Prop} {H0 : Heap} {sb v cap n a h0 : Nat} {row : Nat → Int32} {mb : Int32}
set_option maxHeartbeats 4000000 in
set_option maxRecDepth 100000 in
theorem metJ5_getValue (F : FX l s0 b D T B) : gMet l yJ5_getValue_6d5f1 cJ5_getValue_6d5f1 1 (some (.array .byte)) rmk0 [.ref sb] (eqH H0) (KS s0 X D (SBp T sb v cap row mb (nI n))) (some (.ref v)) (eqH H0) NF 0 0 := by
  refine gMet_of RJ5 (by decide +kernel) rfl (Nat.le_of_ble_eq_true rfl) ?_
  intro p e s m below meth c ls hx hb hr hlocks hml hown hts hnm hW hks hl hS
  obtain ⟨hk, hP⟩ := id hks
  have hK := (FX_C F hk hx hb hown hts).2.2.2.2
  have hl : lv_has ls 1 [(0, .ref sb)] := hl
  refine lv_aload_n hx hb dJ5_getValue_6d5f1_0 rfl (lv_at hl 0 rfl) ?_
  refine va_get (C := RJ4) (T := TJ4) (N := 4) (ci := 1) hx hb hts uw_J4 hown hK hP 0 rfl rfl 0 (by decide) (hts _ fj_J5_15) (fun _ h => h) (v := .ref v) rfl dJ5_getValue_6d5f1_1 ?_
  exact W.widen (Nat.le_of_ble_eq_true rfl) (Nat.le_of_ble_eq_true rfl) (W.aret hx hb hr (Or.inr ⟨_, rfl⟩) (Or.inr ⟨_, rfl⟩) (fun t ht _ => ⟨rfl, by rw [ht]; exact hW, hS.F ht⟩) hS.2.2 dJ5_getValue_6d5f1_4 hlocks)
set_option maxHeartbeats 4000000 in
set_option maxRecDepth 100000 in
theorem metJ0_initSB (F : FX l s0 b D T B) (hqs : a ≠ sb) (hqv : a ≠ v) (hq0 : s0.heap.size ≤ a) (hh0 : s0.heap.size ≤ h0) (hn : n ≤ cap) (hcap : cap ≤ 300) (hfit : sb_Fit row) : gMet l yJ0_init_db425 cJ0_init_db425 5 none rmk1 [.ref a, .ref sb, .null] (fun H => H.size = h0 ∧ va_P D vwCl [(a, .inr (0, [.null, .int 0, .int 0, .int 0]))] H) (KS s0 X D (SBp T sb v cap row mb (nI n))) none (PSn D T h0 n row a) (fun z => z = a ∨ h0 ≤ z) 1 300 := by
  refine gMet_of RJ0 (by decide +kernel) rfl (Nat.le_of_ble_eq_true rfl) ?_
  intro p e s m below meth c ls hx hb hr hlocks hml hown hts hnm hW hks hl hS
  obtain ⟨hz0, hP⟩ := hW
  obtain ⟨hk, hPb⟩ := id hks
  have hC := FX_C F hk hx hb hown hts
  have hK := hC.2.2.2.2
  have hl : lv_has ls 5 [(0, .ref a), (1, .ref sb), (2, .null)] := hl
  have hA0 : ∀ z, (fun z => z = a ∨ h0 ≤ z) z → s0.heap.size ≤ z := fun z hz => hz.elim (fun e => by have e : z = a := e; omega) (fun e => by have e : h0 ≤ z := e; omega)
  have hsbl : sb < s.heap.size := (hPb 0 _ rfl).lt
  have hvl : v < s.heap.size := (hPb 1 _ rfl).lt
  have hal : a < s.heap.size := (hP 0 _ rfl).lt
  have keepB : ∀ {H1 : Heap} {locs : List Loc}, va_S (fun z => z = a ∨ h0 ≤ z) s.heap H1 locs → va_P D vwCl (SBp T sb v cap row mb (nI n)) H1 := fun hS1 => hPb.kept (fun k x hx9 => by
    have h1 := (List.getElem?_eq_some_iff.mp hx9).1
    have h1 : k < 2 := h1
    rcases (show k = 0 ∨ k = 1 by omega) with rfl | rfl
    · cases hx9
      exact hS1.2.1 _ hsbl (fun z => z.elim (fun e => hqs (show sb = a from e).symm) (fun e => by have e : h0 ≤ sb := e; omega))
    · cases hx9
      exact hS1.2.1 _ hvl (fun z => z.elim (fun e => hqv (show v = a from e).symm) (fun e => by have e : h0 ≤ v := e; omega)))
  refine lv_aload_n hx hb dJ0_init_db425_0 rfl (lv_at hl 0 rfl) ?_
  refine al_init hC lo_J0_1 (hl.1.trans hml.symm) (Nat.le_of_ble_eq_true rfl) (Nat.le_of_ble_eq_true rfl) dJ0_init_db425_1 ?_
  refine lv_aload_n hx hb dJ0_init_db425_4 rfl (lv_at hl 1 rfl) ?_
  have hSa := hS
  refine gw_callVC (C := RJ4) (As := []) (rest := []) hC hml hS (Wp := eqH s.heap) rfl (fun U hU hWm => ⟨KC_gen hk hA0 hSa U hU hWm, by rw [hU]; exact hPb⟩) KS_blind (metJ5_getValue (X := X) F) gm_J0_552 (hts _ sel_getValue) (sb_recv (q0 := 0) hK hPb rfl) (fun q (z : False) => z.elim) ⟨rfl, rfl, (Nat.le_of_ble_eq_true rfl), (Nat.le_of_ble_eq_true rfl)⟩ rfl hl.1 rfl (Nat.le_of_ble_eq_true rfl) dJ0_init_db425_5 ⟨(Nat.le_of_ble_eq_true rfl), (Nat.le_of_ble_eq_true rfl)⟩ (fun H locs hW hS _ _ => ?_)
  cases hW
  refine lv_astore_n (lv' := [(3, .ref v), (0, .ref a), (1, .ref sb), (2, .null)]) hx hb dJ0_init_db425_8 rfl hl (by decide) rfl (fun ls hl => ?_)
  refine lv_aload_n hx hb dJ0_init_db425_9 rfl (lv_at hl 2 rfl) ?_
  have hSb := hS
  refine gw_ret (As := [.ref sb]) (va_runU (C := RJ4) (owner := RJ5) (x := yJ5_length_8abf5) (As := []) (rest := []) ⟨hx, hb, hml, hown, hts⟩ (metJ4_length (X := X) (H0 := s.heap) F) (va_cwO 0 hts (fun w h => ⟨lenO w h, wg_good (lenO w h)⟩) rfl rfl rfl len5c ⟨by decide, by decide, by decide⟩ ⟨(Nat.le_of_ble_eq_true rfl), (Nat.le_of_ble_eq_true rfl)⟩) ⟨gPc_blind KS_blind, sb_recv (q0 := 0) hK hPb rfl, fun U hU hWm => ⟨rfl, hU, KC_gen hk hA0 hSb U hU hWm, by rw [hU]; exact hPb⟩⟩ rfl rfl hl.1 rfl (lv_room (Nat.le_of_ble_eq_true rfl)) dJ0_init_db425_10 ⟨(Nat.le_of_ble_eq_true rfl), (Nat.le_of_ble_eq_true rfl)⟩) hS (fun q (z : False) => z.elim) (fun H locs hW hS _ _ => ?_)
  cases hW
  refine lv_istore (lv' := [(4, .int (nI n)), (3, .ref v), (0, .ref a), (1, .ref sb), (2, .null)]) hx hb dJ0_init_db425_13 hl (by decide) rfl (fun ls hl => ?_)
  refine lv_aload_n hx hb dJ0_init_db425_15 rfl (lv_at hl 3 rfl) ?_
  have hSc := hS
  refine gw_callVC (C := RJ4) (As := []) (rest := []) hC hml hS (Wp := eqH s.heap) rfl (fun U hU hWm => ⟨KC_gen hk hA0 hSc U hU hWm, by rw [hU]; exact hPb⟩) KS_blind (metJ5_isLatin1 (X := X) F) gm_J0_1047 (hts _ sel_isLatin) (sb_recv (q0 := 0) hK hPb rfl) (fun q (z : False) => z.elim) ⟨rfl, rfl, (Nat.le_of_ble_eq_true rfl), (Nat.le_of_ble_eq_true rfl)⟩ rfl hl.1 rfl (Nat.le_of_ble_eq_true rfl) dJ0_init_db425_16 ⟨(Nat.le_of_ble_eq_true rfl), (Nat.le_of_ble_eq_true rfl)⟩ (fun H locs hW hS _ _ => ?_)
  cases hW
  refine lv_if_eq (tgt := 41) hx hb dJ0_init_db425_19 (by decide) (fun h => absurd h (by decide)) (fun _ => ?_)
  refine lv_aload_n hx hb dJ0_init_db425_22 rfl (lv_at hl 2 rfl) ?_
  refine lv_iconst (v := 0) hx hb dJ0_init_db425_23 (by decide) ?_
  refine va_putF (C := RJ0) (T := TJ0) (N := 4) (ci := 0) hx hb hts uw_J0 tyJ0 tyJ0_ok nmJ0 hown hK hP (one_D (Or.inl rfl)) hS 0 (fs := [.null, .int 0, .int 0, .int 0]) rfl rfl 1 (by decide) (hts _ fj_J0_15) (fun _ h => h) rfl (hnm.trans rfl) rfl (ty := .byte) (tyJ0_ok 1 (by decide)) rfl rfl (Nat.le_of_ble_eq_true rfl) dJ0_init_db425_24 (fun H1 locs1 hP1 _ hS1 => ?_)
  refine lv_aload_n hx hb dJ0_init_db425_27 rfl (lv_at hl 2 rfl) ?_
  refine lv_aload_n hx hb dJ0_init_db425_28 rfl (lv_at hl 1 rfl) ?_
  refine lv_iconst (v := 0) hx hb dJ0_init_db425_29 (by decide) ?_
  refine lv_iload hx hb dJ0_init_db425_30 (lv_at hl 0 rfl) ?_
  have hz1 : h0 ≤ H1.size := by have := hS1.1; omega
  have hPb1 := keepB hS1
  refine gn_callS (As := [.ref v, .int 0, .int (nI n)]) (rest := [.ref a]) hC hml hS1 (fun q h => Or.inr (by have h : H1.size ≤ q := h; omega)) (fun U hU hWm => ⟨KC_gen hk hA0 hS1 U hU hWm, by rw [hU]; exact one_P (hPb1 1 _ rfl)⟩) KS_blind (metJ7_copyRangeN (X := X) F hn hcap hfit) ml_J0_54 ⟨rfl, rfl, (Nat.le_of_ble_eq_true rfl), (Nat.le_of_ble_eq_true rfl)⟩ rfl hl.1 rfl (Nat.le_of_ble_eq_true rfl) dJ0_init_db425_32 ⟨(Nat.le_of_ble_eq_true rfl), (Nat.le_of_ble_eq_true rfl)⟩ (fun w H2 locs2 hw hPc hS2 _ hk2 => ?_)
  obtain ⟨row', hr1, hPw⟩ := hPc
  have hPa2 : va_P D vwCl [(a, .inr (0, [.null, .int 0, .int 0, .int 0]))] H2 := one_P ((hP1 0 _ rfl).kept (hk2 _ (by have := hS1.1; omega)))
  have haw : a ≠ w := by have := hS1.1; omega
  have hPp : va_P D vwCl [(a, .inr (0, [.null, .int 0, .int 0, .int 0])), (w, .inl (T 7, n, .inl row'))] H2 := hPa2.app hPw
  refine va_putF (C := RJ0) (T := TJ0) (N := 4) (ci := 0) hx hb hts uw_J0 tyJ0 tyJ0_ok nmJ0 hown hK hPp (pair_D (A := fun z => z = a ∨ h0 ≤ z) haw (Or.inl rfl) (Or.inr (by omega))) hS2 0 (fs := [.null, .int 0, .int 0, .int 0]) rfl rfl 0 (by decide) (hts _ fj_J0_9) (fun _ h => h) rfl (hnm.trans rfl) rfl (ty := .array .byte) (tyJ0_ok 0 (by decide)) rfl rfl (Nat.le_of_ble_eq_true rfl) dJ0_init_db425_35 (fun H3 locs3 hP3 _ hS3 => ?_)
  refine lv_goto (tgt := 97) hx hb dJ0_init_db425_38 (by decide) ?_
  exact gw_vret hx hb hr hlocks ⟨w, row', by omega, hr1, hP3⟩ hS3 (Nat.le_of_ble_eq_true rfl) (Nat.le_of_ble_eq_true rfl) dJ0_init_db425_97
set_option maxHeartbeats 4000000 in
set_option maxRecDepth 100000 in
theorem metJ0_initSB1 (F : FX l s0 b D T B) (hqs : a ≠ sb) (hqv : a ≠ v) (hq0 : s0.heap.size ≤ a) (hh0 : s0.heap.size ≤ h0) (hn : n ≤ cap) (hcap : cap ≤ 300) (hfit : sb_Fit row) : gMet l yJ0_init_81219 cJ0_init_81219 2 none rmk2 [.ref a, .ref sb] (fun H => H.size = h0 ∧ va_P D vwCl [(a, .inr (0, [.null, .int 0, .int 0, .int 0]))] H) (KS s0 X D (SBp T sb v cap row mb (nI n))) none (PSn D T h0 n row a) (fun z => z = a ∨ h0 ≤ z) 1 300 := by
  refine gMet_of RJ0 (by decide +kernel) rfl (Nat.le_of_ble_eq_true rfl) ?_
  intro p e s m below meth c ls hx hb hr hlocks hml hown hts hnm hW hks hl hS
  obtain ⟨hk, hPb⟩ := id hks
  have hC := FX_C F hk hx hb hown hts
  have hl : lv_has ls 2 [(0, .ref a), (1, .ref sb)] := hl
  have hA0 : ∀ z, (fun z => z = a ∨ h0 ≤ z) z → s0.heap.size ≤ z := fun z hz => hz.elim (fun e => by have e : z = a := e; omega) (fun e => by have e : h0 ≤ z := e; omega)
  refine lv_aload_n hx hb dJ0_init_81219_0 rfl (lv_at hl 0 rfl) ?_
  refine lv_aload_n hx hb dJ0_init_81219_1 rfl (lv_at hl 1 rfl) ?_
  refine lv_null hx hb dJ0_init_81219_2 ?_
  have hSa := hS
  refine gw_callI (a := a) (As := [.ref sb, .null]) (rest := []) hC hml hS (Wp := fun H => H.size = h0 ∧ va_P D vwCl [(a, .inr (0, [.null, .int 0, .int 0, .int 0]))] H) hW (fun U hU hWm => ⟨KC_gen hk hA0 hSa U hU hWm, by rw [hU]; exact hPb⟩) KS_blind (metJ0_initSB (X := X) F hqs hqv hq0 hh0 hn hcap hfit) ml_J0_489 rfl (fun _ h => h) ⟨rfl, rfl, (Nat.le_of_ble_eq_true rfl), (Nat.le_of_ble_eq_true rfl)⟩ rfl hl.1 rfl (Nat.le_of_ble_eq_true rfl) dJ0_init_81219_3 ⟨(Nat.le_of_ble_eq_true rfl), (Nat.le_of_ble_eq_true rfl)⟩ (fun H1 locs1 hW1 hS1 _ _ => ?_)
  exact gw_vret hx hb hr hlocks hW1 hS1 (Nat.le_of_ble_eq_true rfl) (Nat.le_of_ble_eq_true rfl) dJ0_init_81219_6
set_option maxHeartbeats 4000000 in
set_option maxRecDepth 100000 in
theorem metJ4_toString (F : FX l s0 b D T B) (hn : n ≤ cap) (hcap : cap ≤ 300) (hfit : sb_Fit row) : gNMet l yJ4_toString_0e30d cJ4_toString_0e30d 1 (some (.object RJ0)) rmk3 [.ref sb] H0 (KS s0 X D (SBp T sb v cap row mb (nI n))) (PSn D T H0.size n row) 2 304 := by
  refine gNMet_of RJ4 (by decide +kernel) rfl (Nat.le_of_ble_eq_true rfl) ?_
  intro p e s m below meth c ls hx hb hr hlocks hml hown hts hnm hH hks hl
  subst hH
  obtain ⟨hk, hPb⟩ := id hks
  have hS : va_S (NA s.heap) s.heap s.heap [] := va_S.rf
  have hC := FX_C F hk hx hb hown hts
  have hl : lv_has ls 1 [(0, .ref sb)] := hl
  have hsbl : sb < s.heap.size := (hPb 0 _ rfl).lt
  have hvl : v < s.heap.size := (hPb 1 _ rfl).lt
  refine al_obj (C := RJ0) (T := TJ0) (N := 4) (ci := 0) (ws := []) tyJ0 hC cl_J4_18 uw_J0 tyJ0_ok rfl (fs := [.null, .int 0, .int 0, .int 0]) (fun j hj => by rcases (show j = 0 ∨ j = 1 ∨ j = 2 ∨ j = 3 by omega) with rfl | rfl | rfl | rfl <;> rfl) (fun k q h => by cases h) hS (Nat.le_of_ble_eq_true rfl) (Nat.le_of_ble_eq_true rfl) dJ4_toString_0e30d_0 (fun H1 hP1 hS1 hz1 hk1 => ?_)
  refine lv_dup hx hb dJ4_toString_0e30d_3 rfl ?_
  refine lv_aload_n hx hb dJ4_toString_0e30d_4 rfl (lv_at hl 0 rfl) ?_
  have hPb1 : va_P D vwCl (SBp T sb v cap row mb (nI n)) H1 := hPb.kept (fun k x hx9 => hk1 _ (hPb k x hx9).lt)
  refine gw_callI (a := s.heap.size) (As := [.ref sb]) (rest := [.ref s.heap.size]) hC hml hS1 (Wp := fun H => H.size = s.heap.size + 1 ∧ va_P D vwCl [(s.heap.size, .inr (0, [.null, .int 0, .int 0, .int 0]))] H) ⟨hz1, hP1⟩ (fun U hU hWm => ⟨KC_na hk hS1 U hU hWm, by rw [hU]; exact hPb1⟩) KS_blind (metJ0_initSB1 (X := X) (h0 := s.heap.size + 1) F (by omega) (by omega) hk.2.1 (by have := hk.2.1; omega) hn hcap hfit) ml_J4_137 rfl (fun z hz => by
    show s.heap.size ≤ z
    rcases hz with hz | hz
    · have hz : z = s.heap.size := hz
      omega
    · have hz : s.heap.size + 1 ≤ z := hz
      omega) ⟨rfl, rfl, (Nat.le_of_ble_eq_true rfl), (Nat.le_of_ble_eq_true rfl)⟩ rfl hl.1 rfl (Nat.le_of_ble_eq_true rfl) dJ4_toString_0e30d_5 ⟨(Nat.le_of_ble_eq_true rfl), (Nat.le_of_ble_eq_true rfl)⟩ (fun H2 locs2 hW2 hS2 _ _ => ?_)
  obtain ⟨w, row', hw, hr1, hP2⟩ := hW2
  exact gn_aret hx hb hr (Or.inl ⟨_, rfl⟩) hlocks (Nat.le_refl _) ⟨w, row', by omega, hr1, hP2⟩ rfl hS2 (Nat.le_of_ble_eq_true rfl) (Nat.le_of_ble_eq_true rfl) dJ4_toString_0e30d_8
end TOS
