/-! The start of the law. -/
theorem cl_L_8 : Cond.classLink RL 8 RX10 ∈ WG ∧ Cond.instantiable RX10 13 ∈ WG ∧ Cond.initialized RX10 ∈ WG := ⟨wg_t 36 (by decide +kernel) (by decide +kernel), wg_t 37 (by decide +kernel) (by decide +kernel), wg_t 1 (by decide +kernel) (by decide +kernel)⟩
theorem cl_L_189 : Cond.classLink RL 189 RX11 ∈ WG ∧ Cond.instantiable RX11 24 ∈ WG ∧ Cond.initialized RX11 ∈ WG := ⟨wg_t 1664 (by decide +kernel) (by decide +kernel), wg_t 1665 (by decide +kernel) (by decide +kernel), wg_t 13 (by decide +kernel) (by decide +kernel)⟩
theorem eCat_z {E g : Nat → va_E} {o : Nat} : eCat E 0 g o = g o := by unfold eCat; rw [if_neg (Nat.not_lt_zero _), Nat.sub_zero]
set_option maxHeartbeats 4000000 in
set_option maxRecDepth 100000 in
theorem law_start {p : Program} {l : Launch} {e : Env} {s : State} {m : MethodId} {below : List Frame} {meth : Method} {c : Code} {b L : Nat} {xs : Nat → Int32} {D : va_G} {T : Nat → ClassId} {B : Nat} {ls : Array Slot} (F : FX l s b D T B) (hB : s.heap.size = B) (C0 : lw_At p s m meth c b L xs) (hL : L ≤ 2560) (hl : lv_has ls 9 [(0, .ref b)]) : W p l e room_1 s m #[.ref b] below meth c s.heap [] 0 0 (lw_Z below #[Value.ref b] s) (F0 m 0 ls []) := by
  obtain ⟨hx, hb, hr, hml, hown, hts, hX, hbl, hlocks, hgv⟩ := id C0
  have hC : gC p c code s m #[.ref b] RL D vwCl (tysG T) := ⟨hx, hb, hown, fun w hw => hts w (wg_tbl hw), F.2.2.2.1⟩
  have hE : gE D B 0 (fun _ => .inl (T 0, 0, .inl z0)) s.heap := ⟨hB, fun o ho => absurd ho (Nat.not_lt_zero o)⟩
  have hS : va_S (AL B) s.heap s.heap [] := va_S.rf
  refine ge_obj (C := RX10) (T := TX10) (N := 13) (ci := 11) tyX10 hC cl_L_8 uw_X10 tyX10_ok rfl (fs := [.null, .null, .int 0, .null, .null, .null, .null, .null, .null, .int 0, .int 0, .int 0, .int 0]) (fun j hj => by rcases (show j = 0 ∨ j = 1 ∨ j = 2 ∨ j = 3 ∨ j = 4 ∨ j = 5 ∨ j = 6 ∨ j = 7 ∨ j = 8 ∨ j = 9 ∨ j = 10 ∨ j = 11 ∨ j = 12 by omega) with rfl | rfl | rfl | rfl | rfl | rfl | rfl | rfl | rfl | rfl | rfl | rfl | rfl <;> rfl) hE hS (Nat.le_of_ble_eq_true rfl) (Nat.le_of_ble_eq_true rfl) dL_law_0 (fun H hE hS => ?_)
  refine lv_dup hx hb dL_law_3 rfl ?_
  refine gw_callI (a := B + 0) (As := []) (v := none) hC hml hS hE (KC_law F.2.2.2.2 hS (X := fun _ => False) (fun q z => z.elim)) KC_blind (metX10_init (X := fun _ => False) F (eup_at rfl)) ml_L_188 rfl (fun q hq => hq) ⟨rfl, rfl, (Nat.le_of_ble_eq_true rfl), (Nat.le_of_ble_eq_true rfl)⟩ rfl hl.1 rfl (Nat.le_of_ble_eq_true rfl) dL_law_4 ⟨(Nat.le_of_ble_eq_true rfl), (Nat.le_of_ble_eq_true rfl)⟩ (fun H1 locs1 hE1 hS1 _ _ => ?_)
  refine lv_astore_n (lv' := [(1, .ref (B + 0)), (0, .ref b)]) hx hb dL_law_7 rfl hl (by decide) rfl (fun ls hl => ?_)
  have hG : ∀ o, o < 562 → va_at D vwCl (B + o, gxGa T B 0 o) H1 := fun o ho => by
    have h := hE1.2 o (by omega)
    rw [eCat_z] at h
    exact h
  have hz1 : H1.size = B + 562 := hE1.1.trans (by omega)
  refine va_forget (fun q hq => by rw [hB]; exact hS1.2.2 q hq) ?_
  have hE2 : gE D (B + 562) 0 (fun _ => .inl (T 0, 0, .inl z0)) H1 := ⟨hz1, fun o ho => absurd ho (Nat.not_lt_zero o)⟩
  have hS2 : va_S (AL (B + 562)) H1 H1 [] := va_S.rf
  clear hE hS
  refine ge_obj (C := RX11) (T := TX11) (N := 24) (ci := 12) tyX11 hC cl_L_189 uw_X11 tyX11_ok rfl (fs := [.null, .null, .null, .int 0, .null, .int 0, .int 0, .int 0, .int 0, .null, .null, .null, .null, .int 0, .null, .int 0, .null, .int 0, .int 0, .int 0, .int 0, .int 0, .null, .int 0]) (fun j hj => by rcases (show j = 0 ∨ j = 1 ∨ j = 2 ∨ j = 3 ∨ j = 4 ∨ j = 5 ∨ j = 6 ∨ j = 7 ∨ j = 8 ∨ j = 9 ∨ j = 10 ∨ j = 11 ∨ j = 12 ∨ j = 13 ∨ j = 14 ∨ j = 15 ∨ j = 16 ∨ j = 17 ∨ j = 18 ∨ j = 19 ∨ j = 20 ∨ j = 21 ∨ j = 22 ∨ j = 23 by omega) with rfl | rfl | rfl | rfl | rfl | rfl | rfl | rfl | rfl | rfl | rfl | rfl | rfl | rfl | rfl | rfl | rfl | rfl | rfl | rfl | rfl | rfl | rfl | rfl <;> rfl) hE2 hS2 (Nat.le_of_ble_eq_true rfl) (Nat.le_of_ble_eq_true rfl) dL_law_8 (fun H hE hS => ?_)
  refine lv_dup hx hb dL_law_11 rfl ?_
  refine gw_callI (a := B + 562 + 0) (As := []) (v := none) hC hml hS hE (KC_law F.2.2.2.2 (va_S_tr hS1 hS (by omega)) (X := fun _ => False) (fun q z => z.elim)) KC_blind (metX11_init (X := fun _ => False) (FX_at F (by omega)) (eup_at rfl)) ml_L_191 rfl (fun q hq => hq) ⟨rfl, rfl, (Nat.le_of_ble_eq_true rfl), (Nat.le_of_ble_eq_true rfl)⟩ rfl hl.1 rfl (Nat.le_of_ble_eq_true rfl) dL_law_12 ⟨(Nat.le_of_ble_eq_true rfl), (Nat.le_of_ble_eq_true rfl)⟩ (fun H3 locs3 hE3 hS3 _ _ => ?_)
  clear hE hS
  refine lv_astore_n (lv' := [(2, .ref (B + 562 + 0)), (1, .ref (B + 0)), (0, .ref b)]) hx hb dL_law_15 rfl hl (by decide) rfl (fun ls hl => ?_)
  refine lv_iconst (v := 1) hx hb dL_law_16 (by decide) ?_
  refine ge_arr (ty := .long) (t0 := 8) (cA := T 8) (n0 := 1) (a0 := (1, .inr (.inl (fun _ => 0)))) hC lac_long rfl rfl hE3 hS3 rfl (by decide) (by decide) (Nat.le_of_ble_eq_true rfl) (Nat.le_of_ble_eq_true rfl) (Nat.le_of_ble_eq_true rfl) dL_law_17 (fun H hE hS => ?_)
  refine lv_astore_n (lv' := [(3, .ref (B + 574)), (2, .ref (B + 562 + 0)), (1, .ref (B + 0)), (0, .ref b)]) hx hb dL_law_19 rfl hl (by decide) rfl (fun ls hl => ?_)
  refine lv_iconst (v := 1) hx hb dL_law_20 (by decide) ?_
  refine ge_arr (ty := .double) (t0 := 9) (cA := T 9) (n0 := 1) (a0 := (1, .inr (.inr (.inr (.inl (fun _ => 0)))))) hC lac_double rfl rfl hE hS rfl (by decide) (by decide) (Nat.le_of_ble_eq_true rfl) (Nat.le_of_ble_eq_true rfl) (Nat.le_of_ble_eq_true rfl) dL_law_21 (fun H hE hS => ?_)
  refine lv_astore (lv' := [(4, .ref (B + 575)), (3, .ref (B + 574)), (2, .ref (B + 562 + 0)), (1, .ref (B + 0)), (0, .ref b)]) hx hb dL_law_23 hl (by decide) rfl (fun ls hl => ?_)
  refine lv_iconst (v := nI (5 * 0)) hx hb dL_law_25 (by decide) ?_
  refine lv_istore (lv' := LV b B (nI (5 * 0))) hx hb dL_law_26 hl (by decide) rfl (fun ls hl => ?_)
  have hI : LI s D T B mu0 16 [] nu0 (fun _ => 0) (fun _ => 0) H := by
    refine ⟨gWS_first (fun z => by have : B + 562 ≤ B + 561 := z.1; omega) (fun o ho => (hG o ho).kept (hS.2.1 (B + o) (by omega) (fun z => by have : B + 562 ≤ B + o := z; omega))), gWM_first (fun o ho => ?_), ?_, ?_⟩
    · have h := hE.2 o (by omega)
      rw [eup_ne (by omega), eup_ne (by omega), eCat_z] at h
      exact h
    · have h := hE.2 12 (by omega)
      rw [eup_ne (by omega), eup_at (by omega)] at h
      exact h
    · have h := hE.2 13 (by omega)
      rw [eup_at (by omega)] at h
      exact h
  refine W.widen (k := 576 + 1450 * 0) (n := 19317 + 13186 * 0) (Nat.le_of_ble_eq_true rfl) (Nat.le_of_ble_eq_true rfl) ?_
  exact law_loop (N := 1200000000000) F (Nat.le_refl _) (dcN_ok (by decide)) C0 hL 513 0 rfl (Nat.zero_le _) mu0 16 [] nu0 _ _ H _ ls RR_first (by decide) hI (va_S_tr hS1 hS (by omega)) hl
set_option maxHeartbeats 4000000 in
set_option maxRecDepth 100000 in
theorem whole_start {p : Program} {e : Env} {s : State} {m : MethodId} {below : List Frame} {meth : Method} {c : Code} (l : Launch) (hflags : l.flags = flags0) {b L : Nat} {xs : Nat → Int32} (hL : L ≤ 2560) (C0 : lw_At p s m meth c b L xs) : W p l e room_1 s m #[Value.ref b] below meth c s.heap [] 0 0 (lw_Z below #[Value.ref b] s) (entryFrame m ([Value.ref b] : List Value).toArray 9) := by
  obtain ⟨D, T, hF⟩ := FX_start hflags C0.2.2.2.2.2.1 C0.2.2.2.2.2.2.2.2.2
  have hl := lv_entry ([.ref b]) (n := 9) (Nat.le_of_ble_eq_true rfl)
  rw [lg_entry_eq]
  generalize (lg_sl ([.ref b]) ++ List.replicate (9 - (lg_sl ([.ref b])).length) Slot.unset).toArray = ls at hl ⊢
  exact law_start (hF s.heap.size (Nat.le_refl _)) rfl C0 hL hl
