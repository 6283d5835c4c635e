/-! Printed by program: the cases of the law's loop. -/
set_option maxHeartbeats 4000000 in
set_option maxRecDepth 100000 in
theorem op_0 {p : Program} {l : Launch} {e : Env} {s : State} {m : MethodId} {below : List Frame} {meth : Method} {c : Code} {b L : Nat} {xs : Nat → Int32} {D : va_G} {T : Nat → ClassId} {B N j cells slots : Nat} {Q : State → Prop} {μ ν : Mem} {cap : Nat} {t : List Nat} {f : Nat → Int64} {g : Nat → UInt64} {H : Heap} {locs : List Loc} {ls : Array Slot} (F : FX l s b D T B) (hN : 1200000000000 ≤ N) (hNP : ∀ x ds, dcN x = some ds → NumP N x ds) (C0 : lw_At p s m meth c b L xs) (hL : L ≤ 2560) (hj : 5 * j + 5 ≤ L) (hR : RR μ ν 0 t) (hcap : cap ≤ 70) (hI : LI s D T B μ cap t ν f g H) (hS : va_S (AL B) s.heap H locs) (hl : lv_has ls 9 (LV b B (nI (5 * j)))) (hce : cells + 1450 ≤ room_1.cells) (hsl : slots + 13186 ≤ room_1.slots) (kk : LK p l e s m b below meth c D T B j cells slots Q) : W p l e room_1 s m #[.ref b] below meth c H locs cells slots Q (F0 m 296 ls []) := by
  obtain ⟨hx, hb, hr, hml, hown, hts, hX, hbl, hlocks, hgv⟩ := C0
  have hC : gC p c code s m #[.ref b] RL D vwCl (tysG T) := ⟨hx, hb, hown, fun w hw => hts w (wg_tbl hw), F.2.2.2.1⟩
  have hbA : ¬ AL B b := Nat.not_le.mpr (Nat.lt_of_lt_of_le hbl F.2.2.2.2)
  obtain ⟨r, hf, r', hf', hR', hSm⟩ := (o_addRoom (by omega) hR : Ok (fX10_addRoom N μ 0 (xs (nI (5 * j) + 1).toNatClampNeg)) _)
  obtain ⟨h6, h0⟩ := Sm_k hSm (by decide) (by decide)
  refine lv_aload_n hx hb dL_law_296 rfl (lv_at hl 4 rfl) ?_
  refine lv_aload_n hx hb dL_law_297 rfl (lv_at hl 5 rfl) ?_
  refine lv_iload hx hb dL_law_298 (lv_at hl 0 rfl) ?_
  refine lv_iconst (v := 1) hx hb dL_law_300 (by decide) ?_
  refine lv_iadd hx hb dL_law_301 ?_
  refine va_sld hx hb hX hbl hbA hS (sc_in 1 hj hL (by decide)) dL_law_302 ?_
  refine lv_aload_n hx hb dL_law_303 rfl (lv_at hl 2 rfl) ?_
  refine gl_wr (As := [.ref (B + 0), .int (xs (nI (5 * j) + 1).toNatClampNeg), .ref (B + 574)]) (rest := []) F hC hml hS hI (metL_addRoom F Xc_g Xc_ob hf (Sm2 hSm)) mw_L_192 ⟨rfl, rfl, (Nat.le_of_ble_eq_true rfl), (Nat.le_of_ble_eq_true rfl)⟩ rfl hl.1 rfl (Nat.le_of_ble_eq_true rfl) dL_law_304 ⟨by omega, by omega⟩ (fun H locs hI hS => ?_)
  refine lv_istore (lv' := [(6, .int (kL [1, 2] r.2)), (5, .int (nI (5 * j))), (4, .ref (B + 575)), (3, .ref (B + 574)), (2, .ref (B + 562 + 0)), (1, .ref (B + 0)), (0, .ref b)]) hx hb dL_law_307 hl (by decide) rfl (fun ls hl => ?_)
  refine lv_aload_n hx hb dL_law_309 rfl (lv_at hl 4 rfl) ?_
  refine lv_aload_n hx hb dL_law_310 rfl (lv_at hl 6 rfl) ?_
  refine lv_iload hx hb dL_law_311 (lv_at hl 1 rfl) ?_
  refine lv_iconst (v := 1) hx hb dL_law_313 (by decide) ?_
  refine lv_iadd hx hb dL_law_314 ?_
  refine va_sld hx hb hX hbl hbA hS (sc_in 1 hj hL (by decide)) dL_law_315 ?_
  refine gl_mo (As := [.int (xs (nI (5 * j) + 1).toNatClampNeg)]) (rest := []) F hC hml hS hI (fun X hX9 => metX11_addRoom (FX_at F (by have := F.2.2.2.2; omega)) hX9 is_Mo hf') ml_L_197 rfl ⟨rfl, rfl, (Nat.le_of_ble_eq_true rfl), (Nat.le_of_ble_eq_true rfl)⟩ rfl hl.1 rfl (Nat.le_of_ble_eq_true rfl) dL_law_316 ⟨by omega, by omega⟩ (fun H locs hI hS => ?_)
  refine lv_istore (lv' := [(7, .int r'.2), (6, .int (kL [1, 2] r.2)), (5, .int (nI (5 * j))), (4, .ref (B + 575)), (3, .ref (B + 574)), (2, .ref (B + 562 + 0)), (1, .ref (B + 0)), (0, .ref b)]) hx hb dL_law_319 hl (by decide) rfl (fun ls hl => ?_)
  refine lv_aload_n hx hb dL_law_321 rfl (lv_at hl 5 rfl) ?_
  refine gl_mo (As := []) (rest := []) F hC hml hS hI (fun X hX9 => metX11_thrown (N := N) (r := r'.1 0 6) (FX_at F (by have := F.2.2.2.2; omega)) hX9 is_Mo rfl) ml_L_198 rfl ⟨rfl, rfl, (Nat.le_of_ble_eq_true rfl), (Nat.le_of_ble_eq_true rfl)⟩ rfl hl.1 rfl (Nat.le_of_ble_eq_true rfl) dL_law_322 ⟨by omega, by omega⟩ (fun H locs hI hS => ?_)
  refine lv_iload hx hb dL_law_325 (lv_at hl 1 rfl) ?_
  refine lv_icmp_eq (tgt := 332) hx hb dL_law_327 (by decide) (fun _ => ?_) (fun z => absurd h6 z)
  refine lv_iload hx hb dL_law_332 (lv_at hl 1 rfl) ?_
  refine lv_if_ne (tgt := 349) hx hb dL_law_334 (by decide) (fun _ => ?_) (fun z => ?_)
  · refine lv_goto (tgt := 3665) hx hb dL_law_349 (by decide) ?_
    exact lk_end kk (by omega) (by omega) hR' hcap hI hS (lv_sub hl [2, 3, 4, 5, 6, 7] rfl)
  · refine lv_aload_n hx hb dL_law_337 rfl (lv_at hl 4 rfl) ?_
    refine lv_iconst (v := 0) hx hb dL_law_338 (by decide) ?_
    refine gl_lald hC hI.2.2.1 dL_law_339 ?_
    rw [upI_0 (h0 z)]
    refine lv_iload hx hb dL_law_340 (lv_at hl 0 rfl) ?_
    refine lv_i2l hx hb dL_law_342 rfl ?_
    refine W.lcmp hx hb dL_law_343 ?_
    rw [lg_cmp_self]
    refine lv_if_eq (tgt := 349) hx hb dL_law_344 (by decide) (fun _ => ?_) (fun z => absurd rfl z)
    refine lv_goto (tgt := 3665) hx hb dL_law_349 (by decide) ?_
    exact lk_end kk (by omega) (by omega) hR' hcap hI hS (lv_sub hl [2, 3, 4, 5, 6, 7] rfl)
set_option maxHeartbeats 4000000 in
set_option maxRecDepth 100000 in
theorem op_1 {p : Program} {l : Launch} {e : Env} {s : State} {m : MethodId} {below : List Frame} {meth : Method} {c : Code} {b L : Nat} {xs : Nat → Int32} {D : va_G} {T : Nat → ClassId} {B N j cells slots : Nat} {Q : State → Prop} {μ ν : Mem} {cap : Nat} {t : List Nat} {f : Nat → Int64} {g : Nat → UInt64} {H : Heap} {locs : List Loc} {ls : Array Slot} (F : FX l s b D T B) (hN : 1200000000000 ≤ N) (hNP : ∀ x ds, dcN x = some ds → NumP N x ds) (C0 : lw_At p s m meth c b L xs) (hL : L ≤ 2560) (hj : 5 * j + 5 ≤ L) (hR : RR μ ν 0 t) (hcap : cap ≤ 70) (hI : LI s D T B μ cap t ν f g H) (hS : va_S (AL B) s.heap H locs) (hl : lv_has ls 9 (LV b B (nI (5 * j)))) (hce : cells + 1450 ≤ room_1.cells) (hsl : slots + 13186 ≤ room_1.slots) (kk : LK p l e s m b below meth c D T B j cells slots Q) : W p l e room_1 s m #[.ref b] below meth c H locs cells slots Q (F0 m 352 ls []) := by
  obtain ⟨hx, hb, hr, hml, hown, hts, hX, hbl, hlocks, hgv⟩ := C0
  have hC : gC p c code s m #[.ref b] RL D vwCl (tysG T) := ⟨hx, hb, hown, fun w hw => hts w (wg_tbl hw), F.2.2.2.1⟩
  have hbA : ¬ AL B b := Nat.not_le.mpr (Nat.lt_of_lt_of_le hbl F.2.2.2.2)
  obtain ⟨r, hf, r', hf', hR', hSm⟩ := (o_setWarmth (by omega) hR : Ok (fX10_setWarmth N μ 0 (xs (nI (5 * j) + 1).toNatClampNeg) (xs (nI (5 * j) + 2).toNatClampNeg)) _)
  obtain ⟨h6, h0⟩ := Sm_k hSm (by decide) (by decide)
  refine lv_aload_n hx hb dL_law_352 rfl (lv_at hl 4 rfl) ?_
  refine lv_aload_n hx hb dL_law_353 rfl (lv_at hl 5 rfl) ?_
  refine lv_iload hx hb dL_law_354 (lv_at hl 0 rfl) ?_
  refine lv_iconst (v := 1) hx hb dL_law_356 (by decide) ?_
  refine lv_iadd hx hb dL_law_357 ?_
  refine va_sld hx hb hX hbl hbA hS (sc_in 1 hj hL (by decide)) dL_law_358 ?_
  refine lv_aload_n hx hb dL_law_359 rfl (lv_at hl 5 rfl) ?_
  refine lv_iload hx hb dL_law_360 (lv_at hl 0 rfl) ?_
  refine lv_iconst (v := 2) hx hb dL_law_362 (by decide) ?_
  refine lv_iadd hx hb dL_law_363 ?_
  refine va_sld hx hb hX hbl hbA hS (sc_in 2 hj hL (by decide)) dL_law_364 ?_
  refine lv_aload_n hx hb dL_law_365 rfl (lv_at hl 2 rfl) ?_
  refine gl_wr (As := [.ref (B + 0), .int (xs (nI (5 * j) + 1).toNatClampNeg), .int (xs (nI (5 * j) + 2).toNatClampNeg), .ref (B + 574)]) (rest := []) F hC hml hS hI (metL_setWarmth F Xc_g Xc_ob hf (Sm2 hSm)) mw_L_201 ⟨rfl, rfl, (Nat.le_of_ble_eq_true rfl), (Nat.le_of_ble_eq_true rfl)⟩ rfl hl.1 rfl (Nat.le_of_ble_eq_true rfl) dL_law_366 ⟨by omega, by omega⟩ (fun H locs hI hS => ?_)
  refine lv_istore (lv' := [(6, .int (kL [0, 1] r.2)), (5, .int (nI (5 * j))), (4, .ref (B + 575)), (3, .ref (B + 574)), (2, .ref (B + 562 + 0)), (1, .ref (B + 0)), (0, .ref b)]) hx hb dL_law_369 hl (by decide) rfl (fun ls hl => ?_)
  refine lv_aload_n hx hb dL_law_371 rfl (lv_at hl 4 rfl) ?_
  refine lv_aload_n hx hb dL_law_372 rfl (lv_at hl 6 rfl) ?_
  refine lv_iload hx hb dL_law_373 (lv_at hl 1 rfl) ?_
  refine lv_iconst (v := 1) hx hb dL_law_375 (by decide) ?_
  refine lv_iadd hx hb dL_law_376 ?_
  refine va_sld hx hb hX hbl hbA hS (sc_in 1 hj hL (by decide)) dL_law_377 ?_
  refine lv_aload_n hx hb dL_law_378 rfl (lv_at hl 6 rfl) ?_
  refine lv_iload hx hb dL_law_379 (lv_at hl 1 rfl) ?_
  refine lv_iconst (v := 2) hx hb dL_law_381 (by decide) ?_
  refine lv_iadd hx hb dL_law_382 ?_
  refine va_sld hx hb hX hbl hbA hS (sc_in 2 hj hL (by decide)) dL_law_383 ?_
  refine gl_mo (As := [.int (xs (nI (5 * j) + 1).toNatClampNeg), .int (xs (nI (5 * j) + 2).toNatClampNeg)]) (rest := []) F hC hml hS hI (fun X hX9 => metX11_setWarmth (FX_at F (by have := F.2.2.2.2; omega)) hX9 is_Mo hf') ml_L_204 rfl ⟨rfl, rfl, (Nat.le_of_ble_eq_true rfl), (Nat.le_of_ble_eq_true rfl)⟩ rfl hl.1 rfl (Nat.le_of_ble_eq_true rfl) dL_law_384 ⟨by omega, by omega⟩ (fun H locs hI hS => ?_)
  refine lv_istore (lv' := [(7, .int r'.2), (6, .int (kL [0, 1] r.2)), (5, .int (nI (5 * j))), (4, .ref (B + 575)), (3, .ref (B + 574)), (2, .ref (B + 562 + 0)), (1, .ref (B + 0)), (0, .ref b)]) hx hb dL_law_387 hl (by decide) rfl (fun ls hl => ?_)
  refine lv_aload_n hx hb dL_law_389 rfl (lv_at hl 5 rfl) ?_
  refine gl_mo (As := []) (rest := []) F hC hml hS hI (fun X hX9 => metX11_thrown (N := N) (r := r'.1 0 6) (FX_at F (by have := F.2.2.2.2; omega)) hX9 is_Mo rfl) ml_L_198 rfl ⟨rfl, rfl, (Nat.le_of_ble_eq_true rfl), (Nat.le_of_ble_eq_true rfl)⟩ rfl hl.1 rfl (Nat.le_of_ble_eq_true rfl) dL_law_390 ⟨by omega, by omega⟩ (fun H locs hI hS => ?_)
  refine lv_iload hx hb dL_law_393 (lv_at hl 1 rfl) ?_
  refine lv_icmp_eq (tgt := 400) hx hb dL_law_395 (by decide) (fun _ => ?_) (fun z => absurd h6 z)
  refine lv_iload hx hb dL_law_400 (lv_at hl 1 rfl) ?_
  refine lv_if_ne (tgt := 417) hx hb dL_law_402 (by decide) (fun _ => ?_) (fun z => ?_)
  · refine lv_goto (tgt := 3665) hx hb dL_law_417 (by decide) ?_
    exact lk_end kk (by omega) (by omega) hR' hcap hI hS (lv_sub hl [2, 3, 4, 5, 6, 7] rfl)
  · refine lv_aload_n hx hb dL_law_405 rfl (lv_at hl 4 rfl) ?_
    refine lv_iconst (v := 0) hx hb dL_law_406 (by decide) ?_
    refine gl_lald hC hI.2.2.1 dL_law_407 ?_
    rw [upI_0 (h0 z)]
    refine lv_iload hx hb dL_law_408 (lv_at hl 0 rfl) ?_
    refine lv_i2l hx hb dL_law_410 rfl ?_
    refine W.lcmp hx hb dL_law_411 ?_
    rw [lg_cmp_self]
    refine lv_if_eq (tgt := 417) hx hb dL_law_412 (by decide) (fun _ => ?_) (fun z => absurd rfl z)
    refine lv_goto (tgt := 3665) hx hb dL_law_417 (by decide) ?_
    exact lk_end kk (by omega) (by omega) hR' hcap hI hS (lv_sub hl [2, 3, 4, 5, 6, 7] rfl)
set_option maxHeartbeats 4000000 in
set_option maxRecDepth 100000 in
theorem op_2 {p : Program} {l : Launch} {e : Env} {s : State} {m : MethodId} {below : List Frame} {meth : Method} {c : Code} {b L : Nat} {xs : Nat → Int32} {D : va_G} {T : Nat → ClassId} {B N j cells slots : Nat} {Q : State → Prop} {μ ν : Mem} {cap : Nat} {t : List Nat} {f : Nat → Int64} {g : Nat → UInt64} {H : Heap} {locs : List Loc} {ls : Array Slot} (F : FX l s b D T B) (hN : 1200000000000 ≤ N) (hNP : ∀ x ds, dcN x = some ds → NumP N x ds) (C0 : lw_At p s m meth c b L xs) (hL : L ≤ 2560) (hj : 5 * j + 5 ≤ L) (hR : RR μ ν 0 t) (hcap : cap ≤ 70) (hI : LI s D T B μ cap t ν f g H) (hS : va_S (AL B) s.heap H locs) (hl : lv_has ls 9 (LV b B (nI (5 * j)))) (hce : cells + 1450 ≤ room_1.cells) (hsl : slots + 13186 ≤ room_1.slots) (kk : LK p l e s m b below meth c D T B j cells slots Q) : W p l e room_1 s m #[.ref b] below meth c H locs cells slots Q (F0 m 420 ls []) := by
  obtain ⟨hx, hb, hr, hml, hown, hts, hX, hbl, hlocks, hgv⟩ := C0
  have hC : gC p c code s m #[.ref b] RL D vwCl (tysG T) := ⟨hx, hb, hown, fun w hw => hts w (wg_tbl hw), F.2.2.2.1⟩
  have hbA : ¬ AL B b := Nat.not_le.mpr (Nat.lt_of_lt_of_le hbl F.2.2.2.2)
  obtain ⟨r, hf, r', hf', hR', hSm⟩ := (o_setLeg (by omega) hR : Ok (fX10_setLeg N μ 0 (xs (nI (5 * j) + 1).toNatClampNeg) (xs (nI (5 * j) + 2).toNatClampNeg) (xs (nI (5 * j) + 3).toNatClampNeg) (xs (nI (5 * j) + 4).toNatClampNeg)) _)
  obtain ⟨h6, h0⟩ := Sm_k hSm (by decide) (by decide)
  refine lv_aload_n hx hb dL_law_420 rfl (lv_at hl 4 rfl) ?_
  refine lv_aload_n hx hb dL_law_421 rfl (lv_at hl 5 rfl) ?_
  refine lv_iload hx hb dL_law_422 (lv_at hl 0 rfl) ?_
  refine lv_iconst (v := 1) hx hb dL_law_424 (by decide) ?_
  refine lv_iadd hx hb dL_law_425 ?_
  refine va_sld hx hb hX hbl hbA hS (sc_in 1 hj hL (by decide)) dL_law_426 ?_
  refine lv_aload_n hx hb dL_law_427 rfl (lv_at hl 5 rfl) ?_
  refine lv_iload hx hb dL_law_428 (lv_at hl 0 rfl) ?_
  refine lv_iconst (v := 2) hx hb dL_law_430 (by decide) ?_
  refine lv_iadd hx hb dL_law_431 ?_
  refine va_sld hx hb hX hbl hbA hS (sc_in 2 hj hL (by decide)) dL_law_432 ?_
  refine lv_aload_n hx hb dL_law_433 rfl (lv_at hl 5 rfl) ?_
  refine lv_iload hx hb dL_law_434 (lv_at hl 0 rfl) ?_
  refine lv_iconst (v := 3) hx hb dL_law_436 (by decide) ?_
  refine lv_iadd hx hb dL_law_437 ?_
  refine va_sld hx hb hX hbl hbA hS (sc_in 3 hj hL (by decide)) dL_law_438 ?_
  refine lv_aload_n hx hb dL_law_439 rfl (lv_at hl 5 rfl) ?_
  refine lv_iload hx hb dL_law_440 (lv_at hl 0 rfl) ?_
  refine lv_iconst (v := 4) hx hb dL_law_442 (by decide) ?_
  refine lv_iadd hx hb dL_law_443 ?_
  refine va_sld hx hb hX hbl hbA hS (sc_in 4 hj hL (by decide)) dL_law_444 ?_
  refine lv_aload_n hx hb dL_law_445 rfl (lv_at hl 2 rfl) ?_
  refine gl_wr (As := [.ref (B + 0), .int (xs (nI (5 * j) + 1).toNatClampNeg), .int (xs (nI (5 * j) + 2).toNatClampNeg), .int (xs (nI (5 * j) + 3).toNatClampNeg), .int (xs (nI (5 * j) + 4).toNatClampNeg), .ref (B + 574)]) (rest := []) F hC hml hS hI (metL_setLeg F Xc_g Xc_ob hf (Sm2 hSm)) mw_L_205 ⟨rfl, rfl, (Nat.le_of_ble_eq_true rfl), (Nat.le_of_ble_eq_true rfl)⟩ rfl hl.1 rfl (Nat.le_of_ble_eq_true rfl) dL_law_446 ⟨by omega, by omega⟩ (fun H locs hI hS => ?_)
  refine lv_istore (lv' := [(6, .int (kL [0, 1] r.2)), (5, .int (nI (5 * j))), (4, .ref (B + 575)), (3, .ref (B + 574)), (2, .ref (B + 562 + 0)), (1, .ref (B + 0)), (0, .ref b)]) hx hb dL_law_449 hl (by decide) rfl (fun ls hl => ?_)
  refine lv_aload_n hx hb dL_law_451 rfl (lv_at hl 4 rfl) ?_
  refine lv_aload_n hx hb dL_law_452 rfl (lv_at hl 6 rfl) ?_
  refine lv_iload hx hb dL_law_453 (lv_at hl 1 rfl) ?_
  refine lv_iconst (v := 1) hx hb dL_law_455 (by decide) ?_
  refine lv_iadd hx hb dL_law_456 ?_
  refine va_sld hx hb hX hbl hbA hS (sc_in 1 hj hL (by decide)) dL_law_457 ?_
  refine lv_aload_n hx hb dL_law_458 rfl (lv_at hl 6 rfl) ?_
  refine lv_iload hx hb dL_law_459 (lv_at hl 1 rfl) ?_
  refine lv_iconst (v := 2) hx hb dL_law_461 (by decide) ?_
  refine lv_iadd hx hb dL_law_462 ?_
  refine va_sld hx hb hX hbl hbA hS (sc_in 2 hj hL (by decide)) dL_law_463 ?_
  refine lv_aload_n hx hb dL_law_464 rfl (lv_at hl 6 rfl) ?_
  refine lv_iload hx hb dL_law_465 (lv_at hl 1 rfl) ?_
  refine lv_iconst (v := 3) hx hb dL_law_467 (by decide) ?_
  refine lv_iadd hx hb dL_law_468 ?_
  refine va_sld hx hb hX hbl hbA hS (sc_in 3 hj hL (by decide)) dL_law_469 ?_
  refine lv_aload_n hx hb dL_law_470 rfl (lv_at hl 6 rfl) ?_
  refine lv_iload hx hb dL_law_471 (lv_at hl 1 rfl) ?_
  refine lv_iconst (v := 4) hx hb dL_law_473 (by decide) ?_
  refine lv_iadd hx hb dL_law_474 ?_
  refine va_sld hx hb hX hbl hbA hS (sc_in 4 hj hL (by decide)) dL_law_475 ?_
  refine gl_mo (As := [.int (xs (nI (5 * j) + 1).toNatClampNeg), .int (xs (nI (5 * j) + 2).toNatClampNeg), .int (xs (nI (5 * j) + 3).toNatClampNeg), .int (xs (nI (5 * j) + 4).toNatClampNeg)]) (rest := []) F hC hml hS hI (fun X hX9 => metX11_setLeg (FX_at F (by have := F.2.2.2.2; omega)) hX9 is_Mo hf') ml_L_208 rfl ⟨rfl, rfl, (Nat.le_of_ble_eq_true rfl), (Nat.le_of_ble_eq_true rfl)⟩ rfl hl.1 rfl (Nat.le_of_ble_eq_true rfl) dL_law_476 ⟨by omega, by omega⟩ (fun H locs hI hS => ?_)
  refine lv_istore (lv' := [(7, .int r'.2), (6, .int (kL [0, 1] r.2)), (5, .int (nI (5 * j))), (4, .ref (B + 575)), (3, .ref (B + 574)), (2, .ref (B + 562 + 0)), (1, .ref (B + 0)), (0, .ref b)]) hx hb dL_law_479 hl (by decide) rfl (fun ls hl => ?_)
  refine lv_aload_n hx hb dL_law_481 rfl (lv_at hl 5 rfl) ?_
  refine gl_mo (As := []) (rest := []) F hC hml hS hI (fun X hX9 => metX11_thrown (N := N) (r := r'.1 0 6) (FX_at F (by have := F.2.2.2.2; omega)) hX9 is_Mo rfl) ml_L_198 rfl ⟨rfl, rfl, (Nat.le_of_ble_eq_true rfl), (Nat.le_of_ble_eq_true rfl)⟩ rfl hl.1 rfl (Nat.le_of_ble_eq_true rfl) dL_law_482 ⟨by omega, by omega⟩ (fun H locs hI hS => ?_)
  refine lv_iload hx hb dL_law_485 (lv_at hl 1 rfl) ?_
  refine lv_icmp_eq (tgt := 492) hx hb dL_law_487 (by decide) (fun _ => ?_) (fun z => absurd h6 z)
  refine lv_iload hx hb dL_law_492 (lv_at hl 1 rfl) ?_
  refine lv_if_ne (tgt := 509) hx hb dL_law_494 (by decide) (fun _ => ?_) (fun z => ?_)
  · refine lv_goto (tgt := 3665) hx hb dL_law_509 (by decide) ?_
    exact lk_end kk (by omega) (by omega) hR' hcap hI hS (lv_sub hl [2, 3, 4, 5, 6, 7] rfl)
  · refine lv_aload_n hx hb dL_law_497 rfl (lv_at hl 4 rfl) ?_
    refine lv_iconst (v := 0) hx hb dL_law_498 (by decide) ?_
    refine gl_lald hC hI.2.2.1 dL_law_499 ?_
    rw [upI_0 (h0 z)]
    refine lv_iload hx hb dL_law_500 (lv_at hl 0 rfl) ?_
    refine lv_i2l hx hb dL_law_502 rfl ?_
    refine W.lcmp hx hb dL_law_503 ?_
    rw [lg_cmp_self]
    refine lv_if_eq (tgt := 509) hx hb dL_law_504 (by decide) (fun _ => ?_) (fun z => absurd rfl z)
    refine lv_goto (tgt := 3665) hx hb dL_law_509 (by decide) ?_
    exact lk_end kk (by omega) (by omega) hR' hcap hI hS (lv_sub hl [2, 3, 4, 5, 6, 7] rfl)
set_option maxHeartbeats 4000000 in
set_option maxRecDepth 100000 in
theorem op_3 {p : Program} {l : Launch} {e : Env} {s : State} {m : MethodId} {below : List Frame} {meth : Method} {c : Code} {b L : Nat} {xs : Nat → Int32} {D : va_G} {T : Nat → ClassId} {B N j cells slots : Nat} {Q : State → Prop} {μ ν : Mem} {cap : Nat} {t : List Nat} {f : Nat → Int64} {g : Nat → UInt64} {H : Heap} {locs : List Loc} {ls : Array Slot} (F : FX l s b D T B) (hN : 1200000000000 ≤ N) (hNP : ∀ x ds, dcN x = some ds → NumP N x ds) (C0 : lw_At p s m meth c b L xs) (hL : L ≤ 2560) (hj : 5 * j + 5 ≤ L) (hR : RR μ ν 0 t) (hcap : cap ≤ 70) (hI : LI s D T B μ cap t ν f g H) (hS : va_S (AL B) s.heap H locs) (hl : lv_has ls 9 (LV b B (nI (5 * j)))) (hce : cells + 1450 ≤ room_1.cells) (hsl : slots + 13186 ≤ room_1.slots) (kk : LK p l e s m b below meth c D T B j cells slots Q) : W p l e room_1 s m #[.ref b] below meth c H locs cells slots Q (F0 m 512 ls []) := by
  obtain ⟨hx, hb, hr, hml, hown, hts, hX, hbl, hlocks, hgv⟩ := C0
  have hC : gC p c code s m #[.ref b] RL D vwCl (tysG T) := ⟨hx, hb, hown, fun w hw => hts w (wg_tbl hw), F.2.2.2.1⟩
  have hbA : ¬ AL B b := Nat.not_le.mpr (Nat.lt_of_lt_of_le hbl F.2.2.2.2)
  obtain ⟨r, hf, r', hf', hR', hSm⟩ := (o_removeLeg (by omega) hR : Ok (fX10_removeLeg N μ 0 (xs (nI (5 * j) + 1).toNatClampNeg) (xs (nI (5 * j) + 2).toNatClampNeg)) _)
  obtain ⟨h6, h0⟩ := Sm_k hSm (by decide) (by decide)
  refine lv_aload_n hx hb dL_law_512 rfl (lv_at hl 4 rfl) ?_
  refine lv_aload_n hx hb dL_law_513 rfl (lv_at hl 5 rfl) ?_
  refine lv_iload hx hb dL_law_514 (lv_at hl 0 rfl) ?_
  refine lv_iconst (v := 1) hx hb dL_law_516 (by decide) ?_
  refine lv_iadd hx hb dL_law_517 ?_
  refine va_sld hx hb hX hbl hbA hS (sc_in 1 hj hL (by decide)) dL_law_518 ?_
  refine lv_aload_n hx hb dL_law_519 rfl (lv_at hl 5 rfl) ?_
  refine lv_iload hx hb dL_law_520 (lv_at hl 0 rfl) ?_
  refine lv_iconst (v := 2) hx hb dL_law_522 (by decide) ?_
  refine lv_iadd hx hb dL_law_523 ?_
  refine va_sld hx hb hX hbl hbA hS (sc_in 2 hj hL (by decide)) dL_law_524 ?_
  refine lv_aload_n hx hb dL_law_525 rfl (lv_at hl 2 rfl) ?_
  refine gl_wr (As := [.ref (B + 0), .int (xs (nI (5 * j) + 1).toNatClampNeg), .int (xs (nI (5 * j) + 2).toNatClampNeg), .ref (B + 574)]) (rest := []) F hC hml hS hI (metL_removeLeg F Xc_g Xc_ob hf (Sm2 hSm)) mw_L_209 ⟨rfl, rfl, (Nat.le_of_ble_eq_true rfl), (Nat.le_of_ble_eq_true rfl)⟩ rfl hl.1 rfl (Nat.le_of_ble_eq_true rfl) dL_law_526 ⟨by omega, by omega⟩ (fun H locs hI hS => ?_)
  refine lv_istore (lv' := [(6, .int (kL [0, 3] r.2)), (5, .int (nI (5 * j))), (4, .ref (B + 575)), (3, .ref (B + 574)), (2, .ref (B + 562 + 0)), (1, .ref (B + 0)), (0, .ref b)]) hx hb dL_law_529 hl (by decide) rfl (fun ls hl => ?_)
  refine lv_aload_n hx hb dL_law_531 rfl (lv_at hl 4 rfl) ?_
  refine lv_aload_n hx hb dL_law_532 rfl (lv_at hl 6 rfl) ?_
  refine lv_iload hx hb dL_law_533 (lv_at hl 1 rfl) ?_
  refine lv_iconst (v := 1) hx hb dL_law_535 (by decide) ?_
  refine lv_iadd hx hb dL_law_536 ?_
  refine va_sld hx hb hX hbl hbA hS (sc_in 1 hj hL (by decide)) dL_law_537 ?_
  refine lv_aload_n hx hb dL_law_538 rfl (lv_at hl 6 rfl) ?_
  refine lv_iload hx hb dL_law_539 (lv_at hl 1 rfl) ?_
  refine lv_iconst (v := 2) hx hb dL_law_541 (by decide) ?_
  refine lv_iadd hx hb dL_law_542 ?_
  refine va_sld hx hb hX hbl hbA hS (sc_in 2 hj hL (by decide)) dL_law_543 ?_
  refine gl_mo (As := [.int (xs (nI (5 * j) + 1).toNatClampNeg), .int (xs (nI (5 * j) + 2).toNatClampNeg)]) (rest := []) F hC hml hS hI (fun X hX9 => metX11_removeLeg (FX_at F (by have := F.2.2.2.2; omega)) hX9 is_Mo hf') ml_L_211 rfl ⟨rfl, rfl, (Nat.le_of_ble_eq_true rfl), (Nat.le_of_ble_eq_true rfl)⟩ rfl hl.1 rfl (Nat.le_of_ble_eq_true rfl) dL_law_544 ⟨by omega, by omega⟩ (fun H locs hI hS => ?_)
  refine lv_istore (lv' := [(7, .int r'.2), (6, .int (kL [0, 3] r.2)), (5, .int (nI (5 * j))), (4, .ref (B + 575)), (3, .ref (B + 574)), (2, .ref (B + 562 + 0)), (1, .ref (B + 0)), (0, .ref b)]) hx hb dL_law_547 hl (by decide) rfl (fun ls hl => ?_)
  refine lv_aload_n hx hb dL_law_549 rfl (lv_at hl 5 rfl) ?_
  refine gl_mo (As := []) (rest := []) F hC hml hS hI (fun X hX9 => metX11_thrown (N := N) (r := r'.1 0 6) (FX_at F (by have := F.2.2.2.2; omega)) hX9 is_Mo rfl) ml_L_198 rfl ⟨rfl, rfl, (Nat.le_of_ble_eq_true rfl), (Nat.le_of_ble_eq_true rfl)⟩ rfl hl.1 rfl (Nat.le_of_ble_eq_true rfl) dL_law_550 ⟨by omega, by omega⟩ (fun H locs hI hS => ?_)
  refine lv_iload hx hb dL_law_553 (lv_at hl 1 rfl) ?_
  refine lv_icmp_eq (tgt := 560) hx hb dL_law_555 (by decide) (fun _ => ?_) (fun z => absurd h6 z)
  refine lv_iload hx hb dL_law_560 (lv_at hl 1 rfl) ?_
  refine lv_if_ne (tgt := 577) hx hb dL_law_562 (by decide) (fun _ => ?_) (fun z => ?_)
  · refine lv_goto (tgt := 3665) hx hb dL_law_577 (by decide) ?_
    exact lk_end kk (by omega) (by omega) hR' hcap hI hS (lv_sub hl [2, 3, 4, 5, 6, 7] rfl)
  · refine lv_aload_n hx hb dL_law_565 rfl (lv_at hl 4 rfl) ?_
    refine lv_iconst (v := 0) hx hb dL_law_566 (by decide) ?_
    refine gl_lald hC hI.2.2.1 dL_law_567 ?_
    rw [upI_0 (h0 z)]
    refine lv_iload hx hb dL_law_568 (lv_at hl 0 rfl) ?_
    refine lv_i2l hx hb dL_law_570 rfl ?_
    refine W.lcmp hx hb dL_law_571 ?_
    rw [lg_cmp_self]
    refine lv_if_eq (tgt := 577) hx hb dL_law_572 (by decide) (fun _ => ?_) (fun z => absurd rfl z)
    refine lv_goto (tgt := 3665) hx hb dL_law_577 (by decide) ?_
    exact lk_end kk (by omega) (by omega) hR' hcap hI hS (lv_sub hl [2, 3, 4, 5, 6, 7] rfl)
set_option maxHeartbeats 4000000 in
set_option maxRecDepth 100000 in
theorem op_4 {p : Program} {l : Launch} {e : Env} {s : State} {m : MethodId} {below : List Frame} {meth : Method} {c : Code} {b L : Nat} {xs : Nat → Int32} {D : va_G} {T : Nat → ClassId} {B N j cells slots : Nat} {Q : State → Prop} {μ ν : Mem} {cap : Nat} {t : List Nat} {f : Nat → Int64} {g : Nat → UInt64} {H : Heap} {locs : List Loc} {ls : Array Slot} (F : FX l s b D T B) (hN : 1200000000000 ≤ N) (hNP : ∀ x ds, dcN x = some ds → NumP N x ds) (C0 : lw_At p s m meth c b L xs) (hL : L ≤ 2560) (hj : 5 * j + 5 ≤ L) (hR : RR μ ν 0 t) (hcap : cap ≤ 70) (hI : LI s D T B μ cap t ν f g H) (hS : va_S (AL B) s.heap H locs) (hl : lv_has ls 9 (LV b B (nI (5 * j)))) (hce : cells + 1450 ≤ room_1.cells) (hsl : slots + 13186 ≤ room_1.slots) (kk : LK p l e s m b below meth c D T B j cells slots Q) : W p l e room_1 s m #[.ref b] below meth c H locs cells slots Q (F0 m 580 ls []) := by
  obtain ⟨hx, hb, hr, hml, hown, hts, hX, hbl, hlocks, hgv⟩ := C0
  have hC : gC p c code s m #[.ref b] RL D vwCl (tysG T) := ⟨hx, hb, hown, fun w hw => hts w (wg_tbl hw), F.2.2.2.1⟩
  have hbA : ¬ AL B b := Nat.not_le.mpr (Nat.lt_of_lt_of_le hbl F.2.2.2.2)
  obtain ⟨r, hf, r', hf', hR', he⟩ := (q_roomCount hR : Ok (fX10_roomCount N μ 0) _)
  refine lv_aload_n hx hb dL_law_580 rfl (lv_at hl 4 rfl) ?_
  refine gl_cl (As := []) (rest := []) F hC hml hS hI (fun X hX9 => metX10_roomCount F hX9 is_Ga hf) ml_L_212 rfl ⟨rfl, rfl, (Nat.le_of_ble_eq_true rfl), (Nat.le_of_ble_eq_true rfl)⟩ rfl hl.1 rfl (Nat.le_of_ble_eq_true rfl) dL_law_581 ⟨by omega, by omega⟩ (fun H locs hI hS => ?_)
  refine lv_aload_n hx hb dL_law_584 rfl (lv_at hl 3 rfl) ?_
  refine gl_mo (As := []) (rest := [.int r]) F hC hml hS hI (fun X hX9 => metX11_roomCount (FX_at F (by have := F.2.2.2.2; omega)) hX9 is_Mo hf') ml_L_215 rfl ⟨rfl, rfl, (Nat.le_of_ble_eq_true rfl), (Nat.le_of_ble_eq_true rfl)⟩ rfl hl.1 rfl (Nat.le_of_ble_eq_true rfl) dL_law_585 ⟨by omega, by omega⟩ (fun H locs hI hS => ?_)
  refine lv_icmp_eq (tgt := 3665) hx hb dL_law_588 (by decide) (fun _ => ?_) (fun z => absurd he.symm z)
  exact lk_end kk (by omega) (by omega) hR' hcap hI hS hl
set_option maxHeartbeats 4000000 in
set_option maxRecDepth 100000 in
theorem op_5 {p : Program} {l : Launch} {e : Env} {s : State} {m : MethodId} {below : List Frame} {meth : Method} {c : Code} {b L : Nat} {xs : Nat → Int32} {D : va_G} {T : Nat → ClassId} {B N j cells slots : Nat} {Q : State → Prop} {μ ν : Mem} {cap : Nat} {t : List Nat} {f : Nat → Int64} {g : Nat → UInt64} {H : Heap} {locs : List Loc} {ls : Array Slot} (F : FX l s b D T B) (hN : 1200000000000 ≤ N) (hNP : ∀ x ds, dcN x = some ds → NumP N x ds) (C0 : lw_At p s m meth c b L xs) (hL : L ≤ 2560) (hj : 5 * j + 5 ≤ L) (hR : RR μ ν 0 t) (hcap : cap ≤ 70) (hI : LI s D T B μ cap t ν f g H) (hS : va_S (AL B) s.heap H locs) (hl : lv_has ls 9 (LV b B (nI (5 * j)))) (hce : cells + 1450 ≤ room_1.cells) (hsl : slots + 13186 ≤ room_1.slots) (kk : LK p l e s m b below meth c D T B j cells slots Q) : W p l e room_1 s m #[.ref b] below meth c H locs cells slots Q (F0 m 593 ls []) := by
  obtain ⟨hx, hb, hr, hml, hown, hts, hX, hbl, hlocks, hgv⟩ := C0
  have hC : gC p c code s m #[.ref b] RL D vwCl (tysG T) := ⟨hx, hb, hown, fun w hw => hts w (wg_tbl hw), F.2.2.2.1⟩
  have hbA : ¬ AL B b := Nat.not_le.mpr (Nat.lt_of_lt_of_le hbl F.2.2.2.2)
  obtain ⟨r, hf, r', hf', hR', hSm⟩ := (q_warmth hR : Ok (fX10_warmth N μ 0 (xs (nI (5 * j) + 1).toNatClampNeg)) _)
  obtain ⟨h6, h0⟩ := Sm_k hSm (by decide) (by decide)
  refine lv_aload_n hx hb dL_law_593 rfl (lv_at hl 4 rfl) ?_
  refine lv_aload_n hx hb dL_law_594 rfl (lv_at hl 5 rfl) ?_
  refine lv_iload hx hb dL_law_595 (lv_at hl 0 rfl) ?_
  refine lv_iconst (v := 1) hx hb dL_law_597 (by decide) ?_
  refine lv_iadd hx hb dL_law_598 ?_
  refine va_sld hx hb hX hbl hbA hS (sc_in 1 hj hL (by decide)) dL_law_599 ?_
  refine lv_aload_n hx hb dL_law_600 rfl (lv_at hl 2 rfl) ?_
  refine gl_wr (As := [.ref (B + 0), .int (xs (nI (5 * j) + 1).toNatClampNeg), .ref (B + 574)]) (rest := []) F hC hml hS hI (metL_warmth F Xc_g Xc_ob hf (Sm1 hSm)) mw_L_216 ⟨rfl, rfl, (Nat.le_of_ble_eq_true rfl), (Nat.le_of_ble_eq_true rfl)⟩ rfl hl.1 rfl (Nat.le_of_ble_eq_true rfl) dL_law_601 ⟨by omega, by omega⟩ (fun H locs hI hS => ?_)
  refine lv_istore (lv' := [(6, .int (kL [0] r.2)), (5, .int (nI (5 * j))), (4, .ref (B + 575)), (3, .ref (B + 574)), (2, .ref (B + 562 + 0)), (1, .ref (B + 0)), (0, .ref b)]) hx hb dL_law_604 hl (by decide) rfl (fun ls hl => ?_)
  refine lv_aload_n hx hb dL_law_606 rfl (lv_at hl 4 rfl) ?_
  refine lv_aload_n hx hb dL_law_607 rfl (lv_at hl 6 rfl) ?_
  refine lv_iload hx hb dL_law_608 (lv_at hl 1 rfl) ?_
  refine lv_iconst (v := 1) hx hb dL_law_610 (by decide) ?_
  refine lv_iadd hx hb dL_law_611 ?_
  refine va_sld hx hb hX hbl hbA hS (sc_in 1 hj hL (by decide)) dL_law_612 ?_
  refine gl_mo (As := [.int (xs (nI (5 * j) + 1).toNatClampNeg)]) (rest := []) F hC hml hS hI (fun X hX9 => metX11_warmth (FX_at F (by have := F.2.2.2.2; omega)) hX9 is_Mo hf') ml_L_218 rfl ⟨rfl, rfl, (Nat.le_of_ble_eq_true rfl), (Nat.le_of_ble_eq_true rfl)⟩ rfl hl.1 rfl (Nat.le_of_ble_eq_true rfl) dL_law_613 ⟨by omega, by omega⟩ (fun H locs hI hS => ?_)
  refine lv_istore (lv' := [(7, .int r'.2), (6, .int (kL [0] r.2)), (5, .int (nI (5 * j))), (4, .ref (B + 575)), (3, .ref (B + 574)), (2, .ref (B + 562 + 0)), (1, .ref (B + 0)), (0, .ref b)]) hx hb dL_law_616 hl (by decide) rfl (fun ls hl => ?_)
  refine lv_aload_n hx hb dL_law_618 rfl (lv_at hl 5 rfl) ?_
  refine gl_mo (As := []) (rest := []) F hC hml hS hI (fun X hX9 => metX11_thrown (N := N) (r := r'.1 0 6) (FX_at F (by have := F.2.2.2.2; omega)) hX9 is_Mo rfl) ml_L_198 rfl ⟨rfl, rfl, (Nat.le_of_ble_eq_true rfl), (Nat.le_of_ble_eq_true rfl)⟩ rfl hl.1 rfl (Nat.le_of_ble_eq_true rfl) dL_law_619 ⟨by omega, by omega⟩ (fun H locs hI hS => ?_)
  refine lv_iload hx hb dL_law_622 (lv_at hl 1 rfl) ?_
  refine lv_icmp_eq (tgt := 629) hx hb dL_law_624 (by decide) (fun _ => ?_) (fun z => absurd h6 z)
  refine lv_iload hx hb dL_law_629 (lv_at hl 1 rfl) ?_
  refine lv_if_ne (tgt := 646) hx hb dL_law_631 (by decide) (fun _ => ?_) (fun z => ?_)
  · refine lv_goto (tgt := 3665) hx hb dL_law_646 (by decide) ?_
    exact lk_end kk (by omega) (by omega) hR' hcap hI hS (lv_sub hl [2, 3, 4, 5, 6, 7] rfl)
  · refine lv_aload_n hx hb dL_law_634 rfl (lv_at hl 4 rfl) ?_
    refine lv_iconst (v := 0) hx hb dL_law_635 (by decide) ?_
    refine gl_lald hC hI.2.2.1 dL_law_636 ?_
    rw [upI_0 (h0 z)]
    refine lv_iload hx hb dL_law_637 (lv_at hl 0 rfl) ?_
    refine lv_i2l hx hb dL_law_639 rfl ?_
    refine W.lcmp hx hb dL_law_640 ?_
    rw [lg_cmp_self]
    refine lv_if_eq (tgt := 646) hx hb dL_law_641 (by decide) (fun _ => ?_) (fun z => absurd rfl z)
    refine lv_goto (tgt := 3665) hx hb dL_law_646 (by decide) ?_
    exact lk_end kk (by omega) (by omega) hR' hcap hI hS (lv_sub hl [2, 3, 4, 5, 6, 7] rfl)
set_option maxHeartbeats 4000000 in
set_option maxRecDepth 100000 in
theorem op_6 {p : Program} {l : Launch} {e : Env} {s : State} {m : MethodId} {below : List Frame} {meth : Method} {c : Code} {b L : Nat} {xs : Nat → Int32} {D : va_G} {T : Nat → ClassId} {B N j cells slots : Nat} {Q : State → Prop} {μ ν : Mem} {cap : Nat} {t : List Nat} {f : Nat → Int64} {g : Nat → UInt64} {H : Heap} {locs : List Loc} {ls : Array Slot} (F : FX l s b D T B) (hN : 1200000000000 ≤ N) (hNP : ∀ x ds, dcN x = some ds → NumP N x ds) (C0 : lw_At p s m meth c b L xs) (hL : L ≤ 2560) (hj : 5 * j + 5 ≤ L) (hR : RR μ ν 0 t) (hcap : cap ≤ 70) (hI : LI s D T B μ cap t ν f g H) (hS : va_S (AL B) s.heap H locs) (hl : lv_has ls 9 (LV b B (nI (5 * j)))) (hce : cells + 1450 ≤ room_1.cells) (hsl : slots + 13186 ≤ room_1.slots) (kk : LK p l e s m b below meth c D T B j cells slots Q) : W p l e room_1 s m #[.ref b] below meth c H locs cells slots Q (F0 m 649 ls []) := by
  obtain ⟨hx, hb, hr, hml, hown, hts, hX, hbl, hlocks, hgv⟩ := C0
  have hC : gC p c code s m #[.ref b] RL D vwCl (tysG T) := ⟨hx, hb, hown, fun w hw => hts w (wg_tbl hw), F.2.2.2.1⟩
  have hbA : ¬ AL B b := Nat.not_le.mpr (Nat.lt_of_lt_of_le hbl F.2.2.2.2)
  obtain ⟨r, hf, r', hf', hR', hSm⟩ := (q_legMinutes hR : Ok (fX10_legMinutes N μ 0 (xs (nI (5 * j) + 1).toNatClampNeg) (xs (nI (5 * j) + 2).toNatClampNeg)) _)
  obtain ⟨h6, h0⟩ := Sm_k hSm (by decide) (by decide)
  refine lv_aload_n hx hb dL_law_649 rfl (lv_at hl 4 rfl) ?_
  refine lv_aload_n hx hb dL_law_650 rfl (lv_at hl 5 rfl) ?_
  refine lv_iload hx hb dL_law_651 (lv_at hl 0 rfl) ?_
  refine lv_iconst (v := 1) hx hb dL_law_653 (by decide) ?_
  refine lv_iadd hx hb dL_law_654 ?_
  refine va_sld hx hb hX hbl hbA hS (sc_in 1 hj hL (by decide)) dL_law_655 ?_
  refine lv_aload_n hx hb dL_law_656 rfl (lv_at hl 5 rfl) ?_
  refine lv_iload hx hb dL_law_657 (lv_at hl 0 rfl) ?_
  refine lv_iconst (v := 2) hx hb dL_law_659 (by decide) ?_
  refine lv_iadd hx hb dL_law_660 ?_
  refine va_sld hx hb hX hbl hbA hS (sc_in 2 hj hL (by decide)) dL_law_661 ?_
  refine lv_aload_n hx hb dL_law_662 rfl (lv_at hl 2 rfl) ?_
  refine gl_wr (As := [.ref (B + 0), .int (xs (nI (5 * j) + 1).toNatClampNeg), .int (xs (nI (5 * j) + 2).toNatClampNeg), .ref (B + 574)]) (rest := []) F hC hml hS hI (metL_legMinutes F Xc_g Xc_ob hf (Sm2 hSm)) mw_L_219 ⟨rfl, rfl, (Nat.le_of_ble_eq_true rfl), (Nat.le_of_ble_eq_true rfl)⟩ rfl hl.1 rfl (Nat.le_of_ble_eq_true rfl) dL_law_663 ⟨by omega, by omega⟩ (fun H locs hI hS => ?_)
  refine lv_istore (lv' := [(6, .int (kL [0, 3] r.2)), (5, .int (nI (5 * j))), (4, .ref (B + 575)), (3, .ref (B + 574)), (2, .ref (B + 562 + 0)), (1, .ref (B + 0)), (0, .ref b)]) hx hb dL_law_666 hl (by decide) rfl (fun ls hl => ?_)
  refine lv_aload_n hx hb dL_law_668 rfl (lv_at hl 4 rfl) ?_
  refine lv_aload_n hx hb dL_law_669 rfl (lv_at hl 6 rfl) ?_
  refine lv_iload hx hb dL_law_670 (lv_at hl 1 rfl) ?_
  refine lv_iconst (v := 1) hx hb dL_law_672 (by decide) ?_
  refine lv_iadd hx hb dL_law_673 ?_
  refine va_sld hx hb hX hbl hbA hS (sc_in 1 hj hL (by decide)) dL_law_674 ?_
  refine lv_aload_n hx hb dL_law_675 rfl (lv_at hl 6 rfl) ?_
  refine lv_iload hx hb dL_law_676 (lv_at hl 1 rfl) ?_
  refine lv_iconst (v := 2) hx hb dL_law_678 (by decide) ?_
  refine lv_iadd hx hb dL_law_679 ?_
  refine va_sld hx hb hX hbl hbA hS (sc_in 2 hj hL (by decide)) dL_law_680 ?_
  refine gl_mo (As := [.int (xs (nI (5 * j) + 1).toNatClampNeg), .int (xs (nI (5 * j) + 2).toNatClampNeg)]) (rest := []) F hC hml hS hI (fun X hX9 => metX11_legMinutes (FX_at F (by have := F.2.2.2.2; omega)) hX9 is_Mo hf') ml_L_221 rfl ⟨rfl, rfl, (Nat.le_of_ble_eq_true rfl), (Nat.le_of_ble_eq_true rfl)⟩ rfl hl.1 rfl (Nat.le_of_ble_eq_true rfl) dL_law_681 ⟨by omega, by omega⟩ (fun H locs hI hS => ?_)
  refine lv_istore (lv' := [(7, .int r'.2), (6, .int (kL [0, 3] r.2)), (5, .int (nI (5 * j))), (4, .ref (B + 575)), (3, .ref (B + 574)), (2, .ref (B + 562 + 0)), (1, .ref (B + 0)), (0, .ref b)]) hx hb dL_law_684 hl (by decide) rfl (fun ls hl => ?_)
  refine lv_aload_n hx hb dL_law_686 rfl (lv_at hl 5 rfl) ?_
  refine gl_mo (As := []) (rest := []) F hC hml hS hI (fun X hX9 => metX11_thrown (N := N) (r := r'.1 0 6) (FX_at F (by have := F.2.2.2.2; omega)) hX9 is_Mo rfl) ml_L_198 rfl ⟨rfl, rfl, (Nat.le_of_ble_eq_true rfl), (Nat.le_of_ble_eq_true rfl)⟩ rfl hl.1 rfl (Nat.le_of_ble_eq_true rfl) dL_law_687 ⟨by omega, by omega⟩ (fun H locs hI hS => ?_)
  refine lv_iload hx hb dL_law_690 (lv_at hl 1 rfl) ?_
  refine lv_icmp_eq (tgt := 697) hx hb dL_law_692 (by decide) (fun _ => ?_) (fun z => absurd h6 z)
  refine lv_iload hx hb dL_law_697 (lv_at hl 1 rfl) ?_
  refine lv_if_ne (tgt := 714) hx hb dL_law_699 (by decide) (fun _ => ?_) (fun z => ?_)
  · refine lv_goto (tgt := 3665) hx hb dL_law_714 (by decide) ?_
    exact lk_end kk (by omega) (by omega) hR' hcap hI hS (lv_sub hl [2, 3, 4, 5, 6, 7] rfl)
  · refine lv_aload_n hx hb dL_law_702 rfl (lv_at hl 4 rfl) ?_
    refine lv_iconst (v := 0) hx hb dL_law_703 (by decide) ?_
    refine gl_lald hC hI.2.2.1 dL_law_704 ?_
    rw [upI_0 (h0 z)]
    refine lv_iload hx hb dL_law_705 (lv_at hl 0 rfl) ?_
    refine lv_i2l hx hb dL_law_707 rfl ?_
    refine W.lcmp hx hb dL_law_708 ?_
    rw [lg_cmp_self]
    refine lv_if_eq (tgt := 714) hx hb dL_law_709 (by decide) (fun _ => ?_) (fun z => absurd rfl z)
    refine lv_goto (tgt := 3665) hx hb dL_law_714 (by decide) ?_
    exact lk_end kk (by omega) (by omega) hR' hcap hI hS (lv_sub hl [2, 3, 4, 5, 6, 7] rfl)
set_option maxHeartbeats 4000000 in
set_option maxRecDepth 100000 in
theorem op_7 {p : Program} {l : Launch} {e : Env} {s : State} {m : MethodId} {below : List Frame} {meth : Method} {c : Code} {b L : Nat} {xs : Nat → Int32} {D : va_G} {T : Nat → ClassId} {B N j cells slots : Nat} {Q : State → Prop} {μ ν : Mem} {cap : Nat} {t : List Nat} {f : Nat → Int64} {g : Nat → UInt64} {H : Heap} {locs : List Loc} {ls : Array Slot} (F : FX l s b D T B) (hN : 1200000000000 ≤ N) (hNP : ∀ x ds, dcN x = some ds → NumP N x ds) (C0 : lw_At p s m meth c b L xs) (hL : L ≤ 2560) (hj : 5 * j + 5 ≤ L) (hR : RR μ ν 0 t) (hcap : cap ≤ 70) (hI : LI s D T B μ cap t ν f g H) (hS : va_S (AL B) s.heap H locs) (hl : lv_has ls 9 (LV b B (nI (5 * j)))) (hce : cells + 1450 ≤ room_1.cells) (hsl : slots + 13186 ≤ room_1.slots) (kk : LK p l e s m b below meth c D T B j cells slots Q) : W p l e room_1 s m #[.ref b] below meth c H locs cells slots Q (F0 m 717 ls []) := by
  obtain ⟨hx, hb, hr, hml, hown, hts, hX, hbl, hlocks, hgv⟩ := C0
  have hC : gC p c code s m #[.ref b] RL D vwCl (tysG T) := ⟨hx, hb, hown, fun w hw => hts w (wg_tbl hw), F.2.2.2.1⟩
  have hbA : ¬ AL B b := Nat.not_le.mpr (Nat.lt_of_lt_of_le hbl F.2.2.2.2)
  obtain ⟨r, hf, r', hf', hR', hSm⟩ := (q_legWarmth hR : Ok (fX10_legWarmth N μ 0 (xs (nI (5 * j) + 1).toNatClampNeg) (xs (nI (5 * j) + 2).toNatClampNeg)) _)
  obtain ⟨h6, h0⟩ := Sm_k hSm (by decide) (by decide)
  refine lv_aload_n hx hb dL_law_717 rfl (lv_at hl 4 rfl) ?_
  refine lv_aload_n hx hb dL_law_718 rfl (lv_at hl 5 rfl) ?_
  refine lv_iload hx hb dL_law_719 (lv_at hl 0 rfl) ?_
  refine lv_iconst (v := 1) hx hb dL_law_721 (by decide) ?_
  refine lv_iadd hx hb dL_law_722 ?_
  refine va_sld hx hb hX hbl hbA hS (sc_in 1 hj hL (by decide)) dL_law_723 ?_
  refine lv_aload_n hx hb dL_law_724 rfl (lv_at hl 5 rfl) ?_
  refine lv_iload hx hb dL_law_725 (lv_at hl 0 rfl) ?_
  refine lv_iconst (v := 2) hx hb dL_law_727 (by decide) ?_
  refine lv_iadd hx hb dL_law_728 ?_
  refine va_sld hx hb hX hbl hbA hS (sc_in 2 hj hL (by decide)) dL_law_729 ?_
  refine lv_aload_n hx hb dL_law_730 rfl (lv_at hl 2 rfl) ?_
  refine gl_wr (As := [.ref (B + 0), .int (xs (nI (5 * j) + 1).toNatClampNeg), .int (xs (nI (5 * j) + 2).toNatClampNeg), .ref (B + 574)]) (rest := []) F hC hml hS hI (metL_legWarmth F Xc_g Xc_ob hf (Sm2 hSm)) mw_L_222 ⟨rfl, rfl, (Nat.le_of_ble_eq_true rfl), (Nat.le_of_ble_eq_true rfl)⟩ rfl hl.1 rfl (Nat.le_of_ble_eq_true rfl) dL_law_731 ⟨by omega, by omega⟩ (fun H locs hI hS => ?_)
  refine lv_istore (lv' := [(6, .int (kL [0, 3] r.2)), (5, .int (nI (5 * j))), (4, .ref (B + 575)), (3, .ref (B + 574)), (2, .ref (B + 562 + 0)), (1, .ref (B + 0)), (0, .ref b)]) hx hb dL_law_734 hl (by decide) rfl (fun ls hl => ?_)
  refine lv_aload_n hx hb dL_law_736 rfl (lv_at hl 4 rfl) ?_
  refine lv_aload_n hx hb dL_law_737 rfl (lv_at hl 6 rfl) ?_
  refine lv_iload hx hb dL_law_738 (lv_at hl 1 rfl) ?_
  refine lv_iconst (v := 1) hx hb dL_law_740 (by decide) ?_
  refine lv_iadd hx hb dL_law_741 ?_
  refine va_sld hx hb hX hbl hbA hS (sc_in 1 hj hL (by decide)) dL_law_742 ?_
  refine lv_aload_n hx hb dL_law_743 rfl (lv_at hl 6 rfl) ?_
  refine lv_iload hx hb dL_law_744 (lv_at hl 1 rfl) ?_
  refine lv_iconst (v := 2) hx hb dL_law_746 (by decide) ?_
  refine lv_iadd hx hb dL_law_747 ?_
  refine va_sld hx hb hX hbl hbA hS (sc_in 2 hj hL (by decide)) dL_law_748 ?_
  refine gl_mo (As := [.int (xs (nI (5 * j) + 1).toNatClampNeg), .int (xs (nI (5 * j) + 2).toNatClampNeg)]) (rest := []) F hC hml hS hI (fun X hX9 => metX11_legWarmth (FX_at F (by have := F.2.2.2.2; omega)) hX9 is_Mo hf') ml_L_224 rfl ⟨rfl, rfl, (Nat.le_of_ble_eq_true rfl), (Nat.le_of_ble_eq_true rfl)⟩ rfl hl.1 rfl (Nat.le_of_ble_eq_true rfl) dL_law_749 ⟨by omega, by omega⟩ (fun H locs hI hS => ?_)
  refine lv_istore (lv' := [(7, .int r'.2), (6, .int (kL [0, 3] r.2)), (5, .int (nI (5 * j))), (4, .ref (B + 575)), (3, .ref (B + 574)), (2, .ref (B + 562 + 0)), (1, .ref (B + 0)), (0, .ref b)]) hx hb dL_law_752 hl (by decide) rfl (fun ls hl => ?_)
  refine lv_aload_n hx hb dL_law_754 rfl (lv_at hl 5 rfl) ?_
  refine gl_mo (As := []) (rest := []) F hC hml hS hI (fun X hX9 => metX11_thrown (N := N) (r := r'.1 0 6) (FX_at F (by have := F.2.2.2.2; omega)) hX9 is_Mo rfl) ml_L_198 rfl ⟨rfl, rfl, (Nat.le_of_ble_eq_true rfl), (Nat.le_of_ble_eq_true rfl)⟩ rfl hl.1 rfl (Nat.le_of_ble_eq_true rfl) dL_law_755 ⟨by omega, by omega⟩ (fun H locs hI hS => ?_)
  refine lv_iload hx hb dL_law_758 (lv_at hl 1 rfl) ?_
  refine lv_icmp_eq (tgt := 765) hx hb dL_law_760 (by decide) (fun _ => ?_) (fun z => absurd h6 z)
  refine lv_iload hx hb dL_law_765 (lv_at hl 1 rfl) ?_
  refine lv_if_ne (tgt := 782) hx hb dL_law_767 (by decide) (fun _ => ?_) (fun z => ?_)
  · refine lv_goto (tgt := 3665) hx hb dL_law_782 (by decide) ?_
    exact lk_end kk (by omega) (by omega) hR' hcap hI hS (lv_sub hl [2, 3, 4, 5, 6, 7] rfl)
  · refine lv_aload_n hx hb dL_law_770 rfl (lv_at hl 4 rfl) ?_
    refine lv_iconst (v := 0) hx hb dL_law_771 (by decide) ?_
    refine gl_lald hC hI.2.2.1 dL_law_772 ?_
    rw [upI_0 (h0 z)]
    refine lv_iload hx hb dL_law_773 (lv_at hl 0 rfl) ?_
    refine lv_i2l hx hb dL_law_775 rfl ?_
    refine W.lcmp hx hb dL_law_776 ?_
    rw [lg_cmp_self]
    refine lv_if_eq (tgt := 782) hx hb dL_law_777 (by decide) (fun _ => ?_) (fun z => absurd rfl z)
    refine lv_goto (tgt := 3665) hx hb dL_law_782 (by decide) ?_
    exact lk_end kk (by omega) (by omega) hR' hcap hI hS (lv_sub hl [2, 3, 4, 5, 6, 7] rfl)
set_option maxHeartbeats 4000000 in
set_option maxRecDepth 100000 in
theorem op_8 {p : Program} {l : Launch} {e : Env} {s : State} {m : MethodId} {below : List Frame} {meth : Method} {c : Code} {b L : Nat} {xs : Nat → Int32} {D : va_G} {T : Nat → ClassId} {B N j cells slots : Nat} {Q : State → Prop} {μ ν : Mem} {cap : Nat} {t : List Nat} {f : Nat → Int64} {g : Nat → UInt64} {H : Heap} {locs : List Loc} {ls : Array Slot} (F : FX l s b D T B) (hN : 1200000000000 ≤ N) (hNP : ∀ x ds, dcN x = some ds → NumP N x ds) (C0 : lw_At p s m meth c b L xs) (hL : L ≤ 2560) (hj : 5 * j + 5 ≤ L) (hR : RR μ ν 0 t) (hcap : cap ≤ 70) (hI : LI s D T B μ cap t ν f g H) (hS : va_S (AL B) s.heap H locs) (hl : lv_has ls 9 (LV b B (nI (5 * j)))) (hce : cells + 1450 ≤ room_1.cells) (hsl : slots + 13186 ≤ room_1.slots) (kk : LK p l e s m b below meth c D T B j cells slots Q) : W p l e room_1 s m #[.ref b] below meth c H locs cells slots Q (F0 m 785 ls []) := by
  obtain ⟨hx, hb, hr, hml, hown, hts, hX, hbl, hlocks, hgv⟩ := C0
  have hC : gC p c code s m #[.ref b] RL D vwCl (tysG T) := ⟨hx, hb, hown, fun w hw => hts w (wg_tbl hw), F.2.2.2.1⟩
  have hbA : ¬ AL B b := Nat.not_le.mpr (Nat.lt_of_lt_of_le hbl F.2.2.2.2)
  obtain ⟨r, hf, r', hf', hR', hSm⟩ := (q_minutes (by omega) hR : Ok (fX10_minutes N μ 0 (xs (nI (5 * j) + 1).toNatClampNeg) (xs (nI (5 * j) + 2).toNatClampNeg)) _)
  obtain ⟨h6, h0⟩ := Sm_k hSm (by decide) (by decide)
  refine lv_aload_n hx hb dL_law_785 rfl (lv_at hl 4 rfl) ?_
  refine lv_aload_n hx hb dL_law_786 rfl (lv_at hl 5 rfl) ?_
  refine lv_iload hx hb dL_law_787 (lv_at hl 0 rfl) ?_
  refine lv_iconst (v := 1) hx hb dL_law_789 (by decide) ?_
  refine lv_iadd hx hb dL_law_790 ?_
  refine va_sld hx hb hX hbl hbA hS (sc_in 1 hj hL (by decide)) dL_law_791 ?_
  refine lv_aload_n hx hb dL_law_792 rfl (lv_at hl 5 rfl) ?_
  refine lv_iload hx hb dL_law_793 (lv_at hl 0 rfl) ?_
  refine lv_iconst (v := 2) hx hb dL_law_795 (by decide) ?_
  refine lv_iadd hx hb dL_law_796 ?_
  refine va_sld hx hb hX hbl hbA hS (sc_in 2 hj hL (by decide)) dL_law_797 ?_
  refine lv_aload_n hx hb dL_law_798 rfl (lv_at hl 2 rfl) ?_
  refine gl_wr (As := [.ref (B + 0), .int (xs (nI (5 * j) + 1).toNatClampNeg), .int (xs (nI (5 * j) + 2).toNatClampNeg), .ref (B + 574)]) (rest := []) F hC hml hS hI (metL_minutes F Xc_g Xc_ob hf (Sm2 hSm)) mw_L_225 ⟨rfl, rfl, (Nat.le_of_ble_eq_true rfl), (Nat.le_of_ble_eq_true rfl)⟩ rfl hl.1 rfl (Nat.le_of_ble_eq_true rfl) dL_law_799 ⟨by omega, by omega⟩ (fun H locs hI hS => ?_)
  refine lv_istore (lv' := [(6, .int (kL [0, 3] r.2)), (5, .int (nI (5 * j))), (4, .ref (B + 575)), (3, .ref (B + 574)), (2, .ref (B + 562 + 0)), (1, .ref (B + 0)), (0, .ref b)]) hx hb dL_law_802 hl (by decide) rfl (fun ls hl => ?_)
  refine lv_aload_n hx hb dL_law_804 rfl (lv_at hl 4 rfl) ?_
  refine lv_aload_n hx hb dL_law_805 rfl (lv_at hl 6 rfl) ?_
  refine lv_iload hx hb dL_law_806 (lv_at hl 1 rfl) ?_
  refine lv_iconst (v := 1) hx hb dL_law_808 (by decide) ?_
  refine lv_iadd hx hb dL_law_809 ?_
  refine va_sld hx hb hX hbl hbA hS (sc_in 1 hj hL (by decide)) dL_law_810 ?_
  refine lv_aload_n hx hb dL_law_811 rfl (lv_at hl 6 rfl) ?_
  refine lv_iload hx hb dL_law_812 (lv_at hl 1 rfl) ?_
  refine lv_iconst (v := 2) hx hb dL_law_814 (by decide) ?_
  refine lv_iadd hx hb dL_law_815 ?_
  refine va_sld hx hb hX hbl hbA hS (sc_in 2 hj hL (by decide)) dL_law_816 ?_
  refine gl_mo (As := [.int (xs (nI (5 * j) + 1).toNatClampNeg), .int (xs (nI (5 * j) + 2).toNatClampNeg)]) (rest := []) F hC hml hS hI (fun X hX9 => metX11_minutes (FX_at F (by have := F.2.2.2.2; omega)) hX9 is_Mo hf') ml_L_227 rfl ⟨rfl, rfl, (Nat.le_of_ble_eq_true rfl), (Nat.le_of_ble_eq_true rfl)⟩ rfl hl.1 rfl (Nat.le_of_ble_eq_true rfl) dL_law_817 ⟨by omega, by omega⟩ (fun H locs hI hS => ?_)
  refine lv_istore (lv' := [(7, .int r'.2), (6, .int (kL [0, 3] r.2)), (5, .int (nI (5 * j))), (4, .ref (B + 575)), (3, .ref (B + 574)), (2, .ref (B + 562 + 0)), (1, .ref (B + 0)), (0, .ref b)]) hx hb dL_law_820 hl (by decide) rfl (fun ls hl => ?_)
  refine lv_aload_n hx hb dL_law_822 rfl (lv_at hl 5 rfl) ?_
  refine gl_mo (As := []) (rest := []) F hC hml hS hI (fun X hX9 => metX11_thrown (N := N) (r := r'.1 0 6) (FX_at F (by have := F.2.2.2.2; omega)) hX9 is_Mo rfl) ml_L_198 rfl ⟨rfl, rfl, (Nat.le_of_ble_eq_true rfl), (Nat.le_of_ble_eq_true rfl)⟩ rfl hl.1 rfl (Nat.le_of_ble_eq_true rfl) dL_law_823 ⟨by omega, by omega⟩ (fun H locs hI hS => ?_)
  refine lv_iload hx hb dL_law_826 (lv_at hl 1 rfl) ?_
  refine lv_icmp_eq (tgt := 833) hx hb dL_law_828 (by decide) (fun _ => ?_) (fun z => absurd h6 z)
  refine lv_iload hx hb dL_law_833 (lv_at hl 1 rfl) ?_
  refine lv_if_ne (tgt := 850) hx hb dL_law_835 (by decide) (fun _ => ?_) (fun z => ?_)
  · refine lv_goto (tgt := 3665) hx hb dL_law_850 (by decide) ?_
    exact lk_end kk (by omega) (by omega) hR' hcap hI hS (lv_sub hl [2, 3, 4, 5, 6, 7] rfl)
  · refine lv_aload_n hx hb dL_law_838 rfl (lv_at hl 4 rfl) ?_
    refine lv_iconst (v := 0) hx hb dL_law_839 (by decide) ?_
    refine gl_lald hC hI.2.2.1 dL_law_840 ?_
    rw [upI_0 (h0 z)]
    refine lv_iload hx hb dL_law_841 (lv_at hl 0 rfl) ?_
    refine lv_i2l hx hb dL_law_843 rfl ?_
    refine W.lcmp hx hb dL_law_844 ?_
    rw [lg_cmp_self]
    refine lv_if_eq (tgt := 850) hx hb dL_law_845 (by decide) (fun _ => ?_) (fun z => absurd rfl z)
    refine lv_goto (tgt := 3665) hx hb dL_law_850 (by decide) ?_
    exact lk_end kk (by omega) (by omega) hR' hcap hI hS (lv_sub hl [2, 3, 4, 5, 6, 7] rfl)
set_option maxHeartbeats 4000000 in
set_option maxRecDepth 100000 in
theorem op_9 {p : Program} {l : Launch} {e : Env} {s : State} {m : MethodId} {below : List Frame} {meth : Method} {c : Code} {b L : Nat} {xs : Nat → Int32} {D : va_G} {T : Nat → ClassId} {B N j cells slots : Nat} {Q : State → Prop} {μ ν : Mem} {cap : Nat} {t : List Nat} {f : Nat → Int64} {g : Nat → UInt64} {H : Heap} {locs : List Loc} {ls : Array Slot} (F : FX l s b D T B) (hN : 1200000000000 ≤ N) (hNP : ∀ x ds, dcN x = some ds → NumP N x ds) (C0 : lw_At p s m meth c b L xs) (hL : L ≤ 2560) (hj : 5 * j + 5 ≤ L) (hR : RR μ ν 0 t) (hcap : cap ≤ 70) (hI : LI s D T B μ cap t ν f g H) (hS : va_S (AL B) s.heap H locs) (hl : lv_has ls 9 (LV b B (nI (5 * j)))) (hce : cells + 1450 ≤ room_1.cells) (hsl : slots + 13186 ≤ room_1.slots) (kk : LK p l e s m b below meth c D T B j cells slots Q) : W p l e room_1 s m #[.ref b] below meth c H locs cells slots Q (F0 m 853 ls []) := by
  obtain ⟨hx, hb, hr, hml, hown, hts, hX, hbl, hlocks, hgv⟩ := C0
  have hC : gC p c code s m #[.ref b] RL D vwCl (tysG T) := ⟨hx, hb, hown, fun w hw => hts w (wg_tbl hw), F.2.2.2.1⟩
  have hbA : ¬ AL B b := Nat.not_le.mpr (Nat.lt_of_lt_of_le hbl F.2.2.2.2)
  obtain ⟨r, hf, r', hf', hR', hSm⟩ := (q_minutesByTable (by omega) hR : Ok (fX10_minutesByTable N μ 0 (xs (nI (5 * j) + 1).toNatClampNeg) (xs (nI (5 * j) + 2).toNatClampNeg)) _)
  obtain ⟨h6, h0⟩ := Sm_k hSm (by decide) (by decide)
  refine lv_aload_n hx hb dL_law_853 rfl (lv_at hl 4 rfl) ?_
  refine lv_aload_n hx hb dL_law_854 rfl (lv_at hl 5 rfl) ?_
  refine lv_iload hx hb dL_law_855 (lv_at hl 0 rfl) ?_
  refine lv_iconst (v := 1) hx hb dL_law_857 (by decide) ?_
  refine lv_iadd hx hb dL_law_858 ?_
  refine va_sld hx hb hX hbl hbA hS (sc_in 1 hj hL (by decide)) dL_law_859 ?_
  refine lv_aload_n hx hb dL_law_860 rfl (lv_at hl 5 rfl) ?_
  refine lv_iload hx hb dL_law_861 (lv_at hl 0 rfl) ?_
  refine lv_iconst (v := 2) hx hb dL_law_863 (by decide) ?_
  refine lv_iadd hx hb dL_law_864 ?_
  refine va_sld hx hb hX hbl hbA hS (sc_in 2 hj hL (by decide)) dL_law_865 ?_
  refine lv_aload_n hx hb dL_law_866 rfl (lv_at hl 2 rfl) ?_
  refine gl_wr (As := [.ref (B + 0), .int (xs (nI (5 * j) + 1).toNatClampNeg), .int (xs (nI (5 * j) + 2).toNatClampNeg), .ref (B + 574)]) (rest := []) F hC hml hS hI (metL_minutesByTable F Xc_g Xc_ob hf (Sm2 hSm)) mw_L_228 ⟨rfl, rfl, (Nat.le_of_ble_eq_true rfl), (Nat.le_of_ble_eq_true rfl)⟩ rfl hl.1 rfl (Nat.le_of_ble_eq_true rfl) dL_law_867 ⟨by omega, by omega⟩ (fun H locs hI hS => ?_)
  refine lv_istore (lv' := [(6, .int (kL [0, 3] r.2)), (5, .int (nI (5 * j))), (4, .ref (B + 575)), (3, .ref (B + 574)), (2, .ref (B + 562 + 0)), (1, .ref (B + 0)), (0, .ref b)]) hx hb dL_law_870 hl (by decide) rfl (fun ls hl => ?_)
  refine lv_aload_n hx hb dL_law_872 rfl (lv_at hl 4 rfl) ?_
  refine lv_aload_n hx hb dL_law_873 rfl (lv_at hl 6 rfl) ?_
  refine lv_iload hx hb dL_law_874 (lv_at hl 1 rfl) ?_
  refine lv_iconst (v := 1) hx hb dL_law_876 (by decide) ?_
  refine lv_iadd hx hb dL_law_877 ?_
  refine va_sld hx hb hX hbl hbA hS (sc_in 1 hj hL (by decide)) dL_law_878 ?_
  refine lv_aload_n hx hb dL_law_879 rfl (lv_at hl 6 rfl) ?_
  refine lv_iload hx hb dL_law_880 (lv_at hl 1 rfl) ?_
  refine lv_iconst (v := 2) hx hb dL_law_882 (by decide) ?_
  refine lv_iadd hx hb dL_law_883 ?_
  refine va_sld hx hb hX hbl hbA hS (sc_in 2 hj hL (by decide)) dL_law_884 ?_
  refine gl_mo (As := [.int (xs (nI (5 * j) + 1).toNatClampNeg), .int (xs (nI (5 * j) + 2).toNatClampNeg)]) (rest := []) F hC hml hS hI (fun X hX9 => metX11_minutesByTable (FX_at F (by have := F.2.2.2.2; omega)) hX9 is_Mo hf') ml_L_230 rfl ⟨rfl, rfl, (Nat.le_of_ble_eq_true rfl), (Nat.le_of_ble_eq_true rfl)⟩ rfl hl.1 rfl (Nat.le_of_ble_eq_true rfl) dL_law_885 ⟨by omega, by omega⟩ (fun H locs hI hS => ?_)
  refine lv_istore (lv' := [(7, .int r'.2), (6, .int (kL [0, 3] r.2)), (5, .int (nI (5 * j))), (4, .ref (B + 575)), (3, .ref (B + 574)), (2, .ref (B + 562 + 0)), (1, .ref (B + 0)), (0, .ref b)]) hx hb dL_law_888 hl (by decide) rfl (fun ls hl => ?_)
  refine lv_aload_n hx hb dL_law_890 rfl (lv_at hl 5 rfl) ?_
  refine gl_mo (As := []) (rest := []) F hC hml hS hI (fun X hX9 => metX11_thrown (N := N) (r := r'.1 0 6) (FX_at F (by have := F.2.2.2.2; omega)) hX9 is_Mo rfl) ml_L_198 rfl ⟨rfl, rfl, (Nat.le_of_ble_eq_true rfl), (Nat.le_of_ble_eq_true rfl)⟩ rfl hl.1 rfl (Nat.le_of_ble_eq_true rfl) dL_law_891 ⟨by omega, by omega⟩ (fun H locs hI hS => ?_)
  refine lv_iload hx hb dL_law_894 (lv_at hl 1 rfl) ?_
  refine lv_icmp_eq (tgt := 901) hx hb dL_law_896 (by decide) (fun _ => ?_) (fun z => absurd h6 z)
  refine lv_iload hx hb dL_law_901 (lv_at hl 1 rfl) ?_
  refine lv_if_ne (tgt := 918) hx hb dL_law_903 (by decide) (fun _ => ?_) (fun z => ?_)
  · refine lv_goto (tgt := 3665) hx hb dL_law_918 (by decide) ?_
    exact lk_end kk (by omega) (by omega) hR' hcap hI hS (lv_sub hl [2, 3, 4, 5, 6, 7] rfl)
  · refine lv_aload_n hx hb dL_law_906 rfl (lv_at hl 4 rfl) ?_
    refine lv_iconst (v := 0) hx hb dL_law_907 (by decide) ?_
    refine gl_lald hC hI.2.2.1 dL_law_908 ?_
    rw [upI_0 (h0 z)]
    refine lv_iload hx hb dL_law_909 (lv_at hl 0 rfl) ?_
    refine lv_i2l hx hb dL_law_911 rfl ?_
    refine W.lcmp hx hb dL_law_912 ?_
    rw [lg_cmp_self]
    refine lv_if_eq (tgt := 918) hx hb dL_law_913 (by decide) (fun _ => ?_) (fun z => absurd rfl z)
    refine lv_goto (tgt := 3665) hx hb dL_law_918 (by decide) ?_
    exact lk_end kk (by omega) (by omega) hR' hcap hI hS (lv_sub hl [2, 3, 4, 5, 6, 7] rfl)
set_option maxHeartbeats 4000000 in
set_option maxRecDepth 100000 in
theorem op_10 {p : Program} {l : Launch} {e : Env} {s : State} {m : MethodId} {below : List Frame} {meth : Method} {c : Code} {b L : Nat} {xs : Nat → Int32} {D : va_G} {T : Nat → ClassId} {B N j cells slots : Nat} {Q : State → Prop} {μ ν : Mem} {cap : Nat} {t : List Nat} {f : Nat → Int64} {g : Nat → UInt64} {H : Heap} {locs : List Loc} {ls : Array Slot} (F : FX l s b D T B) (hN : 1200000000000 ≤ N) (hNP : ∀ x ds, dcN x = some ds → NumP N x ds) (C0 : lw_At p s m meth c b L xs) (hL : L ≤ 2560) (hj : 5 * j + 5 ≤ L) (hR : RR μ ν 0 t) (hcap : cap ≤ 70) (hI : LI s D T B μ cap t ν f g H) (hS : va_S (AL B) s.heap H locs) (hl : lv_has ls 9 (LV b B (nI (5 * j)))) (hce : cells + 1450 ≤ room_1.cells) (hsl : slots + 13186 ≤ room_1.slots) (kk : LK p l e s m b below meth c D T B j cells slots Q) : W p l e room_1 s m #[.ref b] below meth c H locs cells slots Q (F0 m 921 ls []) := by
  obtain ⟨hx, hb, hr, hml, hown, hts, hX, hbl, hlocks, hgv⟩ := C0
  have hC : gC p c code s m #[.ref b] RL D vwCl (tysG T) := ⟨hx, hb, hown, fun w hw => hts w (wg_tbl hw), F.2.2.2.1⟩
  have hbA : ¬ AL B b := Nat.not_le.mpr (Nat.lt_of_lt_of_le hbl F.2.2.2.2)
  obtain ⟨r, hf, r', hf', hR', hSm⟩ := (q_wayLegs (by omega) hR : Ok (fX10_wayLegs N μ 0 (xs (nI (5 * j) + 1).toNatClampNeg) (xs (nI (5 * j) + 2).toNatClampNeg)) _)
  obtain ⟨h6, h0⟩ := Sm_k hSm (by decide) (by decide)
  refine lv_aload_n hx hb dL_law_921 rfl (lv_at hl 4 rfl) ?_
  refine lv_aload_n hx hb dL_law_922 rfl (lv_at hl 5 rfl) ?_
  refine lv_iload hx hb dL_law_923 (lv_at hl 0 rfl) ?_
  refine lv_iconst (v := 1) hx hb dL_law_925 (by decide) ?_
  refine lv_iadd hx hb dL_law_926 ?_
  refine va_sld hx hb hX hbl hbA hS (sc_in 1 hj hL (by decide)) dL_law_927 ?_
  refine lv_aload_n hx hb dL_law_928 rfl (lv_at hl 5 rfl) ?_
  refine lv_iload hx hb dL_law_929 (lv_at hl 0 rfl) ?_
  refine lv_iconst (v := 2) hx hb dL_law_931 (by decide) ?_
  refine lv_iadd hx hb dL_law_932 ?_
  refine va_sld hx hb hX hbl hbA hS (sc_in 2 hj hL (by decide)) dL_law_933 ?_
  refine lv_aload_n hx hb dL_law_934 rfl (lv_at hl 2 rfl) ?_
  refine gl_wr (As := [.ref (B + 0), .int (xs (nI (5 * j) + 1).toNatClampNeg), .int (xs (nI (5 * j) + 2).toNatClampNeg), .ref (B + 574)]) (rest := []) F hC hml hS hI (metL_wayLegs F Xc_g Xc_ob hf (Sm2 hSm)) mw_L_231 ⟨rfl, rfl, (Nat.le_of_ble_eq_true rfl), (Nat.le_of_ble_eq_true rfl)⟩ rfl hl.1 rfl (Nat.le_of_ble_eq_true rfl) dL_law_935 ⟨by omega, by omega⟩ (fun H locs hI hS => ?_)
  refine lv_istore (lv' := [(6, .int (kL [0, 3] r.2)), (5, .int (nI (5 * j))), (4, .ref (B + 575)), (3, .ref (B + 574)), (2, .ref (B + 562 + 0)), (1, .ref (B + 0)), (0, .ref b)]) hx hb dL_law_938 hl (by decide) rfl (fun ls hl => ?_)
  refine lv_aload_n hx hb dL_law_940 rfl (lv_at hl 4 rfl) ?_
  refine lv_aload_n hx hb dL_law_941 rfl (lv_at hl 6 rfl) ?_
  refine lv_iload hx hb dL_law_942 (lv_at hl 1 rfl) ?_
  refine lv_iconst (v := 1) hx hb dL_law_944 (by decide) ?_
  refine lv_iadd hx hb dL_law_945 ?_
  refine va_sld hx hb hX hbl hbA hS (sc_in 1 hj hL (by decide)) dL_law_946 ?_
  refine lv_aload_n hx hb dL_law_947 rfl (lv_at hl 6 rfl) ?_
  refine lv_iload hx hb dL_law_948 (lv_at hl 1 rfl) ?_
  refine lv_iconst (v := 2) hx hb dL_law_950 (by decide) ?_
  refine lv_iadd hx hb dL_law_951 ?_
  refine va_sld hx hb hX hbl hbA hS (sc_in 2 hj hL (by decide)) dL_law_952 ?_
  refine gl_mo (As := [.int (xs (nI (5 * j) + 1).toNatClampNeg), .int (xs (nI (5 * j) + 2).toNatClampNeg)]) (rest := []) F hC hml hS hI (fun X hX9 => metX11_wayLegs (FX_at F (by have := F.2.2.2.2; omega)) hX9 is_Mo hf') ml_L_233 rfl ⟨rfl, rfl, (Nat.le_of_ble_eq_true rfl), (Nat.le_of_ble_eq_true rfl)⟩ rfl hl.1 rfl (Nat.le_of_ble_eq_true rfl) dL_law_953 ⟨by omega, by omega⟩ (fun H locs hI hS => ?_)
  refine lv_istore (lv' := [(7, .int r'.2), (6, .int (kL [0, 3] r.2)), (5, .int (nI (5 * j))), (4, .ref (B + 575)), (3, .ref (B + 574)), (2, .ref (B + 562 + 0)), (1, .ref (B + 0)), (0, .ref b)]) hx hb dL_law_956 hl (by decide) rfl (fun ls hl => ?_)
  refine lv_aload_n hx hb dL_law_958 rfl (lv_at hl 5 rfl) ?_
  refine gl_mo (As := []) (rest := []) F hC hml hS hI (fun X hX9 => metX11_thrown (N := N) (r := r'.1 0 6) (FX_at F (by have := F.2.2.2.2; omega)) hX9 is_Mo rfl) ml_L_198 rfl ⟨rfl, rfl, (Nat.le_of_ble_eq_true rfl), (Nat.le_of_ble_eq_true rfl)⟩ rfl hl.1 rfl (Nat.le_of_ble_eq_true rfl) dL_law_959 ⟨by omega, by omega⟩ (fun H locs hI hS => ?_)
  refine lv_iload hx hb dL_law_962 (lv_at hl 1 rfl) ?_
  refine lv_icmp_eq (tgt := 969) hx hb dL_law_964 (by decide) (fun _ => ?_) (fun z => absurd h6 z)
  refine lv_iload hx hb dL_law_969 (lv_at hl 1 rfl) ?_
  refine lv_if_ne (tgt := 986) hx hb dL_law_971 (by decide) (fun _ => ?_) (fun z => ?_)
  · refine lv_goto (tgt := 3665) hx hb dL_law_986 (by decide) ?_
    exact lk_end kk (by omega) (by omega) hR' hcap hI hS (lv_sub hl [2, 3, 4, 5, 6, 7] rfl)
  · refine lv_aload_n hx hb dL_law_974 rfl (lv_at hl 4 rfl) ?_
    refine lv_iconst (v := 0) hx hb dL_law_975 (by decide) ?_
    refine gl_lald hC hI.2.2.1 dL_law_976 ?_
    rw [upI_0 (h0 z)]
    refine lv_iload hx hb dL_law_977 (lv_at hl 0 rfl) ?_
    refine lv_i2l hx hb dL_law_979 rfl ?_
    refine W.lcmp hx hb dL_law_980 ?_
    rw [lg_cmp_self]
    refine lv_if_eq (tgt := 986) hx hb dL_law_981 (by decide) (fun _ => ?_) (fun z => absurd rfl z)
    refine lv_goto (tgt := 3665) hx hb dL_law_986 (by decide) ?_
    exact lk_end kk (by omega) (by omega) hR' hcap hI hS (lv_sub hl [2, 3, 4, 5, 6, 7] rfl)
set_option maxHeartbeats 4000000 in
set_option maxRecDepth 100000 in
theorem op_11 {p : Program} {l : Launch} {e : Env} {s : State} {m : MethodId} {below : List Frame} {meth : Method} {c : Code} {b L : Nat} {xs : Nat → Int32} {D : va_G} {T : Nat → ClassId} {B N j cells slots : Nat} {Q : State → Prop} {μ ν : Mem} {cap : Nat} {t : List Nat} {f : Nat → Int64} {g : Nat → UInt64} {H : Heap} {locs : List Loc} {ls : Array Slot} (F : FX l s b D T B) (hN : 1200000000000 ≤ N) (hNP : ∀ x ds, dcN x = some ds → NumP N x ds) (C0 : lw_At p s m meth c b L xs) (hL : L ≤ 2560) (hj : 5 * j + 5 ≤ L) (hR : RR μ ν 0 t) (hcap : cap ≤ 70) (hI : LI s D T B μ cap t ν f g H) (hS : va_S (AL B) s.heap H locs) (hl : lv_has ls 9 (LV b B (nI (5 * j)))) (hce : cells + 1450 ≤ room_1.cells) (hsl : slots + 13186 ≤ room_1.slots) (kk : LK p l e s m b below meth c D T B j cells slots Q) : W p l e room_1 s m #[.ref b] below meth c H locs cells slots Q (F0 m 989 ls []) := by
  obtain ⟨hx, hb, hr, hml, hown, hts, hX, hbl, hlocks, hgv⟩ := C0
  have hC : gC p c code s m #[.ref b] RL D vwCl (tysG T) := ⟨hx, hb, hown, fun w hw => hts w (wg_tbl hw), F.2.2.2.1⟩
  have hbA : ¬ AL B b := Nat.not_le.mpr (Nat.lt_of_lt_of_le hbl F.2.2.2.2)
  obtain ⟨r, hf, r', hf', hR', hSm⟩ := (q_wayRoom (by omega) hR : Ok (fX10_wayRoom N μ 0 (xs (nI (5 * j) + 1).toNatClampNeg) (xs (nI (5 * j) + 2).toNatClampNeg) (xs (nI (5 * j) + 3).toNatClampNeg)) _)
  obtain ⟨h6, h0⟩ := Sm_k hSm (by decide) (by decide)
  refine lv_aload_n hx hb dL_law_989 rfl (lv_at hl 4 rfl) ?_
  refine lv_aload_n hx hb dL_law_990 rfl (lv_at hl 5 rfl) ?_
  refine lv_iload hx hb dL_law_991 (lv_at hl 0 rfl) ?_
  refine lv_iconst (v := 1) hx hb dL_law_993 (by decide) ?_
  refine lv_iadd hx hb dL_law_994 ?_
  refine va_sld hx hb hX hbl hbA hS (sc_in 1 hj hL (by decide)) dL_law_995 ?_
  refine lv_aload_n hx hb dL_law_996 rfl (lv_at hl 5 rfl) ?_
  refine lv_iload hx hb dL_law_997 (lv_at hl 0 rfl) ?_
  refine lv_iconst (v := 2) hx hb dL_law_999 (by decide) ?_
  refine lv_iadd hx hb dL_law_1000 ?_
  refine va_sld hx hb hX hbl hbA hS (sc_in 2 hj hL (by decide)) dL_law_1001 ?_
  refine lv_aload_n hx hb dL_law_1002 rfl (lv_at hl 5 rfl) ?_
  refine lv_iload hx hb dL_law_1003 (lv_at hl 0 rfl) ?_
  refine lv_iconst (v := 3) hx hb dL_law_1005 (by decide) ?_
  refine lv_iadd hx hb dL_law_1006 ?_
  refine va_sld hx hb hX hbl hbA hS (sc_in 3 hj hL (by decide)) dL_law_1007 ?_
  refine lv_aload_n hx hb dL_law_1008 rfl (lv_at hl 2 rfl) ?_
  refine gl_wr (As := [.ref (B + 0), .int (xs (nI (5 * j) + 1).toNatClampNeg), .int (xs (nI (5 * j) + 2).toNatClampNeg), .int (xs (nI (5 * j) + 3).toNatClampNeg), .ref (B + 574)]) (rest := []) F hC hml hS hI (metL_wayRoom F Xc_g Xc_ob hf (Sm2 hSm)) mw_L_234 ⟨rfl, rfl, (Nat.le_of_ble_eq_true rfl), (Nat.le_of_ble_eq_true rfl)⟩ rfl hl.1 rfl (Nat.le_of_ble_eq_true rfl) dL_law_1009 ⟨by omega, by omega⟩ (fun H locs hI hS => ?_)
  refine lv_istore (lv' := [(6, .int (kL [0, 3] r.2)), (5, .int (nI (5 * j))), (4, .ref (B + 575)), (3, .ref (B + 574)), (2, .ref (B + 562 + 0)), (1, .ref (B + 0)), (0, .ref b)]) hx hb dL_law_1012 hl (by decide) rfl (fun ls hl => ?_)
  refine lv_aload_n hx hb dL_law_1014 rfl (lv_at hl 4 rfl) ?_
  refine lv_aload_n hx hb dL_law_1015 rfl (lv_at hl 6 rfl) ?_
  refine lv_iload hx hb dL_law_1016 (lv_at hl 1 rfl) ?_
  refine lv_iconst (v := 1) hx hb dL_law_1018 (by decide) ?_
  refine lv_iadd hx hb dL_law_1019 ?_
  refine va_sld hx hb hX hbl hbA hS (sc_in 1 hj hL (by decide)) dL_law_1020 ?_
  refine lv_aload_n hx hb dL_law_1021 rfl (lv_at hl 6 rfl) ?_
  refine lv_iload hx hb dL_law_1022 (lv_at hl 1 rfl) ?_
  refine lv_iconst (v := 2) hx hb dL_law_1024 (by decide) ?_
  refine lv_iadd hx hb dL_law_1025 ?_
  refine va_sld hx hb hX hbl hbA hS (sc_in 2 hj hL (by decide)) dL_law_1026 ?_
  refine lv_aload_n hx hb dL_law_1027 rfl (lv_at hl 6 rfl) ?_
  refine lv_iload hx hb dL_law_1028 (lv_at hl 1 rfl) ?_
  refine lv_iconst (v := 3) hx hb dL_law_1030 (by decide) ?_
  refine lv_iadd hx hb dL_law_1031 ?_
  refine va_sld hx hb hX hbl hbA hS (sc_in 3 hj hL (by decide)) dL_law_1032 ?_
  refine gl_mo (As := [.int (xs (nI (5 * j) + 1).toNatClampNeg), .int (xs (nI (5 * j) + 2).toNatClampNeg), .int (xs (nI (5 * j) + 3).toNatClampNeg)]) (rest := []) F hC hml hS hI (fun X hX9 => metX11_wayRoom (FX_at F (by have := F.2.2.2.2; omega)) hX9 is_Mo hf') ml_L_237 rfl ⟨rfl, rfl, (Nat.le_of_ble_eq_true rfl), (Nat.le_of_ble_eq_true rfl)⟩ rfl hl.1 rfl (Nat.le_of_ble_eq_true rfl) dL_law_1033 ⟨by omega, by omega⟩ (fun H locs hI hS => ?_)
  refine lv_istore (lv' := [(7, .int r'.2), (6, .int (kL [0, 3] r.2)), (5, .int (nI (5 * j))), (4, .ref (B + 575)), (3, .ref (B + 574)), (2, .ref (B + 562 + 0)), (1, .ref (B + 0)), (0, .ref b)]) hx hb dL_law_1036 hl (by decide) rfl (fun ls hl => ?_)
  refine lv_aload_n hx hb dL_law_1038 rfl (lv_at hl 5 rfl) ?_
  refine gl_mo (As := []) (rest := []) F hC hml hS hI (fun X hX9 => metX11_thrown (N := N) (r := r'.1 0 6) (FX_at F (by have := F.2.2.2.2; omega)) hX9 is_Mo rfl) ml_L_198 rfl ⟨rfl, rfl, (Nat.le_of_ble_eq_true rfl), (Nat.le_of_ble_eq_true rfl)⟩ rfl hl.1 rfl (Nat.le_of_ble_eq_true rfl) dL_law_1039 ⟨by omega, by omega⟩ (fun H locs hI hS => ?_)
  refine lv_iload hx hb dL_law_1042 (lv_at hl 1 rfl) ?_
  refine lv_icmp_eq (tgt := 1049) hx hb dL_law_1044 (by decide) (fun _ => ?_) (fun z => absurd h6 z)
  refine lv_iload hx hb dL_law_1049 (lv_at hl 1 rfl) ?_
  refine lv_if_ne (tgt := 1066) hx hb dL_law_1051 (by decide) (fun _ => ?_) (fun z => ?_)
  · refine lv_goto (tgt := 3665) hx hb dL_law_1066 (by decide) ?_
    exact lk_end kk (by omega) (by omega) hR' hcap hI hS (lv_sub hl [2, 3, 4, 5, 6, 7] rfl)
  · refine lv_aload_n hx hb dL_law_1054 rfl (lv_at hl 4 rfl) ?_
    refine lv_iconst (v := 0) hx hb dL_law_1055 (by decide) ?_
    refine gl_lald hC hI.2.2.1 dL_law_1056 ?_
    rw [upI_0 (h0 z)]
    refine lv_iload hx hb dL_law_1057 (lv_at hl 0 rfl) ?_
    refine lv_i2l hx hb dL_law_1059 rfl ?_
    refine W.lcmp hx hb dL_law_1060 ?_
    rw [lg_cmp_self]
    refine lv_if_eq (tgt := 1066) hx hb dL_law_1061 (by decide) (fun _ => ?_) (fun z => absurd rfl z)
    refine lv_goto (tgt := 3665) hx hb dL_law_1066 (by decide) ?_
    exact lk_end kk (by omega) (by omega) hR' hcap hI hS (lv_sub hl [2, 3, 4, 5, 6, 7] rfl)
set_option maxHeartbeats 4000000 in
set_option maxRecDepth 100000 in
theorem op_12 {p : Program} {l : Launch} {e : Env} {s : State} {m : MethodId} {below : List Frame} {meth : Method} {c : Code} {b L : Nat} {xs : Nat → Int32} {D : va_G} {T : Nat → ClassId} {B N j cells slots : Nat} {Q : State → Prop} {μ ν : Mem} {cap : Nat} {t : List Nat} {f : Nat → Int64} {g : Nat → UInt64} {H : Heap} {locs : List Loc} {ls : Array Slot} (F : FX l s b D T B) (hN : 1200000000000 ≤ N) (hNP : ∀ x ds, dcN x = some ds → NumP N x ds) (C0 : lw_At p s m meth c b L xs) (hL : L ≤ 2560) (hj : 5 * j + 5 ≤ L) (hR : RR μ ν 0 t) (hcap : cap ≤ 70) (hI : LI s D T B μ cap t ν f g H) (hS : va_S (AL B) s.heap H locs) (hl : lv_has ls 9 (LV b B (nI (5 * j)))) (hce : cells + 1450 ≤ room_1.cells) (hsl : slots + 13186 ≤ room_1.slots) (kk : LK p l e s m b below meth c D T B j cells slots Q) : W p l e room_1 s m #[.ref b] below meth c H locs cells slots Q (F0 m 1069 ls []) := by
  obtain ⟨hx, hb, hr, hml, hown, hts, hX, hbl, hlocks, hgv⟩ := C0
  have hC : gC p c code s m #[.ref b] RL D vwCl (tysG T) := ⟨hx, hb, hown, fun w hw => hts w (wg_tbl hw), F.2.2.2.1⟩
  have hbA : ¬ AL B b := Nat.not_le.mpr (Nat.lt_of_lt_of_le hbl F.2.2.2.2)
  obtain ⟨r, hf, r', hf', hR', hSm⟩ := (o_addExhibit (by omega) hR : Ok (fX10_addExhibit N μ 0 (xs (nI (5 * j) + 1).toNatClampNeg) (xs (nI (5 * j) + 2).toNatClampNeg)) _)
  obtain ⟨h6, h0⟩ := Sm_k hSm (by decide) (by decide)
  refine lv_aload_n hx hb dL_law_1069 rfl (lv_at hl 4 rfl) ?_
  refine lv_aload_n hx hb dL_law_1070 rfl (lv_at hl 5 rfl) ?_
  refine lv_iload hx hb dL_law_1071 (lv_at hl 0 rfl) ?_
  refine lv_iconst (v := 1) hx hb dL_law_1073 (by decide) ?_
  refine lv_iadd hx hb dL_law_1074 ?_
  refine va_sld hx hb hX hbl hbA hS (sc_in 1 hj hL (by decide)) dL_law_1075 ?_
  refine lv_aload_n hx hb dL_law_1076 rfl (lv_at hl 5 rfl) ?_
  refine lv_iload hx hb dL_law_1077 (lv_at hl 0 rfl) ?_
  refine lv_iconst (v := 2) hx hb dL_law_1079 (by decide) ?_
  refine lv_iadd hx hb dL_law_1080 ?_
  refine va_sld hx hb hX hbl hbA hS (sc_in 2 hj hL (by decide)) dL_law_1081 ?_
  refine lv_aload_n hx hb dL_law_1082 rfl (lv_at hl 2 rfl) ?_
  refine gl_wr (As := [.ref (B + 0), .int (xs (nI (5 * j) + 1).toNatClampNeg), .int (xs (nI (5 * j) + 2).toNatClampNeg), .ref (B + 574)]) (rest := []) F hC hml hS hI (metL_addExhibit F Xc_g Xc_ob hf (Sm3 hSm)) mw_L_238 ⟨rfl, rfl, (Nat.le_of_ble_eq_true rfl), (Nat.le_of_ble_eq_true rfl)⟩ rfl hl.1 rfl (Nat.le_of_ble_eq_true rfl) dL_law_1083 ⟨by omega, by omega⟩ (fun H locs hI hS => ?_)
  refine lv_istore (lv' := [(6, .int (kL [0, 1, 2] r.2)), (5, .int (nI (5 * j))), (4, .ref (B + 575)), (3, .ref (B + 574)), (2, .ref (B + 562 + 0)), (1, .ref (B + 0)), (0, .ref b)]) hx hb dL_law_1086 hl (by decide) rfl (fun ls hl => ?_)
  refine lv_aload_n hx hb dL_law_1088 rfl (lv_at hl 4 rfl) ?_
  refine lv_aload_n hx hb dL_law_1089 rfl (lv_at hl 6 rfl) ?_
  refine lv_iload hx hb dL_law_1090 (lv_at hl 1 rfl) ?_
  refine lv_iconst (v := 1) hx hb dL_law_1092 (by decide) ?_
  refine lv_iadd hx hb dL_law_1093 ?_
  refine va_sld hx hb hX hbl hbA hS (sc_in 1 hj hL (by decide)) dL_law_1094 ?_
  refine lv_aload_n hx hb dL_law_1095 rfl (lv_at hl 6 rfl) ?_
  refine lv_iload hx hb dL_law_1096 (lv_at hl 1 rfl) ?_
  refine lv_iconst (v := 2) hx hb dL_law_1098 (by decide) ?_
  refine lv_iadd hx hb dL_law_1099 ?_
  refine va_sld hx hb hX hbl hbA hS (sc_in 2 hj hL (by decide)) dL_law_1100 ?_
  refine gl_mo (As := [.int (xs (nI (5 * j) + 1).toNatClampNeg), .int (xs (nI (5 * j) + 2).toNatClampNeg)]) (rest := []) F hC hml hS hI (fun X hX9 => metX11_addExhibit (FX_at F (by have := F.2.2.2.2; omega)) hX9 is_Mo hf') ml_L_240 rfl ⟨rfl, rfl, (Nat.le_of_ble_eq_true rfl), (Nat.le_of_ble_eq_true rfl)⟩ rfl hl.1 rfl (Nat.le_of_ble_eq_true rfl) dL_law_1101 ⟨by omega, by omega⟩ (fun H locs hI hS => ?_)
  refine lv_istore (lv' := [(7, .int r'.2), (6, .int (kL [0, 1, 2] r.2)), (5, .int (nI (5 * j))), (4, .ref (B + 575)), (3, .ref (B + 574)), (2, .ref (B + 562 + 0)), (1, .ref (B + 0)), (0, .ref b)]) hx hb dL_law_1104 hl (by decide) rfl (fun ls hl => ?_)
  refine lv_aload_n hx hb dL_law_1106 rfl (lv_at hl 5 rfl) ?_
  refine gl_mo (As := []) (rest := []) F hC hml hS hI (fun X hX9 => metX11_thrown (N := N) (r := r'.1 0 6) (FX_at F (by have := F.2.2.2.2; omega)) hX9 is_Mo rfl) ml_L_198 rfl ⟨rfl, rfl, (Nat.le_of_ble_eq_true rfl), (Nat.le_of_ble_eq_true rfl)⟩ rfl hl.1 rfl (Nat.le_of_ble_eq_true rfl) dL_law_1107 ⟨by omega, by omega⟩ (fun H locs hI hS => ?_)
  refine lv_iload hx hb dL_law_1110 (lv_at hl 1 rfl) ?_
  refine lv_icmp_eq (tgt := 1117) hx hb dL_law_1112 (by decide) (fun _ => ?_) (fun z => absurd h6 z)
  refine lv_iload hx hb dL_law_1117 (lv_at hl 1 rfl) ?_
  refine lv_if_ne (tgt := 1134) hx hb dL_law_1119 (by decide) (fun _ => ?_) (fun z => ?_)
  · refine lv_goto (tgt := 3665) hx hb dL_law_1134 (by decide) ?_
    exact lk_end kk (by omega) (by omega) hR' hcap hI hS (lv_sub hl [2, 3, 4, 5, 6, 7] rfl)
  · refine lv_aload_n hx hb dL_law_1122 rfl (lv_at hl 4 rfl) ?_
    refine lv_iconst (v := 0) hx hb dL_law_1123 (by decide) ?_
    refine gl_lald hC hI.2.2.1 dL_law_1124 ?_
    rw [upI_0 (h0 z)]
    refine lv_iload hx hb dL_law_1125 (lv_at hl 0 rfl) ?_
    refine lv_i2l hx hb dL_law_1127 rfl ?_
    refine W.lcmp hx hb dL_law_1128 ?_
    rw [lg_cmp_self]
    refine lv_if_eq (tgt := 1134) hx hb dL_law_1129 (by decide) (fun _ => ?_) (fun z => absurd rfl z)
    refine lv_goto (tgt := 3665) hx hb dL_law_1134 (by decide) ?_
    exact lk_end kk (by omega) (by omega) hR' hcap hI hS (lv_sub hl [2, 3, 4, 5, 6, 7] rfl)
set_option maxHeartbeats 4000000 in
set_option maxRecDepth 100000 in
theorem op_13 {p : Program} {l : Launch} {e : Env} {s : State} {m : MethodId} {below : List Frame} {meth : Method} {c : Code} {b L : Nat} {xs : Nat → Int32} {D : va_G} {T : Nat → ClassId} {B N j cells slots : Nat} {Q : State → Prop} {μ ν : Mem} {cap : Nat} {t : List Nat} {f : Nat → Int64} {g : Nat → UInt64} {H : Heap} {locs : List Loc} {ls : Array Slot} (F : FX l s b D T B) (hN : 1200000000000 ≤ N) (hNP : ∀ x ds, dcN x = some ds → NumP N x ds) (C0 : lw_At p s m meth c b L xs) (hL : L ≤ 2560) (hj : 5 * j + 5 ≤ L) (hR : RR μ ν 0 t) (hcap : cap ≤ 70) (hI : LI s D T B μ cap t ν f g H) (hS : va_S (AL B) s.heap H locs) (hl : lv_has ls 9 (LV b B (nI (5 * j)))) (hce : cells + 1450 ≤ room_1.cells) (hsl : slots + 13186 ≤ room_1.slots) (kk : LK p l e s m b below meth c D T B j cells slots Q) : W p l e room_1 s m #[.ref b] below meth c H locs cells slots Q (F0 m 1137 ls []) := by
  obtain ⟨hx, hb, hr, hml, hown, hts, hX, hbl, hlocks, hgv⟩ := C0
  have hC : gC p c code s m #[.ref b] RL D vwCl (tysG T) := ⟨hx, hb, hown, fun w hw => hts w (wg_tbl hw), F.2.2.2.1⟩
  have hbA : ¬ AL B b := Nat.not_le.mpr (Nat.lt_of_lt_of_le hbl F.2.2.2.2)
  obtain ⟨r, hf, r', hf', hR', hSm⟩ := (o_setLimit (by omega) hR : Ok (fX10_setLimit N μ 0 (xs (nI (5 * j) + 1).toNatClampNeg) (xs (nI (5 * j) + 2).toNatClampNeg)) _)
  obtain ⟨h6, h0⟩ := Sm_k hSm (by decide) (by decide)
  refine lv_aload_n hx hb dL_law_1137 rfl (lv_at hl 4 rfl) ?_
  refine lv_aload_n hx hb dL_law_1138 rfl (lv_at hl 5 rfl) ?_
  refine lv_iload hx hb dL_law_1139 (lv_at hl 0 rfl) ?_
  refine lv_iconst (v := 1) hx hb dL_law_1141 (by decide) ?_
  refine lv_iadd hx hb dL_law_1142 ?_
  refine va_sld hx hb hX hbl hbA hS (sc_in 1 hj hL (by decide)) dL_law_1143 ?_
  refine lv_aload_n hx hb dL_law_1144 rfl (lv_at hl 5 rfl) ?_
  refine lv_iload hx hb dL_law_1145 (lv_at hl 0 rfl) ?_
  refine lv_iconst (v := 2) hx hb dL_law_1147 (by decide) ?_
  refine lv_iadd hx hb dL_law_1148 ?_
  refine va_sld hx hb hX hbl hbA hS (sc_in 2 hj hL (by decide)) dL_law_1149 ?_
  refine lv_aload_n hx hb dL_law_1150 rfl (lv_at hl 2 rfl) ?_
  refine gl_wr (As := [.ref (B + 0), .int (xs (nI (5 * j) + 1).toNatClampNeg), .int (xs (nI (5 * j) + 2).toNatClampNeg), .ref (B + 574)]) (rest := []) F hC hml hS hI (metL_setLimit F Xc_g Xc_ob hf (Sm2 hSm)) mw_L_241 ⟨rfl, rfl, (Nat.le_of_ble_eq_true rfl), (Nat.le_of_ble_eq_true rfl)⟩ rfl hl.1 rfl (Nat.le_of_ble_eq_true rfl) dL_law_1151 ⟨by omega, by omega⟩ (fun H locs hI hS => ?_)
  refine lv_istore (lv' := [(6, .int (kL [0, 1] r.2)), (5, .int (nI (5 * j))), (4, .ref (B + 575)), (3, .ref (B + 574)), (2, .ref (B + 562 + 0)), (1, .ref (B + 0)), (0, .ref b)]) hx hb dL_law_1154 hl (by decide) rfl (fun ls hl => ?_)
  refine lv_aload_n hx hb dL_law_1156 rfl (lv_at hl 4 rfl) ?_
  refine lv_aload_n hx hb dL_law_1157 rfl (lv_at hl 6 rfl) ?_
  refine lv_iload hx hb dL_law_1158 (lv_at hl 1 rfl) ?_
  refine lv_iconst (v := 1) hx hb dL_law_1160 (by decide) ?_
  refine lv_iadd hx hb dL_law_1161 ?_
  refine va_sld hx hb hX hbl hbA hS (sc_in 1 hj hL (by decide)) dL_law_1162 ?_
  refine lv_aload_n hx hb dL_law_1163 rfl (lv_at hl 6 rfl) ?_
  refine lv_iload hx hb dL_law_1164 (lv_at hl 1 rfl) ?_
  refine lv_iconst (v := 2) hx hb dL_law_1166 (by decide) ?_
  refine lv_iadd hx hb dL_law_1167 ?_
  refine va_sld hx hb hX hbl hbA hS (sc_in 2 hj hL (by decide)) dL_law_1168 ?_
  refine gl_mo (As := [.int (xs (nI (5 * j) + 1).toNatClampNeg), .int (xs (nI (5 * j) + 2).toNatClampNeg)]) (rest := []) F hC hml hS hI (fun X hX9 => metX11_setLimit (FX_at F (by have := F.2.2.2.2; omega)) hX9 is_Mo hf') ml_L_243 rfl ⟨rfl, rfl, (Nat.le_of_ble_eq_true rfl), (Nat.le_of_ble_eq_true rfl)⟩ rfl hl.1 rfl (Nat.le_of_ble_eq_true rfl) dL_law_1169 ⟨by omega, by omega⟩ (fun H locs hI hS => ?_)
  refine lv_istore (lv' := [(7, .int r'.2), (6, .int (kL [0, 1] r.2)), (5, .int (nI (5 * j))), (4, .ref (B + 575)), (3, .ref (B + 574)), (2, .ref (B + 562 + 0)), (1, .ref (B + 0)), (0, .ref b)]) hx hb dL_law_1172 hl (by decide) rfl (fun ls hl => ?_)
  refine lv_aload_n hx hb dL_law_1174 rfl (lv_at hl 5 rfl) ?_
  refine gl_mo (As := []) (rest := []) F hC hml hS hI (fun X hX9 => metX11_thrown (N := N) (r := r'.1 0 6) (FX_at F (by have := F.2.2.2.2; omega)) hX9 is_Mo rfl) ml_L_198 rfl ⟨rfl, rfl, (Nat.le_of_ble_eq_true rfl), (Nat.le_of_ble_eq_true rfl)⟩ rfl hl.1 rfl (Nat.le_of_ble_eq_true rfl) dL_law_1175 ⟨by omega, by omega⟩ (fun H locs hI hS => ?_)
  refine lv_iload hx hb dL_law_1178 (lv_at hl 1 rfl) ?_
  refine lv_icmp_eq (tgt := 1185) hx hb dL_law_1180 (by decide) (fun _ => ?_) (fun z => absurd h6 z)
  refine lv_iload hx hb dL_law_1185 (lv_at hl 1 rfl) ?_
  refine lv_if_ne (tgt := 1202) hx hb dL_law_1187 (by decide) (fun _ => ?_) (fun z => ?_)
  · refine lv_goto (tgt := 3665) hx hb dL_law_1202 (by decide) ?_
    exact lk_end kk (by omega) (by omega) hR' hcap hI hS (lv_sub hl [2, 3, 4, 5, 6, 7] rfl)
  · refine lv_aload_n hx hb dL_law_1190 rfl (lv_at hl 4 rfl) ?_
    refine lv_iconst (v := 0) hx hb dL_law_1191 (by decide) ?_
    refine gl_lald hC hI.2.2.1 dL_law_1192 ?_
    rw [upI_0 (h0 z)]
    refine lv_iload hx hb dL_law_1193 (lv_at hl 0 rfl) ?_
    refine lv_i2l hx hb dL_law_1195 rfl ?_
    refine W.lcmp hx hb dL_law_1196 ?_
    rw [lg_cmp_self]
    refine lv_if_eq (tgt := 1202) hx hb dL_law_1197 (by decide) (fun _ => ?_) (fun z => absurd rfl z)
    refine lv_goto (tgt := 3665) hx hb dL_law_1202 (by decide) ?_
    exact lk_end kk (by omega) (by omega) hR' hcap hI hS (lv_sub hl [2, 3, 4, 5, 6, 7] rfl)
set_option maxHeartbeats 4000000 in
set_option maxRecDepth 100000 in
theorem op_14 {p : Program} {l : Launch} {e : Env} {s : State} {m : MethodId} {below : List Frame} {meth : Method} {c : Code} {b L : Nat} {xs : Nat → Int32} {D : va_G} {T : Nat → ClassId} {B N j cells slots : Nat} {Q : State → Prop} {μ ν : Mem} {cap : Nat} {t : List Nat} {f : Nat → Int64} {g : Nat → UInt64} {H : Heap} {locs : List Loc} {ls : Array Slot} (F : FX l s b D T B) (hN : 1200000000000 ≤ N) (hNP : ∀ x ds, dcN x = some ds → NumP N x ds) (C0 : lw_At p s m meth c b L xs) (hL : L ≤ 2560) (hj : 5 * j + 5 ≤ L) (hR : RR μ ν 0 t) (hcap : cap ≤ 70) (hI : LI s D T B μ cap t ν f g H) (hS : va_S (AL B) s.heap H locs) (hl : lv_has ls 9 (LV b B (nI (5 * j)))) (hce : cells + 1450 ≤ room_1.cells) (hsl : slots + 13186 ≤ room_1.slots) (kk : LK p l e s m b below meth c D T B j cells slots Q) : W p l e room_1 s m #[.ref b] below meth c H locs cells slots Q (F0 m 1205 ls []) := by
  obtain ⟨hx, hb, hr, hml, hown, hts, hX, hbl, hlocks, hgv⟩ := C0
  have hC : gC p c code s m #[.ref b] RL D vwCl (tysG T) := ⟨hx, hb, hown, fun w hw => hts w (wg_tbl hw), F.2.2.2.1⟩
  have hbA : ¬ AL B b := Nat.not_le.mpr (Nat.lt_of_lt_of_le hbl F.2.2.2.2)
  obtain ⟨r, hf, r', hf', hR', hSm⟩ := (o_drop (by omega) hR : Ok (fX10_drop N μ 0 (xs (nI (5 * j) + 1).toNatClampNeg) (xs (nI (5 * j) + 2).toNatClampNeg) (xs (nI (5 * j) + 3).toNatClampNeg) (xs (nI (5 * j) + 4).toNatClampNeg)) _)
  obtain ⟨h6, h0⟩ := Sm_k hSm (by decide) (by decide)
  refine lv_aload_n hx hb dL_law_1205 rfl (lv_at hl 4 rfl) ?_
  refine lv_aload_n hx hb dL_law_1206 rfl (lv_at hl 5 rfl) ?_
  refine lv_iload hx hb dL_law_1207 (lv_at hl 0 rfl) ?_
  refine lv_iconst (v := 1) hx hb dL_law_1209 (by decide) ?_
  refine lv_iadd hx hb dL_law_1210 ?_
  refine va_sld hx hb hX hbl hbA hS (sc_in 1 hj hL (by decide)) dL_law_1211 ?_
  refine lv_aload_n hx hb dL_law_1212 rfl (lv_at hl 5 rfl) ?_
  refine lv_iload hx hb dL_law_1213 (lv_at hl 0 rfl) ?_
  refine lv_iconst (v := 2) hx hb dL_law_1215 (by decide) ?_
  refine lv_iadd hx hb dL_law_1216 ?_
  refine va_sld hx hb hX hbl hbA hS (sc_in 2 hj hL (by decide)) dL_law_1217 ?_
  refine lv_aload_n hx hb dL_law_1218 rfl (lv_at hl 5 rfl) ?_
  refine lv_iload hx hb dL_law_1219 (lv_at hl 0 rfl) ?_
  refine lv_iconst (v := 3) hx hb dL_law_1221 (by decide) ?_
  refine lv_iadd hx hb dL_law_1222 ?_
  refine va_sld hx hb hX hbl hbA hS (sc_in 3 hj hL (by decide)) dL_law_1223 ?_
  refine lv_aload_n hx hb dL_law_1224 rfl (lv_at hl 5 rfl) ?_
  refine lv_iload hx hb dL_law_1225 (lv_at hl 0 rfl) ?_
  refine lv_iconst (v := 4) hx hb dL_law_1227 (by decide) ?_
  refine lv_iadd hx hb dL_law_1228 ?_
  refine va_sld hx hb hX hbl hbA hS (sc_in 4 hj hL (by decide)) dL_law_1229 ?_
  refine lv_aload_n hx hb dL_law_1230 rfl (lv_at hl 2 rfl) ?_
  refine gl_wr (As := [.ref (B + 0), .int (xs (nI (5 * j) + 1).toNatClampNeg), .int (xs (nI (5 * j) + 2).toNatClampNeg), .int (xs (nI (5 * j) + 3).toNatClampNeg), .int (xs (nI (5 * j) + 4).toNatClampNeg), .ref (B + 574)]) (rest := []) F hC hml hS hI (metL_drop F Xc_g Xc_ob hf (Sm2 hSm)) mw_L_244 ⟨rfl, rfl, (Nat.le_of_ble_eq_true rfl), (Nat.le_of_ble_eq_true rfl)⟩ rfl hl.1 rfl (Nat.le_of_ble_eq_true rfl) dL_law_1231 ⟨by omega, by omega⟩ (fun H locs hI hS => ?_)
  refine lv_istore (lv' := [(6, .int (kL [0, 1] r.2)), (5, .int (nI (5 * j))), (4, .ref (B + 575)), (3, .ref (B + 574)), (2, .ref (B + 562 + 0)), (1, .ref (B + 0)), (0, .ref b)]) hx hb dL_law_1234 hl (by decide) rfl (fun ls hl => ?_)
  refine lv_aload_n hx hb dL_law_1236 rfl (lv_at hl 4 rfl) ?_
  refine lv_aload_n hx hb dL_law_1237 rfl (lv_at hl 6 rfl) ?_
  refine lv_iload hx hb dL_law_1238 (lv_at hl 1 rfl) ?_
  refine lv_iconst (v := 1) hx hb dL_law_1240 (by decide) ?_
  refine lv_iadd hx hb dL_law_1241 ?_
  refine va_sld hx hb hX hbl hbA hS (sc_in 1 hj hL (by decide)) dL_law_1242 ?_
  refine lv_aload_n hx hb dL_law_1243 rfl (lv_at hl 6 rfl) ?_
  refine lv_iload hx hb dL_law_1244 (lv_at hl 1 rfl) ?_
  refine lv_iconst (v := 2) hx hb dL_law_1246 (by decide) ?_
  refine lv_iadd hx hb dL_law_1247 ?_
  refine va_sld hx hb hX hbl hbA hS (sc_in 2 hj hL (by decide)) dL_law_1248 ?_
  refine lv_aload_n hx hb dL_law_1249 rfl (lv_at hl 6 rfl) ?_
  refine lv_iload hx hb dL_law_1250 (lv_at hl 1 rfl) ?_
  refine lv_iconst (v := 3) hx hb dL_law_1252 (by decide) ?_
  refine lv_iadd hx hb dL_law_1253 ?_
  refine va_sld hx hb hX hbl hbA hS (sc_in 3 hj hL (by decide)) dL_law_1254 ?_
  refine lv_aload_n hx hb dL_law_1255 rfl (lv_at hl 6 rfl) ?_
  refine lv_iload hx hb dL_law_1256 (lv_at hl 1 rfl) ?_
  refine lv_iconst (v := 4) hx hb dL_law_1258 (by decide) ?_
  refine lv_iadd hx hb dL_law_1259 ?_
  refine va_sld hx hb hX hbl hbA hS (sc_in 4 hj hL (by decide)) dL_law_1260 ?_
  refine gl_mo (As := [.int (xs (nI (5 * j) + 1).toNatClampNeg), .int (xs (nI (5 * j) + 2).toNatClampNeg), .int (xs (nI (5 * j) + 3).toNatClampNeg), .int (xs (nI (5 * j) + 4).toNatClampNeg)]) (rest := []) F hC hml hS hI (fun X hX9 => metX11_drop (FX_at F (by have := F.2.2.2.2; omega)) hX9 is_Mo hf') ml_L_246 rfl ⟨rfl, rfl, (Nat.le_of_ble_eq_true rfl), (Nat.le_of_ble_eq_true rfl)⟩ rfl hl.1 rfl (Nat.le_of_ble_eq_true rfl) dL_law_1261 ⟨by omega, by omega⟩ (fun H locs hI hS => ?_)
  refine lv_istore (lv' := [(7, .int r'.2), (6, .int (kL [0, 1] r.2)), (5, .int (nI (5 * j))), (4, .ref (B + 575)), (3, .ref (B + 574)), (2, .ref (B + 562 + 0)), (1, .ref (B + 0)), (0, .ref b)]) hx hb dL_law_1264 hl (by decide) rfl (fun ls hl => ?_)
  refine lv_aload_n hx hb dL_law_1266 rfl (lv_at hl 5 rfl) ?_
  refine gl_mo (As := []) (rest := []) F hC hml hS hI (fun X hX9 => metX11_thrown (N := N) (r := r'.1 0 6) (FX_at F (by have := F.2.2.2.2; omega)) hX9 is_Mo rfl) ml_L_198 rfl ⟨rfl, rfl, (Nat.le_of_ble_eq_true rfl), (Nat.le_of_ble_eq_true rfl)⟩ rfl hl.1 rfl (Nat.le_of_ble_eq_true rfl) dL_law_1267 ⟨by omega, by omega⟩ (fun H locs hI hS => ?_)
  refine lv_iload hx hb dL_law_1270 (lv_at hl 1 rfl) ?_
  refine lv_icmp_eq (tgt := 1277) hx hb dL_law_1272 (by decide) (fun _ => ?_) (fun z => absurd h6 z)
  refine lv_iload hx hb dL_law_1277 (lv_at hl 1 rfl) ?_
  refine lv_if_ne (tgt := 1294) hx hb dL_law_1279 (by decide) (fun _ => ?_) (fun z => ?_)
  · refine lv_goto (tgt := 3665) hx hb dL_law_1294 (by decide) ?_
    exact lk_end kk (by omega) (by omega) hR' hcap hI hS (lv_sub hl [2, 3, 4, 5, 6, 7] rfl)
  · refine lv_aload_n hx hb dL_law_1282 rfl (lv_at hl 4 rfl) ?_
    refine lv_iconst (v := 0) hx hb dL_law_1283 (by decide) ?_
    refine gl_lald hC hI.2.2.1 dL_law_1284 ?_
    rw [upI_0 (h0 z)]
    refine lv_iload hx hb dL_law_1285 (lv_at hl 0 rfl) ?_
    refine lv_i2l hx hb dL_law_1287 rfl ?_
    refine W.lcmp hx hb dL_law_1288 ?_
    rw [lg_cmp_self]
    refine lv_if_eq (tgt := 1294) hx hb dL_law_1289 (by decide) (fun _ => ?_) (fun z => absurd rfl z)
    refine lv_goto (tgt := 3665) hx hb dL_law_1294 (by decide) ?_
    exact lk_end kk (by omega) (by omega) hR' hcap hI hS (lv_sub hl [2, 3, 4, 5, 6, 7] rfl)
set_option maxHeartbeats 4000000 in
set_option maxRecDepth 100000 in
theorem op_15 {p : Program} {l : Launch} {e : Env} {s : State} {m : MethodId} {below : List Frame} {meth : Method} {c : Code} {b L : Nat} {xs : Nat → Int32} {D : va_G} {T : Nat → ClassId} {B N j cells slots : Nat} {Q : State → Prop} {μ ν : Mem} {cap : Nat} {t : List Nat} {f : Nat → Int64} {g : Nat → UInt64} {H : Heap} {locs : List Loc} {ls : Array Slot} (F : FX l s b D T B) (hN : 1200000000000 ≤ N) (hNP : ∀ x ds, dcN x = some ds → NumP N x ds) (C0 : lw_At p s m meth c b L xs) (hL : L ≤ 2560) (hj : 5 * j + 5 ≤ L) (hR : RR μ ν 0 t) (hcap : cap ≤ 70) (hI : LI s D T B μ cap t ν f g H) (hS : va_S (AL B) s.heap H locs) (hl : lv_has ls 9 (LV b B (nI (5 * j)))) (hce : cells + 1450 ≤ room_1.cells) (hsl : slots + 13186 ≤ room_1.slots) (kk : LK p l e s m b below meth c D T B j cells slots Q) : W p l e room_1 s m #[.ref b] below meth c H locs cells slots Q (F0 m 1297 ls []) := by
  obtain ⟨hx, hb, hr, hml, hown, hts, hX, hbl, hlocks, hgv⟩ := C0
  have hC : gC p c code s m #[.ref b] RL D vwCl (tysG T) := ⟨hx, hb, hown, fun w hw => hts w (wg_tbl hw), F.2.2.2.1⟩
  have hbA : ¬ AL B b := Nat.not_le.mpr (Nat.lt_of_lt_of_le hbl F.2.2.2.2)
  obtain ⟨r, hf, r', hf', hR', hSm⟩ := (q_topplingsIf (by omega) hR : Ok (fX10_topplingsIf N μ 0 (xs (nI (5 * j) + 1).toNatClampNeg) (xs (nI (5 * j) + 2).toNatClampNeg) (xs (nI (5 * j) + 3).toNatClampNeg) (xs (nI (5 * j) + 4).toNatClampNeg)) _)
  obtain ⟨h6, h0⟩ := Sm_k hSm (by decide) (by decide)
  refine lv_aload_n hx hb dL_law_1297 rfl (lv_at hl 4 rfl) ?_
  refine lv_aload_n hx hb dL_law_1298 rfl (lv_at hl 5 rfl) ?_
  refine lv_iload hx hb dL_law_1299 (lv_at hl 0 rfl) ?_
  refine lv_iconst (v := 1) hx hb dL_law_1301 (by decide) ?_
  refine lv_iadd hx hb dL_law_1302 ?_
  refine va_sld hx hb hX hbl hbA hS (sc_in 1 hj hL (by decide)) dL_law_1303 ?_
  refine lv_aload_n hx hb dL_law_1304 rfl (lv_at hl 5 rfl) ?_
  refine lv_iload hx hb dL_law_1305 (lv_at hl 0 rfl) ?_
  refine lv_iconst (v := 2) hx hb dL_law_1307 (by decide) ?_
  refine lv_iadd hx hb dL_law_1308 ?_
  refine va_sld hx hb hX hbl hbA hS (sc_in 2 hj hL (by decide)) dL_law_1309 ?_
  refine lv_aload_n hx hb dL_law_1310 rfl (lv_at hl 5 rfl) ?_
  refine lv_iload hx hb dL_law_1311 (lv_at hl 0 rfl) ?_
  refine lv_iconst (v := 3) hx hb dL_law_1313 (by decide) ?_
  refine lv_iadd hx hb dL_law_1314 ?_
  refine va_sld hx hb hX hbl hbA hS (sc_in 3 hj hL (by decide)) dL_law_1315 ?_
  refine lv_aload_n hx hb dL_law_1316 rfl (lv_at hl 5 rfl) ?_
  refine lv_iload hx hb dL_law_1317 (lv_at hl 0 rfl) ?_
  refine lv_iconst (v := 4) hx hb dL_law_1319 (by decide) ?_
  refine lv_iadd hx hb dL_law_1320 ?_
  refine va_sld hx hb hX hbl hbA hS (sc_in 4 hj hL (by decide)) dL_law_1321 ?_
  refine lv_aload_n hx hb dL_law_1322 rfl (lv_at hl 2 rfl) ?_
  refine gl_wr (As := [.ref (B + 0), .int (xs (nI (5 * j) + 1).toNatClampNeg), .int (xs (nI (5 * j) + 2).toNatClampNeg), .int (xs (nI (5 * j) + 3).toNatClampNeg), .int (xs (nI (5 * j) + 4).toNatClampNeg), .ref (B + 574)]) (rest := []) F hC hml hS hI (metL_topplingsIf F Xc_g Xc_ob hf (Sm2 hSm)) mw_L_247 ⟨rfl, rfl, (Nat.le_of_ble_eq_true rfl), (Nat.le_of_ble_eq_true rfl)⟩ rfl hl.1 rfl (Nat.le_of_ble_eq_true rfl) dL_law_1323 ⟨by omega, by omega⟩ (fun H locs hI hS => ?_)
  refine lv_istore (lv' := [(6, .int (kL [0, 1] r.2)), (5, .int (nI (5 * j))), (4, .ref (B + 575)), (3, .ref (B + 574)), (2, .ref (B + 562 + 0)), (1, .ref (B + 0)), (0, .ref b)]) hx hb dL_law_1326 hl (by decide) rfl (fun ls hl => ?_)
  refine lv_aload_n hx hb dL_law_1328 rfl (lv_at hl 4 rfl) ?_
  refine lv_aload_n hx hb dL_law_1329 rfl (lv_at hl 6 rfl) ?_
  refine lv_iload hx hb dL_law_1330 (lv_at hl 1 rfl) ?_
  refine lv_iconst (v := 1) hx hb dL_law_1332 (by decide) ?_
  refine lv_iadd hx hb dL_law_1333 ?_
  refine va_sld hx hb hX hbl hbA hS (sc_in 1 hj hL (by decide)) dL_law_1334 ?_
  refine lv_aload_n hx hb dL_law_1335 rfl (lv_at hl 6 rfl) ?_
  refine lv_iload hx hb dL_law_1336 (lv_at hl 1 rfl) ?_
  refine lv_iconst (v := 2) hx hb dL_law_1338 (by decide) ?_
  refine lv_iadd hx hb dL_law_1339 ?_
  refine va_sld hx hb hX hbl hbA hS (sc_in 2 hj hL (by decide)) dL_law_1340 ?_
  refine lv_aload_n hx hb dL_law_1341 rfl (lv_at hl 6 rfl) ?_
  refine lv_iload hx hb dL_law_1342 (lv_at hl 1 rfl) ?_
  refine lv_iconst (v := 3) hx hb dL_law_1344 (by decide) ?_
  refine lv_iadd hx hb dL_law_1345 ?_
  refine va_sld hx hb hX hbl hbA hS (sc_in 3 hj hL (by decide)) dL_law_1346 ?_
  refine lv_aload_n hx hb dL_law_1347 rfl (lv_at hl 6 rfl) ?_
  refine lv_iload hx hb dL_law_1348 (lv_at hl 1 rfl) ?_
  refine lv_iconst (v := 4) hx hb dL_law_1350 (by decide) ?_
  refine lv_iadd hx hb dL_law_1351 ?_
  refine va_sld hx hb hX hbl hbA hS (sc_in 4 hj hL (by decide)) dL_law_1352 ?_
  refine gl_mo (As := [.int (xs (nI (5 * j) + 1).toNatClampNeg), .int (xs (nI (5 * j) + 2).toNatClampNeg), .int (xs (nI (5 * j) + 3).toNatClampNeg), .int (xs (nI (5 * j) + 4).toNatClampNeg)]) (rest := []) F hC hml hS hI (fun X hX9 => metX11_topplingsIf (FX_at F (by have := F.2.2.2.2; omega)) hX9 is_Mo hf') ml_L_249 rfl ⟨rfl, rfl, (Nat.le_of_ble_eq_true rfl), (Nat.le_of_ble_eq_true rfl)⟩ rfl hl.1 rfl (Nat.le_of_ble_eq_true rfl) dL_law_1353 ⟨by omega, by omega⟩ (fun H locs hI hS => ?_)
  refine lv_istore (lv' := [(7, .int r'.2), (6, .int (kL [0, 1] r.2)), (5, .int (nI (5 * j))), (4, .ref (B + 575)), (3, .ref (B + 574)), (2, .ref (B + 562 + 0)), (1, .ref (B + 0)), (0, .ref b)]) hx hb dL_law_1356 hl (by decide) rfl (fun ls hl => ?_)
  refine lv_aload_n hx hb dL_law_1358 rfl (lv_at hl 5 rfl) ?_
  refine gl_mo (As := []) (rest := []) F hC hml hS hI (fun X hX9 => metX11_thrown (N := N) (r := r'.1 0 6) (FX_at F (by have := F.2.2.2.2; omega)) hX9 is_Mo rfl) ml_L_198 rfl ⟨rfl, rfl, (Nat.le_of_ble_eq_true rfl), (Nat.le_of_ble_eq_true rfl)⟩ rfl hl.1 rfl (Nat.le_of_ble_eq_true rfl) dL_law_1359 ⟨by omega, by omega⟩ (fun H locs hI hS => ?_)
  refine lv_iload hx hb dL_law_1362 (lv_at hl 1 rfl) ?_
  refine lv_icmp_eq (tgt := 1369) hx hb dL_law_1364 (by decide) (fun _ => ?_) (fun z => absurd h6 z)
  refine lv_iload hx hb dL_law_1369 (lv_at hl 1 rfl) ?_
  refine lv_if_ne (tgt := 1386) hx hb dL_law_1371 (by decide) (fun _ => ?_) (fun z => ?_)
  · refine lv_goto (tgt := 3665) hx hb dL_law_1386 (by decide) ?_
    exact lk_end kk (by omega) (by omega) hR' hcap hI hS (lv_sub hl [2, 3, 4, 5, 6, 7] rfl)
  · refine lv_aload_n hx hb dL_law_1374 rfl (lv_at hl 4 rfl) ?_
    refine lv_iconst (v := 0) hx hb dL_law_1375 (by decide) ?_
    refine gl_lald hC hI.2.2.1 dL_law_1376 ?_
    rw [upI_0 (h0 z)]
    refine lv_iload hx hb dL_law_1377 (lv_at hl 0 rfl) ?_
    refine lv_i2l hx hb dL_law_1379 rfl ?_
    refine W.lcmp hx hb dL_law_1380 ?_
    rw [lg_cmp_self]
    refine lv_if_eq (tgt := 1386) hx hb dL_law_1381 (by decide) (fun _ => ?_) (fun z => absurd rfl z)
    refine lv_goto (tgt := 3665) hx hb dL_law_1386 (by decide) ?_
    exact lk_end kk (by omega) (by omega) hR' hcap hI hS (lv_sub hl [2, 3, 4, 5, 6, 7] rfl)
set_option maxHeartbeats 4000000 in
set_option maxRecDepth 100000 in
theorem op_16 {p : Program} {l : Launch} {e : Env} {s : State} {m : MethodId} {below : List Frame} {meth : Method} {c : Code} {b L : Nat} {xs : Nat → Int32} {D : va_G} {T : Nat → ClassId} {B N j cells slots : Nat} {Q : State → Prop} {μ ν : Mem} {cap : Nat} {t : List Nat} {f : Nat → Int64} {g : Nat → UInt64} {H : Heap} {locs : List Loc} {ls : Array Slot} (F : FX l s b D T B) (hN : 1200000000000 ≤ N) (hNP : ∀ x ds, dcN x = some ds → NumP N x ds) (C0 : lw_At p s m meth c b L xs) (hL : L ≤ 2560) (hj : 5 * j + 5 ≤ L) (hR : RR μ ν 0 t) (hcap : cap ≤ 70) (hI : LI s D T B μ cap t ν f g H) (hS : va_S (AL B) s.heap H locs) (hl : lv_has ls 9 (LV b B (nI (5 * j)))) (hce : cells + 1450 ≤ room_1.cells) (hsl : slots + 13186 ≤ room_1.slots) (kk : LK p l e s m b below meth c D T B j cells slots Q) : W p l e room_1 s m #[.ref b] below meth c H locs cells slots Q (F0 m 1389 ls []) := by
  obtain ⟨hx, hb, hr, hml, hown, hts, hX, hbl, hlocks, hgv⟩ := C0
  have hC : gC p c code s m #[.ref b] RL D vwCl (tysG T) := ⟨hx, hb, hown, fun w hw => hts w (wg_tbl hw), F.2.2.2.1⟩
  have hbA : ¬ AL B b := Nat.not_le.mpr (Nat.lt_of_lt_of_le hbl F.2.2.2.2)
  obtain ⟨r, hf, r', hf', hR', hSm⟩ := (q_topplingsIfByRounds (by omega) hR : Ok (fX10_topplingsIfByRounds N μ 0 (xs (nI (5 * j) + 1).toNatClampNeg) (xs (nI (5 * j) + 2).toNatClampNeg) (xs (nI (5 * j) + 3).toNatClampNeg) (xs (nI (5 * j) + 4).toNatClampNeg)) _)
  obtain ⟨h6, h0⟩ := Sm_k hSm (by decide) (by decide)
  refine lv_aload_n hx hb dL_law_1389 rfl (lv_at hl 4 rfl) ?_
  refine lv_aload_n hx hb dL_law_1390 rfl (lv_at hl 5 rfl) ?_
  refine lv_iload hx hb dL_law_1391 (lv_at hl 0 rfl) ?_
  refine lv_iconst (v := 1) hx hb dL_law_1393 (by decide) ?_
  refine lv_iadd hx hb dL_law_1394 ?_
  refine va_sld hx hb hX hbl hbA hS (sc_in 1 hj hL (by decide)) dL_law_1395 ?_
  refine lv_aload_n hx hb dL_law_1396 rfl (lv_at hl 5 rfl) ?_
  refine lv_iload hx hb dL_law_1397 (lv_at hl 0 rfl) ?_
  refine lv_iconst (v := 2) hx hb dL_law_1399 (by decide) ?_
  refine lv_iadd hx hb dL_law_1400 ?_
  refine va_sld hx hb hX hbl hbA hS (sc_in 2 hj hL (by decide)) dL_law_1401 ?_
  refine lv_aload_n hx hb dL_law_1402 rfl (lv_at hl 5 rfl) ?_
  refine lv_iload hx hb dL_law_1403 (lv_at hl 0 rfl) ?_
  refine lv_iconst (v := 3) hx hb dL_law_1405 (by decide) ?_
  refine lv_iadd hx hb dL_law_1406 ?_
  refine va_sld hx hb hX hbl hbA hS (sc_in 3 hj hL (by decide)) dL_law_1407 ?_
  refine lv_aload_n hx hb dL_law_1408 rfl (lv_at hl 5 rfl) ?_
  refine lv_iload hx hb dL_law_1409 (lv_at hl 0 rfl) ?_
  refine lv_iconst (v := 4) hx hb dL_law_1411 (by decide) ?_
  refine lv_iadd hx hb dL_law_1412 ?_
  refine va_sld hx hb hX hbl hbA hS (sc_in 4 hj hL (by decide)) dL_law_1413 ?_
  refine lv_aload_n hx hb dL_law_1414 rfl (lv_at hl 2 rfl) ?_
  refine gl_wr (As := [.ref (B + 0), .int (xs (nI (5 * j) + 1).toNatClampNeg), .int (xs (nI (5 * j) + 2).toNatClampNeg), .int (xs (nI (5 * j) + 3).toNatClampNeg), .int (xs (nI (5 * j) + 4).toNatClampNeg), .ref (B + 574)]) (rest := []) F hC hml hS hI (metL_topplingsIfByRounds F Xc_g Xc_ob hf (Sm2 hSm)) mw_L_250 ⟨rfl, rfl, (Nat.le_of_ble_eq_true rfl), (Nat.le_of_ble_eq_true rfl)⟩ rfl hl.1 rfl (Nat.le_of_ble_eq_true rfl) dL_law_1415 ⟨by omega, by omega⟩ (fun H locs hI hS => ?_)
  refine lv_istore (lv' := [(6, .int (kL [0, 1] r.2)), (5, .int (nI (5 * j))), (4, .ref (B + 575)), (3, .ref (B + 574)), (2, .ref (B + 562 + 0)), (1, .ref (B + 0)), (0, .ref b)]) hx hb dL_law_1418 hl (by decide) rfl (fun ls hl => ?_)
  refine lv_aload_n hx hb dL_law_1420 rfl (lv_at hl 4 rfl) ?_
  refine lv_aload_n hx hb dL_law_1421 rfl (lv_at hl 6 rfl) ?_
  refine lv_iload hx hb dL_law_1422 (lv_at hl 1 rfl) ?_
  refine lv_iconst (v := 1) hx hb dL_law_1424 (by decide) ?_
  refine lv_iadd hx hb dL_law_1425 ?_
  refine va_sld hx hb hX hbl hbA hS (sc_in 1 hj hL (by decide)) dL_law_1426 ?_
  refine lv_aload_n hx hb dL_law_1427 rfl (lv_at hl 6 rfl) ?_
  refine lv_iload hx hb dL_law_1428 (lv_at hl 1 rfl) ?_
  refine lv_iconst (v := 2) hx hb dL_law_1430 (by decide) ?_
  refine lv_iadd hx hb dL_law_1431 ?_
  refine va_sld hx hb hX hbl hbA hS (sc_in 2 hj hL (by decide)) dL_law_1432 ?_
  refine lv_aload_n hx hb dL_law_1433 rfl (lv_at hl 6 rfl) ?_
  refine lv_iload hx hb dL_law_1434 (lv_at hl 1 rfl) ?_
  refine lv_iconst (v := 3) hx hb dL_law_1436 (by decide) ?_
  refine lv_iadd hx hb dL_law_1437 ?_
  refine va_sld hx hb hX hbl hbA hS (sc_in 3 hj hL (by decide)) dL_law_1438 ?_
  refine lv_aload_n hx hb dL_law_1439 rfl (lv_at hl 6 rfl) ?_
  refine lv_iload hx hb dL_law_1440 (lv_at hl 1 rfl) ?_
  refine lv_iconst (v := 4) hx hb dL_law_1442 (by decide) ?_
  refine lv_iadd hx hb dL_law_1443 ?_
  refine va_sld hx hb hX hbl hbA hS (sc_in 4 hj hL (by decide)) dL_law_1444 ?_
  refine gl_mo (As := [.int (xs (nI (5 * j) + 1).toNatClampNeg), .int (xs (nI (5 * j) + 2).toNatClampNeg), .int (xs (nI (5 * j) + 3).toNatClampNeg), .int (xs (nI (5 * j) + 4).toNatClampNeg)]) (rest := []) F hC hml hS hI (fun X hX9 => metX11_topplingsIfByRounds (FX_at F (by have := F.2.2.2.2; omega)) hX9 is_Mo hf') ml_L_252 rfl ⟨rfl, rfl, (Nat.le_of_ble_eq_true rfl), (Nat.le_of_ble_eq_true rfl)⟩ rfl hl.1 rfl (Nat.le_of_ble_eq_true rfl) dL_law_1445 ⟨by omega, by omega⟩ (fun H locs hI hS => ?_)
  refine lv_istore (lv' := [(7, .int r'.2), (6, .int (kL [0, 1] r.2)), (5, .int (nI (5 * j))), (4, .ref (B + 575)), (3, .ref (B + 574)), (2, .ref (B + 562 + 0)), (1, .ref (B + 0)), (0, .ref b)]) hx hb dL_law_1448 hl (by decide) rfl (fun ls hl => ?_)
  refine lv_aload_n hx hb dL_law_1450 rfl (lv_at hl 5 rfl) ?_
  refine gl_mo (As := []) (rest := []) F hC hml hS hI (fun X hX9 => metX11_thrown (N := N) (r := r'.1 0 6) (FX_at F (by have := F.2.2.2.2; omega)) hX9 is_Mo rfl) ml_L_198 rfl ⟨rfl, rfl, (Nat.le_of_ble_eq_true rfl), (Nat.le_of_ble_eq_true rfl)⟩ rfl hl.1 rfl (Nat.le_of_ble_eq_true rfl) dL_law_1451 ⟨by omega, by omega⟩ (fun H locs hI hS => ?_)
  refine lv_iload hx hb dL_law_1454 (lv_at hl 1 rfl) ?_
  refine lv_icmp_eq (tgt := 1461) hx hb dL_law_1456 (by decide) (fun _ => ?_) (fun z => absurd h6 z)
  refine lv_iload hx hb dL_law_1461 (lv_at hl 1 rfl) ?_
  refine lv_if_ne (tgt := 1478) hx hb dL_law_1463 (by decide) (fun _ => ?_) (fun z => ?_)
  · refine lv_goto (tgt := 3665) hx hb dL_law_1478 (by decide) ?_
    exact lk_end kk (by omega) (by omega) hR' hcap hI hS (lv_sub hl [2, 3, 4, 5, 6, 7] rfl)
  · refine lv_aload_n hx hb dL_law_1466 rfl (lv_at hl 4 rfl) ?_
    refine lv_iconst (v := 0) hx hb dL_law_1467 (by decide) ?_
    refine gl_lald hC hI.2.2.1 dL_law_1468 ?_
    rw [upI_0 (h0 z)]
    refine lv_iload hx hb dL_law_1469 (lv_at hl 0 rfl) ?_
    refine lv_i2l hx hb dL_law_1471 rfl ?_
    refine W.lcmp hx hb dL_law_1472 ?_
    rw [lg_cmp_self]
    refine lv_if_eq (tgt := 1478) hx hb dL_law_1473 (by decide) (fun _ => ?_) (fun z => absurd rfl z)
    refine lv_goto (tgt := 3665) hx hb dL_law_1478 (by decide) ?_
    exact lk_end kk (by omega) (by omega) hR' hcap hI hS (lv_sub hl [2, 3, 4, 5, 6, 7] rfl)
set_option maxHeartbeats 4000000 in
set_option maxRecDepth 100000 in
theorem op_17 {p : Program} {l : Launch} {e : Env} {s : State} {m : MethodId} {below : List Frame} {meth : Method} {c : Code} {b L : Nat} {xs : Nat → Int32} {D : va_G} {T : Nat → ClassId} {B N j cells slots : Nat} {Q : State → Prop} {μ ν : Mem} {cap : Nat} {t : List Nat} {f : Nat → Int64} {g : Nat → UInt64} {H : Heap} {locs : List Loc} {ls : Array Slot} (F : FX l s b D T B) (hN : 1200000000000 ≤ N) (hNP : ∀ x ds, dcN x = some ds → NumP N x ds) (C0 : lw_At p s m meth c b L xs) (hL : L ≤ 2560) (hj : 5 * j + 5 ≤ L) (hR : RR μ ν 0 t) (hcap : cap ≤ 70) (hI : LI s D T B μ cap t ν f g H) (hS : va_S (AL B) s.heap H locs) (hl : lv_has ls 9 (LV b B (nI (5 * j)))) (hce : cells + 1450 ≤ room_1.cells) (hsl : slots + 13186 ≤ room_1.slots) (kk : LK p l e s m b below meth c D T B j cells slots Q) : W p l e room_1 s m #[.ref b] below meth c H locs cells slots Q (F0 m 1481 ls []) := by
  obtain ⟨hx, hb, hr, hml, hown, hts, hX, hbl, hlocks, hgv⟩ := C0
  have hC : gC p c code s m #[.ref b] RL D vwCl (tysG T) := ⟨hx, hb, hown, fun w hw => hts w (wg_tbl hw), F.2.2.2.1⟩
  have hbA : ¬ AL B b := Nat.not_le.mpr (Nat.lt_of_lt_of_le hbl F.2.2.2.2)
  obtain ⟨r, hf, r', hf', hR', he⟩ := (q_exhibitCount hR : Ok (fX10_exhibitCount N μ 0) _)
  refine lv_aload_n hx hb dL_law_1481 rfl (lv_at hl 4 rfl) ?_
  refine gl_cl (As := []) (rest := []) F hC hml hS hI (fun X hX9 => metX10_exhibitCount F hX9 is_Ga hf) ml_L_253 rfl ⟨rfl, rfl, (Nat.le_of_ble_eq_true rfl), (Nat.le_of_ble_eq_true rfl)⟩ rfl hl.1 rfl (Nat.le_of_ble_eq_true rfl) dL_law_1482 ⟨by omega, by omega⟩ (fun H locs hI hS => ?_)
  refine lv_aload_n hx hb dL_law_1485 rfl (lv_at hl 3 rfl) ?_
  refine gl_mo (As := []) (rest := [.int r]) F hC hml hS hI (fun X hX9 => metX11_exhibitCount (FX_at F (by have := F.2.2.2.2; omega)) hX9 is_Mo hf') ml_L_256 rfl ⟨rfl, rfl, (Nat.le_of_ble_eq_true rfl), (Nat.le_of_ble_eq_true rfl)⟩ rfl hl.1 rfl (Nat.le_of_ble_eq_true rfl) dL_law_1486 ⟨by omega, by omega⟩ (fun H locs hI hS => ?_)
  refine lv_icmp_eq (tgt := 3665) hx hb dL_law_1489 (by decide) (fun _ => ?_) (fun z => absurd he.symm z)
  exact lk_end kk (by omega) (by omega) hR' hcap hI hS hl
set_option maxHeartbeats 4000000 in
set_option maxRecDepth 100000 in
theorem op_18 {p : Program} {l : Launch} {e : Env} {s : State} {m : MethodId} {below : List Frame} {meth : Method} {c : Code} {b L : Nat} {xs : Nat → Int32} {D : va_G} {T : Nat → ClassId} {B N j cells slots : Nat} {Q : State → Prop} {μ ν : Mem} {cap : Nat} {t : List Nat} {f : Nat → Int64} {g : Nat → UInt64} {H : Heap} {locs : List Loc} {ls : Array Slot} (F : FX l s b D T B) (hN : 1200000000000 ≤ N) (hNP : ∀ x ds, dcN x = some ds → NumP N x ds) (C0 : lw_At p s m meth c b L xs) (hL : L ≤ 2560) (hj : 5 * j + 5 ≤ L) (hR : RR μ ν 0 t) (hcap : cap ≤ 70) (hI : LI s D T B μ cap t ν f g H) (hS : va_S (AL B) s.heap H locs) (hl : lv_has ls 9 (LV b B (nI (5 * j)))) (hce : cells + 1450 ≤ room_1.cells) (hsl : slots + 13186 ≤ room_1.slots) (kk : LK p l e s m b below meth c D T B j cells slots Q) : W p l e room_1 s m #[.ref b] below meth c H locs cells slots Q (F0 m 1494 ls []) := by
  obtain ⟨hx, hb, hr, hml, hown, hts, hX, hbl, hlocks, hgv⟩ := C0
  have hC : gC p c code s m #[.ref b] RL D vwCl (tysG T) := ⟨hx, hb, hown, fun w hw => hts w (wg_tbl hw), F.2.2.2.1⟩
  have hbA : ¬ AL B b := Nat.not_le.mpr (Nat.lt_of_lt_of_le hbl F.2.2.2.2)
  obtain ⟨r, hf, r', hf', hR', hSm⟩ := (q_roomOf hR : Ok (fX10_roomOf N μ 0 (xs (nI (5 * j) + 1).toNatClampNeg)) _)
  obtain ⟨h6, h0⟩ := Sm_k hSm (by decide) (by decide)
  refine lv_aload_n hx hb dL_law_1494 rfl (lv_at hl 4 rfl) ?_
  refine lv_aload_n hx hb dL_law_1495 rfl (lv_at hl 5 rfl) ?_
  refine lv_iload hx hb dL_law_1496 (lv_at hl 0 rfl) ?_
  refine lv_iconst (v := 1) hx hb dL_law_1498 (by decide) ?_
  refine lv_iadd hx hb dL_law_1499 ?_
  refine va_sld hx hb hX hbl hbA hS (sc_in 1 hj hL (by decide)) dL_law_1500 ?_
  refine lv_aload_n hx hb dL_law_1501 rfl (lv_at hl 2 rfl) ?_
  refine gl_wr (As := [.ref (B + 0), .int (xs (nI (5 * j) + 1).toNatClampNeg), .ref (B + 574)]) (rest := []) F hC hml hS hI (metL_roomOf F Xc_g Xc_ob hf (Sm1 hSm)) mw_L_257 ⟨rfl, rfl, (Nat.le_of_ble_eq_true rfl), (Nat.le_of_ble_eq_true rfl)⟩ rfl hl.1 rfl (Nat.le_of_ble_eq_true rfl) dL_law_1502 ⟨by omega, by omega⟩ (fun H locs hI hS => ?_)
  refine lv_istore (lv' := [(6, .int (kL [0] r.2)), (5, .int (nI (5 * j))), (4, .ref (B + 575)), (3, .ref (B + 574)), (2, .ref (B + 562 + 0)), (1, .ref (B + 0)), (0, .ref b)]) hx hb dL_law_1505 hl (by decide) rfl (fun ls hl => ?_)
  refine lv_aload_n hx hb dL_law_1507 rfl (lv_at hl 4 rfl) ?_
  refine lv_aload_n hx hb dL_law_1508 rfl (lv_at hl 6 rfl) ?_
  refine lv_iload hx hb dL_law_1509 (lv_at hl 1 rfl) ?_
  refine lv_iconst (v := 1) hx hb dL_law_1511 (by decide) ?_
  refine lv_iadd hx hb dL_law_1512 ?_
  refine va_sld hx hb hX hbl hbA hS (sc_in 1 hj hL (by decide)) dL_law_1513 ?_
  refine gl_mo (As := [.int (xs (nI (5 * j) + 1).toNatClampNeg)]) (rest := []) F hC hml hS hI (fun X hX9 => metX11_roomOf (FX_at F (by have := F.2.2.2.2; omega)) hX9 is_Mo hf') ml_L_259 rfl ⟨rfl, rfl, (Nat.le_of_ble_eq_true rfl), (Nat.le_of_ble_eq_true rfl)⟩ rfl hl.1 rfl (Nat.le_of_ble_eq_true rfl) dL_law_1514 ⟨by omega, by omega⟩ (fun H locs hI hS => ?_)
  refine lv_istore (lv' := [(7, .int r'.2), (6, .int (kL [0] r.2)), (5, .int (nI (5 * j))), (4, .ref (B + 575)), (3, .ref (B + 574)), (2, .ref (B + 562 + 0)), (1, .ref (B + 0)), (0, .ref b)]) hx hb dL_law_1517 hl (by decide) rfl (fun ls hl => ?_)
  refine lv_aload_n hx hb dL_law_1519 rfl (lv_at hl 5 rfl) ?_
  refine gl_mo (As := []) (rest := []) F hC hml hS hI (fun X hX9 => metX11_thrown (N := N) (r := r'.1 0 6) (FX_at F (by have := F.2.2.2.2; omega)) hX9 is_Mo rfl) ml_L_198 rfl ⟨rfl, rfl, (Nat.le_of_ble_eq_true rfl), (Nat.le_of_ble_eq_true rfl)⟩ rfl hl.1 rfl (Nat.le_of_ble_eq_true rfl) dL_law_1520 ⟨by omega, by omega⟩ (fun H locs hI hS => ?_)
  refine lv_iload hx hb dL_law_1523 (lv_at hl 1 rfl) ?_
  refine lv_icmp_eq (tgt := 1530) hx hb dL_law_1525 (by decide) (fun _ => ?_) (fun z => absurd h6 z)
  refine lv_iload hx hb dL_law_1530 (lv_at hl 1 rfl) ?_
  refine lv_if_ne (tgt := 1547) hx hb dL_law_1532 (by decide) (fun _ => ?_) (fun z => ?_)
  · refine lv_goto (tgt := 3665) hx hb dL_law_1547 (by decide) ?_
    exact lk_end kk (by omega) (by omega) hR' hcap hI hS (lv_sub hl [2, 3, 4, 5, 6, 7] rfl)
  · refine lv_aload_n hx hb dL_law_1535 rfl (lv_at hl 4 rfl) ?_
    refine lv_iconst (v := 0) hx hb dL_law_1536 (by decide) ?_
    refine gl_lald hC hI.2.2.1 dL_law_1537 ?_
    rw [upI_0 (h0 z)]
    refine lv_iload hx hb dL_law_1538 (lv_at hl 0 rfl) ?_
    refine lv_i2l hx hb dL_law_1540 rfl ?_
    refine W.lcmp hx hb dL_law_1541 ?_
    rw [lg_cmp_self]
    refine lv_if_eq (tgt := 1547) hx hb dL_law_1542 (by decide) (fun _ => ?_) (fun z => absurd rfl z)
    refine lv_goto (tgt := 3665) hx hb dL_law_1547 (by decide) ?_
    exact lk_end kk (by omega) (by omega) hR' hcap hI hS (lv_sub hl [2, 3, 4, 5, 6, 7] rfl)
set_option maxHeartbeats 4000000 in
set_option maxRecDepth 100000 in
theorem op_19 {p : Program} {l : Launch} {e : Env} {s : State} {m : MethodId} {below : List Frame} {meth : Method} {c : Code} {b L : Nat} {xs : Nat → Int32} {D : va_G} {T : Nat → ClassId} {B N j cells slots : Nat} {Q : State → Prop} {μ ν : Mem} {cap : Nat} {t : List Nat} {f : Nat → Int64} {g : Nat → UInt64} {H : Heap} {locs : List Loc} {ls : Array Slot} (F : FX l s b D T B) (hN : 1200000000000 ≤ N) (hNP : ∀ x ds, dcN x = some ds → NumP N x ds) (C0 : lw_At p s m meth c b L xs) (hL : L ≤ 2560) (hj : 5 * j + 5 ≤ L) (hR : RR μ ν 0 t) (hcap : cap ≤ 70) (hI : LI s D T B μ cap t ν f g H) (hS : va_S (AL B) s.heap H locs) (hl : lv_has ls 9 (LV b B (nI (5 * j)))) (hce : cells + 1450 ≤ room_1.cells) (hsl : slots + 13186 ≤ room_1.slots) (kk : LK p l e s m b below meth c D T B j cells slots Q) : W p l e room_1 s m #[.ref b] below meth c H locs cells slots Q (F0 m 1550 ls []) := by
  obtain ⟨hx, hb, hr, hml, hown, hts, hX, hbl, hlocks, hgv⟩ := C0
  have hC : gC p c code s m #[.ref b] RL D vwCl (tysG T) := ⟨hx, hb, hown, fun w hw => hts w (wg_tbl hw), F.2.2.2.1⟩
  have hbA : ¬ AL B b := Nat.not_le.mpr (Nat.lt_of_lt_of_le hbl F.2.2.2.2)
  obtain ⟨r, hf, r', hf', hR', hSm⟩ := (q_limit hR : Ok (fX10_limit N μ 0 (xs (nI (5 * j) + 1).toNatClampNeg)) _)
  obtain ⟨h6, h0⟩ := Sm_k hSm (by decide) (by decide)
  refine lv_aload_n hx hb dL_law_1550 rfl (lv_at hl 4 rfl) ?_
  refine lv_aload_n hx hb dL_law_1551 rfl (lv_at hl 5 rfl) ?_
  refine lv_iload hx hb dL_law_1552 (lv_at hl 0 rfl) ?_
  refine lv_iconst (v := 1) hx hb dL_law_1554 (by decide) ?_
  refine lv_iadd hx hb dL_law_1555 ?_
  refine va_sld hx hb hX hbl hbA hS (sc_in 1 hj hL (by decide)) dL_law_1556 ?_
  refine lv_aload_n hx hb dL_law_1557 rfl (lv_at hl 2 rfl) ?_
  refine gl_wr (As := [.ref (B + 0), .int (xs (nI (5 * j) + 1).toNatClampNeg), .ref (B + 574)]) (rest := []) F hC hml hS hI (metL_limit F Xc_g Xc_ob hf (Sm1 hSm)) mw_L_260 ⟨rfl, rfl, (Nat.le_of_ble_eq_true rfl), (Nat.le_of_ble_eq_true rfl)⟩ rfl hl.1 rfl (Nat.le_of_ble_eq_true rfl) dL_law_1558 ⟨by omega, by omega⟩ (fun H locs hI hS => ?_)
  refine lv_istore (lv' := [(6, .int (kL [0] r.2)), (5, .int (nI (5 * j))), (4, .ref (B + 575)), (3, .ref (B + 574)), (2, .ref (B + 562 + 0)), (1, .ref (B + 0)), (0, .ref b)]) hx hb dL_law_1561 hl (by decide) rfl (fun ls hl => ?_)
  refine lv_aload_n hx hb dL_law_1563 rfl (lv_at hl 4 rfl) ?_
  refine lv_aload_n hx hb dL_law_1564 rfl (lv_at hl 6 rfl) ?_
  refine lv_iload hx hb dL_law_1565 (lv_at hl 1 rfl) ?_
  refine lv_iconst (v := 1) hx hb dL_law_1567 (by decide) ?_
  refine lv_iadd hx hb dL_law_1568 ?_
  refine va_sld hx hb hX hbl hbA hS (sc_in 1 hj hL (by decide)) dL_law_1569 ?_
  refine gl_mo (As := [.int (xs (nI (5 * j) + 1).toNatClampNeg)]) (rest := []) F hC hml hS hI (fun X hX9 => metX11_limit (FX_at F (by have := F.2.2.2.2; omega)) hX9 is_Mo hf') ml_L_262 rfl ⟨rfl, rfl, (Nat.le_of_ble_eq_true rfl), (Nat.le_of_ble_eq_true rfl)⟩ rfl hl.1 rfl (Nat.le_of_ble_eq_true rfl) dL_law_1570 ⟨by omega, by omega⟩ (fun H locs hI hS => ?_)
  refine lv_istore (lv' := [(7, .int r'.2), (6, .int (kL [0] r.2)), (5, .int (nI (5 * j))), (4, .ref (B + 575)), (3, .ref (B + 574)), (2, .ref (B + 562 + 0)), (1, .ref (B + 0)), (0, .ref b)]) hx hb dL_law_1573 hl (by decide) rfl (fun ls hl => ?_)
  refine lv_aload_n hx hb dL_law_1575 rfl (lv_at hl 5 rfl) ?_
  refine gl_mo (As := []) (rest := []) F hC hml hS hI (fun X hX9 => metX11_thrown (N := N) (r := r'.1 0 6) (FX_at F (by have := F.2.2.2.2; omega)) hX9 is_Mo rfl) ml_L_198 rfl ⟨rfl, rfl, (Nat.le_of_ble_eq_true rfl), (Nat.le_of_ble_eq_true rfl)⟩ rfl hl.1 rfl (Nat.le_of_ble_eq_true rfl) dL_law_1576 ⟨by omega, by omega⟩ (fun H locs hI hS => ?_)
  refine lv_iload hx hb dL_law_1579 (lv_at hl 1 rfl) ?_
  refine lv_icmp_eq (tgt := 1586) hx hb dL_law_1581 (by decide) (fun _ => ?_) (fun z => absurd h6 z)
  refine lv_iload hx hb dL_law_1586 (lv_at hl 1 rfl) ?_
  refine lv_if_ne (tgt := 1603) hx hb dL_law_1588 (by decide) (fun _ => ?_) (fun z => ?_)
  · refine lv_goto (tgt := 3665) hx hb dL_law_1603 (by decide) ?_
    exact lk_end kk (by omega) (by omega) hR' hcap hI hS (lv_sub hl [2, 3, 4, 5, 6, 7] rfl)
  · refine lv_aload_n hx hb dL_law_1591 rfl (lv_at hl 4 rfl) ?_
    refine lv_iconst (v := 0) hx hb dL_law_1592 (by decide) ?_
    refine gl_lald hC hI.2.2.1 dL_law_1593 ?_
    rw [upI_0 (h0 z)]
    refine lv_iload hx hb dL_law_1594 (lv_at hl 0 rfl) ?_
    refine lv_i2l hx hb dL_law_1596 rfl ?_
    refine W.lcmp hx hb dL_law_1597 ?_
    rw [lg_cmp_self]
    refine lv_if_eq (tgt := 1603) hx hb dL_law_1598 (by decide) (fun _ => ?_) (fun z => absurd rfl z)
    refine lv_goto (tgt := 3665) hx hb dL_law_1603 (by decide) ?_
    exact lk_end kk (by omega) (by omega) hR' hcap hI hS (lv_sub hl [2, 3, 4, 5, 6, 7] rfl)
set_option maxHeartbeats 4000000 in
set_option maxRecDepth 100000 in
theorem op_20 {p : Program} {l : Launch} {e : Env} {s : State} {m : MethodId} {below : List Frame} {meth : Method} {c : Code} {b L : Nat} {xs : Nat → Int32} {D : va_G} {T : Nat → ClassId} {B N j cells slots : Nat} {Q : State → Prop} {μ ν : Mem} {cap : Nat} {t : List Nat} {f : Nat → Int64} {g : Nat → UInt64} {H : Heap} {locs : List Loc} {ls : Array Slot} (F : FX l s b D T B) (hN : 1200000000000 ≤ N) (hNP : ∀ x ds, dcN x = some ds → NumP N x ds) (C0 : lw_At p s m meth c b L xs) (hL : L ≤ 2560) (hj : 5 * j + 5 ≤ L) (hR : RR μ ν 0 t) (hcap : cap ≤ 70) (hI : LI s D T B μ cap t ν f g H) (hS : va_S (AL B) s.heap H locs) (hl : lv_has ls 9 (LV b B (nI (5 * j)))) (hce : cells + 1450 ≤ room_1.cells) (hsl : slots + 13186 ≤ room_1.slots) (kk : LK p l e s m b below meth c D T B j cells slots Q) : W p l e room_1 s m #[.ref b] below meth c H locs cells slots Q (F0 m 1606 ls []) := by
  obtain ⟨hx, hb, hr, hml, hown, hts, hX, hbl, hlocks, hgv⟩ := C0
  have hC : gC p c code s m #[.ref b] RL D vwCl (tysG T) := ⟨hx, hb, hown, fun w hw => hts w (wg_tbl hw), F.2.2.2.1⟩
  have hbA : ¬ AL B b := Nat.not_le.mpr (Nat.lt_of_lt_of_le hbl F.2.2.2.2)
  obtain ⟨r, hf, r', hf', hR', hSm⟩ := (q_grainsAt hR : Ok (fX10_grainsAt N μ 0 (xs (nI (5 * j) + 1).toNatClampNeg) (xs (nI (5 * j) + 2).toNatClampNeg) (xs (nI (5 * j) + 3).toNatClampNeg)) _)
  obtain ⟨h6, h0⟩ := Sm_k hSm (by decide) (by decide)
  refine lv_aload_n hx hb dL_law_1606 rfl (lv_at hl 4 rfl) ?_
  refine lv_aload_n hx hb dL_law_1607 rfl (lv_at hl 5 rfl) ?_
  refine lv_iload hx hb dL_law_1608 (lv_at hl 0 rfl) ?_
  refine lv_iconst (v := 1) hx hb dL_law_1610 (by decide) ?_
  refine lv_iadd hx hb dL_law_1611 ?_
  refine va_sld hx hb hX hbl hbA hS (sc_in 1 hj hL (by decide)) dL_law_1612 ?_
  refine lv_aload_n hx hb dL_law_1613 rfl (lv_at hl 5 rfl) ?_
  refine lv_iload hx hb dL_law_1614 (lv_at hl 0 rfl) ?_
  refine lv_iconst (v := 2) hx hb dL_law_1616 (by decide) ?_
  refine lv_iadd hx hb dL_law_1617 ?_
  refine va_sld hx hb hX hbl hbA hS (sc_in 2 hj hL (by decide)) dL_law_1618 ?_
  refine lv_aload_n hx hb dL_law_1619 rfl (lv_at hl 5 rfl) ?_
  refine lv_iload hx hb dL_law_1620 (lv_at hl 0 rfl) ?_
  refine lv_iconst (v := 3) hx hb dL_law_1622 (by decide) ?_
  refine lv_iadd hx hb dL_law_1623 ?_
  refine va_sld hx hb hX hbl hbA hS (sc_in 3 hj hL (by decide)) dL_law_1624 ?_
  refine lv_aload_n hx hb dL_law_1625 rfl (lv_at hl 2 rfl) ?_
  refine gl_wr (As := [.ref (B + 0), .int (xs (nI (5 * j) + 1).toNatClampNeg), .int (xs (nI (5 * j) + 2).toNatClampNeg), .int (xs (nI (5 * j) + 3).toNatClampNeg), .ref (B + 574)]) (rest := []) F hC hml hS hI (metL_grainsAt F Xc_g Xc_ob hf (Sm2 hSm)) mw_L_263 ⟨rfl, rfl, (Nat.le_of_ble_eq_true rfl), (Nat.le_of_ble_eq_true rfl)⟩ rfl hl.1 rfl (Nat.le_of_ble_eq_true rfl) dL_law_1626 ⟨by omega, by omega⟩ (fun H locs hI hS => ?_)
  refine lv_istore (lv' := [(6, .int (kL [0, 1] r.2)), (5, .int (nI (5 * j))), (4, .ref (B + 575)), (3, .ref (B + 574)), (2, .ref (B + 562 + 0)), (1, .ref (B + 0)), (0, .ref b)]) hx hb dL_law_1629 hl (by decide) rfl (fun ls hl => ?_)
  refine lv_aload_n hx hb dL_law_1631 rfl (lv_at hl 4 rfl) ?_
  refine lv_aload_n hx hb dL_law_1632 rfl (lv_at hl 6 rfl) ?_
  refine lv_iload hx hb dL_law_1633 (lv_at hl 1 rfl) ?_
  refine lv_iconst (v := 1) hx hb dL_law_1635 (by decide) ?_
  refine lv_iadd hx hb dL_law_1636 ?_
  refine va_sld hx hb hX hbl hbA hS (sc_in 1 hj hL (by decide)) dL_law_1637 ?_
  refine lv_aload_n hx hb dL_law_1638 rfl (lv_at hl 6 rfl) ?_
  refine lv_iload hx hb dL_law_1639 (lv_at hl 1 rfl) ?_
  refine lv_iconst (v := 2) hx hb dL_law_1641 (by decide) ?_
  refine lv_iadd hx hb dL_law_1642 ?_
  refine va_sld hx hb hX hbl hbA hS (sc_in 2 hj hL (by decide)) dL_law_1643 ?_
  refine lv_aload_n hx hb dL_law_1644 rfl (lv_at hl 6 rfl) ?_
  refine lv_iload hx hb dL_law_1645 (lv_at hl 1 rfl) ?_
  refine lv_iconst (v := 3) hx hb dL_law_1647 (by decide) ?_
  refine lv_iadd hx hb dL_law_1648 ?_
  refine va_sld hx hb hX hbl hbA hS (sc_in 3 hj hL (by decide)) dL_law_1649 ?_
  refine gl_mo (As := [.int (xs (nI (5 * j) + 1).toNatClampNeg), .int (xs (nI (5 * j) + 2).toNatClampNeg), .int (xs (nI (5 * j) + 3).toNatClampNeg)]) (rest := []) F hC hml hS hI (fun X hX9 => metX11_grainsAt (FX_at F (by have := F.2.2.2.2; omega)) hX9 is_Mo hf') ml_L_265 rfl ⟨rfl, rfl, (Nat.le_of_ble_eq_true rfl), (Nat.le_of_ble_eq_true rfl)⟩ rfl hl.1 rfl (Nat.le_of_ble_eq_true rfl) dL_law_1650 ⟨by omega, by omega⟩ (fun H locs hI hS => ?_)
  refine lv_istore (lv' := [(7, .int r'.2), (6, .int (kL [0, 1] r.2)), (5, .int (nI (5 * j))), (4, .ref (B + 575)), (3, .ref (B + 574)), (2, .ref (B + 562 + 0)), (1, .ref (B + 0)), (0, .ref b)]) hx hb dL_law_1653 hl (by decide) rfl (fun ls hl => ?_)
  refine lv_aload_n hx hb dL_law_1655 rfl (lv_at hl 5 rfl) ?_
  refine gl_mo (As := []) (rest := []) F hC hml hS hI (fun X hX9 => metX11_thrown (N := N) (r := r'.1 0 6) (FX_at F (by have := F.2.2.2.2; omega)) hX9 is_Mo rfl) ml_L_198 rfl ⟨rfl, rfl, (Nat.le_of_ble_eq_true rfl), (Nat.le_of_ble_eq_true rfl)⟩ rfl hl.1 rfl (Nat.le_of_ble_eq_true rfl) dL_law_1656 ⟨by omega, by omega⟩ (fun H locs hI hS => ?_)
  refine lv_iload hx hb dL_law_1659 (lv_at hl 1 rfl) ?_
  refine lv_icmp_eq (tgt := 1666) hx hb dL_law_1661 (by decide) (fun _ => ?_) (fun z => absurd h6 z)
  refine lv_iload hx hb dL_law_1666 (lv_at hl 1 rfl) ?_
  refine lv_if_ne (tgt := 1683) hx hb dL_law_1668 (by decide) (fun _ => ?_) (fun z => ?_)
  · refine lv_goto (tgt := 3665) hx hb dL_law_1683 (by decide) ?_
    exact lk_end kk (by omega) (by omega) hR' hcap hI hS (lv_sub hl [2, 3, 4, 5, 6, 7] rfl)
  · refine lv_aload_n hx hb dL_law_1671 rfl (lv_at hl 4 rfl) ?_
    refine lv_iconst (v := 0) hx hb dL_law_1672 (by decide) ?_
    refine gl_lald hC hI.2.2.1 dL_law_1673 ?_
    rw [upI_0 (h0 z)]
    refine lv_iload hx hb dL_law_1674 (lv_at hl 0 rfl) ?_
    refine lv_i2l hx hb dL_law_1676 rfl ?_
    refine W.lcmp hx hb dL_law_1677 ?_
    rw [lg_cmp_self]
    refine lv_if_eq (tgt := 1683) hx hb dL_law_1678 (by decide) (fun _ => ?_) (fun z => absurd rfl z)
    refine lv_goto (tgt := 3665) hx hb dL_law_1683 (by decide) ?_
    exact lk_end kk (by omega) (by omega) hR' hcap hI hS (lv_sub hl [2, 3, 4, 5, 6, 7] rfl)
set_option maxHeartbeats 4000000 in
set_option maxRecDepth 100000 in
theorem op_21 {p : Program} {l : Launch} {e : Env} {s : State} {m : MethodId} {below : List Frame} {meth : Method} {c : Code} {b L : Nat} {xs : Nat → Int32} {D : va_G} {T : Nat → ClassId} {B N j cells slots : Nat} {Q : State → Prop} {μ ν : Mem} {cap : Nat} {t : List Nat} {f : Nat → Int64} {g : Nat → UInt64} {H : Heap} {locs : List Loc} {ls : Array Slot} (F : FX l s b D T B) (hN : 1200000000000 ≤ N) (hNP : ∀ x ds, dcN x = some ds → NumP N x ds) (C0 : lw_At p s m meth c b L xs) (hL : L ≤ 2560) (hj : 5 * j + 5 ≤ L) (hR : RR μ ν 0 t) (hcap : cap ≤ 70) (hI : LI s D T B μ cap t ν f g H) (hS : va_S (AL B) s.heap H locs) (hl : lv_has ls 9 (LV b B (nI (5 * j)))) (hce : cells + 1450 ≤ room_1.cells) (hsl : slots + 13186 ≤ room_1.slots) (kk : LK p l e s m b below meth c D T B j cells slots Q) : W p l e room_1 s m #[.ref b] below meth c H locs cells slots Q (F0 m 1686 ls []) := by
  obtain ⟨hx, hb, hr, hml, hown, hts, hX, hbl, hlocks, hgv⟩ := C0
  have hC : gC p c code s m #[.ref b] RL D vwCl (tysG T) := ⟨hx, hb, hown, fun w hw => hts w (wg_tbl hw), F.2.2.2.1⟩
  have hbA : ¬ AL B b := Nat.not_le.mpr (Nat.lt_of_lt_of_le hbl F.2.2.2.2)
  obtain ⟨r, hf, r', hf', hR', hSm⟩ := (q_grains (by omega) hR : Ok (fX10_grains N μ 0 (xs (nI (5 * j) + 1).toNatClampNeg)) _)
  obtain ⟨h6, h0⟩ := Sm_k hSm (by decide) (by decide)
  refine lv_aload_n hx hb dL_law_1686 rfl (lv_at hl 4 rfl) ?_
  refine lv_aload_n hx hb dL_law_1687 rfl (lv_at hl 5 rfl) ?_
  refine lv_iload hx hb dL_law_1688 (lv_at hl 0 rfl) ?_
  refine lv_iconst (v := 1) hx hb dL_law_1690 (by decide) ?_
  refine lv_iadd hx hb dL_law_1691 ?_
  refine va_sld hx hb hX hbl hbA hS (sc_in 1 hj hL (by decide)) dL_law_1692 ?_
  refine lv_aload_n hx hb dL_law_1693 rfl (lv_at hl 2 rfl) ?_
  refine gl_wr (As := [.ref (B + 0), .int (xs (nI (5 * j) + 1).toNatClampNeg), .ref (B + 574)]) (rest := []) F hC hml hS hI (metL_grains F Xc_g Xc_ob hf (Sm1 hSm)) mw_L_266 ⟨rfl, rfl, (Nat.le_of_ble_eq_true rfl), (Nat.le_of_ble_eq_true rfl)⟩ rfl hl.1 rfl (Nat.le_of_ble_eq_true rfl) dL_law_1694 ⟨by omega, by omega⟩ (fun H locs hI hS => ?_)
  refine lv_istore (lv' := [(6, .int (kL [0] r.2)), (5, .int (nI (5 * j))), (4, .ref (B + 575)), (3, .ref (B + 574)), (2, .ref (B + 562 + 0)), (1, .ref (B + 0)), (0, .ref b)]) hx hb dL_law_1697 hl (by decide) rfl (fun ls hl => ?_)
  refine lv_aload_n hx hb dL_law_1699 rfl (lv_at hl 4 rfl) ?_
  refine lv_aload_n hx hb dL_law_1700 rfl (lv_at hl 6 rfl) ?_
  refine lv_iload hx hb dL_law_1701 (lv_at hl 1 rfl) ?_
  refine lv_iconst (v := 1) hx hb dL_law_1703 (by decide) ?_
  refine lv_iadd hx hb dL_law_1704 ?_
  refine va_sld hx hb hX hbl hbA hS (sc_in 1 hj hL (by decide)) dL_law_1705 ?_
  refine gl_mo (As := [.int (xs (nI (5 * j) + 1).toNatClampNeg)]) (rest := []) F hC hml hS hI (fun X hX9 => metX11_grains (FX_at F (by have := F.2.2.2.2; omega)) hX9 is_Mo hf') ml_L_268 rfl ⟨rfl, rfl, (Nat.le_of_ble_eq_true rfl), (Nat.le_of_ble_eq_true rfl)⟩ rfl hl.1 rfl (Nat.le_of_ble_eq_true rfl) dL_law_1706 ⟨by omega, by omega⟩ (fun H locs hI hS => ?_)
  refine lv_istore (lv' := [(7, .int r'.2), (6, .int (kL [0] r.2)), (5, .int (nI (5 * j))), (4, .ref (B + 575)), (3, .ref (B + 574)), (2, .ref (B + 562 + 0)), (1, .ref (B + 0)), (0, .ref b)]) hx hb dL_law_1709 hl (by decide) rfl (fun ls hl => ?_)
  refine lv_aload_n hx hb dL_law_1711 rfl (lv_at hl 5 rfl) ?_
  refine gl_mo (As := []) (rest := []) F hC hml hS hI (fun X hX9 => metX11_thrown (N := N) (r := r'.1 0 6) (FX_at F (by have := F.2.2.2.2; omega)) hX9 is_Mo rfl) ml_L_198 rfl ⟨rfl, rfl, (Nat.le_of_ble_eq_true rfl), (Nat.le_of_ble_eq_true rfl)⟩ rfl hl.1 rfl (Nat.le_of_ble_eq_true rfl) dL_law_1712 ⟨by omega, by omega⟩ (fun H locs hI hS => ?_)
  refine lv_iload hx hb dL_law_1715 (lv_at hl 1 rfl) ?_
  refine lv_icmp_eq (tgt := 1722) hx hb dL_law_1717 (by decide) (fun _ => ?_) (fun z => absurd h6 z)
  refine lv_iload hx hb dL_law_1722 (lv_at hl 1 rfl) ?_
  refine lv_if_ne (tgt := 1739) hx hb dL_law_1724 (by decide) (fun _ => ?_) (fun z => ?_)
  · refine lv_goto (tgt := 3665) hx hb dL_law_1739 (by decide) ?_
    exact lk_end kk (by omega) (by omega) hR' hcap hI hS (lv_sub hl [2, 3, 4, 5, 6, 7] rfl)
  · refine lv_aload_n hx hb dL_law_1727 rfl (lv_at hl 4 rfl) ?_
    refine lv_iconst (v := 0) hx hb dL_law_1728 (by decide) ?_
    refine gl_lald hC hI.2.2.1 dL_law_1729 ?_
    rw [upI_0 (h0 z)]
    refine lv_iload hx hb dL_law_1730 (lv_at hl 0 rfl) ?_
    refine lv_i2l hx hb dL_law_1732 rfl ?_
    refine W.lcmp hx hb dL_law_1733 ?_
    rw [lg_cmp_self]
    refine lv_if_eq (tgt := 1739) hx hb dL_law_1734 (by decide) (fun _ => ?_) (fun z => absurd rfl z)
    refine lv_goto (tgt := 3665) hx hb dL_law_1739 (by decide) ?_
    exact lk_end kk (by omega) (by omega) hR' hcap hI hS (lv_sub hl [2, 3, 4, 5, 6, 7] rfl)
set_option maxHeartbeats 4000000 in
set_option maxRecDepth 100000 in
theorem op_22 {p : Program} {l : Launch} {e : Env} {s : State} {m : MethodId} {below : List Frame} {meth : Method} {c : Code} {b L : Nat} {xs : Nat → Int32} {D : va_G} {T : Nat → ClassId} {B N j cells slots : Nat} {Q : State → Prop} {μ ν : Mem} {cap : Nat} {t : List Nat} {f : Nat → Int64} {g : Nat → UInt64} {H : Heap} {locs : List Loc} {ls : Array Slot} (F : FX l s b D T B) (hN : 1200000000000 ≤ N) (hNP : ∀ x ds, dcN x = some ds → NumP N x ds) (C0 : lw_At p s m meth c b L xs) (hL : L ≤ 2560) (hj : 5 * j + 5 ≤ L) (hR : RR μ ν 0 t) (hcap : cap ≤ 70) (hI : LI s D T B μ cap t ν f g H) (hS : va_S (AL B) s.heap H locs) (hl : lv_has ls 9 (LV b B (nI (5 * j)))) (hce : cells + 1450 ≤ room_1.cells) (hsl : slots + 13186 ≤ room_1.slots) (kk : LK p l e s m b below meth c D T B j cells slots Q) : W p l e room_1 s m #[.ref b] below meth c H locs cells slots Q (F0 m 1742 ls []) := by
  obtain ⟨hx, hb, hr, hml, hown, hts, hX, hbl, hlocks, hgv⟩ := C0
  have hC : gC p c code s m #[.ref b] RL D vwCl (tysG T) := ⟨hx, hb, hown, fun w hw => hts w (wg_tbl hw), F.2.2.2.1⟩
  have hbA : ¬ AL B b := Nat.not_le.mpr (Nat.lt_of_lt_of_le hbl F.2.2.2.2)
  obtain ⟨r, hf, r', hf', hR', hSm⟩ := (q_lasts (by omega) hR : Ok (fX10_lasts N μ 0 (xs (nI (5 * j) + 1).toNatClampNeg)) _)
  obtain ⟨h6, h0⟩ := Sm_k hSm (by decide) (by decide)
  refine lv_aload_n hx hb dL_law_1742 rfl (lv_at hl 4 rfl) ?_
  refine lv_aload_n hx hb dL_law_1743 rfl (lv_at hl 5 rfl) ?_
  refine lv_iload hx hb dL_law_1744 (lv_at hl 0 rfl) ?_
  refine lv_iconst (v := 1) hx hb dL_law_1746 (by decide) ?_
  refine lv_iadd hx hb dL_law_1747 ?_
  refine va_sld hx hb hX hbl hbA hS (sc_in 1 hj hL (by decide)) dL_law_1748 ?_
  refine lv_aload_n hx hb dL_law_1749 rfl (lv_at hl 2 rfl) ?_
  refine gl_wr (As := [.ref (B + 0), .int (xs (nI (5 * j) + 1).toNatClampNeg), .ref (B + 574)]) (rest := []) F hC hml hS hI (metL_lasts F Xc_g Xc_ob hf (Sm1 hSm)) mw_L_269 ⟨rfl, rfl, (Nat.le_of_ble_eq_true rfl), (Nat.le_of_ble_eq_true rfl)⟩ rfl hl.1 rfl (Nat.le_of_ble_eq_true rfl) dL_law_1750 ⟨by omega, by omega⟩ (fun H locs hI hS => ?_)
  refine lv_istore (lv' := [(6, .int (kL [0] r.2)), (5, .int (nI (5 * j))), (4, .ref (B + 575)), (3, .ref (B + 574)), (2, .ref (B + 562 + 0)), (1, .ref (B + 0)), (0, .ref b)]) hx hb dL_law_1753 hl (by decide) rfl (fun ls hl => ?_)
  refine lv_aload_n hx hb dL_law_1755 rfl (lv_at hl 4 rfl) ?_
  refine lv_aload_n hx hb dL_law_1756 rfl (lv_at hl 6 rfl) ?_
  refine lv_iload hx hb dL_law_1757 (lv_at hl 1 rfl) ?_
  refine lv_iconst (v := 1) hx hb dL_law_1759 (by decide) ?_
  refine lv_iadd hx hb dL_law_1760 ?_
  refine va_sld hx hb hX hbl hbA hS (sc_in 1 hj hL (by decide)) dL_law_1761 ?_
  refine gl_mo (As := [.int (xs (nI (5 * j) + 1).toNatClampNeg)]) (rest := []) F hC hml hS hI (fun X hX9 => metX11_lasts (FX_at F (by have := F.2.2.2.2; omega)) hX9 is_Mo hf') ml_L_271 rfl ⟨rfl, rfl, (Nat.le_of_ble_eq_true rfl), (Nat.le_of_ble_eq_true rfl)⟩ rfl hl.1 rfl (Nat.le_of_ble_eq_true rfl) dL_law_1762 ⟨by omega, by omega⟩ (fun H locs hI hS => ?_)
  refine lv_istore (lv' := [(7, .int (b2i r'.2)), (6, .int (kL [0] r.2)), (5, .int (nI (5 * j))), (4, .ref (B + 575)), (3, .ref (B + 574)), (2, .ref (B + 562 + 0)), (1, .ref (B + 0)), (0, .ref b)]) hx hb dL_law_1765 hl (by decide) rfl (fun ls hl => ?_)
  refine lv_aload_n hx hb dL_law_1767 rfl (lv_at hl 5 rfl) ?_
  refine gl_mo (As := []) (rest := []) F hC hml hS hI (fun X hX9 => metX11_thrown (N := N) (r := r'.1 0 6) (FX_at F (by have := F.2.2.2.2; omega)) hX9 is_Mo rfl) ml_L_198 rfl ⟨rfl, rfl, (Nat.le_of_ble_eq_true rfl), (Nat.le_of_ble_eq_true rfl)⟩ rfl hl.1 rfl (Nat.le_of_ble_eq_true rfl) dL_law_1768 ⟨by omega, by omega⟩ (fun H locs hI hS => ?_)
  refine lv_iload hx hb dL_law_1771 (lv_at hl 1 rfl) ?_
  refine lv_icmp_eq (tgt := 1778) hx hb dL_law_1773 (by decide) (fun _ => ?_) (fun z => absurd h6 z)
  refine lv_iload hx hb dL_law_1778 (lv_at hl 1 rfl) ?_
  refine lv_if_ne (tgt := 1802) hx hb dL_law_1780 (by decide) (fun _ => ?_) (fun z => ?_)
  · refine lv_goto (tgt := 3665) hx hb dL_law_1802 (by decide) ?_
    exact lk_end kk (by omega) (by omega) hR' hcap hI hS (lv_sub hl [2, 3, 4, 5, 6, 7] rfl)
  · refine lv_aload_n hx hb dL_law_1783 rfl (lv_at hl 4 rfl) ?_
    refine lv_iconst (v := 0) hx hb dL_law_1784 (by decide) ?_
    refine gl_lald hC hI.2.2.1 dL_law_1785 ?_
    refine lv_iload hx hb dL_law_1786 (lv_at hl 0 rfl) ?_
    refine gw_if_eqZ (tgt := 1795) hx hb dL_law_1788 (by decide) (fun c9 => ?_) (fun c9 => ?_)
    · refine lv_lconst (v := 0) hx hb dL_law_1795 (by decide) ?_
      rw [upZ_0 (z := 0) (h0 z) (by rw [c9]; rfl)]
      refine W.lcmp hx hb dL_law_1796 ?_
      rw [lg_cmp_self]
      refine lv_if_eq (tgt := 1802) hx hb dL_law_1797 (by decide) (fun _ => ?_) (fun z => absurd rfl z)
      refine lv_goto (tgt := 3665) hx hb dL_law_1802 (by decide) ?_
      exact lk_end kk (by omega) (by omega) hR' hcap hI hS (lv_sub hl [2, 3, 4, 5, 6, 7] rfl)
    · refine lv_lconst (v := 1) hx hb dL_law_1791 (by decide) ?_
      refine lv_goto (tgt := 1796) hx hb dL_law_1792 (by decide) ?_
      rw [upZ_0 (z := 1) (h0 z) (by rw [c9]; rfl)]
      refine W.lcmp hx hb dL_law_1796 ?_
      rw [lg_cmp_self]
      refine lv_if_eq (tgt := 1802) hx hb dL_law_1797 (by decide) (fun _ => ?_) (fun z => absurd rfl z)
      refine lv_goto (tgt := 3665) hx hb dL_law_1802 (by decide) ?_
      exact lk_end kk (by omega) (by omega) hR' hcap hI hS (lv_sub hl [2, 3, 4, 5, 6, 7] rfl)
set_option maxHeartbeats 4000000 in
set_option maxRecDepth 100000 in
theorem op_23 {p : Program} {l : Launch} {e : Env} {s : State} {m : MethodId} {below : List Frame} {meth : Method} {c : Code} {b L : Nat} {xs : Nat → Int32} {D : va_G} {T : Nat → ClassId} {B N j cells slots : Nat} {Q : State → Prop} {μ ν : Mem} {cap : Nat} {t : List Nat} {f : Nat → Int64} {g : Nat → UInt64} {H : Heap} {locs : List Loc} {ls : Array Slot} (F : FX l s b D T B) (hN : 1200000000000 ≤ N) (hNP : ∀ x ds, dcN x = some ds → NumP N x ds) (C0 : lw_At p s m meth c b L xs) (hL : L ≤ 2560) (hj : 5 * j + 5 ≤ L) (hR : RR μ ν 0 t) (hcap : cap ≤ 70) (hI : LI s D T B μ cap t ν f g H) (hS : va_S (AL B) s.heap H locs) (hl : lv_has ls 9 (LV b B (nI (5 * j)))) (hce : cells + 1450 ≤ room_1.cells) (hsl : slots + 13186 ≤ room_1.slots) (kk : LK p l e s m b below meth c D T B j cells slots Q) : W p l e room_1 s m #[.ref b] below meth c H locs cells slots Q (F0 m 1805 ls []) := by
  obtain ⟨hx, hb, hr, hml, hown, hts, hX, hbl, hlocks, hgv⟩ := C0
  have hC : gC p c code s m #[.ref b] RL D vwCl (tysG T) := ⟨hx, hb, hown, fun w hw => hts w (wg_tbl hw), F.2.2.2.1⟩
  have hbA : ¬ AL B b := Nat.not_le.mpr (Nat.lt_of_lt_of_le hbl F.2.2.2.2)
  obtain ⟨r, hf, r', hf', hR', hSm⟩ := (q_lastsByToppling (by omega) hR : Ok (fX10_lastsByToppling N μ 0 (xs (nI (5 * j) + 1).toNatClampNeg)) _)
  obtain ⟨h6, h0⟩ := Sm_k hSm (by decide) (by decide)
  refine lv_aload_n hx hb dL_law_1805 rfl (lv_at hl 4 rfl) ?_
  refine lv_aload_n hx hb dL_law_1806 rfl (lv_at hl 5 rfl) ?_
  refine lv_iload hx hb dL_law_1807 (lv_at hl 0 rfl) ?_
  refine lv_iconst (v := 1) hx hb dL_law_1809 (by decide) ?_
  refine lv_iadd hx hb dL_law_1810 ?_
  refine va_sld hx hb hX hbl hbA hS (sc_in 1 hj hL (by decide)) dL_law_1811 ?_
  refine lv_aload_n hx hb dL_law_1812 rfl (lv_at hl 2 rfl) ?_
  refine gl_wr (As := [.ref (B + 0), .int (xs (nI (5 * j) + 1).toNatClampNeg), .ref (B + 574)]) (rest := []) F hC hml hS hI (metL_lastsByToppling F Xc_g Xc_ob hf (Sm1 hSm)) mw_L_272 ⟨rfl, rfl, (Nat.le_of_ble_eq_true rfl), (Nat.le_of_ble_eq_true rfl)⟩ rfl hl.1 rfl (Nat.le_of_ble_eq_true rfl) dL_law_1813 ⟨by omega, by omega⟩ (fun H locs hI hS => ?_)
  refine lv_istore (lv' := [(6, .int (kL [0] r.2)), (5, .int (nI (5 * j))), (4, .ref (B + 575)), (3, .ref (B + 574)), (2, .ref (B + 562 + 0)), (1, .ref (B + 0)), (0, .ref b)]) hx hb dL_law_1816 hl (by decide) rfl (fun ls hl => ?_)
  refine lv_aload_n hx hb dL_law_1818 rfl (lv_at hl 4 rfl) ?_
  refine lv_aload_n hx hb dL_law_1819 rfl (lv_at hl 6 rfl) ?_
  refine lv_iload hx hb dL_law_1820 (lv_at hl 1 rfl) ?_
  refine lv_iconst (v := 1) hx hb dL_law_1822 (by decide) ?_
  refine lv_iadd hx hb dL_law_1823 ?_
  refine va_sld hx hb hX hbl hbA hS (sc_in 1 hj hL (by decide)) dL_law_1824 ?_
  refine gl_mo (As := [.int (xs (nI (5 * j) + 1).toNatClampNeg)]) (rest := []) F hC hml hS hI (fun X hX9 => metX11_lastsByToppling (FX_at F (by have := F.2.2.2.2; omega)) hX9 is_Mo hf') ml_L_274 rfl ⟨rfl, rfl, (Nat.le_of_ble_eq_true rfl), (Nat.le_of_ble_eq_true rfl)⟩ rfl hl.1 rfl (Nat.le_of_ble_eq_true rfl) dL_law_1825 ⟨by omega, by omega⟩ (fun H locs hI hS => ?_)
  refine lv_istore (lv' := [(7, .int (b2i r'.2)), (6, .int (kL [0] r.2)), (5, .int (nI (5 * j))), (4, .ref (B + 575)), (3, .ref (B + 574)), (2, .ref (B + 562 + 0)), (1, .ref (B + 0)), (0, .ref b)]) hx hb dL_law_1828 hl (by decide) rfl (fun ls hl => ?_)
  refine lv_aload_n hx hb dL_law_1830 rfl (lv_at hl 5 rfl) ?_
  refine gl_mo (As := []) (rest := []) F hC hml hS hI (fun X hX9 => metX11_thrown (N := N) (r := r'.1 0 6) (FX_at F (by have := F.2.2.2.2; omega)) hX9 is_Mo rfl) ml_L_198 rfl ⟨rfl, rfl, (Nat.le_of_ble_eq_true rfl), (Nat.le_of_ble_eq_true rfl)⟩ rfl hl.1 rfl (Nat.le_of_ble_eq_true rfl) dL_law_1831 ⟨by omega, by omega⟩ (fun H locs hI hS => ?_)
  refine lv_iload hx hb dL_law_1834 (lv_at hl 1 rfl) ?_
  refine lv_icmp_eq (tgt := 1841) hx hb dL_law_1836 (by decide) (fun _ => ?_) (fun z => absurd h6 z)
  refine lv_iload hx hb dL_law_1841 (lv_at hl 1 rfl) ?_
  refine lv_if_ne (tgt := 1865) hx hb dL_law_1843 (by decide) (fun _ => ?_) (fun z => ?_)
  · refine lv_goto (tgt := 3665) hx hb dL_law_1865 (by decide) ?_
    exact lk_end kk (by omega) (by omega) hR' hcap hI hS (lv_sub hl [2, 3, 4, 5, 6, 7] rfl)
  · refine lv_aload_n hx hb dL_law_1846 rfl (lv_at hl 4 rfl) ?_
    refine lv_iconst (v := 0) hx hb dL_law_1847 (by decide) ?_
    refine gl_lald hC hI.2.2.1 dL_law_1848 ?_
    refine lv_iload hx hb dL_law_1849 (lv_at hl 0 rfl) ?_
    refine gw_if_eqZ (tgt := 1858) hx hb dL_law_1851 (by decide) (fun c9 => ?_) (fun c9 => ?_)
    · refine lv_lconst (v := 0) hx hb dL_law_1858 (by decide) ?_
      rw [upZ_0 (z := 0) (h0 z) (by rw [c9]; rfl)]
      refine W.lcmp hx hb dL_law_1859 ?_
      rw [lg_cmp_self]
      refine lv_if_eq (tgt := 1865) hx hb dL_law_1860 (by decide) (fun _ => ?_) (fun z => absurd rfl z)
      refine lv_goto (tgt := 3665) hx hb dL_law_1865 (by decide) ?_
      exact lk_end kk (by omega) (by omega) hR' hcap hI hS (lv_sub hl [2, 3, 4, 5, 6, 7] rfl)
    · refine lv_lconst (v := 1) hx hb dL_law_1854 (by decide) ?_
      refine lv_goto (tgt := 1859) hx hb dL_law_1855 (by decide) ?_
      rw [upZ_0 (z := 1) (h0 z) (by rw [c9]; rfl)]
      refine W.lcmp hx hb dL_law_1859 ?_
      rw [lg_cmp_self]
      refine lv_if_eq (tgt := 1865) hx hb dL_law_1860 (by decide) (fun _ => ?_) (fun z => absurd rfl z)
      refine lv_goto (tgt := 3665) hx hb dL_law_1865 (by decide) ?_
      exact lk_end kk (by omega) (by omega) hR' hcap hI hS (lv_sub hl [2, 3, 4, 5, 6, 7] rfl)
set_option maxHeartbeats 4000000 in
set_option maxRecDepth 100000 in
theorem op_24 {p : Program} {l : Launch} {e : Env} {s : State} {m : MethodId} {below : List Frame} {meth : Method} {c : Code} {b L : Nat} {xs : Nat → Int32} {D : va_G} {T : Nat → ClassId} {B N j cells slots : Nat} {Q : State → Prop} {μ ν : Mem} {cap : Nat} {t : List Nat} {f : Nat → Int64} {g : Nat → UInt64} {H : Heap} {locs : List Loc} {ls : Array Slot} (F : FX l s b D T B) (hN : 1200000000000 ≤ N) (hNP : ∀ x ds, dcN x = some ds → NumP N x ds) (C0 : lw_At p s m meth c b L xs) (hL : L ≤ 2560) (hj : 5 * j + 5 ≤ L) (hR : RR μ ν 0 t) (hcap : cap ≤ 70) (hI : LI s D T B μ cap t ν f g H) (hS : va_S (AL B) s.heap H locs) (hl : lv_has ls 9 (LV b B (nI (5 * j)))) (hce : cells + 1450 ≤ room_1.cells) (hsl : slots + 13186 ≤ room_1.slots) (kk : LK p l e s m b below meth c D T B j cells slots Q) : W p l e room_1 s m #[.ref b] below meth c H locs cells slots Q (F0 m 1868 ls []) := by
  obtain ⟨hx, hb, hr, hml, hown, hts, hX, hbl, hlocks, hgv⟩ := C0
  have hC : gC p c code s m #[.ref b] RL D vwCl (tysG T) := ⟨hx, hb, hown, fun w hw => hts w (wg_tbl hw), F.2.2.2.1⟩
  have hbA : ¬ AL B b := Nat.not_le.mpr (Nat.lt_of_lt_of_le hbl F.2.2.2.2)
  obtain ⟨r, hf, r', hf', hR', hSm⟩ := (q_longestSlope (by omega) hR : Ok (fX10_longestSlope N μ 0 (xs (nI (5 * j) + 1).toNatClampNeg)) _)
  obtain ⟨h6, h0⟩ := Sm_k hSm (by decide) (by decide)
  refine lv_aload_n hx hb dL_law_1868 rfl (lv_at hl 4 rfl) ?_
  refine lv_aload_n hx hb dL_law_1869 rfl (lv_at hl 5 rfl) ?_
  refine lv_iload hx hb dL_law_1870 (lv_at hl 0 rfl) ?_
  refine lv_iconst (v := 1) hx hb dL_law_1872 (by decide) ?_
  refine lv_iadd hx hb dL_law_1873 ?_
  refine va_sld hx hb hX hbl hbA hS (sc_in 1 hj hL (by decide)) dL_law_1874 ?_
  refine lv_aload_n hx hb dL_law_1875 rfl (lv_at hl 2 rfl) ?_
  refine gl_wr (As := [.ref (B + 0), .int (xs (nI (5 * j) + 1).toNatClampNeg), .ref (B + 574)]) (rest := []) F hC hml hS hI (metL_longestSlope F Xc_g Xc_ob hf (Sm1 hSm)) mw_L_275 ⟨rfl, rfl, (Nat.le_of_ble_eq_true rfl), (Nat.le_of_ble_eq_true rfl)⟩ rfl hl.1 rfl (Nat.le_of_ble_eq_true rfl) dL_law_1876 ⟨by omega, by omega⟩ (fun H locs hI hS => ?_)
  refine lv_istore (lv' := [(6, .int (kL [0] r.2)), (5, .int (nI (5 * j))), (4, .ref (B + 575)), (3, .ref (B + 574)), (2, .ref (B + 562 + 0)), (1, .ref (B + 0)), (0, .ref b)]) hx hb dL_law_1879 hl (by decide) rfl (fun ls hl => ?_)
  refine lv_aload_n hx hb dL_law_1881 rfl (lv_at hl 4 rfl) ?_
  refine lv_aload_n hx hb dL_law_1882 rfl (lv_at hl 6 rfl) ?_
  refine lv_iload hx hb dL_law_1883 (lv_at hl 1 rfl) ?_
  refine lv_iconst (v := 1) hx hb dL_law_1885 (by decide) ?_
  refine lv_iadd hx hb dL_law_1886 ?_
  refine va_sld hx hb hX hbl hbA hS (sc_in 1 hj hL (by decide)) dL_law_1887 ?_
  refine gl_mo (As := [.int (xs (nI (5 * j) + 1).toNatClampNeg)]) (rest := []) F hC hml hS hI (fun X hX9 => metX11_longestSlope (FX_at F (by have := F.2.2.2.2; omega)) hX9 is_Mo hf') ml_L_277 rfl ⟨rfl, rfl, (Nat.le_of_ble_eq_true rfl), (Nat.le_of_ble_eq_true rfl)⟩ rfl hl.1 rfl (Nat.le_of_ble_eq_true rfl) dL_law_1888 ⟨by omega, by omega⟩ (fun H locs hI hS => ?_)
  refine lv_istore (lv' := [(7, .int r'.2), (6, .int (kL [0] r.2)), (5, .int (nI (5 * j))), (4, .ref (B + 575)), (3, .ref (B + 574)), (2, .ref (B + 562 + 0)), (1, .ref (B + 0)), (0, .ref b)]) hx hb dL_law_1891 hl (by decide) rfl (fun ls hl => ?_)
  refine lv_aload_n hx hb dL_law_1893 rfl (lv_at hl 5 rfl) ?_
  refine gl_mo (As := []) (rest := []) F hC hml hS hI (fun X hX9 => metX11_thrown (N := N) (r := r'.1 0 6) (FX_at F (by have := F.2.2.2.2; omega)) hX9 is_Mo rfl) ml_L_198 rfl ⟨rfl, rfl, (Nat.le_of_ble_eq_true rfl), (Nat.le_of_ble_eq_true rfl)⟩ rfl hl.1 rfl (Nat.le_of_ble_eq_true rfl) dL_law_1894 ⟨by omega, by omega⟩ (fun H locs hI hS => ?_)
  refine lv_iload hx hb dL_law_1897 (lv_at hl 1 rfl) ?_
  refine lv_icmp_eq (tgt := 1904) hx hb dL_law_1899 (by decide) (fun _ => ?_) (fun z => absurd h6 z)
  refine lv_iload hx hb dL_law_1904 (lv_at hl 1 rfl) ?_
  refine lv_if_ne (tgt := 1921) hx hb dL_law_1906 (by decide) (fun _ => ?_) (fun z => ?_)
  · refine lv_goto (tgt := 3665) hx hb dL_law_1921 (by decide) ?_
    exact lk_end kk (by omega) (by omega) hR' hcap hI hS (lv_sub hl [2, 3, 4, 5, 6, 7] rfl)
  · refine lv_aload_n hx hb dL_law_1909 rfl (lv_at hl 4 rfl) ?_
    refine lv_iconst (v := 0) hx hb dL_law_1910 (by decide) ?_
    refine gl_lald hC hI.2.2.1 dL_law_1911 ?_
    rw [upI_0 (h0 z)]
    refine lv_iload hx hb dL_law_1912 (lv_at hl 0 rfl) ?_
    refine lv_i2l hx hb dL_law_1914 rfl ?_
    refine W.lcmp hx hb dL_law_1915 ?_
    rw [lg_cmp_self]
    refine lv_if_eq (tgt := 1921) hx hb dL_law_1916 (by decide) (fun _ => ?_) (fun z => absurd rfl z)
    refine lv_goto (tgt := 3665) hx hb dL_law_1921 (by decide) ?_
    exact lk_end kk (by omega) (by omega) hR' hcap hI hS (lv_sub hl [2, 3, 4, 5, 6, 7] rfl)
set_option maxHeartbeats 4000000 in
set_option maxRecDepth 100000 in
theorem op_25 {p : Program} {l : Launch} {e : Env} {s : State} {m : MethodId} {below : List Frame} {meth : Method} {c : Code} {b L : Nat} {xs : Nat → Int32} {D : va_G} {T : Nat → ClassId} {B N j cells slots : Nat} {Q : State → Prop} {μ ν : Mem} {cap : Nat} {t : List Nat} {f : Nat → Int64} {g : Nat → UInt64} {H : Heap} {locs : List Loc} {ls : Array Slot} (F : FX l s b D T B) (hN : 1200000000000 ≤ N) (hNP : ∀ x ds, dcN x = some ds → NumP N x ds) (C0 : lw_At p s m meth c b L xs) (hL : L ≤ 2560) (hj : 5 * j + 5 ≤ L) (hR : RR μ ν 0 t) (hcap : cap ≤ 70) (hI : LI s D T B μ cap t ν f g H) (hS : va_S (AL B) s.heap H locs) (hl : lv_has ls 9 (LV b B (nI (5 * j)))) (hce : cells + 1450 ≤ room_1.cells) (hsl : slots + 13186 ≤ room_1.slots) (kk : LK p l e s m b below meth c D T B j cells slots Q) : W p l e room_1 s m #[.ref b] below meth c H locs cells slots Q (F0 m 1924 ls []) := by
  obtain ⟨hx, hb, hr, hml, hown, hts, hX, hbl, hlocks, hgv⟩ := C0
  have hC : gC p c code s m #[.ref b] RL D vwCl (tysG T) := ⟨hx, hb, hown, fun w hw => hts w (wg_tbl hw), F.2.2.2.1⟩
  have hbA : ¬ AL B b := Nat.not_le.mpr (Nat.lt_of_lt_of_le hbl F.2.2.2.2)
  obtain ⟨r, hf, r', hf', hR', hSm⟩ := (q_longestSlopeByGrains (by omega) hR : Ok (fX10_longestSlopeByGrains N μ 0 (xs (nI (5 * j) + 1).toNatClampNeg)) _)
  obtain ⟨h6, h0⟩ := Sm_k hSm (by decide) (by decide)
  refine lv_aload_n hx hb dL_law_1924 rfl (lv_at hl 4 rfl) ?_
  refine lv_aload_n hx hb dL_law_1925 rfl (lv_at hl 5 rfl) ?_
  refine lv_iload hx hb dL_law_1926 (lv_at hl 0 rfl) ?_
  refine lv_iconst (v := 1) hx hb dL_law_1928 (by decide) ?_
  refine lv_iadd hx hb dL_law_1929 ?_
  refine va_sld hx hb hX hbl hbA hS (sc_in 1 hj hL (by decide)) dL_law_1930 ?_
  refine lv_aload_n hx hb dL_law_1931 rfl (lv_at hl 2 rfl) ?_
  refine gl_wr (As := [.ref (B + 0), .int (xs (nI (5 * j) + 1).toNatClampNeg), .ref (B + 574)]) (rest := []) F hC hml hS hI (metL_longestSlopeByGrains F Xc_g Xc_ob hf (Sm1 hSm)) mw_L_278 ⟨rfl, rfl, (Nat.le_of_ble_eq_true rfl), (Nat.le_of_ble_eq_true rfl)⟩ rfl hl.1 rfl (Nat.le_of_ble_eq_true rfl) dL_law_1932 ⟨by omega, by omega⟩ (fun H locs hI hS => ?_)
  refine lv_istore (lv' := [(6, .int (kL [0] r.2)), (5, .int (nI (5 * j))), (4, .ref (B + 575)), (3, .ref (B + 574)), (2, .ref (B + 562 + 0)), (1, .ref (B + 0)), (0, .ref b)]) hx hb dL_law_1935 hl (by decide) rfl (fun ls hl => ?_)
  refine lv_aload_n hx hb dL_law_1937 rfl (lv_at hl 4 rfl) ?_
  refine lv_aload_n hx hb dL_law_1938 rfl (lv_at hl 6 rfl) ?_
  refine lv_iload hx hb dL_law_1939 (lv_at hl 1 rfl) ?_
  refine lv_iconst (v := 1) hx hb dL_law_1941 (by decide) ?_
  refine lv_iadd hx hb dL_law_1942 ?_
  refine va_sld hx hb hX hbl hbA hS (sc_in 1 hj hL (by decide)) dL_law_1943 ?_
  refine gl_mo (As := [.int (xs (nI (5 * j) + 1).toNatClampNeg)]) (rest := []) F hC hml hS hI (fun X hX9 => metX11_longestSlopeByGrains (FX_at F (by have := F.2.2.2.2; omega)) hX9 is_Mo hf') ml_L_280 rfl ⟨rfl, rfl, (Nat.le_of_ble_eq_true rfl), (Nat.le_of_ble_eq_true rfl)⟩ rfl hl.1 rfl (Nat.le_of_ble_eq_true rfl) dL_law_1944 ⟨by omega, by omega⟩ (fun H locs hI hS => ?_)
  refine lv_istore (lv' := [(7, .int r'.2), (6, .int (kL [0] r.2)), (5, .int (nI (5 * j))), (4, .ref (B + 575)), (3, .ref (B + 574)), (2, .ref (B + 562 + 0)), (1, .ref (B + 0)), (0, .ref b)]) hx hb dL_law_1947 hl (by decide) rfl (fun ls hl => ?_)
  refine lv_aload_n hx hb dL_law_1949 rfl (lv_at hl 5 rfl) ?_
  refine gl_mo (As := []) (rest := []) F hC hml hS hI (fun X hX9 => metX11_thrown (N := N) (r := r'.1 0 6) (FX_at F (by have := F.2.2.2.2; omega)) hX9 is_Mo rfl) ml_L_198 rfl ⟨rfl, rfl, (Nat.le_of_ble_eq_true rfl), (Nat.le_of_ble_eq_true rfl)⟩ rfl hl.1 rfl (Nat.le_of_ble_eq_true rfl) dL_law_1950 ⟨by omega, by omega⟩ (fun H locs hI hS => ?_)
  refine lv_iload hx hb dL_law_1953 (lv_at hl 1 rfl) ?_
  refine lv_icmp_eq (tgt := 1960) hx hb dL_law_1955 (by decide) (fun _ => ?_) (fun z => absurd h6 z)
  refine lv_iload hx hb dL_law_1960 (lv_at hl 1 rfl) ?_
  refine lv_if_ne (tgt := 1977) hx hb dL_law_1962 (by decide) (fun _ => ?_) (fun z => ?_)
  · refine lv_goto (tgt := 3665) hx hb dL_law_1977 (by decide) ?_
    exact lk_end kk (by omega) (by omega) hR' hcap hI hS (lv_sub hl [2, 3, 4, 5, 6, 7] rfl)
  · refine lv_aload_n hx hb dL_law_1965 rfl (lv_at hl 4 rfl) ?_
    refine lv_iconst (v := 0) hx hb dL_law_1966 (by decide) ?_
    refine gl_lald hC hI.2.2.1 dL_law_1967 ?_
    rw [upI_0 (h0 z)]
    refine lv_iload hx hb dL_law_1968 (lv_at hl 0 rfl) ?_
    refine lv_i2l hx hb dL_law_1970 rfl ?_
    refine W.lcmp hx hb dL_law_1971 ?_
    rw [lg_cmp_self]
    refine lv_if_eq (tgt := 1977) hx hb dL_law_1972 (by decide) (fun _ => ?_) (fun z => absurd rfl z)
    refine lv_goto (tgt := 3665) hx hb dL_law_1977 (by decide) ?_
    exact lk_end kk (by omega) (by omega) hR' hcap hI hS (lv_sub hl [2, 3, 4, 5, 6, 7] rfl)
set_option maxHeartbeats 4000000 in
set_option maxRecDepth 100000 in
theorem op_26 {p : Program} {l : Launch} {e : Env} {s : State} {m : MethodId} {below : List Frame} {meth : Method} {c : Code} {b L : Nat} {xs : Nat → Int32} {D : va_G} {T : Nat → ClassId} {B N j cells slots : Nat} {Q : State → Prop} {μ ν : Mem} {cap : Nat} {t : List Nat} {f : Nat → Int64} {g : Nat → UInt64} {H : Heap} {locs : List Loc} {ls : Array Slot} (F : FX l s b D T B) (hN : 1200000000000 ≤ N) (hNP : ∀ x ds, dcN x = some ds → NumP N x ds) (C0 : lw_At p s m meth c b L xs) (hL : L ≤ 2560) (hj : 5 * j + 5 ≤ L) (hR : RR μ ν 0 t) (hcap : cap ≤ 70) (hI : LI s D T B μ cap t ν f g H) (hS : va_S (AL B) s.heap H locs) (hl : lv_has ls 9 (LV b B (nI (5 * j)))) (hce : cells + 1450 ≤ room_1.cells) (hsl : slots + 13186 ≤ room_1.slots) (kk : LK p l e s m b below meth c D T B j cells slots Q) : W p l e room_1 s m #[.ref b] below meth c H locs cells slots Q (F0 m 1980 ls []) := by
  obtain ⟨hx, hb, hr, hml, hown, hts, hX, hbl, hlocks, hgv⟩ := C0
  have hC : gC p c code s m #[.ref b] RL D vwCl (tysG T) := ⟨hx, hb, hown, fun w hw => hts w (wg_tbl hw), F.2.2.2.1⟩
  have hbA : ¬ AL B b := Nat.not_le.mpr (Nat.lt_of_lt_of_le hbl F.2.2.2.2)
  obtain ⟨r, hf, r', hf', hR', hSm⟩ := (q_dropped hR : Ok (fX10_dropped N μ 0 (xs (nI (5 * j) + 1).toNatClampNeg)) _)
  obtain ⟨h6, h0⟩ := Sm_k hSm (by decide) (by decide)
  refine lv_aload_n hx hb dL_law_1980 rfl (lv_at hl 4 rfl) ?_
  refine lv_aload_n hx hb dL_law_1981 rfl (lv_at hl 5 rfl) ?_
  refine lv_iload hx hb dL_law_1982 (lv_at hl 0 rfl) ?_
  refine lv_iconst (v := 1) hx hb dL_law_1984 (by decide) ?_
  refine lv_iadd hx hb dL_law_1985 ?_
  refine va_sld hx hb hX hbl hbA hS (sc_in 1 hj hL (by decide)) dL_law_1986 ?_
  refine lv_aload_n hx hb dL_law_1987 rfl (lv_at hl 2 rfl) ?_
  refine gl_wr (As := [.ref (B + 0), .int (xs (nI (5 * j) + 1).toNatClampNeg), .ref (B + 574)]) (rest := []) F hC hml hS hI (metL_dropped F Xc_g Xc_ob hf (Sm1 hSm)) mw_L_281 ⟨rfl, rfl, (Nat.le_of_ble_eq_true rfl), (Nat.le_of_ble_eq_true rfl)⟩ rfl hl.1 rfl (Nat.le_of_ble_eq_true rfl) dL_law_1988 ⟨by omega, by omega⟩ (fun H locs hI hS => ?_)
  refine lv_istore (lv' := [(6, .int (kL [0] r.2)), (5, .int (nI (5 * j))), (4, .ref (B + 575)), (3, .ref (B + 574)), (2, .ref (B + 562 + 0)), (1, .ref (B + 0)), (0, .ref b)]) hx hb dL_law_1991 hl (by decide) rfl (fun ls hl => ?_)
  refine lv_aload_n hx hb dL_law_1993 rfl (lv_at hl 4 rfl) ?_
  refine lv_aload_n hx hb dL_law_1994 rfl (lv_at hl 6 rfl) ?_
  refine lv_iload hx hb dL_law_1995 (lv_at hl 1 rfl) ?_
  refine lv_iconst (v := 1) hx hb dL_law_1997 (by decide) ?_
  refine lv_iadd hx hb dL_law_1998 ?_
  refine va_sld hx hb hX hbl hbA hS (sc_in 1 hj hL (by decide)) dL_law_1999 ?_
  refine gl_mo (As := [.int (xs (nI (5 * j) + 1).toNatClampNeg)]) (rest := []) F hC hml hS hI (fun X hX9 => metX11_dropped (FX_at F (by have := F.2.2.2.2; omega)) hX9 is_Mo hf') ml_L_283 rfl ⟨rfl, rfl, (Nat.le_of_ble_eq_true rfl), (Nat.le_of_ble_eq_true rfl)⟩ rfl hl.1 rfl (Nat.le_of_ble_eq_true rfl) dL_law_2000 ⟨by omega, by omega⟩ (fun H locs hI hS => ?_)
  refine lv_istore (lv' := [(7, .int r'.2), (6, .int (kL [0] r.2)), (5, .int (nI (5 * j))), (4, .ref (B + 575)), (3, .ref (B + 574)), (2, .ref (B + 562 + 0)), (1, .ref (B + 0)), (0, .ref b)]) hx hb dL_law_2003 hl (by decide) rfl (fun ls hl => ?_)
  refine lv_aload_n hx hb dL_law_2005 rfl (lv_at hl 5 rfl) ?_
  refine gl_mo (As := []) (rest := []) F hC hml hS hI (fun X hX9 => metX11_thrown (N := N) (r := r'.1 0 6) (FX_at F (by have := F.2.2.2.2; omega)) hX9 is_Mo rfl) ml_L_198 rfl ⟨rfl, rfl, (Nat.le_of_ble_eq_true rfl), (Nat.le_of_ble_eq_true rfl)⟩ rfl hl.1 rfl (Nat.le_of_ble_eq_true rfl) dL_law_2006 ⟨by omega, by omega⟩ (fun H locs hI hS => ?_)
  refine lv_iload hx hb dL_law_2009 (lv_at hl 1 rfl) ?_
  refine lv_icmp_eq (tgt := 2016) hx hb dL_law_2011 (by decide) (fun _ => ?_) (fun z => absurd h6 z)
  refine lv_iload hx hb dL_law_2016 (lv_at hl 1 rfl) ?_
  refine lv_if_ne (tgt := 2033) hx hb dL_law_2018 (by decide) (fun _ => ?_) (fun z => ?_)
  · refine lv_goto (tgt := 3665) hx hb dL_law_2033 (by decide) ?_
    exact lk_end kk (by omega) (by omega) hR' hcap hI hS (lv_sub hl [2, 3, 4, 5, 6, 7] rfl)
  · refine lv_aload_n hx hb dL_law_2021 rfl (lv_at hl 4 rfl) ?_
    refine lv_iconst (v := 0) hx hb dL_law_2022 (by decide) ?_
    refine gl_lald hC hI.2.2.1 dL_law_2023 ?_
    rw [upI_0 (h0 z)]
    refine lv_iload hx hb dL_law_2024 (lv_at hl 0 rfl) ?_
    refine lv_i2l hx hb dL_law_2026 rfl ?_
    refine W.lcmp hx hb dL_law_2027 ?_
    rw [lg_cmp_self]
    refine lv_if_eq (tgt := 2033) hx hb dL_law_2028 (by decide) (fun _ => ?_) (fun z => absurd rfl z)
    refine lv_goto (tgt := 3665) hx hb dL_law_2033 (by decide) ?_
    exact lk_end kk (by omega) (by omega) hR' hcap hI hS (lv_sub hl [2, 3, 4, 5, 6, 7] rfl)
set_option maxHeartbeats 4000000 in
set_option maxRecDepth 100000 in
theorem op_27 {p : Program} {l : Launch} {e : Env} {s : State} {m : MethodId} {below : List Frame} {meth : Method} {c : Code} {b L : Nat} {xs : Nat → Int32} {D : va_G} {T : Nat → ClassId} {B N j cells slots : Nat} {Q : State → Prop} {μ ν : Mem} {cap : Nat} {t : List Nat} {f : Nat → Int64} {g : Nat → UInt64} {H : Heap} {locs : List Loc} {ls : Array Slot} (F : FX l s b D T B) (hN : 1200000000000 ≤ N) (hNP : ∀ x ds, dcN x = some ds → NumP N x ds) (C0 : lw_At p s m meth c b L xs) (hL : L ≤ 2560) (hj : 5 * j + 5 ≤ L) (hR : RR μ ν 0 t) (hcap : cap ≤ 70) (hI : LI s D T B μ cap t ν f g H) (hS : va_S (AL B) s.heap H locs) (hl : lv_has ls 9 (LV b B (nI (5 * j)))) (hce : cells + 1450 ≤ room_1.cells) (hsl : slots + 13186 ≤ room_1.slots) (kk : LK p l e s m b below meth c D T B j cells slots Q) : W p l e room_1 s m #[.ref b] below meth c H locs cells slots Q (F0 m 2036 ls []) := by
  obtain ⟨hx, hb, hr, hml, hown, hts, hX, hbl, hlocks, hgv⟩ := C0
  have hC : gC p c code s m #[.ref b] RL D vwCl (tysG T) := ⟨hx, hb, hown, fun w hw => hts w (wg_tbl hw), F.2.2.2.1⟩
  have hbA : ¬ AL B b := Nat.not_le.mpr (Nat.lt_of_lt_of_le hbl F.2.2.2.2)
  obtain ⟨r, hf, r', hf', hR', hSm⟩ := (q_spilled hR : Ok (fX10_spilled N μ 0 (xs (nI (5 * j) + 1).toNatClampNeg)) _)
  obtain ⟨h6, h0⟩ := Sm_k hSm (by decide) (by decide)
  refine lv_aload_n hx hb dL_law_2036 rfl (lv_at hl 4 rfl) ?_
  refine lv_aload_n hx hb dL_law_2037 rfl (lv_at hl 5 rfl) ?_
  refine lv_iload hx hb dL_law_2038 (lv_at hl 0 rfl) ?_
  refine lv_iconst (v := 1) hx hb dL_law_2040 (by decide) ?_
  refine lv_iadd hx hb dL_law_2041 ?_
  refine va_sld hx hb hX hbl hbA hS (sc_in 1 hj hL (by decide)) dL_law_2042 ?_
  refine lv_aload_n hx hb dL_law_2043 rfl (lv_at hl 2 rfl) ?_
  refine gl_wr (As := [.ref (B + 0), .int (xs (nI (5 * j) + 1).toNatClampNeg), .ref (B + 574)]) (rest := []) F hC hml hS hI (metL_spilled F Xc_g Xc_ob hf (Sm1 hSm)) mw_L_284 ⟨rfl, rfl, (Nat.le_of_ble_eq_true rfl), (Nat.le_of_ble_eq_true rfl)⟩ rfl hl.1 rfl (Nat.le_of_ble_eq_true rfl) dL_law_2044 ⟨by omega, by omega⟩ (fun H locs hI hS => ?_)
  refine lv_istore (lv' := [(6, .int (kL [0] r.2)), (5, .int (nI (5 * j))), (4, .ref (B + 575)), (3, .ref (B + 574)), (2, .ref (B + 562 + 0)), (1, .ref (B + 0)), (0, .ref b)]) hx hb dL_law_2047 hl (by decide) rfl (fun ls hl => ?_)
  refine lv_aload_n hx hb dL_law_2049 rfl (lv_at hl 4 rfl) ?_
  refine lv_aload_n hx hb dL_law_2050 rfl (lv_at hl 6 rfl) ?_
  refine lv_iload hx hb dL_law_2051 (lv_at hl 1 rfl) ?_
  refine lv_iconst (v := 1) hx hb dL_law_2053 (by decide) ?_
  refine lv_iadd hx hb dL_law_2054 ?_
  refine va_sld hx hb hX hbl hbA hS (sc_in 1 hj hL (by decide)) dL_law_2055 ?_
  refine gl_mo (As := [.int (xs (nI (5 * j) + 1).toNatClampNeg)]) (rest := []) F hC hml hS hI (fun X hX9 => metX11_spilled (FX_at F (by have := F.2.2.2.2; omega)) hX9 is_Mo hf') ml_L_286 rfl ⟨rfl, rfl, (Nat.le_of_ble_eq_true rfl), (Nat.le_of_ble_eq_true rfl)⟩ rfl hl.1 rfl (Nat.le_of_ble_eq_true rfl) dL_law_2056 ⟨by omega, by omega⟩ (fun H locs hI hS => ?_)
  refine lv_istore (lv' := [(7, .int r'.2), (6, .int (kL [0] r.2)), (5, .int (nI (5 * j))), (4, .ref (B + 575)), (3, .ref (B + 574)), (2, .ref (B + 562 + 0)), (1, .ref (B + 0)), (0, .ref b)]) hx hb dL_law_2059 hl (by decide) rfl (fun ls hl => ?_)
  refine lv_aload_n hx hb dL_law_2061 rfl (lv_at hl 5 rfl) ?_
  refine gl_mo (As := []) (rest := []) F hC hml hS hI (fun X hX9 => metX11_thrown (N := N) (r := r'.1 0 6) (FX_at F (by have := F.2.2.2.2; omega)) hX9 is_Mo rfl) ml_L_198 rfl ⟨rfl, rfl, (Nat.le_of_ble_eq_true rfl), (Nat.le_of_ble_eq_true rfl)⟩ rfl hl.1 rfl (Nat.le_of_ble_eq_true rfl) dL_law_2062 ⟨by omega, by omega⟩ (fun H locs hI hS => ?_)
  refine lv_iload hx hb dL_law_2065 (lv_at hl 1 rfl) ?_
  refine lv_icmp_eq (tgt := 2072) hx hb dL_law_2067 (by decide) (fun _ => ?_) (fun z => absurd h6 z)
  refine lv_iload hx hb dL_law_2072 (lv_at hl 1 rfl) ?_
  refine lv_if_ne (tgt := 2089) hx hb dL_law_2074 (by decide) (fun _ => ?_) (fun z => ?_)
  · refine lv_goto (tgt := 3665) hx hb dL_law_2089 (by decide) ?_
    exact lk_end kk (by omega) (by omega) hR' hcap hI hS (lv_sub hl [2, 3, 4, 5, 6, 7] rfl)
  · refine lv_aload_n hx hb dL_law_2077 rfl (lv_at hl 4 rfl) ?_
    refine lv_iconst (v := 0) hx hb dL_law_2078 (by decide) ?_
    refine gl_lald hC hI.2.2.1 dL_law_2079 ?_
    rw [upI_0 (h0 z)]
    refine lv_iload hx hb dL_law_2080 (lv_at hl 0 rfl) ?_
    refine lv_i2l hx hb dL_law_2082 rfl ?_
    refine W.lcmp hx hb dL_law_2083 ?_
    rw [lg_cmp_self]
    refine lv_if_eq (tgt := 2089) hx hb dL_law_2084 (by decide) (fun _ => ?_) (fun z => absurd rfl z)
    refine lv_goto (tgt := 3665) hx hb dL_law_2089 (by decide) ?_
    exact lk_end kk (by omega) (by omega) hR' hcap hI hS (lv_sub hl [2, 3, 4, 5, 6, 7] rfl)
set_option maxHeartbeats 4000000 in
set_option maxRecDepth 100000 in
theorem op_28 {p : Program} {l : Launch} {e : Env} {s : State} {m : MethodId} {below : List Frame} {meth : Method} {c : Code} {b L : Nat} {xs : Nat → Int32} {D : va_G} {T : Nat → ClassId} {B N j cells slots : Nat} {Q : State → Prop} {μ ν : Mem} {cap : Nat} {t : List Nat} {f : Nat → Int64} {g : Nat → UInt64} {H : Heap} {locs : List Loc} {ls : Array Slot} (F : FX l s b D T B) (hN : 1200000000000 ≤ N) (hNP : ∀ x ds, dcN x = some ds → NumP N x ds) (C0 : lw_At p s m meth c b L xs) (hL : L ≤ 2560) (hj : 5 * j + 5 ≤ L) (hR : RR μ ν 0 t) (hcap : cap ≤ 70) (hI : LI s D T B μ cap t ν f g H) (hS : va_S (AL B) s.heap H locs) (hl : lv_has ls 9 (LV b B (nI (5 * j)))) (hce : cells + 1450 ≤ room_1.cells) (hsl : slots + 13186 ≤ room_1.slots) (kk : LK p l e s m b below meth c D T B j cells slots Q) : W p l e room_1 s m #[.ref b] below meth c H locs cells slots Q (F0 m 2092 ls []) := by
  obtain ⟨hx, hb, hr, hml, hown, hts, hX, hbl, hlocks, hgv⟩ := C0
  have hC : gC p c code s m #[.ref b] RL D vwCl (tysG T) := ⟨hx, hb, hown, fun w hw => hts w (wg_tbl hw), F.2.2.2.1⟩
  have hbA : ¬ AL B b := Nat.not_le.mpr (Nat.lt_of_lt_of_le hbl F.2.2.2.2)
  obtain ⟨r, hf, r', hf', hR', hSm⟩ := (q_melted hR : Ok (fX10_melted N μ 0 (xs (nI (5 * j) + 1).toNatClampNeg)) _)
  obtain ⟨h6, h0⟩ := Sm_k hSm (by decide) (by decide)
  refine lv_aload_n hx hb dL_law_2092 rfl (lv_at hl 4 rfl) ?_
  refine lv_aload_n hx hb dL_law_2093 rfl (lv_at hl 5 rfl) ?_
  refine lv_iload hx hb dL_law_2094 (lv_at hl 0 rfl) ?_
  refine lv_iconst (v := 1) hx hb dL_law_2096 (by decide) ?_
  refine lv_iadd hx hb dL_law_2097 ?_
  refine va_sld hx hb hX hbl hbA hS (sc_in 1 hj hL (by decide)) dL_law_2098 ?_
  refine lv_aload_n hx hb dL_law_2099 rfl (lv_at hl 2 rfl) ?_
  refine gl_wr (As := [.ref (B + 0), .int (xs (nI (5 * j) + 1).toNatClampNeg), .ref (B + 574)]) (rest := []) F hC hml hS hI (metL_melted F Xc_g Xc_ob hf (Sm1 hSm)) mw_L_287 ⟨rfl, rfl, (Nat.le_of_ble_eq_true rfl), (Nat.le_of_ble_eq_true rfl)⟩ rfl hl.1 rfl (Nat.le_of_ble_eq_true rfl) dL_law_2100 ⟨by omega, by omega⟩ (fun H locs hI hS => ?_)
  refine lv_istore (lv' := [(6, .int (kL [0] r.2)), (5, .int (nI (5 * j))), (4, .ref (B + 575)), (3, .ref (B + 574)), (2, .ref (B + 562 + 0)), (1, .ref (B + 0)), (0, .ref b)]) hx hb dL_law_2103 hl (by decide) rfl (fun ls hl => ?_)
  refine lv_aload_n hx hb dL_law_2105 rfl (lv_at hl 4 rfl) ?_
  refine lv_aload_n hx hb dL_law_2106 rfl (lv_at hl 6 rfl) ?_
  refine lv_iload hx hb dL_law_2107 (lv_at hl 1 rfl) ?_
  refine lv_iconst (v := 1) hx hb dL_law_2109 (by decide) ?_
  refine lv_iadd hx hb dL_law_2110 ?_
  refine va_sld hx hb hX hbl hbA hS (sc_in 1 hj hL (by decide)) dL_law_2111 ?_
  refine gl_mo (As := [.int (xs (nI (5 * j) + 1).toNatClampNeg)]) (rest := []) F hC hml hS hI (fun X hX9 => metX11_melted (FX_at F (by have := F.2.2.2.2; omega)) hX9 is_Mo hf') ml_L_289 rfl ⟨rfl, rfl, (Nat.le_of_ble_eq_true rfl), (Nat.le_of_ble_eq_true rfl)⟩ rfl hl.1 rfl (Nat.le_of_ble_eq_true rfl) dL_law_2112 ⟨by omega, by omega⟩ (fun H locs hI hS => ?_)
  refine lv_istore (lv' := [(7, .int r'.2), (6, .int (kL [0] r.2)), (5, .int (nI (5 * j))), (4, .ref (B + 575)), (3, .ref (B + 574)), (2, .ref (B + 562 + 0)), (1, .ref (B + 0)), (0, .ref b)]) hx hb dL_law_2115 hl (by decide) rfl (fun ls hl => ?_)
  refine lv_aload_n hx hb dL_law_2117 rfl (lv_at hl 5 rfl) ?_
  refine gl_mo (As := []) (rest := []) F hC hml hS hI (fun X hX9 => metX11_thrown (N := N) (r := r'.1 0 6) (FX_at F (by have := F.2.2.2.2; omega)) hX9 is_Mo rfl) ml_L_198 rfl ⟨rfl, rfl, (Nat.le_of_ble_eq_true rfl), (Nat.le_of_ble_eq_true rfl)⟩ rfl hl.1 rfl (Nat.le_of_ble_eq_true rfl) dL_law_2118 ⟨by omega, by omega⟩ (fun H locs hI hS => ?_)
  refine lv_iload hx hb dL_law_2121 (lv_at hl 1 rfl) ?_
  refine lv_icmp_eq (tgt := 2128) hx hb dL_law_2123 (by decide) (fun _ => ?_) (fun z => absurd h6 z)
  refine lv_iload hx hb dL_law_2128 (lv_at hl 1 rfl) ?_
  refine lv_if_ne (tgt := 2145) hx hb dL_law_2130 (by decide) (fun _ => ?_) (fun z => ?_)
  · refine lv_goto (tgt := 3665) hx hb dL_law_2145 (by decide) ?_
    exact lk_end kk (by omega) (by omega) hR' hcap hI hS (lv_sub hl [2, 3, 4, 5, 6, 7] rfl)
  · refine lv_aload_n hx hb dL_law_2133 rfl (lv_at hl 4 rfl) ?_
    refine lv_iconst (v := 0) hx hb dL_law_2134 (by decide) ?_
    refine gl_lald hC hI.2.2.1 dL_law_2135 ?_
    rw [upI_0 (h0 z)]
    refine lv_iload hx hb dL_law_2136 (lv_at hl 0 rfl) ?_
    refine lv_i2l hx hb dL_law_2138 rfl ?_
    refine W.lcmp hx hb dL_law_2139 ?_
    rw [lg_cmp_self]
    refine lv_if_eq (tgt := 2145) hx hb dL_law_2140 (by decide) (fun _ => ?_) (fun z => absurd rfl z)
    refine lv_goto (tgt := 3665) hx hb dL_law_2145 (by decide) ?_
    exact lk_end kk (by omega) (by omega) hR' hcap hI hS (lv_sub hl [2, 3, 4, 5, 6, 7] rfl)
set_option maxHeartbeats 4000000 in
set_option maxRecDepth 100000 in
theorem op_29 {p : Program} {l : Launch} {e : Env} {s : State} {m : MethodId} {below : List Frame} {meth : Method} {c : Code} {b L : Nat} {xs : Nat → Int32} {D : va_G} {T : Nat → ClassId} {B N j cells slots : Nat} {Q : State → Prop} {μ ν : Mem} {cap : Nat} {t : List Nat} {f : Nat → Int64} {g : Nat → UInt64} {H : Heap} {locs : List Loc} {ls : Array Slot} (F : FX l s b D T B) (hN : 1200000000000 ≤ N) (hNP : ∀ x ds, dcN x = some ds → NumP N x ds) (C0 : lw_At p s m meth c b L xs) (hL : L ≤ 2560) (hj : 5 * j + 5 ≤ L) (hR : RR μ ν 0 t) (hcap : cap ≤ 70) (hI : LI s D T B μ cap t ν f g H) (hS : va_S (AL B) s.heap H locs) (hl : lv_has ls 9 (LV b B (nI (5 * j)))) (hce : cells + 1450 ≤ room_1.cells) (hsl : slots + 13186 ≤ room_1.slots) (kk : LK p l e s m b below meth c D T B j cells slots Q) : W p l e room_1 s m #[.ref b] below meth c H locs cells slots Q (F0 m 2148 ls []) := by
  obtain ⟨hx, hb, hr, hml, hown, hts, hX, hbl, hlocks, hgv⟩ := C0
  have hC : gC p c code s m #[.ref b] RL D vwCl (tysG T) := ⟨hx, hb, hown, fun w hw => hts w (wg_tbl hw), F.2.2.2.1⟩
  have hbA : ¬ AL B b := Nat.not_le.mpr (Nat.lt_of_lt_of_le hbl F.2.2.2.2)
  obtain ⟨r, hf, r', hf', hR', hSm⟩ := (o_send (by omega) hR : Ok (fX10_send N μ 0 (xs (nI (5 * j) + 1).toNatClampNeg) (xs (nI (5 * j) + 2).toNatClampNeg)) _)
  obtain ⟨h6, h0⟩ := Sm_k hSm (by decide) (by decide)
  refine lv_aload_n hx hb dL_law_2148 rfl (lv_at hl 4 rfl) ?_
  refine lv_aload_n hx hb dL_law_2149 rfl (lv_at hl 5 rfl) ?_
  refine lv_iload hx hb dL_law_2150 (lv_at hl 0 rfl) ?_
  refine lv_iconst (v := 1) hx hb dL_law_2152 (by decide) ?_
  refine lv_iadd hx hb dL_law_2153 ?_
  refine va_sld hx hb hX hbl hbA hS (sc_in 1 hj hL (by decide)) dL_law_2154 ?_
  refine lv_aload_n hx hb dL_law_2155 rfl (lv_at hl 5 rfl) ?_
  refine lv_iload hx hb dL_law_2156 (lv_at hl 0 rfl) ?_
  refine lv_iconst (v := 2) hx hb dL_law_2158 (by decide) ?_
  refine lv_iadd hx hb dL_law_2159 ?_
  refine va_sld hx hb hX hbl hbA hS (sc_in 2 hj hL (by decide)) dL_law_2160 ?_
  refine lv_aload_n hx hb dL_law_2161 rfl (lv_at hl 2 rfl) ?_
  refine gl_wr (As := [.ref (B + 0), .int (xs (nI (5 * j) + 1).toNatClampNeg), .int (xs (nI (5 * j) + 2).toNatClampNeg), .ref (B + 574)]) (rest := []) F hC hml hS hI (metL_send F Xc_g Xc_ob hf (Sm2 hSm)) mw_L_290 ⟨rfl, rfl, (Nat.le_of_ble_eq_true rfl), (Nat.le_of_ble_eq_true rfl)⟩ rfl hl.1 rfl (Nat.le_of_ble_eq_true rfl) dL_law_2162 ⟨by omega, by omega⟩ (fun H locs hI hS => ?_)
  refine lv_istore (lv' := [(6, .int (kL [0, 4] r.2)), (5, .int (nI (5 * j))), (4, .ref (B + 575)), (3, .ref (B + 574)), (2, .ref (B + 562 + 0)), (1, .ref (B + 0)), (0, .ref b)]) hx hb dL_law_2165 hl (by decide) rfl (fun ls hl => ?_)
  refine lv_aload_n hx hb dL_law_2167 rfl (lv_at hl 4 rfl) ?_
  refine lv_aload_n hx hb dL_law_2168 rfl (lv_at hl 6 rfl) ?_
  refine lv_iload hx hb dL_law_2169 (lv_at hl 1 rfl) ?_
  refine lv_iconst (v := 1) hx hb dL_law_2171 (by decide) ?_
  refine lv_iadd hx hb dL_law_2172 ?_
  refine va_sld hx hb hX hbl hbA hS (sc_in 1 hj hL (by decide)) dL_law_2173 ?_
  refine lv_aload_n hx hb dL_law_2174 rfl (lv_at hl 6 rfl) ?_
  refine lv_iload hx hb dL_law_2175 (lv_at hl 1 rfl) ?_
  refine lv_iconst (v := 2) hx hb dL_law_2177 (by decide) ?_
  refine lv_iadd hx hb dL_law_2178 ?_
  refine va_sld hx hb hX hbl hbA hS (sc_in 2 hj hL (by decide)) dL_law_2179 ?_
  refine gl_mo (As := [.int (xs (nI (5 * j) + 1).toNatClampNeg), .int (xs (nI (5 * j) + 2).toNatClampNeg)]) (rest := []) F hC hml hS hI (fun X hX9 => metX11_send (FX_at F (by have := F.2.2.2.2; omega)) hX9 is_Mo hf') ml_L_292 rfl ⟨rfl, rfl, (Nat.le_of_ble_eq_true rfl), (Nat.le_of_ble_eq_true rfl)⟩ rfl hl.1 rfl (Nat.le_of_ble_eq_true rfl) dL_law_2180 ⟨by omega, by omega⟩ (fun H locs hI hS => ?_)
  refine lv_istore (lv' := [(7, .int r'.2), (6, .int (kL [0, 4] r.2)), (5, .int (nI (5 * j))), (4, .ref (B + 575)), (3, .ref (B + 574)), (2, .ref (B + 562 + 0)), (1, .ref (B + 0)), (0, .ref b)]) hx hb dL_law_2183 hl (by decide) rfl (fun ls hl => ?_)
  refine lv_aload_n hx hb dL_law_2185 rfl (lv_at hl 5 rfl) ?_
  refine gl_mo (As := []) (rest := []) F hC hml hS hI (fun X hX9 => metX11_thrown (N := N) (r := r'.1 0 6) (FX_at F (by have := F.2.2.2.2; omega)) hX9 is_Mo rfl) ml_L_198 rfl ⟨rfl, rfl, (Nat.le_of_ble_eq_true rfl), (Nat.le_of_ble_eq_true rfl)⟩ rfl hl.1 rfl (Nat.le_of_ble_eq_true rfl) dL_law_2186 ⟨by omega, by omega⟩ (fun H locs hI hS => ?_)
  refine lv_iload hx hb dL_law_2189 (lv_at hl 1 rfl) ?_
  refine lv_icmp_eq (tgt := 2196) hx hb dL_law_2191 (by decide) (fun _ => ?_) (fun z => absurd h6 z)
  refine lv_iload hx hb dL_law_2196 (lv_at hl 1 rfl) ?_
  refine lv_if_ne (tgt := 2213) hx hb dL_law_2198 (by decide) (fun _ => ?_) (fun z => ?_)
  · refine lv_goto (tgt := 3665) hx hb dL_law_2213 (by decide) ?_
    exact lk_end kk (by omega) (by omega) hR' hcap hI hS (lv_sub hl [2, 3, 4, 5, 6, 7] rfl)
  · refine lv_aload_n hx hb dL_law_2201 rfl (lv_at hl 4 rfl) ?_
    refine lv_iconst (v := 0) hx hb dL_law_2202 (by decide) ?_
    refine gl_lald hC hI.2.2.1 dL_law_2203 ?_
    rw [upI_0 (h0 z)]
    refine lv_iload hx hb dL_law_2204 (lv_at hl 0 rfl) ?_
    refine lv_i2l hx hb dL_law_2206 rfl ?_
    refine W.lcmp hx hb dL_law_2207 ?_
    rw [lg_cmp_self]
    refine lv_if_eq (tgt := 2213) hx hb dL_law_2208 (by decide) (fun _ => ?_) (fun z => absurd rfl z)
    refine lv_goto (tgt := 3665) hx hb dL_law_2213 (by decide) ?_
    exact lk_end kk (by omega) (by omega) hR' hcap hI hS (lv_sub hl [2, 3, 4, 5, 6, 7] rfl)
