/-! Printed by program: more cases. -/
set_option maxHeartbeats 4000000 in
set_option maxRecDepth 100000 in
theorem op_30 {p : Program} {l : Launch} {e : Env} {s : State} {m : MethodId} {below : List Frame} {meth : Method} {c : Code} {b L : Nat} {xs : Nat → Int32} {D : va_G} {T : Nat → ClassId} {B N j cells slots : Nat} {Q : State → Prop} {μ ν : Mem} {cap : Nat} {t : List Nat} {f : Nat → Int64} {g : Nat → UInt64} {H : Heap} {locs : List Loc} {ls : Array Slot} (F : FX l s b D T B) (hN : 1200000000000 ≤ N) (hNP : ∀ x ds, dcN x = some ds → NumP N x ds) (C0 : lw_At p s m meth c b L xs) (hL : L ≤ 2560) (hj : 5 * j + 5 ≤ L) (hR : RR μ ν 0 t) (hcap : cap ≤ 70) (hI : LI s D T B μ cap t ν f g H) (hS : va_S (AL B) s.heap H locs) (hl : lv_has ls 9 (LV b B (nI (5 * j)))) (hce : cells + 1450 ≤ room_1.cells) (hsl : slots + 13186 ≤ room_1.slots) (kk : LK p l e s m b below meth c D T B j cells slots Q) : W p l e room_1 s m #[.ref b] below meth c H locs cells slots Q (F0 m 2216 ls []) := by
  obtain ⟨hx, hb, hr, hml, hown, hts, hX, hbl, hlocks, hgv⟩ := C0
  have hC : gC p c code s m #[.ref b] RL D vwCl (tysG T) := ⟨hx, hb, hown, fun w hw => hts w (wg_tbl hw), F.2.2.2.1⟩
  have hbA : ¬ AL B b := Nat.not_le.mpr (Nat.lt_of_lt_of_le hbl F.2.2.2.2)
  obtain ⟨r, hf, r', hf', hR', hSm⟩ := (q_meltIfSent (by omega) hR : Ok (fX10_meltIfSent N μ 0 (xs (nI (5 * j) + 1).toNatClampNeg) (xs (nI (5 * j) + 2).toNatClampNeg)) _)
  obtain ⟨h6, h0⟩ := Sm_k hSm (by decide) (by decide)
  refine lv_aload_n hx hb dL_law_2216 rfl (lv_at hl 4 rfl) ?_
  refine lv_aload_n hx hb dL_law_2217 rfl (lv_at hl 5 rfl) ?_
  refine lv_iload hx hb dL_law_2218 (lv_at hl 0 rfl) ?_
  refine lv_iconst (v := 1) hx hb dL_law_2220 (by decide) ?_
  refine lv_iadd hx hb dL_law_2221 ?_
  refine va_sld hx hb hX hbl hbA hS (sc_in 1 hj hL (by decide)) dL_law_2222 ?_
  refine lv_aload_n hx hb dL_law_2223 rfl (lv_at hl 5 rfl) ?_
  refine lv_iload hx hb dL_law_2224 (lv_at hl 0 rfl) ?_
  refine lv_iconst (v := 2) hx hb dL_law_2226 (by decide) ?_
  refine lv_iadd hx hb dL_law_2227 ?_
  refine va_sld hx hb hX hbl hbA hS (sc_in 2 hj hL (by decide)) dL_law_2228 ?_
  refine lv_aload_n hx hb dL_law_2229 rfl (lv_at hl 2 rfl) ?_
  refine gl_wr (As := [.ref (B + 0), .int (xs (nI (5 * j) + 1).toNatClampNeg), .int (xs (nI (5 * j) + 2).toNatClampNeg), .ref (B + 574)]) (rest := []) F hC hml hS hI (metL_meltIfSent F Xc_g Xc_ob hf (Sm2 hSm)) mw_L_293 ⟨rfl, rfl, (Nat.le_of_ble_eq_true rfl), (Nat.le_of_ble_eq_true rfl)⟩ rfl hl.1 rfl (Nat.le_of_ble_eq_true rfl) dL_law_2230 ⟨by omega, by omega⟩ (fun H locs hI hS => ?_)
  refine lv_istore (lv' := [(6, .int (kL [0, 3] r.2)), (5, .int (nI (5 * j))), (4, .ref (B + 575)), (3, .ref (B + 574)), (2, .ref (B + 562 + 0)), (1, .ref (B + 0)), (0, .ref b)]) hx hb dL_law_2233 hl (by decide) rfl (fun ls hl => ?_)
  refine lv_aload_n hx hb dL_law_2235 rfl (lv_at hl 4 rfl) ?_
  refine lv_aload_n hx hb dL_law_2236 rfl (lv_at hl 6 rfl) ?_
  refine lv_iload hx hb dL_law_2237 (lv_at hl 1 rfl) ?_
  refine lv_iconst (v := 1) hx hb dL_law_2239 (by decide) ?_
  refine lv_iadd hx hb dL_law_2240 ?_
  refine va_sld hx hb hX hbl hbA hS (sc_in 1 hj hL (by decide)) dL_law_2241 ?_
  refine lv_aload_n hx hb dL_law_2242 rfl (lv_at hl 6 rfl) ?_
  refine lv_iload hx hb dL_law_2243 (lv_at hl 1 rfl) ?_
  refine lv_iconst (v := 2) hx hb dL_law_2245 (by decide) ?_
  refine lv_iadd hx hb dL_law_2246 ?_
  refine va_sld hx hb hX hbl hbA hS (sc_in 2 hj hL (by decide)) dL_law_2247 ?_
  refine gl_mo (As := [.int (xs (nI (5 * j) + 1).toNatClampNeg), .int (xs (nI (5 * j) + 2).toNatClampNeg)]) (rest := []) F hC hml hS hI (fun X hX9 => metX11_meltIfSent (FX_at F (by have := F.2.2.2.2; omega)) hX9 is_Mo hf') ml_L_295 rfl ⟨rfl, rfl, (Nat.le_of_ble_eq_true rfl), (Nat.le_of_ble_eq_true rfl)⟩ rfl hl.1 rfl (Nat.le_of_ble_eq_true rfl) dL_law_2248 ⟨by omega, by omega⟩ (fun H locs hI hS => ?_)
  refine lv_istore (lv' := [(7, .int r'.2), (6, .int (kL [0, 3] r.2)), (5, .int (nI (5 * j))), (4, .ref (B + 575)), (3, .ref (B + 574)), (2, .ref (B + 562 + 0)), (1, .ref (B + 0)), (0, .ref b)]) hx hb dL_law_2251 hl (by decide) rfl (fun ls hl => ?_)
  refine lv_aload_n hx hb dL_law_2253 rfl (lv_at hl 5 rfl) ?_
  refine gl_mo (As := []) (rest := []) F hC hml hS hI (fun X hX9 => metX11_thrown (N := N) (r := r'.1 0 6) (FX_at F (by have := F.2.2.2.2; omega)) hX9 is_Mo rfl) ml_L_198 rfl ⟨rfl, rfl, (Nat.le_of_ble_eq_true rfl), (Nat.le_of_ble_eq_true rfl)⟩ rfl hl.1 rfl (Nat.le_of_ble_eq_true rfl) dL_law_2254 ⟨by omega, by omega⟩ (fun H locs hI hS => ?_)
  refine lv_iload hx hb dL_law_2257 (lv_at hl 1 rfl) ?_
  refine lv_icmp_eq (tgt := 2264) hx hb dL_law_2259 (by decide) (fun _ => ?_) (fun z => absurd h6 z)
  refine lv_iload hx hb dL_law_2264 (lv_at hl 1 rfl) ?_
  refine lv_if_ne (tgt := 2281) hx hb dL_law_2266 (by decide) (fun _ => ?_) (fun z => ?_)
  · refine lv_goto (tgt := 3665) hx hb dL_law_2281 (by decide) ?_
    exact lk_end kk (by omega) (by omega) hR' hcap hI hS (lv_sub hl [2, 3, 4, 5, 6, 7] rfl)
  · refine lv_aload_n hx hb dL_law_2269 rfl (lv_at hl 4 rfl) ?_
    refine lv_iconst (v := 0) hx hb dL_law_2270 (by decide) ?_
    refine gl_lald hC hI.2.2.1 dL_law_2271 ?_
    rw [upI_0 (h0 z)]
    refine lv_iload hx hb dL_law_2272 (lv_at hl 0 rfl) ?_
    refine lv_i2l hx hb dL_law_2274 rfl ?_
    refine W.lcmp hx hb dL_law_2275 ?_
    rw [lg_cmp_self]
    refine lv_if_eq (tgt := 2281) hx hb dL_law_2276 (by decide) (fun _ => ?_) (fun z => absurd rfl z)
    refine lv_goto (tgt := 3665) hx hb dL_law_2281 (by decide) ?_
    exact lk_end kk (by omega) (by omega) hR' hcap hI hS (lv_sub hl [2, 3, 4, 5, 6, 7] rfl)
set_option maxHeartbeats 4000000 in
set_option maxRecDepth 100000 in
theorem op_31 {p : Program} {l : Launch} {e : Env} {s : State} {m : MethodId} {below : List Frame} {meth : Method} {c : Code} {b L : Nat} {xs : Nat → Int32} {D : va_G} {T : Nat → ClassId} {B N j cells slots : Nat} {Q : State → Prop} {μ ν : Mem} {cap : Nat} {t : List Nat} {f : Nat → Int64} {g : Nat → UInt64} {H : Heap} {locs : List Loc} {ls : Array Slot} (F : FX l s b D T B) (hN : 1200000000000 ≤ N) (hNP : ∀ x ds, dcN x = some ds → NumP N x ds) (C0 : lw_At p s m meth c b L xs) (hL : L ≤ 2560) (hj : 5 * j + 5 ≤ L) (hR : RR μ ν 0 t) (hcap : cap ≤ 70) (hI : LI s D T B μ cap t ν f g H) (hS : va_S (AL B) s.heap H locs) (hl : lv_has ls 9 (LV b B (nI (5 * j)))) (hce : cells + 1450 ≤ room_1.cells) (hsl : slots + 13186 ≤ room_1.slots) (kk : LK p l e s m b below meth c D T B j cells slots Q) : W p l e room_1 s m #[.ref b] below meth c H locs cells slots Q (F0 m 2284 ls []) := by
  obtain ⟨hx, hb, hr, hml, hown, hts, hX, hbl, hlocks, hgv⟩ := C0
  have hC : gC p c code s m #[.ref b] RL D vwCl (tysG T) := ⟨hx, hb, hown, fun w hw => hts w (wg_tbl hw), F.2.2.2.1⟩
  have hbA : ¬ AL B b := Nat.not_le.mpr (Nat.lt_of_lt_of_le hbl F.2.2.2.2)
  obtain ⟨r, hf, r', hf', hR', hSm⟩ := (q_leastPassed (by omega) hR : Ok (fX10_leastPassed N μ 0 (xs (nI (5 * j) + 1).toNatClampNeg) (xs (nI (5 * j) + 2).toNatClampNeg)) _)
  obtain ⟨h6, h0⟩ := Sm_k hSm (by decide) (by decide)
  refine lv_aload_n hx hb dL_law_2284 rfl (lv_at hl 4 rfl) ?_
  refine lv_aload_n hx hb dL_law_2285 rfl (lv_at hl 5 rfl) ?_
  refine lv_iload hx hb dL_law_2286 (lv_at hl 0 rfl) ?_
  refine lv_iconst (v := 1) hx hb dL_law_2288 (by decide) ?_
  refine lv_iadd hx hb dL_law_2289 ?_
  refine va_sld hx hb hX hbl hbA hS (sc_in 1 hj hL (by decide)) dL_law_2290 ?_
  refine lv_aload_n hx hb dL_law_2291 rfl (lv_at hl 5 rfl) ?_
  refine lv_iload hx hb dL_law_2292 (lv_at hl 0 rfl) ?_
  refine lv_iconst (v := 2) hx hb dL_law_2294 (by decide) ?_
  refine lv_iadd hx hb dL_law_2295 ?_
  refine va_sld hx hb hX hbl hbA hS (sc_in 2 hj hL (by decide)) dL_law_2296 ?_
  refine lv_aload_n hx hb dL_law_2297 rfl (lv_at hl 2 rfl) ?_
  refine gl_wr (As := [.ref (B + 0), .int (xs (nI (5 * j) + 1).toNatClampNeg), .int (xs (nI (5 * j) + 2).toNatClampNeg), .ref (B + 574)]) (rest := []) F hC hml hS hI (metL_leastPassed F Xc_g Xc_ob hf (Sm2 hSm)) mw_L_296 ⟨rfl, rfl, (Nat.le_of_ble_eq_true rfl), (Nat.le_of_ble_eq_true rfl)⟩ rfl hl.1 rfl (Nat.le_of_ble_eq_true rfl) dL_law_2298 ⟨by omega, by omega⟩ (fun H locs hI hS => ?_)
  refine lv_istore (lv' := [(6, .int (kL [0, 3] r.2)), (5, .int (nI (5 * j))), (4, .ref (B + 575)), (3, .ref (B + 574)), (2, .ref (B + 562 + 0)), (1, .ref (B + 0)), (0, .ref b)]) hx hb dL_law_2301 hl (by decide) rfl (fun ls hl => ?_)
  refine lv_aload_n hx hb dL_law_2303 rfl (lv_at hl 4 rfl) ?_
  refine lv_aload_n hx hb dL_law_2304 rfl (lv_at hl 6 rfl) ?_
  refine lv_iload hx hb dL_law_2305 (lv_at hl 1 rfl) ?_
  refine lv_iconst (v := 1) hx hb dL_law_2307 (by decide) ?_
  refine lv_iadd hx hb dL_law_2308 ?_
  refine va_sld hx hb hX hbl hbA hS (sc_in 1 hj hL (by decide)) dL_law_2309 ?_
  refine lv_aload_n hx hb dL_law_2310 rfl (lv_at hl 6 rfl) ?_
  refine lv_iload hx hb dL_law_2311 (lv_at hl 1 rfl) ?_
  refine lv_iconst (v := 2) hx hb dL_law_2313 (by decide) ?_
  refine lv_iadd hx hb dL_law_2314 ?_
  refine va_sld hx hb hX hbl hbA hS (sc_in 2 hj hL (by decide)) dL_law_2315 ?_
  refine gl_mo (As := [.int (xs (nI (5 * j) + 1).toNatClampNeg), .int (xs (nI (5 * j) + 2).toNatClampNeg)]) (rest := []) F hC hml hS hI (fun X hX9 => metX11_leastPassed (FX_at F (by have := F.2.2.2.2; omega)) hX9 is_Mo hf') ml_L_298 rfl ⟨rfl, rfl, (Nat.le_of_ble_eq_true rfl), (Nat.le_of_ble_eq_true rfl)⟩ rfl hl.1 rfl (Nat.le_of_ble_eq_true rfl) dL_law_2316 ⟨by omega, by omega⟩ (fun H locs hI hS => ?_)
  refine lv_istore (lv' := [(7, .int r'.2), (6, .int (kL [0, 3] r.2)), (5, .int (nI (5 * j))), (4, .ref (B + 575)), (3, .ref (B + 574)), (2, .ref (B + 562 + 0)), (1, .ref (B + 0)), (0, .ref b)]) hx hb dL_law_2319 hl (by decide) rfl (fun ls hl => ?_)
  refine lv_aload_n hx hb dL_law_2321 rfl (lv_at hl 5 rfl) ?_
  refine gl_mo (As := []) (rest := []) F hC hml hS hI (fun X hX9 => metX11_thrown (N := N) (r := r'.1 0 6) (FX_at F (by have := F.2.2.2.2; omega)) hX9 is_Mo rfl) ml_L_198 rfl ⟨rfl, rfl, (Nat.le_of_ble_eq_true rfl), (Nat.le_of_ble_eq_true rfl)⟩ rfl hl.1 rfl (Nat.le_of_ble_eq_true rfl) dL_law_2322 ⟨by omega, by omega⟩ (fun H locs hI hS => ?_)
  refine lv_iload hx hb dL_law_2325 (lv_at hl 1 rfl) ?_
  refine lv_icmp_eq (tgt := 2332) hx hb dL_law_2327 (by decide) (fun _ => ?_) (fun z => absurd h6 z)
  refine lv_iload hx hb dL_law_2332 (lv_at hl 1 rfl) ?_
  refine lv_if_ne (tgt := 2349) hx hb dL_law_2334 (by decide) (fun _ => ?_) (fun z => ?_)
  · refine lv_goto (tgt := 3665) hx hb dL_law_2349 (by decide) ?_
    exact lk_end kk (by omega) (by omega) hR' hcap hI hS (lv_sub hl [2, 3, 4, 5, 6, 7] rfl)
  · refine lv_aload_n hx hb dL_law_2337 rfl (lv_at hl 4 rfl) ?_
    refine lv_iconst (v := 0) hx hb dL_law_2338 (by decide) ?_
    refine gl_lald hC hI.2.2.1 dL_law_2339 ?_
    rw [upI_0 (h0 z)]
    refine lv_iload hx hb dL_law_2340 (lv_at hl 0 rfl) ?_
    refine lv_i2l hx hb dL_law_2342 rfl ?_
    refine W.lcmp hx hb dL_law_2343 ?_
    rw [lg_cmp_self]
    refine lv_if_eq (tgt := 2349) hx hb dL_law_2344 (by decide) (fun _ => ?_) (fun z => absurd rfl z)
    refine lv_goto (tgt := 3665) hx hb dL_law_2349 (by decide) ?_
    exact lk_end kk (by omega) (by omega) hR' hcap hI hS (lv_sub hl [2, 3, 4, 5, 6, 7] rfl)
set_option maxHeartbeats 4000000 in
set_option maxRecDepth 100000 in
theorem op_32 {p : Program} {l : Launch} {e : Env} {s : State} {m : MethodId} {below : List Frame} {meth : Method} {c : Code} {b L : Nat} {xs : Nat → Int32} {D : va_G} {T : Nat → ClassId} {B N j cells slots : Nat} {Q : State → Prop} {μ ν : Mem} {cap : Nat} {t : List Nat} {f : Nat → Int64} {g : Nat → UInt64} {H : Heap} {locs : List Loc} {ls : Array Slot} (F : FX l s b D T B) (hN : 1200000000000 ≤ N) (hNP : ∀ x ds, dcN x = some ds → NumP N x ds) (C0 : lw_At p s m meth c b L xs) (hL : L ≤ 2560) (hj : 5 * j + 5 ≤ L) (hR : RR μ ν 0 t) (hcap : cap ≤ 70) (hI : LI s D T B μ cap t ν f g H) (hS : va_S (AL B) s.heap H locs) (hl : lv_has ls 9 (LV b B (nI (5 * j)))) (hce : cells + 1450 ≤ room_1.cells) (hsl : slots + 13186 ≤ room_1.slots) (kk : LK p l e s m b below meth c D T B j cells slots Q) : W p l e room_1 s m #[.ref b] below meth c H locs cells slots Q (F0 m 2352 ls []) := by
  obtain ⟨hx, hb, hr, hml, hown, hts, hX, hbl, hlocks, hgv⟩ := C0
  have hC : gC p c code s m #[.ref b] RL D vwCl (tysG T) := ⟨hx, hb, hown, fun w hw => hts w (wg_tbl hw), F.2.2.2.1⟩
  have hbA : ¬ AL B b := Nat.not_le.mpr (Nat.lt_of_lt_of_le hbl F.2.2.2.2)
  obtain ⟨r, hf, r', hf', hR', hSm⟩ := (q_leastPassedByRounds (by omega) hR : Ok (fX10_leastPassedByRounds N μ 0 (xs (nI (5 * j) + 1).toNatClampNeg) (xs (nI (5 * j) + 2).toNatClampNeg)) _)
  obtain ⟨h6, h0⟩ := Sm_k hSm (by decide) (by decide)
  refine lv_aload_n hx hb dL_law_2352 rfl (lv_at hl 4 rfl) ?_
  refine lv_aload_n hx hb dL_law_2353 rfl (lv_at hl 5 rfl) ?_
  refine lv_iload hx hb dL_law_2354 (lv_at hl 0 rfl) ?_
  refine lv_iconst (v := 1) hx hb dL_law_2356 (by decide) ?_
  refine lv_iadd hx hb dL_law_2357 ?_
  refine va_sld hx hb hX hbl hbA hS (sc_in 1 hj hL (by decide)) dL_law_2358 ?_
  refine lv_aload_n hx hb dL_law_2359 rfl (lv_at hl 5 rfl) ?_
  refine lv_iload hx hb dL_law_2360 (lv_at hl 0 rfl) ?_
  refine lv_iconst (v := 2) hx hb dL_law_2362 (by decide) ?_
  refine lv_iadd hx hb dL_law_2363 ?_
  refine va_sld hx hb hX hbl hbA hS (sc_in 2 hj hL (by decide)) dL_law_2364 ?_
  refine lv_aload_n hx hb dL_law_2365 rfl (lv_at hl 2 rfl) ?_
  refine gl_wr (As := [.ref (B + 0), .int (xs (nI (5 * j) + 1).toNatClampNeg), .int (xs (nI (5 * j) + 2).toNatClampNeg), .ref (B + 574)]) (rest := []) F hC hml hS hI (metL_leastPassedByRounds F Xc_g Xc_ob hf (Sm2 hSm)) mw_L_299 ⟨rfl, rfl, (Nat.le_of_ble_eq_true rfl), (Nat.le_of_ble_eq_true rfl)⟩ rfl hl.1 rfl (Nat.le_of_ble_eq_true rfl) dL_law_2366 ⟨by omega, by omega⟩ (fun H locs hI hS => ?_)
  refine lv_istore (lv' := [(6, .int (kL [0, 3] r.2)), (5, .int (nI (5 * j))), (4, .ref (B + 575)), (3, .ref (B + 574)), (2, .ref (B + 562 + 0)), (1, .ref (B + 0)), (0, .ref b)]) hx hb dL_law_2369 hl (by decide) rfl (fun ls hl => ?_)
  refine lv_aload_n hx hb dL_law_2371 rfl (lv_at hl 4 rfl) ?_
  refine lv_aload_n hx hb dL_law_2372 rfl (lv_at hl 6 rfl) ?_
  refine lv_iload hx hb dL_law_2373 (lv_at hl 1 rfl) ?_
  refine lv_iconst (v := 1) hx hb dL_law_2375 (by decide) ?_
  refine lv_iadd hx hb dL_law_2376 ?_
  refine va_sld hx hb hX hbl hbA hS (sc_in 1 hj hL (by decide)) dL_law_2377 ?_
  refine lv_aload_n hx hb dL_law_2378 rfl (lv_at hl 6 rfl) ?_
  refine lv_iload hx hb dL_law_2379 (lv_at hl 1 rfl) ?_
  refine lv_iconst (v := 2) hx hb dL_law_2381 (by decide) ?_
  refine lv_iadd hx hb dL_law_2382 ?_
  refine va_sld hx hb hX hbl hbA hS (sc_in 2 hj hL (by decide)) dL_law_2383 ?_
  refine gl_mo (As := [.int (xs (nI (5 * j) + 1).toNatClampNeg), .int (xs (nI (5 * j) + 2).toNatClampNeg)]) (rest := []) F hC hml hS hI (fun X hX9 => metX11_leastPassedByRounds (FX_at F (by have := F.2.2.2.2; omega)) hX9 is_Mo hf') ml_L_301 rfl ⟨rfl, rfl, (Nat.le_of_ble_eq_true rfl), (Nat.le_of_ble_eq_true rfl)⟩ rfl hl.1 rfl (Nat.le_of_ble_eq_true rfl) dL_law_2384 ⟨by omega, by omega⟩ (fun H locs hI hS => ?_)
  refine lv_istore (lv' := [(7, .int r'.2), (6, .int (kL [0, 3] r.2)), (5, .int (nI (5 * j))), (4, .ref (B + 575)), (3, .ref (B + 574)), (2, .ref (B + 562 + 0)), (1, .ref (B + 0)), (0, .ref b)]) hx hb dL_law_2387 hl (by decide) rfl (fun ls hl => ?_)
  refine lv_aload_n hx hb dL_law_2389 rfl (lv_at hl 5 rfl) ?_
  refine gl_mo (As := []) (rest := []) F hC hml hS hI (fun X hX9 => metX11_thrown (N := N) (r := r'.1 0 6) (FX_at F (by have := F.2.2.2.2; omega)) hX9 is_Mo rfl) ml_L_198 rfl ⟨rfl, rfl, (Nat.le_of_ble_eq_true rfl), (Nat.le_of_ble_eq_true rfl)⟩ rfl hl.1 rfl (Nat.le_of_ble_eq_true rfl) dL_law_2390 ⟨by omega, by omega⟩ (fun H locs hI hS => ?_)
  refine lv_iload hx hb dL_law_2393 (lv_at hl 1 rfl) ?_
  refine lv_icmp_eq (tgt := 2400) hx hb dL_law_2395 (by decide) (fun _ => ?_) (fun z => absurd h6 z)
  refine lv_iload hx hb dL_law_2400 (lv_at hl 1 rfl) ?_
  refine lv_if_ne (tgt := 2417) hx hb dL_law_2402 (by decide) (fun _ => ?_) (fun z => ?_)
  · refine lv_goto (tgt := 3665) hx hb dL_law_2417 (by decide) ?_
    exact lk_end kk (by omega) (by omega) hR' hcap hI hS (lv_sub hl [2, 3, 4, 5, 6, 7] rfl)
  · refine lv_aload_n hx hb dL_law_2405 rfl (lv_at hl 4 rfl) ?_
    refine lv_iconst (v := 0) hx hb dL_law_2406 (by decide) ?_
    refine gl_lald hC hI.2.2.1 dL_law_2407 ?_
    rw [upI_0 (h0 z)]
    refine lv_iload hx hb dL_law_2408 (lv_at hl 0 rfl) ?_
    refine lv_i2l hx hb dL_law_2410 rfl ?_
    refine W.lcmp hx hb dL_law_2411 ?_
    rw [lg_cmp_self]
    refine lv_if_eq (tgt := 2417) hx hb dL_law_2412 (by decide) (fun _ => ?_) (fun z => absurd rfl z)
    refine lv_goto (tgt := 3665) hx hb dL_law_2417 (by decide) ?_
    exact lk_end kk (by omega) (by omega) hR' hcap hI hS (lv_sub hl [2, 3, 4, 5, 6, 7] rfl)
set_option maxHeartbeats 4000000 in
set_option maxRecDepth 100000 in
theorem op_33 {p : Program} {l : Launch} {e : Env} {s : State} {m : MethodId} {below : List Frame} {meth : Method} {c : Code} {b L : Nat} {xs : Nat → Int32} {D : va_G} {T : Nat → ClassId} {B N j cells slots : Nat} {Q : State → Prop} {μ ν : Mem} {cap : Nat} {t : List Nat} {f : Nat → Int64} {g : Nat → UInt64} {H : Heap} {locs : List Loc} {ls : Array Slot} (F : FX l s b D T B) (hN : 1200000000000 ≤ N) (hNP : ∀ x ds, dcN x = some ds → NumP N x ds) (C0 : lw_At p s m meth c b L xs) (hL : L ≤ 2560) (hj : 5 * j + 5 ≤ L) (hR : RR μ ν 0 t) (hcap : cap ≤ 70) (hI : LI s D T B μ cap t ν f g H) (hS : va_S (AL B) s.heap H locs) (hl : lv_has ls 9 (LV b B (nI (5 * j)))) (hce : cells + 1450 ≤ room_1.cells) (hsl : slots + 13186 ≤ room_1.slots) (kk : LK p l e s m b below meth c D T B j cells slots Q) : W p l e room_1 s m #[.ref b] below meth c H locs cells slots Q (F0 m 2420 ls []) := by
  obtain ⟨hx, hb, hr, hml, hown, hts, hX, hbl, hlocks, hgv⟩ := C0
  have hC : gC p c code s m #[.ref b] RL D vwCl (tysG T) := ⟨hx, hb, hown, fun w hw => hts w (wg_tbl hw), F.2.2.2.1⟩
  have hbA : ¬ AL B b := Nat.not_le.mpr (Nat.lt_of_lt_of_le hbl F.2.2.2.2)
  obtain ⟨r, hf, r', hf', hR', hSm⟩ := (o_passDays (by omega) hR : Ok (fX10_passDays N μ 0 (xs (nI (5 * j) + 1).toNatClampNeg)) _)
  obtain ⟨h6, h0⟩ := Sm_k hSm (by decide) (by decide)
  refine lv_aload_n hx hb dL_law_2420 rfl (lv_at hl 4 rfl) ?_
  refine lv_aload_n hx hb dL_law_2421 rfl (lv_at hl 5 rfl) ?_
  refine lv_iload hx hb dL_law_2422 (lv_at hl 0 rfl) ?_
  refine lv_iconst (v := 1) hx hb dL_law_2424 (by decide) ?_
  refine lv_iadd hx hb dL_law_2425 ?_
  refine va_sld hx hb hX hbl hbA hS (sc_in 1 hj hL (by decide)) dL_law_2426 ?_
  refine lv_aload_n hx hb dL_law_2427 rfl (lv_at hl 2 rfl) ?_
  refine gl_wr (As := [.ref (B + 0), .int (xs (nI (5 * j) + 1).toNatClampNeg), .ref (B + 574)]) (rest := []) F hC hml hS hI (metL_passDays F Xc_g Xc_ob hf (Sm1 hSm)) mw_L_302 ⟨rfl, rfl, (Nat.le_of_ble_eq_true rfl), (Nat.le_of_ble_eq_true rfl)⟩ rfl hl.1 rfl (Nat.le_of_ble_eq_true rfl) dL_law_2428 ⟨by omega, by omega⟩ (fun H locs hI hS => ?_)
  refine lv_istore (lv' := [(6, .int (kL [1] r.2)), (5, .int (nI (5 * j))), (4, .ref (B + 575)), (3, .ref (B + 574)), (2, .ref (B + 562 + 0)), (1, .ref (B + 0)), (0, .ref b)]) hx hb dL_law_2431 hl (by decide) rfl (fun ls hl => ?_)
  refine lv_aload_n hx hb dL_law_2433 rfl (lv_at hl 4 rfl) ?_
  refine lv_aload_n hx hb dL_law_2434 rfl (lv_at hl 6 rfl) ?_
  refine lv_iload hx hb dL_law_2435 (lv_at hl 1 rfl) ?_
  refine lv_iconst (v := 1) hx hb dL_law_2437 (by decide) ?_
  refine lv_iadd hx hb dL_law_2438 ?_
  refine va_sld hx hb hX hbl hbA hS (sc_in 1 hj hL (by decide)) dL_law_2439 ?_
  refine gl_mo (As := [.int (xs (nI (5 * j) + 1).toNatClampNeg)]) (rest := []) F hC hml hS hI (fun X hX9 => metX11_passDays (FX_at F (by have := F.2.2.2.2; omega)) hX9 is_Mo hf') ml_L_304 rfl ⟨rfl, rfl, (Nat.le_of_ble_eq_true rfl), (Nat.le_of_ble_eq_true rfl)⟩ rfl hl.1 rfl (Nat.le_of_ble_eq_true rfl) dL_law_2440 ⟨by omega, by omega⟩ (fun H locs hI hS => ?_)
  refine lv_istore (lv' := [(7, .int r'.2), (6, .int (kL [1] r.2)), (5, .int (nI (5 * j))), (4, .ref (B + 575)), (3, .ref (B + 574)), (2, .ref (B + 562 + 0)), (1, .ref (B + 0)), (0, .ref b)]) hx hb dL_law_2443 hl (by decide) rfl (fun ls hl => ?_)
  refine lv_aload_n hx hb dL_law_2445 rfl (lv_at hl 5 rfl) ?_
  refine gl_mo (As := []) (rest := []) F hC hml hS hI (fun X hX9 => metX11_thrown (N := N) (r := r'.1 0 6) (FX_at F (by have := F.2.2.2.2; omega)) hX9 is_Mo rfl) ml_L_198 rfl ⟨rfl, rfl, (Nat.le_of_ble_eq_true rfl), (Nat.le_of_ble_eq_true rfl)⟩ rfl hl.1 rfl (Nat.le_of_ble_eq_true rfl) dL_law_2446 ⟨by omega, by omega⟩ (fun H locs hI hS => ?_)
  refine lv_iload hx hb dL_law_2449 (lv_at hl 1 rfl) ?_
  refine lv_icmp_eq (tgt := 2456) hx hb dL_law_2451 (by decide) (fun _ => ?_) (fun z => absurd h6 z)
  refine lv_iload hx hb dL_law_2456 (lv_at hl 1 rfl) ?_
  refine lv_if_ne (tgt := 2473) hx hb dL_law_2458 (by decide) (fun _ => ?_) (fun z => ?_)
  · refine lv_goto (tgt := 3665) hx hb dL_law_2473 (by decide) ?_
    exact lk_end kk (by omega) (by omega) hR' hcap hI hS (lv_sub hl [2, 3, 4, 5, 6, 7] rfl)
  · refine lv_aload_n hx hb dL_law_2461 rfl (lv_at hl 4 rfl) ?_
    refine lv_iconst (v := 0) hx hb dL_law_2462 (by decide) ?_
    refine gl_lald hC hI.2.2.1 dL_law_2463 ?_
    rw [upI_0 (h0 z)]
    refine lv_iload hx hb dL_law_2464 (lv_at hl 0 rfl) ?_
    refine lv_i2l hx hb dL_law_2466 rfl ?_
    refine W.lcmp hx hb dL_law_2467 ?_
    rw [lg_cmp_self]
    refine lv_if_eq (tgt := 2473) hx hb dL_law_2468 (by decide) (fun _ => ?_) (fun z => absurd rfl z)
    refine lv_goto (tgt := 3665) hx hb dL_law_2473 (by decide) ?_
    exact lk_end kk (by omega) (by omega) hR' hcap hI hS (lv_sub hl [2, 3, 4, 5, 6, 7] rfl)
set_option maxHeartbeats 4000000 in
set_option maxRecDepth 100000 in
theorem op_34 {p : Program} {l : Launch} {e : Env} {s : State} {m : MethodId} {below : List Frame} {meth : Method} {c : Code} {b L : Nat} {xs : Nat → Int32} {D : va_G} {T : Nat → ClassId} {B N j cells slots : Nat} {Q : State → Prop} {μ ν : Mem} {cap : Nat} {t : List Nat} {f : Nat → Int64} {g : Nat → UInt64} {H : Heap} {locs : List Loc} {ls : Array Slot} (F : FX l s b D T B) (hN : 1200000000000 ≤ N) (hNP : ∀ x ds, dcN x = some ds → NumP N x ds) (C0 : lw_At p s m meth c b L xs) (hL : L ≤ 2560) (hj : 5 * j + 5 ≤ L) (hR : RR μ ν 0 t) (hcap : cap ≤ 70) (hI : LI s D T B μ cap t ν f g H) (hS : va_S (AL B) s.heap H locs) (hl : lv_has ls 9 (LV b B (nI (5 * j)))) (hce : cells + 1450 ≤ room_1.cells) (hsl : slots + 13186 ≤ room_1.slots) (kk : LK p l e s m b below meth c D T B j cells slots Q) : W p l e room_1 s m #[.ref b] below meth c H locs cells slots Q (F0 m 2476 ls []) := by
  obtain ⟨hx, hb, hr, hml, hown, hts, hX, hbl, hlocks, hgv⟩ := C0
  have hC : gC p c code s m #[.ref b] RL D vwCl (tysG T) := ⟨hx, hb, hown, fun w hw => hts w (wg_tbl hw), F.2.2.2.1⟩
  have hbA : ¬ AL B b := Nat.not_le.mpr (Nat.lt_of_lt_of_le hbl F.2.2.2.2)
  obtain ⟨r, hf, r', hf', hR', he⟩ := (q_day hR : Ok (fX10_day N μ 0) _)
  refine lv_aload_n hx hb dL_law_2476 rfl (lv_at hl 4 rfl) ?_
  refine gl_cl (As := []) (rest := []) F hC hml hS hI (fun X hX9 => metX10_day F hX9 is_Ga hf) ml_L_305 rfl ⟨rfl, rfl, (Nat.le_of_ble_eq_true rfl), (Nat.le_of_ble_eq_true rfl)⟩ rfl hl.1 rfl (Nat.le_of_ble_eq_true rfl) dL_law_2477 ⟨by omega, by omega⟩ (fun H locs hI hS => ?_)
  refine lv_aload_n hx hb dL_law_2480 rfl (lv_at hl 3 rfl) ?_
  refine gl_mo (As := []) (rest := [.int r]) F hC hml hS hI (fun X hX9 => metX11_day (FX_at F (by have := F.2.2.2.2; omega)) hX9 is_Mo hf') ml_L_308 rfl ⟨rfl, rfl, (Nat.le_of_ble_eq_true rfl), (Nat.le_of_ble_eq_true rfl)⟩ rfl hl.1 rfl (Nat.le_of_ble_eq_true rfl) dL_law_2481 ⟨by omega, by omega⟩ (fun H locs hI hS => ?_)
  refine lv_icmp_eq (tgt := 3665) hx hb dL_law_2484 (by decide) (fun _ => ?_) (fun z => absurd he.symm z)
  exact lk_end kk (by omega) (by omega) hR' hcap hI hS hl
set_option maxHeartbeats 4000000 in
set_option maxRecDepth 100000 in
theorem op_35 {p : Program} {l : Launch} {e : Env} {s : State} {m : MethodId} {below : List Frame} {meth : Method} {c : Code} {b L : Nat} {xs : Nat → Int32} {D : va_G} {T : Nat → ClassId} {B N j cells slots : Nat} {Q : State → Prop} {μ ν : Mem} {cap : Nat} {t : List Nat} {f : Nat → Int64} {g : Nat → UInt64} {H : Heap} {locs : List Loc} {ls : Array Slot} (F : FX l s b D T B) (hN : 1200000000000 ≤ N) (hNP : ∀ x ds, dcN x = some ds → NumP N x ds) (C0 : lw_At p s m meth c b L xs) (hL : L ≤ 2560) (hj : 5 * j + 5 ≤ L) (hR : RR μ ν 0 t) (hcap : cap ≤ 70) (hI : LI s D T B μ cap t ν f g H) (hS : va_S (AL B) s.heap H locs) (hl : lv_has ls 9 (LV b B (nI (5 * j)))) (hce : cells + 1450 ≤ room_1.cells) (hsl : slots + 13186 ≤ room_1.slots) (kk : LK p l e s m b below meth c D T B j cells slots Q) : W p l e room_1 s m #[.ref b] below meth c H locs cells slots Q (F0 m 2489 ls []) := by
  obtain ⟨hx, hb, hr, hml, hown, hts, hX, hbl, hlocks, hgv⟩ := C0
  have hC : gC p c code s m #[.ref b] RL D vwCl (tysG T) := ⟨hx, hb, hown, fun w hw => hts w (wg_tbl hw), F.2.2.2.1⟩
  have hbA : ¬ AL B b := Nat.not_le.mpr (Nat.lt_of_lt_of_le hbl F.2.2.2.2)
  obtain ⟨r, hf, r', hf', hR', hSm⟩ := (o_ask (by omega) hR : Ok (fX10_ask N μ 0 (xs (nI (5 * j) + 1).toNatClampNeg) (xs (nI (5 * j) + 2).toNatClampNeg) (xs (nI (5 * j) + 3).toNatClampNeg) (xs (nI (5 * j) + 4).toNatClampNeg)) _)
  obtain ⟨h6, h0⟩ := Sm_k hSm (by decide) (by decide)
  refine lv_aload_n hx hb dL_law_2489 rfl (lv_at hl 4 rfl) ?_
  refine lv_aload_n hx hb dL_law_2490 rfl (lv_at hl 5 rfl) ?_
  refine lv_iload hx hb dL_law_2491 (lv_at hl 0 rfl) ?_
  refine lv_iconst (v := 1) hx hb dL_law_2493 (by decide) ?_
  refine lv_iadd hx hb dL_law_2494 ?_
  refine va_sld hx hb hX hbl hbA hS (sc_in 1 hj hL (by decide)) dL_law_2495 ?_
  refine lv_aload_n hx hb dL_law_2496 rfl (lv_at hl 5 rfl) ?_
  refine lv_iload hx hb dL_law_2497 (lv_at hl 0 rfl) ?_
  refine lv_iconst (v := 2) hx hb dL_law_2499 (by decide) ?_
  refine lv_iadd hx hb dL_law_2500 ?_
  refine va_sld hx hb hX hbl hbA hS (sc_in 2 hj hL (by decide)) dL_law_2501 ?_
  refine lv_aload_n hx hb dL_law_2502 rfl (lv_at hl 5 rfl) ?_
  refine lv_iload hx hb dL_law_2503 (lv_at hl 0 rfl) ?_
  refine lv_iconst (v := 3) hx hb dL_law_2505 (by decide) ?_
  refine lv_iadd hx hb dL_law_2506 ?_
  refine va_sld hx hb hX hbl hbA hS (sc_in 3 hj hL (by decide)) dL_law_2507 ?_
  refine lv_aload_n hx hb dL_law_2508 rfl (lv_at hl 5 rfl) ?_
  refine lv_iload hx hb dL_law_2509 (lv_at hl 0 rfl) ?_
  refine lv_iconst (v := 4) hx hb dL_law_2511 (by decide) ?_
  refine lv_iadd hx hb dL_law_2512 ?_
  refine va_sld hx hb hX hbl hbA hS (sc_in 4 hj hL (by decide)) dL_law_2513 ?_
  refine lv_aload_n hx hb dL_law_2514 rfl (lv_at hl 2 rfl) ?_
  refine gl_wr (As := [.ref (B + 0), .int (xs (nI (5 * j) + 1).toNatClampNeg), .int (xs (nI (5 * j) + 2).toNatClampNeg), .int (xs (nI (5 * j) + 3).toNatClampNeg), .int (xs (nI (5 * j) + 4).toNatClampNeg), .ref (B + 574)]) (rest := []) F hC hml hS hI (metL_ask F Xc_g Xc_ob hf (Sm3 hSm)) mw_L_309 ⟨rfl, rfl, (Nat.le_of_ble_eq_true rfl), (Nat.le_of_ble_eq_true rfl)⟩ rfl hl.1 rfl (Nat.le_of_ble_eq_true rfl) dL_law_2515 ⟨by omega, by omega⟩ (fun H locs hI hS => ?_)
  refine lv_istore (lv' := [(6, .int (kL [0, 1, 2] r.2)), (5, .int (nI (5 * j))), (4, .ref (B + 575)), (3, .ref (B + 574)), (2, .ref (B + 562 + 0)), (1, .ref (B + 0)), (0, .ref b)]) hx hb dL_law_2518 hl (by decide) rfl (fun ls hl => ?_)
  refine lv_aload_n hx hb dL_law_2520 rfl (lv_at hl 4 rfl) ?_
  refine lv_aload_n hx hb dL_law_2521 rfl (lv_at hl 6 rfl) ?_
  refine lv_iload hx hb dL_law_2522 (lv_at hl 1 rfl) ?_
  refine lv_iconst (v := 1) hx hb dL_law_2524 (by decide) ?_
  refine lv_iadd hx hb dL_law_2525 ?_
  refine va_sld hx hb hX hbl hbA hS (sc_in 1 hj hL (by decide)) dL_law_2526 ?_
  refine lv_aload_n hx hb dL_law_2527 rfl (lv_at hl 6 rfl) ?_
  refine lv_iload hx hb dL_law_2528 (lv_at hl 1 rfl) ?_
  refine lv_iconst (v := 2) hx hb dL_law_2530 (by decide) ?_
  refine lv_iadd hx hb dL_law_2531 ?_
  refine va_sld hx hb hX hbl hbA hS (sc_in 2 hj hL (by decide)) dL_law_2532 ?_
  refine lv_aload_n hx hb dL_law_2533 rfl (lv_at hl 6 rfl) ?_
  refine lv_iload hx hb dL_law_2534 (lv_at hl 1 rfl) ?_
  refine lv_iconst (v := 3) hx hb dL_law_2536 (by decide) ?_
  refine lv_iadd hx hb dL_law_2537 ?_
  refine va_sld hx hb hX hbl hbA hS (sc_in 3 hj hL (by decide)) dL_law_2538 ?_
  refine lv_aload_n hx hb dL_law_2539 rfl (lv_at hl 6 rfl) ?_
  refine lv_iload hx hb dL_law_2540 (lv_at hl 1 rfl) ?_
  refine lv_iconst (v := 4) hx hb dL_law_2542 (by decide) ?_
  refine lv_iadd hx hb dL_law_2543 ?_
  refine va_sld hx hb hX hbl hbA hS (sc_in 4 hj hL (by decide)) dL_law_2544 ?_
  refine gl_mo (As := [.int (xs (nI (5 * j) + 1).toNatClampNeg), .int (xs (nI (5 * j) + 2).toNatClampNeg), .int (xs (nI (5 * j) + 3).toNatClampNeg), .int (xs (nI (5 * j) + 4).toNatClampNeg)]) (rest := []) F hC hml hS hI (fun X hX9 => metX11_ask (FX_at F (by have := F.2.2.2.2; omega)) hX9 is_Mo hf') ml_L_311 rfl ⟨rfl, rfl, (Nat.le_of_ble_eq_true rfl), (Nat.le_of_ble_eq_true rfl)⟩ rfl hl.1 rfl (Nat.le_of_ble_eq_true rfl) dL_law_2545 ⟨by omega, by omega⟩ (fun H locs hI hS => ?_)
  refine lv_istore (lv' := [(7, .int r'.2), (6, .int (kL [0, 1, 2] r.2)), (5, .int (nI (5 * j))), (4, .ref (B + 575)), (3, .ref (B + 574)), (2, .ref (B + 562 + 0)), (1, .ref (B + 0)), (0, .ref b)]) hx hb dL_law_2548 hl (by decide) rfl (fun ls hl => ?_)
  refine lv_aload_n hx hb dL_law_2550 rfl (lv_at hl 5 rfl) ?_
  refine gl_mo (As := []) (rest := []) F hC hml hS hI (fun X hX9 => metX11_thrown (N := N) (r := r'.1 0 6) (FX_at F (by have := F.2.2.2.2; omega)) hX9 is_Mo rfl) ml_L_198 rfl ⟨rfl, rfl, (Nat.le_of_ble_eq_true rfl), (Nat.le_of_ble_eq_true rfl)⟩ rfl hl.1 rfl (Nat.le_of_ble_eq_true rfl) dL_law_2551 ⟨by omega, by omega⟩ (fun H locs hI hS => ?_)
  refine lv_iload hx hb dL_law_2554 (lv_at hl 1 rfl) ?_
  refine lv_icmp_eq (tgt := 2561) hx hb dL_law_2556 (by decide) (fun _ => ?_) (fun z => absurd h6 z)
  refine lv_iload hx hb dL_law_2561 (lv_at hl 1 rfl) ?_
  refine lv_if_ne (tgt := 2578) hx hb dL_law_2563 (by decide) (fun _ => ?_) (fun z => ?_)
  · refine lv_goto (tgt := 3665) hx hb dL_law_2578 (by decide) ?_
    exact lk_end kk (by omega) (by omega) hR' hcap hI hS (lv_sub hl [2, 3, 4, 5, 6, 7] rfl)
  · refine lv_aload_n hx hb dL_law_2566 rfl (lv_at hl 4 rfl) ?_
    refine lv_iconst (v := 0) hx hb dL_law_2567 (by decide) ?_
    refine gl_lald hC hI.2.2.1 dL_law_2568 ?_
    rw [upI_0 (h0 z)]
    refine lv_iload hx hb dL_law_2569 (lv_at hl 0 rfl) ?_
    refine lv_i2l hx hb dL_law_2571 rfl ?_
    refine W.lcmp hx hb dL_law_2572 ?_
    rw [lg_cmp_self]
    refine lv_if_eq (tgt := 2578) hx hb dL_law_2573 (by decide) (fun _ => ?_) (fun z => absurd rfl z)
    refine lv_goto (tgt := 3665) hx hb dL_law_2578 (by decide) ?_
    exact lk_end kk (by omega) (by omega) hR' hcap hI hS (lv_sub hl [2, 3, 4, 5, 6, 7] rfl)
set_option maxHeartbeats 4000000 in
set_option maxRecDepth 100000 in
theorem op_36 {p : Program} {l : Launch} {e : Env} {s : State} {m : MethodId} {below : List Frame} {meth : Method} {c : Code} {b L : Nat} {xs : Nat → Int32} {D : va_G} {T : Nat → ClassId} {B N j cells slots : Nat} {Q : State → Prop} {μ ν : Mem} {cap : Nat} {t : List Nat} {f : Nat → Int64} {g : Nat → UInt64} {H : Heap} {locs : List Loc} {ls : Array Slot} (F : FX l s b D T B) (hN : 1200000000000 ≤ N) (hNP : ∀ x ds, dcN x = some ds → NumP N x ds) (C0 : lw_At p s m meth c b L xs) (hL : L ≤ 2560) (hj : 5 * j + 5 ≤ L) (hR : RR μ ν 0 t) (hcap : cap ≤ 70) (hI : LI s D T B μ cap t ν f g H) (hS : va_S (AL B) s.heap H locs) (hl : lv_has ls 9 (LV b B (nI (5 * j)))) (hce : cells + 1450 ≤ room_1.cells) (hsl : slots + 13186 ≤ room_1.slots) (kk : LK p l e s m b below meth c D T B j cells slots Q) : W p l e room_1 s m #[.ref b] below meth c H locs cells slots Q (F0 m 2581 ls []) := by
  obtain ⟨hx, hb, hr, hml, hown, hts, hX, hbl, hlocks, hgv⟩ := C0
  have hC : gC p c code s m #[.ref b] RL D vwCl (tysG T) := ⟨hx, hb, hown, fun w hw => hts w (wg_tbl hw), F.2.2.2.1⟩
  have hbA : ¬ AL B b := Nat.not_le.mpr (Nat.lt_of_lt_of_le hbl F.2.2.2.2)
  obtain ⟨r, hf, r', hf', hR', hSm⟩ := (o_takeBest (by omega) hR : Ok (fX10_takeBest N μ 0 (xs (nI (5 * j) + 1).toNatClampNeg)) _)
  obtain ⟨h6, h0⟩ := Sm_k hSm (by decide) (by decide)
  refine lv_aload_n hx hb dL_law_2581 rfl (lv_at hl 4 rfl) ?_
  refine lv_aload_n hx hb dL_law_2582 rfl (lv_at hl 5 rfl) ?_
  refine lv_iload hx hb dL_law_2583 (lv_at hl 0 rfl) ?_
  refine lv_iconst (v := 1) hx hb dL_law_2585 (by decide) ?_
  refine lv_iadd hx hb dL_law_2586 ?_
  refine va_sld hx hb hX hbl hbA hS (sc_in 1 hj hL (by decide)) dL_law_2587 ?_
  refine lv_aload_n hx hb dL_law_2588 rfl (lv_at hl 2 rfl) ?_
  refine gl_wr (As := [.ref (B + 0), .int (xs (nI (5 * j) + 1).toNatClampNeg), .ref (B + 574)]) (rest := []) F hC hml hS hI (metL_takeBest F Xc_g Xc_ob hf (Sm2 hSm)) mw_L_312 ⟨rfl, rfl, (Nat.le_of_ble_eq_true rfl), (Nat.le_of_ble_eq_true rfl)⟩ rfl hl.1 rfl (Nat.le_of_ble_eq_true rfl) dL_law_2589 ⟨by omega, by omega⟩ (fun H locs hI hS => ?_)
  refine lv_istore (lv' := [(6, .int (kL [0, 2] r.2)), (5, .int (nI (5 * j))), (4, .ref (B + 575)), (3, .ref (B + 574)), (2, .ref (B + 562 + 0)), (1, .ref (B + 0)), (0, .ref b)]) hx hb dL_law_2592 hl (by decide) rfl (fun ls hl => ?_)
  refine lv_aload_n hx hb dL_law_2594 rfl (lv_at hl 4 rfl) ?_
  refine lv_aload_n hx hb dL_law_2595 rfl (lv_at hl 6 rfl) ?_
  refine lv_iload hx hb dL_law_2596 (lv_at hl 1 rfl) ?_
  refine lv_iconst (v := 1) hx hb dL_law_2598 (by decide) ?_
  refine lv_iadd hx hb dL_law_2599 ?_
  refine va_sld hx hb hX hbl hbA hS (sc_in 1 hj hL (by decide)) dL_law_2600 ?_
  refine gl_mo (As := [.int (xs (nI (5 * j) + 1).toNatClampNeg)]) (rest := []) F hC hml hS hI (fun X hX9 => metX11_takeBest (FX_at F (by have := F.2.2.2.2; omega)) hX9 is_Mo hf') ml_L_314 rfl ⟨rfl, rfl, (Nat.le_of_ble_eq_true rfl), (Nat.le_of_ble_eq_true rfl)⟩ rfl hl.1 rfl (Nat.le_of_ble_eq_true rfl) dL_law_2601 ⟨by omega, by omega⟩ (fun H locs hI hS => ?_)
  refine lv_istore (lv' := [(7, .int r'.2), (6, .int (kL [0, 2] r.2)), (5, .int (nI (5 * j))), (4, .ref (B + 575)), (3, .ref (B + 574)), (2, .ref (B + 562 + 0)), (1, .ref (B + 0)), (0, .ref b)]) hx hb dL_law_2604 hl (by decide) rfl (fun ls hl => ?_)
  refine lv_aload_n hx hb dL_law_2606 rfl (lv_at hl 5 rfl) ?_
  refine gl_mo (As := []) (rest := []) F hC hml hS hI (fun X hX9 => metX11_thrown (N := N) (r := r'.1 0 6) (FX_at F (by have := F.2.2.2.2; omega)) hX9 is_Mo rfl) ml_L_198 rfl ⟨rfl, rfl, (Nat.le_of_ble_eq_true rfl), (Nat.le_of_ble_eq_true rfl)⟩ rfl hl.1 rfl (Nat.le_of_ble_eq_true rfl) dL_law_2607 ⟨by omega, by omega⟩ (fun H locs hI hS => ?_)
  refine lv_iload hx hb dL_law_2610 (lv_at hl 1 rfl) ?_
  refine lv_icmp_eq (tgt := 2617) hx hb dL_law_2612 (by decide) (fun _ => ?_) (fun z => absurd h6 z)
  refine lv_iload hx hb dL_law_2617 (lv_at hl 1 rfl) ?_
  refine lv_if_ne (tgt := 2634) hx hb dL_law_2619 (by decide) (fun _ => ?_) (fun z => ?_)
  · refine lv_goto (tgt := 3665) hx hb dL_law_2634 (by decide) ?_
    exact lk_end kk (by omega) (by omega) hR' hcap hI hS (lv_sub hl [2, 3, 4, 5, 6, 7] rfl)
  · refine lv_aload_n hx hb dL_law_2622 rfl (lv_at hl 4 rfl) ?_
    refine lv_iconst (v := 0) hx hb dL_law_2623 (by decide) ?_
    refine gl_lald hC hI.2.2.1 dL_law_2624 ?_
    rw [upI_0 (h0 z)]
    refine lv_iload hx hb dL_law_2625 (lv_at hl 0 rfl) ?_
    refine lv_i2l hx hb dL_law_2627 rfl ?_
    refine W.lcmp hx hb dL_law_2628 ?_
    rw [lg_cmp_self]
    refine lv_if_eq (tgt := 2634) hx hb dL_law_2629 (by decide) (fun _ => ?_) (fun z => absurd rfl z)
    refine lv_goto (tgt := 3665) hx hb dL_law_2634 (by decide) ?_
    exact lk_end kk (by omega) (by omega) hR' hcap hI hS (lv_sub hl [2, 3, 4, 5, 6, 7] rfl)
set_option maxHeartbeats 4000000 in
set_option maxRecDepth 100000 in
theorem op_37 {p : Program} {l : Launch} {e : Env} {s : State} {m : MethodId} {below : List Frame} {meth : Method} {c : Code} {b L : Nat} {xs : Nat → Int32} {D : va_G} {T : Nat → ClassId} {B N j cells slots : Nat} {Q : State → Prop} {μ ν : Mem} {cap : Nat} {t : List Nat} {f : Nat → Int64} {g : Nat → UInt64} {H : Heap} {locs : List Loc} {ls : Array Slot} (F : FX l s b D T B) (hN : 1200000000000 ≤ N) (hNP : ∀ x ds, dcN x = some ds → NumP N x ds) (C0 : lw_At p s m meth c b L xs) (hL : L ≤ 2560) (hj : 5 * j + 5 ≤ L) (hR : RR μ ν 0 t) (hcap : cap ≤ 70) (hI : LI s D T B μ cap t ν f g H) (hS : va_S (AL B) s.heap H locs) (hl : lv_has ls 9 (LV b B (nI (5 * j)))) (hce : cells + 1450 ≤ room_1.cells) (hsl : slots + 13186 ≤ room_1.slots) (kk : LK p l e s m b below meth c D T B j cells slots Q) : W p l e room_1 s m #[.ref b] below meth c H locs cells slots Q (F0 m 2637 ls []) := by
  obtain ⟨hx, hb, hr, hml, hown, hts, hX, hbl, hlocks, hgv⟩ := C0
  have hC : gC p c code s m #[.ref b] RL D vwCl (tysG T) := ⟨hx, hb, hown, fun w hw => hts w (wg_tbl hw), F.2.2.2.1⟩
  have hbA : ¬ AL B b := Nat.not_le.mpr (Nat.lt_of_lt_of_le hbl F.2.2.2.2)
  obtain ⟨r, hf, r', hf', hR', hSm⟩ := (q_askedCount hR : Ok (fX10_askedCount N μ 0 (xs (nI (5 * j) + 1).toNatClampNeg)) _)
  obtain ⟨h6, h0⟩ := Sm_k hSm (by decide) (by decide)
  refine lv_aload_n hx hb dL_law_2637 rfl (lv_at hl 4 rfl) ?_
  refine lv_aload_n hx hb dL_law_2638 rfl (lv_at hl 5 rfl) ?_
  refine lv_iload hx hb dL_law_2639 (lv_at hl 0 rfl) ?_
  refine lv_iconst (v := 1) hx hb dL_law_2641 (by decide) ?_
  refine lv_iadd hx hb dL_law_2642 ?_
  refine va_sld hx hb hX hbl hbA hS (sc_in 1 hj hL (by decide)) dL_law_2643 ?_
  refine lv_aload_n hx hb dL_law_2644 rfl (lv_at hl 2 rfl) ?_
  refine gl_wr (As := [.ref (B + 0), .int (xs (nI (5 * j) + 1).toNatClampNeg), .ref (B + 574)]) (rest := []) F hC hml hS hI (metL_askedCount F Xc_g Xc_ob hf (Sm1 hSm)) mw_L_315 ⟨rfl, rfl, (Nat.le_of_ble_eq_true rfl), (Nat.le_of_ble_eq_true rfl)⟩ rfl hl.1 rfl (Nat.le_of_ble_eq_true rfl) dL_law_2645 ⟨by omega, by omega⟩ (fun H locs hI hS => ?_)
  refine lv_istore (lv' := [(6, .int (kL [0] r.2)), (5, .int (nI (5 * j))), (4, .ref (B + 575)), (3, .ref (B + 574)), (2, .ref (B + 562 + 0)), (1, .ref (B + 0)), (0, .ref b)]) hx hb dL_law_2648 hl (by decide) rfl (fun ls hl => ?_)
  refine lv_aload_n hx hb dL_law_2650 rfl (lv_at hl 4 rfl) ?_
  refine lv_aload_n hx hb dL_law_2651 rfl (lv_at hl 6 rfl) ?_
  refine lv_iload hx hb dL_law_2652 (lv_at hl 1 rfl) ?_
  refine lv_iconst (v := 1) hx hb dL_law_2654 (by decide) ?_
  refine lv_iadd hx hb dL_law_2655 ?_
  refine va_sld hx hb hX hbl hbA hS (sc_in 1 hj hL (by decide)) dL_law_2656 ?_
  refine gl_mo (As := [.int (xs (nI (5 * j) + 1).toNatClampNeg)]) (rest := []) F hC hml hS hI (fun X hX9 => metX11_askedCount (FX_at F (by have := F.2.2.2.2; omega)) hX9 is_Mo hf') ml_L_317 rfl ⟨rfl, rfl, (Nat.le_of_ble_eq_true rfl), (Nat.le_of_ble_eq_true rfl)⟩ rfl hl.1 rfl (Nat.le_of_ble_eq_true rfl) dL_law_2657 ⟨by omega, by omega⟩ (fun H locs hI hS => ?_)
  refine lv_istore (lv' := [(7, .int r'.2), (6, .int (kL [0] r.2)), (5, .int (nI (5 * j))), (4, .ref (B + 575)), (3, .ref (B + 574)), (2, .ref (B + 562 + 0)), (1, .ref (B + 0)), (0, .ref b)]) hx hb dL_law_2660 hl (by decide) rfl (fun ls hl => ?_)
  refine lv_aload_n hx hb dL_law_2662 rfl (lv_at hl 5 rfl) ?_
  refine gl_mo (As := []) (rest := []) F hC hml hS hI (fun X hX9 => metX11_thrown (N := N) (r := r'.1 0 6) (FX_at F (by have := F.2.2.2.2; omega)) hX9 is_Mo rfl) ml_L_198 rfl ⟨rfl, rfl, (Nat.le_of_ble_eq_true rfl), (Nat.le_of_ble_eq_true rfl)⟩ rfl hl.1 rfl (Nat.le_of_ble_eq_true rfl) dL_law_2663 ⟨by omega, by omega⟩ (fun H locs hI hS => ?_)
  refine lv_iload hx hb dL_law_2666 (lv_at hl 1 rfl) ?_
  refine lv_icmp_eq (tgt := 2673) hx hb dL_law_2668 (by decide) (fun _ => ?_) (fun z => absurd h6 z)
  refine lv_iload hx hb dL_law_2673 (lv_at hl 1 rfl) ?_
  refine lv_if_ne (tgt := 2690) hx hb dL_law_2675 (by decide) (fun _ => ?_) (fun z => ?_)
  · refine lv_goto (tgt := 3665) hx hb dL_law_2690 (by decide) ?_
    exact lk_end kk (by omega) (by omega) hR' hcap hI hS (lv_sub hl [2, 3, 4, 5, 6, 7] rfl)
  · refine lv_aload_n hx hb dL_law_2678 rfl (lv_at hl 4 rfl) ?_
    refine lv_iconst (v := 0) hx hb dL_law_2679 (by decide) ?_
    refine gl_lald hC hI.2.2.1 dL_law_2680 ?_
    rw [upI_0 (h0 z)]
    refine lv_iload hx hb dL_law_2681 (lv_at hl 0 rfl) ?_
    refine lv_i2l hx hb dL_law_2683 rfl ?_
    refine W.lcmp hx hb dL_law_2684 ?_
    rw [lg_cmp_self]
    refine lv_if_eq (tgt := 2690) hx hb dL_law_2685 (by decide) (fun _ => ?_) (fun z => absurd rfl z)
    refine lv_goto (tgt := 3665) hx hb dL_law_2690 (by decide) ?_
    exact lk_end kk (by omega) (by omega) hR' hcap hI hS (lv_sub hl [2, 3, 4, 5, 6, 7] rfl)
set_option maxHeartbeats 4000000 in
set_option maxRecDepth 100000 in
theorem op_38 {p : Program} {l : Launch} {e : Env} {s : State} {m : MethodId} {below : List Frame} {meth : Method} {c : Code} {b L : Nat} {xs : Nat → Int32} {D : va_G} {T : Nat → ClassId} {B N j cells slots : Nat} {Q : State → Prop} {μ ν : Mem} {cap : Nat} {t : List Nat} {f : Nat → Int64} {g : Nat → UInt64} {H : Heap} {locs : List Loc} {ls : Array Slot} (F : FX l s b D T B) (hN : 1200000000000 ≤ N) (hNP : ∀ x ds, dcN x = some ds → NumP N x ds) (C0 : lw_At p s m meth c b L xs) (hL : L ≤ 2560) (hj : 5 * j + 5 ≤ L) (hR : RR μ ν 0 t) (hcap : cap ≤ 70) (hI : LI s D T B μ cap t ν f g H) (hS : va_S (AL B) s.heap H locs) (hl : lv_has ls 9 (LV b B (nI (5 * j)))) (hce : cells + 1450 ≤ room_1.cells) (hsl : slots + 13186 ≤ room_1.slots) (kk : LK p l e s m b below meth c D T B j cells slots Q) : W p l e room_1 s m #[.ref b] below meth c H locs cells slots Q (F0 m 2693 ls []) := by
  obtain ⟨hx, hb, hr, hml, hown, hts, hX, hbl, hlocks, hgv⟩ := C0
  have hC : gC p c code s m #[.ref b] RL D vwCl (tysG T) := ⟨hx, hb, hown, fun w hw => hts w (wg_tbl hw), F.2.2.2.1⟩
  have hbA : ¬ AL B b := Nat.not_le.mpr (Nat.lt_of_lt_of_le hbl F.2.2.2.2)
  obtain ⟨r, hf, r', hf', hR', hSm⟩ := (q_takenCount hR : Ok (fX10_takenCount N μ 0 (xs (nI (5 * j) + 1).toNatClampNeg)) _)
  obtain ⟨h6, h0⟩ := Sm_k hSm (by decide) (by decide)
  refine lv_aload_n hx hb dL_law_2693 rfl (lv_at hl 4 rfl) ?_
  refine lv_aload_n hx hb dL_law_2694 rfl (lv_at hl 5 rfl) ?_
  refine lv_iload hx hb dL_law_2695 (lv_at hl 0 rfl) ?_
  refine lv_iconst (v := 1) hx hb dL_law_2697 (by decide) ?_
  refine lv_iadd hx hb dL_law_2698 ?_
  refine va_sld hx hb hX hbl hbA hS (sc_in 1 hj hL (by decide)) dL_law_2699 ?_
  refine lv_aload_n hx hb dL_law_2700 rfl (lv_at hl 2 rfl) ?_
  refine gl_wr (As := [.ref (B + 0), .int (xs (nI (5 * j) + 1).toNatClampNeg), .ref (B + 574)]) (rest := []) F hC hml hS hI (metL_takenCount F Xc_g Xc_ob hf (Sm1 hSm)) mw_L_318 ⟨rfl, rfl, (Nat.le_of_ble_eq_true rfl), (Nat.le_of_ble_eq_true rfl)⟩ rfl hl.1 rfl (Nat.le_of_ble_eq_true rfl) dL_law_2701 ⟨by omega, by omega⟩ (fun H locs hI hS => ?_)
  refine lv_istore (lv' := [(6, .int (kL [0] r.2)), (5, .int (nI (5 * j))), (4, .ref (B + 575)), (3, .ref (B + 574)), (2, .ref (B + 562 + 0)), (1, .ref (B + 0)), (0, .ref b)]) hx hb dL_law_2704 hl (by decide) rfl (fun ls hl => ?_)
  refine lv_aload_n hx hb dL_law_2706 rfl (lv_at hl 4 rfl) ?_
  refine lv_aload_n hx hb dL_law_2707 rfl (lv_at hl 6 rfl) ?_
  refine lv_iload hx hb dL_law_2708 (lv_at hl 1 rfl) ?_
  refine lv_iconst (v := 1) hx hb dL_law_2710 (by decide) ?_
  refine lv_iadd hx hb dL_law_2711 ?_
  refine va_sld hx hb hX hbl hbA hS (sc_in 1 hj hL (by decide)) dL_law_2712 ?_
  refine gl_mo (As := [.int (xs (nI (5 * j) + 1).toNatClampNeg)]) (rest := []) F hC hml hS hI (fun X hX9 => metX11_takenCount (FX_at F (by have := F.2.2.2.2; omega)) hX9 is_Mo hf') ml_L_320 rfl ⟨rfl, rfl, (Nat.le_of_ble_eq_true rfl), (Nat.le_of_ble_eq_true rfl)⟩ rfl hl.1 rfl (Nat.le_of_ble_eq_true rfl) dL_law_2713 ⟨by omega, by omega⟩ (fun H locs hI hS => ?_)
  refine lv_istore (lv' := [(7, .int r'.2), (6, .int (kL [0] r.2)), (5, .int (nI (5 * j))), (4, .ref (B + 575)), (3, .ref (B + 574)), (2, .ref (B + 562 + 0)), (1, .ref (B + 0)), (0, .ref b)]) hx hb dL_law_2716 hl (by decide) rfl (fun ls hl => ?_)
  refine lv_aload_n hx hb dL_law_2718 rfl (lv_at hl 5 rfl) ?_
  refine gl_mo (As := []) (rest := []) F hC hml hS hI (fun X hX9 => metX11_thrown (N := N) (r := r'.1 0 6) (FX_at F (by have := F.2.2.2.2; omega)) hX9 is_Mo rfl) ml_L_198 rfl ⟨rfl, rfl, (Nat.le_of_ble_eq_true rfl), (Nat.le_of_ble_eq_true rfl)⟩ rfl hl.1 rfl (Nat.le_of_ble_eq_true rfl) dL_law_2719 ⟨by omega, by omega⟩ (fun H locs hI hS => ?_)
  refine lv_iload hx hb dL_law_2722 (lv_at hl 1 rfl) ?_
  refine lv_icmp_eq (tgt := 2729) hx hb dL_law_2724 (by decide) (fun _ => ?_) (fun z => absurd h6 z)
  refine lv_iload hx hb dL_law_2729 (lv_at hl 1 rfl) ?_
  refine lv_if_ne (tgt := 2746) hx hb dL_law_2731 (by decide) (fun _ => ?_) (fun z => ?_)
  · refine lv_goto (tgt := 3665) hx hb dL_law_2746 (by decide) ?_
    exact lk_end kk (by omega) (by omega) hR' hcap hI hS (lv_sub hl [2, 3, 4, 5, 6, 7] rfl)
  · refine lv_aload_n hx hb dL_law_2734 rfl (lv_at hl 4 rfl) ?_
    refine lv_iconst (v := 0) hx hb dL_law_2735 (by decide) ?_
    refine gl_lald hC hI.2.2.1 dL_law_2736 ?_
    rw [upI_0 (h0 z)]
    refine lv_iload hx hb dL_law_2737 (lv_at hl 0 rfl) ?_
    refine lv_i2l hx hb dL_law_2739 rfl ?_
    refine W.lcmp hx hb dL_law_2740 ?_
    rw [lg_cmp_self]
    refine lv_if_eq (tgt := 2746) hx hb dL_law_2741 (by decide) (fun _ => ?_) (fun z => absurd rfl z)
    refine lv_goto (tgt := 3665) hx hb dL_law_2746 (by decide) ?_
    exact lk_end kk (by omega) (by omega) hR' hcap hI hS (lv_sub hl [2, 3, 4, 5, 6, 7] rfl)
set_option maxHeartbeats 4000000 in
set_option maxRecDepth 100000 in
theorem op_39 {p : Program} {l : Launch} {e : Env} {s : State} {m : MethodId} {below : List Frame} {meth : Method} {c : Code} {b L : Nat} {xs : Nat → Int32} {D : va_G} {T : Nat → ClassId} {B N j cells slots : Nat} {Q : State → Prop} {μ ν : Mem} {cap : Nat} {t : List Nat} {f : Nat → Int64} {g : Nat → UInt64} {H : Heap} {locs : List Loc} {ls : Array Slot} (F : FX l s b D T B) (hN : 1200000000000 ≤ N) (hNP : ∀ x ds, dcN x = some ds → NumP N x ds) (C0 : lw_At p s m meth c b L xs) (hL : L ≤ 2560) (hj : 5 * j + 5 ≤ L) (hR : RR μ ν 0 t) (hcap : cap ≤ 70) (hI : LI s D T B μ cap t ν f g H) (hS : va_S (AL B) s.heap H locs) (hl : lv_has ls 9 (LV b B (nI (5 * j)))) (hce : cells + 1450 ≤ room_1.cells) (hsl : slots + 13186 ≤ room_1.slots) (kk : LK p l e s m b below meth c D T B j cells slots Q) : W p l e room_1 s m #[.ref b] below meth c H locs cells slots Q (F0 m 2749 ls []) := by
  obtain ⟨hx, hb, hr, hml, hown, hts, hX, hbl, hlocks, hgv⟩ := C0
  have hC : gC p c code s m #[.ref b] RL D vwCl (tysG T) := ⟨hx, hb, hown, fun w hw => hts w (wg_tbl hw), F.2.2.2.1⟩
  have hbA : ¬ AL B b := Nat.not_le.mpr (Nat.lt_of_lt_of_le hbl F.2.2.2.2)
  obtain ⟨r, hf, r', hf', hR', hSm⟩ := (q_bestFees (by omega) hR : Ok (fX10_bestFees N μ 0 (xs (nI (5 * j) + 1).toNatClampNeg)) _)
  obtain ⟨h6, h0⟩ := Sm_k hSm (by decide) (by decide)
  refine lv_aload_n hx hb dL_law_2749 rfl (lv_at hl 4 rfl) ?_
  refine lv_aload_n hx hb dL_law_2750 rfl (lv_at hl 5 rfl) ?_
  refine lv_iload hx hb dL_law_2751 (lv_at hl 0 rfl) ?_
  refine lv_iconst (v := 1) hx hb dL_law_2753 (by decide) ?_
  refine lv_iadd hx hb dL_law_2754 ?_
  refine va_sld hx hb hX hbl hbA hS (sc_in 1 hj hL (by decide)) dL_law_2755 ?_
  refine lv_aload_n hx hb dL_law_2756 rfl (lv_at hl 2 rfl) ?_
  refine gl_wr (As := [.ref (B + 0), .int (xs (nI (5 * j) + 1).toNatClampNeg), .ref (B + 574)]) (rest := []) F hC hml hS hI (metL_bestFees F Xc_g Xc_ob hf (Sm1 hSm)) mw_L_321 ⟨rfl, rfl, (Nat.le_of_ble_eq_true rfl), (Nat.le_of_ble_eq_true rfl)⟩ rfl hl.1 rfl (Nat.le_of_ble_eq_true rfl) dL_law_2757 ⟨by omega, by omega⟩ (fun H locs hI hS => ?_)
  refine lv_istore (lv' := [(6, .int (kL [0] r.2)), (5, .int (nI (5 * j))), (4, .ref (B + 575)), (3, .ref (B + 574)), (2, .ref (B + 562 + 0)), (1, .ref (B + 0)), (0, .ref b)]) hx hb dL_law_2760 hl (by decide) rfl (fun ls hl => ?_)
  refine lv_aload_n hx hb dL_law_2762 rfl (lv_at hl 4 rfl) ?_
  refine lv_aload_n hx hb dL_law_2763 rfl (lv_at hl 6 rfl) ?_
  refine lv_iload hx hb dL_law_2764 (lv_at hl 1 rfl) ?_
  refine lv_iconst (v := 1) hx hb dL_law_2766 (by decide) ?_
  refine lv_iadd hx hb dL_law_2767 ?_
  refine va_sld hx hb hX hbl hbA hS (sc_in 1 hj hL (by decide)) dL_law_2768 ?_
  refine gl_mo (As := [.int (xs (nI (5 * j) + 1).toNatClampNeg)]) (rest := []) F hC hml hS hI (fun X hX9 => metX11_bestFees (FX_at F (by have := F.2.2.2.2; omega)) hX9 is_Mo hf') ml_L_323 rfl ⟨rfl, rfl, (Nat.le_of_ble_eq_true rfl), (Nat.le_of_ble_eq_true rfl)⟩ rfl hl.1 rfl (Nat.le_of_ble_eq_true rfl) dL_law_2769 ⟨by omega, by omega⟩ (fun H locs hI hS => ?_)
  refine lv_istore (lv' := [(7, .int r'.2), (6, .int (kL [0] r.2)), (5, .int (nI (5 * j))), (4, .ref (B + 575)), (3, .ref (B + 574)), (2, .ref (B + 562 + 0)), (1, .ref (B + 0)), (0, .ref b)]) hx hb dL_law_2772 hl (by decide) rfl (fun ls hl => ?_)
  refine lv_aload_n hx hb dL_law_2774 rfl (lv_at hl 5 rfl) ?_
  refine gl_mo (As := []) (rest := []) F hC hml hS hI (fun X hX9 => metX11_thrown (N := N) (r := r'.1 0 6) (FX_at F (by have := F.2.2.2.2; omega)) hX9 is_Mo rfl) ml_L_198 rfl ⟨rfl, rfl, (Nat.le_of_ble_eq_true rfl), (Nat.le_of_ble_eq_true rfl)⟩ rfl hl.1 rfl (Nat.le_of_ble_eq_true rfl) dL_law_2775 ⟨by omega, by omega⟩ (fun H locs hI hS => ?_)
  refine lv_iload hx hb dL_law_2778 (lv_at hl 1 rfl) ?_
  refine lv_icmp_eq (tgt := 2785) hx hb dL_law_2780 (by decide) (fun _ => ?_) (fun z => absurd h6 z)
  refine lv_iload hx hb dL_law_2785 (lv_at hl 1 rfl) ?_
  refine lv_if_ne (tgt := 2802) hx hb dL_law_2787 (by decide) (fun _ => ?_) (fun z => ?_)
  · refine lv_goto (tgt := 3665) hx hb dL_law_2802 (by decide) ?_
    exact lk_end kk (by omega) (by omega) hR' hcap hI hS (lv_sub hl [2, 3, 4, 5, 6, 7] rfl)
  · refine lv_aload_n hx hb dL_law_2790 rfl (lv_at hl 4 rfl) ?_
    refine lv_iconst (v := 0) hx hb dL_law_2791 (by decide) ?_
    refine gl_lald hC hI.2.2.1 dL_law_2792 ?_
    rw [upI_0 (h0 z)]
    refine lv_iload hx hb dL_law_2793 (lv_at hl 0 rfl) ?_
    refine lv_i2l hx hb dL_law_2795 rfl ?_
    refine W.lcmp hx hb dL_law_2796 ?_
    rw [lg_cmp_self]
    refine lv_if_eq (tgt := 2802) hx hb dL_law_2797 (by decide) (fun _ => ?_) (fun z => absurd rfl z)
    refine lv_goto (tgt := 3665) hx hb dL_law_2802 (by decide) ?_
    exact lk_end kk (by omega) (by omega) hR' hcap hI hS (lv_sub hl [2, 3, 4, 5, 6, 7] rfl)
set_option maxHeartbeats 4000000 in
set_option maxRecDepth 100000 in
theorem op_40 {p : Program} {l : Launch} {e : Env} {s : State} {m : MethodId} {below : List Frame} {meth : Method} {c : Code} {b L : Nat} {xs : Nat → Int32} {D : va_G} {T : Nat → ClassId} {B N j cells slots : Nat} {Q : State → Prop} {μ ν : Mem} {cap : Nat} {t : List Nat} {f : Nat → Int64} {g : Nat → UInt64} {H : Heap} {locs : List Loc} {ls : Array Slot} (F : FX l s b D T B) (hN : 1200000000000 ≤ N) (hNP : ∀ x ds, dcN x = some ds → NumP N x ds) (C0 : lw_At p s m meth c b L xs) (hL : L ≤ 2560) (hj : 5 * j + 5 ≤ L) (hR : RR μ ν 0 t) (hcap : cap ≤ 70) (hI : LI s D T B μ cap t ν f g H) (hS : va_S (AL B) s.heap H locs) (hl : lv_has ls 9 (LV b B (nI (5 * j)))) (hce : cells + 1450 ≤ room_1.cells) (hsl : slots + 13186 ≤ room_1.slots) (kk : LK p l e s m b below meth c D T B j cells slots Q) : W p l e room_1 s m #[.ref b] below meth c H locs cells slots Q (F0 m 2805 ls []) := by
  obtain ⟨hx, hb, hr, hml, hown, hts, hX, hbl, hlocks, hgv⟩ := C0
  have hC : gC p c code s m #[.ref b] RL D vwCl (tysG T) := ⟨hx, hb, hown, fun w hw => hts w (wg_tbl hw), F.2.2.2.1⟩
  have hbA : ¬ AL B b := Nat.not_le.mpr (Nat.lt_of_lt_of_le hbl F.2.2.2.2)
  obtain ⟨r, hf, r', hf', hR', hSm⟩ := (q_bestFeesByTrials (by omega) hR : Ok (fX10_bestFeesByTrials N μ 0 (xs (nI (5 * j) + 1).toNatClampNeg)) _)
  obtain ⟨h6, h0⟩ := Sm_k hSm (by decide) (by decide)
  refine lv_aload_n hx hb dL_law_2805 rfl (lv_at hl 4 rfl) ?_
  refine lv_aload_n hx hb dL_law_2806 rfl (lv_at hl 5 rfl) ?_
  refine lv_iload hx hb dL_law_2807 (lv_at hl 0 rfl) ?_
  refine lv_iconst (v := 1) hx hb dL_law_2809 (by decide) ?_
  refine lv_iadd hx hb dL_law_2810 ?_
  refine va_sld hx hb hX hbl hbA hS (sc_in 1 hj hL (by decide)) dL_law_2811 ?_
  refine lv_aload_n hx hb dL_law_2812 rfl (lv_at hl 2 rfl) ?_
  refine gl_wr (As := [.ref (B + 0), .int (xs (nI (5 * j) + 1).toNatClampNeg), .ref (B + 574)]) (rest := []) F hC hml hS hI (metL_bestFeesByTrials F Xc_g Xc_ob hf (Sm1 hSm)) mw_L_324 ⟨rfl, rfl, (Nat.le_of_ble_eq_true rfl), (Nat.le_of_ble_eq_true rfl)⟩ rfl hl.1 rfl (Nat.le_of_ble_eq_true rfl) dL_law_2813 ⟨by omega, by omega⟩ (fun H locs hI hS => ?_)
  refine lv_istore (lv' := [(6, .int (kL [0] r.2)), (5, .int (nI (5 * j))), (4, .ref (B + 575)), (3, .ref (B + 574)), (2, .ref (B + 562 + 0)), (1, .ref (B + 0)), (0, .ref b)]) hx hb dL_law_2816 hl (by decide) rfl (fun ls hl => ?_)
  refine lv_aload_n hx hb dL_law_2818 rfl (lv_at hl 4 rfl) ?_
  refine lv_aload_n hx hb dL_law_2819 rfl (lv_at hl 6 rfl) ?_
  refine lv_iload hx hb dL_law_2820 (lv_at hl 1 rfl) ?_
  refine lv_iconst (v := 1) hx hb dL_law_2822 (by decide) ?_
  refine lv_iadd hx hb dL_law_2823 ?_
  refine va_sld hx hb hX hbl hbA hS (sc_in 1 hj hL (by decide)) dL_law_2824 ?_
  refine gl_mo (As := [.int (xs (nI (5 * j) + 1).toNatClampNeg)]) (rest := []) F hC hml hS hI (fun X hX9 => metX11_bestFeesByTrials (FX_at F (by have := F.2.2.2.2; omega)) hX9 is_Mo hf') ml_L_326 rfl ⟨rfl, rfl, (Nat.le_of_ble_eq_true rfl), (Nat.le_of_ble_eq_true rfl)⟩ rfl hl.1 rfl (Nat.le_of_ble_eq_true rfl) dL_law_2825 ⟨by omega, by omega⟩ (fun H locs hI hS => ?_)
  refine lv_istore (lv' := [(7, .int r'.2), (6, .int (kL [0] r.2)), (5, .int (nI (5 * j))), (4, .ref (B + 575)), (3, .ref (B + 574)), (2, .ref (B + 562 + 0)), (1, .ref (B + 0)), (0, .ref b)]) hx hb dL_law_2828 hl (by decide) rfl (fun ls hl => ?_)
  refine lv_aload_n hx hb dL_law_2830 rfl (lv_at hl 5 rfl) ?_
  refine gl_mo (As := []) (rest := []) F hC hml hS hI (fun X hX9 => metX11_thrown (N := N) (r := r'.1 0 6) (FX_at F (by have := F.2.2.2.2; omega)) hX9 is_Mo rfl) ml_L_198 rfl ⟨rfl, rfl, (Nat.le_of_ble_eq_true rfl), (Nat.le_of_ble_eq_true rfl)⟩ rfl hl.1 rfl (Nat.le_of_ble_eq_true rfl) dL_law_2831 ⟨by omega, by omega⟩ (fun H locs hI hS => ?_)
  refine lv_iload hx hb dL_law_2834 (lv_at hl 1 rfl) ?_
  refine lv_icmp_eq (tgt := 2841) hx hb dL_law_2836 (by decide) (fun _ => ?_) (fun z => absurd h6 z)
  refine lv_iload hx hb dL_law_2841 (lv_at hl 1 rfl) ?_
  refine lv_if_ne (tgt := 2858) hx hb dL_law_2843 (by decide) (fun _ => ?_) (fun z => ?_)
  · refine lv_goto (tgt := 3665) hx hb dL_law_2858 (by decide) ?_
    exact lk_end kk (by omega) (by omega) hR' hcap hI hS (lv_sub hl [2, 3, 4, 5, 6, 7] rfl)
  · refine lv_aload_n hx hb dL_law_2846 rfl (lv_at hl 4 rfl) ?_
    refine lv_iconst (v := 0) hx hb dL_law_2847 (by decide) ?_
    refine gl_lald hC hI.2.2.1 dL_law_2848 ?_
    rw [upI_0 (h0 z)]
    refine lv_iload hx hb dL_law_2849 (lv_at hl 0 rfl) ?_
    refine lv_i2l hx hb dL_law_2851 rfl ?_
    refine W.lcmp hx hb dL_law_2852 ?_
    rw [lg_cmp_self]
    refine lv_if_eq (tgt := 2858) hx hb dL_law_2853 (by decide) (fun _ => ?_) (fun z => absurd rfl z)
    refine lv_goto (tgt := 3665) hx hb dL_law_2858 (by decide) ?_
    exact lk_end kk (by omega) (by omega) hR' hcap hI hS (lv_sub hl [2, 3, 4, 5, 6, 7] rfl)
set_option maxHeartbeats 4000000 in
set_option maxRecDepth 100000 in
theorem op_41 {p : Program} {l : Launch} {e : Env} {s : State} {m : MethodId} {below : List Frame} {meth : Method} {c : Code} {b L : Nat} {xs : Nat → Int32} {D : va_G} {T : Nat → ClassId} {B N j cells slots : Nat} {Q : State → Prop} {μ ν : Mem} {cap : Nat} {t : List Nat} {f : Nat → Int64} {g : Nat → UInt64} {H : Heap} {locs : List Loc} {ls : Array Slot} (F : FX l s b D T B) (hN : 1200000000000 ≤ N) (hNP : ∀ x ds, dcN x = some ds → NumP N x ds) (C0 : lw_At p s m meth c b L xs) (hL : L ≤ 2560) (hj : 5 * j + 5 ≤ L) (hR : RR μ ν 0 t) (hcap : cap ≤ 70) (hI : LI s D T B μ cap t ν f g H) (hS : va_S (AL B) s.heap H locs) (hl : lv_has ls 9 (LV b B (nI (5 * j)))) (hce : cells + 1450 ≤ room_1.cells) (hsl : slots + 13186 ≤ room_1.slots) (kk : LK p l e s m b below meth c D T B j cells slots Q) : W p l e room_1 s m #[.ref b] below meth c H locs cells slots Q (F0 m 2861 ls []) := by
  obtain ⟨hx, hb, hr, hml, hown, hts, hX, hbl, hlocks, hgv⟩ := C0
  have hC : gC p c code s m #[.ref b] RL D vwCl (tysG T) := ⟨hx, hb, hown, fun w hw => hts w (wg_tbl hw), F.2.2.2.1⟩
  have hbA : ¬ AL B b := Nat.not_le.mpr (Nat.lt_of_lt_of_le hbl F.2.2.2.2)
  obtain ⟨r, hf, r', hf', hR', hSm⟩ := (q_isLent hR : Ok (fX10_isLent N μ 0 (xs (nI (5 * j) + 1).toNatClampNeg) (xs (nI (5 * j) + 2).toNatClampNeg)) _)
  obtain ⟨h6, h0⟩ := Sm_k hSm (by decide) (by decide)
  refine lv_aload_n hx hb dL_law_2861 rfl (lv_at hl 4 rfl) ?_
  refine lv_aload_n hx hb dL_law_2862 rfl (lv_at hl 5 rfl) ?_
  refine lv_iload hx hb dL_law_2863 (lv_at hl 0 rfl) ?_
  refine lv_iconst (v := 1) hx hb dL_law_2865 (by decide) ?_
  refine lv_iadd hx hb dL_law_2866 ?_
  refine va_sld hx hb hX hbl hbA hS (sc_in 1 hj hL (by decide)) dL_law_2867 ?_
  refine lv_aload_n hx hb dL_law_2868 rfl (lv_at hl 5 rfl) ?_
  refine lv_iload hx hb dL_law_2869 (lv_at hl 0 rfl) ?_
  refine lv_iconst (v := 2) hx hb dL_law_2871 (by decide) ?_
  refine lv_iadd hx hb dL_law_2872 ?_
  refine va_sld hx hb hX hbl hbA hS (sc_in 2 hj hL (by decide)) dL_law_2873 ?_
  refine lv_aload_n hx hb dL_law_2874 rfl (lv_at hl 2 rfl) ?_
  refine gl_wr (As := [.ref (B + 0), .int (xs (nI (5 * j) + 1).toNatClampNeg), .int (xs (nI (5 * j) + 2).toNatClampNeg), .ref (B + 574)]) (rest := []) F hC hml hS hI (metL_isLent F Xc_g Xc_ob hf (Sm1 hSm)) mw_L_327 ⟨rfl, rfl, (Nat.le_of_ble_eq_true rfl), (Nat.le_of_ble_eq_true rfl)⟩ rfl hl.1 rfl (Nat.le_of_ble_eq_true rfl) dL_law_2875 ⟨by omega, by omega⟩ (fun H locs hI hS => ?_)
  refine lv_istore (lv' := [(6, .int (kL [0] r.2)), (5, .int (nI (5 * j))), (4, .ref (B + 575)), (3, .ref (B + 574)), (2, .ref (B + 562 + 0)), (1, .ref (B + 0)), (0, .ref b)]) hx hb dL_law_2878 hl (by decide) rfl (fun ls hl => ?_)
  refine lv_aload_n hx hb dL_law_2880 rfl (lv_at hl 4 rfl) ?_
  refine lv_aload_n hx hb dL_law_2881 rfl (lv_at hl 6 rfl) ?_
  refine lv_iload hx hb dL_law_2882 (lv_at hl 1 rfl) ?_
  refine lv_iconst (v := 1) hx hb dL_law_2884 (by decide) ?_
  refine lv_iadd hx hb dL_law_2885 ?_
  refine va_sld hx hb hX hbl hbA hS (sc_in 1 hj hL (by decide)) dL_law_2886 ?_
  refine lv_aload_n hx hb dL_law_2887 rfl (lv_at hl 6 rfl) ?_
  refine lv_iload hx hb dL_law_2888 (lv_at hl 1 rfl) ?_
  refine lv_iconst (v := 2) hx hb dL_law_2890 (by decide) ?_
  refine lv_iadd hx hb dL_law_2891 ?_
  refine va_sld hx hb hX hbl hbA hS (sc_in 2 hj hL (by decide)) dL_law_2892 ?_
  refine gl_mo (As := [.int (xs (nI (5 * j) + 1).toNatClampNeg), .int (xs (nI (5 * j) + 2).toNatClampNeg)]) (rest := []) F hC hml hS hI (fun X hX9 => metX11_isLent (FX_at F (by have := F.2.2.2.2; omega)) hX9 is_Mo hf') ml_L_329 rfl ⟨rfl, rfl, (Nat.le_of_ble_eq_true rfl), (Nat.le_of_ble_eq_true rfl)⟩ rfl hl.1 rfl (Nat.le_of_ble_eq_true rfl) dL_law_2893 ⟨by omega, by omega⟩ (fun H locs hI hS => ?_)
  refine lv_istore (lv' := [(7, .int (b2i r'.2)), (6, .int (kL [0] r.2)), (5, .int (nI (5 * j))), (4, .ref (B + 575)), (3, .ref (B + 574)), (2, .ref (B + 562 + 0)), (1, .ref (B + 0)), (0, .ref b)]) hx hb dL_law_2896 hl (by decide) rfl (fun ls hl => ?_)
  refine lv_aload_n hx hb dL_law_2898 rfl (lv_at hl 5 rfl) ?_
  refine gl_mo (As := []) (rest := []) F hC hml hS hI (fun X hX9 => metX11_thrown (N := N) (r := r'.1 0 6) (FX_at F (by have := F.2.2.2.2; omega)) hX9 is_Mo rfl) ml_L_198 rfl ⟨rfl, rfl, (Nat.le_of_ble_eq_true rfl), (Nat.le_of_ble_eq_true rfl)⟩ rfl hl.1 rfl (Nat.le_of_ble_eq_true rfl) dL_law_2899 ⟨by omega, by omega⟩ (fun H locs hI hS => ?_)
  refine lv_iload hx hb dL_law_2902 (lv_at hl 1 rfl) ?_
  refine lv_icmp_eq (tgt := 2909) hx hb dL_law_2904 (by decide) (fun _ => ?_) (fun z => absurd h6 z)
  refine lv_iload hx hb dL_law_2909 (lv_at hl 1 rfl) ?_
  refine lv_if_ne (tgt := 2933) hx hb dL_law_2911 (by decide) (fun _ => ?_) (fun z => ?_)
  · refine lv_goto (tgt := 3665) hx hb dL_law_2933 (by decide) ?_
    exact lk_end kk (by omega) (by omega) hR' hcap hI hS (lv_sub hl [2, 3, 4, 5, 6, 7] rfl)
  · refine lv_aload_n hx hb dL_law_2914 rfl (lv_at hl 4 rfl) ?_
    refine lv_iconst (v := 0) hx hb dL_law_2915 (by decide) ?_
    refine gl_lald hC hI.2.2.1 dL_law_2916 ?_
    refine lv_iload hx hb dL_law_2917 (lv_at hl 0 rfl) ?_
    refine gw_if_eqZ (tgt := 2926) hx hb dL_law_2919 (by decide) (fun c9 => ?_) (fun c9 => ?_)
    · refine lv_lconst (v := 0) hx hb dL_law_2926 (by decide) ?_
      rw [upZ_0 (z := 0) (h0 z) (by rw [c9]; rfl)]
      refine W.lcmp hx hb dL_law_2927 ?_
      rw [lg_cmp_self]
      refine lv_if_eq (tgt := 2933) hx hb dL_law_2928 (by decide) (fun _ => ?_) (fun z => absurd rfl z)
      refine lv_goto (tgt := 3665) hx hb dL_law_2933 (by decide) ?_
      exact lk_end kk (by omega) (by omega) hR' hcap hI hS (lv_sub hl [2, 3, 4, 5, 6, 7] rfl)
    · refine lv_lconst (v := 1) hx hb dL_law_2922 (by decide) ?_
      refine lv_goto (tgt := 2927) hx hb dL_law_2923 (by decide) ?_
      rw [upZ_0 (z := 1) (h0 z) (by rw [c9]; rfl)]
      refine W.lcmp hx hb dL_law_2927 ?_
      rw [lg_cmp_self]
      refine lv_if_eq (tgt := 2933) hx hb dL_law_2928 (by decide) (fun _ => ?_) (fun z => absurd rfl z)
      refine lv_goto (tgt := 3665) hx hb dL_law_2933 (by decide) ?_
      exact lk_end kk (by omega) (by omega) hR' hcap hI hS (lv_sub hl [2, 3, 4, 5, 6, 7] rfl)
set_option maxHeartbeats 4000000 in
set_option maxRecDepth 100000 in
theorem op_42 {p : Program} {l : Launch} {e : Env} {s : State} {m : MethodId} {below : List Frame} {meth : Method} {c : Code} {b L : Nat} {xs : Nat → Int32} {D : va_G} {T : Nat → ClassId} {B N j cells slots : Nat} {Q : State → Prop} {μ ν : Mem} {cap : Nat} {t : List Nat} {f : Nat → Int64} {g : Nat → UInt64} {H : Heap} {locs : List Loc} {ls : Array Slot} (F : FX l s b D T B) (hN : 1200000000000 ≤ N) (hNP : ∀ x ds, dcN x = some ds → NumP N x ds) (C0 : lw_At p s m meth c b L xs) (hL : L ≤ 2560) (hj : 5 * j + 5 ≤ L) (hR : RR μ ν 0 t) (hcap : cap ≤ 70) (hI : LI s D T B μ cap t ν f g H) (hS : va_S (AL B) s.heap H locs) (hl : lv_has ls 9 (LV b B (nI (5 * j)))) (hce : cells + 1450 ≤ room_1.cells) (hsl : slots + 13186 ≤ room_1.slots) (kk : LK p l e s m b below meth c D T B j cells slots Q) : W p l e room_1 s m #[.ref b] below meth c H locs cells slots Q (F0 m 2936 ls []) := by
  obtain ⟨hx, hb, hr, hml, hown, hts, hX, hbl, hlocks, hgv⟩ := C0
  have hC : gC p c code s m #[.ref b] RL D vwCl (tysG T) := ⟨hx, hb, hown, fun w hw => hts w (wg_tbl hw), F.2.2.2.1⟩
  have hbA : ¬ AL B b := Nat.not_le.mpr (Nat.lt_of_lt_of_le hbl F.2.2.2.2)
  obtain ⟨r, hf, r', hf', hR', he⟩ := (q_income hR : Ok (fX10_income N μ 0) _)
  refine lv_aload_n hx hb dL_law_2936 rfl (lv_at hl 4 rfl) ?_
  refine gl_cl (As := []) (rest := []) F hC hml hS hI (fun X hX9 => metX10_income F hX9 is_Ga hf) ml_L_330 rfl ⟨rfl, rfl, (Nat.le_of_ble_eq_true rfl), (Nat.le_of_ble_eq_true rfl)⟩ rfl hl.1 rfl (Nat.le_of_ble_eq_true rfl) dL_law_2937 ⟨by omega, by omega⟩ (fun H locs hI hS => ?_)
  refine lv_aload_n hx hb dL_law_2940 rfl (lv_at hl 3 rfl) ?_
  refine gl_mo (As := []) (rest := [.int r]) F hC hml hS hI (fun X hX9 => metX11_income (FX_at F (by have := F.2.2.2.2; omega)) hX9 is_Mo hf') ml_L_333 rfl ⟨rfl, rfl, (Nat.le_of_ble_eq_true rfl), (Nat.le_of_ble_eq_true rfl)⟩ rfl hl.1 rfl (Nat.le_of_ble_eq_true rfl) dL_law_2941 ⟨by omega, by omega⟩ (fun H locs hI hS => ?_)
  refine lv_icmp_eq (tgt := 3665) hx hb dL_law_2944 (by decide) (fun _ => ?_) (fun z => absurd he.symm z)
  exact lk_end kk (by omega) (by omega) hR' hcap hI hS hl
set_option maxHeartbeats 4000000 in
set_option maxRecDepth 100000 in
theorem op_43 {p : Program} {l : Launch} {e : Env} {s : State} {m : MethodId} {below : List Frame} {meth : Method} {c : Code} {b L : Nat} {xs : Nat → Int32} {D : va_G} {T : Nat → ClassId} {B N j cells slots : Nat} {Q : State → Prop} {μ ν : Mem} {cap : Nat} {t : List Nat} {f : Nat → Int64} {g : Nat → UInt64} {H : Heap} {locs : List Loc} {ls : Array Slot} (F : FX l s b D T B) (hN : 1200000000000 ≤ N) (hNP : ∀ x ds, dcN x = some ds → NumP N x ds) (C0 : lw_At p s m meth c b L xs) (hL : L ≤ 2560) (hj : 5 * j + 5 ≤ L) (hR : RR μ ν 0 t) (hcap : cap ≤ 70) (hI : LI s D T B μ cap t ν f g H) (hS : va_S (AL B) s.heap H locs) (hl : lv_has ls 9 (LV b B (nI (5 * j)))) (hce : cells + 1450 ≤ room_1.cells) (hsl : slots + 13186 ≤ room_1.slots) (kk : LK p l e s m b below meth c D T B j cells slots Q) : W p l e room_1 s m #[.ref b] below meth c H locs cells slots Q (F0 m 2949 ls []) := by
  obtain ⟨hx, hb, hr, hml, hown, hts, hX, hbl, hlocks, hgv⟩ := C0
  have hC : gC p c code s m #[.ref b] RL D vwCl (tysG T) := ⟨hx, hb, hown, fun w hw => hts w (wg_tbl hw), F.2.2.2.1⟩
  have hbA : ¬ AL B b := Nat.not_le.mpr (Nat.lt_of_lt_of_le hbl F.2.2.2.2)
  obtain ⟨r, hf, r', hf', hR', hSm⟩ := (q_refusalReason hR : Ok (fX10_refusalReason N μ 0) _)
  obtain ⟨h6, h0⟩ := Sm_k hSm (by decide) (by decide)
  refine lv_aload_n hx hb dL_law_2949 rfl (lv_at hl 4 rfl) ?_
  refine lv_aload_n hx hb dL_law_2950 rfl (lv_at hl 2 rfl) ?_
  refine gl_wr (As := [.ref (B + 0), .ref (B + 574)]) (rest := []) F hC hml hS hI (metL_refusalReason F Xc_g Xc_ob hf (Sm1 hSm)) mw_L_334 ⟨rfl, rfl, (Nat.le_of_ble_eq_true rfl), (Nat.le_of_ble_eq_true rfl)⟩ rfl hl.1 rfl (Nat.le_of_ble_eq_true rfl) dL_law_2951 ⟨by omega, by omega⟩ (fun H locs hI hS => ?_)
  refine lv_istore (lv' := [(6, .int (kL [3] r.2)), (5, .int (nI (5 * j))), (4, .ref (B + 575)), (3, .ref (B + 574)), (2, .ref (B + 562 + 0)), (1, .ref (B + 0)), (0, .ref b)]) hx hb dL_law_2954 hl (by decide) rfl (fun ls hl => ?_)
  refine lv_aload_n hx hb dL_law_2956 rfl (lv_at hl 4 rfl) ?_
  refine gl_mo (As := []) (rest := []) F hC hml hS hI (fun X hX9 => metX11_refusalReason (FX_at F (by have := F.2.2.2.2; omega)) hX9 is_Mo hf') ml_L_337 rfl ⟨rfl, rfl, (Nat.le_of_ble_eq_true rfl), (Nat.le_of_ble_eq_true rfl)⟩ rfl hl.1 rfl (Nat.le_of_ble_eq_true rfl) dL_law_2957 ⟨by omega, by omega⟩ (fun H locs hI hS => ?_)
  refine lv_istore (lv' := [(7, .int r'.2), (6, .int (kL [3] r.2)), (5, .int (nI (5 * j))), (4, .ref (B + 575)), (3, .ref (B + 574)), (2, .ref (B + 562 + 0)), (1, .ref (B + 0)), (0, .ref b)]) hx hb dL_law_2960 hl (by decide) rfl (fun ls hl => ?_)
  refine lv_aload_n hx hb dL_law_2962 rfl (lv_at hl 5 rfl) ?_
  refine gl_mo (As := []) (rest := []) F hC hml hS hI (fun X hX9 => metX11_thrown (N := N) (r := r'.1 0 6) (FX_at F (by have := F.2.2.2.2; omega)) hX9 is_Mo rfl) ml_L_198 rfl ⟨rfl, rfl, (Nat.le_of_ble_eq_true rfl), (Nat.le_of_ble_eq_true rfl)⟩ rfl hl.1 rfl (Nat.le_of_ble_eq_true rfl) dL_law_2963 ⟨by omega, by omega⟩ (fun H locs hI hS => ?_)
  refine lv_iload hx hb dL_law_2966 (lv_at hl 1 rfl) ?_
  refine lv_icmp_eq (tgt := 2973) hx hb dL_law_2968 (by decide) (fun _ => ?_) (fun z => absurd h6 z)
  refine lv_iload hx hb dL_law_2973 (lv_at hl 1 rfl) ?_
  refine lv_if_ne (tgt := 2990) hx hb dL_law_2975 (by decide) (fun _ => ?_) (fun z => ?_)
  · refine lv_goto (tgt := 3665) hx hb dL_law_2990 (by decide) ?_
    exact lk_end kk (by omega) (by omega) hR' hcap hI hS (lv_sub hl [2, 3, 4, 5, 6, 7] rfl)
  · refine lv_aload_n hx hb dL_law_2978 rfl (lv_at hl 4 rfl) ?_
    refine lv_iconst (v := 0) hx hb dL_law_2979 (by decide) ?_
    refine gl_lald hC hI.2.2.1 dL_law_2980 ?_
    rw [upI_0 (h0 z)]
    refine lv_iload hx hb dL_law_2981 (lv_at hl 0 rfl) ?_
    refine lv_i2l hx hb dL_law_2983 rfl ?_
    refine W.lcmp hx hb dL_law_2984 ?_
    rw [lg_cmp_self]
    refine lv_if_eq (tgt := 2990) hx hb dL_law_2985 (by decide) (fun _ => ?_) (fun z => absurd rfl z)
    refine lv_goto (tgt := 3665) hx hb dL_law_2990 (by decide) ?_
    exact lk_end kk (by omega) (by omega) hR' hcap hI hS (lv_sub hl [2, 3, 4, 5, 6, 7] rfl)
set_option maxHeartbeats 4000000 in
set_option maxRecDepth 100000 in
theorem op_44 {p : Program} {l : Launch} {e : Env} {s : State} {m : MethodId} {below : List Frame} {meth : Method} {c : Code} {b L : Nat} {xs : Nat → Int32} {D : va_G} {T : Nat → ClassId} {B N j cells slots : Nat} {Q : State → Prop} {μ ν : Mem} {cap : Nat} {t : List Nat} {f : Nat → Int64} {g : Nat → UInt64} {H : Heap} {locs : List Loc} {ls : Array Slot} (F : FX l s b D T B) (hN : 1200000000000 ≤ N) (hNP : ∀ x ds, dcN x = some ds → NumP N x ds) (C0 : lw_At p s m meth c b L xs) (hL : L ≤ 2560) (hj : 5 * j + 5 ≤ L) (hR : RR μ ν 0 t) (hcap : cap ≤ 70) (hI : LI s D T B μ cap t ν f g H) (hS : va_S (AL B) s.heap H locs) (hl : lv_has ls 9 (LV b B (nI (5 * j)))) (hce : cells + 1450 ≤ room_1.cells) (hsl : slots + 13186 ≤ room_1.slots) (kk : LK p l e s m b below meth c D T B j cells slots Q) : W p l e room_1 s m #[.ref b] below meth c H locs cells slots Q (F0 m 2993 ls []) := by
  obtain ⟨hx, hb, hr, hml, hown, hts, hX, hbl, hlocks, hgv⟩ := C0
  have hC : gC p c code s m #[.ref b] RL D vwCl (tysG T) := ⟨hx, hb, hown, fun w hw => hts w (wg_tbl hw), F.2.2.2.1⟩
  have hbA : ¬ AL B b := Nat.not_le.mpr (Nat.lt_of_lt_of_le hbl F.2.2.2.2)
  obtain ⟨r, hf, r', hf', hR', hSm⟩ := (q_refusalDetail hR : Ok (fX10_refusalDetail N μ 0) _)
  obtain ⟨h6, h0⟩ := Sm_k hSm (by decide) (by decide)
  refine lv_aload_n hx hb dL_law_2993 rfl (lv_at hl 4 rfl) ?_
  refine lv_aload_n hx hb dL_law_2994 rfl (lv_at hl 2 rfl) ?_
  refine gl_wr (As := [.ref (B + 0), .ref (B + 574)]) (rest := []) F hC hml hS hI (metL_refusalDetail F Xc_g Xc_ob hf (Sm1 hSm)) mw_L_338 ⟨rfl, rfl, (Nat.le_of_ble_eq_true rfl), (Nat.le_of_ble_eq_true rfl)⟩ rfl hl.1 rfl (Nat.le_of_ble_eq_true rfl) dL_law_2995 ⟨by omega, by omega⟩ (fun H locs hI hS => ?_)
  refine lv_istore (lv' := [(6, .int (kL [3] r.2)), (5, .int (nI (5 * j))), (4, .ref (B + 575)), (3, .ref (B + 574)), (2, .ref (B + 562 + 0)), (1, .ref (B + 0)), (0, .ref b)]) hx hb dL_law_2998 hl (by decide) rfl (fun ls hl => ?_)
  refine lv_aload_n hx hb dL_law_3000 rfl (lv_at hl 4 rfl) ?_
  refine gl_mo (As := []) (rest := []) F hC hml hS hI (fun X hX9 => metX11_refusalDetail (FX_at F (by have := F.2.2.2.2; omega)) hX9 is_Mo hf') ml_L_340 rfl ⟨rfl, rfl, (Nat.le_of_ble_eq_true rfl), (Nat.le_of_ble_eq_true rfl)⟩ rfl hl.1 rfl (Nat.le_of_ble_eq_true rfl) dL_law_3001 ⟨by omega, by omega⟩ (fun H locs hI hS => ?_)
  refine lv_istore (lv' := [(7, .int r'.2), (6, .int (kL [3] r.2)), (5, .int (nI (5 * j))), (4, .ref (B + 575)), (3, .ref (B + 574)), (2, .ref (B + 562 + 0)), (1, .ref (B + 0)), (0, .ref b)]) hx hb dL_law_3004 hl (by decide) rfl (fun ls hl => ?_)
  refine lv_aload_n hx hb dL_law_3006 rfl (lv_at hl 5 rfl) ?_
  refine gl_mo (As := []) (rest := []) F hC hml hS hI (fun X hX9 => metX11_thrown (N := N) (r := r'.1 0 6) (FX_at F (by have := F.2.2.2.2; omega)) hX9 is_Mo rfl) ml_L_198 rfl ⟨rfl, rfl, (Nat.le_of_ble_eq_true rfl), (Nat.le_of_ble_eq_true rfl)⟩ rfl hl.1 rfl (Nat.le_of_ble_eq_true rfl) dL_law_3007 ⟨by omega, by omega⟩ (fun H locs hI hS => ?_)
  refine lv_iload hx hb dL_law_3010 (lv_at hl 1 rfl) ?_
  refine lv_icmp_eq (tgt := 3017) hx hb dL_law_3012 (by decide) (fun _ => ?_) (fun z => absurd h6 z)
  refine lv_iload hx hb dL_law_3017 (lv_at hl 1 rfl) ?_
  refine lv_if_ne (tgt := 3034) hx hb dL_law_3019 (by decide) (fun _ => ?_) (fun z => ?_)
  · refine lv_goto (tgt := 3665) hx hb dL_law_3034 (by decide) ?_
    exact lk_end kk (by omega) (by omega) hR' hcap hI hS (lv_sub hl [2, 3, 4, 5, 6, 7] rfl)
  · refine lv_aload_n hx hb dL_law_3022 rfl (lv_at hl 4 rfl) ?_
    refine lv_iconst (v := 0) hx hb dL_law_3023 (by decide) ?_
    refine gl_lald hC hI.2.2.1 dL_law_3024 ?_
    rw [upI_0 (h0 z)]
    refine lv_iload hx hb dL_law_3025 (lv_at hl 0 rfl) ?_
    refine lv_i2l hx hb dL_law_3027 rfl ?_
    refine W.lcmp hx hb dL_law_3028 ?_
    rw [lg_cmp_self]
    refine lv_if_eq (tgt := 3034) hx hb dL_law_3029 (by decide) (fun _ => ?_) (fun z => absurd rfl z)
    refine lv_goto (tgt := 3665) hx hb dL_law_3034 (by decide) ?_
    exact lk_end kk (by omega) (by omega) hR' hcap hI hS (lv_sub hl [2, 3, 4, 5, 6, 7] rfl)
set_option maxHeartbeats 4000000 in
set_option maxRecDepth 100000 in
theorem op_45 {p : Program} {l : Launch} {e : Env} {s : State} {m : MethodId} {below : List Frame} {meth : Method} {c : Code} {b L : Nat} {xs : Nat → Int32} {D : va_G} {T : Nat → ClassId} {B N j cells slots : Nat} {Q : State → Prop} {μ ν : Mem} {cap : Nat} {t : List Nat} {f : Nat → Int64} {g : Nat → UInt64} {H : Heap} {locs : List Loc} {ls : Array Slot} (F : FX l s b D T B) (hN : 1200000000000 ≤ N) (hNP : ∀ x ds, dcN x = some ds → NumP N x ds) (C0 : lw_At p s m meth c b L xs) (hL : L ≤ 2560) (hj : 5 * j + 5 ≤ L) (hR : RR μ ν 0 t) (hcap : cap ≤ 70) (hI : LI s D T B μ cap t ν f g H) (hS : va_S (AL B) s.heap H locs) (hl : lv_has ls 9 (LV b B (nI (5 * j)))) (hce : cells + 1450 ≤ room_1.cells) (hsl : slots + 13186 ≤ room_1.slots) (kk : LK p l e s m b below meth c D T B j cells slots Q) : W p l e room_1 s m #[.ref b] below meth c H locs cells slots Q (F0 m 3037 ls []) := by
  obtain ⟨hx, hb, hr, hml, hown, hts, hX, hbl, hlocks, hgv⟩ := C0
  have hC : gC p c code s m #[.ref b] RL D vwCl (tysG T) := ⟨hx, hb, hown, fun w hw => hts w (wg_tbl hw), F.2.2.2.1⟩
  have hbA : ¬ AL B b := Nat.not_le.mpr (Nat.lt_of_lt_of_le hbl F.2.2.2.2)
  obtain ⟨r, hf, r', hf', hR', hSm, hok⟩ := (q_meanGrains (by omega) hR : Ok (fX10_meanGrains N μ 0) _)
  obtain ⟨h6, h0⟩ := Sm_k hSm (by decide) (by decide)
  refine lv_aload_n hx hb dL_law_3037 rfl (lv_at hl 4 rfl) ?_
  refine lv_aload hx hb dL_law_3038 (lv_at hl 1 rfl) ?_
  refine gl_wrD (As := [.ref (B + 0), .ref (B + 575)]) (rest := []) F hC hml hS hI (metL_meanGrains F Xc_g Xc_od hf (Sm1 hSm)) mw_L_341 ⟨rfl, rfl, (Nat.le_of_ble_eq_true rfl), (Nat.le_of_ble_eq_true rfl)⟩ rfl hl.1 rfl (Nat.le_of_ble_eq_true rfl) dL_law_3040 ⟨by omega, by omega⟩ (fun H locs hI hS => ?_)
  refine lv_istore (lv' := [(6, .int (kL [5] r.2)), (5, .int (nI (5 * j))), (4, .ref (B + 575)), (3, .ref (B + 574)), (2, .ref (B + 562 + 0)), (1, .ref (B + 0)), (0, .ref b)]) hx hb dL_law_3043 hl (by decide) rfl (fun ls hl => ?_)
  refine lv_aload_n hx hb dL_law_3045 rfl (lv_at hl 4 rfl) ?_
  refine gl_mo (As := []) (rest := []) F hC hml hS hI (fun X hX9 => metX11_meanGrains (FX_at F (by have := F.2.2.2.2; omega)) hX9 is_Mo hf') ml_L_344 rfl ⟨rfl, rfl, (Nat.le_of_ble_eq_true rfl), (Nat.le_of_ble_eq_true rfl)⟩ rfl hl.1 rfl (Nat.le_of_ble_eq_true rfl) dL_law_3046 ⟨by omega, by omega⟩ (fun H locs hI hS => ?_)
  refine lv_dstore (lv' := [(7, .double r'.2), (6, .int (kL [5] r.2)), (5, .int (nI (5 * j))), (4, .ref (B + 575)), (3, .ref (B + 574)), (2, .ref (B + 562 + 0)), (1, .ref (B + 0)), (0, .ref b)]) hx hb dL_law_3049 hl (by decide) rfl (fun ls hl => ?_)
  refine lv_aload_n hx hb dL_law_3051 rfl (lv_at hl 5 rfl) ?_
  refine gl_mo (As := []) (rest := []) F hC hml hS hI (fun X hX9 => metX11_thrown (N := N) (r := r'.1 0 6) (FX_at F (by have := F.2.2.2.2; omega)) hX9 is_Mo rfl) ml_L_198 rfl ⟨rfl, rfl, (Nat.le_of_ble_eq_true rfl), (Nat.le_of_ble_eq_true rfl)⟩ rfl hl.1 rfl (Nat.le_of_ble_eq_true rfl) dL_law_3052 ⟨by omega, by omega⟩ (fun H locs hI hS => ?_)
  refine lv_iload hx hb dL_law_3055 (lv_at hl 1 rfl) ?_
  refine lv_icmp_eq (tgt := 3062) hx hb dL_law_3057 (by decide) (fun _ => ?_) (fun z => absurd h6 z)
  refine lv_iload hx hb dL_law_3062 (lv_at hl 1 rfl) ?_
  refine lv_if_ne (tgt := 3099) hx hb dL_law_3064 (by decide) (fun _ => ?_) (fun z => ?_)
  · refine lv_goto (tgt := 3665) hx hb dL_law_3099 (by decide) ?_
    exact lk_end kk (by omega) (by omega) hR' hcap hI hS (lv_sub hl [2, 3, 4, 5, 6, 7] rfl)
  · refine lv_aload hx hb dL_law_3067 (lv_at hl 3 rfl) ?_
    refine lv_iconst (v := 0) hx hb dL_law_3069 (by decide) ?_
    refine gl_dald hC hI.2.2.2 dL_law_3070 ?_
    rw [upD_0 (h0 z)]
    refine lv_dload hx hb dL_law_3071 (lv_at hl 0 rfl) ?_
    refine lv_dcmp hx hb dL_law_3073 ?_
    rw [(hok _ (h0 z)).2]
    refine lv_if_eq (tgt := 3099) hx hb dL_law_3074 (by decide) (fun _ => ?_) (fun z => absurd rfl z)
    refine lv_goto (tgt := 3665) hx hb dL_law_3099 (by decide) ?_
    exact lk_end kk (by omega) (by omega) hR' hcap hI hS (lv_sub hl [2, 3, 4, 5, 6, 7] rfl)
set_option maxHeartbeats 4000000 in
set_option maxRecDepth 100000 in
theorem op_46 {p : Program} {l : Launch} {e : Env} {s : State} {m : MethodId} {below : List Frame} {meth : Method} {c : Code} {b L : Nat} {xs : Nat → Int32} {D : va_G} {T : Nat → ClassId} {B N j cells slots : Nat} {Q : State → Prop} {μ ν : Mem} {cap : Nat} {t : List Nat} {f : Nat → Int64} {g : Nat → UInt64} {H : Heap} {locs : List Loc} {ls : Array Slot} (F : FX l s b D T B) (hN : 1200000000000 ≤ N) (hNP : ∀ x ds, dcN x = some ds → NumP N x ds) (C0 : lw_At p s m meth c b L xs) (hL : L ≤ 2560) (hj : 5 * j + 5 ≤ L) (hR : RR μ ν 0 t) (hcap : cap ≤ 70) (hI : LI s D T B μ cap t ν f g H) (hS : va_S (AL B) s.heap H locs) (hl : lv_has ls 9 (LV b B (nI (5 * j)))) (hce : cells + 1450 ≤ room_1.cells) (hsl : slots + 13186 ≤ room_1.slots) (kk : LK p l e s m b below meth c D T B j cells slots Q) : W p l e room_1 s m #[.ref b] below meth c H locs cells slots Q (F0 m 3102 ls []) := by
  obtain ⟨hx, hb, hr, hml, hown, hts, hX, hbl, hlocks, hgv⟩ := C0
  have hC : gC p c code s m #[.ref b] RL D vwCl (tysG T) := ⟨hx, hb, hown, fun w hw => hts w (wg_tbl hw), F.2.2.2.1⟩
  have hbA : ¬ AL B b := Nat.not_le.mpr (Nat.lt_of_lt_of_le hbl F.2.2.2.2)
  obtain ⟨r, hf, r', hf', hR', hSm, hok⟩ := (q_lentFraction (by omega) hR : Ok (fX10_lentFraction N μ 0) _)
  obtain ⟨h6, h0⟩ := Sm_k hSm (by decide) (by decide)
  refine lv_aload_n hx hb dL_law_3102 rfl (lv_at hl 4 rfl) ?_
  refine lv_aload hx hb dL_law_3103 (lv_at hl 1 rfl) ?_
  refine gl_wrD (As := [.ref (B + 0), .ref (B + 575)]) (rest := []) F hC hml hS hI (metL_lentFraction F Xc_g Xc_od hf (Sm1 hSm) (fun x hx => (hok x hx).2.1)) mw_L_345 ⟨rfl, rfl, (Nat.le_of_ble_eq_true rfl), (Nat.le_of_ble_eq_true rfl)⟩ rfl hl.1 rfl (Nat.le_of_ble_eq_true rfl) dL_law_3105 ⟨by omega, by omega⟩ (fun H locs hI hS => ?_)
  refine lv_istore (lv' := [(6, .int (kL [5] r.2)), (5, .int (nI (5 * j))), (4, .ref (B + 575)), (3, .ref (B + 574)), (2, .ref (B + 562 + 0)), (1, .ref (B + 0)), (0, .ref b)]) hx hb dL_law_3108 hl (by decide) rfl (fun ls hl => ?_)
  refine lv_aload_n hx hb dL_law_3110 rfl (lv_at hl 4 rfl) ?_
  refine gl_mo (As := []) (rest := []) F hC hml hS hI (fun X hX9 => metX11_lentFraction (FX_at F (by have := F.2.2.2.2; omega)) hX9 is_Mo hf') ml_L_347 rfl ⟨rfl, rfl, (Nat.le_of_ble_eq_true rfl), (Nat.le_of_ble_eq_true rfl)⟩ rfl hl.1 rfl (Nat.le_of_ble_eq_true rfl) dL_law_3111 ⟨by omega, by omega⟩ (fun H locs hI hS => ?_)
  refine lv_fstore (lv' := [(7, .float r'.2), (6, .int (kL [5] r.2)), (5, .int (nI (5 * j))), (4, .ref (B + 575)), (3, .ref (B + 574)), (2, .ref (B + 562 + 0)), (1, .ref (B + 0)), (0, .ref b)]) hx hb dL_law_3114 hl (by decide) rfl (fun ls hl => ?_)
  refine lv_aload_n hx hb dL_law_3116 rfl (lv_at hl 5 rfl) ?_
  refine gl_mo (As := []) (rest := []) F hC hml hS hI (fun X hX9 => metX11_thrown (N := N) (r := r'.1 0 6) (FX_at F (by have := F.2.2.2.2; omega)) hX9 is_Mo rfl) ml_L_198 rfl ⟨rfl, rfl, (Nat.le_of_ble_eq_true rfl), (Nat.le_of_ble_eq_true rfl)⟩ rfl hl.1 rfl (Nat.le_of_ble_eq_true rfl) dL_law_3117 ⟨by omega, by omega⟩ (fun H locs hI hS => ?_)
  refine lv_iload hx hb dL_law_3120 (lv_at hl 1 rfl) ?_
  refine lv_icmp_eq (tgt := 3127) hx hb dL_law_3122 (by decide) (fun _ => ?_) (fun z => absurd h6 z)
  refine lv_iload hx hb dL_law_3127 (lv_at hl 1 rfl) ?_
  refine lv_if_ne (tgt := 3165) hx hb dL_law_3129 (by decide) (fun _ => ?_) (fun z => ?_)
  · refine lv_goto (tgt := 3665) hx hb dL_law_3165 (by decide) ?_
    exact lk_end kk (by omega) (by omega) hR' hcap hI hS (lv_sub hl [2, 3, 4, 5, 6, 7] rfl)
  · refine lv_aload hx hb dL_law_3132 (lv_at hl 3 rfl) ?_
    refine lv_iconst (v := 0) hx hb dL_law_3134 (by decide) ?_
    refine gl_dald hC hI.2.2.2 dL_law_3135 ?_
    rw [upF_0 (h0 z)]
    refine lv_fload hx hb dL_law_3136 (lv_at hl 0 rfl) ?_
    refine lv_f2d hx hb dL_law_3138 (hok _ (h0 z)).2.1 ?_
    refine lv_dcmp hx hb dL_law_3139 ?_
    rw [(hok _ (h0 z)).2.2]
    refine lv_if_eq (tgt := 3165) hx hb dL_law_3140 (by decide) (fun _ => ?_) (fun z => absurd rfl z)
    refine lv_goto (tgt := 3665) hx hb dL_law_3165 (by decide) ?_
    exact lk_end kk (by omega) (by omega) hR' hcap hI hS (lv_sub hl [2, 3, 4, 5, 6, 7] rfl)
set_option maxHeartbeats 4000000 in
set_option maxRecDepth 100000 in
theorem op_47 {p : Program} {l : Launch} {e : Env} {s : State} {m : MethodId} {below : List Frame} {meth : Method} {c : Code} {b L : Nat} {xs : Nat → Int32} {D : va_G} {T : Nat → ClassId} {B N j cells slots : Nat} {Q : State → Prop} {μ ν : Mem} {cap : Nat} {t : List Nat} {f : Nat → Int64} {g : Nat → UInt64} {H : Heap} {locs : List Loc} {ls : Array Slot} (F : FX l s b D T B) (hN : 1200000000000 ≤ N) (hNP : ∀ x ds, dcN x = some ds → NumP N x ds) (C0 : lw_At p s m meth c b L xs) (hL : L ≤ 2560) (hj : 5 * j + 5 ≤ L) (hR : RR μ ν 0 t) (hcap : cap ≤ 70) (hI : LI s D T B μ cap t ν f g H) (hS : va_S (AL B) s.heap H locs) (hl : lv_has ls 9 (LV b B (nI (5 * j)))) (hce : cells + 1450 ≤ room_1.cells) (hsl : slots + 13186 ≤ room_1.slots) (kk : LK p l e s m b below meth c D T B j cells slots Q) : W p l e room_1 s m #[.ref b] below meth c H locs cells slots Q (F0 m 3168 ls []) := by
  obtain ⟨hx, hb, hr, hml, hown, hts, hX, hbl, hlocks, hgv⟩ := C0
  have hC : gC p c code s m #[.ref b] RL D vwCl (tysG T) := ⟨hx, hb, hown, fun w hw => hts w (wg_tbl hw), F.2.2.2.1⟩
  have hbA : ¬ AL B b := Nat.not_le.mpr (Nat.lt_of_lt_of_le hbl F.2.2.2.2)
  obtain ⟨r, hf, r', hf', hR', hcap, hSm⟩ := (q_writePile (by omega) hcap hR : Ok (fX10_writePile N cap t μ 0 (xs (nI (5 * j) + 1).toNatClampNeg)) _)
  obtain ⟨h6, h0⟩ := Sm_k hSm (by decide) (by decide)
  refine lv_aload_n hx hb dL_law_3168 rfl (lv_at hl 4 rfl) ?_
  refine lv_aload_n hx hb dL_law_3169 rfl (lv_at hl 5 rfl) ?_
  refine lv_iload hx hb dL_law_3170 (lv_at hl 0 rfl) ?_
  refine lv_iconst (v := 1) hx hb dL_law_3172 (by decide) ?_
  refine lv_iadd hx hb dL_law_3173 ?_
  refine va_sld hx hb hX hbl hbA hS (sc_in 1 hj hL (by decide)) dL_law_3174 ?_
  refine lv_aload_n hx hb dL_law_3175 rfl (lv_at hl 2 rfl) ?_
  refine gl_wr (As := [.ref (B + 0), .int (xs (nI (5 * j) + 1).toNatClampNeg), .ref (B + 574)]) (rest := []) F hC hml hS hI (metL_writePile F Xc_g Xc_ob hNP hf (Sm1 hSm)) mw_L_348 ⟨rfl, rfl, (Nat.le_of_ble_eq_true rfl), (Nat.le_of_ble_eq_true rfl)⟩ rfl hl.1 rfl (Nat.le_of_ble_eq_true rfl) dL_law_3176 ⟨by omega, by omega⟩ (fun H locs hI hS => ?_)
  refine lv_istore (lv' := [(6, .int (kL [0] r.2)), (5, .int (nI (5 * j))), (4, .ref (B + 575)), (3, .ref (B + 574)), (2, .ref (B + 562 + 0)), (1, .ref (B + 0)), (0, .ref b)]) hx hb dL_law_3179 hl (by decide) rfl (fun ls hl => ?_)
  refine lv_aload_n hx hb dL_law_3181 rfl (lv_at hl 4 rfl) ?_
  refine lv_aload_n hx hb dL_law_3182 rfl (lv_at hl 6 rfl) ?_
  refine lv_iload hx hb dL_law_3183 (lv_at hl 1 rfl) ?_
  refine lv_iconst (v := 1) hx hb dL_law_3185 (by decide) ?_
  refine lv_iadd hx hb dL_law_3186 ?_
  refine va_sld hx hb hX hbl hbA hS (sc_in 1 hj hL (by decide)) dL_law_3187 ?_
  refine gl_mo (As := [.int (xs (nI (5 * j) + 1).toNatClampNeg)]) (rest := []) F hC hml hS hI (fun X hX9 => metX11_writePile (FX_at F (by have := F.2.2.2.2; omega)) hX9 is_Mo hf') ml_L_350 rfl ⟨rfl, rfl, (Nat.le_of_ble_eq_true rfl), (Nat.le_of_ble_eq_true rfl)⟩ rfl hl.1 rfl (Nat.le_of_ble_eq_true rfl) dL_law_3188 ⟨by omega, by omega⟩ (fun H locs hI hS => ?_)
  refine lv_istore (lv' := [(7, .int r'.2), (6, .int (kL [0] r.2)), (5, .int (nI (5 * j))), (4, .ref (B + 575)), (3, .ref (B + 574)), (2, .ref (B + 562 + 0)), (1, .ref (B + 0)), (0, .ref b)]) hx hb dL_law_3191 hl (by decide) rfl (fun ls hl => ?_)
  refine lv_aload_n hx hb dL_law_3193 rfl (lv_at hl 5 rfl) ?_
  refine gl_mo (As := []) (rest := []) F hC hml hS hI (fun X hX9 => metX11_thrown (N := N) (r := r'.1 0 6) (FX_at F (by have := F.2.2.2.2; omega)) hX9 is_Mo rfl) ml_L_198 rfl ⟨rfl, rfl, (Nat.le_of_ble_eq_true rfl), (Nat.le_of_ble_eq_true rfl)⟩ rfl hl.1 rfl (Nat.le_of_ble_eq_true rfl) dL_law_3194 ⟨by omega, by omega⟩ (fun H locs hI hS => ?_)
  refine lv_iload hx hb dL_law_3197 (lv_at hl 1 rfl) ?_
  refine lv_icmp_eq (tgt := 3204) hx hb dL_law_3199 (by decide) (fun _ => ?_) (fun z => absurd h6 z)
  refine lv_iload hx hb dL_law_3204 (lv_at hl 1 rfl) ?_
  refine lv_if_ne (tgt := 3221) hx hb dL_law_3206 (by decide) (fun _ => ?_) (fun z => ?_)
  · refine lv_goto (tgt := 3665) hx hb dL_law_3221 (by decide) ?_
    exact lk_end kk (by omega) (by omega) hR' hcap hI hS (lv_sub hl [2, 3, 4, 5, 6, 7] rfl)
  · refine lv_aload_n hx hb dL_law_3209 rfl (lv_at hl 4 rfl) ?_
    refine lv_iconst (v := 0) hx hb dL_law_3210 (by decide) ?_
    refine gl_lald hC hI.2.2.1 dL_law_3211 ?_
    rw [upI_0 (h0 z)]
    refine lv_iload hx hb dL_law_3212 (lv_at hl 0 rfl) ?_
    refine lv_i2l hx hb dL_law_3214 rfl ?_
    refine W.lcmp hx hb dL_law_3215 ?_
    rw [lg_cmp_self]
    refine lv_if_eq (tgt := 3221) hx hb dL_law_3216 (by decide) (fun _ => ?_) (fun z => absurd rfl z)
    refine lv_goto (tgt := 3665) hx hb dL_law_3221 (by decide) ?_
    exact lk_end kk (by omega) (by omega) hR' hcap hI hS (lv_sub hl [2, 3, 4, 5, 6, 7] rfl)
set_option maxHeartbeats 4000000 in
set_option maxRecDepth 100000 in
theorem op_48 {p : Program} {l : Launch} {e : Env} {s : State} {m : MethodId} {below : List Frame} {meth : Method} {c : Code} {b L : Nat} {xs : Nat → Int32} {D : va_G} {T : Nat → ClassId} {B N j cells slots : Nat} {Q : State → Prop} {μ ν : Mem} {cap : Nat} {t : List Nat} {f : Nat → Int64} {g : Nat → UInt64} {H : Heap} {locs : List Loc} {ls : Array Slot} (F : FX l s b D T B) (hN : 1200000000000 ≤ N) (hNP : ∀ x ds, dcN x = some ds → NumP N x ds) (C0 : lw_At p s m meth c b L xs) (hL : L ≤ 2560) (hj : 5 * j + 5 ≤ L) (hR : RR μ ν 0 t) (hcap : cap ≤ 70) (hI : LI s D T B μ cap t ν f g H) (hS : va_S (AL B) s.heap H locs) (hl : lv_has ls 9 (LV b B (nI (5 * j)))) (hce : cells + 1450 ≤ room_1.cells) (hsl : slots + 13186 ≤ room_1.slots) (kk : LK p l e s m b below meth c D T B j cells slots Q) : W p l e room_1 s m #[.ref b] below meth c H locs cells slots Q (F0 m 3224 ls []) := by
  obtain ⟨hx, hb, hr, hml, hown, hts, hX, hbl, hlocks, hgv⟩ := C0
  have hC : gC p c code s m #[.ref b] RL D vwCl (tysG T) := ⟨hx, hb, hown, fun w hw => hts w (wg_tbl hw), F.2.2.2.1⟩
  have hbA : ¬ AL B b := Nat.not_le.mpr (Nat.lt_of_lt_of_le hbl F.2.2.2.2)
  obtain ⟨r, hf, r', hf', hR', hcap, hSm⟩ := (q_writeWay (by omega) hcap hR : Ok (fX10_writeWay N cap t μ 0 (xs (nI (5 * j) + 1).toNatClampNeg) (xs (nI (5 * j) + 2).toNatClampNeg)) _)
  obtain ⟨h6, h0⟩ := Sm_k hSm (by decide) (by decide)
  refine lv_aload_n hx hb dL_law_3224 rfl (lv_at hl 4 rfl) ?_
  refine lv_aload_n hx hb dL_law_3225 rfl (lv_at hl 5 rfl) ?_
  refine lv_iload hx hb dL_law_3226 (lv_at hl 0 rfl) ?_
  refine lv_iconst (v := 1) hx hb dL_law_3228 (by decide) ?_
  refine lv_iadd hx hb dL_law_3229 ?_
  refine va_sld hx hb hX hbl hbA hS (sc_in 1 hj hL (by decide)) dL_law_3230 ?_
  refine lv_aload_n hx hb dL_law_3231 rfl (lv_at hl 5 rfl) ?_
  refine lv_iload hx hb dL_law_3232 (lv_at hl 0 rfl) ?_
  refine lv_iconst (v := 2) hx hb dL_law_3234 (by decide) ?_
  refine lv_iadd hx hb dL_law_3235 ?_
  refine va_sld hx hb hX hbl hbA hS (sc_in 2 hj hL (by decide)) dL_law_3236 ?_
  refine lv_aload_n hx hb dL_law_3237 rfl (lv_at hl 2 rfl) ?_
  refine gl_wr (As := [.ref (B + 0), .int (xs (nI (5 * j) + 1).toNatClampNeg), .int (xs (nI (5 * j) + 2).toNatClampNeg), .ref (B + 574)]) (rest := []) F hC hml hS hI (metL_writeWay F Xc_g Xc_ob hNP hf (Sm2 hSm)) mw_L_351 ⟨rfl, rfl, (Nat.le_of_ble_eq_true rfl), (Nat.le_of_ble_eq_true rfl)⟩ rfl hl.1 rfl (Nat.le_of_ble_eq_true rfl) dL_law_3238 ⟨by omega, by omega⟩ (fun H locs hI hS => ?_)
  refine lv_istore (lv' := [(6, .int (kL [0, 3] r.2)), (5, .int (nI (5 * j))), (4, .ref (B + 575)), (3, .ref (B + 574)), (2, .ref (B + 562 + 0)), (1, .ref (B + 0)), (0, .ref b)]) hx hb dL_law_3241 hl (by decide) rfl (fun ls hl => ?_)
  refine lv_aload_n hx hb dL_law_3243 rfl (lv_at hl 4 rfl) ?_
  refine lv_aload_n hx hb dL_law_3244 rfl (lv_at hl 6 rfl) ?_
  refine lv_iload hx hb dL_law_3245 (lv_at hl 1 rfl) ?_
  refine lv_iconst (v := 1) hx hb dL_law_3247 (by decide) ?_
  refine lv_iadd hx hb dL_law_3248 ?_
  refine va_sld hx hb hX hbl hbA hS (sc_in 1 hj hL (by decide)) dL_law_3249 ?_
  refine lv_aload_n hx hb dL_law_3250 rfl (lv_at hl 6 rfl) ?_
  refine lv_iload hx hb dL_law_3251 (lv_at hl 1 rfl) ?_
  refine lv_iconst (v := 2) hx hb dL_law_3253 (by decide) ?_
  refine lv_iadd hx hb dL_law_3254 ?_
  refine va_sld hx hb hX hbl hbA hS (sc_in 2 hj hL (by decide)) dL_law_3255 ?_
  refine gl_mo (As := [.int (xs (nI (5 * j) + 1).toNatClampNeg), .int (xs (nI (5 * j) + 2).toNatClampNeg)]) (rest := []) F hC hml hS hI (fun X hX9 => metX11_writeWay (FX_at F (by have := F.2.2.2.2; omega)) hX9 is_Mo hf') ml_L_353 rfl ⟨rfl, rfl, (Nat.le_of_ble_eq_true rfl), (Nat.le_of_ble_eq_true rfl)⟩ rfl hl.1 rfl (Nat.le_of_ble_eq_true rfl) dL_law_3256 ⟨by omega, by omega⟩ (fun H locs hI hS => ?_)
  refine lv_istore (lv' := [(7, .int r'.2), (6, .int (kL [0, 3] r.2)), (5, .int (nI (5 * j))), (4, .ref (B + 575)), (3, .ref (B + 574)), (2, .ref (B + 562 + 0)), (1, .ref (B + 0)), (0, .ref b)]) hx hb dL_law_3259 hl (by decide) rfl (fun ls hl => ?_)
  refine lv_aload_n hx hb dL_law_3261 rfl (lv_at hl 5 rfl) ?_
  refine gl_mo (As := []) (rest := []) F hC hml hS hI (fun X hX9 => metX11_thrown (N := N) (r := r'.1 0 6) (FX_at F (by have := F.2.2.2.2; omega)) hX9 is_Mo rfl) ml_L_198 rfl ⟨rfl, rfl, (Nat.le_of_ble_eq_true rfl), (Nat.le_of_ble_eq_true rfl)⟩ rfl hl.1 rfl (Nat.le_of_ble_eq_true rfl) dL_law_3262 ⟨by omega, by omega⟩ (fun H locs hI hS => ?_)
  refine lv_iload hx hb dL_law_3265 (lv_at hl 1 rfl) ?_
  refine lv_icmp_eq (tgt := 3272) hx hb dL_law_3267 (by decide) (fun _ => ?_) (fun z => absurd h6 z)
  refine lv_iload hx hb dL_law_3272 (lv_at hl 1 rfl) ?_
  refine lv_if_ne (tgt := 3289) hx hb dL_law_3274 (by decide) (fun _ => ?_) (fun z => ?_)
  · refine lv_goto (tgt := 3665) hx hb dL_law_3289 (by decide) ?_
    exact lk_end kk (by omega) (by omega) hR' hcap hI hS (lv_sub hl [2, 3, 4, 5, 6, 7] rfl)
  · refine lv_aload_n hx hb dL_law_3277 rfl (lv_at hl 4 rfl) ?_
    refine lv_iconst (v := 0) hx hb dL_law_3278 (by decide) ?_
    refine gl_lald hC hI.2.2.1 dL_law_3279 ?_
    rw [upI_0 (h0 z)]
    refine lv_iload hx hb dL_law_3280 (lv_at hl 0 rfl) ?_
    refine lv_i2l hx hb dL_law_3282 rfl ?_
    refine W.lcmp hx hb dL_law_3283 ?_
    rw [lg_cmp_self]
    refine lv_if_eq (tgt := 3289) hx hb dL_law_3284 (by decide) (fun _ => ?_) (fun z => absurd rfl z)
    refine lv_goto (tgt := 3665) hx hb dL_law_3289 (by decide) ?_
    exact lk_end kk (by omega) (by omega) hR' hcap hI hS (lv_sub hl [2, 3, 4, 5, 6, 7] rfl)
set_option maxHeartbeats 4000000 in
set_option maxRecDepth 100000 in
theorem op_49 {p : Program} {l : Launch} {e : Env} {s : State} {m : MethodId} {below : List Frame} {meth : Method} {c : Code} {b L : Nat} {xs : Nat → Int32} {D : va_G} {T : Nat → ClassId} {B N j cells slots : Nat} {Q : State → Prop} {μ ν : Mem} {cap : Nat} {t : List Nat} {f : Nat → Int64} {g : Nat → UInt64} {H : Heap} {locs : List Loc} {ls : Array Slot} (F : FX l s b D T B) (hN : 1200000000000 ≤ N) (hNP : ∀ x ds, dcN x = some ds → NumP N x ds) (C0 : lw_At p s m meth c b L xs) (hL : L ≤ 2560) (hj : 5 * j + 5 ≤ L) (hR : RR μ ν 0 t) (hcap : cap ≤ 70) (hI : LI s D T B μ cap t ν f g H) (hS : va_S (AL B) s.heap H locs) (hl : lv_has ls 9 (LV b B (nI (5 * j)))) (hce : cells + 1450 ≤ room_1.cells) (hsl : slots + 13186 ≤ room_1.slots) (kk : LK p l e s m b below meth c D T B j cells slots Q) : W p l e room_1 s m #[.ref b] below meth c H locs cells slots Q (F0 m 3292 ls []) := by
  obtain ⟨hx, hb, hr, hml, hown, hts, hX, hbl, hlocks, hgv⟩ := C0
  have hC : gC p c code s m #[.ref b] RL D vwCl (tysG T) := ⟨hx, hb, hown, fun w hw => hts w (wg_tbl hw), F.2.2.2.1⟩
  have hbA : ¬ AL B b := Nat.not_le.mpr (Nat.lt_of_lt_of_le hbl F.2.2.2.2)
  obtain ⟨r', hf', hR', hSm⟩ := (q_outputCharacter hR : Ok (fX11_outputCharacter N ν 0 (xs (nI (5 * j) + 1).toNatClampNeg)) _)
  have hSm : Sm [0] (oC t (xs (nI (5 * j) + 1).toNatClampNeg)) r'.1 0 r'.2 := hSm
  obtain ⟨h6, h0⟩ := Sm_k hSm (by decide) (by decide)
  refine lv_aload_n hx hb dL_law_3292 rfl (lv_at hl 4 rfl) ?_
  refine lv_aload_n hx hb dL_law_3293 rfl (lv_at hl 5 rfl) ?_
  refine lv_iload hx hb dL_law_3294 (lv_at hl 0 rfl) ?_
  refine lv_iconst (v := 1) hx hb dL_law_3296 (by decide) ?_
  refine lv_iadd hx hb dL_law_3297 ?_
  refine va_sld hx hb hX hbl hbA hS (sc_in 1 hj hL (by decide)) dL_law_3298 ?_
  refine lv_aload_n hx hb dL_law_3299 rfl (lv_at hl 2 rfl) ?_
  refine gl_wr (As := [.ref (B + 0), .int (xs (nI (5 * j) + 1).toNatClampNeg), .ref (B + 574)]) (rest := []) F hC hml hS hI (metL_outputCharacter F Xc_g Xc_ob (Sm1 hSm)) mw_L_354 ⟨rfl, rfl, (Nat.le_of_ble_eq_true rfl), (Nat.le_of_ble_eq_true rfl)⟩ rfl hl.1 rfl (Nat.le_of_ble_eq_true rfl) dL_law_3300 ⟨by omega, by omega⟩ (fun H locs hI hS => ?_)
  refine lv_istore (lv' := [(6, .int (kL [0] (oC t (xs (nI (5 * j) + 1).toNatClampNeg)))), (5, .int (nI (5 * j))), (4, .ref (B + 575)), (3, .ref (B + 574)), (2, .ref (B + 562 + 0)), (1, .ref (B + 0)), (0, .ref b)]) hx hb dL_law_3303 hl (by decide) rfl (fun ls hl => ?_)
  refine lv_aload_n hx hb dL_law_3305 rfl (lv_at hl 4 rfl) ?_
  refine lv_aload_n hx hb dL_law_3306 rfl (lv_at hl 6 rfl) ?_
  refine lv_iload hx hb dL_law_3307 (lv_at hl 1 rfl) ?_
  refine lv_iconst (v := 1) hx hb dL_law_3309 (by decide) ?_
  refine lv_iadd hx hb dL_law_3310 ?_
  refine va_sld hx hb hX hbl hbA hS (sc_in 1 hj hL (by decide)) dL_law_3311 ?_
  refine gl_mo (As := [.int (xs (nI (5 * j) + 1).toNatClampNeg)]) (rest := []) F hC hml hS hI (fun X hX9 => metX11_outputCharacter (FX_at F (by have := F.2.2.2.2; omega)) hX9 is_Mo hf') ml_L_356 rfl ⟨rfl, rfl, (Nat.le_of_ble_eq_true rfl), (Nat.le_of_ble_eq_true rfl)⟩ rfl hl.1 rfl (Nat.le_of_ble_eq_true rfl) dL_law_3312 ⟨by omega, by omega⟩ (fun H locs hI hS => ?_)
  refine lv_istore (lv' := [(7, .int r'.2), (6, .int (kL [0] (oC t (xs (nI (5 * j) + 1).toNatClampNeg)))), (5, .int (nI (5 * j))), (4, .ref (B + 575)), (3, .ref (B + 574)), (2, .ref (B + 562 + 0)), (1, .ref (B + 0)), (0, .ref b)]) hx hb dL_law_3315 hl (by decide) rfl (fun ls hl => ?_)
  refine lv_aload_n hx hb dL_law_3317 rfl (lv_at hl 5 rfl) ?_
  refine gl_mo (As := []) (rest := []) F hC hml hS hI (fun X hX9 => metX11_thrown (N := N) (r := r'.1 0 6) (FX_at F (by have := F.2.2.2.2; omega)) hX9 is_Mo rfl) ml_L_198 rfl ⟨rfl, rfl, (Nat.le_of_ble_eq_true rfl), (Nat.le_of_ble_eq_true rfl)⟩ rfl hl.1 rfl (Nat.le_of_ble_eq_true rfl) dL_law_3318 ⟨by omega, by omega⟩ (fun H locs hI hS => ?_)
  refine lv_iload hx hb dL_law_3321 (lv_at hl 1 rfl) ?_
  refine lv_icmp_eq (tgt := 3328) hx hb dL_law_3323 (by decide) (fun _ => ?_) (fun z => absurd h6 z)
  refine lv_iload hx hb dL_law_3328 (lv_at hl 1 rfl) ?_
  refine lv_if_ne (tgt := 3345) hx hb dL_law_3330 (by decide) (fun _ => ?_) (fun z => ?_)
  · refine lv_goto (tgt := 3665) hx hb dL_law_3345 (by decide) ?_
    exact lk_end kk (by omega) (by omega) hR' hcap hI hS (lv_sub hl [2, 3, 4, 5, 6, 7] rfl)
  · refine lv_aload_n hx hb dL_law_3333 rfl (lv_at hl 4 rfl) ?_
    refine lv_iconst (v := 0) hx hb dL_law_3334 (by decide) ?_
    refine gl_lald hC hI.2.2.1 dL_law_3335 ?_
    rw [upI_0 (h0 z)]
    refine lv_iload hx hb dL_law_3336 (lv_at hl 0 rfl) ?_
    refine lv_i2l hx hb dL_law_3338 rfl ?_
    refine W.lcmp hx hb dL_law_3339 ?_
    rw [lg_cmp_self]
    refine lv_if_eq (tgt := 3345) hx hb dL_law_3340 (by decide) (fun _ => ?_) (fun z => absurd rfl z)
    refine lv_goto (tgt := 3665) hx hb dL_law_3345 (by decide) ?_
    exact lk_end kk (by omega) (by omega) hR' hcap hI hS (lv_sub hl [2, 3, 4, 5, 6, 7] rfl)
set_option maxHeartbeats 4000000 in
set_option maxRecDepth 100000 in
theorem op_50 {p : Program} {l : Launch} {e : Env} {s : State} {m : MethodId} {below : List Frame} {meth : Method} {c : Code} {b L : Nat} {xs : Nat → Int32} {D : va_G} {T : Nat → ClassId} {B N j cells slots : Nat} {Q : State → Prop} {μ ν : Mem} {cap : Nat} {t : List Nat} {f : Nat → Int64} {g : Nat → UInt64} {H : Heap} {locs : List Loc} {ls : Array Slot} (F : FX l s b D T B) (hN : 1200000000000 ≤ N) (hNP : ∀ x ds, dcN x = some ds → NumP N x ds) (C0 : lw_At p s m meth c b L xs) (hL : L ≤ 2560) (hj : 5 * j + 5 ≤ L) (hR : RR μ ν 0 t) (hcap : cap ≤ 70) (hI : LI s D T B μ cap t ν f g H) (hS : va_S (AL B) s.heap H locs) (hl : lv_has ls 9 (LV b B (nI (5 * j)))) (hce : cells + 1450 ≤ room_1.cells) (hsl : slots + 13186 ≤ room_1.slots) (kk : LK p l e s m b below meth c D T B j cells slots Q) : W p l e room_1 s m #[.ref b] below meth c H locs cells slots Q (F0 m 3348 ls []) := by
  obtain ⟨hx, hb, hr, hml, hown, hts, hX, hbl, hlocks, hgv⟩ := C0
  have hC : gC p c code s m #[.ref b] RL D vwCl (tysG T) := ⟨hx, hb, hown, fun w hw => hts w (wg_tbl hw), F.2.2.2.1⟩
  have hbA : ¬ AL B b := Nat.not_le.mpr (Nat.lt_of_lt_of_le hbl F.2.2.2.2)
  obtain ⟨r, hf, r', hf', hR', he⟩ := (q_isConsistent (by omega) hR : Ok (fX10_isConsistent N μ 0) _)
  refine lv_aload_n hx hb dL_law_3348 rfl (lv_at hl 4 rfl) ?_
  refine gl_cl (As := []) (rest := []) F hC hml hS hI (fun X hX9 => metX10_isConsistent F hX9 is_Ga hf) ml_L_357 rfl ⟨rfl, rfl, (Nat.le_of_ble_eq_true rfl), (Nat.le_of_ble_eq_true rfl)⟩ rfl hl.1 rfl (Nat.le_of_ble_eq_true rfl) dL_law_3349 ⟨by omega, by omega⟩ (fun H locs hI hS => ?_)
  refine lv_aload_n hx hb dL_law_3352 rfl (lv_at hl 3 rfl) ?_
  refine gl_mo (As := []) (rest := [.int (b2i r.2)]) F hC hml hS hI (fun X hX9 => metX11_isConsistent (FX_at F (by have := F.2.2.2.2; omega)) hX9 is_Mo hf') ml_L_361 rfl ⟨rfl, rfl, (Nat.le_of_ble_eq_true rfl), (Nat.le_of_ble_eq_true rfl)⟩ rfl hl.1 rfl (Nat.le_of_ble_eq_true rfl) dL_law_3353 ⟨by omega, by omega⟩ (fun H locs hI hS => ?_)
  refine lv_icmp_eq (tgt := 3665) hx hb dL_law_3356 (by decide) (fun _ => ?_) (fun z => absurd (congrArg b2i he.symm) z)
  exact lk_end kk (by omega) (by omega) hR' hcap hI hS hl
set_option maxHeartbeats 4000000 in
set_option maxRecDepth 100000 in
theorem op_51 {p : Program} {l : Launch} {e : Env} {s : State} {m : MethodId} {below : List Frame} {meth : Method} {c : Code} {b L : Nat} {xs : Nat → Int32} {D : va_G} {T : Nat → ClassId} {B N j cells slots : Nat} {Q : State → Prop} {μ ν : Mem} {cap : Nat} {t : List Nat} {f : Nat → Int64} {g : Nat → UInt64} {H : Heap} {locs : List Loc} {ls : Array Slot} (F : FX l s b D T B) (hN : 1200000000000 ≤ N) (hNP : ∀ x ds, dcN x = some ds → NumP N x ds) (C0 : lw_At p s m meth c b L xs) (hL : L ≤ 2560) (hj : 5 * j + 5 ≤ L) (hR : RR μ ν 0 t) (hcap : cap ≤ 70) (hI : LI s D T B μ cap t ν f g H) (hS : va_S (AL B) s.heap H locs) (hl : lv_has ls 9 (LV b B (nI (5 * j)))) (hce : cells + 1450 ≤ room_1.cells) (hsl : slots + 13186 ≤ room_1.slots) (kk : LK p l e s m b below meth c D T B j cells slots Q) : W p l e room_1 s m #[.ref b] below meth c H locs cells slots Q (F0 m 3361 ls []) := by
  obtain ⟨hx, hb, hr, hml, hown, hts, hX, hbl, hlocks, hgv⟩ := C0
  have hC : gC p c code s m #[.ref b] RL D vwCl (tysG T) := ⟨hx, hb, hown, fun w hw => hts w (wg_tbl hw), F.2.2.2.1⟩
  have hbA : ¬ AL B b := Nat.not_le.mpr (Nat.lt_of_lt_of_le hbl F.2.2.2.2)
  obtain ⟨ch, hch9, hch⟩ := i2c_n (xs (nI (5 * j) + 1).toNatClampNeg)
  obtain ⟨r, hf, r', hf', hR', hSm⟩ := (q_feed hch9 hR : Ok (fX10_feed N μ 0 (nI ch)) _)
  obtain ⟨h6, h0⟩ := Sm_k hSm (by decide) (by decide)
  refine lv_aload_n hx hb dL_law_3361 rfl (lv_at hl 4 rfl) ?_
  refine lv_aload_n hx hb dL_law_3362 rfl (lv_at hl 5 rfl) ?_
  refine lv_iload hx hb dL_law_3363 (lv_at hl 0 rfl) ?_
  refine lv_iconst (v := 1) hx hb dL_law_3365 (by decide) ?_
  refine lv_iadd hx hb dL_law_3366 ?_
  refine va_sld hx hb hX hbl hbA hS (sc_in 1 hj hL (by decide)) dL_law_3367 ?_
  refine lv_i2c hx hb dL_law_3368 hch ?_
  refine lv_aload_n hx hb dL_law_3369 rfl (lv_at hl 2 rfl) ?_
  refine gl_wr (As := [.ref (B + 0), .int (nI ch), .ref (B + 574)]) (rest := []) F hC hml hS hI (metL_feed F Xc_g Xc_ob hf (Sm1 hSm)) mw_L_362 ⟨rfl, rfl, (Nat.le_of_ble_eq_true rfl), (Nat.le_of_ble_eq_true rfl)⟩ rfl hl.1 rfl (Nat.le_of_ble_eq_true rfl) dL_law_3370 ⟨by omega, by omega⟩ (fun H locs hI hS => ?_)
  refine lv_istore (lv' := [(6, .int (kL [2] r.2)), (5, .int (nI (5 * j))), (4, .ref (B + 575)), (3, .ref (B + 574)), (2, .ref (B + 562 + 0)), (1, .ref (B + 0)), (0, .ref b)]) hx hb dL_law_3373 hl (by decide) rfl (fun ls hl => ?_)
  refine lv_aload_n hx hb dL_law_3375 rfl (lv_at hl 4 rfl) ?_
  refine lv_aload_n hx hb dL_law_3376 rfl (lv_at hl 6 rfl) ?_
  refine lv_iload hx hb dL_law_3377 (lv_at hl 1 rfl) ?_
  refine lv_iconst (v := 1) hx hb dL_law_3379 (by decide) ?_
  refine lv_iadd hx hb dL_law_3380 ?_
  refine va_sld hx hb hX hbl hbA hS (sc_in 1 hj hL (by decide)) dL_law_3381 ?_
  refine lv_i2c hx hb dL_law_3382 hch ?_
  refine gl_mo (As := [.int (nI ch)]) (rest := []) F hC hml hS hI (fun X hX9 => metX11_feed (FX_at F (by have := F.2.2.2.2; omega)) hX9 is_Mo hf') ml_L_365 rfl ⟨rfl, rfl, (Nat.le_of_ble_eq_true rfl), (Nat.le_of_ble_eq_true rfl)⟩ rfl hl.1 rfl (Nat.le_of_ble_eq_true rfl) dL_law_3383 ⟨by omega, by omega⟩ (fun H locs hI hS => ?_)
  refine lv_istore (lv' := [(7, .int r'.2), (6, .int (kL [2] r.2)), (5, .int (nI (5 * j))), (4, .ref (B + 575)), (3, .ref (B + 574)), (2, .ref (B + 562 + 0)), (1, .ref (B + 0)), (0, .ref b)]) hx hb dL_law_3386 hl (by decide) rfl (fun ls hl => ?_)
  refine lv_aload_n hx hb dL_law_3388 rfl (lv_at hl 5 rfl) ?_
  refine gl_mo (As := []) (rest := []) F hC hml hS hI (fun X hX9 => metX11_thrown (N := N) (r := r'.1 0 6) (FX_at F (by have := F.2.2.2.2; omega)) hX9 is_Mo rfl) ml_L_198 rfl ⟨rfl, rfl, (Nat.le_of_ble_eq_true rfl), (Nat.le_of_ble_eq_true rfl)⟩ rfl hl.1 rfl (Nat.le_of_ble_eq_true rfl) dL_law_3389 ⟨by omega, by omega⟩ (fun H locs hI hS => ?_)
  refine lv_iload hx hb dL_law_3392 (lv_at hl 1 rfl) ?_
  refine lv_icmp_eq (tgt := 3399) hx hb dL_law_3394 (by decide) (fun _ => ?_) (fun z => absurd h6 z)
  refine lv_iload hx hb dL_law_3399 (lv_at hl 1 rfl) ?_
  refine lv_if_ne (tgt := 3416) hx hb dL_law_3401 (by decide) (fun _ => ?_) (fun z => ?_)
  · refine lv_goto (tgt := 3665) hx hb dL_law_3416 (by decide) ?_
    exact lk_end kk (by omega) (by omega) hR' hcap hI hS (lv_sub hl [2, 3, 4, 5, 6, 7] rfl)
  · refine lv_aload_n hx hb dL_law_3404 rfl (lv_at hl 4 rfl) ?_
    refine lv_iconst (v := 0) hx hb dL_law_3405 (by decide) ?_
    refine gl_lald hC hI.2.2.1 dL_law_3406 ?_
    rw [upI_0 (h0 z)]
    refine lv_iload hx hb dL_law_3407 (lv_at hl 0 rfl) ?_
    refine lv_i2l hx hb dL_law_3409 rfl ?_
    refine W.lcmp hx hb dL_law_3410 ?_
    rw [lg_cmp_self]
    refine lv_if_eq (tgt := 3416) hx hb dL_law_3411 (by decide) (fun _ => ?_) (fun z => absurd rfl z)
    refine lv_goto (tgt := 3665) hx hb dL_law_3416 (by decide) ?_
    exact lk_end kk (by omega) (by omega) hR' hcap hI hS (lv_sub hl [2, 3, 4, 5, 6, 7] rfl)
set_option maxHeartbeats 4000000 in
set_option maxRecDepth 100000 in
theorem op_52 {p : Program} {l : Launch} {e : Env} {s : State} {m : MethodId} {below : List Frame} {meth : Method} {c : Code} {b L : Nat} {xs : Nat → Int32} {D : va_G} {T : Nat → ClassId} {B N j cells slots : Nat} {Q : State → Prop} {μ ν : Mem} {cap : Nat} {t : List Nat} {f : Nat → Int64} {g : Nat → UInt64} {H : Heap} {locs : List Loc} {ls : Array Slot} (F : FX l s b D T B) (hN : 1200000000000 ≤ N) (hNP : ∀ x ds, dcN x = some ds → NumP N x ds) (C0 : lw_At p s m meth c b L xs) (hL : L ≤ 2560) (hj : 5 * j + 5 ≤ L) (hR : RR μ ν 0 t) (hcap : cap ≤ 70) (hI : LI s D T B μ cap t ν f g H) (hS : va_S (AL B) s.heap H locs) (hl : lv_has ls 9 (LV b B (nI (5 * j)))) (hce : cells + 1450 ≤ room_1.cells) (hsl : slots + 13186 ≤ room_1.slots) (kk : LK p l e s m b below meth c D T B j cells slots Q) : W p l e room_1 s m #[.ref b] below meth c H locs cells slots Q (F0 m 3419 ls []) := by
  obtain ⟨hx, hb, hr, hml, hown, hts, hX, hbl, hlocks, hgv⟩ := C0
  have hC : gC p c code s m #[.ref b] RL D vwCl (tysG T) := ⟨hx, hb, hown, fun w hw => hts w (wg_tbl hw), F.2.2.2.1⟩
  have hbA : ¬ AL B b := Nat.not_le.mpr (Nat.lt_of_lt_of_le hbl F.2.2.2.2)
  obtain ⟨r, hf, r', hf', hR', hSm⟩ := (o_execute (by omega) hR : Ok (fX10_execute N μ 0) _)
  obtain ⟨h6, h0⟩ := Sm_k hSm (by decide) (by decide)
  refine lv_aload_n hx hb dL_law_3419 rfl (lv_at hl 4 rfl) ?_
  refine lv_aload_n hx hb dL_law_3420 rfl (lv_at hl 2 rfl) ?_
  refine gl_wr (As := [.ref (B + 0), .ref (B + 574)]) (rest := []) F hC hml hS hI (metL_execute F Xc_g Xc_ob hf (Sm2 hSm)) mw_L_366 ⟨rfl, rfl, (Nat.le_of_ble_eq_true rfl), (Nat.le_of_ble_eq_true rfl)⟩ rfl hl.1 rfl (Nat.le_of_ble_eq_true rfl) dL_law_3421 ⟨by omega, by omega⟩ (fun H locs hI hS => ?_)
  refine lv_istore (lv' := [(6, .int (kL [1, 4] r.2)), (5, .int (nI (5 * j))), (4, .ref (B + 575)), (3, .ref (B + 574)), (2, .ref (B + 562 + 0)), (1, .ref (B + 0)), (0, .ref b)]) hx hb dL_law_3424 hl (by decide) rfl (fun ls hl => ?_)
  refine lv_aload_n hx hb dL_law_3426 rfl (lv_at hl 4 rfl) ?_
  refine gl_mo (As := []) (rest := []) F hC hml hS hI (fun X hX9 => metX11_execute (FX_at F (by have := F.2.2.2.2; omega)) hX9 is_Mo hf') ml_L_368 rfl ⟨rfl, rfl, (Nat.le_of_ble_eq_true rfl), (Nat.le_of_ble_eq_true rfl)⟩ rfl hl.1 rfl (Nat.le_of_ble_eq_true rfl) dL_law_3427 ⟨by omega, by omega⟩ (fun H locs hI hS => ?_)
  refine lv_istore (lv' := [(7, .int r'.2), (6, .int (kL [1, 4] r.2)), (5, .int (nI (5 * j))), (4, .ref (B + 575)), (3, .ref (B + 574)), (2, .ref (B + 562 + 0)), (1, .ref (B + 0)), (0, .ref b)]) hx hb dL_law_3430 hl (by decide) rfl (fun ls hl => ?_)
  refine lv_aload_n hx hb dL_law_3432 rfl (lv_at hl 5 rfl) ?_
  refine gl_mo (As := []) (rest := []) F hC hml hS hI (fun X hX9 => metX11_thrown (N := N) (r := r'.1 0 6) (FX_at F (by have := F.2.2.2.2; omega)) hX9 is_Mo rfl) ml_L_198 rfl ⟨rfl, rfl, (Nat.le_of_ble_eq_true rfl), (Nat.le_of_ble_eq_true rfl)⟩ rfl hl.1 rfl (Nat.le_of_ble_eq_true rfl) dL_law_3433 ⟨by omega, by omega⟩ (fun H locs hI hS => ?_)
  refine lv_iload hx hb dL_law_3436 (lv_at hl 1 rfl) ?_
  refine lv_icmp_eq (tgt := 3443) hx hb dL_law_3438 (by decide) (fun _ => ?_) (fun z => absurd h6 z)
  refine lv_iload hx hb dL_law_3443 (lv_at hl 1 rfl) ?_
  refine lv_if_ne (tgt := 3460) hx hb dL_law_3445 (by decide) (fun _ => ?_) (fun z => ?_)
  · refine lv_goto (tgt := 3665) hx hb dL_law_3460 (by decide) ?_
    exact lk_end kk (by omega) (by omega) hR' hcap hI hS (lv_sub hl [2, 3, 4, 5, 6, 7] rfl)
  · refine lv_aload_n hx hb dL_law_3448 rfl (lv_at hl 4 rfl) ?_
    refine lv_iconst (v := 0) hx hb dL_law_3449 (by decide) ?_
    refine gl_lald hC hI.2.2.1 dL_law_3450 ?_
    rw [upI_0 (h0 z)]
    refine lv_iload hx hb dL_law_3451 (lv_at hl 0 rfl) ?_
    refine lv_i2l hx hb dL_law_3453 rfl ?_
    refine W.lcmp hx hb dL_law_3454 ?_
    rw [lg_cmp_self]
    refine lv_if_eq (tgt := 3460) hx hb dL_law_3455 (by decide) (fun _ => ?_) (fun z => absurd rfl z)
    refine lv_goto (tgt := 3665) hx hb dL_law_3460 (by decide) ?_
    exact lk_end kk (by omega) (by omega) hR' hcap hI hS (lv_sub hl [2, 3, 4, 5, 6, 7] rfl)
set_option maxHeartbeats 4000000 in
set_option maxRecDepth 100000 in
theorem op_53 {p : Program} {l : Launch} {e : Env} {s : State} {m : MethodId} {below : List Frame} {meth : Method} {c : Code} {b L : Nat} {xs : Nat → Int32} {D : va_G} {T : Nat → ClassId} {B N j cells slots : Nat} {Q : State → Prop} {μ ν : Mem} {cap : Nat} {t : List Nat} {f : Nat → Int64} {g : Nat → UInt64} {H : Heap} {locs : List Loc} {ls : Array Slot} (F : FX l s b D T B) (hN : 1200000000000 ≤ N) (hNP : ∀ x ds, dcN x = some ds → NumP N x ds) (C0 : lw_At p s m meth c b L xs) (hL : L ≤ 2560) (hj : 5 * j + 5 ≤ L) (hR : RR μ ν 0 t) (hcap : cap ≤ 70) (hI : LI s D T B μ cap t ν f g H) (hS : va_S (AL B) s.heap H locs) (hl : lv_has ls 9 (LV b B (nI (5 * j)))) (hce : cells + 1450 ≤ room_1.cells) (hsl : slots + 13186 ≤ room_1.slots) (kk : LK p l e s m b below meth c D T B j cells slots Q) : W p l e room_1 s m #[.ref b] below meth c H locs cells slots Q (F0 m 3463 ls []) := by
  obtain ⟨hx, hb, hr, hml, hown, hts, hX, hbl, hlocks, hgv⟩ := C0
  have hC : gC p c code s m #[.ref b] RL D vwCl (tysG T) := ⟨hx, hb, hown, fun w hw => hts w (wg_tbl hw), F.2.2.2.1⟩
  have hbA : ¬ AL B b := Nat.not_le.mpr (Nat.lt_of_lt_of_le hbl F.2.2.2.2)
  obtain ⟨r, hf, r', hf', hR', hSm⟩ := (q_errorPosition hR : Ok (fX10_errorPosition N μ 0) _)
  obtain ⟨h6, h0⟩ := Sm_k hSm (by decide) (by decide)
  refine lv_aload_n hx hb dL_law_3463 rfl (lv_at hl 4 rfl) ?_
  refine lv_aload_n hx hb dL_law_3464 rfl (lv_at hl 2 rfl) ?_
  refine gl_wr (As := [.ref (B + 0), .ref (B + 574)]) (rest := []) F hC hml hS hI (metL_errorPosition F Xc_g Xc_ob hf (Sm1 hSm)) mw_L_369 ⟨rfl, rfl, (Nat.le_of_ble_eq_true rfl), (Nat.le_of_ble_eq_true rfl)⟩ rfl hl.1 rfl (Nat.le_of_ble_eq_true rfl) dL_law_3465 ⟨by omega, by omega⟩ (fun H locs hI hS => ?_)
  refine lv_istore (lv' := [(6, .int (kL [3] r.2)), (5, .int (nI (5 * j))), (4, .ref (B + 575)), (3, .ref (B + 574)), (2, .ref (B + 562 + 0)), (1, .ref (B + 0)), (0, .ref b)]) hx hb dL_law_3468 hl (by decide) rfl (fun ls hl => ?_)
  refine lv_aload_n hx hb dL_law_3470 rfl (lv_at hl 4 rfl) ?_
  refine gl_mo (As := []) (rest := []) F hC hml hS hI (fun X hX9 => metX11_errorPosition (FX_at F (by have := F.2.2.2.2; omega)) hX9 is_Mo hf') ml_L_371 rfl ⟨rfl, rfl, (Nat.le_of_ble_eq_true rfl), (Nat.le_of_ble_eq_true rfl)⟩ rfl hl.1 rfl (Nat.le_of_ble_eq_true rfl) dL_law_3471 ⟨by omega, by omega⟩ (fun H locs hI hS => ?_)
  refine lv_istore (lv' := [(7, .int r'.2), (6, .int (kL [3] r.2)), (5, .int (nI (5 * j))), (4, .ref (B + 575)), (3, .ref (B + 574)), (2, .ref (B + 562 + 0)), (1, .ref (B + 0)), (0, .ref b)]) hx hb dL_law_3474 hl (by decide) rfl (fun ls hl => ?_)
  refine lv_aload_n hx hb dL_law_3476 rfl (lv_at hl 5 rfl) ?_
  refine gl_mo (As := []) (rest := []) F hC hml hS hI (fun X hX9 => metX11_thrown (N := N) (r := r'.1 0 6) (FX_at F (by have := F.2.2.2.2; omega)) hX9 is_Mo rfl) ml_L_198 rfl ⟨rfl, rfl, (Nat.le_of_ble_eq_true rfl), (Nat.le_of_ble_eq_true rfl)⟩ rfl hl.1 rfl (Nat.le_of_ble_eq_true rfl) dL_law_3477 ⟨by omega, by omega⟩ (fun H locs hI hS => ?_)
  refine lv_iload hx hb dL_law_3480 (lv_at hl 1 rfl) ?_
  refine lv_icmp_eq (tgt := 3487) hx hb dL_law_3482 (by decide) (fun _ => ?_) (fun z => absurd h6 z)
  refine lv_iload hx hb dL_law_3487 (lv_at hl 1 rfl) ?_
  refine lv_if_ne (tgt := 3504) hx hb dL_law_3489 (by decide) (fun _ => ?_) (fun z => ?_)
  · refine lv_goto (tgt := 3665) hx hb dL_law_3504 (by decide) ?_
    exact lk_end kk (by omega) (by omega) hR' hcap hI hS (lv_sub hl [2, 3, 4, 5, 6, 7] rfl)
  · refine lv_aload_n hx hb dL_law_3492 rfl (lv_at hl 4 rfl) ?_
    refine lv_iconst (v := 0) hx hb dL_law_3493 (by decide) ?_
    refine gl_lald hC hI.2.2.1 dL_law_3494 ?_
    rw [upI_0 (h0 z)]
    refine lv_iload hx hb dL_law_3495 (lv_at hl 0 rfl) ?_
    refine lv_i2l hx hb dL_law_3497 rfl ?_
    refine W.lcmp hx hb dL_law_3498 ?_
    rw [lg_cmp_self]
    refine lv_if_eq (tgt := 3504) hx hb dL_law_3499 (by decide) (fun _ => ?_) (fun z => absurd rfl z)
    refine lv_goto (tgt := 3665) hx hb dL_law_3504 (by decide) ?_
    exact lk_end kk (by omega) (by omega) hR' hcap hI hS (lv_sub hl [2, 3, 4, 5, 6, 7] rfl)
set_option maxHeartbeats 4000000 in
set_option maxRecDepth 100000 in
theorem op_54 {p : Program} {l : Launch} {e : Env} {s : State} {m : MethodId} {below : List Frame} {meth : Method} {c : Code} {b L : Nat} {xs : Nat → Int32} {D : va_G} {T : Nat → ClassId} {B N j cells slots : Nat} {Q : State → Prop} {μ ν : Mem} {cap : Nat} {t : List Nat} {f : Nat → Int64} {g : Nat → UInt64} {H : Heap} {locs : List Loc} {ls : Array Slot} (F : FX l s b D T B) (hN : 1200000000000 ≤ N) (hNP : ∀ x ds, dcN x = some ds → NumP N x ds) (C0 : lw_At p s m meth c b L xs) (hL : L ≤ 2560) (hj : 5 * j + 5 ≤ L) (hR : RR μ ν 0 t) (hcap : cap ≤ 70) (hI : LI s D T B μ cap t ν f g H) (hS : va_S (AL B) s.heap H locs) (hl : lv_has ls 9 (LV b B (nI (5 * j)))) (hce : cells + 1450 ≤ room_1.cells) (hsl : slots + 13186 ≤ room_1.slots) (kk : LK p l e s m b below meth c D T B j cells slots Q) : W p l e room_1 s m #[.ref b] below meth c H locs cells slots Q (F0 m 3507 ls []) := by
  obtain ⟨hx, hb, hr, hml, hown, hts, hX, hbl, hlocks, hgv⟩ := C0
  have hC : gC p c code s m #[.ref b] RL D vwCl (tysG T) := ⟨hx, hb, hown, fun w hw => hts w (wg_tbl hw), F.2.2.2.1⟩
  have hbA : ¬ AL B b := Nat.not_le.mpr (Nat.lt_of_lt_of_le hbl F.2.2.2.2)
  obtain ⟨r, hf, r', hf', hR', hSm⟩ := (q_failedCommand hR : Ok (fX10_failedCommand N μ 0) _)
  obtain ⟨h6, h0⟩ := Sm_k hSm (by decide) (by decide)
  refine lv_aload_n hx hb dL_law_3507 rfl (lv_at hl 4 rfl) ?_
  refine lv_aload_n hx hb dL_law_3508 rfl (lv_at hl 2 rfl) ?_
  refine gl_wr (As := [.ref (B + 0), .ref (B + 574)]) (rest := []) F hC hml hS hI (metL_failedCommand F Xc_g Xc_ob hf (Sm1 hSm)) mw_L_372 ⟨rfl, rfl, (Nat.le_of_ble_eq_true rfl), (Nat.le_of_ble_eq_true rfl)⟩ rfl hl.1 rfl (Nat.le_of_ble_eq_true rfl) dL_law_3509 ⟨by omega, by omega⟩ (fun H locs hI hS => ?_)
  refine lv_istore (lv' := [(6, .int (kL [3] r.2)), (5, .int (nI (5 * j))), (4, .ref (B + 575)), (3, .ref (B + 574)), (2, .ref (B + 562 + 0)), (1, .ref (B + 0)), (0, .ref b)]) hx hb dL_law_3512 hl (by decide) rfl (fun ls hl => ?_)
  refine lv_aload_n hx hb dL_law_3514 rfl (lv_at hl 4 rfl) ?_
  refine gl_mo (As := []) (rest := []) F hC hml hS hI (fun X hX9 => metX11_failedCommand (FX_at F (by have := F.2.2.2.2; omega)) hX9 is_Mo hf') ml_L_374 rfl ⟨rfl, rfl, (Nat.le_of_ble_eq_true rfl), (Nat.le_of_ble_eq_true rfl)⟩ rfl hl.1 rfl (Nat.le_of_ble_eq_true rfl) dL_law_3515 ⟨by omega, by omega⟩ (fun H locs hI hS => ?_)
  refine lv_istore (lv' := [(7, .int r'.2), (6, .int (kL [3] r.2)), (5, .int (nI (5 * j))), (4, .ref (B + 575)), (3, .ref (B + 574)), (2, .ref (B + 562 + 0)), (1, .ref (B + 0)), (0, .ref b)]) hx hb dL_law_3518 hl (by decide) rfl (fun ls hl => ?_)
  refine lv_aload_n hx hb dL_law_3520 rfl (lv_at hl 5 rfl) ?_
  refine gl_mo (As := []) (rest := []) F hC hml hS hI (fun X hX9 => metX11_thrown (N := N) (r := r'.1 0 6) (FX_at F (by have := F.2.2.2.2; omega)) hX9 is_Mo rfl) ml_L_198 rfl ⟨rfl, rfl, (Nat.le_of_ble_eq_true rfl), (Nat.le_of_ble_eq_true rfl)⟩ rfl hl.1 rfl (Nat.le_of_ble_eq_true rfl) dL_law_3521 ⟨by omega, by omega⟩ (fun H locs hI hS => ?_)
  refine lv_iload hx hb dL_law_3524 (lv_at hl 1 rfl) ?_
  refine lv_icmp_eq (tgt := 3531) hx hb dL_law_3526 (by decide) (fun _ => ?_) (fun z => absurd h6 z)
  refine lv_iload hx hb dL_law_3531 (lv_at hl 1 rfl) ?_
  refine lv_if_ne (tgt := 3548) hx hb dL_law_3533 (by decide) (fun _ => ?_) (fun z => ?_)
  · refine lv_goto (tgt := 3665) hx hb dL_law_3548 (by decide) ?_
    exact lk_end kk (by omega) (by omega) hR' hcap hI hS (lv_sub hl [2, 3, 4, 5, 6, 7] rfl)
  · refine lv_aload_n hx hb dL_law_3536 rfl (lv_at hl 4 rfl) ?_
    refine lv_iconst (v := 0) hx hb dL_law_3537 (by decide) ?_
    refine gl_lald hC hI.2.2.1 dL_law_3538 ?_
    rw [upI_0 (h0 z)]
    refine lv_iload hx hb dL_law_3539 (lv_at hl 0 rfl) ?_
    refine lv_i2l hx hb dL_law_3541 rfl ?_
    refine W.lcmp hx hb dL_law_3542 ?_
    rw [lg_cmp_self]
    refine lv_if_eq (tgt := 3548) hx hb dL_law_3543 (by decide) (fun _ => ?_) (fun z => absurd rfl z)
    refine lv_goto (tgt := 3665) hx hb dL_law_3548 (by decide) ?_
    exact lk_end kk (by omega) (by omega) hR' hcap hI hS (lv_sub hl [2, 3, 4, 5, 6, 7] rfl)
set_option maxHeartbeats 4000000 in
set_option maxRecDepth 100000 in
theorem op_55 {p : Program} {l : Launch} {e : Env} {s : State} {m : MethodId} {below : List Frame} {meth : Method} {c : Code} {b L : Nat} {xs : Nat → Int32} {D : va_G} {T : Nat → ClassId} {B N j cells slots : Nat} {Q : State → Prop} {μ ν : Mem} {cap : Nat} {t : List Nat} {f : Nat → Int64} {g : Nat → UInt64} {H : Heap} {locs : List Loc} {ls : Array Slot} (F : FX l s b D T B) (hN : 1200000000000 ≤ N) (hNP : ∀ x ds, dcN x = some ds → NumP N x ds) (C0 : lw_At p s m meth c b L xs) (hL : L ≤ 2560) (hj : 5 * j + 5 ≤ L) (hR : RR μ ν 0 t) (hcap : cap ≤ 70) (hI : LI s D T B μ cap t ν f g H) (hS : va_S (AL B) s.heap H locs) (hl : lv_has ls 9 (LV b B (nI (5 * j)))) (hce : cells + 1450 ≤ room_1.cells) (hsl : slots + 13186 ≤ room_1.slots) (kk : LK p l e s m b below meth c D T B j cells slots Q) : W p l e room_1 s m #[.ref b] below meth c H locs cells slots Q (F0 m 3551 ls []) := by
  obtain ⟨hx, hb, hr, hml, hown, hts, hX, hbl, hlocks, hgv⟩ := C0
  have hC : gC p c code s m #[.ref b] RL D vwCl (tysG T) := ⟨hx, hb, hown, fun w hw => hts w (wg_tbl hw), F.2.2.2.1⟩
  have hbA : ¬ AL B b := Nat.not_le.mpr (Nat.lt_of_lt_of_le hbl F.2.2.2.2)
  obtain ⟨r, hf, r', hf', hR', hSm⟩ := (o_undo (by omega) hR : Ok (fX10_undo N μ 0) _)
  obtain ⟨h6, h0⟩ := Sm_k hSm (by decide) (by decide)
  refine lv_aload_n hx hb dL_law_3551 rfl (lv_at hl 4 rfl) ?_
  refine lv_aload_n hx hb dL_law_3552 rfl (lv_at hl 2 rfl) ?_
  refine gl_wr (As := [.ref (B + 0), .ref (B + 574)]) (rest := []) F hC hml hS hI (metL_undo F Xc_g Xc_ob hf (Sm1 hSm)) mw_L_375 ⟨rfl, rfl, (Nat.le_of_ble_eq_true rfl), (Nat.le_of_ble_eq_true rfl)⟩ rfl hl.1 rfl (Nat.le_of_ble_eq_true rfl) dL_law_3553 ⟨by omega, by omega⟩ (fun H locs hI hS => ?_)
  refine lv_istore (lv' := [(6, .int (kL [2] r.2)), (5, .int (nI (5 * j))), (4, .ref (B + 575)), (3, .ref (B + 574)), (2, .ref (B + 562 + 0)), (1, .ref (B + 0)), (0, .ref b)]) hx hb dL_law_3556 hl (by decide) rfl (fun ls hl => ?_)
  refine lv_aload_n hx hb dL_law_3558 rfl (lv_at hl 4 rfl) ?_
  refine gl_mo (As := []) (rest := []) F hC hml hS hI (fun X hX9 => metX11_undo (FX_at F (by have := F.2.2.2.2; omega)) hX9 is_Mo hf') ml_L_377 rfl ⟨rfl, rfl, (Nat.le_of_ble_eq_true rfl), (Nat.le_of_ble_eq_true rfl)⟩ rfl hl.1 rfl (Nat.le_of_ble_eq_true rfl) dL_law_3559 ⟨by omega, by omega⟩ (fun H locs hI hS => ?_)
  refine lv_istore (lv' := [(7, .int r'.2), (6, .int (kL [2] r.2)), (5, .int (nI (5 * j))), (4, .ref (B + 575)), (3, .ref (B + 574)), (2, .ref (B + 562 + 0)), (1, .ref (B + 0)), (0, .ref b)]) hx hb dL_law_3562 hl (by decide) rfl (fun ls hl => ?_)
  refine lv_aload_n hx hb dL_law_3564 rfl (lv_at hl 5 rfl) ?_
  refine gl_mo (As := []) (rest := []) F hC hml hS hI (fun X hX9 => metX11_thrown (N := N) (r := r'.1 0 6) (FX_at F (by have := F.2.2.2.2; omega)) hX9 is_Mo rfl) ml_L_198 rfl ⟨rfl, rfl, (Nat.le_of_ble_eq_true rfl), (Nat.le_of_ble_eq_true rfl)⟩ rfl hl.1 rfl (Nat.le_of_ble_eq_true rfl) dL_law_3565 ⟨by omega, by omega⟩ (fun H locs hI hS => ?_)
  refine lv_iload hx hb dL_law_3568 (lv_at hl 1 rfl) ?_
  refine lv_icmp_eq (tgt := 3575) hx hb dL_law_3570 (by decide) (fun _ => ?_) (fun z => absurd h6 z)
  refine lv_iload hx hb dL_law_3575 (lv_at hl 1 rfl) ?_
  refine lv_if_ne (tgt := 3592) hx hb dL_law_3577 (by decide) (fun _ => ?_) (fun z => ?_)
  · refine lv_goto (tgt := 3665) hx hb dL_law_3592 (by decide) ?_
    exact lk_end kk (by omega) (by omega) hR' hcap hI hS (lv_sub hl [2, 3, 4, 5, 6, 7] rfl)
  · refine lv_aload_n hx hb dL_law_3580 rfl (lv_at hl 4 rfl) ?_
    refine lv_iconst (v := 0) hx hb dL_law_3581 (by decide) ?_
    refine gl_lald hC hI.2.2.1 dL_law_3582 ?_
    rw [upI_0 (h0 z)]
    refine lv_iload hx hb dL_law_3583 (lv_at hl 0 rfl) ?_
    refine lv_i2l hx hb dL_law_3585 rfl ?_
    refine W.lcmp hx hb dL_law_3586 ?_
    rw [lg_cmp_self]
    refine lv_if_eq (tgt := 3592) hx hb dL_law_3587 (by decide) (fun _ => ?_) (fun z => absurd rfl z)
    refine lv_goto (tgt := 3665) hx hb dL_law_3592 (by decide) ?_
    exact lk_end kk (by omega) (by omega) hR' hcap hI hS (lv_sub hl [2, 3, 4, 5, 6, 7] rfl)
set_option maxHeartbeats 4000000 in
set_option maxRecDepth 100000 in
theorem op_56 {p : Program} {l : Launch} {e : Env} {s : State} {m : MethodId} {below : List Frame} {meth : Method} {c : Code} {b L : Nat} {xs : Nat → Int32} {D : va_G} {T : Nat → ClassId} {B N j cells slots : Nat} {Q : State → Prop} {μ ν : Mem} {cap : Nat} {t : List Nat} {f : Nat → Int64} {g : Nat → UInt64} {H : Heap} {locs : List Loc} {ls : Array Slot} (F : FX l s b D T B) (hN : 1200000000000 ≤ N) (hNP : ∀ x ds, dcN x = some ds → NumP N x ds) (C0 : lw_At p s m meth c b L xs) (hL : L ≤ 2560) (hj : 5 * j + 5 ≤ L) (hR : RR μ ν 0 t) (hcap : cap ≤ 70) (hI : LI s D T B μ cap t ν f g H) (hS : va_S (AL B) s.heap H locs) (hl : lv_has ls 9 (LV b B (nI (5 * j)))) (hce : cells + 1450 ≤ room_1.cells) (hsl : slots + 13186 ≤ room_1.slots) (kk : LK p l e s m b below meth c D T B j cells slots Q) : W p l e room_1 s m #[.ref b] below meth c H locs cells slots Q (F0 m 3595 ls []) := by
  obtain ⟨hx, hb, hr, hml, hown, hts, hX, hbl, hlocks, hgv⟩ := C0
  have hC : gC p c code s m #[.ref b] RL D vwCl (tysG T) := ⟨hx, hb, hown, fun w hw => hts w (wg_tbl hw), F.2.2.2.1⟩
  have hbA : ¬ AL B b := Nat.not_le.mpr (Nat.lt_of_lt_of_le hbl F.2.2.2.2)
  obtain ⟨r, hf, r', hf', hR', he⟩ := (q_undoCount hR : Ok (fX10_undoCount N μ 0) _)
  refine lv_aload_n hx hb dL_law_3595 rfl (lv_at hl 4 rfl) ?_
  refine gl_cl (As := []) (rest := []) F hC hml hS hI (fun X hX9 => metX10_undoCount F hX9 is_Ga hf) ml_L_378 rfl ⟨rfl, rfl, (Nat.le_of_ble_eq_true rfl), (Nat.le_of_ble_eq_true rfl)⟩ rfl hl.1 rfl (Nat.le_of_ble_eq_true rfl) dL_law_3596 ⟨by omega, by omega⟩ (fun H locs hI hS => ?_)
  refine lv_aload_n hx hb dL_law_3599 rfl (lv_at hl 3 rfl) ?_
  refine gl_mo (As := []) (rest := [.int r]) F hC hml hS hI (fun X hX9 => metX11_undoCount (FX_at F (by have := F.2.2.2.2; omega)) hX9 is_Mo hf') ml_L_381 rfl ⟨rfl, rfl, (Nat.le_of_ble_eq_true rfl), (Nat.le_of_ble_eq_true rfl)⟩ rfl hl.1 rfl (Nat.le_of_ble_eq_true rfl) dL_law_3600 ⟨by omega, by omega⟩ (fun H locs hI hS => ?_)
  refine lv_icmp_eq (tgt := 3665) hx hb dL_law_3603 (by decide) (fun _ => ?_) (fun z => absurd he.symm z)
  exact lk_end kk (by omega) (by omega) hR' hcap hI hS hl
set_option maxHeartbeats 4000000 in
set_option maxRecDepth 100000 in
theorem op_57 {p : Program} {l : Launch} {e : Env} {s : State} {m : MethodId} {below : List Frame} {meth : Method} {c : Code} {b L : Nat} {xs : Nat → Int32} {D : va_G} {T : Nat → ClassId} {B N j cells slots : Nat} {Q : State → Prop} {μ ν : Mem} {cap : Nat} {t : List Nat} {f : Nat → Int64} {g : Nat → UInt64} {H : Heap} {locs : List Loc} {ls : Array Slot} (F : FX l s b D T B) (hN : 1200000000000 ≤ N) (hNP : ∀ x ds, dcN x = some ds → NumP N x ds) (C0 : lw_At p s m meth c b L xs) (hL : L ≤ 2560) (hj : 5 * j + 5 ≤ L) (hR : RR μ ν 0 t) (hcap : cap ≤ 70) (hI : LI s D T B μ cap t ν f g H) (hS : va_S (AL B) s.heap H locs) (hl : lv_has ls 9 (LV b B (nI (5 * j)))) (hce : cells + 1450 ≤ room_1.cells) (hsl : slots + 13186 ≤ room_1.slots) (kk : LK p l e s m b below meth c D T B j cells slots Q) : W p l e room_1 s m #[.ref b] below meth c H locs cells slots Q (F0 m 3608 ls []) := by
  obtain ⟨hx, hb, hr, hml, hown, hts, hX, hbl, hlocks, hgv⟩ := C0
  have hC : gC p c code s m #[.ref b] RL D vwCl (tysG T) := ⟨hx, hb, hown, fun w hw => hts w (wg_tbl hw), F.2.2.2.1⟩
  have hbA : ¬ AL B b := Nat.not_le.mpr (Nat.lt_of_lt_of_le hbl F.2.2.2.2)
  obtain ⟨r, hf, r', hf', hR', he⟩ := (q_save (by omega) hR : Ok (fX10_save N μ 0) _)
  refine lv_aload_n hx hb dL_law_3608 rfl (lv_at hl 4 rfl) ?_
  refine gl_cl (As := []) (rest := []) F hC hml hS hI (fun X hX9 => metX10_save F hX9 is_Ga hf) ml_L_382 rfl ⟨rfl, rfl, (Nat.le_of_ble_eq_true rfl), (Nat.le_of_ble_eq_true rfl)⟩ rfl hl.1 rfl (Nat.le_of_ble_eq_true rfl) dL_law_3609 ⟨by omega, by omega⟩ (fun H locs hI hS => ?_)
  refine lv_aload_n hx hb dL_law_3612 rfl (lv_at hl 3 rfl) ?_
  refine gl_mo (As := []) (rest := [.int r.2]) F hC hml hS hI (fun X hX9 => metX11_save (FX_at F (by have := F.2.2.2.2; omega)) hX9 is_Mo hf') ml_L_385 rfl ⟨rfl, rfl, (Nat.le_of_ble_eq_true rfl), (Nat.le_of_ble_eq_true rfl)⟩ rfl hl.1 rfl (Nat.le_of_ble_eq_true rfl) dL_law_3613 ⟨by omega, by omega⟩ (fun H locs hI hS => ?_)
  refine lv_icmp_eq (tgt := 3665) hx hb dL_law_3616 (by decide) (fun _ => ?_) (fun z => absurd he.symm z)
  exact lk_end kk (by omega) (by omega) hR' hcap hI hS hl
set_option maxHeartbeats 4000000 in
set_option maxRecDepth 100000 in
theorem op_58 {p : Program} {l : Launch} {e : Env} {s : State} {m : MethodId} {below : List Frame} {meth : Method} {c : Code} {b L : Nat} {xs : Nat → Int32} {D : va_G} {T : Nat → ClassId} {B N j cells slots : Nat} {Q : State → Prop} {μ ν : Mem} {cap : Nat} {t : List Nat} {f : Nat → Int64} {g : Nat → UInt64} {H : Heap} {locs : List Loc} {ls : Array Slot} (F : FX l s b D T B) (hN : 1200000000000 ≤ N) (hNP : ∀ x ds, dcN x = some ds → NumP N x ds) (C0 : lw_At p s m meth c b L xs) (hL : L ≤ 2560) (hj : 5 * j + 5 ≤ L) (hR : RR μ ν 0 t) (hcap : cap ≤ 70) (hI : LI s D T B μ cap t ν f g H) (hS : va_S (AL B) s.heap H locs) (hl : lv_has ls 9 (LV b B (nI (5 * j)))) (hce : cells + 1450 ≤ room_1.cells) (hsl : slots + 13186 ≤ room_1.slots) (kk : LK p l e s m b below meth c D T B j cells slots Q) : W p l e room_1 s m #[.ref b] below meth c H locs cells slots Q (F0 m 3621 ls []) := by
  obtain ⟨hx, hb, hr, hml, hown, hts, hX, hbl, hlocks, hgv⟩ := C0
  have hC : gC p c code s m #[.ref b] RL D vwCl (tysG T) := ⟨hx, hb, hown, fun w hw => hts w (wg_tbl hw), F.2.2.2.1⟩
  have hbA : ¬ AL B b := Nat.not_le.mpr (Nat.lt_of_lt_of_le hbl F.2.2.2.2)
  obtain ⟨r, hf, r', hf', hR', hSm⟩ := (o_restore (by omega) hR : Ok (fX10_restore N μ 0) _)
  obtain ⟨h6, h0⟩ := Sm_k hSm (by decide) (by decide)
  refine lv_aload_n hx hb dL_law_3621 rfl (lv_at hl 4 rfl) ?_
  refine lv_aload_n hx hb dL_law_3622 rfl (lv_at hl 2 rfl) ?_
  refine gl_wr (As := [.ref (B + 0), .ref (B + 574)]) (rest := []) F hC hml hS hI (metL_restore F Xc_g Xc_ob hf (Sm1 hSm)) mw_L_386 ⟨rfl, rfl, (Nat.le_of_ble_eq_true rfl), (Nat.le_of_ble_eq_true rfl)⟩ rfl hl.1 rfl (Nat.le_of_ble_eq_true rfl) dL_law_3623 ⟨by omega, by omega⟩ (fun H locs hI hS => ?_)
  refine lv_istore (lv' := [(6, .int (kL [2] r.2)), (5, .int (nI (5 * j))), (4, .ref (B + 575)), (3, .ref (B + 574)), (2, .ref (B + 562 + 0)), (1, .ref (B + 0)), (0, .ref b)]) hx hb dL_law_3626 hl (by decide) rfl (fun ls hl => ?_)
  refine lv_aload_n hx hb dL_law_3628 rfl (lv_at hl 4 rfl) ?_
  refine gl_mo (As := []) (rest := []) F hC hml hS hI (fun X hX9 => metX11_restore (FX_at F (by have := F.2.2.2.2; omega)) hX9 is_Mo hf') ml_L_388 rfl ⟨rfl, rfl, (Nat.le_of_ble_eq_true rfl), (Nat.le_of_ble_eq_true rfl)⟩ rfl hl.1 rfl (Nat.le_of_ble_eq_true rfl) dL_law_3629 ⟨by omega, by omega⟩ (fun H locs hI hS => ?_)
  refine lv_istore (lv' := [(7, .int r'.2), (6, .int (kL [2] r.2)), (5, .int (nI (5 * j))), (4, .ref (B + 575)), (3, .ref (B + 574)), (2, .ref (B + 562 + 0)), (1, .ref (B + 0)), (0, .ref b)]) hx hb dL_law_3632 hl (by decide) rfl (fun ls hl => ?_)
  refine lv_aload_n hx hb dL_law_3634 rfl (lv_at hl 5 rfl) ?_
  refine gl_mo (As := []) (rest := []) F hC hml hS hI (fun X hX9 => metX11_thrown (N := N) (r := r'.1 0 6) (FX_at F (by have := F.2.2.2.2; omega)) hX9 is_Mo rfl) ml_L_198 rfl ⟨rfl, rfl, (Nat.le_of_ble_eq_true rfl), (Nat.le_of_ble_eq_true rfl)⟩ rfl hl.1 rfl (Nat.le_of_ble_eq_true rfl) dL_law_3635 ⟨by omega, by omega⟩ (fun H locs hI hS => ?_)
  refine lv_iload hx hb dL_law_3638 (lv_at hl 1 rfl) ?_
  refine lv_icmp_eq (tgt := 3645) hx hb dL_law_3640 (by decide) (fun _ => ?_) (fun z => absurd h6 z)
  refine lv_iload hx hb dL_law_3645 (lv_at hl 1 rfl) ?_
  refine lv_if_ne (tgt := 3662) hx hb dL_law_3647 (by decide) (fun _ => ?_) (fun z => ?_)
  · refine lv_goto (tgt := 3665) hx hb dL_law_3662 (by decide) ?_
    exact lk_end kk (by omega) (by omega) hR' hcap hI hS (lv_sub hl [2, 3, 4, 5, 6, 7] rfl)
  · refine lv_aload_n hx hb dL_law_3650 rfl (lv_at hl 4 rfl) ?_
    refine lv_iconst (v := 0) hx hb dL_law_3651 (by decide) ?_
    refine gl_lald hC hI.2.2.1 dL_law_3652 ?_
    rw [upI_0 (h0 z)]
    refine lv_iload hx hb dL_law_3653 (lv_at hl 0 rfl) ?_
    refine lv_i2l hx hb dL_law_3655 rfl ?_
    refine W.lcmp hx hb dL_law_3656 ?_
    rw [lg_cmp_self]
    refine lv_if_eq (tgt := 3662) hx hb dL_law_3657 (by decide) (fun _ => ?_) (fun z => absurd rfl z)
    refine lv_goto (tgt := 3665) hx hb dL_law_3662 (by decide) ?_
    exact lk_end kk (by omega) (by omega) hR' hcap hI hS (lv_sub hl [2, 3, 4, 5, 6, 7] rfl)
