/-! `undone`: behind a change, the way back, the two loops. -/
section UE
variable {p : Program} {l : Launch} {e : Env} {s : State} {m : MethodId} {args : Array Value} {below : List Frame} {meth : Method} {c : Code} {Q : State → Prop} {D : va_G} {T : Nat → ClassId} {X : Nat → Prop} {b B q N dn i κ : Nat} {s0 : State} {Z : Nat → Int32} {hs : List (Nat → Int32)} {t : List Nat} {f : Nat → Int64} {H : Heap} {locs : List Loc} {ls : Array Slot}
theorem lg_cmp_same (x : Int64) : lg_cmp x x = 0 := by simp [lg_cmp]
set_option maxHeartbeats 2000000 in
set_option maxRecDepth 100000 in
theorem u_495 (F : FX l s0 b D T B) (hX : ∀ o, o < 561 → ¬ X (B + o)) (hN : 1200000000000 ≤ N) (hx : p.tables.exec = Jvm.exec) (hb : c.code = cL_undone) (hml : c.maxLocals = 8) (hk : KC s0 X s) (hC : gC p c cL_undone s m args RL D vwCl (tysG T)) (hκ : κ + 1100 ≤ 30000) (hn : ∀ (d2 : Nat) (Z2 : Nat → Int32) (hs2 : List (Nat → Int32)) (H : Heap) (locs : List Loc) (ls : Array Slot), ((d2 = dn ∧ Z2 = Z ∧ hs2 = hs) ∨ (d2 = dn + 1 ∧ hs2 = hsP hs Z)) → gZJ s0 D T B X Z2 hs2 t q f H → va_S (gA B X) s.heap H locs → lv_has ls 8 [(0, .ref b), (1, .ref (B + 0)), (2, .ref q), (3, .int (nI d2)), (4, .int (nI (i + 1)))] → W p l e rmL_undone s m args below meth c H locs (κ + 1100) (6 * (κ + 1100)) Q (F0 m 10 ls [])) {x : Int32} {Z2 : Nat → Int32} {hs2 : List (Nat → Int32)} (hR : UR Z hs x Z2 hs2) (hW : gZJ s0 D T B X Z2 hs2 t q f H) (hS : va_S (gA B X) s.heap H locs) (hl : lv_has ls 8 [(7, .int x), (0, .ref b), (1, .ref (B + 0)), (2, .ref q), (3, .int (nI dn)), (4, .int (nI i))]) : W p l e rmL_undone s m args below meth c H locs (κ + 1100) (6 * (κ + 1100)) Q (F0 m 495 ls []) := by
  refine lv_iload_n hx hb dL_undone_495 rfl (lv_at hl 4 rfl) ?_
  refine lv_iload hx hb dL_undone_496 (lv_at hl 0 rfl) ?_
  refine lv_if_ge (tgt := 505) hx hb dL_undone_498 (by decide) (fun c9 => ?_) (fun c9 => ?_)
  · refine lv_iconst (v := 1) hx hb dL_undone_505 (by decide) ?_
    refine lv_iadd hx hb dL_undone_506 ?_
    rw [show nI dn + (1 : Int32) = nI (dn + 1) from by rw [← nI_add]; rfl]
    refine lv_istore_n (lv' := [(3, .int (nI (dn + 1))), (7, .int x), (0, .ref b), (1, .ref (B + 0)), (2, .ref q), (4, .int (nI i))]) hx hb dL_undone_507 rfl hl (by decide) rfl (fun ls hl => ?_)
    refine lv_iinc (v := nI (i + 1)) (lv' := [(4, .int (nI (i + 1))), (3, .int (nI (dn + 1))), (7, .int x), (0, .ref b), (1, .ref (B + 0)), (2, .ref q)]) hx hb dL_undone_508 hl (k := 5) rfl (by rw [← nI_add]; rfl) (by decide) rfl (fun ls hl => ?_)
    refine lv_goto (tgt := 10) hx hb dL_undone_511 (by decide) ?_
    refine hn (dn + 1) Z2 hs2 _ _ _ (Or.inr ⟨rfl, ?_⟩) hW hS (lv_sub hl [3, 4, 5, 1, 0] rfl)
    rcases hR with ⟨h1, -⟩ | ⟨-, h2⟩
    · exact absurd h1 (Int32.not_lt.mpr c9)
    · exact h2
  · refine lv_iconst (v := 0) hx hb dL_undone_501 (by decide) ?_
    refine lv_goto (tgt := 506) hx hb dL_undone_502 (by decide) ?_
    refine lv_iadd hx hb dL_undone_506 ?_
    rw [Int32.add_zero]
    refine lv_istore_n (lv' := [(3, .int (nI dn)), (7, .int x), (0, .ref b), (1, .ref (B + 0)), (2, .ref q), (4, .int (nI i))]) hx hb dL_undone_507 rfl hl (by decide) rfl (fun ls hl => ?_)
    refine lv_iinc (v := nI (i + 1)) (lv' := [(4, .int (nI (i + 1))), (3, .int (nI dn)), (7, .int x), (0, .ref b), (1, .ref (B + 0)), (2, .ref q)]) hx hb dL_undone_508 hl (k := 5) rfl (by rw [← nI_add]; rfl) (by decide) rfl (fun ls hl => ?_)
    refine lv_goto (tgt := 10) hx hb dL_undone_511 (by decide) ?_
    refine hn dn Z2 hs2 _ _ _ (Or.inl ⟨rfl, ?_⟩) hW hS (lv_sub hl [3, 4, 5, 1, 0] rfl)
    rcases hR with ⟨-, h2⟩ | ⟨h1, -⟩
    · exact h2
    · exact absurd (Int32.not_lt.mp h1) c9
set_option maxHeartbeats 2000000 in
set_option maxRecDepth 100000 in
theorem u_477 (F : FX l s0 b D T B) (hX : ∀ o, o < 561 → ¬ X (B + o)) (hN : 1200000000000 ≤ N) (hx : p.tables.exec = Jvm.exec) (hb : c.code = cL_undone) (hml : c.maxLocals = 8) (hk : KC s0 X s) (hC : gC p c cL_undone s m args RL D vwCl (tysG T)) (hκ : κ + 1100 ≤ 30000) (hdn : dn < 9) (hf : fL_sum N Z 1000 = some (f dn)) (hn : ∀ (d2 : Nat) (Z2 : Nat → Int32) (hs2 : List (Nat → Int32)) (H : Heap) (locs : List Loc) (ls : Array Slot), ((d2 = dn ∧ Z2 = Z ∧ hs2 = hs) ∨ (d2 = dn + 1 ∧ hs2 = hsP hs Z)) → gZJ s0 D T B X Z2 hs2 t q f H → va_S (gA B X) s.heap H locs → lv_has ls 8 [(0, .ref b), (1, .ref (B + 0)), (2, .ref q), (3, .int (nI d2)), (4, .int (nI (i + 1)))] → W p l e rmL_undone s m args below meth c H locs (κ + 1100) (6 * (κ + 1100)) Q (F0 m 10 ls [])) {x : Int32} {Z2 : Nat → Int32} {hs2 : List (Nat → Int32)} (hR : UR Z hs x Z2 hs2) (hW : gZJ s0 D T B X Z2 hs2 t q f H) (hS : va_S (gA B X) s.heap H locs) (hl : lv_has ls 8 [(7, .int x), (0, .ref b), (1, .ref (B + 0)), (2, .ref q), (3, .int (nI dn)), (4, .int (nI i))]) : W p l e rmL_undone s m args below meth c H locs κ (6 * κ) Q (F0 m 477 ls []) := by
  refine lv_iload hx hb dL_undone_477 (lv_at hl 0 rfl) ?_
  refine lv_if_ge (tgt := 495) hx hb dL_undone_479 (by decide) (fun c9 => ?_) (fun c9 => ?_)
  · refine W.widen (k := κ + 1100) (n := 6 * (κ + 1100)) (by omega) (by omega) ?_
    exact u_495 F hX hN hx hb hml hk hC hκ hn hR hW hS hl
  · have hR2 : Z2 = Z ∧ hs2 = hs := by
      rcases hR with ⟨-, h2⟩ | ⟨h1, -⟩
      · exact h2
      · exact absurd (Int32.not_lt.mp h1) c9
    have hf2 : fL_sum N Z2 1000 = some (f dn) := by rw [hR2.1]; exact hf
    refine lv_aload_n hx hb dL_undone_482 rfl (lv_at hl 2 rfl) ?_
    refine gj_law (As := [.ref (B + 0)]) F hX hk hC hml hS hW (fun hX9 => metL_sum F hX9 hN hf2) ml_L_433 ⟨rfl, rfl, (Nat.le_of_ble_eq_true rfl), (Nat.le_of_ble_eq_true rfl)⟩ rfl hl.1 rfl (Nat.le_of_ble_eq_true rfl) dL_undone_483 ⟨(by show _ ≤ 30000; omega), (by show _ ≤ 180000; omega)⟩ (fun H locs hW hS => ?_)
    refine lv_aload_n hx hb dL_undone_486 rfl (lv_at hl 3 rfl) ?_
    refine lv_iload_n hx hb dL_undone_487 rfl (lv_at hl 4 rfl) ?_
    refine gj_ld hdn hC hW dL_undone_488 ?_
    refine W.lcmp hx hb dL_undone_489 ?_
    refine lv_if_eq (tgt := 495) hx hb dL_undone_490 (by decide) (fun _ => ?_) (fun c8 => absurd (lg_cmp_same _) c8)
    refine W.widen (k := κ + 1100) (n := 6 * (κ + 1100)) (by omega) (by omega) ?_
    exact u_495 F hX hN hx hb hml hk hC hκ hn hR hW hS hl
set_option maxHeartbeats 2000000 in
set_option maxRecDepth 100000 in
theorem u_519 (F : FX l s0 b D T B) (hX : ∀ o, o < 561 → ¬ X (B + o)) (hN : 1200000000000 ≤ N) (hx : p.tables.exec = Jvm.exec) (hb : c.code = cL_undone) (hml : c.maxLocals = 8) (hk : KC s0 X s) (hC : gC p c cL_undone s m args RL D vwCl (tysG T)) (hend : ∀ {H : Heap} {locs : List Loc} {cells slots pc : Nat} {ls : Array Slot}, decode cL_undone pc = .ok (.ireturn, 1) → va_S (gA B X) s.heap H locs → cells ≤ 30000 → slots ≤ 180000 → W p l e rmL_undone s m args below meth c H locs cells slots Q (F0 m pc ls [.int 1])) : ∀ (n : Nat), n ≤ 7 → ∀ (Z : Nat → Int32) (hs pre ss : List (Nat → Int32)) (H : Heap) (locs : List Loc) (ls : Array Slot) (κ : Nat), hs = pre ++ ss → ss.length = n → (∀ k, k < n → fL_sum N (ss.getD k z0) 1000 = some (f k)) → gZJ s0 D T B X Z hs t q f H → va_S (gA B X) s.heap H locs → lv_has ls 8 [(1, .ref (B + 0)), (2, .ref q), (4, .int (nI n - 1))] → κ + 1010 * n ≤ 30000 → W p l e rmL_undone s m args below meth c H locs κ (6 * κ) Q (F0 m 519 ls []) := by
  intro n
  induction n with
  | zero =>
    intro _ Z hs pre ss H locs ls κ _ _ _ hW hS hl hκ
    refine lv_iload hx hb dL_undone_519 (lv_at hl 2 rfl) ?_
    refine lv_if_lt (tgt := 551) hx hb dL_undone_521 (by decide) (fun _ => ?_) (fun c9 => absurd (by decide) c9)
    refine lv_iconst (v := 1) hx hb dL_undone_551 (by decide) ?_
    exact hend dL_undone_552 hS (by omega) (by omega)
  | succ n ih =>
    intro hn7 Z hs pre ss H locs ls κ he hlen hsum hW hS hl hκ
    rw [nI_pred] at hl
    refine lv_iload hx hb dL_undone_519 (lv_at hl 2 rfl) ?_
    refine lv_if_lt (tgt := 551) hx hb dL_undone_521 (by decide) (fun c9 => absurd c9 (nI_pos (by omega))) (fun _ => ?_)
    refine lv_aload_n hx hb dL_undone_524 rfl (lv_at hl 0 rfl) ?_
    have hsi := (gZ_si hW.1).1
    refine gj_wrS (As := [.ref (B + 0)]) F hX hk hC hml hS hW (fun hX9 => mv_undo F hX9 hN hsi) mw_L_454 ⟨rfl, rfl, (Nat.le_of_ble_eq_true rfl), (Nat.le_of_ble_eq_true rfl)⟩ rfl hl.1 rfl (Nat.le_of_ble_eq_true rfl) dL_undone_525 ⟨(by show _ ≤ 30000; omega), (by show _ ≤ 180000; omega)⟩ (fun Z2 hs2 t9 out H locs hS2 hW hS => ?_)
    obtain ⟨e9, hS3⟩ := hS2
    rw [e9] at hW
    obtain ⟨ss2, zl, rfl⟩ : ∃ (ss2 : List (Nat → Int32)) (zl : Nat → Int32), ss = ss2 ++ [zl] := by
      rcases List.eq_nil_or_concat ss with h | ⟨a, z, h⟩
      · rw [h] at hlen; cases hlen
      · exact ⟨a, z, by rw [h, List.concat_eq_append]⟩
    have hlen2 : ss2.length = n := by rw [List.length_append] at hlen; exact Nat.succ.inj hlen
    rcases hS3 with ⟨e1, -⟩ | ⟨v, e1, rfl, hv⟩
    · rw [he] at e1
      have h0 := congrArg List.length e1
      rw [List.length_append, List.length_append] at h0
      exact absurd (show pre.length + (ss2.length + 1) = 0 from h0) (by omega)
    · have hq := hs_last (he.symm.trans e1)
      have hf2 : fL_sum N Z2 1000 = some (f n) := by
        have h9 := hsum n (Nat.lt_succ_self n)
        rw [List.getD_eq_getElem?_getD, List.getElem?_append_right (by omega), hlen2, Nat.sub_self] at h9
        rw [← hq.1]
        exact h9
      show W p l e rmL_undone s m args below meth c H locs _ _ Q (F0 m _ ls [.int (nI v)])
      refine lv_if_lt (tgt := 543) hx hb dL_undone_528 (by decide) (fun c9 => absurd c9 (nI_pos (by omega))) (fun _ => ?_)
      refine lv_aload_n hx hb dL_undone_531 rfl (lv_at hl 0 rfl) ?_
      refine gj_law (As := [.ref (B + 0)]) F hX hk hC hml hS hW (fun hX9 => metL_sum F hX9 hN hf2) ml_L_433 ⟨rfl, rfl, (Nat.le_of_ble_eq_true rfl), (Nat.le_of_ble_eq_true rfl)⟩ rfl hl.1 rfl (Nat.le_of_ble_eq_true rfl) dL_undone_532 ⟨(by show _ ≤ 30000; omega), (by show _ ≤ 180000; omega)⟩ (fun H locs hW hS => ?_)
      refine lv_aload_n hx hb dL_undone_535 rfl (lv_at hl 1 rfl) ?_
      refine lv_iload hx hb dL_undone_536 (lv_at hl 2 rfl) ?_
      refine gj_ld (i := n) (by omega) hC hW dL_undone_538 ?_
      refine W.lcmp hx hb dL_undone_539 ?_
      refine lv_if_eq (tgt := 545) hx hb dL_undone_540 (by decide) (fun _ => ?_) (fun c8 => absurd (lg_cmp_same _) c8)
      refine lv_iinc (v := nI n - 1) (lv' := [(4, .int (nI n - 1)), (1, .ref (B + 0)), (2, .ref q)]) hx hb dL_undone_545 hl (k := 2) rfl (by rw [Int32.sub_eq_add_neg]; rfl) (by decide) rfl (fun ls hl => ?_)
      refine lv_goto (tgt := 519) hx hb dL_undone_548 (by decide) ?_
      refine W.widen (k := κ + 1010) (n := 6 * (κ + 1010)) (by omega) (by omega) ?_
      refine ih (by omega) Z2 hs2 pre ss2 _ _ _ (κ + 1010) hq.2.symm hlen2 (fun k hk9 => ?_) hW hS (lv_sub hl [1, 2, 0] rfl) (by omega)
      have h9 := hsum k (by omega)
      rw [List.getD_eq_getElem?_getD, List.getElem?_append_left (by omega), ← List.getD_eq_getElem?_getD] at h9
      exact h9
set_option maxHeartbeats 2000000 in
set_option maxRecDepth 100000 in
/-- a round of the first loop, from the draw on -/
theorem u_17 (F : FX l s0 b D T B) (hX : ∀ o, o < 561 → ¬ X (B + o)) (hN : 1200000000000 ≤ N) (hx : p.tables.exec = Jvm.exec) (hb : c.code = cL_undone) (hml : c.maxLocals = 8) (hk : KC s0 X s) (hC : gC p c cL_undone s m args RL D vwCl (tysG T)) {L : Nat} {xs : Nat → Int32} (hL : L ≤ 260) (hXs : va_X b L xs s0 s0.heap) (hbl : b < s0.heap.size) (hκ : κ + 2700 ≤ 30000) (hi : i < 7) (hdn : dn < 9) {r : Int64} (hf : fL_sum N Z 1000 = some r) (hn : ∀ (d2 : Nat) (Z2 : Nat → Int32) (hs2 : List (Nat → Int32)) (H : Heap) (locs : List Loc) (ls : Array Slot), ((d2 = dn ∧ Z2 = Z ∧ hs2 = hs) ∨ (d2 = dn + 1 ∧ hs2 = hsP hs Z)) → gZJ s0 D T B X Z2 hs2 t q (vp_updL f dn r) H → va_S (gA B X) s.heap H locs → lv_has ls 8 [(0, .ref b), (1, .ref (B + 0)), (2, .ref q), (3, .int (nI d2)), (4, .int (nI (i + 1)))] → W p l e rmL_undone s m args below meth c H locs (κ + 2700) (6 * (κ + 2700)) Q (F0 m 10 ls [])) (hW : gZJ s0 D T B X Z hs t q f H) (hS : va_S (gA B X) s.heap H locs) (hl : lv_has ls 8 [(0, .ref b), (1, .ref (B + 0)), (2, .ref q), (3, .int (nI dn)), (4, .int (nI i))]) : W p l e rmL_undone s m args below meth c H locs κ (6 * κ) Q (F0 m 17 ls []) := by
  refine lv_aload_n hx hb dL_undone_17 rfl (lv_at hl 0 rfl) ?_
  refine lv_bipush (v := 36) hx hb dL_undone_18 (by decide) ?_
  refine lv_iload hx hb dL_undone_20 (lv_at hl 4 rfl) ?_
  refine lv_iadd hx hb dL_undone_22 ?_
  have h0 : ¬ (36 + nI i : Int32) < 0 := by
    rw [show (36 : Int32) = nI 36 from rfl, nI_add]
    exact nI_pos (by omega)
  refine gj_in (As := [.ref b, .int (36 + nI i)]) F hX hk hC hml hS hW (fun _ => metL_cell F hXs hbl hL h0) ml_L_194 ⟨rfl, rfl, (Nat.le_of_ble_eq_true rfl), (Nat.le_of_ble_eq_true rfl)⟩ rfl hl.1 rfl (Nat.le_of_ble_eq_true rfl) dL_undone_23 ⟨(by show _ ≤ 30000; omega), (by show _ ≤ 180000; omega)⟩ (fun H locs hW hS => ?_)
  change W p l e _ s m args below meth c H locs _ _ Q (F0 m _ ls (.int (cellL L xs (36 + nI i)) :: _))
  refine lv_iconst (v := 1) hx hb dL_undone_26 (by decide) ?_
  refine lv_iushr hx hb dL_undone_27 rfl ?_
  obtain ⟨c5, hc5, ec5⟩ := shV (cellL L xs (36 + nI i))
  rw [ec5]
  refine lv_istore (lv' := [(5, .int (nI c5)), (0, .ref b), (1, .ref (B + 0)), (2, .ref q), (3, .int (nI dn)), (4, .int (nI i))]) hx hb dL_undone_28 hl (by decide) rfl (fun ls hl => ?_)
  refine lv_iload hx hb dL_undone_30 (lv_at hl 0 rfl) ?_
  refine lv_iconst (v := 4) hx hb dL_undone_32 (by decide) ?_
  refine lv_iushr hx hb dL_undone_33 rfl ?_
  rw [sh8 (k := 4) (q := 4) hc5 (by decide) rfl]
  have he6 := shr 4 hc5
  refine lv_istore (lv' := [(6, .int (nI (c5 / 2 ^ 4))), (5, .int (nI c5)), (0, .ref b), (1, .ref (B + 0)), (2, .ref q), (3, .int (nI dn)), (4, .int (nI i))]) hx hb dL_undone_34 hl (by decide) rfl (fun ls hl => ?_)
  refine lv_aload_n hx hb dL_undone_36 rfl (lv_at hl 4 rfl) ?_
  refine lv_iload_n hx hb dL_undone_37 rfl (lv_at hl 5 rfl) ?_
  refine lv_aload_n hx hb dL_undone_38 rfl (lv_at hl 3 rfl) ?_
  refine gj_law (As := [.ref (B + 0)]) F hX hk hC hml hS hW (fun hX9 => metL_sum F hX9 hN hf) ml_L_433 ⟨rfl, rfl, (Nat.le_of_ble_eq_true rfl), (Nat.le_of_ble_eq_true rfl)⟩ rfl hl.1 rfl (Nat.le_of_ble_eq_true rfl) dL_undone_39 ⟨(by show _ ≤ 30000; omega), (by show _ ≤ 180000; omega)⟩ (fun H locs hW hS => ?_)
  change W p l e _ s m args below meth c H locs _ _ Q (F0 m _ ls (.long r :: .int (nI dn) :: .ref q :: []))
  refine gj_st hdn hC hS hW dL_undone_42 (fun H locs hW hS => ?_)
  have hf2 : fL_sum N Z 1000 = some (vp_updL f dn r dn) := by rw [hf]; unfold vp_updL; rw [if_pos rfl]
  refine W.widen (k := κ + 1000) (n := 6 * (κ + 1000)) (by omega) (by omega) ?_
  refine u_43 (κ := κ + 1000) F hX hN hx hb hml hk hC (by omega) (fun x Z2 hs2 H locs ls hR hW hS hl => ?_) hW hS hc5 he6 (lv_sub hl [2, 3, 4, 5, 6, 0, 1] rfl)
  exact u_477 (κ := κ + 1000 + 600) F hX hN hx hb hml hk hC (by omega) hdn hf2 (fun d2 Z2 hs2 H locs ls h1 h2 h3 h4 => hn d2 Z2 hs2 H locs ls h1 h2 h3 h4) hR hW hS hl
set_option maxHeartbeats 2000000 in
set_option maxRecDepth 100000 in
theorem u_10 (F : FX l s0 b D T B) (hX : ∀ o, o < 561 → ¬ X (B + o)) (hN : 1200000000000 ≤ N) (hx : p.tables.exec = Jvm.exec) (hb : c.code = cL_undone) (hml : c.maxLocals = 8) (hk : KC s0 X s) (hC : gC p c cL_undone s m args RL D vwCl (tysG T)) {L : Nat} {xs : Nat → Int32} (hL : L ≤ 260) (hXs : va_X b L xs s0 s0.heap) (hbl : b < s0.heap.size) (hend : ∀ {H : Heap} {locs : List Loc} {cells slots pc : Nat} {ls : Array Slot}, decode cL_undone pc = .ok (.ireturn, 1) → va_S (gA B X) s.heap H locs → cells ≤ 30000 → slots ≤ 180000 → W p l e rmL_undone s m args below meth c H locs cells slots Q (F0 m pc ls [.int 1])) : ∀ (n i : Nat), i + n = 7 → ∀ (dn : Nat) (Z : Nat → Int32) (hs pre ss : List (Nat → Int32)) (f : Nat → Int64) (H : Heap) (locs : List Loc) (ls : Array Slot) (κ : Nat), hs = pre ++ ss → ss.length = dn → dn ≤ i → (∀ k, k < dn → fL_sum N (ss.getD k z0) 1000 = some (f k)) → gZJ s0 D T B X Z hs t q f H → va_S (gA B X) s.heap H locs → lv_has ls 8 [(0, .ref b), (1, .ref (B + 0)), (2, .ref q), (3, .int (nI dn)), (4, .int (nI i))] → κ + 2700 * n + 8000 ≤ 30000 → W p l e rmL_undone s m args below meth c H locs κ (6 * κ) Q (F0 m 10 ls []) := by
  intro n
  induction n with
  | zero =>
    intro i hi dn Z hs pre ss f H locs ls κ he hlen hdi hsum hW hS hl hκ
    have hi7 : i = 7 := by omega
    subst hi7
    refine lv_iload hx hb dL_undone_10 (lv_at hl 4 rfl) ?_
    refine lv_bipush (v := 7) hx hb dL_undone_12 (by decide) ?_
    refine lv_icmp_ge (tgt := 514) hx hb dL_undone_14 (by decide) (fun _ => ?_) (fun c9 => absurd (by decide) c9)
    refine lv_iload_n hx hb dL_undone_514 rfl (lv_at hl 3 rfl) ?_
    refine lv_iconst (v := 1) hx hb dL_undone_515 (by decide) ?_
    refine lv_isub hx hb dL_undone_516 ?_
    refine lv_istore (lv' := [(4, .int (nI dn - 1)), (0, .ref b), (1, .ref (B + 0)), (2, .ref q), (3, .int (nI dn))]) hx hb dL_undone_517 hl (by decide) rfl (fun ls hl => ?_)
    exact u_519 F hX hN hx hb hml hk hC hend dn hdi Z hs pre ss _ _ _ κ he hlen hsum hW hS (lv_sub hl [2, 3, 0] rfl) (by omega)
  | succ n ih =>
    intro i hi dn Z hs pre ss f H locs ls κ he hlen hdi hsum hW hS hl hκ
    have hg := gZ_si hW.1
    refine lv_iload hx hb dL_undone_10 (lv_at hl 4 rfl) ?_
    refine lv_bipush (v := 7) hx hb dL_undone_12 (by decide) ?_
    refine lv_icmp_ge (tgt := 514) hx hb dL_undone_14 (by decide) (fun c9 => absurd ((nI_leI (a := 7) (by decide) (by omega)).mp c9) (by omega)) (fun _ => ?_)
    obtain ⟨r, hf, -⟩ := k_sum (N := N) (Z := Z) (by omega) hg.1
    refine u_17 F hX hN hx hb hml hk hC hL hXs hbl (by omega) (by omega) (by omega) hf (fun d2 Z2 hs2 H2 locs2 ls2 h1 hW2 hS2 hl2 => ?_) hW hS hl
    clear hW hS hl
    rcases h1 with ⟨rfl, rfl, rfl⟩ | ⟨rfl, h2⟩
    · refine ih (i + 1) (by omega) d2 Z2 hs2 pre ss _ _ _ _ (κ + 2700) he hlen (by omega) (fun k hk9 => ?_) hW2 hS2 hl2 (by omega)
      rw [hsum k hk9]
      unfold vp_updL
      rw [if_neg (by omega)]
    · have h8 := hg.2
      rw [he] at h8
      obtain ⟨pre2, hp⟩ := hsP_app (Z := Z) h8 (by omega)
      refine ih (i + 1) (by omega) (dn + 1) Z2 hs2 pre2 (ss ++ [Z]) _ _ _ _ (κ + 2700) (by rw [h2, he, hp]) (by rw [List.length_append, hlen]; rfl) (by omega) (fun k hk9 => ?_) hW2 hS2 hl2 (by omega)
      unfold vp_updL
      rw [List.getD_eq_getElem?_getD]
      by_cases hkd : k = dn
      · rw [if_pos hkd, List.getElem?_append_right (by omega), hkd, hlen, Nat.sub_self]
        exact hf
      · rw [if_neg hkd, List.getElem?_append_left (by omega), ← List.getD_eq_getElem?_getD]
        exact hsum k (by omega)
end UE
set_option maxHeartbeats 2000000 in
set_option maxRecDepth 100000 in
theorem metL_undone {l : Launch} {s0 : State} {b B : Nat} {D : va_G} {T : Nat → ClassId} (F : FX l s0 b D T B) {X : Nat → Prop} (hX : ∀ o, o < 561 → ¬ X (B + o)) {N : Nat} (hN : 1200000000000 ≤ N) {L : Nat} {xs : Nat → Int32} (hL : L ≤ 260) (hXs : va_X b L xs s0 s0.heap) (hbl : b < s0.heap.size) {Z : Nat → Int32} {hs : List (Nat → Int32)} {t : List Nat} : gMet l yL_undone cL_undone 8 (some .boolean) rmL_undone [.ref b, .ref (B + 0)] (gZ s0 D T B X Z hs t) (KC s0 X) (some (.int (b2i true))) (fun _ => True) (gA B X) 30000 180000 := by
  refine gZ_of RL (by decide +kernel) rfl (Nat.le_of_ble_eq_true rfl) ?_
  intro p e s m args below meth c ls Q hx hb hlocks hml hown hts hW hk hl hS hend
  have hC := FX_C F hk hx hb hown hts
  have hl : lv_has ls 8 [(0, .ref b), (1, .ref (B + 0))] := hl
  refine lv_bipush (v := 9) hx hb dL_undone_0 (by decide) ?_
  refine gj_new hC hk.2.2.2 hS hW (by decide) (by decide) dL_undone_2 (fun H hW hS => ?_)
  refine lv_astore_n (lv' := [(2, .ref s.heap.size), (0, .ref b), (1, .ref (B + 0))]) hx hb dL_undone_4 rfl hl (by decide) rfl (fun ls hl => ?_)
  refine lv_iconst (v := 0) hx hb dL_undone_5 (by decide) ?_
  refine lv_istore_n (lv' := [(3, .int 0), (2, .ref s.heap.size), (0, .ref b), (1, .ref (B + 0))]) hx hb dL_undone_6 rfl hl (by decide) rfl (fun ls hl => ?_)
  refine lv_iconst (v := 0) hx hb dL_undone_7 (by decide) ?_
  refine lv_istore (lv' := [(4, .int 0), (3, .int 0), (2, .ref s.heap.size), (0, .ref b), (1, .ref (B + 0))]) hx hb dL_undone_8 hl (by decide) rfl (fun ls hl => ?_)
  refine W.widen (k := 2) (n := 6 * 2) (by decide) (by decide) ?_
  exact u_10 F hX hN hx hb hml hk hC hL hXs hbl (fun hd hS hc hs => hend hd True.intro hS hc hs) 7 0 rfl 0 Z hs hs [] _ _ _ _ 2 (List.append_nil hs).symm rfl (Nat.le_refl 0) (fun k hk9 => absurd hk9 (Nat.not_lt_zero k)) hW hS (lv_sub hl [3, 4, 2, 1, 0] rfl) (by decide)
