/-! The law: a gallery is drawn; all that is asked of it holds. -/
set_option maxHeartbeats 4000000 in
set_option maxRecDepth 100000 in
theorem law_start {p : Program} {l : Launch} {e : Env} {s : State} {m : MethodId} {below : List Frame} {meth : Method} {c : Code} {b L : Nat} {xs : Nat → Int32} {D : va_G} {T : Nat → ClassId} {B : Nat} {ls : Array Slot} (F : FX l s b D T B) (hB : s.heap.size = B) (C0 : lw_At p s m meth c b L xs) (hL : L ≤ 260) (hl : lv_has ls 2 [(0, .ref b)]) : W p l e room_1 s m #[.ref b] below meth c s.heap [] 0 0 (lw_Z below #[Value.ref b] s) (F0 m 0 ls []) := by
  obtain ⟨hx, hb, hr, hml, hown, hts0, hXs, hbl, hlocks, hgv⟩ := id C0
  have hts : ∀ w ∈ WG, w.before #[Value.ref b] s = true := fun w hw => hts0 w (wg_tbl hw)
  have hk : KC s X0 s := ⟨State.WarmedH.refl s, Nat.le_refl _, fun _ _ => rfl, fun _ z => z.elim⟩
  have hC : gC p c code s m #[.ref b] RL D vwCl (tysG T) := FX_C F hk hx hb hown hts
  have hS : va_S (gA B X0) s.heap s.heap [] := va_S.rf
  have hX : ∀ o, o < 561 → ¬ X0 (B + o) := fun _ _ z => z
  have hN : 1200000000000 ≤ 1200000000000 := Nat.le_refl _
  refine lv_aload_n hx hb dL_law_0 rfl (lv_at hl 0 rfl) ?_
  refine gr_ret (As := [.ref b]) (va_runS ⟨hx, hb, hml, hown, hts⟩ (metL_drawn F hN hL hXs hbl (K := 1710) (Nat.le_refl _)) ⟨gw_cb hts ml_L_224.1 ⟨rfl, rfl, (Nat.le_of_ble_eq_true rfl), (Nat.le_of_ble_eq_true rfl)⟩, hts _ ml_L_224.2⟩ ⟨gPc_blind KC_blind, fun U hU hWm => ⟨rfl, by rw [hU]; exact hB, KC_at hk hS F.2.2.2.2 U hU hWm⟩⟩ rfl rfl hl.1 rfl (lv_room (Nat.le_of_ble_eq_true rfl)) dL_law_1 ⟨(Nat.le_of_ble_eq_true rfl), (Nat.le_of_ble_eq_true rfl)⟩) hS (fun z hz => hz) (fun v H locs hq hS _ _ => ?_)
  obtain ⟨rfl, Z, hs, hW, h1, h2, h3⟩ := hq
  have hsi := (gZ_si hW).1
  refine lv_astore_n (lv' := [(1, .ref (B + 0)), (0, .ref b)]) hx hb dL_law_4 rfl hl (by decide) rfl (fun ls hl => ?_)
  refine lv_aload_n hx hb dL_law_5 rfl (lv_at hl 0 rfl) ?_
  refine lv_ifnull hx hb dL_law_6 ?_
  refine lv_aload_n hx hb dL_law_9 rfl (lv_at hl 0 rfl) ?_
  obtain ⟨r1, f1, rfl⟩ := k_ways (N := 1200000000000) (K := 87000) (by decide) (SIp_z hsi) (Nat.le_refl _)
  refine gw_callS (As := [.ref (B + 0)]) hC hml hS hW (KC_at hk hS F.2.2.2.2) KC_blind (metL_ways F hX hN f1) ml_L_228 (fun z hz => hz) ⟨rfl, rfl, (Nat.le_of_ble_eq_true rfl), (Nat.le_of_ble_eq_true rfl)⟩ rfl hl.1 rfl (Nat.le_of_ble_eq_true rfl) dL_law_10 ⟨(Nat.le_of_ble_eq_true rfl), (Nat.le_of_ble_eq_true rfl)⟩ (fun H locs hW hS _ _ => ?_)
  refine lv_if_eq (tgt := 57) hx hb dL_law_13 (by decide) (fun c9 => absurd c9 (by decide)) (fun _ => ?_)
  refine lv_aload_n hx hb dL_law_16 rfl (lv_at hl 1 rfl) ?_
  refine lv_aload_n hx hb dL_law_17 rfl (lv_at hl 0 rfl) ?_
  obtain ⟨r2, f2, rfl⟩ := k_piles (N := 1200000000000) (K := 1000) (L := L) (xs := xs) hN hsi h2 (Nat.le_refl _)
  refine gw_callS (As := [.ref b, .ref (B + 0)]) hC hml hS hW (KC_at hk hS F.2.2.2.2) KC_blind (metL_piles F hX hN hL hXs hbl f2) ml_L_232 (fun z hz => hz) ⟨rfl, rfl, (Nat.le_of_ble_eq_true rfl), (Nat.le_of_ble_eq_true rfl)⟩ rfl hl.1 rfl (Nat.le_of_ble_eq_true rfl) dL_law_18 ⟨(Nat.le_of_ble_eq_true rfl), (Nat.le_of_ble_eq_true rfl)⟩ (fun H locs hW hS _ _ => ?_)
  refine lv_if_eq (tgt := 57) hx hb dL_law_21 (by decide) (fun c9 => absurd c9 (by decide)) (fun _ => ?_)
  refine lv_aload_n hx hb dL_law_24 rfl (lv_at hl 0 rfl) ?_
  obtain ⟨r3, f3, rfl⟩ := k_couriers (N := 1200000000000) (K := 150000) (by decide) hsi h2 (Nat.le_refl _)
  refine gw_callS (As := [.ref (B + 0)]) hC hml hS hW (KC_at hk hS F.2.2.2.2) KC_blind (metL_couriers F hX hN f3) ml_L_236 (fun z hz => hz) ⟨rfl, rfl, (Nat.le_of_ble_eq_true rfl), (Nat.le_of_ble_eq_true rfl)⟩ rfl hl.1 rfl (Nat.le_of_ble_eq_true rfl) dL_law_25 ⟨(Nat.le_of_ble_eq_true rfl), (Nat.le_of_ble_eq_true rfl)⟩ (fun H locs hW hS _ _ => ?_)
  refine lv_if_eq (tgt := 57) hx hb dL_law_28 (by decide) (fun c9 => absurd c9 (by decide)) (fun _ => ?_)
  refine lv_aload_n hx hb dL_law_31 rfl (lv_at hl 0 rfl) ?_
  have he5 := (SIp_z hsi).2.2.2.2.2.1
  obtain ⟨r4, f4, rfl⟩ := k_loans (N := 1200000000000) (K := 100) (by decide) hsi (fun e2 he => by
    obtain ⟨k, hk9, q⟩ := h3 e2 (by omega)
    rw [q]
    exact nI_pos (by omega)) (Nat.le_refl _)
  refine gw_callS (As := [.ref (B + 0)]) hC hml hS hW (KC_at hk hS F.2.2.2.2) KC_blind (metL_loans F hX hN f4) ml_L_239 (fun z hz => hz) ⟨rfl, rfl, (Nat.le_of_ble_eq_true rfl), (Nat.le_of_ble_eq_true rfl)⟩ rfl hl.1 rfl (Nat.le_of_ble_eq_true rfl) dL_law_32 ⟨(Nat.le_of_ble_eq_true rfl), (Nat.le_of_ble_eq_true rfl)⟩ (fun H locs hW hS _ _ => ?_)
  refine lv_if_eq (tgt := 57) hx hb dL_law_35 (by decide) (fun c9 => absurd c9 (by decide)) (fun _ => ?_)
  refine lv_aload_n hx hb dL_law_38 rfl (lv_at hl 0 rfl) ?_
  obtain ⟨r5, f5, e5⟩ := k_texts (N := 1200000000000) (K := 50000) (t := []) hN hsi h1 (Nat.le_refl _)
  have M5 := metL_texts (l := l) F (X := X0) hX hN (hs := hs) f5
  rw [e5] at M5
  refine gw_callS (As := [.ref (B + 0)]) hC hml hS hW (KC_at hk hS F.2.2.2.2) KC_blind (M5) ml_L_242 (fun z hz => hz) ⟨rfl, rfl, (Nat.le_of_ble_eq_true rfl), (Nat.le_of_ble_eq_true rfl)⟩ rfl hl.1 rfl (Nat.le_of_ble_eq_true rfl) dL_law_39 ⟨(Nat.le_of_ble_eq_true rfl), (Nat.le_of_ble_eq_true rfl)⟩ (fun H locs hW hS _ _ => ?_)
  refine lv_if_eq (tgt := 57) hx hb dL_law_42 (by decide) (fun c9 => absurd c9 (by decide)) (fun _ => ?_)
  refine lv_aload_n hx hb dL_law_45 rfl (lv_at hl 1 rfl) ?_
  refine lv_aload_n hx hb dL_law_46 rfl (lv_at hl 0 rfl) ?_
  refine gw_callS (As := [.ref b, .ref (B + 0)]) hC hml hS hW (KC_at hk hS F.2.2.2.2) KC_blind (metL_undone F hX hN hL hXs hbl) ml_L_245 (fun z hz => hz) ⟨rfl, rfl, (Nat.le_of_ble_eq_true rfl), (Nat.le_of_ble_eq_true rfl)⟩ rfl hl.1 rfl (Nat.le_of_ble_eq_true rfl) dL_law_47 ⟨(Nat.le_of_ble_eq_true rfl), (Nat.le_of_ble_eq_true rfl)⟩ (fun H locs hW hS _ _ => ?_)
  refine lv_if_eq (tgt := 57) hx hb dL_law_50 (by decide) (fun c9 => absurd c9 (by decide)) (fun _ => ?_)
  refine lv_iconst (v := 1) hx hb dL_law_53 (by decide) ?_
  refine lv_goto (tgt := 58) hx hb dL_law_54 (by decide) ?_
  refine va_forget (fun q hq => Nat.le_trans F.2.2.2.2 (hS.2.2 q hq).1) ?_
  refine W.widen (k := 724167) (n := 6919348) (Nat.le_of_ble_eq_true rfl) (Nat.le_of_ble_eq_true rfl) ?_
  exact lw_ret (d0 := s.drawn) (Drawn.sameBut.refl s.drawn lw_cs) hx hb hr hlocks dL_law_58
set_option maxHeartbeats 4000000 in
set_option maxRecDepth 100000 in
theorem whole_start {p : Program} {e : Env} {s : State} {m : MethodId} {below : List Frame} {meth : Method} {c : Code} (l : Launch) (hflags : l.flags = flags0) {b L : Nat} {xs : Nat → Int32} (hL : L ≤ 260) (C0 : lw_At p s m meth c b L xs) : W p l e room_1 s m #[Value.ref b] below meth c s.heap [] 0 0 (lw_Z below #[Value.ref b] s) (entryFrame m ([Value.ref b] : List Value).toArray 2) := by
  obtain ⟨D, T, hF⟩ := FX_start hflags C0.2.2.2.2.2.1 C0.2.2.2.2.2.2.2.2.2
  have hl := lv_entry ([.ref b]) (n := 2) (Nat.le_of_ble_eq_true rfl)
  rw [lg_entry_eq]
  generalize (lg_sl ([.ref b]) ++ List.replicate (2 - (lg_sl ([.ref b])).length) Slot.unset).toArray = ls at hl ⊢
  exact law_start (hF s.heap.size (Nat.le_refl _)) rfl C0 hL hl
