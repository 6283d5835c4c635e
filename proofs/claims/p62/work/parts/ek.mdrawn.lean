/-! The law draws a gallery: from the call on. -/
abbrev X0 : Nat → Prop := fun _ => False
theorem cl_L_9 : Cond.classLink RL 9 RX10 ∈ WG ∧ Cond.instantiable RX10 13 ∈ WG ∧ Cond.initialized RX10 ∈ WG := ⟨wg_t 38 (by decide +kernel) (by decide +kernel), wg_t 39 (by decide +kernel) (by decide +kernel), wg_t 1 (by decide +kernel) (by decide +kernel)⟩
theorem eCat_z {E g : Nat → va_E} {o : Nat} : eCat E 0 g o = g o := by unfold eCat; rw [if_neg (Nat.not_lt_zero _), Nat.sub_zero]
set_option maxHeartbeats 4000000 in
set_option maxRecDepth 100000 in
theorem metL_drawn {l : Launch} {s0 : State} {b B : Nat} {D : va_G} {T : Nat → ClassId} (F : FX l s0 b D T B) {N : Nat} (hN : 1200000000000 ≤ N) {L : Nat} {xs : Nat → Int32} (hL : L ≤ 260) (hXs : va_X b L xs s0 s0.heap) (hbl : b < s0.heap.size) {K : Nat} (hK : 1710 ≤ K) : gMetQ l yL_drawn cL_drawn 11 (some (.object "AvalancheGallery")) (rmL_drawn K) [.ref b] (fun H => H.size = B) (KC s0 X0) (fun v H => v = .ref (B + 0) ∧ ∃ Z hs, gZ s0 D T B X0 Z hs [] H ∧ 1 ≤ nZ Z ∧ 1 ≤ eZ Z ∧ TK Z 168) (gA B X0) K (6 * K) := by
  refine gMetQ_of RL (by decide +kernel) rfl (Nat.le_of_ble_eq_true rfl) ?_
  intro p e s m below meth c ls hx hb hr hlocks hml hown hts hW hk hl hS
  have hC := FX_C F hk hx hb hown hts
  have hl : lv_has ls 11 [(0, .ref b)] := hl
  have hE : gE D B 0 (fun _ => .inl (T 0, 0, .inl z0)) s.heap := ⟨hW, fun o ho => absurd ho (Nat.not_lt_zero o)⟩
  refine ge_obj (C := RX10) (T := TX10) (N := 13) (ci := 11) tyX10 hC cl_L_9 uw_X10 tyX10_ok rfl (fs := [.null, .null, .int 0, .null, .null, .null, .null, .null, .null, .int 0, .int 0, .int 0, .int 0]) (fun j hj => by rcases (show j = 0 ∨ j = 1 ∨ j = 2 ∨ j = 3 ∨ j = 4 ∨ j = 5 ∨ j = 6 ∨ j = 7 ∨ j = 8 ∨ j = 9 ∨ j = 10 ∨ j = 11 ∨ j = 12 by omega) with rfl | rfl | rfl | rfl | rfl | rfl | rfl | rfl | rfl | rfl | rfl | rfl | rfl <;> rfl) hE hS (by show _ ≤ K; omega) (by show _ ≤ 6 * K; omega) dL_drawn_0 (fun H hE hS => ?_)
  refine lv_dup hx hb dL_drawn_3 rfl ?_
  refine gw_callI (a := B + 0) (As := []) (v := none) hC hml hS hE (KC_at hk hS F.2.2.2.2) KC_blind (metX10_init (X := X0) F (eup_at rfl)) ml_L_193 rfl (fun q hq => ⟨by have h9 : B + 0 ≤ q := hq; omega, fun z => z⟩) ⟨rfl, rfl, (by first | exact Nat.le_of_ble_eq_true rfl | (simp only [rmL_drawn]; omega)), (by first | exact Nat.le_of_ble_eq_true rfl | (simp only [rmL_drawn]; omega))⟩ rfl hl.1 rfl (Nat.le_of_ble_eq_true rfl) dL_drawn_4 ⟨(by show _ ≤ K; omega), (by show _ ≤ 6 * K; omega)⟩ (fun H1 locs1 hE1 hS1 _ _ => ?_)
  refine lv_astore_n (lv' := [(1, .ref (B + 0)), (0, .ref b)]) hx hb dL_drawn_7 rfl hl (by decide) rfl (fun ls hl => ?_)
  have hG : ∀ o, o < 562 → va_at D vwCl (B + o, gxGa T B 0 o) H1 := fun o ho => by
    have h := hE1.2 o (by omega)
    rw [eCat_z] at h
    exact h
  have hZ := gZ_first (s0 := s0) (X := X0) (fun z => z) hG
  obtain ⟨r, h, -⟩ := k_drawn (N := N) (K := K) (κ0 := 1644) (L := L) (xs := xs) (P := fun Z hs => 1 ≤ nZ Z ∧ 1 ≤ eZ Z ∧ TK Z 168) hN (by omega) (fun Z hs _ h1 h2 h3 => ⟨h1, h2, h3⟩)
  refine W.widen (k := 1644) (n := 6 * 1644) (by decide) (by decide) ?_
  exact wL_drawn F (fun _ _ z => z) hN hL hXs hbl hx hb hml hk hC (fun hd hW hP hS hc hs => W.widen hc hs (W.aret hx hb hr (Or.inl ⟨_, rfl⟩) (Or.inr ⟨_, rfl⟩) (fun t ht _ => ⟨_, rfl, by rw [ht]; exact ⟨rfl, _, _, hW, hP⟩, hS.F ht⟩) hS.2.2 hd hlocks)) h hZ hS1 (lv_sub hl [1, 0] rfl)
