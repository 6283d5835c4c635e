/-! Pure layer: the changes one by one. -/
section CHX
variable {N : Nat} {μ : Mem} {t : List Nat} {Z : Nat → Int32} {hs : List (Nat → Int32)} {Fp : Nat → Prop} {E : (Nat → Int32) → Int32 → Prop}
theorem c_addRoom {x : Int32} (hN : 20 ≤ N) (h : PZ μ t Z hs) (hF : ∀ k, RC μ 1 Z → (fun m => fX10_roomFault N m 0 x) μ = some (k + 1) → Fp k) (hE : ∀ (m : Mem) (r : Mem × Int32) (Z' : Nat → Int32), RC m 1 Z → (fun m => fX10_roomFault N m 0 x) m = some 0 → (fun m => fX8_putRoom N m 1 x) m = some r → RC r.1 1 Z' → SI Z' → E Z' r.2) : Ok (fX10_addRoom N μ 0 x) (CHG [1, 2] t Z hs Fp E) :=
  op_z (N := N) (L := [1, 2]) (Fp := Fp) (E := E) (fault := fun m => fX10_roomFault N m 0 x) (deed := fun m => fX8_putRoom N m 1 x) (dom := fun w => fX11_doAddRoom N w 0 x) (by omega) h (fun ν m hm => cmd_room hm) hF hE
theorem c_setLeg {x y m0 w0 : Int32} (hN : 50 ≤ N) (h : PZ μ t Z hs) (hF : ∀ k, RC μ 1 Z → (fun q => fX10_legFault N q 0 x y m0 w0) μ = some (k + 1) → Fp k) (hE : ∀ (m : Mem) (r : Mem × Int32) (Z' : Nat → Int32), RC m 1 Z → (fun q => fX10_legFault N q 0 x y m0 w0) m = some 0 → (fun q => fX8_putLeg N q 1 x y m0 w0) m = some r → RC r.1 1 Z' → SI Z' → E Z' r.2) : Ok (fX10_setLeg N μ 0 x y m0 w0) (CHG [0, 1] t Z hs Fp E) :=
  op_z (N := N) (L := [0, 1]) (Fp := Fp) (E := E) (fault := fun q => fX10_legFault N q 0 x y m0 w0) (deed := fun q => fX8_putLeg N q 1 x y m0 w0) (dom := fun q => fX11_doSetLeg N q 0 x y m0 w0) (by omega) h (fun ν m hm => cmd_leg hN hm) hF hE
theorem c_addExhibit {x y : Int32} (hN : 200 ≤ N) (h : PZ μ t Z hs) (hF : ∀ k, RC μ 1 Z → (fun q => fX10_pileFault N q 0 x y) μ = some (k + 1) → Fp k) (hE : ∀ (m : Mem) (r : Mem × Int32) (Z' : Nat → Int32), RC m 1 Z → (fun q => fX10_pileFault N q 0 x y) m = some 0 → (fun q => fX8_putExhibit N q 1 x y) m = some r → RC r.1 1 Z' → SI Z' → E Z' r.2) : Ok (fX10_addExhibit N μ 0 x y) (CHG [0, 1, 2] t Z hs Fp E) :=
  op_z (N := N) (L := [0, 1, 2]) (Fp := Fp) (E := E) (fault := fun q => fX10_pileFault N q 0 x y) (deed := fun q => fX8_putExhibit N q 1 x y) (dom := fun q => fX11_doAddExhibit N q 0 x y) (by omega) h (fun ν m hm => cmd_pile hN hm) hF hE
theorem c_drop {x px py g : Int32} (hN : 20000 ≤ N) (h : PZ μ t Z hs) (hF : ∀ k, RC μ 1 Z → (fun q => fX10_dropFault N q 0 x px py g) μ = some (k + 1) → Fp k) (hE : ∀ (m : Mem) (r : Mem × Int32) (Z' : Nat → Int32), RC m 1 Z → (fun q => fX10_dropFault N q 0 x px py g) m = some 0 → (fun m => ar 5 x fun q7 => (fX10_placeAt N m px py).bind fun r11 => fX6_fallOn N m 538 ((1 + 16) + 1 + 6 * q7) r11 g) m = some r → RC r.1 1 Z' → SI Z' → E Z' r.2) : Ok (fX10_drop N μ 0 x px py g) (CHG [0, 1] t Z hs Fp E) := by
  have hop := op_z (N := N) (L := [0, 1]) (Fp := Fp) (E := E) (fault := fun q => fX10_dropFault N q 0 x px py g) (deed := fun m => ar 5 x fun q7 => (fX10_placeAt N m px py).bind fun r11 => fX6_fallOn N m 538 ((1 + 16) + 1 + 6 * q7) r11 g) (dom := fun q => fX11_doDrop N q 0 x px py g) (by omega) h (fun ν m hm => cmd_drop hN hm) hF hE
  obtain ⟨r, er, hr⟩ := hop
  refine ⟨r, ?_, hr⟩
  rw [← er]
  unfold fX10_drop
  simp only [← ar_bind]
  try rfl
theorem c_send {x y : Int32} (hN : 1200000000000 ≤ N) (h : PZ μ t Z hs) (hF : ∀ k m0, RC μ 1 Z → (fun q => fX10_sendFault N q 0 x y) μ = some (m0, k + 1) → Fp k) (hE : ∀ (m : Mem) (r : Mem × Int32) (Z' : Nat → Int32), RC m 1 Z → (RC μ 1 Z ∧ ∃ m0, (fun q => fX10_sendFault N q 0 x y) μ = some (m0, 0)) → (fun m => ar 5 x fun q7 => fX10_carry N m 0 (1 + 16 + 1 + 6 * q7) y) m = some r → RC r.1 1 Z' → SI Z' → E Z' r.2) : Ok (fX10_send N μ 0 x y) (CHG [0, 4] t Z hs Fp E) := by
  have hop := op_zx (N := N) (L := [0, 4]) (Fp := Fp) (E := E) (fault := fun q => fX10_sendFault N q 0 x y) (deed := fun m => ar 5 x fun q7 => fX10_carry N m 0 (1 + 16 + 1 + 6 * q7) y) (dom := fun q => fX11_doSend N q 0 x y) (by omega) h (fun ν hR => cmd_send hN (ST_kp hR)) hF hE
  obtain ⟨r, er, hr⟩ := hop
  refine ⟨r, ?_, hr⟩
  rw [← er]
  unfold fX10_send
  simp only [← ar_bind]
  try rfl
theorem c_passDays {x : Int32} (hN : 1000 ≤ N) (h : PZ μ t Z hs) (hF : ∀ k, RC μ 1 Z → (fun q => fX10_daysFault N q x) μ = some (k + 1) → Fp k) (hE : ∀ (m : Mem) (r : Mem × Int32) (Z' : Nat → Int32), RC m 1 Z → (fun q => fX10_daysFault N q x) m = some 0 → (fun q => fX8_letDaysPass N q 1 x) m = some r → RC r.1 1 Z' → SI Z' → E Z' r.2) : Ok (fX10_passDays N μ 0 x) (CHG [1] t Z hs Fp E) :=
  op_z (N := N) (L := [1]) (Fp := Fp) (E := E) (fault := fun q => fX10_daysFault N q x) (deed := fun q => fX8_letDaysPass N q 1 x) (dom := fun q => fX11_doPassDays N q 0 x) (by omega) h (fun ν m hm => cmd_days hN hm) hF hE
theorem c_ask {x a b c : Int32} (hN : 200 ≤ N) (h : PZ μ t Z hs) (hF : ∀ k, RC μ 1 Z → (fun q => fX10_askFault N q 0 x a b c) μ = some (k + 1) → Fp k) (hE : ∀ (m : Mem) (r : Mem × Int32) (Z' : Nat → Int32), RC m 1 Z → (fun q => fX10_askFault N q 0 x a b c) m = some 0 → (fun m => ar 5 x fun q7 => fX1_noteLoan N m (1 + 16 + 1 + 6 * q7) a b c) m = some r → RC r.1 1 Z' → SI Z' → E Z' r.2) : Ok (fX10_ask N μ 0 x a b c) (CHG [0, 1, 2] t Z hs Fp E) := by
  have hop := op_z (N := N) (L := [0, 1, 2]) (Fp := Fp) (E := E) (fault := fun q => fX10_askFault N q 0 x a b c) (deed := fun m => ar 5 x fun q7 => fX1_noteLoan N m (1 + 16 + 1 + 6 * q7) a b c) (dom := fun q => fX11_doAsk N q 0 x a b c) (by omega) h (fun ν m hm => cmd_ask hN hm) hF hE
  obtain ⟨r, er, hr⟩ := hop
  refine ⟨r, ?_, hr⟩
  rw [← er]
  unfold fX10_ask
  simp only [← ar_bind]
  try rfl
theorem c_takeBest {x : Int32} (hN : 1000 ≤ N) (h : PZ μ t Z hs) (hF : ∀ k, RC μ 1 Z → (fun q => fX10_takeFault N q 0 x) μ = some (k + 1) → Fp k) (hE : ∀ (m : Mem) (r : Mem × Int32) (Z' : Nat → Int32), RC m 1 Z → (fun q => fX10_takeFault N q 0 x) m = some 0 → (fun q => fX8_lend N q 1 x) m = some r → RC r.1 1 Z' → SI Z' → E Z' r.2) : Ok (fX10_takeBest N μ 0 x) (CHG [0, 2] t Z hs Fp E) :=
  op_z (N := N) (L := [0, 2]) (Fp := Fp) (E := E) (fault := fun q => fX10_takeFault N q 0 x) (deed := fun q => fX8_lend N q 1 x) (dom := fun q => fX11_doTakeBest N q 0 x) (by omega) h (fun ν m hm => cmd_take hN hm) hF hE
theorem c_removeLeg {x y : Int32} (hN : 50 ≤ N) (h : PZ μ t Z hs) (hF : ∀ k, RC μ 1 Z → (fun q => fX10_missingLegFault N q 0 x y) μ = some (k + 1) → Fp k) (hE : ∀ (m : Mem) (r : Mem × Int32) (Z' : Nat → Int32), RC m 1 Z → (fun q => fX10_missingLegFault N q 0 x y) m = some 0 → (fun q => fX8_putLeg N q 1 x y 0 0) m = some r → RC r.1 1 Z' → SI Z' → E Z' r.2) : Ok (fX10_removeLeg N μ 0 x y) (CHG [0, 3] t Z hs Fp E) :=
  op_z (N := N) (L := [0, 3]) (Fp := Fp) (E := E) (fault := fun q => fX10_missingLegFault N q 0 x y) (deed := fun q => fX8_putLeg N q 1 x y 0 0) (dom := fun w => (fX11_asksLeg N w 0 x y).bind fun r2 => cond r2.2 ((fX11_lays N r2.1 0 x y 0 0).bind fun r10 => some (r10.1, r10.2)) (some (r2.1, 0))) (by omega) h (fun ν q hq => by
    obtain ⟨hRC, ⟨n, ec, mn, ht, hs⟩, h0⟩ := hq
    have hn := hs.2.1.1
    rcases k_missingLeg (N := N) (x := x) (y := y) hRC hs with ⟨a, b, ha, hb, rfl, rfl, hp, e1, e2⟩ | ⟨e1, e2⟩ | ⟨e1, e2⟩
    · refine Or.inr ⟨e1, ?_⟩
      have hab := ((hs.2.1.2 a b).2.2.2.2 hp).2.2
      have hk6 : mset (kpM ν 0) 0 6 0 = kpM ν 0 := by
        funext q j
        rw [mset_el]
        by_cases c : q = 0 ∧ j = 6
        · rw [if_pos c, c.1, c.2, kp_6]
        · rw [if_neg c]
      obtain ⟨r, er, r', er', hD⟩ := layBoth (m := 0) (w := 0) hN hRC hs h0 ha hb hab (by decide) (by decide)
      refine ⟨r, er, r', ?_, hD⟩
      show ((fX11_asksLeg N (kpM ν 0) 0 (nI a) (nI b)).bind _ : Option (Mem × Int32)) = _
      rw [e2, hk6, bS]
      show ((fX11_lays N (kpM ν 0) 0 (nI a) (nI b) (nI 0) (nI 0)).bind _ : Option (Mem × Int32)) = _
      rw [er']; rfl
    · refine Or.inl ⟨1, 0, e1, by decide, by decide, by decide, rfl, ?_⟩
      show ((fX11_asksLeg N (kpM ν 0) 0 x y).bind _ : Option (Mem × Int32)) = _
      rw [e2]; rfl
    · refine Or.inl ⟨4, 1, e1, by decide, by decide, by decide, rfl, ?_⟩
      show ((fX11_asksLeg N (kpM ν 0) 0 x y).bind _ : Option (Mem × Int32)) = _
      rw [e2]; rfl) hF hE
end CHX
