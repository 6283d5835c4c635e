/-! Printed by program out of the decode rows: what each method of the class does, and its contract. -/
theorem dX10_grains_0 : decode cX10_grains 0 = .ok (.aload_n 0, 1) := by decide +kernel
theorem dX10_grains_1 : decode cX10_grains 1 = .ok (.iload_n 1, 1) := by decide +kernel
theorem dX10_grains_2 : decode cX10_grains 2 = .ok (.invokevirtual 155, 3) := by decide +kernel
theorem dX10_grains_5 : decode cX10_grains 5 = .ok (.getfield 201, 3) := by decide +kernel
theorem dX10_grains_8 : decode cX10_grains 8 = .ok (.invokestatic 204, 3) := by decide +kernel
theorem dX10_grains_11 : decode cX10_grains 11 = .ok (.ireturn, 1) := by decide +kernel
abbrev rmX10_grains : Room := { frames := 7, cells := 1, slots := 6, locals := 141 }
set_option maxHeartbeats 4000000 in
set_option maxRecDepth 100000 in
theorem metX10_grains {l : Launch} {s0 : State} {b B : Nat} {D : va_G} {T : Nat → ClassId} (F : FX l s0 b D T B) {X : Nat → Prop} (hX : ∀ o, o < 560 → ¬ X (B + o)) {N : Nat} {μ : Mem} {a0 : Nat} {a1 : Int32} {r : Mem × (Nat ⊕ Int32)} (k0 : IsGa a0) (h : fX10_grains N μ a0 a1 = some r) : gXMet l yX10_grains cX10_grains 2 (some .int) rmX10_grains [.ref (B + a0), .int a1] (gWC s0 D T B μ) (KC s0 X) (oI r.2) (gWC s0 D T B r.1) (gA B X) 1 6 := by
  refine gXI_of RX10 (by decide +kernel) rfl (Nat.le_of_ble_eq_true rfl) ?_
  intro p e s m args below meth c ls Q hx hb hlocks hml hown hts hW hk hl hS hE
  obtain ⟨hend, hthr, htb, hQ⟩ := hE
  have hC := FX_C F hk hx hb hown hts
  have hA := gA_all hX
  have hl : lv_has ls 2 [(0, .ref (B + a0)), (1, .int a1)] := hl
  unfold fX10_grains at h
  refine lv_aload_n hx hb dX10_grains_0 rfl (lv_at hl 0 rfl) ?_
  refine lv_iload_n hx hb dX10_grains_1 rfl (lv_at hl 1 rfl) ?_
  rcases tb_out h with ⟨μ2, n4, hcall, h9⟩ | ⟨μ2, r3, hcall, h⟩
  · cases h9
    exact gx_callV (As := [.int a1]) hC hml hS hW (KC_at hk hS F.2.2.2.2) KC_blind (metX10_existing F hX k0 hcall) ml_X10_155 (gw_recv hC hW k0.1 (k0.2.2.1 (gfm s0) T B (μ a0)) rfl) ⟨rfl, rfl, (Nat.le_of_ble_eq_true rfl), (Nat.le_of_ble_eq_true rfl)⟩ rfl hl.1 rfl (Nat.le_of_ble_eq_true rfl) dX10_grains_2 ⟨(Nat.le_of_ble_eq_true rfl), (Nat.le_of_ble_eq_true rfl)⟩ (fun v9 ho => by cases ho) (fun k9 ho H locs q9 ce9 hW hS hce hvm hcl => by cases ho; exact hthr _ rfl hW hS hce hvm hcl (Nat.le_of_ble_eq_true rfl) (Nat.le_of_ble_eq_true rfl))
  refine gx_callV (As := [.int a1]) hC hml hS hW (KC_at hk hS F.2.2.2.2) KC_blind (metX10_existing F hX k0 hcall) ml_X10_155 (gw_recv hC hW k0.1 (k0.2.2.1 (gfm s0) T B (μ a0)) rfl) ⟨rfl, rfl, (Nat.le_of_ble_eq_true rfl), (Nat.le_of_ble_eq_true rfl)⟩ rfl hl.1 rfl (Nat.le_of_ble_eq_true rfl) dX10_grains_2 ⟨(Nat.le_of_ble_eq_true rfl), (Nat.le_of_ble_eq_true rfl)⟩ (fun v9 ho H locs hW hS => ?_) (fun k9 ho => by cases ho)
  cases ho
  refine W.widen (k := 1) (n := 6) (Nat.le_of_ble_eq_true rfl) (Nat.le_of_ble_eq_true rfl) ?_
  have kr5 := kdX10_existing k0 hcall
  refine gw_get (v := .ref (B + (r3 + 1))) hC hW fl_X10_201 kr5.1 (kr5.2.1 (gfm s0) T B (μ2 r3)) rfl dX10_grains_5 ?_
  obtain ⟨r6, hcall, h⟩ := bd_out h
  refine g0_callS (As := [.ref (B + (r3 + 1))]) hC hml hS hW (KC_at hk hS F.2.2.2.2) KC_blind (metX6_countGrains F hX kr5.2.2.1 hcall) ml_X10_204 ⟨rfl, rfl, (Nat.le_of_ble_eq_true rfl), (Nat.le_of_ble_eq_true rfl)⟩ rfl hl.1 rfl (Nat.le_of_ble_eq_true rfl) dX10_grains_8 ⟨(Nat.le_of_ble_eq_true rfl), (Nat.le_of_ble_eq_true rfl)⟩ (fun H locs hW hS => ?_)
  cases h
  exact hend _ rfl dX10_grains_11 hW hS (Nat.le_of_ble_eq_true rfl) (Nat.le_of_ble_eq_true rfl)

theorem dX10_lasts_0 : decode cX10_lasts 0 = .ok (.aload_n 0, 1) := by decide +kernel
theorem dX10_lasts_1 : decode cX10_lasts 1 = .ok (.getfield 36, 3) := by decide +kernel
theorem dX10_lasts_4 : decode cX10_lasts 4 = .ok (.aload_n 0, 1) := by decide +kernel
theorem dX10_lasts_5 : decode cX10_lasts 5 = .ok (.iload_n 1, 1) := by decide +kernel
theorem dX10_lasts_6 : decode cX10_lasts 6 = .ok (.invokevirtual 155, 3) := by decide +kernel
theorem dX10_lasts_9 : decode cX10_lasts 9 = .ok (.getfield 201, 3) := by decide +kernel
theorem dX10_lasts_12 : decode cX10_lasts 12 = .ok (.invokevirtual 207, 3) := by decide +kernel
theorem dX10_lasts_15 : decode cX10_lasts 15 = .ok (.ireturn, 1) := by decide +kernel
abbrev rmX10_lasts : Room := { frames := 7, cells := 1, slots := 6, locals := 141 }
set_option maxHeartbeats 4000000 in
set_option maxRecDepth 100000 in
theorem metX10_lasts {l : Launch} {s0 : State} {b B : Nat} {D : va_G} {T : Nat → ClassId} (F : FX l s0 b D T B) {X : Nat → Prop} (hX : ∀ o, o < 560 → ¬ X (B + o)) {N : Nat} {μ : Mem} {a0 : Nat} {a1 : Int32} {r : Mem × (Nat ⊕ Bool)} (k0 : IsGa a0) (h : fX10_lasts N μ a0 a1 = some r) : gXMet l yX10_lasts cX10_lasts 2 (some .boolean) rmX10_lasts [.ref (B + a0), .int a1] (gWC s0 D T B μ) (KC s0 X) (oZ r.2) (gWC s0 D T B r.1) (gA B X) 1 6 := by
  refine gXZ_of RX10 (by decide +kernel) rfl (Nat.le_of_ble_eq_true rfl) ?_
  intro p e s m args below meth c ls Q hx hb hlocks hml hown hts hW hk hl hS hE
  obtain ⟨hend, hthr, htb, hQ⟩ := hE
  have hC := FX_C F hk hx hb hown hts
  have hA := gA_all hX
  have hl : lv_has ls 2 [(0, .ref (B + a0)), (1, .int a1)] := hl
  unfold fX10_lasts at h
  refine lv_aload_n hx hb dX10_lasts_0 rfl (lv_at hl 0 rfl) ?_
  refine gw_get (v := .ref (B + 538)) hC hW fl_X10_36 k0.1 (k0.2.2.1 (gfm s0) T B (μ a0)) rfl dX10_lasts_1 ?_
  refine lv_aload_n hx hb dX10_lasts_4 rfl (lv_at hl 0 rfl) ?_
  refine lv_iload_n hx hb dX10_lasts_5 rfl (lv_at hl 1 rfl) ?_
  rcases tb_out h with ⟨μ2, n4, hcall, h9⟩ | ⟨μ2, r3, hcall, h⟩
  · cases h9
    exact gx_callV (As := [.int a1]) hC hml hS hW (KC_at hk hS F.2.2.2.2) KC_blind (metX10_existing F hX k0 hcall) ml_X10_155 (gw_recv hC hW k0.1 (k0.2.2.1 (gfm s0) T B (μ a0)) rfl) ⟨rfl, rfl, (Nat.le_of_ble_eq_true rfl), (Nat.le_of_ble_eq_true rfl)⟩ rfl hl.1 rfl (Nat.le_of_ble_eq_true rfl) dX10_lasts_6 ⟨(Nat.le_of_ble_eq_true rfl), (Nat.le_of_ble_eq_true rfl)⟩ (fun v9 ho => by cases ho) (fun k9 ho H locs q9 ce9 hW hS hce hvm hcl => by cases ho; exact hthr _ rfl hW hS hce hvm hcl (Nat.le_of_ble_eq_true rfl) (Nat.le_of_ble_eq_true rfl))
  refine gx_callV (As := [.int a1]) hC hml hS hW (KC_at hk hS F.2.2.2.2) KC_blind (metX10_existing F hX k0 hcall) ml_X10_155 (gw_recv hC hW k0.1 (k0.2.2.1 (gfm s0) T B (μ a0)) rfl) ⟨rfl, rfl, (Nat.le_of_ble_eq_true rfl), (Nat.le_of_ble_eq_true rfl)⟩ rfl hl.1 rfl (Nat.le_of_ble_eq_true rfl) dX10_lasts_6 ⟨(Nat.le_of_ble_eq_true rfl), (Nat.le_of_ble_eq_true rfl)⟩ (fun v9 ho H locs hW hS => ?_) (fun k9 ho => by cases ho)
  cases ho
  refine W.widen (k := 1) (n := 6) (Nat.le_of_ble_eq_true rfl) (Nat.le_of_ble_eq_true rfl) ?_
  have kr5 := kdX10_existing k0 hcall
  refine gw_get (v := .ref (B + (r3 + 1))) hC hW fl_X10_201 kr5.1 (kr5.2.1 (gfm s0) T B (μ2 r3)) rfl dX10_lasts_9 ?_
  obtain ⟨r6, hcall, h⟩ := bd_out h
  refine g0_callV (As := [.ref (B + (r3 + 1))]) hC hml hS hW (KC_at hk hS F.2.2.2.2) KC_blind (metX6_burnsWhole F hX k0.2.2.2.2.2.2.2.1 kr5.2.2.1 hcall) ml_X10_207 (gw_recv hC hW k0.2.2.2.2.2.2.2.1.1 (k0.2.2.2.2.2.2.2.1.2.1 (gfm s0) T B (μ2 538)) rfl) ⟨rfl, rfl, (Nat.le_of_ble_eq_true rfl), (Nat.le_of_ble_eq_true rfl)⟩ rfl hl.1 rfl (Nat.le_of_ble_eq_true rfl) dX10_lasts_12 ⟨(Nat.le_of_ble_eq_true rfl), (Nat.le_of_ble_eq_true rfl)⟩ (fun H locs hW hS => ?_)
  cases h
  exact hend _ rfl dX10_lasts_15 hW hS (Nat.le_of_ble_eq_true rfl) (Nat.le_of_ble_eq_true rfl)

theorem dX10_lastsByToppling_0 : decode cX10_lastsByToppling 0 = .ok (.aload_n 0, 1) := by decide +kernel
theorem dX10_lastsByToppling_1 : decode cX10_lastsByToppling 1 = .ok (.getfield 36, 3) := by decide +kernel
theorem dX10_lastsByToppling_4 : decode cX10_lastsByToppling 4 = .ok (.aload_n 0, 1) := by decide +kernel
theorem dX10_lastsByToppling_5 : decode cX10_lastsByToppling 5 = .ok (.iload_n 1, 1) := by decide +kernel
theorem dX10_lastsByToppling_6 : decode cX10_lastsByToppling 6 = .ok (.invokevirtual 155, 3) := by decide +kernel
theorem dX10_lastsByToppling_9 : decode cX10_lastsByToppling 9 = .ok (.getfield 201, 3) := by decide +kernel
theorem dX10_lastsByToppling_12 : decode cX10_lastsByToppling 12 = .ok (.invokevirtual 211, 3) := by decide +kernel
theorem dX10_lastsByToppling_15 : decode cX10_lastsByToppling 15 = .ok (.ireturn, 1) := by decide +kernel
abbrev rmX10_lastsByToppling : Room := { frames := 7, cells := 1, slots := 6, locals := 152 }
set_option maxHeartbeats 4000000 in
set_option maxRecDepth 100000 in
theorem metX10_lastsByToppling {l : Launch} {s0 : State} {b B : Nat} {D : va_G} {T : Nat → ClassId} (F : FX l s0 b D T B) {X : Nat → Prop} (hX : ∀ o, o < 560 → ¬ X (B + o)) {N : Nat} {μ : Mem} {a0 : Nat} {a1 : Int32} {r : Mem × (Nat ⊕ Bool)} (k0 : IsGa a0) (h : fX10_lastsByToppling N μ a0 a1 = some r) : gXMet l yX10_lastsByToppling cX10_lastsByToppling 2 (some .boolean) rmX10_lastsByToppling [.ref (B + a0), .int a1] (gWC s0 D T B μ) (KC s0 X) (oZ r.2) (gWC s0 D T B r.1) (gA B X) 1 6 := by
  refine gXZ_of RX10 (by decide +kernel) rfl (Nat.le_of_ble_eq_true rfl) ?_
  intro p e s m args below meth c ls Q hx hb hlocks hml hown hts hW hk hl hS hE
  obtain ⟨hend, hthr, htb, hQ⟩ := hE
  have hC := FX_C F hk hx hb hown hts
  have hA := gA_all hX
  have hl : lv_has ls 2 [(0, .ref (B + a0)), (1, .int a1)] := hl
  unfold fX10_lastsByToppling at h
  refine lv_aload_n hx hb dX10_lastsByToppling_0 rfl (lv_at hl 0 rfl) ?_
  refine gw_get (v := .ref (B + 538)) hC hW fl_X10_36 k0.1 (k0.2.2.1 (gfm s0) T B (μ a0)) rfl dX10_lastsByToppling_1 ?_
  refine lv_aload_n hx hb dX10_lastsByToppling_4 rfl (lv_at hl 0 rfl) ?_
  refine lv_iload_n hx hb dX10_lastsByToppling_5 rfl (lv_at hl 1 rfl) ?_
  rcases tb_out h with ⟨μ2, n4, hcall, h9⟩ | ⟨μ2, r3, hcall, h⟩
  · cases h9
    exact gx_callV (As := [.int a1]) hC hml hS hW (KC_at hk hS F.2.2.2.2) KC_blind (metX10_existing F hX k0 hcall) ml_X10_155 (gw_recv hC hW k0.1 (k0.2.2.1 (gfm s0) T B (μ a0)) rfl) ⟨rfl, rfl, (Nat.le_of_ble_eq_true rfl), (Nat.le_of_ble_eq_true rfl)⟩ rfl hl.1 rfl (Nat.le_of_ble_eq_true rfl) dX10_lastsByToppling_6 ⟨(Nat.le_of_ble_eq_true rfl), (Nat.le_of_ble_eq_true rfl)⟩ (fun v9 ho => by cases ho) (fun k9 ho H locs q9 ce9 hW hS hce hvm hcl => by cases ho; exact hthr _ rfl hW hS hce hvm hcl (Nat.le_of_ble_eq_true rfl) (Nat.le_of_ble_eq_true rfl))
  refine gx_callV (As := [.int a1]) hC hml hS hW (KC_at hk hS F.2.2.2.2) KC_blind (metX10_existing F hX k0 hcall) ml_X10_155 (gw_recv hC hW k0.1 (k0.2.2.1 (gfm s0) T B (μ a0)) rfl) ⟨rfl, rfl, (Nat.le_of_ble_eq_true rfl), (Nat.le_of_ble_eq_true rfl)⟩ rfl hl.1 rfl (Nat.le_of_ble_eq_true rfl) dX10_lastsByToppling_6 ⟨(Nat.le_of_ble_eq_true rfl), (Nat.le_of_ble_eq_true rfl)⟩ (fun v9 ho H locs hW hS => ?_) (fun k9 ho => by cases ho)
  cases ho
  refine W.widen (k := 1) (n := 6) (Nat.le_of_ble_eq_true rfl) (Nat.le_of_ble_eq_true rfl) ?_
  have kr5 := kdX10_existing k0 hcall
  refine gw_get (v := .ref (B + (r3 + 1))) hC hW fl_X10_201 kr5.1 (kr5.2.1 (gfm s0) T B (μ2 r3)) rfl dX10_lastsByToppling_9 ?_
  obtain ⟨r6, hcall, h⟩ := bd_out h
  refine g0_callV (As := [.ref (B + (r3 + 1))]) hC hml hS hW (KC_at hk hS F.2.2.2.2) KC_blind (metX6_topplesOnceEach F hX k0.2.2.2.2.2.2.2.1 kr5.2.2.1 hcall) ml_X10_211 (gw_recv hC hW k0.2.2.2.2.2.2.2.1.1 (k0.2.2.2.2.2.2.2.1.2.1 (gfm s0) T B (μ2 538)) rfl) ⟨rfl, rfl, (Nat.le_of_ble_eq_true rfl), (Nat.le_of_ble_eq_true rfl)⟩ rfl hl.1 rfl (Nat.le_of_ble_eq_true rfl) dX10_lastsByToppling_12 ⟨(Nat.le_of_ble_eq_true rfl), (Nat.le_of_ble_eq_true rfl)⟩ (fun H locs hW hS => ?_)
  cases h
  exact hend _ rfl dX10_lastsByToppling_15 hW hS (Nat.le_of_ble_eq_true rfl) (Nat.le_of_ble_eq_true rfl)

theorem dX10_longestSlopeByGrains_0 : decode cX10_longestSlopeByGrains 0 = .ok (.aload_n 0, 1) := by decide +kernel
theorem dX10_longestSlopeByGrains_1 : decode cX10_longestSlopeByGrains 1 = .ok (.getfield 36, 3) := by decide +kernel
theorem dX10_longestSlopeByGrains_4 : decode cX10_longestSlopeByGrains 4 = .ok (.aload_n 0, 1) := by decide +kernel
theorem dX10_longestSlopeByGrains_5 : decode cX10_longestSlopeByGrains 5 = .ok (.iload_n 1, 1) := by decide +kernel
theorem dX10_longestSlopeByGrains_6 : decode cX10_longestSlopeByGrains 6 = .ok (.invokevirtual 155, 3) := by decide +kernel
theorem dX10_longestSlopeByGrains_9 : decode cX10_longestSlopeByGrains 9 = .ok (.getfield 201, 3) := by decide +kernel
theorem dX10_longestSlopeByGrains_12 : decode cX10_longestSlopeByGrains 12 = .ok (.invokevirtual 217, 3) := by decide +kernel
theorem dX10_longestSlopeByGrains_15 : decode cX10_longestSlopeByGrains 15 = .ok (.ireturn, 1) := by decide +kernel
abbrev rmX10_longestSlopeByGrains : Room := { frames := 7, cells := 1, slots := 6, locals := 141 }
set_option maxHeartbeats 4000000 in
set_option maxRecDepth 100000 in
theorem metX10_longestSlopeByGrains {l : Launch} {s0 : State} {b B : Nat} {D : va_G} {T : Nat → ClassId} (F : FX l s0 b D T B) {X : Nat → Prop} (hX : ∀ o, o < 560 → ¬ X (B + o)) {N : Nat} {μ : Mem} {a0 : Nat} {a1 : Int32} {r : Mem × (Nat ⊕ Int32)} (k0 : IsGa a0) (h : fX10_longestSlopeByGrains N μ a0 a1 = some r) : gXMet l yX10_longestSlopeByGrains cX10_longestSlopeByGrains 2 (some .int) rmX10_longestSlopeByGrains [.ref (B + a0), .int a1] (gWC s0 D T B μ) (KC s0 X) (oI r.2) (gWC s0 D T B r.1) (gA B X) 1 6 := by
  refine gXI_of RX10 (by decide +kernel) rfl (Nat.le_of_ble_eq_true rfl) ?_
  intro p e s m args below meth c ls Q hx hb hlocks hml hown hts hW hk hl hS hE
  obtain ⟨hend, hthr, htb, hQ⟩ := hE
  have hC := FX_C F hk hx hb hown hts
  have hA := gA_all hX
  have hl : lv_has ls 2 [(0, .ref (B + a0)), (1, .int a1)] := hl
  unfold fX10_longestSlopeByGrains at h
  refine lv_aload_n hx hb dX10_longestSlopeByGrains_0 rfl (lv_at hl 0 rfl) ?_
  refine gw_get (v := .ref (B + 538)) hC hW fl_X10_36 k0.1 (k0.2.2.1 (gfm s0) T B (μ a0)) rfl dX10_longestSlopeByGrains_1 ?_
  refine lv_aload_n hx hb dX10_longestSlopeByGrains_4 rfl (lv_at hl 0 rfl) ?_
  refine lv_iload_n hx hb dX10_longestSlopeByGrains_5 rfl (lv_at hl 1 rfl) ?_
  rcases tb_out h with ⟨μ2, n4, hcall, h9⟩ | ⟨μ2, r3, hcall, h⟩
  · cases h9
    exact gx_callV (As := [.int a1]) hC hml hS hW (KC_at hk hS F.2.2.2.2) KC_blind (metX10_existing F hX k0 hcall) ml_X10_155 (gw_recv hC hW k0.1 (k0.2.2.1 (gfm s0) T B (μ a0)) rfl) ⟨rfl, rfl, (Nat.le_of_ble_eq_true rfl), (Nat.le_of_ble_eq_true rfl)⟩ rfl hl.1 rfl (Nat.le_of_ble_eq_true rfl) dX10_longestSlopeByGrains_6 ⟨(Nat.le_of_ble_eq_true rfl), (Nat.le_of_ble_eq_true rfl)⟩ (fun v9 ho => by cases ho) (fun k9 ho H locs q9 ce9 hW hS hce hvm hcl => by cases ho; exact hthr _ rfl hW hS hce hvm hcl (Nat.le_of_ble_eq_true rfl) (Nat.le_of_ble_eq_true rfl))
  refine gx_callV (As := [.int a1]) hC hml hS hW (KC_at hk hS F.2.2.2.2) KC_blind (metX10_existing F hX k0 hcall) ml_X10_155 (gw_recv hC hW k0.1 (k0.2.2.1 (gfm s0) T B (μ a0)) rfl) ⟨rfl, rfl, (Nat.le_of_ble_eq_true rfl), (Nat.le_of_ble_eq_true rfl)⟩ rfl hl.1 rfl (Nat.le_of_ble_eq_true rfl) dX10_longestSlopeByGrains_6 ⟨(Nat.le_of_ble_eq_true rfl), (Nat.le_of_ble_eq_true rfl)⟩ (fun v9 ho H locs hW hS => ?_) (fun k9 ho => by cases ho)
  cases ho
  refine W.widen (k := 1) (n := 6) (Nat.le_of_ble_eq_true rfl) (Nat.le_of_ble_eq_true rfl) ?_
  have kr5 := kdX10_existing k0 hcall
  refine gw_get (v := .ref (B + (r3 + 1))) hC hW fl_X10_201 kr5.1 (kr5.2.1 (gfm s0) T B (μ2 r3)) rfl dX10_longestSlopeByGrains_9 ?_
  obtain ⟨r6, hcall, h⟩ := bd_out h
  refine g0_callV (As := [.ref (B + (r3 + 1))]) hC hml hS hW (KC_at hk hS F.2.2.2.2) KC_blind (metX6_slopeFromFewest F hX k0.2.2.2.2.2.2.2.1 kr5.2.2.1 hcall) ml_X10_217 (gw_recv hC hW k0.2.2.2.2.2.2.2.1.1 (k0.2.2.2.2.2.2.2.1.2.1 (gfm s0) T B (μ2 538)) rfl) ⟨rfl, rfl, (Nat.le_of_ble_eq_true rfl), (Nat.le_of_ble_eq_true rfl)⟩ rfl hl.1 rfl (Nat.le_of_ble_eq_true rfl) dX10_longestSlopeByGrains_12 ⟨(Nat.le_of_ble_eq_true rfl), (Nat.le_of_ble_eq_true rfl)⟩ (fun H locs hW hS => ?_)
  cases h
  exact hend _ rfl dX10_longestSlopeByGrains_15 hW hS (Nat.le_of_ble_eq_true rfl) (Nat.le_of_ble_eq_true rfl)

theorem dX10_dropped_0 : decode cX10_dropped 0 = .ok (.aload_n 0, 1) := by decide +kernel
theorem dX10_dropped_1 : decode cX10_dropped 1 = .ok (.iload_n 1, 1) := by decide +kernel
theorem dX10_dropped_2 : decode cX10_dropped 2 = .ok (.invokevirtual 155, 3) := by decide +kernel
theorem dX10_dropped_5 : decode cX10_dropped 5 = .ok (.getfield 220, 3) := by decide +kernel
theorem dX10_dropped_8 : decode cX10_dropped 8 = .ok (.ireturn, 1) := by decide +kernel
abbrev rmX10_dropped : Room := { frames := 7, cells := 1, slots := 6, locals := 141 }
set_option maxHeartbeats 4000000 in
set_option maxRecDepth 100000 in
theorem metX10_dropped {l : Launch} {s0 : State} {b B : Nat} {D : va_G} {T : Nat → ClassId} (F : FX l s0 b D T B) {X : Nat → Prop} (hX : ∀ o, o < 560 → ¬ X (B + o)) {N : Nat} {μ : Mem} {a0 : Nat} {a1 : Int32} {r : Mem × (Nat ⊕ Int32)} (k0 : IsGa a0) (h : fX10_dropped N μ a0 a1 = some r) : gXMet l yX10_dropped cX10_dropped 2 (some .int) rmX10_dropped [.ref (B + a0), .int a1] (gWC s0 D T B μ) (KC s0 X) (oI r.2) (gWC s0 D T B r.1) (gA B X) 1 6 := by
  refine gXI_of RX10 (by decide +kernel) rfl (Nat.le_of_ble_eq_true rfl) ?_
  intro p e s m args below meth c ls Q hx hb hlocks hml hown hts hW hk hl hS hE
  obtain ⟨hend, hthr, htb, hQ⟩ := hE
  have hC := FX_C F hk hx hb hown hts
  have hA := gA_all hX
  have hl : lv_has ls 2 [(0, .ref (B + a0)), (1, .int a1)] := hl
  unfold fX10_dropped at h
  refine lv_aload_n hx hb dX10_dropped_0 rfl (lv_at hl 0 rfl) ?_
  refine lv_iload_n hx hb dX10_dropped_1 rfl (lv_at hl 1 rfl) ?_
  rcases tb_out h with ⟨μ2, n4, hcall, h9⟩ | ⟨μ2, r3, hcall, h⟩
  · cases h9
    exact gx_callV (As := [.int a1]) hC hml hS hW (KC_at hk hS F.2.2.2.2) KC_blind (metX10_existing F hX k0 hcall) ml_X10_155 (gw_recv hC hW k0.1 (k0.2.2.1 (gfm s0) T B (μ a0)) rfl) ⟨rfl, rfl, (Nat.le_of_ble_eq_true rfl), (Nat.le_of_ble_eq_true rfl)⟩ rfl hl.1 rfl (Nat.le_of_ble_eq_true rfl) dX10_dropped_2 ⟨(Nat.le_of_ble_eq_true rfl), (Nat.le_of_ble_eq_true rfl)⟩ (fun v9 ho => by cases ho) (fun k9 ho H locs q9 ce9 hW hS hce hvm hcl => by cases ho; exact hthr _ rfl hW hS hce hvm hcl (Nat.le_of_ble_eq_true rfl) (Nat.le_of_ble_eq_true rfl))
  refine gx_callV (As := [.int a1]) hC hml hS hW (KC_at hk hS F.2.2.2.2) KC_blind (metX10_existing F hX k0 hcall) ml_X10_155 (gw_recv hC hW k0.1 (k0.2.2.1 (gfm s0) T B (μ a0)) rfl) ⟨rfl, rfl, (Nat.le_of_ble_eq_true rfl), (Nat.le_of_ble_eq_true rfl)⟩ rfl hl.1 rfl (Nat.le_of_ble_eq_true rfl) dX10_dropped_2 ⟨(Nat.le_of_ble_eq_true rfl), (Nat.le_of_ble_eq_true rfl)⟩ (fun v9 ho H locs hW hS => ?_) (fun k9 ho => by cases ho)
  cases ho
  refine W.widen (k := 1) (n := 6) (Nat.le_of_ble_eq_true rfl) (Nat.le_of_ble_eq_true rfl) ?_
  have kr5 := kdX10_existing k0 hcall
  refine gw_get (v := .int (μ2 r3 3)) hC hW fl_X10_220.1 kr5.1 (kr5.2.1 (gfm s0) T B (μ2 r3)) rfl dX10_dropped_5 ?_
  cases h
  exact hend _ rfl dX10_dropped_8 hW hS (Nat.le_of_ble_eq_true rfl) (Nat.le_of_ble_eq_true rfl)

theorem dX10_spilled_0 : decode cX10_spilled 0 = .ok (.aload_n 0, 1) := by decide +kernel
theorem dX10_spilled_1 : decode cX10_spilled 1 = .ok (.iload_n 1, 1) := by decide +kernel
theorem dX10_spilled_2 : decode cX10_spilled 2 = .ok (.invokevirtual 155, 3) := by decide +kernel
theorem dX10_spilled_5 : decode cX10_spilled 5 = .ok (.getfield 223, 3) := by decide +kernel
theorem dX10_spilled_8 : decode cX10_spilled 8 = .ok (.ireturn, 1) := by decide +kernel
abbrev rmX10_spilled : Room := { frames := 7, cells := 1, slots := 6, locals := 141 }
set_option maxHeartbeats 4000000 in
set_option maxRecDepth 100000 in
theorem metX10_spilled {l : Launch} {s0 : State} {b B : Nat} {D : va_G} {T : Nat → ClassId} (F : FX l s0 b D T B) {X : Nat → Prop} (hX : ∀ o, o < 560 → ¬ X (B + o)) {N : Nat} {μ : Mem} {a0 : Nat} {a1 : Int32} {r : Mem × (Nat ⊕ Int32)} (k0 : IsGa a0) (h : fX10_spilled N μ a0 a1 = some r) : gXMet l yX10_spilled cX10_spilled 2 (some .int) rmX10_spilled [.ref (B + a0), .int a1] (gWC s0 D T B μ) (KC s0 X) (oI r.2) (gWC s0 D T B r.1) (gA B X) 1 6 := by
  refine gXI_of RX10 (by decide +kernel) rfl (Nat.le_of_ble_eq_true rfl) ?_
  intro p e s m args below meth c ls Q hx hb hlocks hml hown hts hW hk hl hS hE
  obtain ⟨hend, hthr, htb, hQ⟩ := hE
  have hC := FX_C F hk hx hb hown hts
  have hA := gA_all hX
  have hl : lv_has ls 2 [(0, .ref (B + a0)), (1, .int a1)] := hl
  unfold fX10_spilled at h
  refine lv_aload_n hx hb dX10_spilled_0 rfl (lv_at hl 0 rfl) ?_
  refine lv_iload_n hx hb dX10_spilled_1 rfl (lv_at hl 1 rfl) ?_
  rcases tb_out h with ⟨μ2, n4, hcall, h9⟩ | ⟨μ2, r3, hcall, h⟩
  · cases h9
    exact gx_callV (As := [.int a1]) hC hml hS hW (KC_at hk hS F.2.2.2.2) KC_blind (metX10_existing F hX k0 hcall) ml_X10_155 (gw_recv hC hW k0.1 (k0.2.2.1 (gfm s0) T B (μ a0)) rfl) ⟨rfl, rfl, (Nat.le_of_ble_eq_true rfl), (Nat.le_of_ble_eq_true rfl)⟩ rfl hl.1 rfl (Nat.le_of_ble_eq_true rfl) dX10_spilled_2 ⟨(Nat.le_of_ble_eq_true rfl), (Nat.le_of_ble_eq_true rfl)⟩ (fun v9 ho => by cases ho) (fun k9 ho H locs q9 ce9 hW hS hce hvm hcl => by cases ho; exact hthr _ rfl hW hS hce hvm hcl (Nat.le_of_ble_eq_true rfl) (Nat.le_of_ble_eq_true rfl))
  refine gx_callV (As := [.int a1]) hC hml hS hW (KC_at hk hS F.2.2.2.2) KC_blind (metX10_existing F hX k0 hcall) ml_X10_155 (gw_recv hC hW k0.1 (k0.2.2.1 (gfm s0) T B (μ a0)) rfl) ⟨rfl, rfl, (Nat.le_of_ble_eq_true rfl), (Nat.le_of_ble_eq_true rfl)⟩ rfl hl.1 rfl (Nat.le_of_ble_eq_true rfl) dX10_spilled_2 ⟨(Nat.le_of_ble_eq_true rfl), (Nat.le_of_ble_eq_true rfl)⟩ (fun v9 ho H locs hW hS => ?_) (fun k9 ho => by cases ho)
  cases ho
  refine W.widen (k := 1) (n := 6) (Nat.le_of_ble_eq_true rfl) (Nat.le_of_ble_eq_true rfl) ?_
  have kr5 := kdX10_existing k0 hcall
  refine gw_get (v := .int (μ2 r3 4)) hC hW fl_X10_223.1 kr5.1 (kr5.2.1 (gfm s0) T B (μ2 r3)) rfl dX10_spilled_5 ?_
  cases h
  exact hend _ rfl dX10_spilled_8 hW hS (Nat.le_of_ble_eq_true rfl) (Nat.le_of_ble_eq_true rfl)

theorem dX10_melted_0 : decode cX10_melted 0 = .ok (.aload_n 0, 1) := by decide +kernel
theorem dX10_melted_1 : decode cX10_melted 1 = .ok (.iload_n 1, 1) := by decide +kernel
theorem dX10_melted_2 : decode cX10_melted 2 = .ok (.invokevirtual 155, 3) := by decide +kernel
theorem dX10_melted_5 : decode cX10_melted 5 = .ok (.getfield 226, 3) := by decide +kernel
theorem dX10_melted_8 : decode cX10_melted 8 = .ok (.ireturn, 1) := by decide +kernel
abbrev rmX10_melted : Room := { frames := 7, cells := 1, slots := 6, locals := 141 }
set_option maxHeartbeats 4000000 in
set_option maxRecDepth 100000 in
theorem metX10_melted {l : Launch} {s0 : State} {b B : Nat} {D : va_G} {T : Nat → ClassId} (F : FX l s0 b D T B) {X : Nat → Prop} (hX : ∀ o, o < 560 → ¬ X (B + o)) {N : Nat} {μ : Mem} {a0 : Nat} {a1 : Int32} {r : Mem × (Nat ⊕ Int32)} (k0 : IsGa a0) (h : fX10_melted N μ a0 a1 = some r) : gXMet l yX10_melted cX10_melted 2 (some .int) rmX10_melted [.ref (B + a0), .int a1] (gWC s0 D T B μ) (KC s0 X) (oI r.2) (gWC s0 D T B r.1) (gA B X) 1 6 := by
  refine gXI_of RX10 (by decide +kernel) rfl (Nat.le_of_ble_eq_true rfl) ?_
  intro p e s m args below meth c ls Q hx hb hlocks hml hown hts hW hk hl hS hE
  obtain ⟨hend, hthr, htb, hQ⟩ := hE
  have hC := FX_C F hk hx hb hown hts
  have hA := gA_all hX
  have hl : lv_has ls 2 [(0, .ref (B + a0)), (1, .int a1)] := hl
  unfold fX10_melted at h
  refine lv_aload_n hx hb dX10_melted_0 rfl (lv_at hl 0 rfl) ?_
  refine lv_iload_n hx hb dX10_melted_1 rfl (lv_at hl 1 rfl) ?_
  rcases tb_out h with ⟨μ2, n4, hcall, h9⟩ | ⟨μ2, r3, hcall, h⟩
  · cases h9
    exact gx_callV (As := [.int a1]) hC hml hS hW (KC_at hk hS F.2.2.2.2) KC_blind (metX10_existing F hX k0 hcall) ml_X10_155 (gw_recv hC hW k0.1 (k0.2.2.1 (gfm s0) T B (μ a0)) rfl) ⟨rfl, rfl, (Nat.le_of_ble_eq_true rfl), (Nat.le_of_ble_eq_true rfl)⟩ rfl hl.1 rfl (Nat.le_of_ble_eq_true rfl) dX10_melted_2 ⟨(Nat.le_of_ble_eq_true rfl), (Nat.le_of_ble_eq_true rfl)⟩ (fun v9 ho => by cases ho) (fun k9 ho H locs q9 ce9 hW hS hce hvm hcl => by cases ho; exact hthr _ rfl hW hS hce hvm hcl (Nat.le_of_ble_eq_true rfl) (Nat.le_of_ble_eq_true rfl))
  refine gx_callV (As := [.int a1]) hC hml hS hW (KC_at hk hS F.2.2.2.2) KC_blind (metX10_existing F hX k0 hcall) ml_X10_155 (gw_recv hC hW k0.1 (k0.2.2.1 (gfm s0) T B (μ a0)) rfl) ⟨rfl, rfl, (Nat.le_of_ble_eq_true rfl), (Nat.le_of_ble_eq_true rfl)⟩ rfl hl.1 rfl (Nat.le_of_ble_eq_true rfl) dX10_melted_2 ⟨(Nat.le_of_ble_eq_true rfl), (Nat.le_of_ble_eq_true rfl)⟩ (fun v9 ho H locs hW hS => ?_) (fun k9 ho => by cases ho)
  cases ho
  refine W.widen (k := 1) (n := 6) (Nat.le_of_ble_eq_true rfl) (Nat.le_of_ble_eq_true rfl) ?_
  have kr5 := kdX10_existing k0 hcall
  refine gw_get (v := .int (μ2 r3 5)) hC hW fl_X10_226.1 kr5.1 (kr5.2.1 (gfm s0) T B (μ2 r3)) rfl dX10_melted_5 ?_
  cases h
  exact hend _ rfl dX10_melted_8 hW hS (Nat.le_of_ble_eq_true rfl) (Nat.le_of_ble_eq_true rfl)

theorem dX10_journeyFault_0 : decode cX10_journeyFault 0 = .ok (.aload_n 0, 1) := by decide +kernel
theorem dX10_journeyFault_1 : decode cX10_journeyFault 1 = .ok (.getfield 12, 3) := by decide +kernel
theorem dX10_journeyFault_4 : decode cX10_journeyFault 4 = .ok (.iload_n 1, 1) := by decide +kernel
theorem dX10_journeyFault_5 : decode cX10_journeyFault 5 = .ok (.invokevirtual 438, 3) := by decide +kernel
theorem dX10_journeyFault_8 : decode cX10_journeyFault 8 = .ok (.ifCond .eq 14, 3) := by decide +kernel
theorem dX10_journeyFault_11 : decode cX10_journeyFault 11 = .ok (.aload_n 0, 1) := by decide +kernel
theorem dX10_journeyFault_12 : decode cX10_journeyFault 12 = .ok (.getfield 12, 3) := by decide +kernel
theorem dX10_journeyFault_15 : decode cX10_journeyFault 15 = .ok (.iload_n 2, 1) := by decide +kernel
theorem dX10_journeyFault_16 : decode cX10_journeyFault 16 = .ok (.invokevirtual 83, 3) := by decide +kernel
theorem dX10_journeyFault_19 : decode cX10_journeyFault 19 = .ok (.goto 6, 3) := by decide +kernel
theorem dX10_journeyFault_22 : decode cX10_journeyFault 22 = .ok (.getstatic 408, 3) := by decide +kernel
theorem dX10_journeyFault_25 : decode cX10_journeyFault 25 = .ok (.areturn, 1) := by decide +kernel
abbrev rmX10_journeyFault : Room := { frames := 3, cells := 0, slots := 0, locals := 81 }
set_option maxHeartbeats 4000000 in
set_option maxRecDepth 100000 in
theorem metX10_journeyFault {l : Launch} {s0 : State} {b B : Nat} {D : va_G} {T : Nat → ClassId} (F : FX l s0 b D T B) {X : Nat → Prop} (hX : ∀ o, o < 560 → ¬ X (B + o)) {N : Nat} {μ : Mem} {a0 : Nat} {a1 : Int32} {a2 : Int32} {r : Nat} (k0 : IsGa a0) (h : fX10_journeyFault N μ a0 a1 a2 = some r) : gMet l yX10_journeyFault cX10_journeyFault 3 (some (.object "AvalancheGallery$Fault")) rmX10_journeyFault [.ref (B + a0), .int a1, .int a2] (gWC s0 D T B μ) (KC s0 X) (some (.ref (gfa s0 r))) (gWC s0 D T B μ) (gA B X) 0 0 := by
  refine gR_of RX10 (by decide +kernel) rfl (Nat.le_of_ble_eq_true rfl) ?_
  intro p e s m args below meth c ls Q hx hb hlocks hml hown hts hW hk hl hS hend
  have hC := FX_C F hk hx hb hown hts
  have hA := gA_all hX
  have hl : lv_has ls 3 [(0, .ref (B + a0)), (1, .int a1), (2, .int a2)] := hl
  unfold fX10_journeyFault at h
  refine lv_aload_n hx hb dX10_journeyFault_0 rfl (lv_at hl 0 rfl) ?_
  refine gw_get (v := .ref (B + 1)) hC hW fl_X10_12 k0.1 (k0.2.2.1 (gfm s0) T B (μ a0)) rfl dX10_journeyFault_1 ?_
  refine lv_iload_n hx hb dX10_journeyFault_4 rfl (lv_at hl 1 rfl) ?_
  obtain ⟨r1, hcall, h⟩ := bd_out h
  refine g0_callV (As := [.int a1]) hC hml hS hW (KC_at hk hS F.2.2.2.2) KC_blind (metX8_hasExhibit F hX k0.2.2.2.1 hcall) ml_X10_438 (gw_recv hC hW k0.2.2.2.1.1 (k0.2.2.2.1.2.1 (gfm s0) T B (μ 1)) rfl) ⟨rfl, rfl, (Nat.le_of_ble_eq_true rfl), (Nat.le_of_ble_eq_true rfl)⟩ rfl hl.1 rfl (Nat.le_of_ble_eq_true rfl) dX10_journeyFault_5 ⟨(Nat.le_of_ble_eq_true rfl), (Nat.le_of_ble_eq_true rfl)⟩ (fun H locs hW hS => ?_)
  obtain ⟨j3, hj5, h⟩ := jn1_o h
  have J4 : ∀ (y2 : Nat), j3 y2 = some r → ∀ (H : Heap) (locs : List Loc) (ls : Array Slot), gWC s0 D T B μ H → va_S (gA B X) s.heap H locs → lv_has ls 3 [] → W p l e rmX10_journeyFault s m args below meth c H locs 0 0 Q (F0 m 25 ls [.ref (gfa s0 y2)]) := by
    clear h hW hS hl
    intro y2 h H locs ls hW hS hl
    replace h := (hj5 y2).symm.trans h
    cases h
    exact hend dX10_journeyFault_25 hW hS (Nat.le_of_ble_eq_true rfl) (Nat.le_of_ble_eq_true rfl)
  refine gw_if_eqZ (tgt := 22) hx hb dX10_journeyFault_8 (by decide) (fun c6 => ?_) (fun c6 => ?_)
  · replace h := cond_f c6 h
    refine gw_gets hC (zF_1 F hk) hS fs_X10_408 dX10_journeyFault_22 ?_
    exact J4 _ h _ _ _ hW hS (lv_sub hl [] rfl)
  · replace h := cond_t c6 h
    refine lv_aload_n hx hb dX10_journeyFault_11 rfl (lv_at hl 0 rfl) ?_
    refine gw_get (v := .ref (B + 1)) hC hW fl_X10_12 k0.1 (k0.2.2.1 (gfm s0) T B (μ a0)) rfl dX10_journeyFault_12 ?_
    refine lv_iload_n hx hb dX10_journeyFault_15 rfl (lv_at hl 2 rfl) ?_
    obtain ⟨r7, hcall, h⟩ := bd_out h
    refine g0_callV (As := [.int a2]) hC hml hS hW (KC_at hk hS F.2.2.2.2) KC_blind (metX8_roomIndexFault F hX k0.2.2.2.1 hcall) ml_X10_83 (gw_recv hC hW k0.2.2.2.1.1 (k0.2.2.2.1.2.1 (gfm s0) T B (μ 1)) rfl) ⟨rfl, rfl, (Nat.le_of_ble_eq_true rfl), (Nat.le_of_ble_eq_true rfl)⟩ rfl hl.1 rfl (Nat.le_of_ble_eq_true rfl) dX10_journeyFault_16 ⟨(Nat.le_of_ble_eq_true rfl), (Nat.le_of_ble_eq_true rfl)⟩ (fun H locs hW hS => ?_)
    refine lv_goto (tgt := 25) hx hb dX10_journeyFault_19 (by decide) ?_
    exact J4 _ h _ _ _ hW hS (lv_sub hl [] rfl)

theorem dX10_refused_0 : decode cX10_refused 0 = .ok (.aload_n 0, 1) := by decide +kernel
theorem dX10_refused_1 : decode cX10_refused 1 = .ok (.iload_n 1, 1) := by decide +kernel
theorem dX10_refused_2 : decode cX10_refused 2 = .ok (.putfield 303, 3) := by decide +kernel
theorem dX10_refused_5 : decode cX10_refused 5 = .ok (.aload_n 0, 1) := by decide +kernel
theorem dX10_refused_6 : decode cX10_refused 6 = .ok (.iload_n 2, 1) := by decide +kernel
theorem dX10_refused_7 : decode cX10_refused 7 = .ok (.putfield 306, 3) := by decide +kernel
theorem dX10_refused_10 : decode cX10_refused 10 = .ok (.getstatic 431, 3) := by decide +kernel
theorem dX10_refused_13 : decode cX10_refused 13 = .ok (.areturn, 1) := by decide +kernel
abbrev rmX10_refused : Room := { frames := 2, cells := 0, slots := 0, locals := 60 }
set_option maxHeartbeats 4000000 in
set_option maxRecDepth 100000 in
theorem metX10_refused {l : Launch} {s0 : State} {b B : Nat} {D : va_G} {T : Nat → ClassId} (F : FX l s0 b D T B) {X : Nat → Prop} (hX : ∀ o, o < 560 → ¬ X (B + o)) {N : Nat} {μ : Mem} {a0 : Nat} {a1 : Int32} {a2 : Int32} {r : Mem × Nat} (k0 : IsGa a0) (h : fX10_refused N μ a0 a1 a2 = some r) : gMet l yX10_refused cX10_refused 3 (some (.object "AvalancheGallery$Fault")) rmX10_refused [.ref (B + a0), .int a1, .int a2] (gWC s0 D T B μ) (KC s0 X) (some (.ref (gfa s0 r.2))) (gWC s0 D T B r.1) (gA B X) 0 0 := by
  refine gR_of RX10 (by decide +kernel) rfl (Nat.le_of_ble_eq_true rfl) ?_
  intro p e s m args below meth c ls Q hx hb hlocks hml hown hts hW hk hl hS hend
  have hC := FX_C F hk hx hb hown hts
  have hA := gA_all hX
  have hl : lv_has ls 3 [(0, .ref (B + a0)), (1, .int a1), (2, .int a2)] := hl
  unfold fX10_refused at h
  refine lv_aload_n hx hb dX10_refused_0 rfl (lv_at hl 0 rfl) ?_
  refine lv_iload_n hx hb dX10_refused_1 rfl (lv_at hl 1 rfl) ?_
  obtain ⟨μ1, e2, h⟩ := lt_out h
  refine gq_put hC hS hW hA fl_X10_303 k0.1 (k0.2.2.1 (gfm s0) T B) (Nat.le_of_ble_eq_true rfl) rfl rfl rfl e2 dX10_refused_2 (fun H locs hW hS => ?_)
  refine lv_aload_n hx hb dX10_refused_5 rfl (lv_at hl 0 rfl) ?_
  refine lv_iload_n hx hb dX10_refused_6 rfl (lv_at hl 2 rfl) ?_
  obtain ⟨μ3, e4, h⟩ := lt_out h
  refine gq_put hC hS hW hA fl_X10_306 k0.1 (k0.2.2.1 (gfm s0) T B) (Nat.le_of_ble_eq_true rfl) rfl rfl rfl e4 dX10_refused_7 (fun H locs hW hS => ?_)
  refine gw_gets hC (zF_5 F hk) hS fs_X10_431 dX10_refused_10 ?_
  cases h
  exact hend dX10_refused_13 hW hS (Nat.le_of_ble_eq_true rfl) (Nat.le_of_ble_eq_true rfl)

theorem dX10_sendFault_0 : decode cX10_sendFault 0 = .ok (.aload_n 0, 1) := by decide +kernel
theorem dX10_sendFault_1 : decode cX10_sendFault 1 = .ok (.iload_n 1, 1) := by decide +kernel
theorem dX10_sendFault_2 : decode cX10_sendFault 2 = .ok (.iload_n 2, 1) := by decide +kernel
theorem dX10_sendFault_3 : decode cX10_sendFault 3 = .ok (.invokevirtual 236, 3) := by decide +kernel
theorem dX10_sendFault_6 : decode cX10_sendFault 6 = .ok (.getstatic 451, 3) := by decide +kernel
theorem dX10_sendFault_9 : decode cX10_sendFault 9 = .ok (.if_acmp .eq 7, 3) := by decide +kernel
theorem dX10_sendFault_12 : decode cX10_sendFault 12 = .ok (.getstatic 408, 3) := by decide +kernel
theorem dX10_sendFault_15 : decode cX10_sendFault 15 = .ok (.areturn, 1) := by decide +kernel
theorem dX10_sendFault_16 : decode cX10_sendFault 16 = .ok (.aload_n 0, 1) := by decide +kernel
theorem dX10_sendFault_17 : decode cX10_sendFault 17 = .ok (.getfield 12, 3) := by decide +kernel
theorem dX10_sendFault_20 : decode cX10_sendFault 20 = .ok (.getfield 167, 3) := by decide +kernel
theorem dX10_sendFault_23 : decode cX10_sendFault 23 = .ok (.iload_n 1, 1) := by decide +kernel
theorem dX10_sendFault_24 : decode cX10_sendFault 24 = .ok (.aaload, 1) := by decide +kernel
theorem dX10_sendFault_25 : decode cX10_sendFault 25 = .ok (.astore_n 3, 1) := by decide +kernel
theorem dX10_sendFault_26 : decode cX10_sendFault 26 = .ok (.aload_n 3, 1) := by decide +kernel
theorem dX10_sendFault_27 : decode cX10_sendFault 27 = .ok (.aload_n 0, 1) := by decide +kernel
theorem dX10_sendFault_28 : decode cX10_sendFault 28 = .ok (.getfield 12, 3) := by decide +kernel
theorem dX10_sendFault_31 : decode cX10_sendFault 31 = .ok (.getfield 260, 3) := by decide +kernel
theorem dX10_sendFault_34 : decode cX10_sendFault 34 = .ok (.invokevirtual 293, 3) := by decide +kernel
theorem dX10_sendFault_37 : decode cX10_sendFault 37 = .ok (.istore 4, 2) := by decide +kernel
theorem dX10_sendFault_39 : decode cX10_sendFault 39 = .ok (.iload 4, 2) := by decide +kernel
theorem dX10_sendFault_41 : decode cX10_sendFault 41 = .ok (.iconst (-1), 1) := by decide +kernel
theorem dX10_sendFault_42 : decode cX10_sendFault 42 = .ok (.if_icmp .eq 11, 3) := by decide +kernel
theorem dX10_sendFault_45 : decode cX10_sendFault 45 = .ok (.aload_n 0, 1) := by decide +kernel
theorem dX10_sendFault_46 : decode cX10_sendFault 46 = .ok (.iconst 1, 1) := by decide +kernel
theorem dX10_sendFault_47 : decode cX10_sendFault 47 = .ok (.iload 4, 2) := by decide +kernel
theorem dX10_sendFault_49 : decode cX10_sendFault 49 = .ok (.invokevirtual 462, 3) := by decide +kernel
theorem dX10_sendFault_52 : decode cX10_sendFault 52 = .ok (.areturn, 1) := by decide +kernel
theorem dX10_sendFault_53 : decode cX10_sendFault 53 = .ok (.aload_n 0, 1) := by decide +kernel
theorem dX10_sendFault_54 : decode cX10_sendFault 54 = .ok (.getfield 29, 3) := by decide +kernel
theorem dX10_sendFault_57 : decode cX10_sendFault 57 = .ok (.aload_n 0, 1) := by decide +kernel
theorem dX10_sendFault_58 : decode cX10_sendFault 58 = .ok (.getfield 12, 3) := by decide +kernel
theorem dX10_sendFault_61 : decode cX10_sendFault 61 = .ok (.aload_n 3, 1) := by decide +kernel
theorem dX10_sendFault_62 : decode cX10_sendFault 62 = .ok (.getfield 195, 3) := by decide +kernel
theorem dX10_sendFault_65 : decode cX10_sendFault 65 = .ok (.iload_n 2, 1) := by decide +kernel
theorem dX10_sendFault_66 : decode cX10_sendFault 66 = .ok (.invokevirtual 458, 3) := by decide +kernel
theorem dX10_sendFault_69 : decode cX10_sendFault 69 = .ok (.ifCond .ne 13, 3) := by decide +kernel
theorem dX10_sendFault_72 : decode cX10_sendFault 72 = .ok (.aload_n 0, 1) := by decide +kernel
theorem dX10_sendFault_73 : decode cX10_sendFault 73 = .ok (.iconst 2, 1) := by decide +kernel
theorem dX10_sendFault_74 : decode cX10_sendFault 74 = .ok (.aload_n 3, 1) := by decide +kernel
theorem dX10_sendFault_75 : decode cX10_sendFault 75 = .ok (.getfield 195, 3) := by decide +kernel
theorem dX10_sendFault_78 : decode cX10_sendFault 78 = .ok (.invokevirtual 462, 3) := by decide +kernel
theorem dX10_sendFault_81 : decode cX10_sendFault 81 = .ok (.areturn, 1) := by decide +kernel
theorem dX10_sendFault_82 : decode cX10_sendFault 82 = .ok (.getstatic 451, 3) := by decide +kernel
theorem dX10_sendFault_85 : decode cX10_sendFault 85 = .ok (.areturn, 1) := by decide +kernel
abbrev rmX10_sendFault : Room := { frames := 5, cells := 0, slots := 0, locals := 134 }
set_option maxHeartbeats 4000000 in
set_option maxRecDepth 100000 in
theorem metX10_sendFault {l : Launch} {s0 : State} {b B : Nat} {D : va_G} {T : Nat → ClassId} (F : FX l s0 b D T B) {X : Nat → Prop} (hX : ∀ o, o < 560 → ¬ X (B + o)) {N : Nat} {μ : Mem} {a0 : Nat} {a1 : Int32} {a2 : Int32} {r : Mem × Nat} (k0 : IsGa a0) (h : fX10_sendFault N μ a0 a1 a2 = some r) : gMet l yX10_sendFault cX10_sendFault 5 (some (.object "AvalancheGallery$Fault")) rmX10_sendFault [.ref (B + a0), .int a1, .int a2] (gWC s0 D T B μ) (KC s0 X) (some (.ref (gfa s0 r.2))) (gWC s0 D T B r.1) (gA B X) 0 0 := by
  refine gR_of RX10 (by decide +kernel) rfl (Nat.le_of_ble_eq_true rfl) ?_
  intro p e s m args below meth c ls Q hx hb hlocks hml hown hts hW hk hl hS hend
  have hC := FX_C F hk hx hb hown hts
  have hA := gA_all hX
  have hl : lv_has ls 5 [(0, .ref (B + a0)), (1, .int a1), (2, .int a2)] := hl
  unfold fX10_sendFault at h
  refine lv_aload_n hx hb dX10_sendFault_0 rfl (lv_at hl 0 rfl) ?_
  refine lv_iload_n hx hb dX10_sendFault_1 rfl (lv_at hl 1 rfl) ?_
  refine lv_iload_n hx hb dX10_sendFault_2 rfl (lv_at hl 2 rfl) ?_
  obtain ⟨r1, hcall, h⟩ := bd_out h
  refine g0_callV (As := [.int a1, .int a2]) hC hml hS hW (KC_at hk hS F.2.2.2.2) KC_blind (metX10_journeyFault F hX k0 hcall) ml_X10_236 (gw_recv hC hW k0.1 (k0.2.2.1 (gfm s0) T B (μ a0)) rfl) ⟨rfl, rfl, (Nat.le_of_ble_eq_true rfl), (Nat.le_of_ble_eq_true rfl)⟩ rfl hl.1 rfl (Nat.le_of_ble_eq_true rfl) dX10_sendFault_3 ⟨(Nat.le_of_ble_eq_true rfl), (Nat.le_of_ble_eq_true rfl)⟩ (fun H locs hW hS => ?_)
  refine gw_gets hC (zF_0 F hk) hS fs_X10_451 dX10_sendFault_6 ?_
  refine gw_aeF (tgt := 16) F hx hb dX10_sendFault_9 (by decide) (fun c2 => ?_) (fun c2 => ?_)
  · replace h := ite_t c2 h
    refine lv_aload_n hx hb dX10_sendFault_16 rfl (lv_at hl 0 rfl) ?_
    refine gw_get (v := .ref (B + 1)) hC hW fl_X10_12 k0.1 (k0.2.2.1 (gfm s0) T B (μ a0)) rfl dX10_sendFault_17 ?_
    refine gw_get (v := .ref (B + (1 + 16))) hC hW fl_X10_167 k0.2.2.2.1.1 (k0.2.2.2.1.2.1 (gfm s0) T B (μ 1)) rfl dX10_sendFault_20 ?_
    refine lv_iload_n hx hb dX10_sendFault_23 rfl (lv_at hl 1 rfl) ?_
    obtain ⟨q3, e4, hq5, hi6, h⟩ := ar_o h
    refine gq_aald hC hW k0.2.2.2.1.2.2.2.2.2.1 (k0.2.2.2.1.2.2.2.2.2.2.1 (gfm s0) T B (μ (1 + 16))) (t0 := 5) rfl rfl e4 hi6 dX10_sendFault_24 ?_
    refine lv_astore_n (lv' := [(3, .ref (B + ((1 + 16) + 1 + 6 * q3))), (0, .ref (B + a0)), (1, .int a1), (2, .int a2)]) hx hb dX10_sendFault_25 rfl hl (by decide) rfl (fun ls hl => ?_)
    refine lv_aload_n hx hb dX10_sendFault_26 rfl (lv_at hl 0 rfl) ?_
    refine lv_aload_n hx hb dX10_sendFault_27 rfl (lv_at hl 1 rfl) ?_
    refine gw_get (v := .ref (B + 1)) hC hW fl_X10_12 k0.1 (k0.2.2.1 (gfm s0) T B (μ a0)) rfl dX10_sendFault_28 ?_
    refine gw_get (v := .int (μ 1 6)) hC hW fl_X10_260.1 k0.2.2.2.1.1 (k0.2.2.2.1.2.1 (gfm s0) T B (μ 1)) rfl dX10_sendFault_31 ?_
    obtain ⟨r7, hcall, h⟩ := bd_out h
    refine g0_callV (As := [.int (μ 1 6)]) hC hml hS hW (KC_at hk hS F.2.2.2.2) KC_blind (metX1_loanEndOn F hX (k0.2.2.2.1.2.2.2.2.2.2.2 q3 hq5) hcall) ml_X10_293 (gw_recv hC hW (k0.2.2.2.1.2.2.2.2.2.2.2 q3 hq5).1 ((k0.2.2.2.1.2.2.2.2.2.2.2 q3 hq5).2.1 (gfm s0) T B (μ ((1 + 16) + 1 + 6 * q3))) rfl) ⟨rfl, rfl, (Nat.le_of_ble_eq_true rfl), (Nat.le_of_ble_eq_true rfl)⟩ rfl hl.1 rfl (Nat.le_of_ble_eq_true rfl) dX10_sendFault_34 ⟨(Nat.le_of_ble_eq_true rfl), (Nat.le_of_ble_eq_true rfl)⟩ (fun H locs hW hS => ?_)
    refine lv_istore (lv' := [(4, .int r7), (3, .ref (B + ((1 + 16) + 1 + 6 * q3))), (0, .ref (B + a0)), (1, .int a1), (2, .int a2)]) hx hb dX10_sendFault_37 hl (by decide) rfl (fun ls hl => ?_)
    refine lv_iload hx hb dX10_sendFault_39 (lv_at hl 0 rfl) ?_
    refine lv_iconst (v := (-1)) hx hb dX10_sendFault_41 (by decide) ?_
    refine lv_icmp_eq (tgt := 53) hx hb dX10_sendFault_42 (by decide) (fun c8 => ?_) (fun c8 => ?_)
    · replace h := ite_t c8 h
      refine lv_aload_n hx hb dX10_sendFault_53 rfl (lv_at hl 2 rfl) ?_
      refine gw_get (v := .ref (B + 520)) hC hW fl_X10_29 k0.1 (k0.2.2.1 (gfm s0) T B (μ a0)) rfl dX10_sendFault_54 ?_
      refine lv_aload_n hx hb dX10_sendFault_57 rfl (lv_at hl 2 rfl) ?_
      refine gw_get (v := .ref (B + 1)) hC hW fl_X10_12 k0.1 (k0.2.2.1 (gfm s0) T B (μ a0)) rfl dX10_sendFault_58 ?_
      refine lv_aload_n hx hb dX10_sendFault_61 rfl (lv_at hl 1 rfl) ?_
      refine gw_get (v := .int (μ ((1 + 16) + 1 + 6 * q3) 0)) hC hW fl_X10_195.1 (k0.2.2.2.1.2.2.2.2.2.2.2 q3 hq5).1 ((k0.2.2.2.1.2.2.2.2.2.2.2 q3 hq5).2.1 (gfm s0) T B (μ ((1 + 16) + 1 + 6 * q3))) rfl dX10_sendFault_62 ?_
      refine lv_iload_n hx hb dX10_sendFault_65 rfl (lv_at hl 4 rfl) ?_
      obtain ⟨r9, hcall, h⟩ := bd_out h
      refine g0_callV (As := [.ref (B + 1), .int (μ ((1 + 16) + 1 + 6 * q3) 0), .int a2]) hC hml hS hW (KC_at hk hS F.2.2.2.2) KC_blind (metX9_findWay F hX k0.2.2.2.2.2.2.1 k0.2.2.2.1 hcall) ml_X10_458 (gw_recv hC hW k0.2.2.2.2.2.2.1.1 (k0.2.2.2.2.2.2.1.2.1 (gfm s0) T B (μ 520)) rfl) ⟨rfl, rfl, (Nat.le_of_ble_eq_true rfl), (Nat.le_of_ble_eq_true rfl)⟩ rfl hl.1 rfl (Nat.le_of_ble_eq_true rfl) dX10_sendFault_66 ⟨(Nat.le_of_ble_eq_true rfl), (Nat.le_of_ble_eq_true rfl)⟩ (fun H locs hW hS => ?_)
      refine gw_if_neZ (tgt := 82) hx hb dX10_sendFault_69 (by decide) (fun c10 => ?_) (fun c10 => ?_)
      · replace h := cond_t c10 h
        refine gw_gets hC (zF_0 F hk) hS fs_X10_451 dX10_sendFault_82 ?_
        cases h
        exact hend dX10_sendFault_85 hW hS (Nat.le_of_ble_eq_true rfl) (Nat.le_of_ble_eq_true rfl)
      · replace h := cond_f c10 h
        refine lv_aload_n hx hb dX10_sendFault_72 rfl (lv_at hl 2 rfl) ?_
        refine lv_iconst (v := 2) hx hb dX10_sendFault_73 (by decide) ?_
        refine lv_aload_n hx hb dX10_sendFault_74 rfl (lv_at hl 1 rfl) ?_
        refine gw_get (v := .int (r9.1 ((1 + 16) + 1 + 6 * q3) 0)) hC hW fl_X10_195.1 (k0.2.2.2.1.2.2.2.2.2.2.2 q3 hq5).1 ((k0.2.2.2.1.2.2.2.2.2.2.2 q3 hq5).2.1 (gfm s0) T B (r9.1 ((1 + 16) + 1 + 6 * q3))) rfl dX10_sendFault_75 ?_
        obtain ⟨r11, hcall, h⟩ := bd_out h
        refine g0_callV (As := [.int 2, .int (r9.1 ((1 + 16) + 1 + 6 * q3) 0)]) hC hml hS hW (KC_at hk hS F.2.2.2.2) KC_blind (metX10_refused F hX k0 hcall) ml_X10_462 (gw_recv hC hW k0.1 (k0.2.2.1 (gfm s0) T B (r9.1 a0)) rfl) ⟨rfl, rfl, (Nat.le_of_ble_eq_true rfl), (Nat.le_of_ble_eq_true rfl)⟩ rfl hl.1 rfl (Nat.le_of_ble_eq_true rfl) dX10_sendFault_78 ⟨(Nat.le_of_ble_eq_true rfl), (Nat.le_of_ble_eq_true rfl)⟩ (fun H locs hW hS => ?_)
        cases h
        exact hend dX10_sendFault_81 hW hS (Nat.le_of_ble_eq_true rfl) (Nat.le_of_ble_eq_true rfl)
    · replace h := ite_f c8 h
      refine lv_aload_n hx hb dX10_sendFault_45 rfl (lv_at hl 2 rfl) ?_
      refine lv_iconst (v := 1) hx hb dX10_sendFault_46 (by decide) ?_
      refine lv_iload hx hb dX10_sendFault_47 (lv_at hl 0 rfl) ?_
      obtain ⟨r12, hcall, h⟩ := bd_out h
      refine g0_callV (As := [.int 1, .int r7]) hC hml hS hW (KC_at hk hS F.2.2.2.2) KC_blind (metX10_refused F hX k0 hcall) ml_X10_462 (gw_recv hC hW k0.1 (k0.2.2.1 (gfm s0) T B (μ a0)) rfl) ⟨rfl, rfl, (Nat.le_of_ble_eq_true rfl), (Nat.le_of_ble_eq_true rfl)⟩ rfl hl.1 rfl (Nat.le_of_ble_eq_true rfl) dX10_sendFault_49 ⟨(Nat.le_of_ble_eq_true rfl), (Nat.le_of_ble_eq_true rfl)⟩ (fun H locs hW hS => ?_)
      cases h
      exact hend dX10_sendFault_52 hW hS (Nat.le_of_ble_eq_true rfl) (Nat.le_of_ble_eq_true rfl)
  · replace h := ite_f c2 h
    refine gw_gets hC (zF_1 F hk) hS fs_X10_408 dX10_sendFault_12 ?_
    cases h
    exact hend dX10_sendFault_15 hW hS (Nat.le_of_ble_eq_true rfl) (Nat.le_of_ble_eq_true rfl)

theorem dX10_passedOnWay_0 : decode cX10_passedOnWay 0 = .ok (.iconst 0, 1) := by decide +kernel
theorem dX10_passedOnWay_1 : decode cX10_passedOnWay 1 = .ok (.istore_n 2, 1) := by decide +kernel
theorem dX10_passedOnWay_2 : decode cX10_passedOnWay 2 = .ok (.iconst 1, 1) := by decide +kernel
theorem dX10_passedOnWay_3 : decode cX10_passedOnWay 3 = .ok (.istore_n 3, 1) := by decide +kernel
theorem dX10_passedOnWay_4 : decode cX10_passedOnWay 4 = .ok (.iload_n 3, 1) := by decide +kernel
theorem dX10_passedOnWay_5 : decode cX10_passedOnWay 5 = .ok (.aload_n 0, 1) := by decide +kernel
theorem dX10_passedOnWay_6 : decode cX10_passedOnWay 6 = .ok (.getfield 29, 3) := by decide +kernel
theorem dX10_passedOnWay_9 : decode cX10_passedOnWay 9 = .ok (.getfield 136, 3) := by decide +kernel
theorem dX10_passedOnWay_12 : decode cX10_passedOnWay 12 = .ok (.if_icmp .ge 45, 3) := by decide +kernel
theorem dX10_passedOnWay_15 : decode cX10_passedOnWay 15 = .ok (.iload_n 2, 1) := by decide +kernel
theorem dX10_passedOnWay_16 : decode cX10_passedOnWay 16 = .ok (.aload_n 0, 1) := by decide +kernel
theorem dX10_passedOnWay_17 : decode cX10_passedOnWay 17 = .ok (.getfield 12, 3) := by decide +kernel
theorem dX10_passedOnWay_20 : decode cX10_passedOnWay 20 = .ok (.getfield 112, 3) := by decide +kernel
theorem dX10_passedOnWay_23 : decode cX10_passedOnWay 23 = .ok (.aload_n 0, 1) := by decide +kernel
theorem dX10_passedOnWay_24 : decode cX10_passedOnWay 24 = .ok (.getfield 29, 3) := by decide +kernel
theorem dX10_passedOnWay_27 : decode cX10_passedOnWay 27 = .ok (.getfield 146, 3) := by decide +kernel
theorem dX10_passedOnWay_30 : decode cX10_passedOnWay 30 = .ok (.iload_n 3, 1) := by decide +kernel
theorem dX10_passedOnWay_31 : decode cX10_passedOnWay 31 = .ok (.iconst 1, 1) := by decide +kernel
theorem dX10_passedOnWay_32 : decode cX10_passedOnWay 32 = .ok (.isub, 1) := by decide +kernel
theorem dX10_passedOnWay_33 : decode cX10_passedOnWay 33 = .ok (.iaload, 1) := by decide +kernel
theorem dX10_passedOnWay_34 : decode cX10_passedOnWay 34 = .ok (.aaload, 1) := by decide +kernel
theorem dX10_passedOnWay_35 : decode cX10_passedOnWay 35 = .ok (.aload_n 0, 1) := by decide +kernel
theorem dX10_passedOnWay_36 : decode cX10_passedOnWay 36 = .ok (.getfield 29, 3) := by decide +kernel
theorem dX10_passedOnWay_39 : decode cX10_passedOnWay 39 = .ok (.getfield 146, 3) := by decide +kernel
theorem dX10_passedOnWay_42 : decode cX10_passedOnWay 42 = .ok (.iload_n 3, 1) := by decide +kernel
theorem dX10_passedOnWay_43 : decode cX10_passedOnWay 43 = .ok (.iaload, 1) := by decide +kernel
theorem dX10_passedOnWay_44 : decode cX10_passedOnWay 44 = .ok (.iaload, 1) := by decide +kernel
theorem dX10_passedOnWay_45 : decode cX10_passedOnWay 45 = .ok (.iload_n 1, 1) := by decide +kernel
theorem dX10_passedOnWay_46 : decode cX10_passedOnWay 46 = .ok (.invokestatic 468, 3) := by decide +kernel
theorem dX10_passedOnWay_49 : decode cX10_passedOnWay 49 = .ok (.iadd, 1) := by decide +kernel
theorem dX10_passedOnWay_50 : decode cX10_passedOnWay 50 = .ok (.istore_n 2, 1) := by decide +kernel
theorem dX10_passedOnWay_51 : decode cX10_passedOnWay 51 = .ok (.iinc 3 1, 3) := by decide +kernel
theorem dX10_passedOnWay_54 : decode cX10_passedOnWay 54 = .ok (.goto (-50), 3) := by decide +kernel
theorem dX10_passedOnWay_57 : decode cX10_passedOnWay 57 = .ok (.iload_n 2, 1) := by decide +kernel
theorem dX10_passedOnWay_58 : decode cX10_passedOnWay 58 = .ok (.ireturn, 1) := by decide +kernel
abbrev rmX10_passedOnWay : Room := { frames := 3, cells := 0, slots := 0, locals := 81 }
set_option maxHeartbeats 4000000 in
set_option maxRecDepth 100000 in
theorem metX10_passedOnWay {l : Launch} {s0 : State} {b B : Nat} {D : va_G} {T : Nat → ClassId} (F : FX l s0 b D T B) {X : Nat → Prop} (hX : ∀ o, o < 560 → ¬ X (B + o)) {N : Nat} {μ : Mem} {a0 : Nat} {a1 : Int32} {r : Int32} (k0 : IsGa a0) (h : fX10_passedOnWay N μ a0 a1 = some r) : gMet l yX10_passedOnWay cX10_passedOnWay 4 (some .int) rmX10_passedOnWay [.ref (B + a0), .int a1] (gWC s0 D T B μ) (KC s0 X) (some (.int r)) (gWC s0 D T B μ) (gA B X) 0 0 := by
  refine gI_of RX10 (by decide +kernel) rfl (Nat.le_of_ble_eq_true rfl) ?_
  intro p e s m args below meth c ls Q hx hb hlocks hml hown hts hW hk hl hS hend
  have hC := FX_C F hk hx hb hown hts
  have hA := gA_all hX
  have hl : lv_has ls 4 [(0, .ref (B + a0)), (1, .int a1)] := hl
  unfold fX10_passedOnWay at h
  refine lv_iconst (v := 0) hx hb dX10_passedOnWay_0 (by decide) ?_
  refine lv_istore_n (lv' := [(2, .int 0), (0, .ref (B + a0)), (1, .int a1)]) hx hb dX10_passedOnWay_1 rfl hl (by decide) rfl (fun ls hl => ?_)
  refine lv_iconst (v := 1) hx hb dX10_passedOnWay_2 (by decide) ?_
  refine lv_istore_n (lv' := [(3, .int 1), (2, .int 0), (0, .ref (B + a0)), (1, .int a1)]) hx hb dX10_passedOnWay_3 rfl hl (by decide) rfl (fun ls hl => ?_)
  refine fix2_ind (fun (x1 : Int32) (x2 : Int32) => ∀ (H : Heap) (locs : List Loc) (ls : Array Slot), gWC s0 D T B μ H → va_S (gA B X) s.heap H locs → lv_has ls 4 [(0, .ref (B + a0)), (1, .int a1), (2, .int x1), (3, .int x2)] → W p l e rmX10_passedOnWay s m args below meth c H locs 0 0 Q (F0 m 4 ls [])) ?_ N _ _ h _ _ _ hW hS (lv_sub hl [2, 3, 1, 0] rfl)
  clear h hW hS hl
  intro self3 IH4 x1 x2 h H locs ls hW hS hl
  refine lv_iload_n hx hb dX10_passedOnWay_4 rfl (lv_at hl 3 rfl) ?_
  refine lv_aload_n hx hb dX10_passedOnWay_5 rfl (lv_at hl 0 rfl) ?_
  refine gw_get (v := .ref (B + 520)) hC hW fl_X10_29 k0.1 (k0.2.2.1 (gfm s0) T B (μ a0)) rfl dX10_passedOnWay_6 ?_
  refine gw_get (v := .int (μ 520 1)) hC hW fl_X10_136.1 k0.2.2.2.2.2.2.1.1 (k0.2.2.2.2.2.2.1.2.1 (gfm s0) T B (μ 520)) rfl dX10_passedOnWay_9 ?_
  refine lv_icmp_ge (tgt := 57) hx hb dX10_passedOnWay_12 (by decide) (fun c5 => ?_) (fun c5 => ?_)
  · replace h := ite_t c5 h
    refine lv_iload_n hx hb dX10_passedOnWay_57 rfl (lv_at hl 2 rfl) ?_
    cases h
    exact hend dX10_passedOnWay_58 hW hS (Nat.le_of_ble_eq_true rfl) (Nat.le_of_ble_eq_true rfl)
  · replace h := ite_f c5 h
    refine lv_iload_n hx hb dX10_passedOnWay_15 rfl (lv_at hl 2 rfl) ?_
    refine lv_aload_n hx hb dX10_passedOnWay_16 rfl (lv_at hl 0 rfl) ?_
    refine gw_get (v := .ref (B + 1)) hC hW fl_X10_12 k0.1 (k0.2.2.1 (gfm s0) T B (μ a0)) rfl dX10_passedOnWay_17 ?_
    refine gw_get (v := .ref (B + (1 + 9))) hC hW fl_X10_112 k0.2.2.2.1.1 (k0.2.2.2.1.2.1 (gfm s0) T B (μ 1)) rfl dX10_passedOnWay_20 ?_
    refine lv_aload_n hx hb dX10_passedOnWay_23 rfl (lv_at hl 0 rfl) ?_
    refine gw_get (v := .ref (B + 520)) hC hW fl_X10_29 k0.1 (k0.2.2.1 (gfm s0) T B (μ a0)) rfl dX10_passedOnWay_24 ?_
    refine gw_get (v := .ref (B + (520 + 1))) hC hW fl_X10_146 k0.2.2.2.2.2.2.1.1 (k0.2.2.2.2.2.2.1.2.1 (gfm s0) T B (μ 520)) rfl dX10_passedOnWay_27 ?_
    refine lv_iload_n hx hb dX10_passedOnWay_30 rfl (lv_at hl 3 rfl) ?_
    refine lv_iconst (v := 1) hx hb dX10_passedOnWay_31 (by decide) ?_
    refine lv_isub hx hb dX10_passedOnWay_32 ?_
    obtain ⟨v6, e7, hi8, h⟩ := ag_o h
    refine gq_iald hC hW k0.2.2.2.2.2.2.1.2.2.1.1 (k0.2.2.2.2.2.2.1.2.2.1.2 (gfm s0) T B (μ (520 + 1))) (t0 := 0) rfl e7 hi8 dX10_passedOnWay_33 ?_
    obtain ⟨q9, e10, hq11, hi12, h⟩ := ar_o h
    refine gq_aald hC hW k0.2.2.2.1.2.2.2.2.1.1 (k0.2.2.2.1.2.2.2.2.1.2.1 (gfm s0) T B (μ (1 + 9))) (t0 := 3) rfl rfl e10 hi12 dX10_passedOnWay_34 ?_
    refine lv_aload_n hx hb dX10_passedOnWay_35 rfl (lv_at hl 0 rfl) ?_
    refine gw_get (v := .ref (B + 520)) hC hW fl_X10_29 k0.1 (k0.2.2.1 (gfm s0) T B (μ a0)) rfl dX10_passedOnWay_36 ?_
    refine gw_get (v := .ref (B + (520 + 1))) hC hW fl_X10_146 k0.2.2.2.2.2.2.1.1 (k0.2.2.2.2.2.2.1.2.1 (gfm s0) T B (μ 520)) rfl dX10_passedOnWay_39 ?_
    refine lv_iload_n hx hb dX10_passedOnWay_42 rfl (lv_at hl 3 rfl) ?_
    obtain ⟨v13, e14, hi15, h⟩ := ag_o h
    refine gq_iald hC hW k0.2.2.2.2.2.2.1.2.2.1.1 (k0.2.2.2.2.2.2.1.2.2.1.2 (gfm s0) T B (μ (520 + 1))) (t0 := 0) rfl e14 hi15 dX10_passedOnWay_43 ?_
    obtain ⟨v16, e17, hi18, h⟩ := ag_o h
    refine gq_iald hC hW (k0.2.2.2.1.2.2.2.2.1.2.2 q9 hq11).1 ((k0.2.2.2.1.2.2.2.2.1.2.2 q9 hq11).2 (gfm s0) T B (μ ((1 + 9) + 1 + 1 * q9))) (t0 := 0) rfl e17 hi18 dX10_passedOnWay_44 ?_
    refine lv_iload_n hx hb dX10_passedOnWay_45 rfl (lv_at hl 1 rfl) ?_
    obtain ⟨r19, hcall, h⟩ := bd_out h
    refine g0_callS (As := [.int v16, .int a1]) hC hml hS hW (KC_at hk hS F.2.2.2.2) KC_blind (metX10_passedBy F hX  hcall) ml_X10_468 ⟨rfl, rfl, (Nat.le_of_ble_eq_true rfl), (Nat.le_of_ble_eq_true rfl)⟩ rfl hl.1 rfl (Nat.le_of_ble_eq_true rfl) dX10_passedOnWay_46 ⟨(Nat.le_of_ble_eq_true rfl), (Nat.le_of_ble_eq_true rfl)⟩ (fun H locs hW hS => ?_)
    refine lv_iadd hx hb dX10_passedOnWay_49 ?_
    obtain ⟨v20, e21, h⟩ := lt_out h
    rw [← e21]
    refine lv_istore_n (lv' := [(2, .int v20), (0, .ref (B + a0)), (1, .int a1), (3, .int x2)]) hx hb dX10_passedOnWay_50 rfl hl (by decide) rfl (fun ls hl => ?_)
    obtain ⟨v22, e23, h⟩ := lt_out h
    refine lv_iinc (v := v22) (lv' := [(3, .int v22), (2, .int v20), (0, .ref (B + a0)), (1, .int a1)]) hx hb dX10_passedOnWay_51 hl (k := 3) rfl (by rw [e23]; rfl) (by decide) rfl (fun ls hl => ?_)
    refine lv_goto (tgt := 4) hx hb dX10_passedOnWay_54 (by decide) ?_
    exact IH4 _ _ h _ _ _ hW hS (lv_sub hl [2, 3, 1, 0] rfl)

theorem dX10_carry_0 : decode cX10_carry 0 = .ok (.iconst 0, 1) := by decide +kernel
theorem dX10_carry_1 : decode cX10_carry 1 = .ok (.istore_n 3, 1) := by decide +kernel
theorem dX10_carry_2 : decode cX10_carry 2 = .ok (.aload_n 0, 1) := by decide +kernel
theorem dX10_carry_3 : decode cX10_carry 3 = .ok (.getfield 29, 3) := by decide +kernel
theorem dX10_carry_6 : decode cX10_carry 6 = .ok (.aload_n 0, 1) := by decide +kernel
theorem dX10_carry_7 : decode cX10_carry 7 = .ok (.getfield 12, 3) := by decide +kernel
theorem dX10_carry_10 : decode cX10_carry 10 = .ok (.aload_n 1, 1) := by decide +kernel
theorem dX10_carry_11 : decode cX10_carry 11 = .ok (.getfield 195, 3) := by decide +kernel
theorem dX10_carry_14 : decode cX10_carry 14 = .ok (.iload_n 2, 1) := by decide +kernel
theorem dX10_carry_15 : decode cX10_carry 15 = .ok (.invokevirtual 458, 3) := by decide +kernel
theorem dX10_carry_18 : decode cX10_carry 18 = .ok (.ifCond .eq 21, 3) := by decide +kernel
theorem dX10_carry_21 : decode cX10_carry 21 = .ok (.aload_n 1, 1) := by decide +kernel
theorem dX10_carry_22 : decode cX10_carry 22 = .ok (.aload_n 0, 1) := by decide +kernel
theorem dX10_carry_23 : decode cX10_carry 23 = .ok (.aload_n 1, 1) := by decide +kernel
theorem dX10_carry_24 : decode cX10_carry 24 = .ok (.getfield 159, 3) := by decide +kernel
theorem dX10_carry_27 : decode cX10_carry 27 = .ok (.invokevirtual 239, 3) := by decide +kernel
theorem dX10_carry_30 : decode cX10_carry 30 = .ok (.invokevirtual 465, 3) := by decide +kernel
theorem dX10_carry_33 : decode cX10_carry 33 = .ok (.istore_n 3, 1) := by decide +kernel
theorem dX10_carry_34 : decode cX10_carry 34 = .ok (.aload_n 1, 1) := by decide +kernel
theorem dX10_carry_35 : decode cX10_carry 35 = .ok (.iload_n 2, 1) := by decide +kernel
theorem dX10_carry_36 : decode cX10_carry 36 = .ok (.putfield 195, 3) := by decide +kernel
theorem dX10_carry_39 : decode cX10_carry 39 = .ok (.iload_n 3, 1) := by decide +kernel
theorem dX10_carry_40 : decode cX10_carry 40 = .ok (.ireturn, 1) := by decide +kernel
abbrev rmX10_carry : Room := { frames := 5, cells := 0, slots := 0, locals := 134 }
set_option maxHeartbeats 4000000 in
set_option maxRecDepth 100000 in
theorem metX10_carry {l : Launch} {s0 : State} {b B : Nat} {D : va_G} {T : Nat → ClassId} (F : FX l s0 b D T B) {X : Nat → Prop} (hX : ∀ o, o < 560 → ¬ X (B + o)) {N : Nat} {μ : Mem} {a0 : Nat} {a1 : Nat} {a2 : Int32} {r : Mem × Int32} (k0 : IsGa a0) (k1 : IsEx a1) (h : fX10_carry N μ a0 a1 a2 = some r) : gMet l yX10_carry cX10_carry 4 (some .int) rmX10_carry [.ref (B + a0), .ref (B + a1), .int a2] (gWC s0 D T B μ) (KC s0 X) (some (.int r.2)) (gWC s0 D T B r.1) (gA B X) 0 0 := by
  refine gI_of RX10 (by decide +kernel) rfl (Nat.le_of_ble_eq_true rfl) ?_
  intro p e s m args below meth c ls Q hx hb hlocks hml hown hts hW hk hl hS hend
  have hC := FX_C F hk hx hb hown hts
  have hA := gA_all hX
  have hl : lv_has ls 4 [(0, .ref (B + a0)), (1, .ref (B + a1)), (2, .int a2)] := hl
  unfold fX10_carry at h
  refine lv_iconst (v := 0) hx hb dX10_carry_0 (by decide) ?_
  refine lv_istore_n (lv' := [(3, .int 0), (0, .ref (B + a0)), (1, .ref (B + a1)), (2, .int a2)]) hx hb dX10_carry_1 rfl hl (by decide) rfl (fun ls hl => ?_)
  refine lv_aload_n hx hb dX10_carry_2 rfl (lv_at hl 1 rfl) ?_
  refine gw_get (v := .ref (B + 520)) hC hW fl_X10_29 k0.1 (k0.2.2.1 (gfm s0) T B (μ a0)) rfl dX10_carry_3 ?_
  refine lv_aload_n hx hb dX10_carry_6 rfl (lv_at hl 1 rfl) ?_
  refine gw_get (v := .ref (B + 1)) hC hW fl_X10_12 k0.1 (k0.2.2.1 (gfm s0) T B (μ a0)) rfl dX10_carry_7 ?_
  refine lv_aload_n hx hb dX10_carry_10 rfl (lv_at hl 2 rfl) ?_
  refine gw_get (v := .int (μ a1 0)) hC hW fl_X10_195.1 k1.1 (k1.2.1 (gfm s0) T B (μ a1)) rfl dX10_carry_11 ?_
  refine lv_iload_n hx hb dX10_carry_14 rfl (lv_at hl 3 rfl) ?_
  obtain ⟨r1, hcall, h⟩ := bd_out h
  refine g0_callV (As := [.ref (B + 1), .int (μ a1 0), .int a2]) hC hml hS hW (KC_at hk hS F.2.2.2.2) KC_blind (metX9_findWay F hX k0.2.2.2.2.2.2.1 k0.2.2.2.1 hcall) ml_X10_458 (gw_recv hC hW k0.2.2.2.2.2.2.1.1 (k0.2.2.2.2.2.2.1.2.1 (gfm s0) T B (μ 520)) rfl) ⟨rfl, rfl, (Nat.le_of_ble_eq_true rfl), (Nat.le_of_ble_eq_true rfl)⟩ rfl hl.1 rfl (Nat.le_of_ble_eq_true rfl) dX10_carry_15 ⟨(Nat.le_of_ble_eq_true rfl), (Nat.le_of_ble_eq_true rfl)⟩ (fun H locs hW hS => ?_)
  obtain ⟨j4, hj6, h⟩ := jn2_o h
  have J5 : ∀ (y2 : Int32) (μ3 : Mem), j4 y2 μ3 = some r → ∀ (H : Heap) (locs : List Loc) (ls : Array Slot), gWC s0 D T B μ3 H → va_S (gA B X) s.heap H locs → lv_has ls 4 [(3, .int y2)] → W p l e rmX10_carry s m args below meth c H locs 0 0 Q (F0 m 39 ls []) := by
    clear h hW hS hl
    intro y2 μ3 h H locs ls hW hS hl
    replace h := (hj6 y2 μ3).symm.trans h
    refine lv_iload_n hx hb dX10_carry_39 rfl (lv_at hl 0 rfl) ?_
    cases h
    exact hend dX10_carry_40 hW hS (Nat.le_of_ble_eq_true rfl) (Nat.le_of_ble_eq_true rfl)
  refine gw_if_eqZ (tgt := 39) hx hb dX10_carry_18 (by decide) (fun c7 => ?_) (fun c7 => ?_)
  · replace h := cond_f c7 h
    exact J5 _ _ h _ _ _ hW hS (lv_sub hl [0] rfl)
  · replace h := cond_t c7 h
    refine lv_aload_n hx hb dX10_carry_21 rfl (lv_at hl 2 rfl) ?_
    refine lv_aload_n hx hb dX10_carry_22 rfl (lv_at hl 1 rfl) ?_
    refine lv_aload_n hx hb dX10_carry_23 rfl (lv_at hl 2 rfl) ?_
    refine gw_get (v := .int (r1.1 a1 1)) hC hW fl_X10_159.1 k1.1 (k1.2.1 (gfm s0) T B (r1.1 a1)) rfl dX10_carry_24 ?_
    obtain ⟨r8, hcall, h⟩ := bd_out h
    refine g0_callV (As := [.int (r1.1 a1 1)]) hC hml hS hW (KC_at hk hS F.2.2.2.2) KC_blind (metX10_passedOnWay F hX k0 hcall) ml_X10_239 (gw_recv hC hW k0.1 (k0.2.2.1 (gfm s0) T B (r1.1 a0)) rfl) ⟨rfl, rfl, (Nat.le_of_ble_eq_true rfl), (Nat.le_of_ble_eq_true rfl)⟩ rfl hl.1 rfl (Nat.le_of_ble_eq_true rfl) dX10_carry_27 ⟨(Nat.le_of_ble_eq_true rfl), (Nat.le_of_ble_eq_true rfl)⟩ (fun H locs hW hS => ?_)
    obtain ⟨r9, hcall, h⟩ := bd_out h
    refine g0_callV (As := [.int r8]) hC hml hS hW (KC_at hk hS F.2.2.2.2) KC_blind (metX1_melt F hX k1 hcall) ml_X10_465 (gw_recv hC hW k1.1 (k1.2.1 (gfm s0) T B (r1.1 a1)) rfl) ⟨rfl, rfl, (Nat.le_of_ble_eq_true rfl), (Nat.le_of_ble_eq_true rfl)⟩ rfl hl.1 rfl (Nat.le_of_ble_eq_true rfl) dX10_carry_30 ⟨(Nat.le_of_ble_eq_true rfl), (Nat.le_of_ble_eq_true rfl)⟩ (fun H locs hW hS => ?_)
    refine lv_istore_n (lv' := [(3, .int r9.2), (0, .ref (B + a0)), (1, .ref (B + a1)), (2, .int a2)]) hx hb dX10_carry_33 rfl hl (by decide) rfl (fun ls hl => ?_)
    refine lv_aload_n hx hb dX10_carry_34 rfl (lv_at hl 2 rfl) ?_
    refine lv_iload_n hx hb dX10_carry_35 rfl (lv_at hl 3 rfl) ?_
    obtain ⟨μ10, e11, h⟩ := lt_out h
    refine gq_put hC hS hW hA fl_X10_195 k1.1 (k1.2.1 (gfm s0) T B) (Nat.le_of_ble_eq_true rfl) rfl rfl rfl e11 dX10_carry_36 (fun H locs hW hS => ?_)
    exact J5 _ _ h _ _ _ hW hS (lv_sub hl [0] rfl)

theorem dX10_send_0 : decode cX10_send 0 = .ok (.aload_n 0, 1) := by decide +kernel
theorem dX10_send_1 : decode cX10_send 1 = .ok (.iload_n 1, 1) := by decide +kernel
theorem dX10_send_2 : decode cX10_send 2 = .ok (.iload_n 2, 1) := by decide +kernel
theorem dX10_send_3 : decode cX10_send 3 = .ok (.invokevirtual 229, 3) := by decide +kernel
theorem dX10_send_6 : decode cX10_send 6 = .ok (.invokestatic 72, 3) := by decide +kernel
theorem dX10_send_9 : decode cX10_send 9 = .ok (.aload_n 0, 1) := by decide +kernel
theorem dX10_send_10 : decode cX10_send 10 = .ok (.invokevirtual 76, 3) := by decide +kernel
theorem dX10_send_13 : decode cX10_send 13 = .ok (.aload_n 0, 1) := by decide +kernel
theorem dX10_send_14 : decode cX10_send 14 = .ok (.aload_n 0, 1) := by decide +kernel
theorem dX10_send_15 : decode cX10_send 15 = .ok (.getfield 12, 3) := by decide +kernel
theorem dX10_send_18 : decode cX10_send 18 = .ok (.getfield 167, 3) := by decide +kernel
theorem dX10_send_21 : decode cX10_send 21 = .ok (.iload_n 1, 1) := by decide +kernel
theorem dX10_send_22 : decode cX10_send 22 = .ok (.aaload, 1) := by decide +kernel
theorem dX10_send_23 : decode cX10_send 23 = .ok (.iload_n 2, 1) := by decide +kernel
theorem dX10_send_24 : decode cX10_send 24 = .ok (.invokevirtual 232, 3) := by decide +kernel
theorem dX10_send_27 : decode cX10_send 27 = .ok (.ireturn, 1) := by decide +kernel
abbrev rmX10_send : Room := { frames := 7, cells := 1, slots := 6, locals := 158 }
set_option maxHeartbeats 4000000 in
set_option maxRecDepth 100000 in
theorem metX10_send {l : Launch} {s0 : State} {b B : Nat} {D : va_G} {T : Nat → ClassId} (F : FX l s0 b D T B) {X : Nat → Prop} (hX : ∀ o, o < 560 → ¬ X (B + o)) {N : Nat} {μ : Mem} {a0 : Nat} {a1 : Int32} {a2 : Int32} {r : Mem × (Nat ⊕ Int32)} (k0 : IsGa a0) (h : fX10_send N μ a0 a1 a2 = some r) : gXMet l yX10_send cX10_send 3 (some .int) rmX10_send [.ref (B + a0), .int a1, .int a2] (gWC s0 D T B μ) (KC s0 X) (oI r.2) (gWC s0 D T B r.1) (gA B X) 1 6 := by
  refine gXI_of RX10 (by decide +kernel) rfl (Nat.le_of_ble_eq_true rfl) ?_
  intro p e s m args below meth c ls Q hx hb hlocks hml hown hts hW hk hl hS hE
  obtain ⟨hend, hthr, htb, hQ⟩ := hE
  have hC := FX_C F hk hx hb hown hts
  have hA := gA_all hX
  have hl : lv_has ls 3 [(0, .ref (B + a0)), (1, .int a1), (2, .int a2)] := hl
  unfold fX10_send at h
  refine lv_aload_n hx hb dX10_send_0 rfl (lv_at hl 0 rfl) ?_
  refine lv_iload_n hx hb dX10_send_1 rfl (lv_at hl 1 rfl) ?_
  refine lv_iload_n hx hb dX10_send_2 rfl (lv_at hl 2 rfl) ?_
  obtain ⟨r1, hcall, h⟩ := bd_out h
  refine g0_callV (As := [.int a1, .int a2]) hC hml hS hW (KC_at hk hS F.2.2.2.2) KC_blind (metX10_sendFault F hX k0 hcall) ml_X10_229 (gw_recv hC hW k0.1 (k0.2.2.1 (gfm s0) T B (μ a0)) rfl) ⟨rfl, rfl, (Nat.le_of_ble_eq_true rfl), (Nat.le_of_ble_eq_true rfl)⟩ rfl hl.1 rfl (Nat.le_of_ble_eq_true rfl) dX10_send_3 ⟨(Nat.le_of_ble_eq_true rfl), (Nat.le_of_ble_eq_true rfl)⟩ (fun H locs hW hS => ?_)
  rcases tb_out h with ⟨μ3, n5, hcall, h9⟩ | ⟨μ3, r4, hcall, h⟩
  · cases h9
    exact gx_callS (As := [.ref (gfa s0 r1.2)]) hC hml hS hW (KC_at hk hS F.2.2.2.2) KC_blind (metX10_stopIf F hX  hcall) ml_X10_72 ⟨rfl, rfl, (Nat.le_of_ble_eq_true rfl), (Nat.le_of_ble_eq_true rfl)⟩ rfl hl.1 rfl (Nat.le_of_ble_eq_true rfl) dX10_send_6 ⟨(Nat.le_of_ble_eq_true rfl), (Nat.le_of_ble_eq_true rfl)⟩ (fun v9 ho => by cases ho) (fun k9 ho H locs q9 ce9 hW hS hce hvm hcl => by cases ho; exact hthr _ rfl hW hS hce hvm hcl (Nat.le_of_ble_eq_true rfl) (Nat.le_of_ble_eq_true rfl))
  refine gx_callS (As := [.ref (gfa s0 r1.2)]) hC hml hS hW (KC_at hk hS F.2.2.2.2) KC_blind (metX10_stopIf F hX  hcall) ml_X10_72 ⟨rfl, rfl, (Nat.le_of_ble_eq_true rfl), (Nat.le_of_ble_eq_true rfl)⟩ rfl hl.1 rfl (Nat.le_of_ble_eq_true rfl) dX10_send_6 ⟨(Nat.le_of_ble_eq_true rfl), (Nat.le_of_ble_eq_true rfl)⟩ (fun v9 ho H locs hW hS => ?_) (fun k9 ho => by cases ho)
  cases ho
  refine W.widen (k := 1) (n := 6) (Nat.le_of_ble_eq_true rfl) (Nat.le_of_ble_eq_true rfl) ?_
  refine lv_aload_n hx hb dX10_send_9 rfl (lv_at hl 0 rfl) ?_
  obtain ⟨r6, hcall, h⟩ := bd_out h
  refine g0_callV (As := []) hC hml hS hW (KC_at hk hS F.2.2.2.2) KC_blind (metX10_remember F hX k0 hcall) ml_X10_76 (gw_recv hC hW k0.1 (k0.2.2.1 (gfm s0) T B (μ3 a0)) rfl) ⟨rfl, rfl, (Nat.le_of_ble_eq_true rfl), (Nat.le_of_ble_eq_true rfl)⟩ rfl hl.1 rfl (Nat.le_of_ble_eq_true rfl) dX10_send_10 ⟨(Nat.le_of_ble_eq_true rfl), (Nat.le_of_ble_eq_true rfl)⟩ (fun H locs hW hS => ?_)
  refine lv_aload_n hx hb dX10_send_13 rfl (lv_at hl 0 rfl) ?_
  refine lv_aload_n hx hb dX10_send_14 rfl (lv_at hl 0 rfl) ?_
  refine gw_get (v := .ref (B + 1)) hC hW fl_X10_12 k0.1 (k0.2.2.1 (gfm s0) T B (r6 a0)) rfl dX10_send_15 ?_
  refine gw_get (v := .ref (B + (1 + 16))) hC hW fl_X10_167 k0.2.2.2.1.1 (k0.2.2.2.1.2.1 (gfm s0) T B (r6 1)) rfl dX10_send_18 ?_
  refine lv_iload_n hx hb dX10_send_21 rfl (lv_at hl 1 rfl) ?_
  obtain ⟨q7, e8, hq9, hi10, h⟩ := ar_o h
  refine gq_aald hC hW k0.2.2.2.1.2.2.2.2.2.1 (k0.2.2.2.1.2.2.2.2.2.2.1 (gfm s0) T B (r6 (1 + 16))) (t0 := 5) rfl rfl e8 hi10 dX10_send_22 ?_
  refine lv_iload_n hx hb dX10_send_23 rfl (lv_at hl 2 rfl) ?_
  obtain ⟨r11, hcall, h⟩ := bd_out h
  refine g0_callV (As := [.ref (B + ((1 + 16) + 1 + 6 * q7)), .int a2]) hC hml hS hW (KC_at hk hS F.2.2.2.2) KC_blind (metX10_carry F hX k0 (k0.2.2.2.1.2.2.2.2.2.2.2 q7 hq9) hcall) ml_X10_232 (gw_recv hC hW k0.1 (k0.2.2.1 (gfm s0) T B (r6 a0)) rfl) ⟨rfl, rfl, (Nat.le_of_ble_eq_true rfl), (Nat.le_of_ble_eq_true rfl)⟩ rfl hl.1 rfl (Nat.le_of_ble_eq_true rfl) dX10_send_24 ⟨(Nat.le_of_ble_eq_true rfl), (Nat.le_of_ble_eq_true rfl)⟩ (fun H locs hW hS => ?_)
  cases h
  exact hend _ rfl dX10_send_27 hW hS (Nat.le_of_ble_eq_true rfl) (Nat.le_of_ble_eq_true rfl)

theorem dX10_meltIfSent_0 : decode cX10_meltIfSent 0 = .ok (.aload_n 0, 1) := by decide +kernel
theorem dX10_meltIfSent_1 : decode cX10_meltIfSent 1 = .ok (.iload_n 1, 1) := by decide +kernel
theorem dX10_meltIfSent_2 : decode cX10_meltIfSent 2 = .ok (.iload_n 2, 1) := by decide +kernel
theorem dX10_meltIfSent_3 : decode cX10_meltIfSent 3 = .ok (.invokevirtual 236, 3) := by decide +kernel
theorem dX10_meltIfSent_6 : decode cX10_meltIfSent 6 = .ok (.invokestatic 72, 3) := by decide +kernel
theorem dX10_meltIfSent_9 : decode cX10_meltIfSent 9 = .ok (.aload_n 0, 1) := by decide +kernel
theorem dX10_meltIfSent_10 : decode cX10_meltIfSent 10 = .ok (.getfield 12, 3) := by decide +kernel
theorem dX10_meltIfSent_13 : decode cX10_meltIfSent 13 = .ok (.getfield 167, 3) := by decide +kernel
theorem dX10_meltIfSent_16 : decode cX10_meltIfSent 16 = .ok (.iload_n 1, 1) := by decide +kernel
theorem dX10_meltIfSent_17 : decode cX10_meltIfSent 17 = .ok (.aaload, 1) := by decide +kernel
theorem dX10_meltIfSent_18 : decode cX10_meltIfSent 18 = .ok (.astore_n 3, 1) := by decide +kernel
theorem dX10_meltIfSent_19 : decode cX10_meltIfSent 19 = .ok (.aload_n 0, 1) := by decide +kernel
theorem dX10_meltIfSent_20 : decode cX10_meltIfSent 20 = .ok (.aload_n 3, 1) := by decide +kernel
theorem dX10_meltIfSent_21 : decode cX10_meltIfSent 21 = .ok (.getfield 195, 3) := by decide +kernel
theorem dX10_meltIfSent_24 : decode cX10_meltIfSent 24 = .ok (.iload_n 2, 1) := by decide +kernel
theorem dX10_meltIfSent_25 : decode cX10_meltIfSent 25 = .ok (.invokevirtual 133, 3) := by decide +kernel
theorem dX10_meltIfSent_28 : decode cX10_meltIfSent 28 = .ok (.invokestatic 72, 3) := by decide +kernel
theorem dX10_meltIfSent_31 : decode cX10_meltIfSent 31 = .ok (.aload_n 0, 1) := by decide +kernel
theorem dX10_meltIfSent_32 : decode cX10_meltIfSent 32 = .ok (.aload_n 3, 1) := by decide +kernel
theorem dX10_meltIfSent_33 : decode cX10_meltIfSent 33 = .ok (.getfield 159, 3) := by decide +kernel
theorem dX10_meltIfSent_36 : decode cX10_meltIfSent 36 = .ok (.invokevirtual 239, 3) := by decide +kernel
theorem dX10_meltIfSent_39 : decode cX10_meltIfSent 39 = .ok (.aload_n 3, 1) := by decide +kernel
theorem dX10_meltIfSent_40 : decode cX10_meltIfSent 40 = .ok (.getfield 201, 3) := by decide +kernel
theorem dX10_meltIfSent_43 : decode cX10_meltIfSent 43 = .ok (.invokestatic 204, 3) := by decide +kernel
theorem dX10_meltIfSent_46 : decode cX10_meltIfSent 46 = .ok (.invokestatic 242, 3) := by decide +kernel
theorem dX10_meltIfSent_49 : decode cX10_meltIfSent 49 = .ok (.ireturn, 1) := by decide +kernel
abbrev rmX10_meltIfSent : Room := { frames := 7, cells := 2, slots := 12, locals := 156 }
set_option maxHeartbeats 4000000 in
set_option maxRecDepth 100000 in
theorem metX10_meltIfSent {l : Launch} {s0 : State} {b B : Nat} {D : va_G} {T : Nat → ClassId} (F : FX l s0 b D T B) {X : Nat → Prop} (hX : ∀ o, o < 560 → ¬ X (B + o)) {N : Nat} {μ : Mem} {a0 : Nat} {a1 : Int32} {a2 : Int32} {r : Mem × (Nat ⊕ Int32)} (k0 : IsGa a0) (h : fX10_meltIfSent N μ a0 a1 a2 = some r) : gXMet l yX10_meltIfSent cX10_meltIfSent 4 (some .int) rmX10_meltIfSent [.ref (B + a0), .int a1, .int a2] (gWC s0 D T B μ) (KC s0 X) (oI r.2) (gWC s0 D T B r.1) (gA B X) 2 12 := by
  refine gXI_of RX10 (by decide +kernel) rfl (Nat.le_of_ble_eq_true rfl) ?_
  intro p e s m args below meth c ls Q hx hb hlocks hml hown hts hW hk hl hS hE
  obtain ⟨hend, hthr, htb, hQ⟩ := hE
  have hC := FX_C F hk hx hb hown hts
  have hA := gA_all hX
  have hl : lv_has ls 4 [(0, .ref (B + a0)), (1, .int a1), (2, .int a2)] := hl
  unfold fX10_meltIfSent at h
  refine lv_aload_n hx hb dX10_meltIfSent_0 rfl (lv_at hl 0 rfl) ?_
  refine lv_iload_n hx hb dX10_meltIfSent_1 rfl (lv_at hl 1 rfl) ?_
  refine lv_iload_n hx hb dX10_meltIfSent_2 rfl (lv_at hl 2 rfl) ?_
  obtain ⟨r1, hcall, h⟩ := bd_out h
  refine g0_callV (As := [.int a1, .int a2]) hC hml hS hW (KC_at hk hS F.2.2.2.2) KC_blind (metX10_journeyFault F hX k0 hcall) ml_X10_236 (gw_recv hC hW k0.1 (k0.2.2.1 (gfm s0) T B (μ a0)) rfl) ⟨rfl, rfl, (Nat.le_of_ble_eq_true rfl), (Nat.le_of_ble_eq_true rfl)⟩ rfl hl.1 rfl (Nat.le_of_ble_eq_true rfl) dX10_meltIfSent_3 ⟨(Nat.le_of_ble_eq_true rfl), (Nat.le_of_ble_eq_true rfl)⟩ (fun H locs hW hS => ?_)
  rcases tb_out h with ⟨μ3, n5, hcall, h9⟩ | ⟨μ3, r4, hcall, h⟩
  · cases h9
    exact gx_callS (As := [.ref (gfa s0 r1)]) hC hml hS hW (KC_at hk hS F.2.2.2.2) KC_blind (metX10_stopIf F hX  hcall) ml_X10_72 ⟨rfl, rfl, (Nat.le_of_ble_eq_true rfl), (Nat.le_of_ble_eq_true rfl)⟩ rfl hl.1 rfl (Nat.le_of_ble_eq_true rfl) dX10_meltIfSent_6 ⟨(Nat.le_of_ble_eq_true rfl), (Nat.le_of_ble_eq_true rfl)⟩ (fun v9 ho => by cases ho) (fun k9 ho H locs q9 ce9 hW hS hce hvm hcl => by cases ho; exact hthr _ rfl hW hS hce hvm hcl (Nat.le_of_ble_eq_true rfl) (Nat.le_of_ble_eq_true rfl))
  refine gx_callS (As := [.ref (gfa s0 r1)]) hC hml hS hW (KC_at hk hS F.2.2.2.2) KC_blind (metX10_stopIf F hX  hcall) ml_X10_72 ⟨rfl, rfl, (Nat.le_of_ble_eq_true rfl), (Nat.le_of_ble_eq_true rfl)⟩ rfl hl.1 rfl (Nat.le_of_ble_eq_true rfl) dX10_meltIfSent_6 ⟨(Nat.le_of_ble_eq_true rfl), (Nat.le_of_ble_eq_true rfl)⟩ (fun v9 ho H locs hW hS => ?_) (fun k9 ho => by cases ho)
  cases ho
  refine W.widen (k := 1) (n := 6) (Nat.le_of_ble_eq_true rfl) (Nat.le_of_ble_eq_true rfl) ?_
  refine lv_aload_n hx hb dX10_meltIfSent_9 rfl (lv_at hl 0 rfl) ?_
  refine gw_get (v := .ref (B + 1)) hC hW fl_X10_12 k0.1 (k0.2.2.1 (gfm s0) T B (μ3 a0)) rfl dX10_meltIfSent_10 ?_
  refine gw_get (v := .ref (B + (1 + 16))) hC hW fl_X10_167 k0.2.2.2.1.1 (k0.2.2.2.1.2.1 (gfm s0) T B (μ3 1)) rfl dX10_meltIfSent_13 ?_
  refine lv_iload_n hx hb dX10_meltIfSent_16 rfl (lv_at hl 1 rfl) ?_
  obtain ⟨q6, e7, hq8, hi9, h⟩ := ar_o h
  refine gq_aald hC hW k0.2.2.2.1.2.2.2.2.2.1 (k0.2.2.2.1.2.2.2.2.2.2.1 (gfm s0) T B (μ3 (1 + 16))) (t0 := 5) rfl rfl e7 hi9 dX10_meltIfSent_17 ?_
  refine lv_astore_n (lv' := [(3, .ref (B + ((1 + 16) + 1 + 6 * q6))), (0, .ref (B + a0)), (1, .int a1), (2, .int a2)]) hx hb dX10_meltIfSent_18 rfl hl (by decide) rfl (fun ls hl => ?_)
  refine lv_aload_n hx hb dX10_meltIfSent_19 rfl (lv_at hl 1 rfl) ?_
  refine lv_aload_n hx hb dX10_meltIfSent_20 rfl (lv_at hl 0 rfl) ?_
  refine gw_get (v := .int (μ3 ((1 + 16) + 1 + 6 * q6) 0)) hC hW fl_X10_195.1 (k0.2.2.2.1.2.2.2.2.2.2.2 q6 hq8).1 ((k0.2.2.2.1.2.2.2.2.2.2.2 q6 hq8).2.1 (gfm s0) T B (μ3 ((1 + 16) + 1 + 6 * q6))) rfl dX10_meltIfSent_21 ?_
  refine lv_iload_n hx hb dX10_meltIfSent_24 rfl (lv_at hl 3 rfl) ?_
  obtain ⟨r10, hcall, h⟩ := bd_out h
  refine g0_callV (As := [.int (μ3 ((1 + 16) + 1 + 6 * q6) 0), .int a2]) hC hml hS hW (KC_at hk hS F.2.2.2.2) KC_blind (metX10_wayFault F hX k0 hcall) ml_X10_133 (gw_recv hC hW k0.1 (k0.2.2.1 (gfm s0) T B (μ3 a0)) rfl) ⟨rfl, rfl, (Nat.le_of_ble_eq_true rfl), (Nat.le_of_ble_eq_true rfl)⟩ rfl hl.1 rfl (Nat.le_of_ble_eq_true rfl) dX10_meltIfSent_25 ⟨(Nat.le_of_ble_eq_true rfl), (Nat.le_of_ble_eq_true rfl)⟩ (fun H locs hW hS => ?_)
  rcases tb_out h with ⟨μ12, n14, hcall, h9⟩ | ⟨μ12, r13, hcall, h⟩
  · cases h9
    exact gx_callS (As := [.ref (gfa s0 r10.2)]) hC hml hS hW (KC_at hk hS F.2.2.2.2) KC_blind (metX10_stopIf F hX  hcall) ml_X10_72 ⟨rfl, rfl, (Nat.le_of_ble_eq_true rfl), (Nat.le_of_ble_eq_true rfl)⟩ rfl hl.1 rfl (Nat.le_of_ble_eq_true rfl) dX10_meltIfSent_28 ⟨(Nat.le_of_ble_eq_true rfl), (Nat.le_of_ble_eq_true rfl)⟩ (fun v9 ho => by cases ho) (fun k9 ho H locs q9 ce9 hW hS hce hvm hcl => by cases ho; exact hthr _ rfl hW hS hce hvm hcl (Nat.le_of_ble_eq_true rfl) (Nat.le_of_ble_eq_true rfl))
  refine gx_callS (As := [.ref (gfa s0 r10.2)]) hC hml hS hW (KC_at hk hS F.2.2.2.2) KC_blind (metX10_stopIf F hX  hcall) ml_X10_72 ⟨rfl, rfl, (Nat.le_of_ble_eq_true rfl), (Nat.le_of_ble_eq_true rfl)⟩ rfl hl.1 rfl (Nat.le_of_ble_eq_true rfl) dX10_meltIfSent_28 ⟨(Nat.le_of_ble_eq_true rfl), (Nat.le_of_ble_eq_true rfl)⟩ (fun v9 ho H locs hW hS => ?_) (fun k9 ho => by cases ho)
  cases ho
  refine W.widen (k := 2) (n := 12) (Nat.le_of_ble_eq_true rfl) (Nat.le_of_ble_eq_true rfl) ?_
  refine lv_aload_n hx hb dX10_meltIfSent_31 rfl (lv_at hl 1 rfl) ?_
  refine lv_aload_n hx hb dX10_meltIfSent_32 rfl (lv_at hl 0 rfl) ?_
  refine gw_get (v := .int (μ12 ((1 + 16) + 1 + 6 * q6) 1)) hC hW fl_X10_159.1 (k0.2.2.2.1.2.2.2.2.2.2.2 q6 hq8).1 ((k0.2.2.2.1.2.2.2.2.2.2.2 q6 hq8).2.1 (gfm s0) T B (μ12 ((1 + 16) + 1 + 6 * q6))) rfl dX10_meltIfSent_33 ?_
  obtain ⟨r15, hcall, h⟩ := bd_out h
  refine g0_callV (As := [.int (μ12 ((1 + 16) + 1 + 6 * q6) 1)]) hC hml hS hW (KC_at hk hS F.2.2.2.2) KC_blind (metX10_passedOnWay F hX k0 hcall) ml_X10_239 (gw_recv hC hW k0.1 (k0.2.2.1 (gfm s0) T B (μ12 a0)) rfl) ⟨rfl, rfl, (Nat.le_of_ble_eq_true rfl), (Nat.le_of_ble_eq_true rfl)⟩ rfl hl.1 rfl (Nat.le_of_ble_eq_true rfl) dX10_meltIfSent_36 ⟨(Nat.le_of_ble_eq_true rfl), (Nat.le_of_ble_eq_true rfl)⟩ (fun H locs hW hS => ?_)
  refine lv_aload_n hx hb dX10_meltIfSent_39 rfl (lv_at hl 0 rfl) ?_
  refine gw_get (v := .ref (B + (((1 + 16) + 1 + 6 * q6) + 1))) hC hW fl_X10_201 (k0.2.2.2.1.2.2.2.2.2.2.2 q6 hq8).1 ((k0.2.2.2.1.2.2.2.2.2.2.2 q6 hq8).2.1 (gfm s0) T B (μ12 ((1 + 16) + 1 + 6 * q6))) rfl dX10_meltIfSent_40 ?_
  obtain ⟨r16, hcall, h⟩ := bd_out h
  refine g0_callS (As := [.ref (B + (((1 + 16) + 1 + 6 * q6) + 1))]) hC hml hS hW (KC_at hk hS F.2.2.2.2) KC_blind (metX6_countGrains F hX (k0.2.2.2.1.2.2.2.2.2.2.2 q6 hq8).2.2.1 hcall) ml_X10_204 ⟨rfl, rfl, (Nat.le_of_ble_eq_true rfl), (Nat.le_of_ble_eq_true rfl)⟩ rfl hl.1 rfl (Nat.le_of_ble_eq_true rfl) dX10_meltIfSent_43 ⟨(Nat.le_of_ble_eq_true rfl), (Nat.le_of_ble_eq_true rfl)⟩ (fun H locs hW hS => ?_)
  refine gw_min hC (hml.trans hl.1.symm) lm_X10_242 lb_min.1 lb_min.2.1 lb_min.2.2 (Nat.le_of_ble_eq_true rfl) (Nat.le_of_ble_eq_true rfl) (Nat.le_of_ble_eq_true rfl) (Nat.le_of_ble_eq_true rfl) dX10_meltIfSent_46 ?_
  cases h
  exact hend _ rfl dX10_meltIfSent_49 hW hS (Nat.le_of_ble_eq_true rfl) (Nat.le_of_ble_eq_true rfl)

theorem dX10_leastPassed_0 : decode cX10_leastPassed 0 = .ok (.aload_n 0, 1) := by decide +kernel
theorem dX10_leastPassed_1 : decode cX10_leastPassed 1 = .ok (.iload_n 1, 1) := by decide +kernel
theorem dX10_leastPassed_2 : decode cX10_leastPassed 2 = .ok (.iload_n 2, 1) := by decide +kernel
theorem dX10_leastPassed_3 : decode cX10_leastPassed 3 = .ok (.invokevirtual 236, 3) := by decide +kernel
theorem dX10_leastPassed_6 : decode cX10_leastPassed 6 = .ok (.invokestatic 72, 3) := by decide +kernel
theorem dX10_leastPassed_9 : decode cX10_leastPassed 9 = .ok (.aload_n 0, 1) := by decide +kernel
theorem dX10_leastPassed_10 : decode cX10_leastPassed 10 = .ok (.getfield 29, 3) := by decide +kernel
theorem dX10_leastPassed_13 : decode cX10_leastPassed 13 = .ok (.aload_n 0, 1) := by decide +kernel
theorem dX10_leastPassed_14 : decode cX10_leastPassed 14 = .ok (.getfield 12, 3) := by decide +kernel
theorem dX10_leastPassed_17 : decode cX10_leastPassed 17 = .ok (.aload_n 0, 1) := by decide +kernel
theorem dX10_leastPassed_18 : decode cX10_leastPassed 18 = .ok (.getfield 12, 3) := by decide +kernel
theorem dX10_leastPassed_21 : decode cX10_leastPassed 21 = .ok (.getfield 167, 3) := by decide +kernel
theorem dX10_leastPassed_24 : decode cX10_leastPassed 24 = .ok (.iload_n 1, 1) := by decide +kernel
theorem dX10_leastPassed_25 : decode cX10_leastPassed 25 = .ok (.aaload, 1) := by decide +kernel
theorem dX10_leastPassed_26 : decode cX10_leastPassed 26 = .ok (.iload_n 2, 1) := by decide +kernel
theorem dX10_leastPassed_27 : decode cX10_leastPassed 27 = .ok (.invokevirtual 247, 3) := by decide +kernel
theorem dX10_leastPassed_30 : decode cX10_leastPassed 30 = .ok (.invokestatic 122, 3) := by decide +kernel
theorem dX10_leastPassed_33 : decode cX10_leastPassed 33 = .ok (.ireturn, 1) := by decide +kernel
abbrev rmX10_leastPassed : Room := { frames := 7, cells := 2, slots := 12, locals := 140 }
set_option maxHeartbeats 4000000 in
set_option maxRecDepth 100000 in
theorem metX10_leastPassed {l : Launch} {s0 : State} {b B : Nat} {D : va_G} {T : Nat → ClassId} (F : FX l s0 b D T B) {X : Nat → Prop} (hX : ∀ o, o < 560 → ¬ X (B + o)) {N : Nat} {μ : Mem} {a0 : Nat} {a1 : Int32} {a2 : Int32} {r : Mem × (Nat ⊕ Int32)} (k0 : IsGa a0) (h : fX10_leastPassed N μ a0 a1 a2 = some r) : gXMet l yX10_leastPassed cX10_leastPassed 3 (some .int) rmX10_leastPassed [.ref (B + a0), .int a1, .int a2] (gWC s0 D T B μ) (KC s0 X) (oI r.2) (gWC s0 D T B r.1) (gA B X) 2 12 := by
  refine gXI_of RX10 (by decide +kernel) rfl (Nat.le_of_ble_eq_true rfl) ?_
  intro p e s m args below meth c ls Q hx hb hlocks hml hown hts hW hk hl hS hE
  obtain ⟨hend, hthr, htb, hQ⟩ := hE
  have hC := FX_C F hk hx hb hown hts
  have hA := gA_all hX
  have hl : lv_has ls 3 [(0, .ref (B + a0)), (1, .int a1), (2, .int a2)] := hl
  unfold fX10_leastPassed at h
  refine lv_aload_n hx hb dX10_leastPassed_0 rfl (lv_at hl 0 rfl) ?_
  refine lv_iload_n hx hb dX10_leastPassed_1 rfl (lv_at hl 1 rfl) ?_
  refine lv_iload_n hx hb dX10_leastPassed_2 rfl (lv_at hl 2 rfl) ?_
  obtain ⟨r1, hcall, h⟩ := bd_out h
  refine g0_callV (As := [.int a1, .int a2]) hC hml hS hW (KC_at hk hS F.2.2.2.2) KC_blind (metX10_journeyFault F hX k0 hcall) ml_X10_236 (gw_recv hC hW k0.1 (k0.2.2.1 (gfm s0) T B (μ a0)) rfl) ⟨rfl, rfl, (Nat.le_of_ble_eq_true rfl), (Nat.le_of_ble_eq_true rfl)⟩ rfl hl.1 rfl (Nat.le_of_ble_eq_true rfl) dX10_leastPassed_3 ⟨(Nat.le_of_ble_eq_true rfl), (Nat.le_of_ble_eq_true rfl)⟩ (fun H locs hW hS => ?_)
  rcases tb_out h with ⟨μ3, n5, hcall, h9⟩ | ⟨μ3, r4, hcall, h⟩
  · cases h9
    exact gx_callS (As := [.ref (gfa s0 r1)]) hC hml hS hW (KC_at hk hS F.2.2.2.2) KC_blind (metX10_stopIf F hX  hcall) ml_X10_72 ⟨rfl, rfl, (Nat.le_of_ble_eq_true rfl), (Nat.le_of_ble_eq_true rfl)⟩ rfl hl.1 rfl (Nat.le_of_ble_eq_true rfl) dX10_leastPassed_6 ⟨(Nat.le_of_ble_eq_true rfl), (Nat.le_of_ble_eq_true rfl)⟩ (fun v9 ho => by cases ho) (fun k9 ho H locs q9 ce9 hW hS hce hvm hcl => by cases ho; exact hthr _ rfl hW hS hce hvm hcl (Nat.le_of_ble_eq_true rfl) (Nat.le_of_ble_eq_true rfl))
  refine gx_callS (As := [.ref (gfa s0 r1)]) hC hml hS hW (KC_at hk hS F.2.2.2.2) KC_blind (metX10_stopIf F hX  hcall) ml_X10_72 ⟨rfl, rfl, (Nat.le_of_ble_eq_true rfl), (Nat.le_of_ble_eq_true rfl)⟩ rfl hl.1 rfl (Nat.le_of_ble_eq_true rfl) dX10_leastPassed_6 ⟨(Nat.le_of_ble_eq_true rfl), (Nat.le_of_ble_eq_true rfl)⟩ (fun v9 ho H locs hW hS => ?_) (fun k9 ho => by cases ho)
  cases ho
  refine W.widen (k := 1) (n := 6) (Nat.le_of_ble_eq_true rfl) (Nat.le_of_ble_eq_true rfl) ?_
  refine lv_aload_n hx hb dX10_leastPassed_9 rfl (lv_at hl 0 rfl) ?_
  refine gw_get (v := .ref (B + 520)) hC hW fl_X10_29 k0.1 (k0.2.2.1 (gfm s0) T B (μ3 a0)) rfl dX10_leastPassed_10 ?_
  refine lv_aload_n hx hb dX10_leastPassed_13 rfl (lv_at hl 0 rfl) ?_
  refine gw_get (v := .ref (B + 1)) hC hW fl_X10_12 k0.1 (k0.2.2.1 (gfm s0) T B (μ3 a0)) rfl dX10_leastPassed_14 ?_
  refine lv_aload_n hx hb dX10_leastPassed_17 rfl (lv_at hl 0 rfl) ?_
  refine gw_get (v := .ref (B + 1)) hC hW fl_X10_12 k0.1 (k0.2.2.1 (gfm s0) T B (μ3 a0)) rfl dX10_leastPassed_18 ?_
  refine gw_get (v := .ref (B + (1 + 16))) hC hW fl_X10_167 k0.2.2.2.1.1 (k0.2.2.2.1.2.1 (gfm s0) T B (μ3 1)) rfl dX10_leastPassed_21 ?_
  refine lv_iload_n hx hb dX10_leastPassed_24 rfl (lv_at hl 1 rfl) ?_
  obtain ⟨q6, e7, hq8, hi9, h⟩ := ar_o h
  refine gq_aald hC hW k0.2.2.2.1.2.2.2.2.2.1 (k0.2.2.2.1.2.2.2.2.2.2.1 (gfm s0) T B (μ3 (1 + 16))) (t0 := 5) rfl rfl e7 hi9 dX10_leastPassed_25 ?_
  refine lv_iload_n hx hb dX10_leastPassed_26 rfl (lv_at hl 2 rfl) ?_
  obtain ⟨r10, hcall, h⟩ := bd_out h
  refine g0_callV (As := [.ref (B + 1), .ref (B + ((1 + 16) + 1 + 6 * q6)), .int a2]) hC hml hS hW (KC_at hk hS F.2.2.2.2) KC_blind (metX9_passedBySettling F hX k0.2.2.2.2.2.2.1 k0.2.2.2.1 (k0.2.2.2.1.2.2.2.2.2.2.2 q6 hq8) hcall) ml_X10_247 (gw_recv hC hW k0.2.2.2.2.2.2.1.1 (k0.2.2.2.2.2.2.1.2.1 (gfm s0) T B (μ3 520)) rfl) ⟨rfl, rfl, (Nat.le_of_ble_eq_true rfl), (Nat.le_of_ble_eq_true rfl)⟩ rfl hl.1 rfl (Nat.le_of_ble_eq_true rfl) dX10_leastPassed_27 ⟨(Nat.le_of_ble_eq_true rfl), (Nat.le_of_ble_eq_true rfl)⟩ (fun H locs hW hS => ?_)
  rcases tb_out h with ⟨μ12, n14, hcall, h9⟩ | ⟨μ12, r13, hcall, h⟩
  · cases h9
    exact gx_callS (As := [.int r10.2]) hC hml hS hW (KC_at hk hS F.2.2.2.2) KC_blind (metX10_presentOnly F hX  hcall) ml_X10_122 ⟨rfl, rfl, (Nat.le_of_ble_eq_true rfl), (Nat.le_of_ble_eq_true rfl)⟩ rfl hl.1 rfl (Nat.le_of_ble_eq_true rfl) dX10_leastPassed_30 ⟨(Nat.le_of_ble_eq_true rfl), (Nat.le_of_ble_eq_true rfl)⟩ (fun v9 ho => by cases ho) (fun k9 ho H locs q9 ce9 hW hS hce hvm hcl => by cases ho; exact hthr _ rfl hW hS hce hvm hcl (Nat.le_of_ble_eq_true rfl) (Nat.le_of_ble_eq_true rfl))
  refine gx_callS (As := [.int r10.2]) hC hml hS hW (KC_at hk hS F.2.2.2.2) KC_blind (metX10_presentOnly F hX  hcall) ml_X10_122 ⟨rfl, rfl, (Nat.le_of_ble_eq_true rfl), (Nat.le_of_ble_eq_true rfl)⟩ rfl hl.1 rfl (Nat.le_of_ble_eq_true rfl) dX10_leastPassed_30 ⟨(Nat.le_of_ble_eq_true rfl), (Nat.le_of_ble_eq_true rfl)⟩ (fun v9 ho H locs hW hS => ?_) (fun k9 ho => by cases ho)
  cases ho
  refine W.widen (k := 2) (n := 12) (Nat.le_of_ble_eq_true rfl) (Nat.le_of_ble_eq_true rfl) ?_
  cases h
  exact hend _ rfl dX10_leastPassed_33 hW hS (Nat.le_of_ble_eq_true rfl) (Nat.le_of_ble_eq_true rfl)

theorem dX10_leastPassedByRounds_0 : decode cX10_leastPassedByRounds 0 = .ok (.aload_n 0, 1) := by decide +kernel
theorem dX10_leastPassedByRounds_1 : decode cX10_leastPassedByRounds 1 = .ok (.iload_n 1, 1) := by decide +kernel
theorem dX10_leastPassedByRounds_2 : decode cX10_leastPassedByRounds 2 = .ok (.iload_n 2, 1) := by decide +kernel
theorem dX10_leastPassedByRounds_3 : decode cX10_leastPassedByRounds 3 = .ok (.invokevirtual 236, 3) := by decide +kernel
theorem dX10_leastPassedByRounds_6 : decode cX10_leastPassedByRounds 6 = .ok (.invokestatic 72, 3) := by decide +kernel
theorem dX10_leastPassedByRounds_9 : decode cX10_leastPassedByRounds 9 = .ok (.aload_n 0, 1) := by decide +kernel
theorem dX10_leastPassedByRounds_10 : decode cX10_leastPassedByRounds 10 = .ok (.getfield 29, 3) := by decide +kernel
theorem dX10_leastPassedByRounds_13 : decode cX10_leastPassedByRounds 13 = .ok (.aload_n 0, 1) := by decide +kernel
theorem dX10_leastPassedByRounds_14 : decode cX10_leastPassedByRounds 14 = .ok (.getfield 12, 3) := by decide +kernel
theorem dX10_leastPassedByRounds_17 : decode cX10_leastPassedByRounds 17 = .ok (.aload_n 0, 1) := by decide +kernel
theorem dX10_leastPassedByRounds_18 : decode cX10_leastPassedByRounds 18 = .ok (.getfield 12, 3) := by decide +kernel
theorem dX10_leastPassedByRounds_21 : decode cX10_leastPassedByRounds 21 = .ok (.getfield 167, 3) := by decide +kernel
theorem dX10_leastPassedByRounds_24 : decode cX10_leastPassedByRounds 24 = .ok (.iload_n 1, 1) := by decide +kernel
theorem dX10_leastPassedByRounds_25 : decode cX10_leastPassedByRounds 25 = .ok (.aaload, 1) := by decide +kernel
theorem dX10_leastPassedByRounds_26 : decode cX10_leastPassedByRounds 26 = .ok (.iload_n 2, 1) := by decide +kernel
theorem dX10_leastPassedByRounds_27 : decode cX10_leastPassedByRounds 27 = .ok (.invokevirtual 251, 3) := by decide +kernel
theorem dX10_leastPassedByRounds_30 : decode cX10_leastPassedByRounds 30 = .ok (.invokestatic 122, 3) := by decide +kernel
theorem dX10_leastPassedByRounds_33 : decode cX10_leastPassedByRounds 33 = .ok (.ireturn, 1) := by decide +kernel
abbrev rmX10_leastPassedByRounds : Room := { frames := 7, cells := 2, slots := 12, locals := 140 }
set_option maxHeartbeats 4000000 in
set_option maxRecDepth 100000 in
theorem metX10_leastPassedByRounds {l : Launch} {s0 : State} {b B : Nat} {D : va_G} {T : Nat → ClassId} (F : FX l s0 b D T B) {X : Nat → Prop} (hX : ∀ o, o < 560 → ¬ X (B + o)) {N : Nat} {μ : Mem} {a0 : Nat} {a1 : Int32} {a2 : Int32} {r : Mem × (Nat ⊕ Int32)} (k0 : IsGa a0) (h : fX10_leastPassedByRounds N μ a0 a1 a2 = some r) : gXMet l yX10_leastPassedByRounds cX10_leastPassedByRounds 3 (some .int) rmX10_leastPassedByRounds [.ref (B + a0), .int a1, .int a2] (gWC s0 D T B μ) (KC s0 X) (oI r.2) (gWC s0 D T B r.1) (gA B X) 2 12 := by
  refine gXI_of RX10 (by decide +kernel) rfl (Nat.le_of_ble_eq_true rfl) ?_
  intro p e s m args below meth c ls Q hx hb hlocks hml hown hts hW hk hl hS hE
  obtain ⟨hend, hthr, htb, hQ⟩ := hE
  have hC := FX_C F hk hx hb hown hts
  have hA := gA_all hX
  have hl : lv_has ls 3 [(0, .ref (B + a0)), (1, .int a1), (2, .int a2)] := hl
  unfold fX10_leastPassedByRounds at h
  refine lv_aload_n hx hb dX10_leastPassedByRounds_0 rfl (lv_at hl 0 rfl) ?_
  refine lv_iload_n hx hb dX10_leastPassedByRounds_1 rfl (lv_at hl 1 rfl) ?_
  refine lv_iload_n hx hb dX10_leastPassedByRounds_2 rfl (lv_at hl 2 rfl) ?_
  obtain ⟨r1, hcall, h⟩ := bd_out h
  refine g0_callV (As := [.int a1, .int a2]) hC hml hS hW (KC_at hk hS F.2.2.2.2) KC_blind (metX10_journeyFault F hX k0 hcall) ml_X10_236 (gw_recv hC hW k0.1 (k0.2.2.1 (gfm s0) T B (μ a0)) rfl) ⟨rfl, rfl, (Nat.le_of_ble_eq_true rfl), (Nat.le_of_ble_eq_true rfl)⟩ rfl hl.1 rfl (Nat.le_of_ble_eq_true rfl) dX10_leastPassedByRounds_3 ⟨(Nat.le_of_ble_eq_true rfl), (Nat.le_of_ble_eq_true rfl)⟩ (fun H locs hW hS => ?_)
  rcases tb_out h with ⟨μ3, n5, hcall, h9⟩ | ⟨μ3, r4, hcall, h⟩
  · cases h9
    exact gx_callS (As := [.ref (gfa s0 r1)]) hC hml hS hW (KC_at hk hS F.2.2.2.2) KC_blind (metX10_stopIf F hX  hcall) ml_X10_72 ⟨rfl, rfl, (Nat.le_of_ble_eq_true rfl), (Nat.le_of_ble_eq_true rfl)⟩ rfl hl.1 rfl (Nat.le_of_ble_eq_true rfl) dX10_leastPassedByRounds_6 ⟨(Nat.le_of_ble_eq_true rfl), (Nat.le_of_ble_eq_true rfl)⟩ (fun v9 ho => by cases ho) (fun k9 ho H locs q9 ce9 hW hS hce hvm hcl => by cases ho; exact hthr _ rfl hW hS hce hvm hcl (Nat.le_of_ble_eq_true rfl) (Nat.le_of_ble_eq_true rfl))
  refine gx_callS (As := [.ref (gfa s0 r1)]) hC hml hS hW (KC_at hk hS F.2.2.2.2) KC_blind (metX10_stopIf F hX  hcall) ml_X10_72 ⟨rfl, rfl, (Nat.le_of_ble_eq_true rfl), (Nat.le_of_ble_eq_true rfl)⟩ rfl hl.1 rfl (Nat.le_of_ble_eq_true rfl) dX10_leastPassedByRounds_6 ⟨(Nat.le_of_ble_eq_true rfl), (Nat.le_of_ble_eq_true rfl)⟩ (fun v9 ho H locs hW hS => ?_) (fun k9 ho => by cases ho)
  cases ho
  refine W.widen (k := 1) (n := 6) (Nat.le_of_ble_eq_true rfl) (Nat.le_of_ble_eq_true rfl) ?_
  refine lv_aload_n hx hb dX10_leastPassedByRounds_9 rfl (lv_at hl 0 rfl) ?_
  refine gw_get (v := .ref (B + 520)) hC hW fl_X10_29 k0.1 (k0.2.2.1 (gfm s0) T B (μ3 a0)) rfl dX10_leastPassedByRounds_10 ?_
  refine lv_aload_n hx hb dX10_leastPassedByRounds_13 rfl (lv_at hl 0 rfl) ?_
  refine gw_get (v := .ref (B + 1)) hC hW fl_X10_12 k0.1 (k0.2.2.1 (gfm s0) T B (μ3 a0)) rfl dX10_leastPassedByRounds_14 ?_
  refine lv_aload_n hx hb dX10_leastPassedByRounds_17 rfl (lv_at hl 0 rfl) ?_
  refine gw_get (v := .ref (B + 1)) hC hW fl_X10_12 k0.1 (k0.2.2.1 (gfm s0) T B (μ3 a0)) rfl dX10_leastPassedByRounds_18 ?_
  refine gw_get (v := .ref (B + (1 + 16))) hC hW fl_X10_167 k0.2.2.2.1.1 (k0.2.2.2.1.2.1 (gfm s0) T B (μ3 1)) rfl dX10_leastPassedByRounds_21 ?_
  refine lv_iload_n hx hb dX10_leastPassedByRounds_24 rfl (lv_at hl 1 rfl) ?_
  obtain ⟨q6, e7, hq8, hi9, h⟩ := ar_o h
  refine gq_aald hC hW k0.2.2.2.1.2.2.2.2.2.1 (k0.2.2.2.1.2.2.2.2.2.2.1 (gfm s0) T B (μ3 (1 + 16))) (t0 := 5) rfl rfl e7 hi9 dX10_leastPassedByRounds_25 ?_
  refine lv_iload_n hx hb dX10_leastPassedByRounds_26 rfl (lv_at hl 2 rfl) ?_
  obtain ⟨r10, hcall, h⟩ := bd_out h
  refine g0_callV (As := [.ref (B + 1), .ref (B + ((1 + 16) + 1 + 6 * q6)), .int a2]) hC hml hS hW (KC_at hk hS F.2.2.2.2) KC_blind (metX9_passedByRounds F hX k0.2.2.2.2.2.2.1 k0.2.2.2.1 (k0.2.2.2.1.2.2.2.2.2.2.2 q6 hq8) hcall) ml_X10_251 (gw_recv hC hW k0.2.2.2.2.2.2.1.1 (k0.2.2.2.2.2.2.1.2.1 (gfm s0) T B (μ3 520)) rfl) ⟨rfl, rfl, (Nat.le_of_ble_eq_true rfl), (Nat.le_of_ble_eq_true rfl)⟩ rfl hl.1 rfl (Nat.le_of_ble_eq_true rfl) dX10_leastPassedByRounds_27 ⟨(Nat.le_of_ble_eq_true rfl), (Nat.le_of_ble_eq_true rfl)⟩ (fun H locs hW hS => ?_)
  rcases tb_out h with ⟨μ12, n14, hcall, h9⟩ | ⟨μ12, r13, hcall, h⟩
  · cases h9
    exact gx_callS (As := [.int r10.2]) hC hml hS hW (KC_at hk hS F.2.2.2.2) KC_blind (metX10_presentOnly F hX  hcall) ml_X10_122 ⟨rfl, rfl, (Nat.le_of_ble_eq_true rfl), (Nat.le_of_ble_eq_true rfl)⟩ rfl hl.1 rfl (Nat.le_of_ble_eq_true rfl) dX10_leastPassedByRounds_30 ⟨(Nat.le_of_ble_eq_true rfl), (Nat.le_of_ble_eq_true rfl)⟩ (fun v9 ho => by cases ho) (fun k9 ho H locs q9 ce9 hW hS hce hvm hcl => by cases ho; exact hthr _ rfl hW hS hce hvm hcl (Nat.le_of_ble_eq_true rfl) (Nat.le_of_ble_eq_true rfl))
  refine gx_callS (As := [.int r10.2]) hC hml hS hW (KC_at hk hS F.2.2.2.2) KC_blind (metX10_presentOnly F hX  hcall) ml_X10_122 ⟨rfl, rfl, (Nat.le_of_ble_eq_true rfl), (Nat.le_of_ble_eq_true rfl)⟩ rfl hl.1 rfl (Nat.le_of_ble_eq_true rfl) dX10_leastPassedByRounds_30 ⟨(Nat.le_of_ble_eq_true rfl), (Nat.le_of_ble_eq_true rfl)⟩ (fun v9 ho H locs hW hS => ?_) (fun k9 ho => by cases ho)
  cases ho
  refine W.widen (k := 2) (n := 12) (Nat.le_of_ble_eq_true rfl) (Nat.le_of_ble_eq_true rfl) ?_
  cases h
  exact hend _ rfl dX10_leastPassedByRounds_33 hW hS (Nat.le_of_ble_eq_true rfl) (Nat.le_of_ble_eq_true rfl)

theorem dX10_daysFault_0 : decode cX10_daysFault 0 = .ok (.iconst 1, 1) := by decide +kernel
theorem dX10_daysFault_1 : decode cX10_daysFault 1 = .ok (.iload_n 0, 1) := by decide +kernel
theorem dX10_daysFault_2 : decode cX10_daysFault 2 = .ok (.bipush 99, 2) := by decide +kernel
theorem dX10_daysFault_4 : decode cX10_daysFault 4 = .ok (.invokestatic 447, 3) := by decide +kernel
theorem dX10_daysFault_7 : decode cX10_daysFault 7 = .ok (.ifCond .eq 9, 3) := by decide +kernel
theorem dX10_daysFault_10 : decode cX10_daysFault 10 = .ok (.getstatic 451, 3) := by decide +kernel
theorem dX10_daysFault_13 : decode cX10_daysFault 13 = .ok (.goto 6, 3) := by decide +kernel
theorem dX10_daysFault_16 : decode cX10_daysFault 16 = .ok (.getstatic 416, 3) := by decide +kernel
theorem dX10_daysFault_19 : decode cX10_daysFault 19 = .ok (.areturn, 1) := by decide +kernel
abbrev rmX10_daysFault : Room := { frames := 3, cells := 0, slots := 0, locals := 82 }
set_option maxHeartbeats 4000000 in
set_option maxRecDepth 100000 in
theorem metX10_daysFault {l : Launch} {s0 : State} {b B : Nat} {D : va_G} {T : Nat → ClassId} (F : FX l s0 b D T B) {X : Nat → Prop} (hX : ∀ o, o < 560 → ¬ X (B + o)) {N : Nat} {μ : Mem} {a0 : Int32} {r : Nat}  (h : fX10_daysFault N μ a0 = some r) : gMet l yX10_daysFault cX10_daysFault 1 (some (.object "AvalancheGallery$Fault")) rmX10_daysFault [.int a0] (gWC s0 D T B μ) (KC s0 X) (some (.ref (gfa s0 r))) (gWC s0 D T B μ) (gA B X) 0 0 := by
  refine gR_of RX10 (by decide +kernel) rfl (Nat.le_of_ble_eq_true rfl) ?_
  intro p e s m args below meth c ls Q hx hb hlocks hml hown hts hW hk hl hS hend
  have hC := FX_C F hk hx hb hown hts
  have hA := gA_all hX
  have hl : lv_has ls 1 [(0, .int a0)] := hl
  unfold fX10_daysFault at h
  refine lv_iconst (v := 1) hx hb dX10_daysFault_0 (by decide) ?_
  refine lv_iload_n hx hb dX10_daysFault_1 rfl (lv_at hl 0 rfl) ?_
  refine lv_bipush (v := 99) hx hb dX10_daysFault_2 (by decide) ?_
  obtain ⟨r1, hcall, h⟩ := bd_out h
  refine g0_callS (As := [.int 1, .int a0, .int 99]) hC hml hS hW (KC_at hk hS F.2.2.2.2) KC_blind (metX10_isFrom F hX  hcall) ml_X10_447 ⟨rfl, rfl, (Nat.le_of_ble_eq_true rfl), (Nat.le_of_ble_eq_true rfl)⟩ rfl hl.1 rfl (Nat.le_of_ble_eq_true rfl) dX10_daysFault_4 ⟨(Nat.le_of_ble_eq_true rfl), (Nat.le_of_ble_eq_true rfl)⟩ (fun H locs hW hS => ?_)
  obtain ⟨j3, hj5, h⟩ := jn1_o h
  have J4 : ∀ (y2 : Nat), j3 y2 = some r → ∀ (H : Heap) (locs : List Loc) (ls : Array Slot), gWC s0 D T B μ H → va_S (gA B X) s.heap H locs → lv_has ls 1 [] → W p l e rmX10_daysFault s m args below meth c H locs 0 0 Q (F0 m 19 ls [.ref (gfa s0 y2)]) := by
    clear h hW hS hl
    intro y2 h H locs ls hW hS hl
    replace h := (hj5 y2).symm.trans h
    cases h
    exact hend dX10_daysFault_19 hW hS (Nat.le_of_ble_eq_true rfl) (Nat.le_of_ble_eq_true rfl)
  refine gw_if_eqZ (tgt := 16) hx hb dX10_daysFault_7 (by decide) (fun c6 => ?_) (fun c6 => ?_)
  · replace h := cond_f c6 h
    refine gw_gets hC (zF_2 F hk) hS fs_X10_416 dX10_daysFault_16 ?_
    exact J4 _ h _ _ _ hW hS (lv_sub hl [] rfl)
  · replace h := cond_t c6 h
    refine gw_gets hC (zF_0 F hk) hS fs_X10_451 dX10_daysFault_10 ?_
    refine lv_goto (tgt := 19) hx hb dX10_daysFault_13 (by decide) ?_
    exact J4 _ h _ _ _ hW hS (lv_sub hl [] rfl)

theorem dX10_passDays_0 : decode cX10_passDays 0 = .ok (.iload_n 1, 1) := by decide +kernel
theorem dX10_passDays_1 : decode cX10_passDays 1 = .ok (.invokestatic 254, 3) := by decide +kernel
theorem dX10_passDays_4 : decode cX10_passDays 4 = .ok (.invokestatic 72, 3) := by decide +kernel
theorem dX10_passDays_7 : decode cX10_passDays 7 = .ok (.aload_n 0, 1) := by decide +kernel
theorem dX10_passDays_8 : decode cX10_passDays 8 = .ok (.invokevirtual 76, 3) := by decide +kernel
theorem dX10_passDays_11 : decode cX10_passDays 11 = .ok (.aload_n 0, 1) := by decide +kernel
theorem dX10_passDays_12 : decode cX10_passDays 12 = .ok (.getfield 12, 3) := by decide +kernel
theorem dX10_passDays_15 : decode cX10_passDays 15 = .ok (.iload_n 1, 1) := by decide +kernel
theorem dX10_passDays_16 : decode cX10_passDays 16 = .ok (.invokevirtual 257, 3) := by decide +kernel
theorem dX10_passDays_19 : decode cX10_passDays 19 = .ok (.ireturn, 1) := by decide +kernel
abbrev rmX10_passDays : Room := { frames := 7, cells := 1, slots := 6, locals := 152 }
set_option maxHeartbeats 4000000 in
set_option maxRecDepth 100000 in
theorem metX10_passDays {l : Launch} {s0 : State} {b B : Nat} {D : va_G} {T : Nat → ClassId} (F : FX l s0 b D T B) {X : Nat → Prop} (hX : ∀ o, o < 560 → ¬ X (B + o)) {N : Nat} {μ : Mem} {a0 : Nat} {a1 : Int32} {r : Mem × (Nat ⊕ Int32)} (k0 : IsGa a0) (h : fX10_passDays N μ a0 a1 = some r) : gXMet l yX10_passDays cX10_passDays 2 (some .int) rmX10_passDays [.ref (B + a0), .int a1] (gWC s0 D T B μ) (KC s0 X) (oI r.2) (gWC s0 D T B r.1) (gA B X) 1 6 := by
  refine gXI_of RX10 (by decide +kernel) rfl (Nat.le_of_ble_eq_true rfl) ?_
  intro p e s m args below meth c ls Q hx hb hlocks hml hown hts hW hk hl hS hE
  obtain ⟨hend, hthr, htb, hQ⟩ := hE
  have hC := FX_C F hk hx hb hown hts
  have hA := gA_all hX
  have hl : lv_has ls 2 [(0, .ref (B + a0)), (1, .int a1)] := hl
  unfold fX10_passDays at h
  refine lv_iload_n hx hb dX10_passDays_0 rfl (lv_at hl 1 rfl) ?_
  obtain ⟨r1, hcall, h⟩ := bd_out h
  refine g0_callS (As := [.int a1]) hC hml hS hW (KC_at hk hS F.2.2.2.2) KC_blind (metX10_daysFault F hX  hcall) ml_X10_254 ⟨rfl, rfl, (Nat.le_of_ble_eq_true rfl), (Nat.le_of_ble_eq_true rfl)⟩ rfl hl.1 rfl (Nat.le_of_ble_eq_true rfl) dX10_passDays_1 ⟨(Nat.le_of_ble_eq_true rfl), (Nat.le_of_ble_eq_true rfl)⟩ (fun H locs hW hS => ?_)
  rcases tb_out h with ⟨μ3, n5, hcall, h9⟩ | ⟨μ3, r4, hcall, h⟩
  · cases h9
    exact gx_callS (As := [.ref (gfa s0 r1)]) hC hml hS hW (KC_at hk hS F.2.2.2.2) KC_blind (metX10_stopIf F hX  hcall) ml_X10_72 ⟨rfl, rfl, (Nat.le_of_ble_eq_true rfl), (Nat.le_of_ble_eq_true rfl)⟩ rfl hl.1 rfl (Nat.le_of_ble_eq_true rfl) dX10_passDays_4 ⟨(Nat.le_of_ble_eq_true rfl), (Nat.le_of_ble_eq_true rfl)⟩ (fun v9 ho => by cases ho) (fun k9 ho H locs q9 ce9 hW hS hce hvm hcl => by cases ho; exact hthr _ rfl hW hS hce hvm hcl (Nat.le_of_ble_eq_true rfl) (Nat.le_of_ble_eq_true rfl))
  refine gx_callS (As := [.ref (gfa s0 r1)]) hC hml hS hW (KC_at hk hS F.2.2.2.2) KC_blind (metX10_stopIf F hX  hcall) ml_X10_72 ⟨rfl, rfl, (Nat.le_of_ble_eq_true rfl), (Nat.le_of_ble_eq_true rfl)⟩ rfl hl.1 rfl (Nat.le_of_ble_eq_true rfl) dX10_passDays_4 ⟨(Nat.le_of_ble_eq_true rfl), (Nat.le_of_ble_eq_true rfl)⟩ (fun v9 ho H locs hW hS => ?_) (fun k9 ho => by cases ho)
  cases ho
  refine W.widen (k := 1) (n := 6) (Nat.le_of_ble_eq_true rfl) (Nat.le_of_ble_eq_true rfl) ?_
  refine lv_aload_n hx hb dX10_passDays_7 rfl (lv_at hl 0 rfl) ?_
  obtain ⟨r6, hcall, h⟩ := bd_out h
  refine g0_callV (As := []) hC hml hS hW (KC_at hk hS F.2.2.2.2) KC_blind (metX10_remember F hX k0 hcall) ml_X10_76 (gw_recv hC hW k0.1 (k0.2.2.1 (gfm s0) T B (μ3 a0)) rfl) ⟨rfl, rfl, (Nat.le_of_ble_eq_true rfl), (Nat.le_of_ble_eq_true rfl)⟩ rfl hl.1 rfl (Nat.le_of_ble_eq_true rfl) dX10_passDays_8 ⟨(Nat.le_of_ble_eq_true rfl), (Nat.le_of_ble_eq_true rfl)⟩ (fun H locs hW hS => ?_)
  refine lv_aload_n hx hb dX10_passDays_11 rfl (lv_at hl 0 rfl) ?_
  refine gw_get (v := .ref (B + 1)) hC hW fl_X10_12 k0.1 (k0.2.2.1 (gfm s0) T B (r6 a0)) rfl dX10_passDays_12 ?_
  refine lv_iload_n hx hb dX10_passDays_15 rfl (lv_at hl 1 rfl) ?_
  obtain ⟨r7, hcall, h⟩ := bd_out h
  refine g0_callV (As := [.int a1]) hC hml hS hW (KC_at hk hS F.2.2.2.2) KC_blind (metX8_letDaysPass F hX k0.2.2.2.1 hcall) ml_X10_257 (gw_recv hC hW k0.2.2.2.1.1 (k0.2.2.2.1.2.1 (gfm s0) T B (r6 1)) rfl) ⟨rfl, rfl, (Nat.le_of_ble_eq_true rfl), (Nat.le_of_ble_eq_true rfl)⟩ rfl hl.1 rfl (Nat.le_of_ble_eq_true rfl) dX10_passDays_16 ⟨(Nat.le_of_ble_eq_true rfl), (Nat.le_of_ble_eq_true rfl)⟩ (fun H locs hW hS => ?_)
  cases h
  exact hend _ rfl dX10_passDays_19 hW hS (Nat.le_of_ble_eq_true rfl) (Nat.le_of_ble_eq_true rfl)

theorem dX10_day_0 : decode cX10_day 0 = .ok (.aload_n 0, 1) := by decide +kernel
theorem dX10_day_1 : decode cX10_day 1 = .ok (.getfield 12, 3) := by decide +kernel
theorem dX10_day_4 : decode cX10_day 4 = .ok (.getfield 260, 3) := by decide +kernel
theorem dX10_day_7 : decode cX10_day 7 = .ok (.ireturn, 1) := by decide +kernel
abbrev rmX10_day : Room := { frames := 2, cells := 0, slots := 0, locals := 60 }
set_option maxHeartbeats 4000000 in
set_option maxRecDepth 100000 in
theorem metX10_day {l : Launch} {s0 : State} {b B : Nat} {D : va_G} {T : Nat → ClassId} (F : FX l s0 b D T B) {X : Nat → Prop} (hX : ∀ o, o < 560 → ¬ X (B + o)) {N : Nat} {μ : Mem} {a0 : Nat} {r : Int32} (k0 : IsGa a0) (h : fX10_day N μ a0 = some r) : gMet l yX10_day cX10_day 1 (some .int) rmX10_day [.ref (B + a0)] (gWC s0 D T B μ) (KC s0 X) (some (.int r)) (gWC s0 D T B μ) (gA B X) 0 0 := by
  refine gI_of RX10 (by decide +kernel) rfl (Nat.le_of_ble_eq_true rfl) ?_
  intro p e s m args below meth c ls Q hx hb hlocks hml hown hts hW hk hl hS hend
  have hC := FX_C F hk hx hb hown hts
  have hA := gA_all hX
  have hl : lv_has ls 1 [(0, .ref (B + a0))] := hl
  unfold fX10_day at h
  refine lv_aload_n hx hb dX10_day_0 rfl (lv_at hl 0 rfl) ?_
  refine gw_get (v := .ref (B + 1)) hC hW fl_X10_12 k0.1 (k0.2.2.1 (gfm s0) T B (μ a0)) rfl dX10_day_1 ?_
  refine gw_get (v := .int (μ 1 6)) hC hW fl_X10_260.1 k0.2.2.2.1.1 (k0.2.2.2.1.2.1 (gfm s0) T B (μ 1)) rfl dX10_day_4 ?_
  cases h
  exact hend dX10_day_7 hW hS (Nat.le_of_ble_eq_true rfl) (Nat.le_of_ble_eq_true rfl)

theorem dX10_askFault_0 : decode cX10_askFault 0 = .ok (.aload_n 0, 1) := by decide +kernel
theorem dX10_askFault_1 : decode cX10_askFault 1 = .ok (.getfield 12, 3) := by decide +kernel
theorem dX10_askFault_4 : decode cX10_askFault 4 = .ok (.iload_n 1, 1) := by decide +kernel
theorem dX10_askFault_5 : decode cX10_askFault 5 = .ok (.invokevirtual 438, 3) := by decide +kernel
theorem dX10_askFault_8 : decode cX10_askFault 8 = .ok (.ifCond .ne 7, 3) := by decide +kernel
theorem dX10_askFault_11 : decode cX10_askFault 11 = .ok (.getstatic 408, 3) := by decide +kernel
theorem dX10_askFault_14 : decode cX10_askFault 14 = .ok (.areturn, 1) := by decide +kernel
theorem dX10_askFault_15 : decode cX10_askFault 15 = .ok (.iconst 0, 1) := by decide +kernel
theorem dX10_askFault_16 : decode cX10_askFault 16 = .ok (.iload_n 3, 1) := by decide +kernel
theorem dX10_askFault_17 : decode cX10_askFault 17 = .ok (.bipush 99, 2) := by decide +kernel
theorem dX10_askFault_19 : decode cX10_askFault 19 = .ok (.invokestatic 447, 3) := by decide +kernel
theorem dX10_askFault_22 : decode cX10_askFault 22 = .ok (.ifCond .eq 23, 3) := by decide +kernel
theorem dX10_askFault_25 : decode cX10_askFault 25 = .ok (.iconst 0, 1) := by decide +kernel
theorem dX10_askFault_26 : decode cX10_askFault 26 = .ok (.iload_n 2, 1) := by decide +kernel
theorem dX10_askFault_27 : decode cX10_askFault 27 = .ok (.iload_n 3, 1) := by decide +kernel
theorem dX10_askFault_28 : decode cX10_askFault 28 = .ok (.invokestatic 447, 3) := by decide +kernel
theorem dX10_askFault_31 : decode cX10_askFault 31 = .ok (.ifCond .eq 14, 3) := by decide +kernel
theorem dX10_askFault_34 : decode cX10_askFault 34 = .ok (.iconst 1, 1) := by decide +kernel
theorem dX10_askFault_35 : decode cX10_askFault 35 = .ok (.iload 4, 2) := by decide +kernel
theorem dX10_askFault_37 : decode cX10_askFault 37 = .ok (.bipush 99, 2) := by decide +kernel
theorem dX10_askFault_39 : decode cX10_askFault 39 = .ok (.invokestatic 447, 3) := by decide +kernel
theorem dX10_askFault_42 : decode cX10_askFault 42 = .ok (.ifCond .ne 7, 3) := by decide +kernel
theorem dX10_askFault_45 : decode cX10_askFault 45 = .ok (.getstatic 416, 3) := by decide +kernel
theorem dX10_askFault_48 : decode cX10_askFault 48 = .ok (.areturn, 1) := by decide +kernel
theorem dX10_askFault_49 : decode cX10_askFault 49 = .ok (.aload_n 0, 1) := by decide +kernel
theorem dX10_askFault_50 : decode cX10_askFault 50 = .ok (.getfield 12, 3) := by decide +kernel
theorem dX10_askFault_53 : decode cX10_askFault 53 = .ok (.getfield 167, 3) := by decide +kernel
theorem dX10_askFault_56 : decode cX10_askFault 56 = .ok (.iload_n 1, 1) := by decide +kernel
theorem dX10_askFault_57 : decode cX10_askFault 57 = .ok (.aaload, 1) := by decide +kernel
theorem dX10_askFault_58 : decode cX10_askFault 58 = .ok (.getfield 276, 3) := by decide +kernel
theorem dX10_askFault_61 : decode cX10_askFault 61 = .ok (.bipush 8, 2) := by decide +kernel
theorem dX10_askFault_63 : decode cX10_askFault 63 = .ok (.if_icmp .lt 9, 3) := by decide +kernel
theorem dX10_askFault_66 : decode cX10_askFault 66 = .ok (.getstatic 421, 3) := by decide +kernel
theorem dX10_askFault_69 : decode cX10_askFault 69 = .ok (.goto 6, 3) := by decide +kernel
theorem dX10_askFault_72 : decode cX10_askFault 72 = .ok (.getstatic 451, 3) := by decide +kernel
theorem dX10_askFault_75 : decode cX10_askFault 75 = .ok (.areturn, 1) := by decide +kernel
abbrev rmX10_askFault : Room := { frames := 3, cells := 0, slots := 0, locals := 82 }
set_option maxHeartbeats 4000000 in
set_option maxRecDepth 100000 in
theorem metX10_askFault {l : Launch} {s0 : State} {b B : Nat} {D : va_G} {T : Nat → ClassId} (F : FX l s0 b D T B) {X : Nat → Prop} (hX : ∀ o, o < 560 → ¬ X (B + o)) {N : Nat} {μ : Mem} {a0 : Nat} {a1 : Int32} {a2 : Int32} {a3 : Int32} {a4 : Int32} {r : Nat} (k0 : IsGa a0) (h : fX10_askFault N μ a0 a1 a2 a3 a4 = some r) : gMet l yX10_askFault cX10_askFault 5 (some (.object "AvalancheGallery$Fault")) rmX10_askFault [.ref (B + a0), .int a1, .int a2, .int a3, .int a4] (gWC s0 D T B μ) (KC s0 X) (some (.ref (gfa s0 r))) (gWC s0 D T B μ) (gA B X) 0 0 := by
  refine gR_of RX10 (by decide +kernel) rfl (Nat.le_of_ble_eq_true rfl) ?_
  intro p e s m args below meth c ls Q hx hb hlocks hml hown hts hW hk hl hS hend
  have hC := FX_C F hk hx hb hown hts
  have hA := gA_all hX
  have hl : lv_has ls 5 [(0, .ref (B + a0)), (1, .int a1), (2, .int a2), (3, .int a3), (4, .int a4)] := hl
  unfold fX10_askFault at h
  refine lv_aload_n hx hb dX10_askFault_0 rfl (lv_at hl 0 rfl) ?_
  refine gw_get (v := .ref (B + 1)) hC hW fl_X10_12 k0.1 (k0.2.2.1 (gfm s0) T B (μ a0)) rfl dX10_askFault_1 ?_
  refine lv_iload_n hx hb dX10_askFault_4 rfl (lv_at hl 1 rfl) ?_
  obtain ⟨r1, hcall, h⟩ := bd_out h
  refine g0_callV (As := [.int a1]) hC hml hS hW (KC_at hk hS F.2.2.2.2) KC_blind (metX8_hasExhibit F hX k0.2.2.2.1 hcall) ml_X10_438 (gw_recv hC hW k0.2.2.2.1.1 (k0.2.2.2.1.2.1 (gfm s0) T B (μ 1)) rfl) ⟨rfl, rfl, (Nat.le_of_ble_eq_true rfl), (Nat.le_of_ble_eq_true rfl)⟩ rfl hl.1 rfl (Nat.le_of_ble_eq_true rfl) dX10_askFault_5 ⟨(Nat.le_of_ble_eq_true rfl), (Nat.le_of_ble_eq_true rfl)⟩ (fun H locs hW hS => ?_)
  refine gw_if_neZ (tgt := 15) hx hb dX10_askFault_8 (by decide) (fun c2 => ?_) (fun c2 => ?_)
  · replace h := cond_t c2 h
    refine lv_iconst (v := 0) hx hb dX10_askFault_15 (by decide) ?_
    refine lv_iload_n hx hb dX10_askFault_16 rfl (lv_at hl 3 rfl) ?_
    refine lv_bipush (v := 99) hx hb dX10_askFault_17 (by decide) ?_
    obtain ⟨r3, hcall, h⟩ := bd_out h
    refine g0_callS (As := [.int 0, .int a3, .int 99]) hC hml hS hW (KC_at hk hS F.2.2.2.2) KC_blind (metX10_isFrom F hX  hcall) ml_X10_447 ⟨rfl, rfl, (Nat.le_of_ble_eq_true rfl), (Nat.le_of_ble_eq_true rfl)⟩ rfl hl.1 rfl (Nat.le_of_ble_eq_true rfl) dX10_askFault_19 ⟨(Nat.le_of_ble_eq_true rfl), (Nat.le_of_ble_eq_true rfl)⟩ (fun H locs hW hS => ?_)
    obtain ⟨j5, hj7, h⟩ := jn1_o h
    have J6 : ∀ (u4 : Unit), j5 u4 = some r → ∀ (H : Heap) (locs : List Loc) (ls : Array Slot), gWC s0 D T B μ H → va_S (gA B X) s.heap H locs → lv_has ls 5 [] → W p l e rmX10_askFault s m args below meth c H locs 0 0 Q (F0 m 45 ls []) := by
      clear h hW hS hl
      intro u4 h H locs ls hW hS hl
      replace h := (hj7 u4).symm.trans h
      refine gw_gets hC (zF_2 F hk) hS fs_X10_416 dX10_askFault_45 ?_
      cases h
      exact hend dX10_askFault_48 hW hS (Nat.le_of_ble_eq_true rfl) (Nat.le_of_ble_eq_true rfl)
    refine gw_if_eqZ (tgt := 45) hx hb dX10_askFault_22 (by decide) (fun c8 => ?_) (fun c8 => ?_)
    · replace h := cond_f c8 h
      exact J6 _ h _ _ _ hW hS (lv_sub hl [] rfl)
    · replace h := cond_t c8 h
      refine lv_iconst (v := 0) hx hb dX10_askFault_25 (by decide) ?_
      refine lv_iload_n hx hb dX10_askFault_26 rfl (lv_at hl 2 rfl) ?_
      refine lv_iload_n hx hb dX10_askFault_27 rfl (lv_at hl 3 rfl) ?_
      obtain ⟨r9, hcall, h⟩ := bd_out h
      refine g0_callS (As := [.int 0, .int a2, .int a3]) hC hml hS hW (KC_at hk hS F.2.2.2.2) KC_blind (metX10_isFrom F hX  hcall) ml_X10_447 ⟨rfl, rfl, (Nat.le_of_ble_eq_true rfl), (Nat.le_of_ble_eq_true rfl)⟩ rfl hl.1 rfl (Nat.le_of_ble_eq_true rfl) dX10_askFault_28 ⟨(Nat.le_of_ble_eq_true rfl), (Nat.le_of_ble_eq_true rfl)⟩ (fun H locs hW hS => ?_)
      refine gw_if_eqZ (tgt := 45) hx hb dX10_askFault_31 (by decide) (fun c10 => ?_) (fun c10 => ?_)
      · replace h := cond_f c10 h
        exact J6 _ h _ _ _ hW hS (lv_sub hl [] rfl)
      · replace h := cond_t c10 h
        refine lv_iconst (v := 1) hx hb dX10_askFault_34 (by decide) ?_
        refine lv_iload hx hb dX10_askFault_35 (lv_at hl 4 rfl) ?_
        refine lv_bipush (v := 99) hx hb dX10_askFault_37 (by decide) ?_
        obtain ⟨r11, hcall, h⟩ := bd_out h
        refine g0_callS (As := [.int 1, .int a4, .int 99]) hC hml hS hW (KC_at hk hS F.2.2.2.2) KC_blind (metX10_isFrom F hX  hcall) ml_X10_447 ⟨rfl, rfl, (Nat.le_of_ble_eq_true rfl), (Nat.le_of_ble_eq_true rfl)⟩ rfl hl.1 rfl (Nat.le_of_ble_eq_true rfl) dX10_askFault_39 ⟨(Nat.le_of_ble_eq_true rfl), (Nat.le_of_ble_eq_true rfl)⟩ (fun H locs hW hS => ?_)
        refine gw_if_neZ (tgt := 49) hx hb dX10_askFault_42 (by decide) (fun c12 => ?_) (fun c12 => ?_)
        · replace h := cond_t c12 h
          refine lv_aload_n hx hb dX10_askFault_49 rfl (lv_at hl 0 rfl) ?_
          refine gw_get (v := .ref (B + 1)) hC hW fl_X10_12 k0.1 (k0.2.2.1 (gfm s0) T B (μ a0)) rfl dX10_askFault_50 ?_
          refine gw_get (v := .ref (B + (1 + 16))) hC hW fl_X10_167 k0.2.2.2.1.1 (k0.2.2.2.1.2.1 (gfm s0) T B (μ 1)) rfl dX10_askFault_53 ?_
          refine lv_iload_n hx hb dX10_askFault_56 rfl (lv_at hl 1 rfl) ?_
          obtain ⟨q13, e14, hq15, hi16, h⟩ := ar_o h
          refine gq_aald hC hW k0.2.2.2.1.2.2.2.2.2.1 (k0.2.2.2.1.2.2.2.2.2.2.1 (gfm s0) T B (μ (1 + 16))) (t0 := 5) rfl rfl e14 hi16 dX10_askFault_57 ?_
          refine gw_get (v := .int (μ ((1 + 16) + 1 + 6 * q13) 6)) hC hW fl_X10_276.1 (k0.2.2.2.1.2.2.2.2.2.2.2 q13 hq15).1 ((k0.2.2.2.1.2.2.2.2.2.2.2 q13 hq15).2.1 (gfm s0) T B (μ ((1 + 16) + 1 + 6 * q13))) rfl dX10_askFault_58 ?_
          refine lv_bipush (v := 8) hx hb dX10_askFault_61 (by decide) ?_
          obtain ⟨j18, hj20, h⟩ := jn1_o h
          have J19 : ∀ (y17 : Nat), j18 y17 = some r → ∀ (H : Heap) (locs : List Loc) (ls : Array Slot), gWC s0 D T B μ H → va_S (gA B X) s.heap H locs → lv_has ls 5 [] → W p l e rmX10_askFault s m args below meth c H locs 0 0 Q (F0 m 75 ls [.ref (gfa s0 y17)]) := by
            clear h hW hS hl
            intro y17 h H locs ls hW hS hl
            replace h := (hj20 y17).symm.trans h
            cases h
            exact hend dX10_askFault_75 hW hS (Nat.le_of_ble_eq_true rfl) (Nat.le_of_ble_eq_true rfl)
          refine lv_icmp_lt (tgt := 72) hx hb dX10_askFault_63 (by decide) (fun c21 => ?_) (fun c21 => ?_)
          · replace h := ite_t c21 h
            refine gw_gets hC (zF_0 F hk) hS fs_X10_451 dX10_askFault_72 ?_
            exact J19 _ h _ _ _ hW hS (lv_sub hl [] rfl)
          · replace h := ite_f c21 h
            refine gw_gets hC (zF_3 F hk) hS fs_X10_421 dX10_askFault_66 ?_
            refine lv_goto (tgt := 75) hx hb dX10_askFault_69 (by decide) ?_
            exact J19 _ h _ _ _ hW hS (lv_sub hl [] rfl)
        · replace h := cond_f c12 h
          exact J6 _ h _ _ _ hW hS (lv_sub hl [] rfl)
  · replace h := cond_f c2 h
    refine gw_gets hC (zF_1 F hk) hS fs_X10_408 dX10_askFault_11 ?_
    cases h
    exact hend dX10_askFault_14 hW hS (Nat.le_of_ble_eq_true rfl) (Nat.le_of_ble_eq_true rfl)

theorem dX10_ask_0 : decode cX10_ask 0 = .ok (.aload_n 0, 1) := by decide +kernel
theorem dX10_ask_1 : decode cX10_ask 1 = .ok (.iload_n 1, 1) := by decide +kernel
theorem dX10_ask_2 : decode cX10_ask 2 = .ok (.iload_n 2, 1) := by decide +kernel
theorem dX10_ask_3 : decode cX10_ask 3 = .ok (.iload_n 3, 1) := by decide +kernel
theorem dX10_ask_4 : decode cX10_ask 4 = .ok (.iload 4, 2) := by decide +kernel
theorem dX10_ask_6 : decode cX10_ask 6 = .ok (.invokevirtual 263, 3) := by decide +kernel
theorem dX10_ask_9 : decode cX10_ask 9 = .ok (.invokestatic 72, 3) := by decide +kernel
theorem dX10_ask_12 : decode cX10_ask 12 = .ok (.aload_n 0, 1) := by decide +kernel
theorem dX10_ask_13 : decode cX10_ask 13 = .ok (.invokevirtual 76, 3) := by decide +kernel
theorem dX10_ask_16 : decode cX10_ask 16 = .ok (.aload_n 0, 1) := by decide +kernel
theorem dX10_ask_17 : decode cX10_ask 17 = .ok (.getfield 12, 3) := by decide +kernel
theorem dX10_ask_20 : decode cX10_ask 20 = .ok (.getfield 167, 3) := by decide +kernel
theorem dX10_ask_23 : decode cX10_ask 23 = .ok (.iload_n 1, 1) := by decide +kernel
theorem dX10_ask_24 : decode cX10_ask 24 = .ok (.aaload, 1) := by decide +kernel
theorem dX10_ask_25 : decode cX10_ask 25 = .ok (.iload_n 2, 1) := by decide +kernel
theorem dX10_ask_26 : decode cX10_ask 26 = .ok (.iload_n 3, 1) := by decide +kernel
theorem dX10_ask_27 : decode cX10_ask 27 = .ok (.iload 4, 2) := by decide +kernel
theorem dX10_ask_29 : decode cX10_ask 29 = .ok (.invokevirtual 266, 3) := by decide +kernel
theorem dX10_ask_32 : decode cX10_ask 32 = .ok (.ireturn, 1) := by decide +kernel
abbrev rmX10_ask : Room := { frames := 7, cells := 1, slots := 6, locals := 144 }
set_option maxHeartbeats 4000000 in
set_option maxRecDepth 100000 in
theorem metX10_ask {l : Launch} {s0 : State} {b B : Nat} {D : va_G} {T : Nat → ClassId} (F : FX l s0 b D T B) {X : Nat → Prop} (hX : ∀ o, o < 560 → ¬ X (B + o)) {N : Nat} {μ : Mem} {a0 : Nat} {a1 : Int32} {a2 : Int32} {a3 : Int32} {a4 : Int32} {r : Mem × (Nat ⊕ Int32)} (k0 : IsGa a0) (h : fX10_ask N μ a0 a1 a2 a3 a4 = some r) : gXMet l yX10_ask cX10_ask 5 (some .int) rmX10_ask [.ref (B + a0), .int a1, .int a2, .int a3, .int a4] (gWC s0 D T B μ) (KC s0 X) (oI r.2) (gWC s0 D T B r.1) (gA B X) 1 6 := by
  refine gXI_of RX10 (by decide +kernel) rfl (Nat.le_of_ble_eq_true rfl) ?_
  intro p e s m args below meth c ls Q hx hb hlocks hml hown hts hW hk hl hS hE
  obtain ⟨hend, hthr, htb, hQ⟩ := hE
  have hC := FX_C F hk hx hb hown hts
  have hA := gA_all hX
  have hl : lv_has ls 5 [(0, .ref (B + a0)), (1, .int a1), (2, .int a2), (3, .int a3), (4, .int a4)] := hl
  unfold fX10_ask at h
  refine lv_aload_n hx hb dX10_ask_0 rfl (lv_at hl 0 rfl) ?_
  refine lv_iload_n hx hb dX10_ask_1 rfl (lv_at hl 1 rfl) ?_
  refine lv_iload_n hx hb dX10_ask_2 rfl (lv_at hl 2 rfl) ?_
  refine lv_iload_n hx hb dX10_ask_3 rfl (lv_at hl 3 rfl) ?_
  refine lv_iload hx hb dX10_ask_4 (lv_at hl 4 rfl) ?_
  obtain ⟨r1, hcall, h⟩ := bd_out h
  refine g0_callV (As := [.int a1, .int a2, .int a3, .int a4]) hC hml hS hW (KC_at hk hS F.2.2.2.2) KC_blind (metX10_askFault F hX k0 hcall) ml_X10_263 (gw_recv hC hW k0.1 (k0.2.2.1 (gfm s0) T B (μ a0)) rfl) ⟨rfl, rfl, (Nat.le_of_ble_eq_true rfl), (Nat.le_of_ble_eq_true rfl)⟩ rfl hl.1 rfl (Nat.le_of_ble_eq_true rfl) dX10_ask_6 ⟨(Nat.le_of_ble_eq_true rfl), (Nat.le_of_ble_eq_true rfl)⟩ (fun H locs hW hS => ?_)
  rcases tb_out h with ⟨μ3, n5, hcall, h9⟩ | ⟨μ3, r4, hcall, h⟩
  · cases h9
    exact gx_callS (As := [.ref (gfa s0 r1)]) hC hml hS hW (KC_at hk hS F.2.2.2.2) KC_blind (metX10_stopIf F hX  hcall) ml_X10_72 ⟨rfl, rfl, (Nat.le_of_ble_eq_true rfl), (Nat.le_of_ble_eq_true rfl)⟩ rfl hl.1 rfl (Nat.le_of_ble_eq_true rfl) dX10_ask_9 ⟨(Nat.le_of_ble_eq_true rfl), (Nat.le_of_ble_eq_true rfl)⟩ (fun v9 ho => by cases ho) (fun k9 ho H locs q9 ce9 hW hS hce hvm hcl => by cases ho; exact hthr _ rfl hW hS hce hvm hcl (Nat.le_of_ble_eq_true rfl) (Nat.le_of_ble_eq_true rfl))
  refine gx_callS (As := [.ref (gfa s0 r1)]) hC hml hS hW (KC_at hk hS F.2.2.2.2) KC_blind (metX10_stopIf F hX  hcall) ml_X10_72 ⟨rfl, rfl, (Nat.le_of_ble_eq_true rfl), (Nat.le_of_ble_eq_true rfl)⟩ rfl hl.1 rfl (Nat.le_of_ble_eq_true rfl) dX10_ask_9 ⟨(Nat.le_of_ble_eq_true rfl), (Nat.le_of_ble_eq_true rfl)⟩ (fun v9 ho H locs hW hS => ?_) (fun k9 ho => by cases ho)
  cases ho
  refine W.widen (k := 1) (n := 6) (Nat.le_of_ble_eq_true rfl) (Nat.le_of_ble_eq_true rfl) ?_
  refine lv_aload_n hx hb dX10_ask_12 rfl (lv_at hl 0 rfl) ?_
  obtain ⟨r6, hcall, h⟩ := bd_out h
  refine g0_callV (As := []) hC hml hS hW (KC_at hk hS F.2.2.2.2) KC_blind (metX10_remember F hX k0 hcall) ml_X10_76 (gw_recv hC hW k0.1 (k0.2.2.1 (gfm s0) T B (μ3 a0)) rfl) ⟨rfl, rfl, (Nat.le_of_ble_eq_true rfl), (Nat.le_of_ble_eq_true rfl)⟩ rfl hl.1 rfl (Nat.le_of_ble_eq_true rfl) dX10_ask_13 ⟨(Nat.le_of_ble_eq_true rfl), (Nat.le_of_ble_eq_true rfl)⟩ (fun H locs hW hS => ?_)
  refine lv_aload_n hx hb dX10_ask_16 rfl (lv_at hl 0 rfl) ?_
  refine gw_get (v := .ref (B + 1)) hC hW fl_X10_12 k0.1 (k0.2.2.1 (gfm s0) T B (r6 a0)) rfl dX10_ask_17 ?_
  refine gw_get (v := .ref (B + (1 + 16))) hC hW fl_X10_167 k0.2.2.2.1.1 (k0.2.2.2.1.2.1 (gfm s0) T B (r6 1)) rfl dX10_ask_20 ?_
  refine lv_iload_n hx hb dX10_ask_23 rfl (lv_at hl 1 rfl) ?_
  obtain ⟨q7, e8, hq9, hi10, h⟩ := ar_o h
  refine gq_aald hC hW k0.2.2.2.1.2.2.2.2.2.1 (k0.2.2.2.1.2.2.2.2.2.2.1 (gfm s0) T B (r6 (1 + 16))) (t0 := 5) rfl rfl e8 hi10 dX10_ask_24 ?_
  refine lv_iload_n hx hb dX10_ask_25 rfl (lv_at hl 2 rfl) ?_
  refine lv_iload_n hx hb dX10_ask_26 rfl (lv_at hl 3 rfl) ?_
  refine lv_iload hx hb dX10_ask_27 (lv_at hl 4 rfl) ?_
  obtain ⟨r11, hcall, h⟩ := bd_out h
  refine g0_callV (As := [.int a2, .int a3, .int a4]) hC hml hS hW (KC_at hk hS F.2.2.2.2) KC_blind (metX1_noteLoan F hX (k0.2.2.2.1.2.2.2.2.2.2.2 q7 hq9) hcall) ml_X10_266 (gw_recv hC hW (k0.2.2.2.1.2.2.2.2.2.2.2 q7 hq9).1 ((k0.2.2.2.1.2.2.2.2.2.2.2 q7 hq9).2.1 (gfm s0) T B (r6 ((1 + 16) + 1 + 6 * q7))) rfl) ⟨rfl, rfl, (Nat.le_of_ble_eq_true rfl), (Nat.le_of_ble_eq_true rfl)⟩ rfl hl.1 rfl (Nat.le_of_ble_eq_true rfl) dX10_ask_29 ⟨(Nat.le_of_ble_eq_true rfl), (Nat.le_of_ble_eq_true rfl)⟩ (fun H locs hW hS => ?_)
  cases h
  exact hend _ rfl dX10_ask_32 hW hS (Nat.le_of_ble_eq_true rfl) (Nat.le_of_ble_eq_true rfl)

theorem dX10_askedCount_0 : decode cX10_askedCount 0 = .ok (.aload_n 0, 1) := by decide +kernel
theorem dX10_askedCount_1 : decode cX10_askedCount 1 = .ok (.iload_n 1, 1) := by decide +kernel
theorem dX10_askedCount_2 : decode cX10_askedCount 2 = .ok (.invokevirtual 155, 3) := by decide +kernel
theorem dX10_askedCount_5 : decode cX10_askedCount 5 = .ok (.getfield 276, 3) := by decide +kernel
theorem dX10_askedCount_8 : decode cX10_askedCount 8 = .ok (.ireturn, 1) := by decide +kernel
abbrev rmX10_askedCount : Room := { frames := 7, cells := 1, slots := 6, locals := 141 }
set_option maxHeartbeats 4000000 in
set_option maxRecDepth 100000 in
theorem metX10_askedCount {l : Launch} {s0 : State} {b B : Nat} {D : va_G} {T : Nat → ClassId} (F : FX l s0 b D T B) {X : Nat → Prop} (hX : ∀ o, o < 560 → ¬ X (B + o)) {N : Nat} {μ : Mem} {a0 : Nat} {a1 : Int32} {r : Mem × (Nat ⊕ Int32)} (k0 : IsGa a0) (h : fX10_askedCount N μ a0 a1 = some r) : gXMet l yX10_askedCount cX10_askedCount 2 (some .int) rmX10_askedCount [.ref (B + a0), .int a1] (gWC s0 D T B μ) (KC s0 X) (oI r.2) (gWC s0 D T B r.1) (gA B X) 1 6 := by
  refine gXI_of RX10 (by decide +kernel) rfl (Nat.le_of_ble_eq_true rfl) ?_
  intro p e s m args below meth c ls Q hx hb hlocks hml hown hts hW hk hl hS hE
  obtain ⟨hend, hthr, htb, hQ⟩ := hE
  have hC := FX_C F hk hx hb hown hts
  have hA := gA_all hX
  have hl : lv_has ls 2 [(0, .ref (B + a0)), (1, .int a1)] := hl
  unfold fX10_askedCount at h
  refine lv_aload_n hx hb dX10_askedCount_0 rfl (lv_at hl 0 rfl) ?_
  refine lv_iload_n hx hb dX10_askedCount_1 rfl (lv_at hl 1 rfl) ?_
  rcases tb_out h with ⟨μ2, n4, hcall, h9⟩ | ⟨μ2, r3, hcall, h⟩
  · cases h9
    exact gx_callV (As := [.int a1]) hC hml hS hW (KC_at hk hS F.2.2.2.2) KC_blind (metX10_existing F hX k0 hcall) ml_X10_155 (gw_recv hC hW k0.1 (k0.2.2.1 (gfm s0) T B (μ a0)) rfl) ⟨rfl, rfl, (Nat.le_of_ble_eq_true rfl), (Nat.le_of_ble_eq_true rfl)⟩ rfl hl.1 rfl (Nat.le_of_ble_eq_true rfl) dX10_askedCount_2 ⟨(Nat.le_of_ble_eq_true rfl), (Nat.le_of_ble_eq_true rfl)⟩ (fun v9 ho => by cases ho) (fun k9 ho H locs q9 ce9 hW hS hce hvm hcl => by cases ho; exact hthr _ rfl hW hS hce hvm hcl (Nat.le_of_ble_eq_true rfl) (Nat.le_of_ble_eq_true rfl))
  refine gx_callV (As := [.int a1]) hC hml hS hW (KC_at hk hS F.2.2.2.2) KC_blind (metX10_existing F hX k0 hcall) ml_X10_155 (gw_recv hC hW k0.1 (k0.2.2.1 (gfm s0) T B (μ a0)) rfl) ⟨rfl, rfl, (Nat.le_of_ble_eq_true rfl), (Nat.le_of_ble_eq_true rfl)⟩ rfl hl.1 rfl (Nat.le_of_ble_eq_true rfl) dX10_askedCount_2 ⟨(Nat.le_of_ble_eq_true rfl), (Nat.le_of_ble_eq_true rfl)⟩ (fun v9 ho H locs hW hS => ?_) (fun k9 ho => by cases ho)
  cases ho
  refine W.widen (k := 1) (n := 6) (Nat.le_of_ble_eq_true rfl) (Nat.le_of_ble_eq_true rfl) ?_
  have kr5 := kdX10_existing k0 hcall
  refine gw_get (v := .int (μ2 r3 6)) hC hW fl_X10_276.1 kr5.1 (kr5.2.1 (gfm s0) T B (μ2 r3)) rfl dX10_askedCount_5 ?_
  cases h
  exact hend _ rfl dX10_askedCount_8 hW hS (Nat.le_of_ble_eq_true rfl) (Nat.le_of_ble_eq_true rfl)

theorem dX10_takenCount_0 : decode cX10_takenCount 0 = .ok (.aload_n 0, 1) := by decide +kernel
theorem dX10_takenCount_1 : decode cX10_takenCount 1 = .ok (.iload_n 1, 1) := by decide +kernel
theorem dX10_takenCount_2 : decode cX10_takenCount 2 = .ok (.invokevirtual 155, 3) := by decide +kernel
theorem dX10_takenCount_5 : decode cX10_takenCount 5 = .ok (.getfield 279, 3) := by decide +kernel
theorem dX10_takenCount_8 : decode cX10_takenCount 8 = .ok (.ireturn, 1) := by decide +kernel
abbrev rmX10_takenCount : Room := { frames := 7, cells := 1, slots := 6, locals := 141 }
set_option maxHeartbeats 4000000 in
set_option maxRecDepth 100000 in
theorem metX10_takenCount {l : Launch} {s0 : State} {b B : Nat} {D : va_G} {T : Nat → ClassId} (F : FX l s0 b D T B) {X : Nat → Prop} (hX : ∀ o, o < 560 → ¬ X (B + o)) {N : Nat} {μ : Mem} {a0 : Nat} {a1 : Int32} {r : Mem × (Nat ⊕ Int32)} (k0 : IsGa a0) (h : fX10_takenCount N μ a0 a1 = some r) : gXMet l yX10_takenCount cX10_takenCount 2 (some .int) rmX10_takenCount [.ref (B + a0), .int a1] (gWC s0 D T B μ) (KC s0 X) (oI r.2) (gWC s0 D T B r.1) (gA B X) 1 6 := by
  refine gXI_of RX10 (by decide +kernel) rfl (Nat.le_of_ble_eq_true rfl) ?_
  intro p e s m args below meth c ls Q hx hb hlocks hml hown hts hW hk hl hS hE
  obtain ⟨hend, hthr, htb, hQ⟩ := hE
  have hC := FX_C F hk hx hb hown hts
  have hA := gA_all hX
  have hl : lv_has ls 2 [(0, .ref (B + a0)), (1, .int a1)] := hl
  unfold fX10_takenCount at h
  refine lv_aload_n hx hb dX10_takenCount_0 rfl (lv_at hl 0 rfl) ?_
  refine lv_iload_n hx hb dX10_takenCount_1 rfl (lv_at hl 1 rfl) ?_
  rcases tb_out h with ⟨μ2, n4, hcall, h9⟩ | ⟨μ2, r3, hcall, h⟩
  · cases h9
    exact gx_callV (As := [.int a1]) hC hml hS hW (KC_at hk hS F.2.2.2.2) KC_blind (metX10_existing F hX k0 hcall) ml_X10_155 (gw_recv hC hW k0.1 (k0.2.2.1 (gfm s0) T B (μ a0)) rfl) ⟨rfl, rfl, (Nat.le_of_ble_eq_true rfl), (Nat.le_of_ble_eq_true rfl)⟩ rfl hl.1 rfl (Nat.le_of_ble_eq_true rfl) dX10_takenCount_2 ⟨(Nat.le_of_ble_eq_true rfl), (Nat.le_of_ble_eq_true rfl)⟩ (fun v9 ho => by cases ho) (fun k9 ho H locs q9 ce9 hW hS hce hvm hcl => by cases ho; exact hthr _ rfl hW hS hce hvm hcl (Nat.le_of_ble_eq_true rfl) (Nat.le_of_ble_eq_true rfl))
  refine gx_callV (As := [.int a1]) hC hml hS hW (KC_at hk hS F.2.2.2.2) KC_blind (metX10_existing F hX k0 hcall) ml_X10_155 (gw_recv hC hW k0.1 (k0.2.2.1 (gfm s0) T B (μ a0)) rfl) ⟨rfl, rfl, (Nat.le_of_ble_eq_true rfl), (Nat.le_of_ble_eq_true rfl)⟩ rfl hl.1 rfl (Nat.le_of_ble_eq_true rfl) dX10_takenCount_2 ⟨(Nat.le_of_ble_eq_true rfl), (Nat.le_of_ble_eq_true rfl)⟩ (fun v9 ho H locs hW hS => ?_) (fun k9 ho => by cases ho)
  cases ho
  refine W.widen (k := 1) (n := 6) (Nat.le_of_ble_eq_true rfl) (Nat.le_of_ble_eq_true rfl) ?_
  have kr5 := kdX10_existing k0 hcall
  refine gw_get (v := .int (μ2 r3 10)) hC hW fl_X10_279.1 kr5.1 (kr5.2.1 (gfm s0) T B (μ2 r3)) rfl dX10_takenCount_5 ?_
  cases h
  exact hend _ rfl dX10_takenCount_8 hW hS (Nat.le_of_ble_eq_true rfl) (Nat.le_of_ble_eq_true rfl)

theorem dX10_bestFees_0 : decode cX10_bestFees 0 = .ok (.aload_n 0, 1) := by decide +kernel
theorem dX10_bestFees_1 : decode cX10_bestFees 1 = .ok (.getfield 43, 3) := by decide +kernel
theorem dX10_bestFees_4 : decode cX10_bestFees 4 = .ok (.aload_n 0, 1) := by decide +kernel
theorem dX10_bestFees_5 : decode cX10_bestFees 5 = .ok (.iload_n 1, 1) := by decide +kernel
theorem dX10_bestFees_6 : decode cX10_bestFees 6 = .ok (.invokevirtual 155, 3) := by decide +kernel
theorem dX10_bestFees_9 : decode cX10_bestFees 9 = .ok (.invokevirtual 282, 3) := by decide +kernel
theorem dX10_bestFees_12 : decode cX10_bestFees 12 = .ok (.ireturn, 1) := by decide +kernel
abbrev rmX10_bestFees : Room := { frames := 7, cells := 1, slots := 6, locals := 141 }
set_option maxHeartbeats 4000000 in
set_option maxRecDepth 100000 in
theorem metX10_bestFees {l : Launch} {s0 : State} {b B : Nat} {D : va_G} {T : Nat → ClassId} (F : FX l s0 b D T B) {X : Nat → Prop} (hX : ∀ o, o < 560 → ¬ X (B + o)) {N : Nat} {μ : Mem} {a0 : Nat} {a1 : Int32} {r : Mem × (Nat ⊕ Int32)} (k0 : IsGa a0) (h : fX10_bestFees N μ a0 a1 = some r) : gXMet l yX10_bestFees cX10_bestFees 2 (some .int) rmX10_bestFees [.ref (B + a0), .int a1] (gWC s0 D T B μ) (KC s0 X) (oI r.2) (gWC s0 D T B r.1) (gA B X) 1 6 := by
  refine gXI_of RX10 (by decide +kernel) rfl (Nat.le_of_ble_eq_true rfl) ?_
  intro p e s m args below meth c ls Q hx hb hlocks hml hown hts hW hk hl hS hE
  obtain ⟨hend, hthr, htb, hQ⟩ := hE
  have hC := FX_C F hk hx hb hown hts
  have hA := gA_all hX
  have hl : lv_has ls 2 [(0, .ref (B + a0)), (1, .int a1)] := hl
  unfold fX10_bestFees at h
  refine lv_aload_n hx hb dX10_bestFees_0 rfl (lv_at hl 0 rfl) ?_
  refine gw_get (v := .ref (B + 543)) hC hW fl_X10_43 k0.1 (k0.2.2.1 (gfm s0) T B (μ a0)) rfl dX10_bestFees_1 ?_
  refine lv_aload_n hx hb dX10_bestFees_4 rfl (lv_at hl 0 rfl) ?_
  refine lv_iload_n hx hb dX10_bestFees_5 rfl (lv_at hl 1 rfl) ?_
  rcases tb_out h with ⟨μ2, n4, hcall, h9⟩ | ⟨μ2, r3, hcall, h⟩
  · cases h9
    exact gx_callV (As := [.int a1]) hC hml hS hW (KC_at hk hS F.2.2.2.2) KC_blind (metX10_existing F hX k0 hcall) ml_X10_155 (gw_recv hC hW k0.1 (k0.2.2.1 (gfm s0) T B (μ a0)) rfl) ⟨rfl, rfl, (Nat.le_of_ble_eq_true rfl), (Nat.le_of_ble_eq_true rfl)⟩ rfl hl.1 rfl (Nat.le_of_ble_eq_true rfl) dX10_bestFees_6 ⟨(Nat.le_of_ble_eq_true rfl), (Nat.le_of_ble_eq_true rfl)⟩ (fun v9 ho => by cases ho) (fun k9 ho H locs q9 ce9 hW hS hce hvm hcl => by cases ho; exact hthr _ rfl hW hS hce hvm hcl (Nat.le_of_ble_eq_true rfl) (Nat.le_of_ble_eq_true rfl))
  refine gx_callV (As := [.int a1]) hC hml hS hW (KC_at hk hS F.2.2.2.2) KC_blind (metX10_existing F hX k0 hcall) ml_X10_155 (gw_recv hC hW k0.1 (k0.2.2.1 (gfm s0) T B (μ a0)) rfl) ⟨rfl, rfl, (Nat.le_of_ble_eq_true rfl), (Nat.le_of_ble_eq_true rfl)⟩ rfl hl.1 rfl (Nat.le_of_ble_eq_true rfl) dX10_bestFees_6 ⟨(Nat.le_of_ble_eq_true rfl), (Nat.le_of_ble_eq_true rfl)⟩ (fun v9 ho H locs hW hS => ?_) (fun k9 ho => by cases ho)
  cases ho
  refine W.widen (k := 1) (n := 6) (Nat.le_of_ble_eq_true rfl) (Nat.le_of_ble_eq_true rfl) ?_
  have kr5 := kdX10_existing k0 hcall
  obtain ⟨r6, hcall, h⟩ := bd_out h
  refine g0_callV (As := [.ref (B + r3)]) hC hml hS hW (KC_at hk hS F.2.2.2.2) KC_blind (metX5_feesByLastDays F hX k0.2.2.2.2.2.2.2.2.1 kr5 hcall) ml_X10_282 (gw_recv hC hW k0.2.2.2.2.2.2.2.2.1.1 (k0.2.2.2.2.2.2.2.2.1.2.1 (gfm s0) T B (μ2 543)) rfl) ⟨rfl, rfl, (Nat.le_of_ble_eq_true rfl), (Nat.le_of_ble_eq_true rfl)⟩ rfl hl.1 rfl (Nat.le_of_ble_eq_true rfl) dX10_bestFees_9 ⟨(Nat.le_of_ble_eq_true rfl), (Nat.le_of_ble_eq_true rfl)⟩ (fun H locs hW hS => ?_)
  cases h
  exact hend _ rfl dX10_bestFees_12 hW hS (Nat.le_of_ble_eq_true rfl) (Nat.le_of_ble_eq_true rfl)

theorem dX10_isLent_0 : decode cX10_isLent 0 = .ok (.aload_n 0, 1) := by decide +kernel
theorem dX10_isLent_1 : decode cX10_isLent 1 = .ok (.iload_n 1, 1) := by decide +kernel
theorem dX10_isLent_2 : decode cX10_isLent 2 = .ok (.invokevirtual 155, 3) := by decide +kernel
theorem dX10_isLent_5 : decode cX10_isLent 5 = .ok (.iload_n 2, 1) := by decide +kernel
theorem dX10_isLent_6 : decode cX10_isLent 6 = .ok (.invokevirtual 293, 3) := by decide +kernel
theorem dX10_isLent_9 : decode cX10_isLent 9 = .ok (.iconst (-1), 1) := by decide +kernel
theorem dX10_isLent_10 : decode cX10_isLent 10 = .ok (.if_icmp .eq 7, 3) := by decide +kernel
theorem dX10_isLent_13 : decode cX10_isLent 13 = .ok (.iconst 1, 1) := by decide +kernel
theorem dX10_isLent_14 : decode cX10_isLent 14 = .ok (.goto 4, 3) := by decide +kernel
theorem dX10_isLent_17 : decode cX10_isLent 17 = .ok (.iconst 0, 1) := by decide +kernel
theorem dX10_isLent_18 : decode cX10_isLent 18 = .ok (.ireturn, 1) := by decide +kernel
abbrev rmX10_isLent : Room := { frames := 7, cells := 1, slots := 6, locals := 141 }
set_option maxHeartbeats 4000000 in
set_option maxRecDepth 100000 in
theorem metX10_isLent {l : Launch} {s0 : State} {b B : Nat} {D : va_G} {T : Nat → ClassId} (F : FX l s0 b D T B) {X : Nat → Prop} (hX : ∀ o, o < 560 → ¬ X (B + o)) {N : Nat} {μ : Mem} {a0 : Nat} {a1 : Int32} {a2 : Int32} {r : Mem × (Nat ⊕ Bool)} (k0 : IsGa a0) (h : fX10_isLent N μ a0 a1 a2 = some r) : gXMet l yX10_isLent cX10_isLent 3 (some .boolean) rmX10_isLent [.ref (B + a0), .int a1, .int a2] (gWC s0 D T B μ) (KC s0 X) (oZ r.2) (gWC s0 D T B r.1) (gA B X) 1 6 := by
  refine gXZ_of RX10 (by decide +kernel) rfl (Nat.le_of_ble_eq_true rfl) ?_
  intro p e s m args below meth c ls Q hx hb hlocks hml hown hts hW hk hl hS hE
  obtain ⟨hend, hthr, htb, hQ⟩ := hE
  have hC := FX_C F hk hx hb hown hts
  have hA := gA_all hX
  have hl : lv_has ls 3 [(0, .ref (B + a0)), (1, .int a1), (2, .int a2)] := hl
  unfold fX10_isLent at h
  refine lv_aload_n hx hb dX10_isLent_0 rfl (lv_at hl 0 rfl) ?_
  refine lv_iload_n hx hb dX10_isLent_1 rfl (lv_at hl 1 rfl) ?_
  rcases tb_out h with ⟨μ2, n4, hcall, h9⟩ | ⟨μ2, r3, hcall, h⟩
  · cases h9
    exact gx_callV (As := [.int a1]) hC hml hS hW (KC_at hk hS F.2.2.2.2) KC_blind (metX10_existing F hX k0 hcall) ml_X10_155 (gw_recv hC hW k0.1 (k0.2.2.1 (gfm s0) T B (μ a0)) rfl) ⟨rfl, rfl, (Nat.le_of_ble_eq_true rfl), (Nat.le_of_ble_eq_true rfl)⟩ rfl hl.1 rfl (Nat.le_of_ble_eq_true rfl) dX10_isLent_2 ⟨(Nat.le_of_ble_eq_true rfl), (Nat.le_of_ble_eq_true rfl)⟩ (fun v9 ho => by cases ho) (fun k9 ho H locs q9 ce9 hW hS hce hvm hcl => by cases ho; exact hthr _ rfl hW hS hce hvm hcl (Nat.le_of_ble_eq_true rfl) (Nat.le_of_ble_eq_true rfl))
  refine gx_callV (As := [.int a1]) hC hml hS hW (KC_at hk hS F.2.2.2.2) KC_blind (metX10_existing F hX k0 hcall) ml_X10_155 (gw_recv hC hW k0.1 (k0.2.2.1 (gfm s0) T B (μ a0)) rfl) ⟨rfl, rfl, (Nat.le_of_ble_eq_true rfl), (Nat.le_of_ble_eq_true rfl)⟩ rfl hl.1 rfl (Nat.le_of_ble_eq_true rfl) dX10_isLent_2 ⟨(Nat.le_of_ble_eq_true rfl), (Nat.le_of_ble_eq_true rfl)⟩ (fun v9 ho H locs hW hS => ?_) (fun k9 ho => by cases ho)
  cases ho
  refine W.widen (k := 1) (n := 6) (Nat.le_of_ble_eq_true rfl) (Nat.le_of_ble_eq_true rfl) ?_
  have kr5 := kdX10_existing k0 hcall
  refine lv_iload_n hx hb dX10_isLent_5 rfl (lv_at hl 2 rfl) ?_
  obtain ⟨r6, hcall, h⟩ := bd_out h
  refine g0_callV (As := [.int a2]) hC hml hS hW (KC_at hk hS F.2.2.2.2) KC_blind (metX1_loanEndOn F hX kr5 hcall) ml_X10_293 (gw_recv hC hW kr5.1 (kr5.2.1 (gfm s0) T B (μ2 r3)) rfl) ⟨rfl, rfl, (Nat.le_of_ble_eq_true rfl), (Nat.le_of_ble_eq_true rfl)⟩ rfl hl.1 rfl (Nat.le_of_ble_eq_true rfl) dX10_isLent_6 ⟨(Nat.le_of_ble_eq_true rfl), (Nat.le_of_ble_eq_true rfl)⟩ (fun H locs hW hS => ?_)
  refine lv_iconst (v := (-1)) hx hb dX10_isLent_9 (by decide) ?_
  obtain ⟨j8, hj10, h⟩ := jn1_o h
  have J9 : ∀ (y7 : Bool), j8 y7 = some r → ∀ (H : Heap) (locs : List Loc) (ls : Array Slot), gWC s0 D T B μ2 H → va_S (gA B X) s.heap H locs → lv_has ls 3 [] → W p l e rmX10_isLent s m args below meth c H locs 1 6 Q (F0 m 18 ls [.int (b2i y7)]) := by
    clear h hW hS hl
    intro y7 h H locs ls hW hS hl
    replace h := (hj10 y7).symm.trans h
    cases h
    exact hend _ rfl dX10_isLent_18 hW hS (Nat.le_of_ble_eq_true rfl) (Nat.le_of_ble_eq_true rfl)
  refine lv_icmp_eq (tgt := 17) hx hb dX10_isLent_10 (by decide) (fun c11 => ?_) (fun c11 => ?_)
  · replace h := ite_t c11 h
    refine lv_iconst (v := 0) hx hb dX10_isLent_17 (by decide) ?_
    exact J9 _ h _ _ _ hW hS (lv_sub hl [] rfl)
  · replace h := ite_f c11 h
    refine lv_iconst (v := 1) hx hb dX10_isLent_13 (by decide) ?_
    refine lv_goto (tgt := 18) hx hb dX10_isLent_14 (by decide) ?_
    exact J9 _ h _ _ _ hW hS (lv_sub hl [] rfl)

theorem dX10_income_0 : decode cX10_income 0 = .ok (.aload_n 0, 1) := by decide +kernel
theorem dX10_income_1 : decode cX10_income 1 = .ok (.getfield 12, 3) := by decide +kernel
theorem dX10_income_4 : decode cX10_income 4 = .ok (.getfield 296, 3) := by decide +kernel
theorem dX10_income_7 : decode cX10_income 7 = .ok (.ireturn, 1) := by decide +kernel
abbrev rmX10_income : Room := { frames := 2, cells := 0, slots := 0, locals := 60 }
set_option maxHeartbeats 4000000 in
set_option maxRecDepth 100000 in
theorem metX10_income {l : Launch} {s0 : State} {b B : Nat} {D : va_G} {T : Nat → ClassId} (F : FX l s0 b D T B) {X : Nat → Prop} (hX : ∀ o, o < 560 → ¬ X (B + o)) {N : Nat} {μ : Mem} {a0 : Nat} {r : Int32} (k0 : IsGa a0) (h : fX10_income N μ a0 = some r) : gMet l yX10_income cX10_income 1 (some .int) rmX10_income [.ref (B + a0)] (gWC s0 D T B μ) (KC s0 X) (some (.int r)) (gWC s0 D T B μ) (gA B X) 0 0 := by
  refine gI_of RX10 (by decide +kernel) rfl (Nat.le_of_ble_eq_true rfl) ?_
  intro p e s m args below meth c ls Q hx hb hlocks hml hown hts hW hk hl hS hend
  have hC := FX_C F hk hx hb hown hts
  have hA := gA_all hX
  have hl : lv_has ls 1 [(0, .ref (B + a0))] := hl
  unfold fX10_income at h
  refine lv_aload_n hx hb dX10_income_0 rfl (lv_at hl 0 rfl) ?_
  refine gw_get (v := .ref (B + 1)) hC hW fl_X10_12 k0.1 (k0.2.2.1 (gfm s0) T B (μ a0)) rfl dX10_income_1 ?_
  refine gw_get (v := .int (μ 1 7)) hC hW fl_X10_296.1 k0.2.2.2.1.1 (k0.2.2.2.1.2.1 (gfm s0) T B (μ 1)) rfl dX10_income_4 ?_
  cases h
  exact hend dX10_income_7 hW hS (Nat.le_of_ble_eq_true rfl) (Nat.le_of_ble_eq_true rfl)

theorem dX10_feed_0 : decode cX10_feed 0 = .ok (.aload_n 0, 1) := by decide +kernel
theorem dX10_feed_1 : decode cX10_feed 1 = .ok (.getfield 50, 3) := by decide +kernel
theorem dX10_feed_4 : decode cX10_feed 4 = .ok (.getfield 351, 3) := by decide +kernel
theorem dX10_feed_7 : decode cX10_feed 7 = .ok (.bipush 60, 2) := by decide +kernel
theorem dX10_feed_9 : decode cX10_feed 9 = .ok (.if_icmp .lt 14, 3) := by decide +kernel
theorem dX10_feed_12 : decode cX10_feed 12 = .ok (.new 353, 3) := by decide +kernel
theorem dX10_feed_15 : decode cX10_feed 15 = .ok (.dup, 1) := by decide +kernel
theorem dX10_feed_16 : decode cX10_feed 16 = .ok (.ldc_w 355, 3) := by decide +kernel
theorem dX10_feed_19 : decode cX10_feed 19 = .ok (.invokespecial 357, 3) := by decide +kernel
theorem dX10_feed_22 : decode cX10_feed 22 = .ok (.athrow, 1) := by decide +kernel
theorem dX10_feed_23 : decode cX10_feed 23 = .ok (.aload_n 0, 1) := by decide +kernel
theorem dX10_feed_24 : decode cX10_feed 24 = .ok (.getfield 50, 3) := by decide +kernel
theorem dX10_feed_27 : decode cX10_feed 27 = .ok (.getfield 358, 3) := by decide +kernel
theorem dX10_feed_30 : decode cX10_feed 30 = .ok (.aload_n 0, 1) := by decide +kernel
theorem dX10_feed_31 : decode cX10_feed 31 = .ok (.getfield 50, 3) := by decide +kernel
theorem dX10_feed_34 : decode cX10_feed 34 = .ok (.getfield 351, 3) := by decide +kernel
theorem dX10_feed_37 : decode cX10_feed 37 = .ok (.iload_n 1, 1) := by decide +kernel
theorem dX10_feed_38 : decode cX10_feed 38 = .ok (.castore, 1) := by decide +kernel
theorem dX10_feed_39 : decode cX10_feed 39 = .ok (.aload_n 0, 1) := by decide +kernel
theorem dX10_feed_40 : decode cX10_feed 40 = .ok (.getfield 50, 3) := by decide +kernel
theorem dX10_feed_43 : decode cX10_feed 43 = .ok (.dup, 1) := by decide +kernel
theorem dX10_feed_44 : decode cX10_feed 44 = .ok (.getfield 351, 3) := by decide +kernel
theorem dX10_feed_47 : decode cX10_feed 47 = .ok (.iconst 1, 1) := by decide +kernel
theorem dX10_feed_48 : decode cX10_feed 48 = .ok (.iadd, 1) := by decide +kernel
theorem dX10_feed_49 : decode cX10_feed 49 = .ok (.putfield 351, 3) := by decide +kernel
theorem dX10_feed_52 : decode cX10_feed 52 = .ok (.aload_n 0, 1) := by decide +kernel
theorem dX10_feed_53 : decode cX10_feed 53 = .ok (.getfield 50, 3) := by decide +kernel
theorem dX10_feed_56 : decode cX10_feed 56 = .ok (.getfield 351, 3) := by decide +kernel
theorem dX10_feed_59 : decode cX10_feed 59 = .ok (.ireturn, 1) := by decide +kernel
abbrev rmX10_feed : Room := { frames := 6, cells := 1, slots := 6, locals := 120 }
set_option maxHeartbeats 4000000 in
set_option maxRecDepth 100000 in
theorem metX10_feed {l : Launch} {s0 : State} {b B : Nat} {D : va_G} {T : Nat → ClassId} (F : FX l s0 b D T B) {X : Nat → Prop} (hX : ∀ o, o < 560 → ¬ X (B + o)) {N : Nat} {μ : Mem} {a0 : Nat} {a1 : Int32} {r : Mem × (Nat ⊕ Int32)} (k0 : IsGa a0) (h : fX10_feed N μ a0 a1 = some r) : gXMet l yX10_feed cX10_feed 2 (some .int) rmX10_feed [.ref (B + a0), .int a1] (gWC s0 D T B μ) (KC s0 X) (oI r.2) (gWC s0 D T B r.1) (gA B X) 1 6 := by
  refine gXI_of RX10 (by decide +kernel) rfl (Nat.le_of_ble_eq_true rfl) ?_
  intro p e s m args below meth c ls Q hx hb hlocks hml hown hts hW hk hl hS hE
  obtain ⟨hend, hthr, htb, hQ⟩ := hE
  have hC := FX_C F hk hx hb hown hts
  have hA := gA_all hX
  have hl : lv_has ls 2 [(0, .ref (B + a0)), (1, .int a1)] := hl
  unfold fX10_feed at h
  refine lv_aload_n hx hb dX10_feed_0 rfl (lv_at hl 0 rfl) ?_
  refine gw_get (v := .ref (B + 546)) hC hW fl_X10_50 k0.1 (k0.2.2.1 (gfm s0) T B (μ a0)) rfl dX10_feed_1 ?_
  refine gw_get (v := .int (μ 546 1)) hC hW fl_X10_351.1 k0.2.2.2.2.2.2.2.2.2.1 (k0.2.2.2.2.2.2.2.2.2.2.1 (gfm s0) T B (μ 546)) rfl dX10_feed_4 ?_
  refine lv_bipush (v := 60) hx hb dX10_feed_7 (by decide) ?_
  refine lv_icmp_lt (tgt := 23) hx hb dX10_feed_9 (by decide) (fun c1 => ?_) (fun c1 => ?_)
  · replace h := ite_t c1 h
    refine lv_aload_n hx hb dX10_feed_23 rfl (lv_at hl 0 rfl) ?_
    refine gw_get (v := .ref (B + 546)) hC hW fl_X10_50 k0.1 (k0.2.2.1 (gfm s0) T B (μ a0)) rfl dX10_feed_24 ?_
    refine gw_get (v := .ref (B + (546 + 1))) hC hW fl_X10_358 k0.2.2.2.2.2.2.2.2.2.1 (k0.2.2.2.2.2.2.2.2.2.2.1 (gfm s0) T B (μ 546)) rfl dX10_feed_27 ?_
    refine lv_aload_n hx hb dX10_feed_30 rfl (lv_at hl 0 rfl) ?_
    refine gw_get (v := .ref (B + 546)) hC hW fl_X10_50 k0.1 (k0.2.2.1 (gfm s0) T B (μ a0)) rfl dX10_feed_31 ?_
    refine gw_get (v := .int (μ 546 1)) hC hW fl_X10_351.1 k0.2.2.2.2.2.2.2.2.2.1 (k0.2.2.2.2.2.2.2.2.2.2.1 (gfm s0) T B (μ 546)) rfl dX10_feed_34 ?_
    refine lv_iload_n hx hb dX10_feed_37 rfl (lv_at hl 1 rfl) ?_
    obtain ⟨μ2, e3, hi4, h⟩ := aw_o h
    refine gq_cast hC hS hW hA k0.2.2.2.2.2.2.2.2.2.2.2.1.1 (k0.2.2.2.2.2.2.2.2.2.2.2.1.2 (gfm s0) T B) (t0 := 2) rfl e3 hi4 dX10_feed_38 (fun H locs hW hS => ?_)
    refine lv_aload_n hx hb dX10_feed_39 rfl (lv_at hl 0 rfl) ?_
    refine gw_get (v := .ref (B + 546)) hC hW fl_X10_50 k0.1 (k0.2.2.1 (gfm s0) T B (μ2 a0)) rfl dX10_feed_40 ?_
    refine lv_dup hx hb dX10_feed_43 rfl ?_
    refine gw_get (v := .int (μ2 546 1)) hC hW fl_X10_351.1 k0.2.2.2.2.2.2.2.2.2.1 (k0.2.2.2.2.2.2.2.2.2.2.1 (gfm s0) T B (μ2 546)) rfl dX10_feed_44 ?_
    refine lv_iconst (v := 1) hx hb dX10_feed_47 (by decide) ?_
    refine lv_iadd hx hb dX10_feed_48 ?_
    obtain ⟨μ5, e6, h⟩ := lt_out h
    refine gq_put hC hS hW hA fl_X10_351 k0.2.2.2.2.2.2.2.2.2.1 (k0.2.2.2.2.2.2.2.2.2.2.1 (gfm s0) T B) (Nat.le_of_ble_eq_true rfl) rfl rfl rfl e6 dX10_feed_49 (fun H locs hW hS => ?_)
    refine lv_aload_n hx hb dX10_feed_52 rfl (lv_at hl 0 rfl) ?_
    refine gw_get (v := .ref (B + 546)) hC hW fl_X10_50 k0.1 (k0.2.2.1 (gfm s0) T B (μ5 a0)) rfl dX10_feed_53 ?_
    refine gw_get (v := .int (μ5 546 1)) hC hW fl_X10_351.1 k0.2.2.2.2.2.2.2.2.2.1 (k0.2.2.2.2.2.2.2.2.2.2.1 (gfm s0) T B (μ5 546)) rfl dX10_feed_56 ?_
    cases h
    exact hend _ rfl dX10_feed_59 hW hS (Nat.le_of_ble_eq_true rfl) (Nat.le_of_ble_eq_true rfl)
  · replace h := ite_f c1 h
    cases h
    exact gx_throwW (k := 2) F hk hC hml hlocks htb hQ rfl hW hS dX10_feed_12 dX10_feed_15 dX10_feed_16 dX10_feed_19 dX10_feed_22 tw_X10_353_355_357 hl.1 (Nat.le_of_ble_eq_true rfl) (Nat.le_of_ble_eq_true rfl) ⟨Nat.le_of_ble_eq_true rfl, Nat.le_of_ble_eq_true rfl⟩ (Nat.le_of_ble_eq_true rfl) (Nat.le_of_ble_eq_true rfl)

theorem dX10_undo_0 : decode cX10_undo 0 = .ok (.aload_n 0, 1) := by decide +kernel
theorem dX10_undo_1 : decode cX10_undo 1 = .ok (.getfield 22, 3) := by decide +kernel
theorem dX10_undo_4 : decode cX10_undo 4 = .ok (.getfield 394, 3) := by decide +kernel
theorem dX10_undo_7 : decode cX10_undo 7 = .ok (.ifCond .ne 14, 3) := by decide +kernel
theorem dX10_undo_10 : decode cX10_undo 10 = .ok (.new 353, 3) := by decide +kernel
theorem dX10_undo_13 : decode cX10_undo 13 = .ok (.dup, 1) := by decide +kernel
theorem dX10_undo_14 : decode cX10_undo 14 = .ok (.ldc_w 397, 3) := by decide +kernel
theorem dX10_undo_17 : decode cX10_undo 17 = .ok (.invokespecial 357, 3) := by decide +kernel
theorem dX10_undo_20 : decode cX10_undo 20 = .ok (.athrow, 1) := by decide +kernel
theorem dX10_undo_21 : decode cX10_undo 21 = .ok (.aload_n 0, 1) := by decide +kernel
theorem dX10_undo_22 : decode cX10_undo 22 = .ok (.getfield 22, 3) := by decide +kernel
theorem dX10_undo_25 : decode cX10_undo 25 = .ok (.invokevirtual 399, 3) := by decide +kernel
theorem dX10_undo_28 : decode cX10_undo 28 = .ok (.aload_n 0, 1) := by decide +kernel
theorem dX10_undo_29 : decode cX10_undo 29 = .ok (.getfield 12, 3) := by decide +kernel
theorem dX10_undo_32 : decode cX10_undo 32 = .ok (.aload_n 0, 1) := by decide +kernel
theorem dX10_undo_33 : decode cX10_undo 33 = .ok (.getfield 22, 3) := by decide +kernel
theorem dX10_undo_36 : decode cX10_undo 36 = .ok (.invokevirtual 376, 3) := by decide +kernel
theorem dX10_undo_39 : decode cX10_undo 39 = .ok (.invokevirtual 380, 3) := by decide +kernel
theorem dX10_undo_42 : decode cX10_undo 42 = .ok (.aload_n 0, 1) := by decide +kernel
theorem dX10_undo_43 : decode cX10_undo 43 = .ok (.getfield 22, 3) := by decide +kernel
theorem dX10_undo_46 : decode cX10_undo 46 = .ok (.getfield 394, 3) := by decide +kernel
theorem dX10_undo_49 : decode cX10_undo 49 = .ok (.ireturn, 1) := by decide +kernel
abbrev rmX10_undo : Room := { frames := 6, cells := 1, slots := 6, locals := 120 }
set_option maxHeartbeats 4000000 in
set_option maxRecDepth 100000 in
theorem metX10_undo {l : Launch} {s0 : State} {b B : Nat} {D : va_G} {T : Nat → ClassId} (F : FX l s0 b D T B) {X : Nat → Prop} (hX : ∀ o, o < 560 → ¬ X (B + o)) {N : Nat} {μ : Mem} {a0 : Nat} {r : Mem × (Nat ⊕ Int32)} (k0 : IsGa a0) (h : fX10_undo N μ a0 = some r) : gXMet l yX10_undo cX10_undo 1 (some .int) rmX10_undo [.ref (B + a0)] (gWC s0 D T B μ) (KC s0 X) (oI r.2) (gWC s0 D T B r.1) (gA B X) 1 6 := by
  refine gXI_of RX10 (by decide +kernel) rfl (Nat.le_of_ble_eq_true rfl) ?_
  intro p e s m args below meth c ls Q hx hb hlocks hml hown hts hW hk hl hS hE
  obtain ⟨hend, hthr, htb, hQ⟩ := hE
  have hC := FX_C F hk hx hb hown hts
  have hA := gA_all hX
  have hl : lv_has ls 1 [(0, .ref (B + a0))] := hl
  unfold fX10_undo at h
  refine lv_aload_n hx hb dX10_undo_0 rfl (lv_at hl 0 rfl) ?_
  refine gw_get (v := .ref (B + 95)) hC hW fl_X10_22 k0.1 (k0.2.2.1 (gfm s0) T B (μ a0)) rfl dX10_undo_1 ?_
  refine gw_get (v := .int (μ 95 2)) hC hW fl_X10_394.1 k0.2.2.2.2.2.1.1 (k0.2.2.2.2.2.1.2.1 (gfm s0) T B (μ 95)) rfl dX10_undo_4 ?_
  refine lv_if_ne (tgt := 21) hx hb dX10_undo_7 (by decide) (fun c1 => ?_) (fun c1 => ?_)
  · replace h := ite_f c1 h
    refine lv_aload_n hx hb dX10_undo_21 rfl (lv_at hl 0 rfl) ?_
    refine gw_get (v := .ref (B + 95)) hC hW fl_X10_22 k0.1 (k0.2.2.1 (gfm s0) T B (μ a0)) rfl dX10_undo_22 ?_
    obtain ⟨r2, hcall, h⟩ := bd_out h
    refine g0_callV (As := []) hC hml hS hW (KC_at hk hS F.2.2.2.2) KC_blind (metX4_stepBack F hX k0.2.2.2.2.2.1 hcall) ml_X10_399 (gw_recv hC hW k0.2.2.2.2.2.1.1 (k0.2.2.2.2.2.1.2.1 (gfm s0) T B (μ 95)) rfl) ⟨rfl, rfl, (Nat.le_of_ble_eq_true rfl), (Nat.le_of_ble_eq_true rfl)⟩ rfl hl.1 rfl (Nat.le_of_ble_eq_true rfl) dX10_undo_25 ⟨(Nat.le_of_ble_eq_true rfl), (Nat.le_of_ble_eq_true rfl)⟩ (fun H locs hW hS => ?_)
    refine lv_aload_n hx hb dX10_undo_28 rfl (lv_at hl 0 rfl) ?_
    refine gw_get (v := .ref (B + 1)) hC hW fl_X10_12 k0.1 (k0.2.2.1 (gfm s0) T B (r2 a0)) rfl dX10_undo_29 ?_
    refine lv_aload_n hx hb dX10_undo_32 rfl (lv_at hl 0 rfl) ?_
    refine gw_get (v := .ref (B + 95)) hC hW fl_X10_22 k0.1 (k0.2.2.1 (gfm s0) T B (r2 a0)) rfl dX10_undo_33 ?_
    obtain ⟨r3, hcall, h⟩ := bd_out h
    refine g0_callV (As := []) hC hml hS hW (KC_at hk hS F.2.2.2.2) KC_blind (metX4_noted F hX k0.2.2.2.2.2.1 hcall) ml_X10_376 (gw_recv hC hW k0.2.2.2.2.2.1.1 (k0.2.2.2.2.2.1.2.1 (gfm s0) T B (r2 95)) rfl) ⟨rfl, rfl, (Nat.le_of_ble_eq_true rfl), (Nat.le_of_ble_eq_true rfl)⟩ rfl hl.1 rfl (Nat.le_of_ble_eq_true rfl) dX10_undo_36 ⟨(Nat.le_of_ble_eq_true rfl), (Nat.le_of_ble_eq_true rfl)⟩ (fun H locs hW hS => ?_)
    have kr4 := kdX4_noted k0.2.2.2.2.2.1 hcall
    obtain ⟨r5, hcall, h⟩ := bd_out h
    refine g0_callV (As := [.ref (B + r3)]) hC hml hS hW (KC_at hk hS F.2.2.2.2) KC_blind (metX8_copyFrom F hX k0.2.2.2.1 kr4 hcall) ml_X10_380 (gw_recv hC hW k0.2.2.2.1.1 (k0.2.2.2.1.2.1 (gfm s0) T B (r2 1)) rfl) ⟨rfl, rfl, (Nat.le_of_ble_eq_true rfl), (Nat.le_of_ble_eq_true rfl)⟩ rfl hl.1 rfl (Nat.le_of_ble_eq_true rfl) dX10_undo_39 ⟨(Nat.le_of_ble_eq_true rfl), (Nat.le_of_ble_eq_true rfl)⟩ (fun H locs hW hS => ?_)
    refine lv_aload_n hx hb dX10_undo_42 rfl (lv_at hl 0 rfl) ?_
    refine gw_get (v := .ref (B + 95)) hC hW fl_X10_22 k0.1 (k0.2.2.1 (gfm s0) T B (r5 a0)) rfl dX10_undo_43 ?_
    refine gw_get (v := .int (r5 95 2)) hC hW fl_X10_394.1 k0.2.2.2.2.2.1.1 (k0.2.2.2.2.2.1.2.1 (gfm s0) T B (r5 95)) rfl dX10_undo_46 ?_
    cases h
    exact hend _ rfl dX10_undo_49 hW hS (Nat.le_of_ble_eq_true rfl) (Nat.le_of_ble_eq_true rfl)
  · replace h := ite_t c1 h
    cases h
    exact gx_throwW (k := 2) F hk hC hml hlocks htb hQ rfl hW hS dX10_undo_10 dX10_undo_13 dX10_undo_14 dX10_undo_17 dX10_undo_20 tw_X10_353_397_357 hl.1 (Nat.le_of_ble_eq_true rfl) (Nat.le_of_ble_eq_true rfl) ⟨Nat.le_of_ble_eq_true rfl, Nat.le_of_ble_eq_true rfl⟩ (Nat.le_of_ble_eq_true rfl) (Nat.le_of_ble_eq_true rfl)

theorem dX10_takeFault_0 : decode cX10_takeFault 0 = .ok (.aload_n 0, 1) := by decide +kernel
theorem dX10_takeFault_1 : decode cX10_takeFault 1 = .ok (.getfield 12, 3) := by decide +kernel
theorem dX10_takeFault_4 : decode cX10_takeFault 4 = .ok (.iload_n 1, 1) := by decide +kernel
theorem dX10_takeFault_5 : decode cX10_takeFault 5 = .ok (.invokevirtual 438, 3) := by decide +kernel
theorem dX10_takeFault_8 : decode cX10_takeFault 8 = .ok (.ifCond .ne 7, 3) := by decide +kernel
theorem dX10_takeFault_11 : decode cX10_takeFault 11 = .ok (.getstatic 408, 3) := by decide +kernel
theorem dX10_takeFault_14 : decode cX10_takeFault 14 = .ok (.areturn, 1) := by decide +kernel
theorem dX10_takeFault_15 : decode cX10_takeFault 15 = .ok (.aload_n 0, 1) := by decide +kernel
theorem dX10_takeFault_16 : decode cX10_takeFault 16 = .ok (.getfield 12, 3) := by decide +kernel
theorem dX10_takeFault_19 : decode cX10_takeFault 19 = .ok (.getfield 167, 3) := by decide +kernel
theorem dX10_takeFault_22 : decode cX10_takeFault 22 = .ok (.iload_n 1, 1) := by decide +kernel
theorem dX10_takeFault_23 : decode cX10_takeFault 23 = .ok (.aaload, 1) := by decide +kernel
theorem dX10_takeFault_24 : decode cX10_takeFault 24 = .ok (.getfield 276, 3) := by decide +kernel
theorem dX10_takeFault_27 : decode cX10_takeFault 27 = .ok (.ifCond .ne 9, 3) := by decide +kernel
theorem dX10_takeFault_30 : decode cX10_takeFault 30 = .ok (.getstatic 421, 3) := by decide +kernel
theorem dX10_takeFault_33 : decode cX10_takeFault 33 = .ok (.goto 6, 3) := by decide +kernel
theorem dX10_takeFault_36 : decode cX10_takeFault 36 = .ok (.getstatic 451, 3) := by decide +kernel
theorem dX10_takeFault_39 : decode cX10_takeFault 39 = .ok (.areturn, 1) := by decide +kernel
abbrev rmX10_takeFault : Room := { frames := 3, cells := 0, slots := 0, locals := 81 }
set_option maxHeartbeats 4000000 in
set_option maxRecDepth 100000 in
theorem metX10_takeFault {l : Launch} {s0 : State} {b B : Nat} {D : va_G} {T : Nat → ClassId} (F : FX l s0 b D T B) {X : Nat → Prop} (hX : ∀ o, o < 560 → ¬ X (B + o)) {N : Nat} {μ : Mem} {a0 : Nat} {a1 : Int32} {r : Nat} (k0 : IsGa a0) (h : fX10_takeFault N μ a0 a1 = some r) : gMet l yX10_takeFault cX10_takeFault 2 (some (.object "AvalancheGallery$Fault")) rmX10_takeFault [.ref (B + a0), .int a1] (gWC s0 D T B μ) (KC s0 X) (some (.ref (gfa s0 r))) (gWC s0 D T B μ) (gA B X) 0 0 := by
  refine gR_of RX10 (by decide +kernel) rfl (Nat.le_of_ble_eq_true rfl) ?_
  intro p e s m args below meth c ls Q hx hb hlocks hml hown hts hW hk hl hS hend
  have hC := FX_C F hk hx hb hown hts
  have hA := gA_all hX
  have hl : lv_has ls 2 [(0, .ref (B + a0)), (1, .int a1)] := hl
  unfold fX10_takeFault at h
  refine lv_aload_n hx hb dX10_takeFault_0 rfl (lv_at hl 0 rfl) ?_
  refine gw_get (v := .ref (B + 1)) hC hW fl_X10_12 k0.1 (k0.2.2.1 (gfm s0) T B (μ a0)) rfl dX10_takeFault_1 ?_
  refine lv_iload_n hx hb dX10_takeFault_4 rfl (lv_at hl 1 rfl) ?_
  obtain ⟨r1, hcall, h⟩ := bd_out h
  refine g0_callV (As := [.int a1]) hC hml hS hW (KC_at hk hS F.2.2.2.2) KC_blind (metX8_hasExhibit F hX k0.2.2.2.1 hcall) ml_X10_438 (gw_recv hC hW k0.2.2.2.1.1 (k0.2.2.2.1.2.1 (gfm s0) T B (μ 1)) rfl) ⟨rfl, rfl, (Nat.le_of_ble_eq_true rfl), (Nat.le_of_ble_eq_true rfl)⟩ rfl hl.1 rfl (Nat.le_of_ble_eq_true rfl) dX10_takeFault_5 ⟨(Nat.le_of_ble_eq_true rfl), (Nat.le_of_ble_eq_true rfl)⟩ (fun H locs hW hS => ?_)
  refine gw_if_neZ (tgt := 15) hx hb dX10_takeFault_8 (by decide) (fun c2 => ?_) (fun c2 => ?_)
  · replace h := cond_t c2 h
    refine lv_aload_n hx hb dX10_takeFault_15 rfl (lv_at hl 0 rfl) ?_
    refine gw_get (v := .ref (B + 1)) hC hW fl_X10_12 k0.1 (k0.2.2.1 (gfm s0) T B (μ a0)) rfl dX10_takeFault_16 ?_
    refine gw_get (v := .ref (B + (1 + 16))) hC hW fl_X10_167 k0.2.2.2.1.1 (k0.2.2.2.1.2.1 (gfm s0) T B (μ 1)) rfl dX10_takeFault_19 ?_
    refine lv_iload_n hx hb dX10_takeFault_22 rfl (lv_at hl 1 rfl) ?_
    obtain ⟨q3, e4, hq5, hi6, h⟩ := ar_o h
    refine gq_aald hC hW k0.2.2.2.1.2.2.2.2.2.1 (k0.2.2.2.1.2.2.2.2.2.2.1 (gfm s0) T B (μ (1 + 16))) (t0 := 5) rfl rfl e4 hi6 dX10_takeFault_23 ?_
    refine gw_get (v := .int (μ ((1 + 16) + 1 + 6 * q3) 6)) hC hW fl_X10_276.1 (k0.2.2.2.1.2.2.2.2.2.2.2 q3 hq5).1 ((k0.2.2.2.1.2.2.2.2.2.2.2 q3 hq5).2.1 (gfm s0) T B (μ ((1 + 16) + 1 + 6 * q3))) rfl dX10_takeFault_24 ?_
    obtain ⟨j8, hj10, h⟩ := jn1_o h
    have J9 : ∀ (y7 : Nat), j8 y7 = some r → ∀ (H : Heap) (locs : List Loc) (ls : Array Slot), gWC s0 D T B μ H → va_S (gA B X) s.heap H locs → lv_has ls 2 [] → W p l e rmX10_takeFault s m args below meth c H locs 0 0 Q (F0 m 39 ls [.ref (gfa s0 y7)]) := by
      clear h hW hS hl
      intro y7 h H locs ls hW hS hl
      replace h := (hj10 y7).symm.trans h
      cases h
      exact hend dX10_takeFault_39 hW hS (Nat.le_of_ble_eq_true rfl) (Nat.le_of_ble_eq_true rfl)
    refine lv_if_ne (tgt := 36) hx hb dX10_takeFault_27 (by decide) (fun c11 => ?_) (fun c11 => ?_)
    · replace h := ite_f c11 h
      refine gw_gets hC (zF_0 F hk) hS fs_X10_451 dX10_takeFault_36 ?_
      exact J9 _ h _ _ _ hW hS (lv_sub hl [] rfl)
    · replace h := ite_t c11 h
      refine gw_gets hC (zF_3 F hk) hS fs_X10_421 dX10_takeFault_30 ?_
      refine lv_goto (tgt := 39) hx hb dX10_takeFault_33 (by decide) ?_
      exact J9 _ h _ _ _ hW hS (lv_sub hl [] rfl)
  · replace h := cond_f c2 h
    refine gw_gets hC (zF_1 F hk) hS fs_X10_408 dX10_takeFault_11 ?_
    cases h
    exact hend dX10_takeFault_14 hW hS (Nat.le_of_ble_eq_true rfl) (Nat.le_of_ble_eq_true rfl)

theorem dX10_leastPassedAgrees_0 : decode cX10_leastPassedAgrees 0 = .ok (.iconst 0, 1) := by decide +kernel
theorem dX10_leastPassedAgrees_1 : decode cX10_leastPassedAgrees 1 = .ok (.istore_n 2, 1) := by decide +kernel
theorem dX10_leastPassedAgrees_2 : decode cX10_leastPassedAgrees 2 = .ok (.iload_n 2, 1) := by decide +kernel
theorem dX10_leastPassedAgrees_3 : decode cX10_leastPassedAgrees 3 = .ok (.aload_n 0, 1) := by decide +kernel
theorem dX10_leastPassedAgrees_4 : decode cX10_leastPassedAgrees 4 = .ok (.getfield 12, 3) := by decide +kernel
theorem dX10_leastPassedAgrees_7 : decode cX10_leastPassedAgrees 7 = .ok (.getfield 105, 3) := by decide +kernel
theorem dX10_leastPassedAgrees_10 : decode cX10_leastPassedAgrees 10 = .ok (.if_icmp .ge 40, 3) := by decide +kernel
theorem dX10_leastPassedAgrees_13 : decode cX10_leastPassedAgrees 13 = .ok (.aload_n 0, 1) := by decide +kernel
theorem dX10_leastPassedAgrees_14 : decode cX10_leastPassedAgrees 14 = .ok (.getfield 29, 3) := by decide +kernel
theorem dX10_leastPassedAgrees_17 : decode cX10_leastPassedAgrees 17 = .ok (.aload_n 0, 1) := by decide +kernel
theorem dX10_leastPassedAgrees_18 : decode cX10_leastPassedAgrees 18 = .ok (.getfield 12, 3) := by decide +kernel
theorem dX10_leastPassedAgrees_21 : decode cX10_leastPassedAgrees 21 = .ok (.aload_n 1, 1) := by decide +kernel
theorem dX10_leastPassedAgrees_22 : decode cX10_leastPassedAgrees 22 = .ok (.iload_n 2, 1) := by decide +kernel
theorem dX10_leastPassedAgrees_23 : decode cX10_leastPassedAgrees 23 = .ok (.invokevirtual 247, 3) := by decide +kernel
theorem dX10_leastPassedAgrees_26 : decode cX10_leastPassedAgrees 26 = .ok (.aload_n 0, 1) := by decide +kernel
theorem dX10_leastPassedAgrees_27 : decode cX10_leastPassedAgrees 27 = .ok (.getfield 29, 3) := by decide +kernel
theorem dX10_leastPassedAgrees_30 : decode cX10_leastPassedAgrees 30 = .ok (.aload_n 0, 1) := by decide +kernel
theorem dX10_leastPassedAgrees_31 : decode cX10_leastPassedAgrees 31 = .ok (.getfield 12, 3) := by decide +kernel
theorem dX10_leastPassedAgrees_34 : decode cX10_leastPassedAgrees 34 = .ok (.aload_n 1, 1) := by decide +kernel
theorem dX10_leastPassedAgrees_35 : decode cX10_leastPassedAgrees 35 = .ok (.iload_n 2, 1) := by decide +kernel
theorem dX10_leastPassedAgrees_36 : decode cX10_leastPassedAgrees 36 = .ok (.invokevirtual 251, 3) := by decide +kernel
theorem dX10_leastPassedAgrees_39 : decode cX10_leastPassedAgrees 39 = .ok (.if_icmp .eq 5, 3) := by decide +kernel
theorem dX10_leastPassedAgrees_42 : decode cX10_leastPassedAgrees 42 = .ok (.iconst 0, 1) := by decide +kernel
theorem dX10_leastPassedAgrees_43 : decode cX10_leastPassedAgrees 43 = .ok (.ireturn, 1) := by decide +kernel
theorem dX10_leastPassedAgrees_44 : decode cX10_leastPassedAgrees 44 = .ok (.iinc 2 1, 3) := by decide +kernel
theorem dX10_leastPassedAgrees_47 : decode cX10_leastPassedAgrees 47 = .ok (.goto (-45), 3) := by decide +kernel
theorem dX10_leastPassedAgrees_50 : decode cX10_leastPassedAgrees 50 = .ok (.iconst 1, 1) := by decide +kernel
theorem dX10_leastPassedAgrees_51 : decode cX10_leastPassedAgrees 51 = .ok (.ireturn, 1) := by decide +kernel
abbrev rmX10_leastPassedAgrees : Room := { frames := 5, cells := 0, slots := 0, locals := 133 }
set_option maxHeartbeats 4000000 in
set_option maxRecDepth 100000 in
theorem metX10_leastPassedAgrees {l : Launch} {s0 : State} {b B : Nat} {D : va_G} {T : Nat → ClassId} (F : FX l s0 b D T B) {X : Nat → Prop} (hX : ∀ o, o < 560 → ¬ X (B + o)) {N : Nat} {μ : Mem} {a0 : Nat} {a1 : Nat} {r : Mem × Bool} (k0 : IsGa a0) (k1 : IsEx a1) (h : fX10_leastPassedAgrees N μ a0 a1 = some r) : gMet l yX10_leastPassedAgrees cX10_leastPassedAgrees 3 (some .boolean) rmX10_leastPassedAgrees [.ref (B + a0), .ref (B + a1)] (gWC s0 D T B μ) (KC s0 X) (some (.int (b2i r.2))) (gWC s0 D T B r.1) (gA B X) 0 0 := by
  refine gZ_of RX10 (by decide +kernel) rfl (Nat.le_of_ble_eq_true rfl) ?_
  intro p e s m args below meth c ls Q hx hb hlocks hml hown hts hW hk hl hS hend
  have hC := FX_C F hk hx hb hown hts
  have hA := gA_all hX
  have hl : lv_has ls 3 [(0, .ref (B + a0)), (1, .ref (B + a1))] := hl
  unfold fX10_leastPassedAgrees at h
  refine lv_iconst (v := 0) hx hb dX10_leastPassedAgrees_0 (by decide) ?_
  refine lv_istore_n (lv' := [(2, .int 0), (0, .ref (B + a0)), (1, .ref (B + a1))]) hx hb dX10_leastPassedAgrees_1 rfl hl (by decide) rfl (fun ls hl => ?_)
  refine fix2_ind (fun (x1 : Int32) (μ2 : Mem) => ∀ (H : Heap) (locs : List Loc) (ls : Array Slot), gWC s0 D T B μ2 H → va_S (gA B X) s.heap H locs → lv_has ls 3 [(0, .ref (B + a0)), (1, .ref (B + a1)), (2, .int x1)] → W p l e rmX10_leastPassedAgrees s m args below meth c H locs 0 0 Q (F0 m 2 ls [])) ?_ N _ _ h _ _ _ hW hS (lv_sub hl [1, 2, 0] rfl)
  clear h hW hS hl
  intro self3 IH4 x1 μ2 h H locs ls hW hS hl
  refine lv_iload_n hx hb dX10_leastPassedAgrees_2 rfl (lv_at hl 2 rfl) ?_
  refine lv_aload_n hx hb dX10_leastPassedAgrees_3 rfl (lv_at hl 0 rfl) ?_
  refine gw_get (v := .ref (B + 1)) hC hW fl_X10_12 k0.1 (k0.2.2.1 (gfm s0) T B (μ2 a0)) rfl dX10_leastPassedAgrees_4 ?_
  refine gw_get (v := .int (μ2 1 0)) hC hW fl_X10_105.1 k0.2.2.2.1.1 (k0.2.2.2.1.2.1 (gfm s0) T B (μ2 1)) rfl dX10_leastPassedAgrees_7 ?_
  refine lv_icmp_ge (tgt := 50) hx hb dX10_leastPassedAgrees_10 (by decide) (fun c5 => ?_) (fun c5 => ?_)
  · replace h := ite_t c5 h
    refine lv_iconst (v := 1) hx hb dX10_leastPassedAgrees_50 (by decide) ?_
    cases h
    exact hend dX10_leastPassedAgrees_51 hW hS (Nat.le_of_ble_eq_true rfl) (Nat.le_of_ble_eq_true rfl)
  · replace h := ite_f c5 h
    refine lv_aload_n hx hb dX10_leastPassedAgrees_13 rfl (lv_at hl 0 rfl) ?_
    refine gw_get (v := .ref (B + 520)) hC hW fl_X10_29 k0.1 (k0.2.2.1 (gfm s0) T B (μ2 a0)) rfl dX10_leastPassedAgrees_14 ?_
    refine lv_aload_n hx hb dX10_leastPassedAgrees_17 rfl (lv_at hl 0 rfl) ?_
    refine gw_get (v := .ref (B + 1)) hC hW fl_X10_12 k0.1 (k0.2.2.1 (gfm s0) T B (μ2 a0)) rfl dX10_leastPassedAgrees_18 ?_
    refine lv_aload_n hx hb dX10_leastPassedAgrees_21 rfl (lv_at hl 1 rfl) ?_
    refine lv_iload_n hx hb dX10_leastPassedAgrees_22 rfl (lv_at hl 2 rfl) ?_
    obtain ⟨r6, hcall, h⟩ := bd_out h
    refine g0_callV (As := [.ref (B + 1), .ref (B + a1), .int x1]) hC hml hS hW (KC_at hk hS F.2.2.2.2) KC_blind (metX9_passedBySettling F hX k0.2.2.2.2.2.2.1 k0.2.2.2.1 k1 hcall) ml_X10_247 (gw_recv hC hW k0.2.2.2.2.2.2.1.1 (k0.2.2.2.2.2.2.1.2.1 (gfm s0) T B (μ2 520)) rfl) ⟨rfl, rfl, (Nat.le_of_ble_eq_true rfl), (Nat.le_of_ble_eq_true rfl)⟩ rfl hl.1 rfl (Nat.le_of_ble_eq_true rfl) dX10_leastPassedAgrees_23 ⟨(Nat.le_of_ble_eq_true rfl), (Nat.le_of_ble_eq_true rfl)⟩ (fun H locs hW hS => ?_)
    refine lv_aload_n hx hb dX10_leastPassedAgrees_26 rfl (lv_at hl 0 rfl) ?_
    refine gw_get (v := .ref (B + 520)) hC hW fl_X10_29 k0.1 (k0.2.2.1 (gfm s0) T B (r6.1 a0)) rfl dX10_leastPassedAgrees_27 ?_
    refine lv_aload_n hx hb dX10_leastPassedAgrees_30 rfl (lv_at hl 0 rfl) ?_
    refine gw_get (v := .ref (B + 1)) hC hW fl_X10_12 k0.1 (k0.2.2.1 (gfm s0) T B (r6.1 a0)) rfl dX10_leastPassedAgrees_31 ?_
    refine lv_aload_n hx hb dX10_leastPassedAgrees_34 rfl (lv_at hl 1 rfl) ?_
    refine lv_iload_n hx hb dX10_leastPassedAgrees_35 rfl (lv_at hl 2 rfl) ?_
    obtain ⟨r7, hcall, h⟩ := bd_out h
    refine g0_callV (As := [.ref (B + 1), .ref (B + a1), .int x1]) hC hml hS hW (KC_at hk hS F.2.2.2.2) KC_blind (metX9_passedByRounds F hX k0.2.2.2.2.2.2.1 k0.2.2.2.1 k1 hcall) ml_X10_251 (gw_recv hC hW k0.2.2.2.2.2.2.1.1 (k0.2.2.2.2.2.2.1.2.1 (gfm s0) T B (r6.1 520)) rfl) ⟨rfl, rfl, (Nat.le_of_ble_eq_true rfl), (Nat.le_of_ble_eq_true rfl)⟩ rfl hl.1 rfl (Nat.le_of_ble_eq_true rfl) dX10_leastPassedAgrees_36 ⟨(Nat.le_of_ble_eq_true rfl), (Nat.le_of_ble_eq_true rfl)⟩ (fun H locs hW hS => ?_)
    refine lv_icmp_eq (tgt := 44) hx hb dX10_leastPassedAgrees_39 (by decide) (fun c8 => ?_) (fun c8 => ?_)
    · replace h := ite_t c8 h
      obtain ⟨v9, e10, h⟩ := lt_out h
      refine lv_iinc (v := v9) (lv' := [(2, .int v9), (0, .ref (B + a0)), (1, .ref (B + a1))]) hx hb dX10_leastPassedAgrees_44 hl (k := 2) rfl (by rw [e10]; rfl) (by decide) rfl (fun ls hl => ?_)
      refine lv_goto (tgt := 2) hx hb dX10_leastPassedAgrees_47 (by decide) ?_
      exact IH4 _ _ h _ _ _ hW hS (lv_sub hl [1, 2, 0] rfl)
    · replace h := ite_f c8 h
      refine lv_iconst (v := 0) hx hb dX10_leastPassedAgrees_42 (by decide) ?_
      cases h
      exact hend dX10_leastPassedAgrees_43 hW hS (Nat.le_of_ble_eq_true rfl) (Nat.le_of_ble_eq_true rfl)

theorem dX10_minutesAgree_0 : decode cX10_minutesAgree 0 = .ok (.aload_n 0, 1) := by decide +kernel
theorem dX10_minutesAgree_1 : decode cX10_minutesAgree 1 = .ok (.getfield 29, 3) := by decide +kernel
theorem dX10_minutesAgree_4 : decode cX10_minutesAgree 4 = .ok (.aload_n 0, 1) := by decide +kernel
theorem dX10_minutesAgree_5 : decode cX10_minutesAgree 5 = .ok (.getfield 12, 3) := by decide +kernel
theorem dX10_minutesAgree_8 : decode cX10_minutesAgree 8 = .ok (.invokevirtual 125, 3) := by decide +kernel
theorem dX10_minutesAgree_11 : decode cX10_minutesAgree 11 = .ok (.iconst 0, 1) := by decide +kernel
theorem dX10_minutesAgree_12 : decode cX10_minutesAgree 12 = .ok (.istore_n 1, 1) := by decide +kernel
theorem dX10_minutesAgree_13 : decode cX10_minutesAgree 13 = .ok (.iload_n 1, 1) := by decide +kernel
theorem dX10_minutesAgree_14 : decode cX10_minutesAgree 14 = .ok (.aload_n 0, 1) := by decide +kernel
theorem dX10_minutesAgree_15 : decode cX10_minutesAgree 15 = .ok (.getfield 12, 3) := by decide +kernel
theorem dX10_minutesAgree_18 : decode cX10_minutesAgree 18 = .ok (.getfield 105, 3) := by decide +kernel
theorem dX10_minutesAgree_21 : decode cX10_minutesAgree 21 = .ok (.if_icmp .ge 55, 3) := by decide +kernel
theorem dX10_minutesAgree_24 : decode cX10_minutesAgree 24 = .ok (.iconst 0, 1) := by decide +kernel
theorem dX10_minutesAgree_25 : decode cX10_minutesAgree 25 = .ok (.istore_n 2, 1) := by decide +kernel
theorem dX10_minutesAgree_26 : decode cX10_minutesAgree 26 = .ok (.iload_n 2, 1) := by decide +kernel
theorem dX10_minutesAgree_27 : decode cX10_minutesAgree 27 = .ok (.aload_n 0, 1) := by decide +kernel
theorem dX10_minutesAgree_28 : decode cX10_minutesAgree 28 = .ok (.getfield 12, 3) := by decide +kernel
theorem dX10_minutesAgree_31 : decode cX10_minutesAgree 31 = .ok (.getfield 105, 3) := by decide +kernel
theorem dX10_minutesAgree_34 : decode cX10_minutesAgree 34 = .ok (.if_icmp .ge 36, 3) := by decide +kernel
theorem dX10_minutesAgree_37 : decode cX10_minutesAgree 37 = .ok (.aload_n 0, 1) := by decide +kernel
theorem dX10_minutesAgree_38 : decode cX10_minutesAgree 38 = .ok (.getfield 29, 3) := by decide +kernel
theorem dX10_minutesAgree_41 : decode cX10_minutesAgree 41 = .ok (.aload_n 0, 1) := by decide +kernel
theorem dX10_minutesAgree_42 : decode cX10_minutesAgree 42 = .ok (.getfield 12, 3) := by decide +kernel
theorem dX10_minutesAgree_45 : decode cX10_minutesAgree 45 = .ok (.iload_n 1, 1) := by decide +kernel
theorem dX10_minutesAgree_46 : decode cX10_minutesAgree 46 = .ok (.iload_n 2, 1) := by decide +kernel
theorem dX10_minutesAgree_47 : decode cX10_minutesAgree 47 = .ok (.invokevirtual 118, 3) := by decide +kernel
theorem dX10_minutesAgree_50 : decode cX10_minutesAgree 50 = .ok (.aload_n 0, 1) := by decide +kernel
theorem dX10_minutesAgree_51 : decode cX10_minutesAgree 51 = .ok (.getfield 29, 3) := by decide +kernel
theorem dX10_minutesAgree_54 : decode cX10_minutesAgree 54 = .ok (.iload_n 1, 1) := by decide +kernel
theorem dX10_minutesAgree_55 : decode cX10_minutesAgree 55 = .ok (.iload_n 2, 1) := by decide +kernel
theorem dX10_minutesAgree_56 : decode cX10_minutesAgree 56 = .ok (.invokevirtual 129, 3) := by decide +kernel
theorem dX10_minutesAgree_59 : decode cX10_minutesAgree 59 = .ok (.if_icmp .eq 5, 3) := by decide +kernel
theorem dX10_minutesAgree_62 : decode cX10_minutesAgree 62 = .ok (.iconst 0, 1) := by decide +kernel
theorem dX10_minutesAgree_63 : decode cX10_minutesAgree 63 = .ok (.ireturn, 1) := by decide +kernel
theorem dX10_minutesAgree_64 : decode cX10_minutesAgree 64 = .ok (.iinc 2 1, 3) := by decide +kernel
theorem dX10_minutesAgree_67 : decode cX10_minutesAgree 67 = .ok (.goto (-41), 3) := by decide +kernel
theorem dX10_minutesAgree_70 : decode cX10_minutesAgree 70 = .ok (.iinc 1 1, 3) := by decide +kernel
theorem dX10_minutesAgree_73 : decode cX10_minutesAgree 73 = .ok (.goto (-60), 3) := by decide +kernel
theorem dX10_minutesAgree_76 : decode cX10_minutesAgree 76 = .ok (.iconst 1, 1) := by decide +kernel
theorem dX10_minutesAgree_77 : decode cX10_minutesAgree 77 = .ok (.ireturn, 1) := by decide +kernel
abbrev rmX10_minutesAgree : Room := { frames := 5, cells := 0, slots := 0, locals := 132 }
set_option maxHeartbeats 4000000 in
set_option maxRecDepth 100000 in
theorem metX10_minutesAgree {l : Launch} {s0 : State} {b B : Nat} {D : va_G} {T : Nat → ClassId} (F : FX l s0 b D T B) {X : Nat → Prop} (hX : ∀ o, o < 560 → ¬ X (B + o)) {N : Nat} {μ : Mem} {a0 : Nat} {r : Mem × Bool} (k0 : IsGa a0) (h : fX10_minutesAgree N μ a0 = some r) : gMet l yX10_minutesAgree cX10_minutesAgree 3 (some .boolean) rmX10_minutesAgree [.ref (B + a0)] (gWC s0 D T B μ) (KC s0 X) (some (.int (b2i r.2))) (gWC s0 D T B r.1) (gA B X) 0 0 := by
  refine gZ_of RX10 (by decide +kernel) rfl (Nat.le_of_ble_eq_true rfl) ?_
  intro p e s m args below meth c ls Q hx hb hlocks hml hown hts hW hk hl hS hend
  have hC := FX_C F hk hx hb hown hts
  have hA := gA_all hX
  have hl : lv_has ls 3 [(0, .ref (B + a0))] := hl
  unfold fX10_minutesAgree at h
  refine lv_aload_n hx hb dX10_minutesAgree_0 rfl (lv_at hl 0 rfl) ?_
  refine gw_get (v := .ref (B + 520)) hC hW fl_X10_29 k0.1 (k0.2.2.1 (gfm s0) T B (μ a0)) rfl dX10_minutesAgree_1 ?_
  refine lv_aload_n hx hb dX10_minutesAgree_4 rfl (lv_at hl 0 rfl) ?_
  refine gw_get (v := .ref (B + 1)) hC hW fl_X10_12 k0.1 (k0.2.2.1 (gfm s0) T B (μ a0)) rfl dX10_minutesAgree_5 ?_
  obtain ⟨r1, hcall, h⟩ := bd_out h
  refine g0_callV (As := [.ref (B + 1)]) hC hml hS hW (KC_at hk hS F.2.2.2.2) KC_blind (metX9_fillTable F hX k0.2.2.2.2.2.2.1 k0.2.2.2.1 hcall) ml_X10_125 (gw_recv hC hW k0.2.2.2.2.2.2.1.1 (k0.2.2.2.2.2.2.1.2.1 (gfm s0) T B (μ 520)) rfl) ⟨rfl, rfl, (Nat.le_of_ble_eq_true rfl), (Nat.le_of_ble_eq_true rfl)⟩ rfl hl.1 rfl (Nat.le_of_ble_eq_true rfl) dX10_minutesAgree_8 ⟨(Nat.le_of_ble_eq_true rfl), (Nat.le_of_ble_eq_true rfl)⟩ (fun H locs hW hS => ?_)
  refine lv_iconst (v := 0) hx hb dX10_minutesAgree_11 (by decide) ?_
  refine lv_istore_n (lv' := [(1, .int 0), (0, .ref (B + a0))]) hx hb dX10_minutesAgree_12 rfl hl (by decide) rfl (fun ls hl => ?_)
  refine fix2_ind (fun (x2 : Int32) (μ3 : Mem) => ∀ (H : Heap) (locs : List Loc) (ls : Array Slot), gWC s0 D T B μ3 H → va_S (gA B X) s.heap H locs → lv_has ls 3 [(0, .ref (B + a0)), (1, .int x2)] → W p l e rmX10_minutesAgree s m args below meth c H locs 0 0 Q (F0 m 13 ls [])) ?_ N _ _ h _ _ _ hW hS (lv_sub hl [1, 0] rfl)
  clear h hW hS hl
  intro self4 IH5 x2 μ3 h H locs ls hW hS hl
  refine lv_iload_n hx hb dX10_minutesAgree_13 rfl (lv_at hl 1 rfl) ?_
  refine lv_aload_n hx hb dX10_minutesAgree_14 rfl (lv_at hl 0 rfl) ?_
  refine gw_get (v := .ref (B + 1)) hC hW fl_X10_12 k0.1 (k0.2.2.1 (gfm s0) T B (μ3 a0)) rfl dX10_minutesAgree_15 ?_
  refine gw_get (v := .int (μ3 1 0)) hC hW fl_X10_105.1 k0.2.2.2.1.1 (k0.2.2.2.1.2.1 (gfm s0) T B (μ3 1)) rfl dX10_minutesAgree_18 ?_
  refine lv_icmp_ge (tgt := 76) hx hb dX10_minutesAgree_21 (by decide) (fun c6 => ?_) (fun c6 => ?_)
  · replace h := ite_t c6 h
    refine lv_iconst (v := 1) hx hb dX10_minutesAgree_76 (by decide) ?_
    cases h
    exact hend dX10_minutesAgree_77 hW hS (Nat.le_of_ble_eq_true rfl) (Nat.le_of_ble_eq_true rfl)
  · replace h := ite_f c6 h
    refine lv_iconst (v := 0) hx hb dX10_minutesAgree_24 (by decide) ?_
    refine lv_istore_n (lv' := [(2, .int 0), (0, .ref (B + a0)), (1, .int x2)]) hx hb dX10_minutesAgree_25 rfl hl (by decide) rfl (fun ls hl => ?_)
    refine fix2_ind (fun (x7 : Int32) (μ8 : Mem) => ∀ (H : Heap) (locs : List Loc) (ls : Array Slot), gWC s0 D T B μ8 H → va_S (gA B X) s.heap H locs → lv_has ls 3 [(0, .ref (B + a0)), (1, .int x2), (2, .int x7)] → W p l e rmX10_minutesAgree s m args below meth c H locs 0 0 Q (F0 m 26 ls [])) ?_ N _ _ h _ _ _ hW hS (lv_sub hl [1, 2, 0] rfl)
    clear h hW hS hl
    intro self9 IH10 x7 μ8 h H locs ls hW hS hl
    refine lv_iload_n hx hb dX10_minutesAgree_26 rfl (lv_at hl 2 rfl) ?_
    refine lv_aload_n hx hb dX10_minutesAgree_27 rfl (lv_at hl 0 rfl) ?_
    refine gw_get (v := .ref (B + 1)) hC hW fl_X10_12 k0.1 (k0.2.2.1 (gfm s0) T B (μ8 a0)) rfl dX10_minutesAgree_28 ?_
    refine gw_get (v := .int (μ8 1 0)) hC hW fl_X10_105.1 k0.2.2.2.1.1 (k0.2.2.2.1.2.1 (gfm s0) T B (μ8 1)) rfl dX10_minutesAgree_31 ?_
    refine lv_icmp_ge (tgt := 70) hx hb dX10_minutesAgree_34 (by decide) (fun c11 => ?_) (fun c11 => ?_)
    · replace h := ite_t c11 h
      obtain ⟨v12, e13, h⟩ := lt_out h
      refine lv_iinc (v := v12) (lv' := [(1, .int v12), (0, .ref (B + a0)), (2, .int x7)]) hx hb dX10_minutesAgree_70 hl (k := 1) rfl (by rw [e13]; rfl) (by decide) rfl (fun ls hl => ?_)
      refine lv_goto (tgt := 13) hx hb dX10_minutesAgree_73 (by decide) ?_
      exact IH5 _ _ h _ _ _ hW hS (lv_sub hl [1, 0] rfl)
    · replace h := ite_f c11 h
      refine lv_aload_n hx hb dX10_minutesAgree_37 rfl (lv_at hl 0 rfl) ?_
      refine gw_get (v := .ref (B + 520)) hC hW fl_X10_29 k0.1 (k0.2.2.1 (gfm s0) T B (μ8 a0)) rfl dX10_minutesAgree_38 ?_
      refine lv_aload_n hx hb dX10_minutesAgree_41 rfl (lv_at hl 0 rfl) ?_
      refine gw_get (v := .ref (B + 1)) hC hW fl_X10_12 k0.1 (k0.2.2.1 (gfm s0) T B (μ8 a0)) rfl dX10_minutesAgree_42 ?_
      refine lv_iload_n hx hb dX10_minutesAgree_45 rfl (lv_at hl 1 rfl) ?_
      refine lv_iload_n hx hb dX10_minutesAgree_46 rfl (lv_at hl 2 rfl) ?_
      obtain ⟨r14, hcall, h⟩ := bd_out h
      refine g0_callV (As := [.ref (B + 1), .int x2, .int x7]) hC hml hS hW (KC_at hk hS F.2.2.2.2) KC_blind (metX9_minutesBySettling F hX k0.2.2.2.2.2.2.1 k0.2.2.2.1 hcall) ml_X10_118 (gw_recv hC hW k0.2.2.2.2.2.2.1.1 (k0.2.2.2.2.2.2.1.2.1 (gfm s0) T B (μ8 520)) rfl) ⟨rfl, rfl, (Nat.le_of_ble_eq_true rfl), (Nat.le_of_ble_eq_true rfl)⟩ rfl hl.1 rfl (Nat.le_of_ble_eq_true rfl) dX10_minutesAgree_47 ⟨(Nat.le_of_ble_eq_true rfl), (Nat.le_of_ble_eq_true rfl)⟩ (fun H locs hW hS => ?_)
      refine lv_aload_n hx hb dX10_minutesAgree_50 rfl (lv_at hl 0 rfl) ?_
      refine gw_get (v := .ref (B + 520)) hC hW fl_X10_29 k0.1 (k0.2.2.1 (gfm s0) T B (r14.1 a0)) rfl dX10_minutesAgree_51 ?_
      refine lv_iload_n hx hb dX10_minutesAgree_54 rfl (lv_at hl 1 rfl) ?_
      refine lv_iload_n hx hb dX10_minutesAgree_55 rfl (lv_at hl 2 rfl) ?_
      obtain ⟨r15, hcall, h⟩ := bd_out h
      refine g0_callV (As := [.int x2, .int x7]) hC hml hS hW (KC_at hk hS F.2.2.2.2) KC_blind (metX9_minutesInTable F hX k0.2.2.2.2.2.2.1 hcall) ml_X10_129 (gw_recv hC hW k0.2.2.2.2.2.2.1.1 (k0.2.2.2.2.2.2.1.2.1 (gfm s0) T B (r14.1 520)) rfl) ⟨rfl, rfl, (Nat.le_of_ble_eq_true rfl), (Nat.le_of_ble_eq_true rfl)⟩ rfl hl.1 rfl (Nat.le_of_ble_eq_true rfl) dX10_minutesAgree_56 ⟨(Nat.le_of_ble_eq_true rfl), (Nat.le_of_ble_eq_true rfl)⟩ (fun H locs hW hS => ?_)
      refine lv_icmp_eq (tgt := 64) hx hb dX10_minutesAgree_59 (by decide) (fun c16 => ?_) (fun c16 => ?_)
      · replace h := ite_t c16 h
        obtain ⟨v17, e18, h⟩ := lt_out h
        refine lv_iinc (v := v17) (lv' := [(2, .int v17), (0, .ref (B + a0)), (1, .int x2)]) hx hb dX10_minutesAgree_64 hl (k := 2) rfl (by rw [e18]; rfl) (by decide) rfl (fun ls hl => ?_)
        refine lv_goto (tgt := 26) hx hb dX10_minutesAgree_67 (by decide) ?_
        exact IH10 _ _ h _ _ _ hW hS (lv_sub hl [1, 2, 0] rfl)
      · replace h := ite_f c16 h
        refine lv_iconst (v := 0) hx hb dX10_minutesAgree_62 (by decide) ?_
        cases h
        exact hend dX10_minutesAgree_63 hW hS (Nat.le_of_ble_eq_true rfl) (Nat.le_of_ble_eq_true rfl)
