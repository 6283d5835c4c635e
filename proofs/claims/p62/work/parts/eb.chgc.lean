/-! Pure layer: what the law's calls that change leave. -/
def CHS (L : List Nat) (Z : Nat → Int32) (hs : List (Nat → Int32)) (t : List Nat) (Fp : Nat → Prop) (E : (Nat → Int32) → Int32 → Prop) : RSt := fun Z2 hs2 t2 out => t2 = t ∧ ((∃ k, k ∈ L ∧ out = .inl k ∧ Z2 = Z ∧ hs2 = hs ∧ Fp k) ∨ ∃ v, out = .inr v ∧ hs2 = hsP hs Z ∧ E Z2 v)
theorem CHG.S {L : List Nat} {Z : Nat → Int32} {hs : List (Nat → Int32)} {t : List Nat} {Fp : Nat → Prop} {E : (Nat → Int32) → Int32 → Prop} {r : Mem × (Nat ⊕ Int32)} (h : CHG L t Z hs Fp E r) : ∃ Z2 hs2, PZ r.1 t Z2 hs2 ∧ CHS L Z hs t Fp E Z2 hs2 t r.2 := by
  rcases h with ⟨k, hk, e, hP, hf⟩ | ⟨v, Z', e, hP, hE⟩
  · exact ⟨Z, hs, hP, rfl, Or.inl ⟨k, hk, e, rfl, rfl, hf⟩⟩
  · exact ⟨Z', hsP hs Z, hP, rfl, Or.inr ⟨v, e, rfl, hE⟩⟩
theorem CHS_k {L : List Nat} {Z Z2 : Nat → Int32} {hs hs2 : List (Nat → Int32)} {t t2 : List Nat} {Fp : Nat → Prop} {E : (Nat → Int32) → Int32 → Prop} {k : Nat} (h : CHS L Z hs t Fp E Z2 hs2 t2 (.inl k)) : k ∈ L := by
  rcases h.2 with ⟨k2, hk, e, -⟩ | ⟨v, e, -⟩
  · cases e; exact hk
  · cases e
/-- a call that changes, in one number: refused below 0, or done -/
def gCH (s0 : State) (D : va_G) (T : Nat → ClassId) (B : Nat) (X : Nat → Prop) (Z : Nat → Int32) (hs : List (Nat → Int32)) (t : List Nat) (Fm : Int32 → Prop) (E : (Nat → Int32) → Int32 → Prop) : Value → Heap → Prop := fun v H => ∃ x Z2 hs2, v = .int x ∧ gZ s0 D T B X Z2 hs2 t H ∧ ((x < 0 ∧ Z2 = Z ∧ hs2 = hs ∧ Fm x) ∨ (¬ x < 0 ∧ hs2 = hsP hs Z ∧ E Z2 x))
theorem gCH_of {s0 : State} {D : va_G} {T : Nat → ClassId} {B : Nat} {X : Nat → Prop} {L : List Nat} {w : List (Nat × Int32)} {Z : Nat → Int32} {hs : List (Nat → Int32)} {t : List Nat} {Fp : Nat → Prop} {Fm : Int32 → Prop} {E : (Nat → Int32) → Int32 → Prop} {v : Value} {H : Heap} (hw : ∀ k, k ∈ L → (w.lookup k).getD 0 < 0) (hF : ∀ k, k ∈ L → Fp k → Fm ((w.lookup k).getD 0)) (hE : ∀ Z2 x, E Z2 x → ¬ x < 0) (h : gRS s0 D T B X (CHS L Z hs t Fp E) (wr w) v H) : gCH s0 D T B X Z hs t Fm E v H := by
  obtain ⟨Z2, hs2, t2, out, ⟨rfl, hS⟩, hv, hg⟩ := h
  rcases hS with ⟨k, hk, rfl, rfl, rfl, hf⟩ | ⟨x, rfl, rfl, hx⟩
  · exact ⟨_, Z2, hs2, hv, hg, Or.inl ⟨hw k hk, rfl, rfl, hF k hk hf⟩⟩
  · exact ⟨x, Z2, _, hv, hg, Or.inr ⟨hE _ _ hx, rfl, hx⟩⟩
theorem gZ_si {s0 : State} {D : va_G} {T : Nat → ClassId} {B : Nat} {X : Nat → Prop} {Z : Nat → Int32} {hs : List (Nat → Int32)} {t : List Nat} {H : Heap} (h : gZ s0 D T B X Z hs t H) : SI Z ∧ hs.length ≤ 8 := by
  obtain ⟨μ, cap, -, -, hP⟩ := h
  refine ⟨hP.si, ?_⟩
  obtain ⟨ν, -, -, -, h2, -⟩ := hP
  exact h2
section CHC
variable {l : Launch} {s0 : State} {b B : Nat} {D : va_G} {T : Nat → ClassId} {X : Nat → Prop} {N : Nat} {Z : Nat → Int32} {hs : List (Nat → Int32)} {t : List Nat} {Fp : Nat → Prop} {E : (Nat → Int32) → Int32 → Prop}
theorem mc_addRoom (F : FX l s0 b D T B) (hX : ∀ o, o < 561 → ¬ X (B + o)) (hN : 1200000000000 ≤ N) {a1 : Int32} (hF : ∀ μ k, RC μ 1 Z → (fun m => fX10_roomFault N m 0 a1) μ = some (k + 1) → Fp k) (hE : ∀ (m : Mem) (r : Mem × Int32) (Z' : Nat → Int32), RC m 1 Z → (fun m => fX10_roomFault N m 0 a1) m = some 0 → (fun m => fX8_putRoom N m 1 a1) m = some r → RC r.1 1 Z' → SI Z' → E Z' r.2) : gMetR l yL_addRoom cL_addRoom 3 hhL_addRoom rmL_addRoom [.ref (B + 0), .int a1] (gZ s0 D T B X Z hs t) (KC s0 X) (gRS s0 D T B X (CHS [1, 2] Z hs t Fp E) (wr [(1, (-1)), (2, (-2))])) (gA B X) 1 6 :=
  metL_addRoom (N := N) F hX (S := CHS [1, 2] Z hs t Fp E) (fun μ h => (c_addRoom (by omega) h (hF μ) hE).mono (fun _ h9 => CHG.S h9)) (fun Z2 hs2 t2 k h => by
    have h9 := CHS_k h
    simp only [List.mem_cons, List.not_mem_nil, or_false] at h9
    exact h9)
theorem mc_setWarmth (F : FX l s0 b D T B) (hX : ∀ o, o < 561 → ¬ X (B + o)) (hN : 1200000000000 ≤ N) {a1 a2 : Int32} : gMetR l yL_setWarmth cL_setWarmth 4 hhL_setWarmth rmL_setWarmth [.ref (B + 0), .int a1, .int a2] (gZ s0 D T B X Z hs t) (KC s0 X) (gRS s0 D T B X (CHS [0, 1] Z hs t (fun _ => True) (EK Z)) (wr [(0, (-1)), (1, (-2))])) (gA B X) 2 12 :=
  metL_setWarmth (N := N) F hX (S := CHS [0, 1] Z hs t (fun _ => True) (EK Z)) (fun μ h => (c_setWarmth (by omega) h).mono (fun _ h9 => CHG.S h9)) (fun Z2 hs2 t2 k h => by
    have h9 := CHS_k h
    simp only [List.mem_cons, List.not_mem_nil, or_false] at h9
    exact h9)
theorem mc_setLeg (F : FX l s0 b D T B) (hX : ∀ o, o < 561 → ¬ X (B + o)) (hN : 1200000000000 ≤ N) {a1 a2 a3 a4 : Int32} (hF : ∀ μ k, RC μ 1 Z → (fun q => fX10_legFault N q 0 a1 a2 a3 a4) μ = some (k + 1) → Fp k) (hE : ∀ (m : Mem) (r : Mem × Int32) (Z' : Nat → Int32), RC m 1 Z → (fun q => fX10_legFault N q 0 a1 a2 a3 a4) m = some 0 → (fun q => fX8_putLeg N q 1 a1 a2 a3 a4) m = some r → RC r.1 1 Z' → SI Z' → E Z' r.2) : gMetR l yL_setLeg cL_setLeg 6 hhL_setLeg rmL_setLeg [.ref (B + 0), .int a1, .int a2, .int a3, .int a4] (gZ s0 D T B X Z hs t) (KC s0 X) (gRS s0 D T B X (CHS [0, 1] Z hs t Fp E) (wr [(0, (-1)), (1, (-2))])) (gA B X) 1 6 :=
  metL_setLeg (N := N) F hX (S := CHS [0, 1] Z hs t Fp E) (fun μ h => (c_setLeg (by omega) h (hF μ) hE).mono (fun _ h9 => CHG.S h9)) (fun Z2 hs2 t2 k h => by
    have h9 := CHS_k h
    simp only [List.mem_cons, List.not_mem_nil, or_false] at h9
    exact h9)
theorem mc_removeLeg (F : FX l s0 b D T B) (hX : ∀ o, o < 561 → ¬ X (B + o)) (hN : 1200000000000 ≤ N) {a1 a2 : Int32} (hF : ∀ μ k, RC μ 1 Z → (fun q => fX10_missingLegFault N q 0 a1 a2) μ = some (k + 1) → Fp k) (hE : ∀ (m : Mem) (r : Mem × Int32) (Z' : Nat → Int32), RC m 1 Z → (fun q => fX10_missingLegFault N q 0 a1 a2) m = some 0 → (fun q => fX8_putLeg N q 1 a1 a2 0 0) m = some r → RC r.1 1 Z' → SI Z' → E Z' r.2) : gMetR l yL_removeLeg cL_removeLeg 4 hhL_removeLeg rmL_removeLeg [.ref (B + 0), .int a1, .int a2] (gZ s0 D T B X Z hs t) (KC s0 X) (gRS s0 D T B X (CHS [0, 3] Z hs t Fp E) (wr [(0, (-1)), (3, (-2))])) (gA B X) 1 6 :=
  metL_removeLeg (N := N) F hX (S := CHS [0, 3] Z hs t Fp E) (fun μ h => (c_removeLeg (by omega) h (hF μ) hE).mono (fun _ h9 => CHG.S h9)) (fun Z2 hs2 t2 k h => by
    have h9 := CHS_k h
    simp only [List.mem_cons, List.not_mem_nil, or_false] at h9
    exact h9)
theorem mc_addExhibit (F : FX l s0 b D T B) (hX : ∀ o, o < 561 → ¬ X (B + o)) (hN : 1200000000000 ≤ N) {a1 a2 : Int32} (hF : ∀ μ k, RC μ 1 Z → (fun q => fX10_pileFault N q 0 a1 a2) μ = some (k + 1) → Fp k) (hE : ∀ (m : Mem) (r : Mem × Int32) (Z' : Nat → Int32), RC m 1 Z → (fun q => fX10_pileFault N q 0 a1 a2) m = some 0 → (fun q => fX8_putExhibit N q 1 a1 a2) m = some r → RC r.1 1 Z' → SI Z' → E Z' r.2) : gMetR l yL_addExhibit cL_addExhibit 4 hhL_addExhibit rmL_addExhibit [.ref (B + 0), .int a1, .int a2] (gZ s0 D T B X Z hs t) (KC s0 X) (gRS s0 D T B X (CHS [0, 1, 2] Z hs t Fp E) (wr [(0, (-1)), (1, (-2)), (2, (-3))])) (gA B X) 1 6 :=
  metL_addExhibit (N := N) F hX (S := CHS [0, 1, 2] Z hs t Fp E) (fun μ h => (c_addExhibit (by omega) h (hF μ) hE).mono (fun _ h9 => CHG.S h9)) (fun Z2 hs2 t2 k h => by
    have h9 := CHS_k h
    simp only [List.mem_cons, List.not_mem_nil, or_false] at h9
    exact h9)
theorem mc_setLimit (F : FX l s0 b D T B) (hX : ∀ o, o < 561 → ¬ X (B + o)) (hN : 1200000000000 ≤ N) {a1 a2 : Int32} : gMetR l yL_setLimit cL_setLimit 4 hhL_setLimit rmL_setLimit [.ref (B + 0), .int a1, .int a2] (gZ s0 D T B X Z hs t) (KC s0 X) (gRS s0 D T B X (CHS [0, 1] Z hs t (fun _ => True) (EK Z)) (wr [(0, (-1)), (1, (-2))])) (gA B X) 2 12 :=
  metL_setLimit (N := N) F hX (S := CHS [0, 1] Z hs t (fun _ => True) (EK Z)) (fun μ h => (c_setLimit (by omega) h).mono (fun _ h9 => CHG.S h9)) (fun Z2 hs2 t2 k h => by
    have h9 := CHS_k h
    simp only [List.mem_cons, List.not_mem_nil, or_false] at h9
    exact h9)
theorem mc_drop (F : FX l s0 b D T B) (hX : ∀ o, o < 561 → ¬ X (B + o)) (hN : 1200000000000 ≤ N) {a1 a2 a3 a4 : Int32} (hF : ∀ μ k, RC μ 1 Z → (fun q => fX10_dropFault N q 0 a1 a2 a3 a4) μ = some (k + 1) → Fp k) (hE : ∀ (m : Mem) (r : Mem × Int32) (Z' : Nat → Int32), RC m 1 Z → (fun q => fX10_dropFault N q 0 a1 a2 a3 a4) m = some 0 → (fun m => ar 5 a1 fun q7 => (fX10_placeAt N m a2 a3).bind fun r11 => fX6_fallOn N m 538 ((1 + 16) + 1 + 6 * q7) r11 a4) m = some r → RC r.1 1 Z' → SI Z' → E Z' r.2) : gMetR l yL_drop cL_drop 6 hhL_drop rmL_drop [.ref (B + 0), .int a1, .int a2, .int a3, .int a4] (gZ s0 D T B X Z hs t) (KC s0 X) (gRS s0 D T B X (CHS [0, 1] Z hs t Fp E) (wr [(0, (-1)), (1, (-2))])) (gA B X) 1 6 :=
  metL_drop (N := N) F hX (S := CHS [0, 1] Z hs t Fp E) (fun μ h => (c_drop (by omega) h (hF μ) hE).mono (fun _ h9 => CHG.S h9)) (fun Z2 hs2 t2 k h => by
    have h9 := CHS_k h
    simp only [List.mem_cons, List.not_mem_nil, or_false] at h9
    exact h9)
theorem mc_send (F : FX l s0 b D T B) (hX : ∀ o, o < 561 → ¬ X (B + o)) (hN : 1200000000000 ≤ N) {a1 a2 : Int32} (hF : ∀ μ k m0, RC μ 1 Z → (fun q => fX10_sendFault N q 0 a1 a2) μ = some (m0, k + 1) → Fp k) (hE : ∀ (μ m : Mem) (r : Mem × Int32) (Z' : Nat → Int32), RC m 1 Z → (RC μ 1 Z ∧ ∃ m0, (fun q => fX10_sendFault N q 0 a1 a2) μ = some (m0, 0)) → (fun m => ar 5 a1 fun q7 => fX10_carry N m 0 (1 + 16 + 1 + 6 * q7) a2) m = some r → RC r.1 1 Z' → SI Z' → E Z' r.2) : gMetR l yL_send cL_send 4 hhL_send rmL_send [.ref (B + 0), .int a1, .int a2] (gZ s0 D T B X Z hs t) (KC s0 X) (gRS s0 D T B X (CHS [0, 4] Z hs t Fp E) (wr [(0, (-1)), (4, (-2))])) (gA B X) 1 6 :=
  metL_send (N := N) F hX (S := CHS [0, 4] Z hs t Fp E) (fun μ h => (c_send (by omega) h (hF μ) (hE μ)).mono (fun _ h9 => CHG.S h9)) (fun Z2 hs2 t2 k h => by
    have h9 := CHS_k h
    simp only [List.mem_cons, List.not_mem_nil, or_false] at h9
    exact h9)
theorem mc_pass (F : FX l s0 b D T B) (hX : ∀ o, o < 561 → ¬ X (B + o)) (hN : 1200000000000 ≤ N) {a1 : Int32} (hF : ∀ μ k, RC μ 1 Z → (fun q => fX10_daysFault N q a1) μ = some (k + 1) → Fp k) (hE : ∀ (m : Mem) (r : Mem × Int32) (Z' : Nat → Int32), RC m 1 Z → (fun q => fX10_daysFault N q a1) m = some 0 → (fun q => fX8_letDaysPass N q 1 a1) m = some r → RC r.1 1 Z' → SI Z' → E Z' r.2) : gMetR l yL_pass cL_pass 3 hhL_pass rmL_pass [.ref (B + 0), .int a1] (gZ s0 D T B X Z hs t) (KC s0 X) (gRS s0 D T B X (CHS [1] Z hs t Fp E) (wr [(1, (-1))])) (gA B X) 1 6 :=
  metL_pass (N := N) F hX (S := CHS [1] Z hs t Fp E) (fun μ h => (c_passDays (by omega) h (hF μ) hE).mono (fun _ h9 => CHG.S h9)) (fun Z2 hs2 t2 k h => by
    have h9 := CHS_k h
    simp only [List.mem_cons, List.not_mem_nil, or_false] at h9
    exact h9)
theorem mc_ask (F : FX l s0 b D T B) (hX : ∀ o, o < 561 → ¬ X (B + o)) (hN : 1200000000000 ≤ N) {a1 a2 a3 a4 : Int32} (hF : ∀ μ k, RC μ 1 Z → (fun q => fX10_askFault N q 0 a1 a2 a3 a4) μ = some (k + 1) → Fp k) (hE : ∀ (m : Mem) (r : Mem × Int32) (Z' : Nat → Int32), RC m 1 Z → (fun q => fX10_askFault N q 0 a1 a2 a3 a4) m = some 0 → (fun m => ar 5 a1 fun q7 => fX1_noteLoan N m (1 + 16 + 1 + 6 * q7) a2 a3 a4) m = some r → RC r.1 1 Z' → SI Z' → E Z' r.2) : gMetR l yL_ask cL_ask 6 hhL_ask rmL_ask [.ref (B + 0), .int a1, .int a2, .int a3, .int a4] (gZ s0 D T B X Z hs t) (KC s0 X) (gRS s0 D T B X (CHS [0, 1, 2] Z hs t Fp E) (wr [(0, (-1)), (1, (-2)), (2, (-3))])) (gA B X) 1 6 :=
  metL_ask (N := N) F hX (S := CHS [0, 1, 2] Z hs t Fp E) (fun μ h => (c_ask (by omega) h (hF μ) hE).mono (fun _ h9 => CHG.S h9)) (fun Z2 hs2 t2 k h => by
    have h9 := CHS_k h
    simp only [List.mem_cons, List.not_mem_nil, or_false] at h9
    exact h9)
theorem mc_take (F : FX l s0 b D T B) (hX : ∀ o, o < 561 → ¬ X (B + o)) (hN : 1200000000000 ≤ N) {a1 : Int32} (hF : ∀ μ k, RC μ 1 Z → (fun q => fX10_takeFault N q 0 a1) μ = some (k + 1) → Fp k) (hE : ∀ (m : Mem) (r : Mem × Int32) (Z' : Nat → Int32), RC m 1 Z → (fun q => fX10_takeFault N q 0 a1) m = some 0 → (fun q => fX8_lend N q 1 a1) m = some r → RC r.1 1 Z' → SI Z' → E Z' r.2) : gMetR l yL_take cL_take 3 hhL_take rmL_take [.ref (B + 0), .int a1] (gZ s0 D T B X Z hs t) (KC s0 X) (gRS s0 D T B X (CHS [0, 2] Z hs t Fp E) (wr [(0, (-1)), (2, (-2))])) (gA B X) 1 6 :=
  metL_take (N := N) F hX (S := CHS [0, 2] Z hs t Fp E) (fun μ h => (c_takeBest (by omega) h (hF μ) hE).mono (fun _ h9 => CHG.S h9)) (fun Z2 hs2 t2 k h => by
    have h9 := CHS_k h
    simp only [List.mem_cons, List.not_mem_nil, or_false] at h9
    exact h9)
theorem mc_executes (F : FX l s0 b D T B) (hX : ∀ o, o < 561 → ¬ X (B + o)) (hN : 1200000000000 ≤ N) : gMetR l yL_executes cL_executes 2 hhL_executes rmL_executes [.ref (B + 0)] (gZ s0 D T B X Z hs t) (KC s0 X) (gRS s0 D T B X (CHS [1, 4] Z hs t (fun _ => True) (fun _ v => ¬ v < 0)) (wr [(1, (-1)), (4, (-2))])) (gA B X) 1 6 :=
  metL_executes (N := N) F hX (S := CHS [1, 4] Z hs t (fun _ => True) (fun _ v => ¬ v < 0)) (fun μ h => (c_execute hN h).mono (fun _ h9 => CHG.S h9)) (fun Z2 hs2 t2 k h => by
    have h9 := CHS_k h
    simp only [List.mem_cons, List.not_mem_nil, or_false] at h9
    exact h9)
theorem mc_feed (F : FX l s0 b D T B) (hX : ∀ o, o < 561 → ¬ X (B + o)) {ch : Nat} (hch : ch < 65536) : gMetR l yL_feed cL_feed 3 hhL_feed rmL_feed [.ref (B + 0), .int (nI ch)] (gZ s0 D T B X Z hs t) (KC s0 X) (gRS s0 D T B X (fun Z2 hs2 t2 out => t2 = t ∧ Z2 = Z ∧ hs2 = hs ∧ ((∃ v, out = .inr v) ∨ out = .inl 2)) (wr [(2, (-14))])) (gA B X) 1 6 :=
  metL_feed (N := 0) F hX (S := (fun Z2 hs2 t2 out => t2 = t ∧ Z2 = Z ∧ hs2 = hs ∧ ((∃ v, out = .inr v) ∨ out = .inl 2))) (fun μ h => (c_feed hch h).mono (fun _ h9 => ⟨Z, hs, h9.1, rfl, rfl, rfl, h9.2⟩)) (fun Z2 hs2 t2 k h => by
    rcases h.2.2.2 with ⟨v, e⟩ | e
    · cases e
    · cases e; rfl)
theorem mc_undo (F : FX l s0 b D T B) (hX : ∀ o, o < 561 → ¬ X (B + o)) (hN : 1200000000000 ≤ N) : gMetR l yL_undo cL_undo 2 hhL_undo rmL_undo [.ref (B + 0)] (gZ s0 D T B X Z hs t) (KC s0 X) (gRS s0 D T B X (fun Z2 hs2 t2 out => t2 = t ∧ ((hs = [] ∧ out = .inl 2 ∧ Z2 = Z ∧ hs2 = hs) ∨ ∃ v, hs = hs2 ++ [Z2] ∧ out = .inr (nI v) ∧ v ≤ 8)) (wr [(2, (-1))])) (gA B X) 1 6 :=
  metL_undo (N := N) F hX (S := (fun Z2 hs2 t2 out => t2 = t ∧ ((hs = [] ∧ out = .inl 2 ∧ Z2 = Z ∧ hs2 = hs) ∨ ∃ v, hs = hs2 ++ [Z2] ∧ out = .inr (nI v) ∧ v ≤ 8))) (fun μ h => (c_undo (by omega) h).mono (fun r h9 => by
    rcases h9 with ⟨e, e2, hP⟩ | ⟨v, Z', hs', e, e2, hv, hP⟩
    · exact ⟨Z, hs, hP, rfl, Or.inl ⟨e, e2, rfl, rfl⟩⟩
    · exact ⟨Z', hs', hP, rfl, Or.inr ⟨v, e, e2, hv⟩⟩)) (fun Z2 hs2 t2 k h => by
    rcases h.2 with ⟨-, e, -⟩ | ⟨v, -, e, -⟩
    · cases e; rfl
    · cases e)
end CHC
