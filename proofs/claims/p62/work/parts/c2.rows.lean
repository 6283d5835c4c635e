/-! What the law's wrappers answer of a state; the rows of its calls. -/
def SqZ (Z : Nat → Int32) (hs : List (Nat → Int32)) (t : List Nat) (A : Nat ⊕ Int32) : RSt := fun Z2 hs2 t2 out => Z2 = Z ∧ hs2 = hs ∧ t2 = t ∧ out = A
section AL
variable {Z : Nat → Int32} {k : Nat}
theorem aEx_l {x : Int32} {f : Nat → Int32} (h : aEx Z x f = .inl k) : k = 0 := by
  unfold aEx at h; split at h <;> cases h; rfl
theorem aExB_l {x : Int32} {f : Nat → Bool} (h : oB (aExB Z x f) = .inl k) : k = 0 := by
  unfold aExB at h; split at h <;> cases h; rfl
theorem aWarmth_l {x : Int32} (h : aWarmth Z x = .inl k) : k = 0 := by
  unfold aWarmth at h; split at h <;> cases h; rfl
theorem aPr_l {x y : Int32} {f : Nat → Nat → Nat ⊕ Int32} (hf : ∀ a b j, f a b = .inl j → j = 3) (h : aPr Z x y f = .inl k) : k = 0 ∨ k = 3 := by
  unfold aPr at h
  split at h
  · exact Or.inr (hf _ _ _ h)
  · cases h; exact Or.inl rfl
theorem npR_l {r : Int32} {j : Nat} (h : npR r = .inl j) : j = 3 := by
  unfold npR at h; split at h <;> cases h; rfl
theorem aLeg_l {g : Nat → Nat → Nat} {x y : Int32} (h : aLeg Z g x y = .inl k) : k = 0 ∨ k = 3 := aPr_l (fun a b j h => by
  split at h <;> cases h; rfl) h
theorem aMin_l {x y : Int32} (h : aMin Z x y = .inl k) : k = 0 ∨ k = 3 := aPr_l (fun a b j h => npR_l h) h
theorem aLegs_l {x y : Int32} (h : aLegs Z x y = .inl k) : k = 0 ∨ k = 3 := aPr_l (fun a b j h => by
  split at h <;> cases h; rfl) h
theorem aWay_l {x y z : Int32} (h : aWay Z x y z = .inl k) : k = 0 ∨ k = 3 := aPr_l (fun a b j h => by
  split at h
  · cases h; rfl
  · split at h <;> cases h; rfl) h
theorem aGrainsAt_l {x y z : Int32} (h : aGrainsAt Z x y z = .inl k) : k = 0 ∨ k = 1 := by
  unfold aGrainsAt at h
  split at h
  · split at h <;> cases h
    exact Or.inr rfl
  · cases h; exact Or.inl rfl
theorem aTop_l {x y z g : Int32} (h : aTop Z x y z g = .inl k) : k = 0 ∨ k = 1 := by
  unfold aTop at h
  split at h
  · split at h <;> cases h
    exact Or.inr rfl
  · cases h; exact Or.inl rfl
theorem aMelt_l {x y : Int32} (h : aMelt Z x y = .inl k) : k = 0 ∨ k = 3 := by
  unfold aMelt at h
  split at h
  · split at h <;> cases h
    exact Or.inr rfl
  · cases h; exact Or.inl rfl
theorem aLeast_l {x y : Int32} (h : aLeast Z x y = .inl k) : k = 0 ∨ k = 3 := by
  unfold aLeast at h
  split at h
  · exact Or.inr (npR_l h)
  · cases h; exact Or.inl rfl
end AL
noncomputable def wL_legMinutes (Z : Nat → Int32) (x1 x2 : Int32) : Int32 := wr [(0, (-11)), (3, (-13))] (aLeg Z (mZ Z) x1 x2)
theorem mq_legMinutes {l : Launch} {s0 : State} {b B : Nat} {D : va_G} {T : Nat → ClassId} (F : FX l s0 b D T B) {X : Nat → Prop} (hX : ∀ o, o < 561 → ¬ X (B + o)) {N : Nat} (hN : 1200000000000 ≤ N) {Z : Nat → Int32} {hs : List (Nat → Int32)} {t : List Nat} {x1 : Int32} {x2 : Int32} : gMetR l yL_legMinutes cL_legMinutes 4 hhL_legMinutes rmL_legMinutes [.ref (B + 0), .int x1, .int x2] (gZ s0 D T B X Z hs t) (KC s0 X) (gRS s0 D T B X (SqZ Z hs t (aLeg Z (mZ Z) x1 x2)) (wr [(0, (-11)), (3, (-13))])) (gA B X) 1 6 :=
  metL_legMinutes (N := N) F hX (S := SqZ Z hs t (aLeg Z (mZ Z) x1 x2)) (fun μ hP => (z_legMinutes (N := N) hP).mono (fun r hr => ⟨Z, hs, hr.1, rfl, rfl, rfl, hr.2⟩)) (fun Z2 hs2 t2 k h9 => aLeg_l (h9.2.2.2.symm))
noncomputable def wL_minutes (Z : Nat → Int32) (x1 x2 : Int32) : Int32 := wr [(0, (-11)), (3, (-13))] (aMin Z x1 x2)
theorem mq_minutes {l : Launch} {s0 : State} {b B : Nat} {D : va_G} {T : Nat → ClassId} (F : FX l s0 b D T B) {X : Nat → Prop} (hX : ∀ o, o < 561 → ¬ X (B + o)) {N : Nat} (hN : 1200000000000 ≤ N) {Z : Nat → Int32} {hs : List (Nat → Int32)} {t : List Nat} {x1 : Int32} {x2 : Int32} : gMetR l yL_minutes cL_minutes 4 hhL_minutes rmL_minutes [.ref (B + 0), .int x1, .int x2] (gZ s0 D T B X Z hs t) (KC s0 X) (gRS s0 D T B X (SqZ Z hs t (aMin Z x1 x2)) (wr [(0, (-11)), (3, (-13))])) (gA B X) 2 12 :=
  metL_minutes (N := N) F hX (S := SqZ Z hs t (aMin Z x1 x2)) (fun μ hP => (z_minutes (N := N) (by omega) hP).mono (fun r hr => ⟨Z, hs, hr.1, rfl, rfl, rfl, hr.2⟩)) (fun Z2 hs2 t2 k h9 => aMin_l (h9.2.2.2.symm))
noncomputable def wL_byTable (Z : Nat → Int32) (x1 x2 : Int32) : Int32 := wr [(0, (-11)), (3, (-13))] (aMin Z x1 x2)
theorem mq_byTable {l : Launch} {s0 : State} {b B : Nat} {D : va_G} {T : Nat → ClassId} (F : FX l s0 b D T B) {X : Nat → Prop} (hX : ∀ o, o < 561 → ¬ X (B + o)) {N : Nat} (hN : 1200000000000 ≤ N) {Z : Nat → Int32} {hs : List (Nat → Int32)} {t : List Nat} {x1 : Int32} {x2 : Int32} : gMetR l yL_byTable cL_byTable 4 hhL_byTable rmL_byTable [.ref (B + 0), .int x1, .int x2] (gZ s0 D T B X Z hs t) (KC s0 X) (gRS s0 D T B X (SqZ Z hs t (aMin Z x1 x2)) (wr [(0, (-11)), (3, (-13))])) (gA B X) 2 12 :=
  metL_byTable (N := N) F hX (S := SqZ Z hs t (aMin Z x1 x2)) (fun μ hP => (z_minutesByTable (N := N) (by omega) hP).mono (fun r hr => ⟨Z, hs, hr.1, rfl, rfl, rfl, hr.2⟩)) (fun Z2 hs2 t2 k h9 => aMin_l (h9.2.2.2.symm))
noncomputable def wL_wayLegs (Z : Nat → Int32) (x1 x2 : Int32) : Int32 := wr [(0, (-11)), (3, (-13))] (aLegs Z x1 x2)
theorem mq_wayLegs {l : Launch} {s0 : State} {b B : Nat} {D : va_G} {T : Nat → ClassId} (F : FX l s0 b D T B) {X : Nat → Prop} (hX : ∀ o, o < 561 → ¬ X (B + o)) {N : Nat} (hN : 1200000000000 ≤ N) {Z : Nat → Int32} {hs : List (Nat → Int32)} {t : List Nat} {x1 : Int32} {x2 : Int32} : gMetR l yL_wayLegs cL_wayLegs 4 hhL_wayLegs rmL_wayLegs [.ref (B + 0), .int x1, .int x2] (gZ s0 D T B X Z hs t) (KC s0 X) (gRS s0 D T B X (SqZ Z hs t (aLegs Z x1 x2)) (wr [(0, (-11)), (3, (-13))])) (gA B X) 2 12 :=
  metL_wayLegs (N := N) F hX (S := SqZ Z hs t (aLegs Z x1 x2)) (fun μ hP => (z_wayLegs (N := N) (by omega) hP).mono (fun r hr => ⟨Z, hs, hr.1, rfl, rfl, rfl, hr.2⟩)) (fun Z2 hs2 t2 k h9 => aLegs_l (h9.2.2.2.symm))
noncomputable def wL_wayRoom (Z : Nat → Int32) (x1 x2 x3 : Int32) : Int32 := wr [(0, (-11)), (3, (-13))] (aWay Z x1 x2 x3)
theorem mq_wayRoom {l : Launch} {s0 : State} {b B : Nat} {D : va_G} {T : Nat → ClassId} (F : FX l s0 b D T B) {X : Nat → Prop} (hX : ∀ o, o < 561 → ¬ X (B + o)) {N : Nat} (hN : 1200000000000 ≤ N) {Z : Nat → Int32} {hs : List (Nat → Int32)} {t : List Nat} {x1 : Int32} {x2 : Int32} {x3 : Int32} : gMetR l yL_wayRoom cL_wayRoom 5 hhL_wayRoom rmL_wayRoom [.ref (B + 0), .int x1, .int x2, .int x3] (gZ s0 D T B X Z hs t) (KC s0 X) (gRS s0 D T B X (SqZ Z hs t (aWay Z x1 x2 x3)) (wr [(0, (-11)), (3, (-13))])) (gA B X) 3 18 :=
  metL_wayRoom (N := N) F hX (S := SqZ Z hs t (aWay Z x1 x2 x3)) (fun μ hP => (z_wayRoom (N := N) (by omega) hP).mono (fun r hr => ⟨Z, hs, hr.1, rfl, rfl, rfl, hr.2⟩)) (fun Z2 hs2 t2 k h9 => aWay_l (h9.2.2.2.symm))
noncomputable def wL_legWarmth (Z : Nat → Int32) (x1 x2 : Int32) : Int32 := wr [(0, (-11)), (3, (-13))] (aLeg Z (hZ Z) x1 x2)
theorem mq_legWarmth {l : Launch} {s0 : State} {b B : Nat} {D : va_G} {T : Nat → ClassId} (F : FX l s0 b D T B) {X : Nat → Prop} (hX : ∀ o, o < 561 → ¬ X (B + o)) {N : Nat} (hN : 1200000000000 ≤ N) {Z : Nat → Int32} {hs : List (Nat → Int32)} {t : List Nat} {x1 : Int32} {x2 : Int32} : gMetR l yL_legWarmth cL_legWarmth 4 hhL_legWarmth rmL_legWarmth [.ref (B + 0), .int x1, .int x2] (gZ s0 D T B X Z hs t) (KC s0 X) (gRS s0 D T B X (SqZ Z hs t (aLeg Z (hZ Z) x1 x2)) (wr [(0, (-11)), (3, (-13))])) (gA B X) 1 6 :=
  metL_legWarmth (N := N) F hX (S := SqZ Z hs t (aLeg Z (hZ Z) x1 x2)) (fun μ hP => (z_legWarmth (N := N) hP).mono (fun r hr => ⟨Z, hs, hr.1, rfl, rfl, rfl, hr.2⟩)) (fun Z2 hs2 t2 k h9 => aLeg_l (h9.2.2.2.symm))
noncomputable def wL_warmth (Z : Nat → Int32) (x1 : Int32) : Int32 := wr [(0, (-11))] (aWarmth Z x1)
theorem mq_warmth {l : Launch} {s0 : State} {b B : Nat} {D : va_G} {T : Nat → ClassId} (F : FX l s0 b D T B) {X : Nat → Prop} (hX : ∀ o, o < 561 → ¬ X (B + o)) {N : Nat} (hN : 1200000000000 ≤ N) {Z : Nat → Int32} {hs : List (Nat → Int32)} {t : List Nat} {x1 : Int32} : gMetR l yL_warmth cL_warmth 3 hhL_warmth rmL_warmth [.ref (B + 0), .int x1] (gZ s0 D T B X Z hs t) (KC s0 X) (gRS s0 D T B X (SqZ Z hs t (aWarmth Z x1)) (wr [(0, (-11))])) (gA B X) 1 6 :=
  metL_warmth (N := N) F hX (S := SqZ Z hs t (aWarmth Z x1)) (fun μ hP => (z_warmth (N := N) hP).mono (fun r hr => ⟨Z, hs, hr.1, rfl, rfl, rfl, hr.2⟩)) (fun Z2 hs2 t2 k h9 => aWarmth_l (h9.2.2.2.symm))
noncomputable def wL_grains (Z : Nat → Int32) (x1 : Int32) : Int32 := wr [(0, (-11))] (aGrains Z x1)
theorem mq_grains {l : Launch} {s0 : State} {b B : Nat} {D : va_G} {T : Nat → ClassId} (F : FX l s0 b D T B) {X : Nat → Prop} (hX : ∀ o, o < 561 → ¬ X (B + o)) {N : Nat} (hN : 1200000000000 ≤ N) {Z : Nat → Int32} {hs : List (Nat → Int32)} {t : List Nat} {x1 : Int32} : gMetR l yL_grains cL_grains 3 hhL_grains rmL_grains [.ref (B + 0), .int x1] (gZ s0 D T B X Z hs t) (KC s0 X) (gRS s0 D T B X (SqZ Z hs t (aGrains Z x1)) (wr [(0, (-11))])) (gA B X) 1 6 :=
  metL_grains (N := N) F hX (S := SqZ Z hs t (aGrains Z x1)) (fun μ hP => (z_grains (N := N) (by omega) hP).mono (fun r hr => ⟨Z, hs, hr.1, rfl, rfl, rfl, hr.2⟩)) (fun Z2 hs2 t2 k h9 => aEx_l (h9.2.2.2.symm))
noncomputable def wL_dropped (Z : Nat → Int32) (x1 : Int32) : Int32 := wr [(0, (-11))] (aDropped Z x1)
theorem mq_dropped {l : Launch} {s0 : State} {b B : Nat} {D : va_G} {T : Nat → ClassId} (F : FX l s0 b D T B) {X : Nat → Prop} (hX : ∀ o, o < 561 → ¬ X (B + o)) {N : Nat} (hN : 1200000000000 ≤ N) {Z : Nat → Int32} {hs : List (Nat → Int32)} {t : List Nat} {x1 : Int32} : gMetR l yL_dropped cL_dropped 3 hhL_dropped rmL_dropped [.ref (B + 0), .int x1] (gZ s0 D T B X Z hs t) (KC s0 X) (gRS s0 D T B X (SqZ Z hs t (aDropped Z x1)) (wr [(0, (-11))])) (gA B X) 1 6 :=
  metL_dropped (N := N) F hX (S := SqZ Z hs t (aDropped Z x1)) (fun μ hP => (z_dropped (N := N) hP).mono (fun r hr => ⟨Z, hs, hr.1, rfl, rfl, rfl, hr.2⟩)) (fun Z2 hs2 t2 k h9 => aEx_l (h9.2.2.2.symm))
noncomputable def wL_spilled (Z : Nat → Int32) (x1 : Int32) : Int32 := wr [(0, (-11))] (aSpilled Z x1)
theorem mq_spilled {l : Launch} {s0 : State} {b B : Nat} {D : va_G} {T : Nat → ClassId} (F : FX l s0 b D T B) {X : Nat → Prop} (hX : ∀ o, o < 561 → ¬ X (B + o)) {N : Nat} (hN : 1200000000000 ≤ N) {Z : Nat → Int32} {hs : List (Nat → Int32)} {t : List Nat} {x1 : Int32} : gMetR l yL_spilled cL_spilled 3 hhL_spilled rmL_spilled [.ref (B + 0), .int x1] (gZ s0 D T B X Z hs t) (KC s0 X) (gRS s0 D T B X (SqZ Z hs t (aSpilled Z x1)) (wr [(0, (-11))])) (gA B X) 1 6 :=
  metL_spilled (N := N) F hX (S := SqZ Z hs t (aSpilled Z x1)) (fun μ hP => (z_spilled (N := N) hP).mono (fun r hr => ⟨Z, hs, hr.1, rfl, rfl, rfl, hr.2⟩)) (fun Z2 hs2 t2 k h9 => aEx_l (h9.2.2.2.symm))
noncomputable def wL_melted (Z : Nat → Int32) (x1 : Int32) : Int32 := wr [(0, (-11))] (aMelted Z x1)
theorem mq_melted {l : Launch} {s0 : State} {b B : Nat} {D : va_G} {T : Nat → ClassId} (F : FX l s0 b D T B) {X : Nat → Prop} (hX : ∀ o, o < 561 → ¬ X (B + o)) {N : Nat} (hN : 1200000000000 ≤ N) {Z : Nat → Int32} {hs : List (Nat → Int32)} {t : List Nat} {x1 : Int32} : gMetR l yL_melted cL_melted 3 hhL_melted rmL_melted [.ref (B + 0), .int x1] (gZ s0 D T B X Z hs t) (KC s0 X) (gRS s0 D T B X (SqZ Z hs t (aMelted Z x1)) (wr [(0, (-11))])) (gA B X) 1 6 :=
  metL_melted (N := N) F hX (S := SqZ Z hs t (aMelted Z x1)) (fun μ hP => (z_melted (N := N) hP).mono (fun r hr => ⟨Z, hs, hr.1, rfl, rfl, rfl, hr.2⟩)) (fun Z2 hs2 t2 k h9 => aEx_l (h9.2.2.2.symm))
noncomputable def wL_lasts (Z : Nat → Int32) (x1 : Int32) : Int32 := wr [(0, (-11))] (oB (aLasts Z x1))
theorem mq_lasts {l : Launch} {s0 : State} {b B : Nat} {D : va_G} {T : Nat → ClassId} (F : FX l s0 b D T B) {X : Nat → Prop} (hX : ∀ o, o < 561 → ¬ X (B + o)) {N : Nat} (hN : 1200000000000 ≤ N) {Z : Nat → Int32} {hs : List (Nat → Int32)} {t : List Nat} {x1 : Int32} : gMetR l yL_lasts cL_lasts 3 hhL_lasts rmL_lasts [.ref (B + 0), .int x1] (gZ s0 D T B X Z hs t) (KC s0 X) (gRS s0 D T B X (SqZ Z hs t (oB (aLasts Z x1))) (wr [(0, (-11))])) (gA B X) 1 6 :=
  metL_lasts (N := N) F hX (S := SqZ Z hs t (oB (aLasts Z x1))) (fun μ hP => (z_lasts (N := N) (by omega) hP).mono (fun r hr => ⟨Z, hs, hr.1, rfl, rfl, rfl, by rw [hr.2]⟩)) (fun Z2 hs2 t2 k h9 => aExB_l (h9.2.2.2.symm))
noncomputable def wL_byToppling (Z : Nat → Int32) (x1 : Int32) : Int32 := wr [(0, (-11))] (oB (aLasts Z x1))
theorem mq_byToppling {l : Launch} {s0 : State} {b B : Nat} {D : va_G} {T : Nat → ClassId} (F : FX l s0 b D T B) {X : Nat → Prop} (hX : ∀ o, o < 561 → ¬ X (B + o)) {N : Nat} (hN : 1200000000000 ≤ N) {Z : Nat → Int32} {hs : List (Nat → Int32)} {t : List Nat} {x1 : Int32} : gMetR l yL_byToppling cL_byToppling 3 hhL_byToppling rmL_byToppling [.ref (B + 0), .int x1] (gZ s0 D T B X Z hs t) (KC s0 X) (gRS s0 D T B X (SqZ Z hs t (oB (aLasts Z x1))) (wr [(0, (-11))])) (gA B X) 1 6 :=
  metL_byToppling (N := N) F hX (S := SqZ Z hs t (oB (aLasts Z x1))) (fun μ hP => (z_lastsByToppling (N := N) (by omega) hP).mono (fun r hr => ⟨Z, hs, hr.1, rfl, rfl, rfl, by rw [hr.2]⟩)) (fun Z2 hs2 t2 k h9 => aExB_l (h9.2.2.2.symm))
noncomputable def wL_slope (Z : Nat → Int32) (x1 : Int32) : Int32 := wr [(0, (-11))] (aSlope Z x1)
theorem mq_slope {l : Launch} {s0 : State} {b B : Nat} {D : va_G} {T : Nat → ClassId} (F : FX l s0 b D T B) {X : Nat → Prop} (hX : ∀ o, o < 561 → ¬ X (B + o)) {N : Nat} (hN : 1200000000000 ≤ N) {Z : Nat → Int32} {hs : List (Nat → Int32)} {t : List Nat} {x1 : Int32} : gMetR l yL_slope cL_slope 3 hhL_slope rmL_slope [.ref (B + 0), .int x1] (gZ s0 D T B X Z hs t) (KC s0 X) (gRS s0 D T B X (SqZ Z hs t (aSlope Z x1)) (wr [(0, (-11))])) (gA B X) 1 6 :=
  metL_slope (N := N) F hX (S := SqZ Z hs t (aSlope Z x1)) (fun μ hP => (z_longestSlope (N := N) (by omega) hP).mono (fun r hr => ⟨Z, hs, hr.1, rfl, rfl, rfl, hr.2⟩)) (fun Z2 hs2 t2 k h9 => aEx_l (h9.2.2.2.symm))
noncomputable def wL_slopeByGrains (Z : Nat → Int32) (x1 : Int32) : Int32 := wr [(0, (-11))] (aSlope Z x1)
theorem mq_slopeByGrains {l : Launch} {s0 : State} {b B : Nat} {D : va_G} {T : Nat → ClassId} (F : FX l s0 b D T B) {X : Nat → Prop} (hX : ∀ o, o < 561 → ¬ X (B + o)) {N : Nat} (hN : 1200000000000 ≤ N) {Z : Nat → Int32} {hs : List (Nat → Int32)} {t : List Nat} {x1 : Int32} : gMetR l yL_slopeByGrains cL_slopeByGrains 3 hhL_slopeByGrains rmL_slopeByGrains [.ref (B + 0), .int x1] (gZ s0 D T B X Z hs t) (KC s0 X) (gRS s0 D T B X (SqZ Z hs t (aSlope Z x1)) (wr [(0, (-11))])) (gA B X) 1 6 :=
  metL_slopeByGrains (N := N) F hX (S := SqZ Z hs t (aSlope Z x1)) (fun μ hP => (z_longestSlopeByGrains (N := N) (by omega) hP).mono (fun r hr => ⟨Z, hs, hr.1, rfl, rfl, rfl, hr.2⟩)) (fun Z2 hs2 t2 k h9 => aEx_l (h9.2.2.2.symm))
noncomputable def wL_topplings (Z : Nat → Int32) (x1 x2 x3 x4 : Int32) : Int32 := wr [(0, (-11)), (1, (-12))] (aTop Z x1 x2 x3 x4)
theorem mq_topplings {l : Launch} {s0 : State} {b B : Nat} {D : va_G} {T : Nat → ClassId} (F : FX l s0 b D T B) {X : Nat → Prop} (hX : ∀ o, o < 561 → ¬ X (B + o)) {N : Nat} (hN : 1200000000000 ≤ N) {Z : Nat → Int32} {hs : List (Nat → Int32)} {t : List Nat} {x1 : Int32} {x2 : Int32} {x3 : Int32} {x4 : Int32} : gMetR l yL_topplings cL_topplings 6 hhL_topplings rmL_topplings [.ref (B + 0), .int x1, .int x2, .int x3, .int x4] (gZ s0 D T B X Z hs t) (KC s0 X) (gRS s0 D T B X (SqZ Z hs t (aTop Z x1 x2 x3 x4)) (wr [(0, (-11)), (1, (-12))])) (gA B X) 1 6 :=
  metL_topplings (N := N) F hX (S := SqZ Z hs t (aTop Z x1 x2 x3 x4)) (fun μ hP => (z_topplingsIf (N := N) (by omega) hP).mono (fun r hr => ⟨Z, hs, hr.1, rfl, rfl, rfl, hr.2⟩)) (fun Z2 hs2 t2 k h9 => aTop_l (h9.2.2.2.symm))
noncomputable def wL_byRounds (Z : Nat → Int32) (x1 x2 x3 x4 : Int32) : Int32 := wr [(0, (-11)), (1, (-12))] (aTop Z x1 x2 x3 x4)
theorem mq_byRounds {l : Launch} {s0 : State} {b B : Nat} {D : va_G} {T : Nat → ClassId} (F : FX l s0 b D T B) {X : Nat → Prop} (hX : ∀ o, o < 561 → ¬ X (B + o)) {N : Nat} (hN : 1200000000000 ≤ N) {Z : Nat → Int32} {hs : List (Nat → Int32)} {t : List Nat} {x1 : Int32} {x2 : Int32} {x3 : Int32} {x4 : Int32} : gMetR l yL_byRounds cL_byRounds 6 hhL_byRounds rmL_byRounds [.ref (B + 0), .int x1, .int x2, .int x3, .int x4] (gZ s0 D T B X Z hs t) (KC s0 X) (gRS s0 D T B X (SqZ Z hs t (aTop Z x1 x2 x3 x4)) (wr [(0, (-11)), (1, (-12))])) (gA B X) 1 6 :=
  metL_byRounds (N := N) F hX (S := SqZ Z hs t (aTop Z x1 x2 x3 x4)) (fun μ hP => (z_topplingsIfByRounds (N := N) (by omega) hP).mono (fun r hr => ⟨Z, hs, hr.1, rfl, rfl, rfl, hr.2⟩)) (fun Z2 hs2 t2 k h9 => aTop_l (h9.2.2.2.symm))
noncomputable def wL_grainsAt (Z : Nat → Int32) (x1 x2 x3 : Int32) : Int32 := wr [(0, (-11)), (1, (-12))] (aGrainsAt Z x1 x2 x3)
theorem mq_grainsAt {l : Launch} {s0 : State} {b B : Nat} {D : va_G} {T : Nat → ClassId} (F : FX l s0 b D T B) {X : Nat → Prop} (hX : ∀ o, o < 561 → ¬ X (B + o)) {N : Nat} (hN : 1200000000000 ≤ N) {Z : Nat → Int32} {hs : List (Nat → Int32)} {t : List Nat} {x1 : Int32} {x2 : Int32} {x3 : Int32} : gMetR l yL_grainsAt cL_grainsAt 5 hhL_grainsAt rmL_grainsAt [.ref (B + 0), .int x1, .int x2, .int x3] (gZ s0 D T B X Z hs t) (KC s0 X) (gRS s0 D T B X (SqZ Z hs t (aGrainsAt Z x1 x2 x3)) (wr [(0, (-11)), (1, (-12))])) (gA B X) 2 12 :=
  metL_grainsAt (N := N) F hX (S := SqZ Z hs t (aGrainsAt Z x1 x2 x3)) (fun μ hP => (z_grainsAt (N := N) hP).mono (fun r hr => ⟨Z, hs, hr.1, rfl, rfl, rfl, hr.2⟩)) (fun Z2 hs2 t2 k h9 => aGrainsAt_l (h9.2.2.2.symm))
noncomputable def wL_roomOf (Z : Nat → Int32) (x1 : Int32) : Int32 := wr [(0, (-11))] (aRoomOf Z x1)
theorem mq_roomOf {l : Launch} {s0 : State} {b B : Nat} {D : va_G} {T : Nat → ClassId} (F : FX l s0 b D T B) {X : Nat → Prop} (hX : ∀ o, o < 561 → ¬ X (B + o)) {N : Nat} (hN : 1200000000000 ≤ N) {Z : Nat → Int32} {hs : List (Nat → Int32)} {t : List Nat} {x1 : Int32} : gMetR l yL_roomOf cL_roomOf 3 hhL_roomOf rmL_roomOf [.ref (B + 0), .int x1] (gZ s0 D T B X Z hs t) (KC s0 X) (gRS s0 D T B X (SqZ Z hs t (aRoomOf Z x1)) (wr [(0, (-11))])) (gA B X) 1 6 :=
  metL_roomOf (N := N) F hX (S := SqZ Z hs t (aRoomOf Z x1)) (fun μ hP => (z_roomOf (N := N) hP).mono (fun r hr => ⟨Z, hs, hr.1, rfl, rfl, rfl, hr.2⟩)) (fun Z2 hs2 t2 k h9 => aEx_l (h9.2.2.2.symm))
noncomputable def wL_limit (Z : Nat → Int32) (x1 : Int32) : Int32 := wr [(0, (-11))] (aLimit Z x1)
theorem mq_limit {l : Launch} {s0 : State} {b B : Nat} {D : va_G} {T : Nat → ClassId} (F : FX l s0 b D T B) {X : Nat → Prop} (hX : ∀ o, o < 561 → ¬ X (B + o)) {N : Nat} (hN : 1200000000000 ≤ N) {Z : Nat → Int32} {hs : List (Nat → Int32)} {t : List Nat} {x1 : Int32} : gMetR l yL_limit cL_limit 3 hhL_limit rmL_limit [.ref (B + 0), .int x1] (gZ s0 D T B X Z hs t) (KC s0 X) (gRS s0 D T B X (SqZ Z hs t (aLimit Z x1)) (wr [(0, (-11))])) (gA B X) 1 6 :=
  metL_limit (N := N) F hX (S := SqZ Z hs t (aLimit Z x1)) (fun μ hP => (z_limit (N := N) hP).mono (fun r hr => ⟨Z, hs, hr.1, rfl, rfl, rfl, hr.2⟩)) (fun Z2 hs2 t2 k h9 => aEx_l (h9.2.2.2.symm))
noncomputable def wL_meltIfSent (Z : Nat → Int32) (x1 x2 : Int32) : Int32 := wr [(0, (-11)), (3, (-13))] (aMelt Z x1 x2)
theorem mq_meltIfSent {l : Launch} {s0 : State} {b B : Nat} {D : va_G} {T : Nat → ClassId} (F : FX l s0 b D T B) {X : Nat → Prop} (hX : ∀ o, o < 561 → ¬ X (B + o)) {N : Nat} (hN : 1200000000000 ≤ N) {Z : Nat → Int32} {hs : List (Nat → Int32)} {t : List Nat} {x1 : Int32} {x2 : Int32} : gMetR l yL_meltIfSent cL_meltIfSent 4 hhL_meltIfSent rmL_meltIfSent [.ref (B + 0), .int x1, .int x2] (gZ s0 D T B X Z hs t) (KC s0 X) (gRS s0 D T B X (SqZ Z hs t (aMelt Z x1 x2)) (wr [(0, (-11)), (3, (-13))])) (gA B X) 2 12 :=
  metL_meltIfSent (N := N) F hX (S := SqZ Z hs t (aMelt Z x1 x2)) (fun μ hP => (z_meltIfSent (N := N) (by omega) hP).mono (fun r hr => ⟨Z, hs, hr.1, rfl, rfl, rfl, hr.2⟩)) (fun Z2 hs2 t2 k h9 => aMelt_l (h9.2.2.2.symm))
noncomputable def wL_leastPassed (Z : Nat → Int32) (x1 x2 : Int32) : Int32 := wr [(0, (-11)), (3, (-13))] (aLeast Z x1 x2)
theorem mq_leastPassed {l : Launch} {s0 : State} {b B : Nat} {D : va_G} {T : Nat → ClassId} (F : FX l s0 b D T B) {X : Nat → Prop} (hX : ∀ o, o < 561 → ¬ X (B + o)) {N : Nat} (hN : 1200000000000 ≤ N) {Z : Nat → Int32} {hs : List (Nat → Int32)} {t : List Nat} {x1 : Int32} {x2 : Int32} : gMetR l yL_leastPassed cL_leastPassed 4 hhL_leastPassed rmL_leastPassed [.ref (B + 0), .int x1, .int x2] (gZ s0 D T B X Z hs t) (KC s0 X) (gRS s0 D T B X (SqZ Z hs t (aLeast Z x1 x2)) (wr [(0, (-11)), (3, (-13))])) (gA B X) 2 12 :=
  metL_leastPassed (N := N) F hX (S := SqZ Z hs t (aLeast Z x1 x2)) (fun μ hP => (z_leastPassed (N := N) (by omega) hP).mono (fun r hr => ⟨Z, hs, hr.1, rfl, rfl, rfl, hr.2⟩)) (fun Z2 hs2 t2 k h9 => aLeast_l (h9.2.2.2.symm))
noncomputable def wL_leastByRounds (Z : Nat → Int32) (x1 x2 : Int32) : Int32 := wr [(0, (-11)), (3, (-13))] (aLeast Z x1 x2)
theorem mq_leastByRounds {l : Launch} {s0 : State} {b B : Nat} {D : va_G} {T : Nat → ClassId} (F : FX l s0 b D T B) {X : Nat → Prop} (hX : ∀ o, o < 561 → ¬ X (B + o)) {N : Nat} (hN : 1200000000000 ≤ N) {Z : Nat → Int32} {hs : List (Nat → Int32)} {t : List Nat} {x1 : Int32} {x2 : Int32} : gMetR l yL_leastByRounds cL_leastByRounds 4 hhL_leastByRounds rmL_leastByRounds [.ref (B + 0), .int x1, .int x2] (gZ s0 D T B X Z hs t) (KC s0 X) (gRS s0 D T B X (SqZ Z hs t (aLeast Z x1 x2)) (wr [(0, (-11)), (3, (-13))])) (gA B X) 2 12 :=
  metL_leastByRounds (N := N) F hX (S := SqZ Z hs t (aLeast Z x1 x2)) (fun μ hP => (z_leastPassedByRounds (N := N) (by omega) hP).mono (fun r hr => ⟨Z, hs, hr.1, rfl, rfl, rfl, hr.2⟩)) (fun Z2 hs2 t2 k h9 => aLeast_l (h9.2.2.2.symm))
noncomputable def wL_bestFees (Z : Nat → Int32) (x1 : Int32) : Int32 := wr [(0, (-11))] (aFees Z x1)
theorem mq_bestFees {l : Launch} {s0 : State} {b B : Nat} {D : va_G} {T : Nat → ClassId} (F : FX l s0 b D T B) {X : Nat → Prop} (hX : ∀ o, o < 561 → ¬ X (B + o)) {N : Nat} (hN : 1200000000000 ≤ N) {Z : Nat → Int32} {hs : List (Nat → Int32)} {t : List Nat} {x1 : Int32} : gMetR l yL_bestFees cL_bestFees 3 hhL_bestFees rmL_bestFees [.ref (B + 0), .int x1] (gZ s0 D T B X Z hs t) (KC s0 X) (gRS s0 D T B X (SqZ Z hs t (aFees Z x1)) (wr [(0, (-11))])) (gA B X) 1 6 :=
  metL_bestFees (N := N) F hX (S := SqZ Z hs t (aFees Z x1)) (fun μ hP => (z_bestFees (N := N) (by omega) hP).mono (fun r hr => ⟨Z, hs, hr.1, rfl, rfl, rfl, hr.2⟩)) (fun Z2 hs2 t2 k h9 => aEx_l (h9.2.2.2.symm))
noncomputable def wL_byTrials (Z : Nat → Int32) (x1 : Int32) : Int32 := wr [(0, (-11))] (aFees Z x1)
theorem mq_byTrials {l : Launch} {s0 : State} {b B : Nat} {D : va_G} {T : Nat → ClassId} (F : FX l s0 b D T B) {X : Nat → Prop} (hX : ∀ o, o < 561 → ¬ X (B + o)) {N : Nat} (hN : 1200000000000 ≤ N) {Z : Nat → Int32} {hs : List (Nat → Int32)} {t : List Nat} {x1 : Int32} : gMetR l yL_byTrials cL_byTrials 3 hhL_byTrials rmL_byTrials [.ref (B + 0), .int x1] (gZ s0 D T B X Z hs t) (KC s0 X) (gRS s0 D T B X (SqZ Z hs t (aFees Z x1)) (wr [(0, (-11))])) (gA B X) 1 6 :=
  metL_byTrials (N := N) F hX (S := SqZ Z hs t (aFees Z x1)) (fun μ hP => (z_bestFeesByTrials (N := N) (by omega) hP).mono (fun r hr => ⟨Z, hs, hr.1, rfl, rfl, rfl, hr.2⟩)) (fun Z2 hs2 t2 k h9 => aEx_l (h9.2.2.2.symm))
noncomputable def wL_asked (Z : Nat → Int32) (x1 : Int32) : Int32 := wr [(0, (-11))] (aAsked Z x1)
theorem mq_asked {l : Launch} {s0 : State} {b B : Nat} {D : va_G} {T : Nat → ClassId} (F : FX l s0 b D T B) {X : Nat → Prop} (hX : ∀ o, o < 561 → ¬ X (B + o)) {N : Nat} (hN : 1200000000000 ≤ N) {Z : Nat → Int32} {hs : List (Nat → Int32)} {t : List Nat} {x1 : Int32} : gMetR l yL_asked cL_asked 3 hhL_asked rmL_asked [.ref (B + 0), .int x1] (gZ s0 D T B X Z hs t) (KC s0 X) (gRS s0 D T B X (SqZ Z hs t (aAsked Z x1)) (wr [(0, (-11))])) (gA B X) 1 6 :=
  metL_asked (N := N) F hX (S := SqZ Z hs t (aAsked Z x1)) (fun μ hP => (z_askedCount (N := N) hP).mono (fun r hr => ⟨Z, hs, hr.1, rfl, rfl, rfl, hr.2⟩)) (fun Z2 hs2 t2 k h9 => aEx_l (h9.2.2.2.symm))
noncomputable def wL_taken (Z : Nat → Int32) (x1 : Int32) : Int32 := wr [(0, (-11))] (aTaken Z x1)
theorem mq_taken {l : Launch} {s0 : State} {b B : Nat} {D : va_G} {T : Nat → ClassId} (F : FX l s0 b D T B) {X : Nat → Prop} (hX : ∀ o, o < 561 → ¬ X (B + o)) {N : Nat} (hN : 1200000000000 ≤ N) {Z : Nat → Int32} {hs : List (Nat → Int32)} {t : List Nat} {x1 : Int32} : gMetR l yL_taken cL_taken 3 hhL_taken rmL_taken [.ref (B + 0), .int x1] (gZ s0 D T B X Z hs t) (KC s0 X) (gRS s0 D T B X (SqZ Z hs t (aTaken Z x1)) (wr [(0, (-11))])) (gA B X) 1 6 :=
  metL_taken (N := N) F hX (S := SqZ Z hs t (aTaken Z x1)) (fun μ hP => (z_takenCount (N := N) hP).mono (fun r hr => ⟨Z, hs, hr.1, rfl, rfl, rfl, hr.2⟩)) (fun Z2 hs2 t2 k h9 => aEx_l (h9.2.2.2.symm))
noncomputable def wL_isLent (Z : Nat → Int32) (x1 x2 : Int32) : Int32 := wr [(0, (-11))] (oB (aLent Z x1 x2))
theorem mq_isLent {l : Launch} {s0 : State} {b B : Nat} {D : va_G} {T : Nat → ClassId} (F : FX l s0 b D T B) {X : Nat → Prop} (hX : ∀ o, o < 561 → ¬ X (B + o)) {N : Nat} (hN : 1200000000000 ≤ N) {Z : Nat → Int32} {hs : List (Nat → Int32)} {t : List Nat} {x1 : Int32} {x2 : Int32} : gMetR l yL_isLent cL_isLent 4 hhL_isLent rmL_isLent [.ref (B + 0), .int x1, .int x2] (gZ s0 D T B X Z hs t) (KC s0 X) (gRS s0 D T B X (SqZ Z hs t (oB (aLent Z x1 x2))) (wr [(0, (-11))])) (gA B X) 1 6 :=
  metL_isLent (N := N) F hX (S := SqZ Z hs t (oB (aLent Z x1 x2))) (fun μ hP => (z_isLent (N := N) hP).mono (fun r hr => ⟨Z, hs, hr.1, rfl, rfl, rfl, by rw [hr.2]⟩)) (fun Z2 hs2 t2 k h9 => aExB_l (h9.2.2.2.symm))
theorem SqZ_o {Z : Nat → Int32} {hs : List (Nat → Int32)} {t : List Nat} {A : Nat ⊕ Int32} {Z2 : Nat → Int32} {hs2 : List (Nat → Int32)} {t2 : List Nat} {out : Nat ⊕ Int32} (h : SqZ Z hs t A Z2 hs2 t2 out) : Z2 = Z ∧ hs2 = hs ∧ t2 = t ∧ out = A := h
section ZR
variable {p : Program} {l : Launch} {e : Env} {R : Room} {s : State} {m : MethodId} {args : Array Value} {below : List Frame} {meth : Method} {c : Code} {H : Heap} {locs : List Loc} {cells slots : Nat} {Q : State → Prop}
variable {cc : ByteArray} {pc : Nat} {ls : Array Slot} {st rest As : List Value} {D : va_G} {own : String} {T : Nat → ClassId} {X : Nat → Prop} {b B : Nat} {s0 : State} {index ml nL n mc ms : Nat} {y : MethodName} {bb : ByteArray} {ret : Option FieldType} {rm : Room} {Z : Nat → Int32} {hs : List (Nat → Int32)} {t : List Nat}
/-- the law calls a wrapper that only asks -/
theorem gz_wr {hh : List (Nat × Nat × Nat × Nat)} {A : Nat ⊕ Int32} {L : List (Nat × Int32)} (F : FX l s0 b D T B) (hk : KC s0 X s) (hC : gC p c cc s m args own D vwCl (tysG T)) (hml : c.maxLocals = nL) (hS : va_S (gA B X) s.heap H locs) (hW : gZ s0 D T B X Z hs t H) (hM : gMetR l y bb ml hh rm As (gZ s0 D T B X Z hs t) (KC s0 X) (gRS s0 D T B X (SqZ Z hs t A) (wr L)) (gA B X) mc ms) (hw : gML own index y bb ml hh n) (hrm : gRm R rm ml mc ms)
    (hn : As.length = n) (hsz : ls.size = nL) (hst : st = As.reverse ++ rest) (hroom : (rest.map fun v => v.category).sum ≤ 8) (hdg : decode cc pc = .ok (.invokestatic index, 3)) (hf : cells + mc ≤ R.cells ∧ slots + ms ≤ R.slots)
    (kk : ∀ (H1 : Heap) (locs1 : List Loc), gZ s0 D T B X Z hs t H1 → va_S (gA B X) s.heap H1 locs1 → W p l e R s m args below meth c H1 locs1 (cells + mc) (slots + ms) Q (F0 m (pc + 3) ls (.int (wr L A) :: rest))) : W p l e R s m args below meth c H locs cells slots Q (F0 m pc ls st) :=
  gr_callS hC hml hS hW (KC_at hk hS F.2.2.2.2) KC_blind hM hw (fun _ h => h) hrm hn hsz hst hroom hdg hf (fun v H1 locs1 hq hS1 _ _ => by
    obtain ⟨Z2, hs2, t2, out, hS2, rfl, hZ⟩ := hq
    obtain ⟨rfl, rfl, rfl, rfl⟩ := hS2
    exact kk H1 locs1 hZ hS1)
/-- the law calls the gallery itself, which may throw, but does not here -/
theorem gz_dx {α : Type} {f : Mem → Option (Mem × (Nat ⊕ α))} {o : Nat ⊕ α → Nat ⊕ Option Value} {A : Nat ⊕ α} {v : α} {w : Value} (F : FX l s0 b D T B) (hX : ∀ o, o < 561 → ¬ X (B + o)) (hk : KC s0 X s) (hC : gC p c cc s m args own D vwCl (tysG T)) (hml : c.maxLocals = nL) (hS : va_S (gA B X) s.heap H locs) (hW : gZ s0 D T B X Z hs t H) (q : ∀ μ, PZ μ t Z hs → Ok (f μ) (fun r => PZ r.1 t Z hs ∧ r.2 = A)) (hM : ∀ (μ : Mem) (r : Mem × (Nat ⊕ α)), f μ = some r → ∀ X' : Nat → Prop, (∀ o, o < 560 → ¬ X' (B + o)) → gXMet l y bb ml ret rm (.ref (B + 0) :: As) (gWC s0 D T B μ) (KC s0 X') (o r.2) (gWC s0 D T B r.1) (gA B X') mc ms) (hA : A = .inr v) (ho : o (.inr v) = .inr (some w)) (hw : gMV own index y bb ml ret n) (hy : y.cls = RX10) (hrm : gRm R rm ml mc ms)
    (hn : As.length = n) (hsz : ls.size = nL) (hst : st = As.reverse ++ .ref (B + 0) :: rest) (hroom : (rest.map fun v => v.category).sum ≤ 8) (hdg : decode cc pc = .ok (.invokevirtual index, 3)) (hf : cells + mc ≤ R.cells ∧ slots + ms ≤ R.slots)
    (kk : ∀ (H1 : Heap) (locs1 : List Loc), gZ s0 D T B X Z hs t H1 → va_S (gA B X) s.heap H1 locs1 → W p l e R s m args below meth c H1 locs1 (cells + mc) (slots + ms) Q (F0 m (pc + 3) ls (w :: rest))) : W p l e R s m args below meth c H locs cells slots Q (F0 m pc ls st) := by
  obtain ⟨μ, cap, hg, hcap, hP⟩ := hW
  obtain ⟨r, hf9, hP2, hr⟩ := q μ hP
  have hr2 : o r.2 = .inr (some w) := by rw [hr, hA]; exact ho
  exact gs_callXV (out := o r.2) F hX hk hC hml hS hg (fun X9 hX9 => hM μ r hf9 X9 hX9) hw (by rw [hy]; exact gw_recv hC hg.1 is_Ga.1 (is_Ga.2.2.1 (gfm s0) T B (μ 0)) rfl) hrm hn hsz hst hroom hdg hf (fun v9 h9 H1 locs1 h1 h2 => by
    rw [hr2] at h9
    cases h9
    exact kk H1 locs1 ⟨r.1, cap, h1, hcap, hP2⟩ h2) (fun k9 h9 => by rw [hr2] at h9; cases h9)
/-- the law calls the gallery itself, which cannot throw -/
theorem gz_dv {α : Type} {f : Mem → Option α} {A : α} {w : α → Value} (F : FX l s0 b D T B) (hX : ∀ o, o < 561 → ¬ X (B + o)) (hk : KC s0 X s) (hC : gC p c cc s m args own D vwCl (tysG T)) (hml : c.maxLocals = nL) (hS : va_S (gA B X) s.heap H locs) (hW : gZ s0 D T B X Z hs t H) (q : ∀ μ, PZ μ t Z hs → Ok (f μ) (fun r => r = A)) (hM : ∀ (μ : Mem) (r : α), f μ = some r → ∀ X' : Nat → Prop, (∀ o, o < 560 → ¬ X' (B + o)) → gMet l y bb ml ret rm (.ref (B + 0) :: As) (gWC s0 D T B μ) (KC s0 X') (some (w r)) (gWC s0 D T B μ) (gA B X') 0 0) (hw : gMV own index y bb ml ret n) (hy : y.cls = RX10) (hrm : gRm R rm ml 0 0)
    (hn : As.length = n) (hsz : ls.size = nL) (hst : st = As.reverse ++ .ref (B + 0) :: rest) (hroom : (rest.map fun v => v.category).sum ≤ 8) (hdg : decode cc pc = .ok (.invokevirtual index, 3)) (hf : cells ≤ R.cells ∧ slots ≤ R.slots)
    (kk : ∀ (H1 : Heap) (locs1 : List Loc), gZ s0 D T B X Z hs t H1 → va_S (gA B X) s.heap H1 locs1 → W p l e R s m args below meth c H1 locs1 cells slots Q (F0 m (pc + 3) ls (w A :: rest))) : W p l e R s m args below meth c H locs cells slots Q (F0 m pc ls st) := by
  obtain ⟨μ, cap, hg, hcap, hP⟩ := hW
  obtain ⟨r, hf9, rfl⟩ := q μ hP
  exact gs_callV F hX hk hC hml hS hg (fun X9 hX9 => hM μ r hf9 X9 hX9) hw (by rw [hy]; exact gw_recv hC hg.1 is_Ga.1 (is_Ga.2.2.1 (gfm s0) T B (μ 0)) rfl) hrm hn hsz hst hroom hdg hf (fun H1 locs1 h1 h2 => kk H1 locs1 ⟨μ, cap, h1, hcap, hP⟩ h2)
theorem gz_di {α : Type} {f : Mem → Option (Mem × α)} {A : α} {w : α → Value} (F : FX l s0 b D T B) (hX : ∀ o, o < 561 → ¬ X (B + o)) (hk : KC s0 X s) (hC : gC p c cc s m args own D vwCl (tysG T)) (hml : c.maxLocals = nL) (hS : va_S (gA B X) s.heap H locs) (hW : gZ s0 D T B X Z hs t H) (q : ∀ μ, PZ μ t Z hs → Ok (f μ) (fun r => PZ r.1 t Z hs ∧ r.2 = A)) (hM : ∀ (μ : Mem) (r : Mem × α), f μ = some r → ∀ X' : Nat → Prop, (∀ o, o < 560 → ¬ X' (B + o)) → gMet l y bb ml ret rm (.ref (B + 0) :: As) (gWC s0 D T B μ) (KC s0 X') (some (w r.2)) (gWC s0 D T B r.1) (gA B X') 0 0) (hw : gMV own index y bb ml ret n) (hy : y.cls = RX10) (hrm : gRm R rm ml 0 0)
    (hn : As.length = n) (hsz : ls.size = nL) (hst : st = As.reverse ++ .ref (B + 0) :: rest) (hroom : (rest.map fun v => v.category).sum ≤ 8) (hdg : decode cc pc = .ok (.invokevirtual index, 3)) (hf : cells ≤ R.cells ∧ slots ≤ R.slots)
    (kk : ∀ (H1 : Heap) (locs1 : List Loc), gZ s0 D T B X Z hs t H1 → va_S (gA B X) s.heap H1 locs1 → W p l e R s m args below meth c H1 locs1 cells slots Q (F0 m (pc + 3) ls (w A :: rest))) : W p l e R s m args below meth c H locs cells slots Q (F0 m pc ls st) := by
  obtain ⟨μ, cap, hg, hcap, hP⟩ := hW
  obtain ⟨r, hf9, hP2, rfl⟩ := q μ hP
  exact gs_callV F hX hk hC hml hS hg (fun X9 hX9 => hM μ r hf9 X9 hX9) hw (by rw [hy]; exact gw_recv hC hg.1 is_Ga.1 (is_Ga.2.2.1 (gfm s0) T B (μ 0)) rfl) hrm hn hsz hst hroom hdg hf (fun H1 locs1 h1 h2 => kk H1 locs1 ⟨r.1, cap, h1, hcap, hP2⟩ h2)
/-- the law calls a method of its own -/
theorem gz_in {Wp Wq : Heap → Prop} {v : Option Value} (F : FX l s0 b D T B) (hk : KC s0 X s) (hC : gC p c cc s m args own D vwCl (tysG T)) (hml : c.maxLocals = nL) (hS : va_S (gA B X) s.heap H locs) (hW : Wp H) (hM : gMet l y bb ml ret rm As Wp (KC s0 X) v Wq (gA B X) mc ms) (hw : gMS own index y bb ml ret n) (hrm : gRm R rm ml mc ms)
    (hn : As.length = n) (hsz : ls.size = nL) (hst : st = As.reverse ++ rest) (hroom : (rest.map fun v => v.category).sum ≤ 8) (hdg : decode cc pc = .ok (.invokestatic index, 3)) (hf : cells + mc ≤ R.cells ∧ slots + ms ≤ R.slots)
    (kk : ∀ (H1 : Heap) (locs1 : List Loc), Wq H1 → va_S (gA B X) s.heap H1 locs1 → W p l e R s m args below meth c H1 locs1 (cells + mc) (slots + ms) Q (F0 m (pc + 3) ls (v.toList ++ rest))) : W p l e R s m args below meth c H locs cells slots Q (F0 m pc ls st) :=
  gw_callS hC hml hS hW (KC_at hk hS F.2.2.2.2) KC_blind hM hw (fun _ h => h) hrm hn hsz hst hroom hdg hf (fun H1 locs1 h1 h2 _ _ => kk H1 locs1 h1 h2)
theorem gw_lret {A : Nat → Prop} {Wq : Heap → Prop} {x : Int64} (hx : p.tables.exec = Jvm.exec) (hb : c.code = cc) (hr : meth.sig.returnType = some .long) (hlocks : meth.locks = false) (hW : Wq H) (hS : va_S A s.heap H locs) (hc : cells ≤ mc) (hs : slots ≤ ms) (hdg : decode cc pc = .ok (.lreturn, 1)) : W p l e R s m args below meth c H locs cells slots (MQ below (gQc (some (.long x)) Wq A) args s mc ms A) (F0 m pc ls [.long x]) :=
  W.widen hc hs (W.lret hx hb hr (fun t ht _ => ⟨rfl, by rw [ht]; exact hW, hS.F ht⟩) hS.2.2 hdg hlocks)
theorem gJ_of {A : Nat → Prop} {Wp Wq : Heap → Prop} {Ks : State → Prop} {vals : List Value} {x : Int64} (own : String) (hy : plainName y.cls = true) (ho : y.cls = own) (hL : (lg_sl vals).length ≤ ml)
    (body : gBody l bb ml own rm vals Wp Ks A (fun p e s m args below meth c Q => ∀ {H : Heap} {locs : List Loc} {cells slots pc : Nat} {ls : Array Slot}, decode bb pc = .ok (.lreturn, 1) → Wq H → va_S A s.heap H locs → cells ≤ mc → slots ≤ ms → W p l e rm s m args below meth c H locs cells slots Q (F0 m pc ls [.long x]))) : gMet l y bb ml (some .long) rm vals Wp Ks (some (.long x)) Wq A mc ms :=
  gMet_of own hy ho hL (fun p e s m below meth c ls hx hb hr hlocks hml hown hts _ hW hk hl hS => body p e s m _ below meth c ls _ hx hb hlocks hml hown hts hW hk hl hS (fun hd hW hS hc hs => gw_lret hx hb hr hlocks hW hS hc hs hd))
end ZR
def gR {α : Type} : Nat ⊕ α → Option α
  | .inl _ => none
  | .inr x => some x
theorem gR_o {α : Type} {A : Nat ⊕ α} {v : α} (h : gR A = some v) : A = .inr v := by
  cases A with
  | inl k => cases h
  | inr x => cases h; rfl
