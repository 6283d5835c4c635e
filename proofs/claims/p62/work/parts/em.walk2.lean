/-! Pure layer: four more calls for a walk. -/
section CV2
variable {l : Launch} {s0 : State} {b B : Nat} {D : va_G} {T : Nat → ClassId} {X : Nat → Prop} {N : Nat} {Z Z2 : Nat → Int32} {hs hs2 : List (Nat → Int32)} {t t2 : List Nat} {out : Nat ⊕ Int32} {H : Heap}
def V_setWarmth (_ : Nat → Int32) (_ _ : Int32) : Prop := False
theorem mv_setWarmth (F : FX l s0 b D T B) (hX : ∀ o, o < 561 → ¬ X (B + o)) (hN : 1200000000000 ≤ N) {a1 a2 : Int32} (_ : SI Z) : gMetR l yL_setWarmth cL_setWarmth 4 hhL_setWarmth rmL_setWarmth [.ref (B + 0), .int a1, .int a2] (gZ s0 D T B X Z hs t) (KC s0 X) (gRS s0 D T B X (CHS [0, 1] Z hs t (fun _ => True) (EK Z)) (wr [(0, (-1)), (1, (-2))])) (gA B X) 2 12 := mc_setWarmth F hX hN
theorem rr_setWarmth {a1 a2 : Int32} (_ : SI Z) (hS : CHS [0, 1] Z hs t (fun _ => True) (EK Z) Z2 hs2 t2 out) (hW : gZ s0 D T B X Z2 hs2 t2 H) : RCH Z hs (fun _ => ¬ V_setWarmth Z a1 a2) (EK Z) (wr [(0, (-1)), (1, (-2))] out) Z2 hs2 ∧ gZ s0 D T B X Z2 hs2 t H := RCH_of (by decide) (fun _ _ _ h => h) (fun _ _ h => EK_pos h) hS hW
def V_setLimit (_ : Nat → Int32) (_ _ : Int32) : Prop := False
theorem mv_setLimit (F : FX l s0 b D T B) (hX : ∀ o, o < 561 → ¬ X (B + o)) (hN : 1200000000000 ≤ N) {a1 a2 : Int32} (_ : SI Z) : gMetR l yL_setLimit cL_setLimit 4 hhL_setLimit rmL_setLimit [.ref (B + 0), .int a1, .int a2] (gZ s0 D T B X Z hs t) (KC s0 X) (gRS s0 D T B X (CHS [0, 1] Z hs t (fun _ => True) (EK Z)) (wr [(0, (-1)), (1, (-2))])) (gA B X) 2 12 := mc_setLimit F hX hN
theorem rr_setLimit {a1 a2 : Int32} (_ : SI Z) (hS : CHS [0, 1] Z hs t (fun _ => True) (EK Z) Z2 hs2 t2 out) (hW : gZ s0 D T B X Z2 hs2 t2 H) : RCH Z hs (fun _ => ¬ V_setLimit Z a1 a2) (EK Z) (wr [(0, (-1)), (1, (-2))] out) Z2 hs2 ∧ gZ s0 D T B X Z2 hs2 t H := RCH_of (by decide) (fun _ _ _ h => h) (fun _ _ h => EK_pos h) hS hW
/-- undoing, told in one number -/
def RUN (Z : Nat → Int32) (hs : List (Nat → Int32)) : Int32 → (Nat → Int32) → List (Nat → Int32) → Prop := fun x Z2 hs2 => SI Z2 ∧ ((x < 0 ∧ hs = [] ∧ Z2 = Z ∧ hs2 = hs) ∨ (¬ x < 0 ∧ hs = hs2 ++ [Z2]))
theorem mv_undo (F : FX l s0 b D T B) (hX : ∀ o, o < 561 → ¬ X (B + o)) (hN : 1200000000000 ≤ N) (_ : SI Z) : gMetR l yL_undo cL_undo 2 hhL_undo rmL_undo [.ref (B + 0)] (gZ s0 D T B X Z hs t) (KC s0 X) (gRS s0 D T B X (fun Z2 hs2 t2 out => t2 = t ∧ ((hs = [] ∧ out = .inl 2 ∧ Z2 = Z ∧ hs2 = hs) ∨ ∃ v, hs = hs2 ++ [Z2] ∧ out = .inr (nI v) ∧ v ≤ 8)) (wr [(2, (-1))])) (gA B X) 1 6 := mc_undo F hX hN
theorem rr_undo (_ : SI Z) (hS : (fun Z2 hs2 t2 out => t2 = t ∧ ((hs = [] ∧ out = .inl 2 ∧ Z2 = Z ∧ hs2 = hs) ∨ ∃ v, hs = hs2 ++ [Z2] ∧ out = .inr (nI v) ∧ v ≤ 8)) Z2 hs2 t2 out) (hW : gZ s0 D T B X Z2 hs2 t2 H) : RUN Z hs (wr [(2, (-1))] out) Z2 hs2 ∧ gZ s0 D T B X Z2 hs2 t H := by
  obtain ⟨rfl, hS⟩ := hS
  refine ⟨⟨(gZ_si hW).1, ?_⟩, hW⟩
  rcases hS with ⟨e1, rfl, rfl, rfl⟩ | ⟨v, e1, rfl, hv⟩
  · exact Or.inl ⟨by decide, e1, rfl, rfl⟩
  · exact Or.inr ⟨nI_pos (by omega), e1⟩
/-- the law's execute -/
theorem rr_execute {v : Value} (h : gCH s0 D T B X Z hs t (fun _ => True) (fun _ _ => True) v H) : ∃ x Z2 hs2, v = .int x ∧ RCH Z hs (fun _ => True) (fun _ _ => True) x Z2 hs2 ∧ gZ s0 D T B X Z2 hs2 t H := by
  obtain ⟨x, Z2, hs2, e, hW, hc⟩ := h
  exact ⟨x, Z2, hs2, e, ⟨(gZ_si hW).1, hc⟩, hW⟩
/-- what a change leaves, whatever it was: refused and the same, or one state more in the history -/
theorem RCH.hist {x : Int32} {Fm : Int32 → Prop} {E : (Nat → Int32) → Int32 → Prop} (h : RCH Z hs Fm E x Z2 hs2) : SI Z2 ∧ ((x < 0 ∧ Z2 = Z ∧ hs2 = hs) ∨ (¬ x < 0 ∧ hs2 = hsP hs Z)) := by
  obtain ⟨h1, ⟨h2, h3, h4, -⟩ | ⟨h2, h3, -⟩⟩ := h
  · exact ⟨h1, Or.inl ⟨h2, h3, h4⟩⟩
  · exact ⟨h1, Or.inr ⟨h2, h3⟩⟩
end CV2
