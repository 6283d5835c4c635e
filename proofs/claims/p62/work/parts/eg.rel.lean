/-! Pure layer: a walk whose calls are only related. -/
/-- holds or not, as an outcome -/
noncomputable def whn (c : Prop) : Option Unit := @ite (Option Unit) c (Classical.propDecidable c) (some ()) none
theorem whn_out {c : Prop} {r : Unit} (h : whn c = some r) : c := by
  by_cases hc : c
  · exact hc
  · unfold whn at h
    rw [if_neg hc] at h; cases h
theorem whn_in {c : Prop} (hc : c) : whn c = some () := by
  unfold whn
  exact if_pos hc
/-- what follows a call whose answer and state are only related -/
noncomputable def chR (R : Int32 → (Nat → Int32) → List (Nat → Int32) → Prop) (k : Int32 → (Nat → Int32) → List (Nat → Int32) → Option Unit) : Option Unit := whn (∀ x Z2 hs2, R x Z2 hs2 → k x Z2 hs2 = some ())
theorem chR_out {R : Int32 → (Nat → Int32) → List (Nat → Int32) → Prop} {k : Int32 → (Nat → Int32) → List (Nat → Int32) → Option Unit} {r : Unit} (h : chR R k = some r) {x : Int32} {Z2 : Nat → Int32} {hs2 : List (Nat → Int32)} (hR : R x Z2 hs2) : k x Z2 hs2 = some r := whn_out h x Z2 hs2 hR
theorem chR_in {R : Int32 → (Nat → Int32) → List (Nat → Int32) → Prop} {k : Int32 → (Nat → Int32) → List (Nat → Int32) → Option Unit} (h : ∀ x Z2 hs2, R x Z2 hs2 → k x Z2 hs2 = some ()) : chR R k = some () := whn_in h
/-- a change, told in one number: refused below 0 with Fm, or done with E -/
def RCH (Z : Nat → Int32) (hs : List (Nat → Int32)) (Fm : Int32 → Prop) (E : (Nat → Int32) → Int32 → Prop) : Int32 → (Nat → Int32) → List (Nat → Int32) → Prop := fun x Z2 hs2 => SI Z2 ∧ ((x < 0 ∧ Z2 = Z ∧ hs2 = hs ∧ Fm x) ∨ (¬ x < 0 ∧ hs2 = hsP hs Z ∧ E Z2 x))
theorem RCH_of {s0 : State} {D : va_G} {T : Nat → ClassId} {B : Nat} {X : Nat → Prop} {Z Z2 : Nat → Int32} {hs hs2 : List (Nat → Int32)} {t t2 : List Nat} {L : List Nat} {w : List (Nat × Int32)} {Fp : Nat → Prop} {Fm : Int32 → Prop} {E : (Nat → Int32) → Int32 → Prop} {out : Nat ⊕ Int32} {H : Heap} (hw : ∀ k, k ∈ L → (w.lookup k).getD 0 < 0) (hF : ∀ k, k ∈ L → Fp k → Fm ((w.lookup k).getD 0)) (hE : ∀ Z2 x, E Z2 x → ¬ x < 0) (hS : CHS L Z hs t Fp E Z2 hs2 t2 out) (hW : gZ s0 D T B X Z2 hs2 t2 H) : RCH Z hs Fm E (wr w out) Z2 hs2 ∧ gZ s0 D T B X Z2 hs2 t H := by
  obtain ⟨rfl, hS⟩ := hS
  refine ⟨⟨(gZ_si hW).1, ?_⟩, hW⟩
  rcases hS with ⟨k, hk, rfl, rfl, rfl, hf⟩ | ⟨x, rfl, rfl, hx⟩
  · exact Or.inl ⟨hw k hk, rfl, rfl, hF k hk hf⟩
  · exact Or.inr ⟨hE _ _ hx, rfl, hx⟩
theorem EK_pos {Z Z2 : Nat → Int32} {x : Int32} (h : EK Z Z2 x) : ¬ x < 0 := h.2.2.2
theorem ER_pos {Z Z2 : Nat → Int32} {x : Int32} (hsi : SI Z) (h : ER Z Z2 x) : ¬ x < 0 := by
  rw [h.1]
  have := (SIp_z hsi).2.1.1
  exact nI_pos (by omega)
theorem EE_pos {Z Z2 : Nat → Int32} {x : Int32} (hsi : SI Z) (h : EE Z Z2 x) : ¬ x < 0 := by
  rw [h.1]
  have := (SIp_z hsi).2.2.2.2.2.1
  exact nI_pos (by omega)
