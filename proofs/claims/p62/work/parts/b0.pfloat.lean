/-! Means and fractions. -/
def mgOK (x : UInt64) : Prop := (x &&& 0x7fffffffffffffff ≤ 0x7ff0000000000000) ∧ Op.cmpValue (FP.dcmp x x) .l = 0
def lfOK (x : UInt32) : Prop := (x &&& 0x7fffffff ≤ 0x7f800000) ∧ mgOK (FP.f2d x)
theorem mean_ok0 : ∀ n, n < 6 → 1 ≤ n → ∀ a, a < 241 → (FP.ddiv (FP.i2d (nI a)) (FP.i2d (nI n)) &&& 0x7fffffffffffffff ≤ 0x7ff0000000000000) ∧ Op.cmpValue (FP.dcmp (FP.ddiv (FP.i2d (nI a)) (FP.i2d (nI n))) (FP.ddiv (FP.i2d (nI a)) (FP.i2d (nI n)))) .l = 0 := by decide +kernel
theorem frac_ok0 : ∀ n, n < 6 → 1 ≤ n → ∀ a, a < 6 → (FP.fdiv (FP.i2f (nI a)) (FP.i2f (nI n)) &&& 0x7fffffff ≤ 0x7f800000) ∧ (FP.f2d (FP.fdiv (FP.i2f (nI a)) (FP.i2f (nI n))) &&& 0x7fffffffffffffff ≤ 0x7ff0000000000000) ∧ Op.cmpValue (FP.dcmp (FP.f2d (FP.fdiv (FP.i2f (nI a)) (FP.i2f (nI n)))) (FP.f2d (FP.fdiv (FP.i2f (nI a)) (FP.i2f (nI n))))) .l = 0 := by decide +kernel
theorem mean_ok : ∀ n, n < 6 → 1 ≤ n → ∀ a, a < 241 → mgOK (FP.ddiv (FP.i2d (nI a)) (FP.i2d (nI n))) := mean_ok0
theorem frac_ok : ∀ n, n < 6 → 1 ≤ n → ∀ a, a < 6 → lfOK (FP.fdiv (FP.i2f (nI a)) (FP.i2f (nI n))) := frac_ok0
section PFL
variable {N : Nat} {μ ν : Mem} {a0 n ec : Nat} {t : List Nat}
theorem k_meanGrains {G : Nat → Nat} (hN : 20 ≤ N) (h1 : μ 1 4 = nI ec) (h5 : ec ≤ 5) (hG : ∀ e, e < ec → G e ≤ 48) (hE : ∀ e, e < ec → Ok (fX6_countGrains N μ (1 + 16 + 1 + 6 * e + 1)) (fun r => r = nI (G e))) : Ok (fX10_meanGrains N μ 0) (fun r => (ec = 0 ∧ r = (μ, .inl 5)) ∨ (0 < ec ∧ r = (μ, .inr (FP.ddiv (FP.i2d (nI (sm ec G))) (FP.i2d (nI ec)))))) := by
  unfold fX10_meanGrains
  refine ok_lt ?_
  rw [h1]
  refine ok_eqI ec 0 (f := fun he => ok_some (Or.inl ⟨he, rfl⟩)) (g := fun he => ?_)
  refine ok_fix2 (fun k x y => ∃ i, i + k = ec ∧ x = nI (sm i G) ∧ y = nI i) ?_ N ec _ _ (by omega) ⟨0, by omega, rfl, rfl⟩
  rintro k self x y ⟨i, hi, rfl, rfl⟩ hs
  refine ok_le ec i (f := fun hc => ?_) (g := fun hc => ?_)
  · have : i = ec := by omega
    subst this
    have hb := sm_b (c := 48) i hG
    exact ok_gd (mean_ok i (by omega) (by omega) (sm i G) (by omega)).1 (ok_some (Or.inr ⟨by omega, rfl⟩))
  · refine ok_ar i rfl (by omega) (by decide) ?_
    refine ok_bind (hE i (by omega)) ?_
    rintro _ rfl
    exact ok_lt (ok_lt (hs (k - 1) _ _ (by omega) ⟨i + 1, by omega, nI_add _ _, nI_1 _⟩))
theorem k_lentFraction {L : Nat → Bool} (hN : 20 ≤ N) (h1 : μ 1 4 = nI ec) (h5 : ec ≤ 5) (hE : ∀ e, e < ec → Ok (fX1_loanEndOn N μ (1 + 16 + 1 + 6 * e) (μ 1 6)) (fun r => r = -1 ↔ L e = false)) : Ok (fX10_lentFraction N μ 0) (fun r => (ec = 0 ∧ r = (μ, .inl 5)) ∨ (0 < ec ∧ r = (μ, .inr (FP.fdiv (FP.i2f (nI (sm ec (fun e => (L e).toNat)))) (FP.i2f (nI ec)))))) := by
  have hG : ∀ e, e < ec → (fun e => (L e).toNat) e ≤ 1 := fun e _ => by dsimp only; cases L e <;> decide
  unfold fX10_lentFraction
  refine ok_lt ?_
  rw [h1]
  refine ok_eqI ec 0 (f := fun he => ok_some (Or.inl ⟨he, rfl⟩)) (g := fun he => ?_)
  refine ok_fix2 (fun k x y => ∃ i, i + k = ec ∧ x = nI (sm i (fun e => (L e).toNat)) ∧ y = nI i) ?_ N ec _ _ (by omega) ⟨0, by omega, rfl, rfl⟩
  rintro k self x y ⟨i, hi, rfl, rfl⟩ hs
  refine ok_le ec i (f := fun hc => ?_) (g := fun hc => ?_)
  · have : i = ec := by omega
    subst this
    have hb := sm_b (c := 1) i hG
    exact ok_gd (frac_ok i (by omega) (by omega) (sm i (fun e => (L e).toNat)) (by omega)).1 (ok_some (Or.inr ⟨by omega, rfl⟩))
  · refine ok_ar i rfl (by omega) (by decide) ?_
    refine ok_bind (hE i (by omega)) ?_
    intro v hv
    have key : sm (i + 1) (fun e => (L e).toNat) = sm i (fun e => (L e).toNat) + (L i).toNat := rfl
    refine ok_jn ?_
    refine ok_if (fun hz => ?_) (fun hz => ?_)
    · refine ok_lt (hs (k - 1) _ _ (by omega) ⟨i + 1, by omega, ?_, nI_1 _⟩)
      rw [key, hv.mp hz]; rfl
    · refine ok_lt (ok_lt (hs (k - 1) _ _ (by omega) ⟨i + 1, by omega, ?_, nI_1 _⟩))
      have : L i = true := by
        cases hL : L i
        · exact absurd (hv.mpr hL) hz
        · rfl
      rw [key, this]
      exact nI_1 _
end PFL
theorem frac_cmp : ∀ n, n < 6 → 1 ≤ n → ∀ a, a < 6 → Op.cmpValue (FP.fcmp (FP.fdiv (FP.i2f (nI a)) (FP.i2f (nI n))) (FP.fdiv (FP.i2f (nI a)) (FP.i2f (nI n)))) .l = 0 := by decide +kernel
