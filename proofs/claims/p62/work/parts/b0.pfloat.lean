/-! Means and fractions. -/
def mgOK (x : UInt64) : Prop := (x &&& 0x7fffffffffffffff ≤ 0x7ff0000000000000) ∧ Op.cmpValue (FP.dcmp x x) .l = 0
def lfOK (x : UInt32) : Prop := (x &&& 0x7fffffff ≤ 0x7f800000) ∧ mgOK (FP.f2d x)
theorem mean_ok0 : ∀ n, n < 6 → 1 ≤ n → ∀ a, a < 241 → (FP.ddiv (FP.i2d (nI a)) (FP.i2d (nI n)) &&& 0x7fffffffffffffff ≤ 0x7ff0000000000000) ∧ Op.cmpValue (FP.dcmp (FP.ddiv (FP.i2d (nI a)) (FP.i2d (nI n))) (FP.ddiv (FP.i2d (nI a)) (FP.i2d (nI n)))) .l = 0 := by decide +kernel
theorem frac_ok0 : ∀ n, n < 6 → 1 ≤ n → ∀ a, a < 6 → (FP.fdiv (FP.i2f (nI a)) (FP.i2f (nI n)) &&& 0x7fffffff ≤ 0x7f800000) ∧ (FP.f2d (FP.fdiv (FP.i2f (nI a)) (FP.i2f (nI n))) &&& 0x7fffffffffffffff ≤ 0x7ff0000000000000) ∧ Op.cmpValue (FP.dcmp (FP.f2d (FP.fdiv (FP.i2f (nI a)) (FP.i2f (nI n)))) (FP.f2d (FP.fdiv (FP.i2f (nI a)) (FP.i2f (nI n))))) .l = 0 := by decide +kernel
theorem mean_ok : ∀ n, n < 6 → 1 ≤ n → ∀ a, a < 241 → mgOK (FP.ddiv (FP.i2d (nI a)) (FP.i2d (nI n))) := mean_ok0
theorem frac_ok : ∀ n, n < 6 → 1 ≤ n → ∀ a, a < 6 → lfOK (FP.fdiv (FP.i2f (nI a)) (FP.i2f (nI n))) := frac_ok0
section PFL
variable {N : Nat} {μ ν : Mem} {a0 n ec : Nat} {t : List Nat}
theorem k_meanGrains {G : Nat → Nat} (hN : 20 ≤ N) (h1 : μ 1 4 = nI ec) (h5 : ec ≤ 5) (hG : ∀ e, e < ec → G e ≤ 48) (hE : ∀ e, e < ec → Ok (fX6_countGrains N μ (1 + 16 + 1 + 6 * e + 1)) (fun r => r = nI (G e))) : Ok (fX10_meanGrains N μ 0) (fun r => (ec = 0 ∧ r = (μ, .inl 5)) ∨ (0 < ec ∧ r = (μ, .inr (FP.ddiv (FP.i2d (nI (sm ec G))) (FP.i2d (nI ec)))))) := by
  unfold fX10_meanGrains
  refine ok_lt ?_
  rw [h1]
  refine ok_eqI ec 0 (f := fun he => ok_some (Or.inl ⟨he, rfl⟩)) (g := fun he => ?_)
  refine ok_fix2 (fun k x y => ∃ i, i + k = ec ∧ x = nI (sm i G) ∧ y = nI i) ?_ N ec _ _ (by omega) ⟨0, by omega, rfl, rfl⟩
  rintro k self x y ⟨i, hi, rfl, rfl⟩ hs
  refine ok_le ec i (f := fun hc => ?_) (g := fun hc => ?_)
  · have : i = ec := by omega
    subst this
    have hb := sm_b (c := 48) i hG
    exact ok_gd (mean_ok i (by omega) (by omega) (sm i G) (by omega)).1 (ok_some (Or.inr ⟨by omega, rfl⟩))
  · refine ok_ar i rfl (by omega) (by decide) ?_
    refine ok_bind (hE i (by omega)) ?_
    rintro _ rfl
    exact ok_lt (ok_lt (hs (k - 1) _ _ (by omega) ⟨i + 1, by omega, nI_add _ _, nI_1 _⟩))
theorem m_meanGrains {G : Nat → Nat} (hN : 20 ≤ N) (h1 : ν (a0 + 1) 1 = nI ec) (h5 : ec ≤ 5) (hG : ∀ e, e < ec → G e ≤ 48) (hE : ∀ e, e < ec → Ok (fX11_all N ν a0 (nI e)) (fun r => r = nI (G e))) : Ok (fX11_meanGrains N ν a0) (fun r => (ec = 0 ∧ r.1 = mset ν a0 6 1) ∨ (0 < ec ∧ r = (mset ν a0 6 0, FP.ddiv (FP.i2d (nI (sm ec G))) (FP.i2d (nI ec))))) := by
  unfold fX11_meanGrains
  refine ok_fix2 (fun k x y => ∃ i, i + k = ec ∧ x = nI (sm i G) ∧ y = nI i) ?_ N ec _ _ (by omega) ⟨0, by omega, rfl, rfl⟩
  rintro k self x y ⟨i, hi, rfl, rfl⟩ hs
  refine ok_ag 1 rfl (by decide) (by decide) ?_
  rw [h1]
  refine ok_le ec i (f := fun hc => ?_) (g := fun hc => ?_)
  · have : i = ec := by omega
    subst this
    refine ok_ag 1 rfl (by decide) (by decide) ?_
    rw [h1]
    refine ok_jn ?_
    refine ok_le i 0 (f := fun h0 => ?_) (g := fun h0 => ?_)
    · refine ok_bindE m_isThere ?_
      exact ok_jn (ok_some (Or.inl ⟨by omega, rfl⟩))
    · refine ok_bindE m_isThere ?_
      refine ok_jn (ok_cdT rfl ?_)
      dsimp only
      refine ok_ag 1 rfl (by decide) (by decide) ?_
      rw [mset_ne _ _ _ _ (by omega), h1]
      have hb := sm_b (c := 48) i hG
      exact ok_gd (mean_ok i (by omega) (by omega) (sm i G) (by omega)).1 (ok_some (Or.inr ⟨h0, rfl⟩))
  · refine ok_bind (hE i (by omega)) ?_
    rintro _ rfl
    exact ok_lt (ok_lt (hs (k - 1) _ _ (by omega) ⟨i + 1, by omega, nI_add _ _, nI_1 _⟩))
theorem q_meanGrains (hN : 20 ≤ N) (h : RR μ ν a0 t) : Ok (fX10_meanGrains N μ 0) (fun r => Ok (fX11_meanGrains N ν a0) (fun r' => RR r.1 r'.1 a0 t ∧ Sm [5] r.2 r'.1 a0 r'.2 ∧ ∀ x, r.2 = .inr x → mgOK x)) := by
  obtain ⟨n, ec, mn, ht, hs⟩ := h.2.1
  obtain ⟨-, -, -, -, h1, h5, hE, -⟩ := hs
  have hx : ∀ e, ∃ p : Nat → Nat, e < ec → stab p ∧ ArN μ (1 + 16 + 1 + 6 * e + 1) 16 p ∧ mP ν a0 e p := fun e => by
    by_cases he : e < ec
    · obtain ⟨r, l, p, q, fi, la, fe, le, hX⟩ := hE e he
      exact ⟨p, fun _ => ⟨hX.2.2.2.2.2.1, cP_of (h.1.2 e (by omega)) hX, mP_of hX⟩⟩
    · exact ⟨fun _ => 0, fun z => absurd z he⟩
  obtain ⟨P, hP⟩ := Classical.axiomOfChoice hx
  have hG : ∀ e, e < ec → (fun e => grs (P e)) e ≤ 48 := fun e he => grs_stab (hP e he).1
  refine (k_meanGrains (G := fun e => grs (P e)) hN (h.1.1.1.2.1.trans h1) h5 hG (fun e he => k_countGrains (by omega) (hP e he).2.1)).mono ?_
  intro r hr
  refine (m_meanGrains (G := fun e => grs (P e)) hN h1 h5 hG (fun e he => k_all (by omega) (by omega) (hP e he).2.2)).mono ?_
  intro r' hr'
  rcases hr with ⟨h0, rfl⟩ | ⟨h0, rfl⟩
  · rcases hr' with ⟨-, e⟩ | ⟨z, -⟩
    · rw [e]
      exact ⟨h.th _, Or.inr ⟨0, 5, rfl, rfl, mset_at _ _ _ _⟩, fun x hx => by cases hx⟩
    · omega
  · rcases hr' with ⟨z, -⟩ | ⟨-, rfl⟩
    · omega
    · refine ⟨h.th _, Or.inl ⟨_, rfl, mset_at _ _ _ _, rfl⟩, fun x hx => ?_⟩
      cases hx
      have hb := sm_b (c := 48) ec hG
      exact mean_ok ec (by omega) (by omega) _ (by omega)
theorem k_lentFraction {L : Nat → Bool} (hN : 20 ≤ N) (h1 : μ 1 4 = nI ec) (h5 : ec ≤ 5) (hE : ∀ e, e < ec → Ok (fX1_loanEndOn N μ (1 + 16 + 1 + 6 * e) (μ 1 6)) (fun r => r = -1 ↔ L e = false)) : Ok (fX10_lentFraction N μ 0) (fun r => (ec = 0 ∧ r = (μ, .inl 5)) ∨ (0 < ec ∧ r = (μ, .inr (FP.fdiv (FP.i2f (nI (sm ec (fun e => (L e).toNat)))) (FP.i2f (nI ec)))))) := by
  have hG : ∀ e, e < ec → (fun e => (L e).toNat) e ≤ 1 := fun e _ => by dsimp only; cases L e <;> decide
  unfold fX10_lentFraction
  refine ok_lt ?_
  rw [h1]
  refine ok_eqI ec 0 (f := fun he => ok_some (Or.inl ⟨he, rfl⟩)) (g := fun he => ?_)
  refine ok_fix2 (fun k x y => ∃ i, i + k = ec ∧ x = nI (sm i (fun e => (L e).toNat)) ∧ y = nI i) ?_ N ec _ _ (by omega) ⟨0, by omega, rfl, rfl⟩
  rintro k self x y ⟨i, hi, rfl, rfl⟩ hs
  refine ok_le ec i (f := fun hc => ?_) (g := fun hc => ?_)
  · have : i = ec := by omega
    subst this
    have hb := sm_b (c := 1) i hG
    exact ok_gd (frac_ok i (by omega) (by omega) (sm i (fun e => (L e).toNat)) (by omega)).1 (ok_some (Or.inr ⟨by omega, rfl⟩))
  · refine ok_ar i rfl (by omega) (by decide) ?_
    refine ok_bind (hE i (by omega)) ?_
    intro v hv
    have key : sm (i + 1) (fun e => (L e).toNat) = sm i (fun e => (L e).toNat) + (L i).toNat := rfl
    refine ok_jn ?_
    refine ok_if (fun hz => ?_) (fun hz => ?_)
    · refine ok_lt (hs (k - 1) _ _ (by omega) ⟨i + 1, by omega, ?_, nI_1 _⟩)
      rw [key, hv.mp hz]; rfl
    · refine ok_lt (ok_lt (hs (k - 1) _ _ (by omega) ⟨i + 1, by omega, ?_, nI_1 _⟩))
      have : L i = true := by
        cases hL : L i
        · exact absurd (hv.mpr hL) hz
        · rfl
      rw [key, this]
      exact nI_1 _
theorem m_lentFraction {L : Nat → Bool} (hN : 20 ≤ N) (h1 : ν (a0 + 1) 1 = nI ec) (h5 : ec ≤ 5) (hE : ∀ e, e < ec → Ok (fX11_lent N ν a0 (nI e) (ν (a0 + 1) 2)) (fun r => r = L e)) : Ok (fX11_lentFraction N ν a0) (fun r => (ec = 0 ∧ r.1 = mset ν a0 6 1) ∨ (0 < ec ∧ r = (mset ν a0 6 0, FP.fdiv (FP.i2f (nI (sm ec (fun e => (L e).toNat)))) (FP.i2f (nI ec))))) := by
  have hG : ∀ e, e < ec → (fun e => (L e).toNat) e ≤ 1 := fun e _ => by dsimp only; cases L e <;> decide
  unfold fX11_lentFraction
  refine ok_fix2 (fun k x y => ∃ i, i + k = ec ∧ x = nI (sm i (fun e => (L e).toNat)) ∧ y = nI i) ?_ N ec _ _ (by omega) ⟨0, by omega, rfl, rfl⟩
  rintro k self x y ⟨i, hi, rfl, rfl⟩ hs
  refine ok_ag 1 rfl (by decide) (by decide) ?_
  rw [h1]
  refine ok_le ec i (f := fun hc => ?_) (g := fun hc => ?_)
  · have : i = ec := by omega
    subst this
    refine ok_ag 1 rfl (by decide) (by decide) ?_
    rw [h1]
    refine ok_jn ?_
    refine ok_le i 0 (f := fun h0 => ?_) (g := fun h0 => ?_)
    · refine ok_bindE m_isThere ?_
      exact ok_jn (ok_some (Or.inl ⟨by omega, rfl⟩))
    · refine ok_bindE m_isThere ?_
      refine ok_jn (ok_cdT rfl ?_)
      dsimp only
      refine ok_ag 1 rfl (by decide) (by decide) ?_
      rw [mset_ne _ _ _ _ (by omega), h1]
      have hb := sm_b (c := 1) i hG
      exact ok_gd (frac_ok i (by omega) (by omega) (sm i (fun e => (L e).toNat)) (by omega)).1 (ok_some (Or.inr ⟨h0, rfl⟩))
  · refine ok_ag 2 rfl (by decide) (by decide) ?_
    refine ok_bind (hE i (by omega)) ?_
    rintro _ rfl
    have key : sm (i + 1) (fun e => (L e).toNat) = sm i (fun e => (L e).toNat) + (L i).toNat := rfl
    refine ok_jn ?_
    refine ok_cd (fun hc => ?_) (fun hc => ?_)
    · refine ok_lt (ok_lt (hs (k - 1) _ _ (by omega) ⟨i + 1, by omega, ?_, nI_1 _⟩))
      rw [key, hc]
      exact nI_1 _
    · refine ok_lt (ok_lt (hs (k - 1) _ _ (by omega) ⟨i + 1, by omega, ?_, nI_1 _⟩))
      rw [key, hc]
      exact nI_add _ 0
theorem q_lentFraction (hN : 20 ≤ N) (h : RR μ ν a0 t) : Ok (fX10_lentFraction N μ 0) (fun r => Ok (fX11_lentFraction N ν a0) (fun r' => RR r.1 r'.1 a0 t ∧ Sm [5] r.2 r'.1 a0 r'.2 ∧ ∀ x, r.2 = .inr x → lfOK x)) := by
  obtain ⟨n, ec, mn, ht, hs⟩ := h.2.1
  obtain ⟨-, -, -, -, h1, h5, hE, -⟩ := hs
  have hd : μ 1 6 = ν (a0 + 1) 2 := h.1.1.1.2.2.1
  have hx : ∀ e, ∃ b : Bool, e < ec → Ok (fX1_loanEndOn N μ (1 + 16 + 1 + 6 * e) (μ 1 6)) (fun r => r = -1 ↔ b = false) ∧ Ok (fX11_lent N ν a0 (nI e) (ν (a0 + 1) 2)) (fun r => r = b) := fun e => by
    by_cases he : e < ec
    · obtain ⟨r, l, p, q, fi, la, fe, le, hX⟩ := hE e he
      have hle := hX.2.2.2.2.2.2.2.1.2.2
      haveI : Decidable (∃ d, d < 100 ∧ ν (a0 + 1) 2 = nI d ∧ 0 < le d) := Classical.propDecidable _
      refine ⟨decide (∃ d, d < 100 ∧ ν (a0 + 1) 2 = nI d ∧ 0 < le d), fun _ => ⟨?_, ?_⟩⟩
      · refine (k_loanEndOn (x := μ 1 6) (cL_of (h.1.2 e (by omega)) hX).2.2.2.2).mono ?_
        intro v hv
        rw [decide_eq_false_iff_not, ← hd]
        rcases hv with ⟨hno, rfl⟩ | ⟨d, hd9, e9, rfl⟩
        · exact ⟨fun _ ⟨d, hd, e, _⟩ => hno d hd e, fun _ => rfl⟩
        · rw [le_m1 (hle d hd9)]
          constructor
          · rintro hz ⟨d', hd', e', h0⟩
            have := (nI_eq (a := d) (b := d') (by omega) (by omega)).mp (e9.symm.trans e')
            subst this
            omega
          · intro hz
            exact Classical.byContradiction fun hne => hz ⟨d, hd9, e9, by omega⟩
      · refine (k_lent (e := e) (le := le) (x := ν (a0 + 1) 2) (by omega) hle (mL_of hX).2.2).mono ?_
        intro r hr
        cases r
        · exact (decide_eq_false (fun z => by have := hr.mpr z; cases this)).symm
        · exact (decide_eq_true (hr.mp rfl)).symm
    · exact ⟨false, fun z => absurd z he⟩
  obtain ⟨L, hL⟩ := Classical.axiomOfChoice hx
  have hG : ∀ e, e < ec → (fun e => (L e).toNat) e ≤ 1 := fun e _ => by dsimp only; cases L e <;> decide
  refine (k_lentFraction (L := L) hN (h.1.1.1.2.1.trans h1) h5 (fun e he => (hL e he).1)).mono ?_
  intro r hr
  refine (m_lentFraction (L := L) hN h1 h5 (fun e he => (hL e he).2)).mono ?_
  intro r' hr'
  rcases hr with ⟨h0, rfl⟩ | ⟨h0, rfl⟩
  · rcases hr' with ⟨-, e⟩ | ⟨z, -⟩
    · rw [e]
      exact ⟨h.th _, Or.inr ⟨0, 5, rfl, rfl, mset_at _ _ _ _⟩, fun x hx => by cases hx⟩
    · omega
  · rcases hr' with ⟨z, -⟩ | ⟨-, rfl⟩
    · omega
    · refine ⟨h.th _, Or.inl ⟨_, rfl, mset_at _ _ _ _, rfl⟩, fun x hx => ?_⟩
      cases hx
      have hb := sm_b (c := 1) ec hG
      exact frac_ok ec (by omega) (by omega) _ (by omega)
end PFL
