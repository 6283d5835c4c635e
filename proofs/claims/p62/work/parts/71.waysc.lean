/-! Pure layer, 11: the class's ways: settling the nearest room again and again. -/
abbrev cFA : Nat := 1000000
def gOK (n : Nat) (mn ht : Nat → Nat → Nat) : Prop := n ≤ 6 ∧ ∀ a b, mn a b ≤ 99 ∧ ht a b ≤ 9 ∧ mn a b = mn b a ∧ ht a b = ht b a ∧ (0 < mn a b → a < n ∧ b < n ∧ a ≠ b)
/-- a state of the class has these rooms and legs -/
def cG (μ : Mem) (o n : Nat) (mn ht : Nat → Nat → Nat) : Prop := μ o 0 = nI n ∧ (∀ a, a < 6 → ∀ b, b < 6 → μ (o + 2 + 1 + 1 * a) b = nI (mn a b)) ∧ ∀ a, a < 6 → ∀ b, b < 6 → μ (o + 9 + 1 + 1 * a) b = nI (ht a b)
theorem cG.mv {μ μ' : Mem} {o n : Nat} {mn ht : Nat → Nat → Nat} (h : cG μ o n mn ht) (e : ∀ q, o ≤ q → q < o + 17 → μ' q = μ q) : cG μ' o n mn ht :=
  ⟨by rw [e o (by omega) (by omega)]; exact h.1, fun a ha b hb => by rw [e _ (by omega) (by omega)]; exact h.2.1 a ha b hb, fun a ha b hb => by rw [e _ (by omega) (by omega)]; exact h.2.2 a ha b hb⟩
/-- rows of numbers -/
def RowsN (μ : Mem) (o n : Nat) (c : Nat → Nat → Nat) : Prop := ∀ a, a < n → ∀ b, b < n → μ (o + 1 + 1 * a) b = nI (c a b)
section WC
variable {N : Nat} {μ : Mem} {a0 a1 n s : Nat} {mn ht : Nat → Nat → Nat}
theorem k_joins {a b : Nat} (hg : gOK n mn ht) (h : cG μ a1 n mn ht) (ha : a < 6) (hb : b < 6) : fX8_joins N μ a1 (nI a) (nI b) = some (decide (0 < mn a b)) := by
  have key : Ok (fX8_joins N μ a1 (nI a) (nI b)) (fun r => r = decide (0 < mn a b)) := by
    unfold fX8_joins
    refine ok_ar a rfl ha (by decide) ?_
    refine ok_ag b rfl hb (by decide) ?_
    rw [h.2.1 a ha b hb]
    have := (hg.2 a b).1
    refine ok_jn ?_
    refine ok_le (mn a b) 0 (f := fun hc => ?_) (g := fun hc => ?_)
    · exact ok_some (by rw [decide_eq_false (by omega)])
    · exact ok_some (by rw [decide_eq_true hc])
  obtain ⟨r, e, h⟩ := key
  rw [e, h]
/-- a double loop that fills the rows of costs -/
def cst (mn f : Nat → Nat → Nat) : Nat → Nat → Nat := fun a b => if 0 < mn a b then f a b else cFA
theorem k_weighMinutes (hN : 10 ≤ N) (hg : gOK n mn ht) (h : cG μ a1 n mn ht) (hsep : a1 + 17 ≤ a0) : Ok (fX9_weighMinutes N μ a0 a1) (fun m => RowsN m (a0 + 2) n (cst mn (fun a b => mn a b * 8 + 1)) ∧ frm (fun q => a0 + 2 < q ∧ q < a0 + 9) μ m) := by
  have hn := hg.1
  unfold fX9_weighMinutes
  refine ok_fix2 (fun k x m => ∃ i, i + k = n ∧ x = nI i ∧ frm (fun q => a0 + 2 < q ∧ q < a0 + 9) μ m ∧ ∀ a, a < i → ∀ b, b < n → m (a0 + 2 + 1 + 1 * a) b = nI (cst mn (fun a b => mn a b * 8 + 1) a b)) ?_ N n _ _ (by omega) ⟨0, by omega, rfl, frm.rf, fun a ha => absurd ha (Nat.not_lt_zero _)⟩
  rintro k self x m ⟨i, hi, rfl, hf, hm⟩ hs
  have hgm : cG m a1 n mn ht := h.mv (fun q h1 h2 => hf q (by omega))
  rw [hgm.1]
  refine ok_le n i (f := fun hc => ?_) (g := fun hc => ?_)
  · exact ok_some ⟨fun a ha b hb => hm a (by omega) b hb, hf⟩
  · refine ok_fix2 (fun k2 y m => ∃ j, j + k2 = n ∧ y = nI j ∧ frm (fun q => a0 + 2 < q ∧ q < a0 + 9) μ m ∧ ∀ a b, b < n → (a < i ∨ (a = i ∧ b < j)) → m (a0 + 2 + 1 + 1 * a) b = nI (cst mn (fun a b => mn a b * 8 + 1) a b)) ?_ N n _ _ (by omega) ⟨0, by omega, rfl, hf, fun a b hb hx => hm a (by omega) b hb⟩
    rintro k2 self2 y m ⟨j, hj, rfl, hf, hm⟩ hs2
    have hgm : cG m a1 n mn ht := h.mv (fun q h1 h2 => hf q (by omega))
    rw [hgm.1]
    refine ok_le n j (f := fun hd => ?_) (g := fun hd => ?_)
    · refine ok_lt ?_
      exact hs (k - 1) _ _ (by omega) ⟨i + 1, by omega, nI_1 _, hf, fun a ha b hb => hm a b hb (by omega)⟩
    · refine ok_ar i rfl (by omega) (by decide) ?_
      refine ok_bindE (k_joins hg hgm (by omega) (by omega)) ?_
      have fin : Ok (aw m (a0 + 2 + 1 + 1 * i) 6 (nI j) (nI (cst mn (fun a b => mn a b * 8 + 1) i j)) fun μ22 => lt (nI j + 1) fun v25 => self2 v25 μ22) (fun m => RowsN m (a0 + 2) n (cst mn (fun a b => mn a b * 8 + 1)) ∧ frm (fun q => a0 + 2 < q ∧ q < a0 + 9) μ m) := by
        refine ok_aw j rfl (by omega) (by decide) ?_
        refine ok_lt ?_
        refine hs2 (k2 - 1) _ _ (by omega) ⟨j + 1, by omega, nI_1 _, frm.set (X := fun q => a0 + 2 < q ∧ q < a0 + 9) hf (by omega) _ _, fun a b hb hx => ?_⟩
        rw [mset_el]
        by_cases e : a = i ∧ b = j
        · rw [if_pos (by omega), e.1, e.2]
        · rw [if_neg (by omega)]; exact hm a b hb (by omega)
      refine ok_jn ?_
      have hmm := (hg.2 i j).1
      refine ok_cd (fun hp => ?_) (fun hp => ?_)
      · have hp := of_decide_eq_true hp
        refine ok_ar i rfl (by omega) (by decide) ?_
        refine ok_ag j rfl (by omega) (by decide) ?_
        rw [hgm.2.1 i (by omega) j (by omega)]
        have e : cst mn (fun a b => mn a b * 8 + 1) i j = mn i j * 8 + 1 := if_pos hp
        rw [e] at fin
        have e8 : nI (mn i j) * 8 + 1 = nI (mn i j * 8 + 1) := by rw [show (8 : Int32) = nI 8 from rfl, pk_mul, nI_1]
        rw [e8]
        exact fin
      · have hp := of_decide_eq_false hp
        have e : cst mn (fun a b => mn a b * 8 + 1) i j = cFA := if_neg hp
        rw [e] at fin
        exact fin
theorem passedI {w l : Nat} (hw : w < 2 ^ 30) (hl : l < 2 ^ 30) : imax 0 (nI w - nI l) = nI (w - l) := by
  by_cases h : l ≤ w
  · rw [pk_sub h, show (0 : Int32) = nI 0 from rfl, imax_nI (by omega) (by omega), Nat.max_eq_right (Nat.zero_le _)]
  · have h1 := pk_sneg hl (Nat.not_le.mp h) (a := w)
    unfold imax
    rw [if_neg (fun z => by
      have a1 := Int32.lt_iff_toInt_lt.mp h1
      have a2 := Int32.lt_iff_toInt_lt.mp z
      omega), show w - l = 0 by omega]; rfl
theorem k_weighPassed {lim : Nat} (hN : 10 ≤ N) (hl : lim < 2 ^ 30) (hg : gOK n mn ht) (h : cG μ a1 n mn ht) (hsep : a1 + 17 ≤ a0) : Ok (fX9_weighPassed N μ a0 a1 (nI lim)) (fun m => RowsN m (a0 + 2) n (cst mn (fun a b => ht a b - lim)) ∧ frm (fun q => a0 + 2 < q ∧ q < a0 + 9) μ m) := by
  have hn := hg.1
  unfold fX9_weighPassed
  refine ok_fix2 (fun k x m => ∃ i, i + k = n ∧ x = nI i ∧ frm (fun q => a0 + 2 < q ∧ q < a0 + 9) μ m ∧ ∀ a, a < i → ∀ b, b < n → m (a0 + 2 + 1 + 1 * a) b = nI (cst mn (fun a b => ht a b - lim) a b)) ?_ N n _ _ (by omega) ⟨0, by omega, rfl, frm.rf, fun a ha => absurd ha (Nat.not_lt_zero _)⟩
  rintro k self x m ⟨i, hi, rfl, hf, hm⟩ hs
  have hgm : cG m a1 n mn ht := h.mv (fun q h1 h2 => hf q (by omega))
  rw [hgm.1]
  refine ok_le n i (f := fun hc => ?_) (g := fun hc => ?_)
  · exact ok_some ⟨fun a ha b hb => hm a (by omega) b hb, hf⟩
  · refine ok_fix2 (fun k2 y m => ∃ j, j + k2 = n ∧ y = nI j ∧ frm (fun q => a0 + 2 < q ∧ q < a0 + 9) μ m ∧ ∀ a b, b < n → (a < i ∨ (a = i ∧ b < j)) → m (a0 + 2 + 1 + 1 * a) b = nI (cst mn (fun a b => ht a b - lim) a b)) ?_ N n _ _ (by omega) ⟨0, by omega, rfl, hf, fun a b hb hx => hm a (by omega) b hb⟩
    rintro k2 self2 y m ⟨j, hj, rfl, hf, hm⟩ hs2
    have hgm : cG m a1 n mn ht := h.mv (fun q h1 h2 => hf q (by omega))
    rw [hgm.1]
    refine ok_le n j (f := fun hd => ?_) (g := fun hd => ?_)
    · refine ok_lt ?_
      exact hs (k - 1) _ _ (by omega) ⟨i + 1, by omega, nI_1 _, hf, fun a ha b hb => hm a b hb (by omega)⟩
    · refine ok_ar i rfl (by omega) (by decide) ?_
      refine ok_bindE (k_joins hg hgm (by omega) (by omega)) ?_
      have fin : Ok (aw m (a0 + 2 + 1 + 1 * i) 6 (nI j) (nI (cst mn (fun a b => ht a b - lim) i j)) fun μ22 => lt (nI j + 1) fun v25 => self2 v25 μ22) (fun m => RowsN m (a0 + 2) n (cst mn (fun a b => ht a b - lim)) ∧ frm (fun q => a0 + 2 < q ∧ q < a0 + 9) μ m) := by
        refine ok_aw j rfl (by omega) (by decide) ?_
        refine ok_lt ?_
        refine hs2 (k2 - 1) _ _ (by omega) ⟨j + 1, by omega, nI_1 _, frm.set (X := fun q => a0 + 2 < q ∧ q < a0 + 9) hf (by omega) _ _, fun a b hb hx => ?_⟩
        rw [mset_el]
        by_cases e : a = i ∧ b = j
        · rw [if_pos (by omega), e.1, e.2]
        · rw [if_neg (by omega)]; exact hm a b hb (by omega)
      refine ok_jn ?_
      have hmm := (hg.2 i j).2.1
      refine ok_cd (fun hp => ?_) (fun hp => ?_)
      · have hp := of_decide_eq_true hp
        refine ok_ar i rfl (by omega) (by decide) ?_
        refine ok_ag j rfl (by omega) (by decide) ?_
        rw [hgm.2.2 i (by omega) j (by omega)]
        have e : cst mn (fun a b => ht a b - lim) i j = ht i j - lim := if_pos hp
        rw [e] at fin
        refine ok_bindE (show fX10_passedBy N m (nI (ht i j)) (nI lim) = some (nI (ht i j - lim)) from congrArg some (passedI (by omega) hl)) ?_
        exact fin
      · have hp := of_decide_eq_false hp
        have e : cst mn (fun a b => ht a b - lim) i j = cFA := if_neg hp
        rw [e] at fin
        exact fin
theorem k_startAt (hN : 10 ≤ N) (hs0 : s < 6) : Ok (fX9_startAt N μ a0 (nI s)) (fun m => ArN m (a0 + 16) 6 (fun b => if b = s then 0 else cFA) ∧ ArN m (a0 + 17) 6 (fun _ => 0) ∧ frm (fun q => q = a0 + 16 ∨ q = a0 + 17) μ m) := by
  unfold fX9_startAt
  refine ok_fix2 (fun k x m => ∃ i, i + k = 6 ∧ x = nI i ∧ frm (fun q => q = a0 + 16 ∨ q = a0 + 17) μ m ∧ ArN m (a0 + 16) i (fun _ => cFA) ∧ ArN m (a0 + 17) i (fun _ => 0)) ?_ N 6 _ _ (by omega) ⟨0, rfl, rfl, frm.rf, fun i hi => absurd hi (Nat.not_lt_zero _), fun i hi => absurd hi (Nat.not_lt_zero _)⟩
  rintro k self x m ⟨i, hi, rfl, hf, hm, hz⟩ hs
  refine ok_le 6 i (f := fun hc => ?_) (g := fun hc => ?_)
  · have : i = 6 := by omega
    subst this
    refine ok_aw s rfl hs0 (by decide) ?_
    refine ok_some ⟨(hm.set s 0 rfl).cg (fun b _ => by unfold updN; rfl), hz.mv (mset_ne _ _ _ _ (by omega)), frm.set (X := fun q => q = a0 + 16 ∨ q = a0 + 17) hf (Or.inl rfl) _ _⟩
  · refine ok_aw i rfl hc (by decide) ?_
    refine ok_aw i rfl hc (by decide) ?_
    refine ok_lt ?_
    refine hs (k - 1) _ _ (by omega) ⟨i + 1, by omega, nI_1 _, frm.set (X := fun q => q = a0 + 16 ∨ q = a0 + 17) (frm.set (X := fun q => q = a0 + 16 ∨ q = a0 + 17) hf (Or.inl rfl) _ _) (Or.inr rfl) _ _, fun j hj => ?_, fun j hj => ?_⟩
    · rw [mset_ne _ _ _ _ (by omega), mset_if]
      by_cases e : j = i
      · rw [if_pos e]; rfl
      · rw [if_neg e]; exact hm j (by omega)
    · rw [mset_if]
      by_cases e : j = i
      · rw [if_pos e]; exact nar_bool false
      · rw [if_neg e, mset_ne _ _ _ _ (by omega)]; exact hz j (by omega)
theorem k_nearestUnsettled {d : Nat → Nat} {st : Nat → Bool} (hN : 10 ≤ N) (hn : n ≤ 6) (hd : ArN μ (a0 + 16) n d) (hst : ArN μ (a0 + 17) n (fun a => (st a).toNat)) (hle : ∀ b, b < n → d b ≤ cFA) : Ok (fX9_nearestUnsettled N μ a0 (nI n)) (fun r => (r = -1 ∧ ∀ b, b < n → st b = false → cFA ≤ d b) ∨ ∃ x, x < n ∧ r = nI x ∧ st x = false ∧ d x < cFA ∧ ∀ b, b < n → st b = false → d x ≤ d b) := by
  have hFA : cFA = 1000000 := rfl
  unfold fX9_nearestUnsettled
  refine ok_fix3 (fun k x1 x2 x3 => ∃ i, i + k = n ∧ x3 = nI i ∧ ((x1 = -1 ∧ x2 = nI cFA ∧ ∀ b, b < i → st b = false → cFA ≤ d b) ∨ ∃ x, x < i ∧ x1 = nI x ∧ x2 = nI (d x) ∧ st x = false ∧ d x < cFA ∧ ∀ b, b < i → st b = false → d x ≤ d b)) ?_ N n _ _ _ (by omega) ⟨0, by omega, rfl, Or.inl ⟨rfl, rfl, fun b hb => absurd hb (Nat.not_lt_zero _)⟩⟩
  rintro k self x1 x2 x3 ⟨i, hi, rfl, hor⟩ hs
  refine ok_le n i (f := fun hc => ?_) (g := fun hc => ?_)
  · have : i = n := by omega
    subst this
    refine ok_some ?_
    rcases hor with ⟨h1, -, h3⟩ | ⟨x, h1, h2, -, h4, h5, h6⟩
    · exact Or.inl ⟨h1, h3⟩
    · exact Or.inr ⟨x, h1, h2, h4, h5, h6⟩
  · refine ok_ag i rfl (by omega) (by decide) ?_
    rw [hst i hc]
    refine ok_jn ?_
    have hdi := hle i hc
    refine ok_eqI (st i).toNat 0 (ha := by have := toNat_le1 (st i); omega) (f := fun hz => ?_) (g := fun hz => ?_)
    · have hsi : st i = false := by
        cases hsi : st i
        · rfl
        · rw [hsi] at hz; cases hz
      refine ok_ag i rfl (by omega) (by decide) ?_
      rw [hd i hc]
      rcases hor with ⟨h1, h2, h3⟩ | ⟨x, h1, h2, h2b, h4, h5, h6⟩
      · refine ok_le cFA (d i) (hx := h2) (f := fun hq => ?_) (g := fun hq => ?_)
        · refine ok_lt ?_
          exact hs (k - 1) _ _ _ (by omega) ⟨i + 1, by omega, nI_1 _, Or.inl ⟨h1, h2, fun b hb hsb => by
            by_cases e : b = i
            · subst e; exact hq
            · exact h3 b (by omega) hsb⟩⟩
        · refine ok_ag i rfl (by omega) (by decide) ?_
          rw [hd i hc]
          refine ok_lt ?_
          exact hs (k - 1) _ _ _ (by omega) ⟨i + 1, by omega, nI_1 _, Or.inr ⟨i, by omega, rfl, rfl, hsi, hq, fun b hb hsb => by
            by_cases e : b = i
            · subst e; exact Nat.le_refl _
            · have := h3 b (by omega) hsb; omega⟩⟩
      · refine ok_le (d x) (d i) (hx := h2b) (f := fun hq => ?_) (g := fun hq => ?_)
        · refine ok_lt ?_
          exact hs (k - 1) _ _ _ (by omega) ⟨i + 1, by omega, nI_1 _, Or.inr ⟨x, by omega, h2, h2b, h4, h5, fun b hb hsb => by
            by_cases e : b = i
            · subst e; exact hq
            · exact h6 b (by omega) hsb⟩⟩
        · refine ok_ag i rfl (by omega) (by decide) ?_
          rw [hd i hc]
          refine ok_lt ?_
          exact hs (k - 1) _ _ _ (by omega) ⟨i + 1, by omega, nI_1 _, Or.inr ⟨i, by omega, rfl, rfl, hsi, by omega, fun b hb hsb => by
            by_cases e : b = i
            · subst e; exact Nat.le_refl _
            · have := h6 b (by omega) hsb; omega⟩⟩
    · have hsi : st i = true := by
        cases hsi : st i
        · rw [hsi] at hz; exact absurd rfl hz
        · rfl
      refine ok_lt ?_
      refine hs (k - 1) _ _ _ (by omega) ⟨i + 1, by omega, nI_1 _, ?_⟩
      rcases hor with ⟨h1, h2, h3⟩ | ⟨x, h1, h2, h2b, h4, h5, h6⟩
      · exact Or.inl ⟨h1, h2, fun b hb hsb => by
          by_cases e : b = i
          · subst e; rw [hsi] at hsb; cases hsb
          · exact h3 b (by omega) hsb⟩
      · exact Or.inr ⟨x, by omega, h2, h2b, h4, h5, fun b hb hsb => by
          by_cases e : b = i
          · subst e; rw [hsi] at hsb; cases hsb
          · exact h6 b (by omega) hsb⟩
theorem sm_ff (n : Nat) : sm n (fun _ => (false).toNat) = 0 := sm_z n
theorem k_settleFrom {f : Nat → Nat → Nat} (hN : 10 ≤ N) (hn : n ≤ 6) (hs0 : s < n) (hf8 : ∀ a b, f a b ≤ 800) (hc : RowsN μ (a0 + 2) n (cst mn f)) : Ok (fX9_settleFrom N μ a0 (nI s) (nI n)) (fun m => ∃ d, isD (eg n mn f) n s cFA d ∧ (∀ b, b < n → d b ≠ cFA → ∃ k, k ≤ 5 ∧ wk (eg n mn f) k s b (d b)) ∧ (∀ b, b < n → d b ≤ cFA ∧ (d b < cFA → d b ≤ 4800)) ∧ ArN m (a0 + 16) n d ∧ frm (fun q => q = a0 + 16 ∨ q = a0 + 17) μ m) := by
  have hFA : cFA = 1000000 := rfl
  unfold fX9_settleFrom
  refine ok_bind (k_startAt hN (show s < 6 by omega)) ?_
  rintro m0 ⟨hd0, hz0, hf0⟩
  refine ok_fix2 (fun k x m => ∃ r d st, r + k = n ∧ x = nI r ∧ dijI n mn f s cFA r d st ∧ ArN m (a0 + 16) n d ∧ ArN m (a0 + 17) n (fun a => (st a).toNat) ∧ frm (fun q => q = a0 + 16 ∨ q = a0 + 17) μ m) ?_ N n _ _ (by omega) ⟨0, fun b => if b = s then 0 else cFA, fun _ => false, by omega, rfl, ⟨if_pos rfl, fun b _ => by dsimp only; split <;> omega, fun b _ hlt => ⟨0, Nat.le_refl _, fun z => (by cases z), ?_⟩, fun a _ h => (by cases h), sm_ff n⟩, fun b hb => hd0 b (by omega), fun b hb => hz0 b (by omega), hf0⟩
  · rintro k self x m ⟨r, d, st, hr, rfl, hI, hd, hst, hf⟩ hs
    have hfin : (r = n ∨ ∀ b, b < n → st b = false → cFA ≤ d b) → Ok (some m) (fun m => ∃ d, isD (eg n mn f) n s cFA d ∧ (∀ b, b < n → d b ≠ cFA → ∃ k, k ≤ 5 ∧ wk (eg n mn f) k s b (d b)) ∧ (∀ b, b < n → d b ≤ cFA ∧ (d b < cFA → d b ≤ 4800)) ∧ ArN m (a0 + 16) n d ∧ frm (fun q => q = a0 + 16 ∨ q = a0 + 17) μ m) := fun he => by
      obtain ⟨e1, e2, e3⟩ := dij_end hI hs0 hn (by omega) he hf8 (by decide)
      exact ok_some ⟨d, e1, e2, e3, hd, hf⟩
    refine ok_jn ?_
    refine ok_le n r (f := fun hc => hfin (Or.inl (by omega))) (g := fun hc2 => ?_)
    refine ok_bind (k_nearestUnsettled hN hn hd hst hI.2.1) ?_
    rintro rr (⟨rfl, hall⟩ | ⟨x, hx, rfl, hsx, hxl, hnear⟩)
    · exact ok_ifT rfl (hfin (Or.inr hall))
    · refine ok_ifF (nI_m1 (by omega)) ?_
      refine ok_aw x rfl (by omega) (by decide) ?_
      have hdx : ∀ y, d x ≤ d x + y := fun y => Nat.le_add_right _ _
      refine ok_fix2 (fun k2 y m2 => ∃ i, i + k2 = n ∧ y = nI i ∧ ArN m2 (a0 + 16) n (fun b => if b < i then min (d b) (d x + cst mn f x b) else d b) ∧ ArN m2 (a0 + 17) n (fun a => (if a = x then true else st a).toNat) ∧ frm (fun q => q = a0 + 16 ∨ q = a0 + 17) μ m2) ?_ N n _ _ (by omega) ⟨0, by omega, rfl, fun b hb => ?_, fun b hb => ?_, frm.set (X := fun q => q = a0 + 16 ∨ q = a0 + 17) hf (Or.inr rfl) _ _⟩
      · rintro k2 self2 y m2 ⟨i, hi, rfl, hd2, hst2, hf2⟩ hs2
        refine ok_le n i (f := fun hc3 => ?_) (g := fun hc3 => ?_)
        · have : i = n := by omega
          subst this
          refine ok_lt ?_
          refine hs (k - 1) _ _ (by omega) ⟨r + 1, fun b => if b < i then min (d b) (d x + cst mn f x b) else d b, fun a => if a = x then true else st a, by omega, nI_1 _, dij_step hI hx hsx hxl hnear (c := cst mn f) (fun b hb => ?_) (fun b hb => if_pos hb) hs0, hd2, hst2, hf2⟩
          unfold cst
          by_cases hm : 0 < mn x b
          · exact Or.inl ⟨hm, if_pos hm⟩
          · exact Or.inr ⟨by omega, if_neg hm⟩
        · refine ok_ag i rfl (by omega) (by decide) ?_
          refine ok_ag x rfl (by omega) (by decide) ?_
          refine ok_ar x rfl (by omega) (by decide) ?_
          refine ok_ag i rfl (by omega) (by decide) ?_
          have e1 : m2 (a0 + 16) i = nI (d i) := by rw [hd2 i hc3]; dsimp only; rw [if_neg (by omega)]
          have e2 : m2 (a0 + 16) x = nI (d x) := by
            rw [hd2 x hx]
            dsimp only
            split
            · rw [Nat.min_eq_left (hdx _)]
            · rfl
          have e3 : m2 (a0 + 2 + 1 + 1 * x) i = nI (cst mn f x i) := by
            rw [hf2 _ (by rintro (z | z) <;> omega)]; exact hc x hx i hc3
          rw [e1, e2, e3, nI_add]
          have hb1 := hI.2.1 i hc3
          have hb2 : cst mn f x i ≤ cFA := by
            unfold cst
            have := hf8 x i
            split <;> omega
          rw [imin_nI (by omega) (by omega)]
          refine ok_aw i rfl (by omega) (by decide) ?_
          refine ok_lt ?_
          refine hs2 (k2 - 1) _ _ (by omega) ⟨i + 1, by omega, nI_1 _, fun b hb => ?_, hst2.mv (mset_ne _ _ _ _ (by omega)), frm.set (X := fun q => q = a0 + 16 ∨ q = a0 + 17) hf2 (Or.inl rfl) _ _⟩
          rw [mset_if]
          dsimp only
          by_cases e : b = i
          · subst e; rw [if_pos rfl, if_pos (by omega)]
          · rw [if_neg e, hd2 b hb]
            dsimp only
            by_cases hbi : b < i
            · rw [if_pos hbi, if_pos (by omega)]
            · rw [if_neg hbi, if_neg (by omega)]
      · rw [mset_ne _ _ _ _ (by omega), hd b hb]; rfl
      · rw [mset_if]
        dsimp only
        by_cases e : b = x
        · rw [if_pos e, if_pos e]; exact nar_bool true
        · rw [if_neg e, if_neg e]; exact hst b hb
  · dsimp only at hlt
    dsimp only
    by_cases e : b = s
    · subst e; rw [if_pos rfl]; exact ⟨rfl, rfl⟩
    · rw [if_neg e] at hlt; exact absurd hlt (Nat.lt_irrefl _)
end WC
