/-! Pure layer, 24: slopes, lent days, best fees, refusals, positions, feeding. -/
theorem vp_char {q : Nat} (hq : q < 65536) : vp_nar .char (nI q) = nI q := by
  unfold vp_nar
  rw [(pk_charN hq).1]
section QQ
variable {N : Nat} {μ ν : Mem} {a0 n ec : Nat} {t : List Nat}
theorem slopeM {x : Int32} (hN : 100 ≤ N) (h1 : ν (a0 + 1) 1 = nI ec) (h5 : ec ≤ 5) (hE : ∀ e, e < ec → ∃ p, mP ν a0 e p ∧ stab p) : Ok (fX11_longestSlope N ν a0 x) (fun r => (idx ec x = false ∧ r = (mset ν a0 6 1, 0)) ∨ (∃ e p, e < ec ∧ x = nI e ∧ mP ν a0 e p ∧ stab p ∧ r = (mset ν a0 6 0, nI (slP p)))) := by
  unfold fX11_longestSlope
  rw [m_isExhibit h1 h5, bS, m_isThere, bS]
  cases hx : idx ec x
  · refine ok_fix2 (fun _ x y => x = 0 ∧ y = 0) ?_ N 0 _ _ (by omega) ⟨rfl, rfl⟩
    rintro _ _ _ _ ⟨rfl, rfl⟩ -
    refine ok_jn ?_
    refine ok_ifF (by decide) ?_
    exact ok_some (Or.inl ⟨rfl, rfl⟩)
  · obtain ⟨e, he, rfl⟩ := idx_t.mp hx
    obtain ⟨p, hP, hp⟩ := hE e he
    refine (k_slopesM (μ := mset ν a0 6 0) (e := e) (p := p) (by omega) (by omega) (fun i hi => by rw [mset_ne _ _ _ _ (by omega)]; exact hP i hi) hp).mono (fun r hr => ?_)
    exact Or.inr ⟨e, p, he, rfl, hP, hp, hr⟩
theorem slo_cg {p q : Nat → Nat} (h : ∀ i, i < 16 → p i = q i) : ∀ n a, a < 16 → sl p n a = sl q n a
  | 0, _, _ => rfl
  | n + 1, a, ha => by
    show mxn (fun b => if p b < p a then sl p n b else 0) a + 1 = mxn (fun b => if q b < q a then sl q n b else 0) a + 1
    rw [mxn_cg (fun b hb => by rw [h b hb, h a ha, slo_cg h n b hb])]
theorem slP_cg {p q : Nat → Nat} (h : ∀ i, i < 16 → p i = q i) : slP p = slP q := mx_cg 16 (fun a ha => by
  unfold slo
  rw [slo_cg h _ a ha, h a ha])
theorem q_longestSlope {x : Int32} (hN : 20000 ≤ N) (h : RR μ ν a0 t) : Ok (fX10_longestSlope N μ 0 x) (fun r => Ok (fX11_longestSlope N ν a0 x) (fun r' => RR r.1 r'.1 a0 t ∧ Sm [0] r.2 r'.1 a0 r'.2)) := by
  obtain ⟨n, ec, mn, ht, hs⟩ := h.2.1
  obtain ⟨-, -, -, -, h1, h5, hE, -⟩ := hs
  have hM := slopeM (N := N) (x := x) (by omega) h1 h5 (fun e he => by
    obtain ⟨r, l, p, q, fi, la, fe, le, hX⟩ := hE e he
    exact ⟨p, mP_of hX, hX.2.2.2.2.2.1⟩)
  unfold fX10_longestSlope
  rcases k_existing (N := N) (x := x) (h.1.1.1.2.1.trans h1) h5 with ⟨hx, e1⟩ | ⟨e, he, rfl, hx, e1⟩ <;> rw [e1]
  · refine ok_tbL (e := 0) (μ := μ) rfl (hM.mono (fun r hr => ?_))
    rcases hr with ⟨-, rfl⟩ | ⟨e, p, he, rfl, -⟩
    · exact ⟨h.th _, Or.inr ⟨0, 0, rfl, rfl, mset_at _ _ _ _⟩⟩
    · rw [(idx_nI (by omega) (by omega)).mpr he] at hx; cases hx
  · obtain ⟨r, l, p, q, fi, la, fe, le, hX⟩ := hE e he
    refine ok_tbR (a := 1 + 16 + 1 + 6 * e) (μ := μ) rfl ?_
    refine ok_bind (k_slopeByRecursion (by omega) (cP_of (h.1.2 e (by omega)) hX) hX.2.2.2.2.2.1) ?_
    rintro _ rfl
    refine ok_some (hM.mono (fun r' hr => ?_))
    rcases hr with ⟨hx2, -⟩ | ⟨e', p', he', ee, hP', hp', rfl⟩
    · rw [hx] at hx2; cases hx2
    · have : e = e' := (nI_eq (by omega) (by omega)).mp ee
      subst this
      exact ⟨h.th _, Or.inl ⟨_, rfl, mset_at _ _ _ _, congrArg nI (slP_cg (mP_uniq hp' hX.2.2.2.2.2.1 hP' (mP_of hX)))⟩⟩
theorem q_longestSlopeByGrains {x : Int32} (hN : 20000 ≤ N) (h : RR μ ν a0 t) : Ok (fX10_longestSlopeByGrains N μ 0 x) (fun r => Ok (fX11_longestSlopeByGrains N ν a0 x) (fun r' => RR r.1 r'.1 a0 t ∧ Sm [0] r.2 r'.1 a0 r'.2)) := by
  obtain ⟨n, ec, mn, ht, hs⟩ := h.2.1
  obtain ⟨-, -, -, -, h1, h5, hE, -⟩ := hs
  have hM := slopeM (N := N) (x := x) (by omega) h1 h5 (fun e he => by
    obtain ⟨r, l, p, q, fi, la, fe, le, hX⟩ := hE e he
    exact ⟨p, mP_of hX, hX.2.2.2.2.2.1⟩)
  unfold fX10_longestSlopeByGrains fX11_longestSlopeByGrains
  rcases k_existing (N := N) (x := x) (h.1.1.1.2.1.trans h1) h5 with ⟨hx, e1⟩ | ⟨e, he, rfl, hx, e1⟩ <;> rw [e1]
  · refine ok_tbL (e := 0) (μ := μ) rfl (ok_bind hM (fun r hr => ok_some ?_))
    rcases hr with ⟨-, rfl⟩ | ⟨e, p, he, rfl, -⟩
    · exact ⟨h.th _, Or.inr ⟨0, 0, rfl, rfl, mset_at _ _ _ _⟩⟩
    · rw [(idx_nI (by omega) (by omega)).mpr he] at hx; cases hx
  · obtain ⟨r, l, p, q, fi, la, fe, le, hX⟩ := hE e he
    refine ok_tbR (a := 1 + 16 + 1 + 6 * e) (μ := μ) rfl ?_
    refine ok_bind (k_slopeFromFewest (a0 := 538) (by omega) (by omega) (cP_of (h.1.2 e (by omega)) hX) hX.2.2.2.2.2.1) ?_
    rintro ⟨m, v⟩ ⟨hv, hf⟩
    dsimp only at hv hf
    subst hv
    refine ok_some (ok_bind hM (fun r' hr => ok_some ?_))
    rcases hr with ⟨hx2, -⟩ | ⟨e', p', he', ee, hP', hp', rfl⟩
    · rw [hx] at hx2; cases hx2
    · have : e = e' := (nI_eq (by omega) (by omega)).mp ee
      subst this
      refine ⟨(h.th 0).ask (hf.mono (fun q hq => by omega)) ?_ (fun j _ _ => rfl) frm.rf, Or.inl ⟨_, rfl, mset_at _ _ _ _, congrArg nI (slP_cg (mP_uniq hp' hX.2.2.2.2.2.1 hP' (mP_of hX)))⟩⟩
      show m (543 + 2) 0 = 0
      rw [hf _ (by omega)]; exact h.2.2.2.2.2.2.2.1
/-- the last day of the loan on a day -/
theorem k_loanEndOn {o : Nat} {x : Int32} {le : Nat → Nat} (h : ArN μ (o + 5) 100 le) : Ok (fX1_loanEndOn N μ o x) (fun r => ((∀ d, d < 100 → x ≠ nI d) ∧ r = -1) ∨ ∃ d, d < 100 ∧ x = nI d ∧ r = nI (le d) - 1) := by
  unfold fX1_loanEndOn
  rw [k_isFrom, bS]
  refine ok_jn ?_
  refine ok_cd (fun hc => ?_) (fun hc => ?_)
  · obtain ⟨d, -, hd, rfl⟩ := dec_of (lo := 0) (hi := 99) (by decide) (by decide) hc
    refine ok_ag d rfl (by omega) (by decide) ?_
    rw [h d (by omega)]
    exact ok_some (Or.inr ⟨d, by omega, rfl, rfl⟩)
  · refine ok_some (Or.inl ⟨fun d hd e => ?_, rfl⟩)
    subst e
    exact of_decide_eq_false hc ⟨nI_pos' (by omega), nI_le (show d ≤ 99 by omega) (by decide)⟩
theorem le_m1 {v : Nat} (hv : v ≤ 100) : nI v - 1 = -1 ↔ v = 0 := by
  have h := pk_sub_toInt (a := v) (b := 1) (by omega) (by decide)
  have h1 : (-1 : Int32).toInt = -1 := by decide
  constructor
  · intro e
    rw [show nI 1 = 1 from rfl, e, h1] at h
    omega
  · rintro rfl; rfl
theorem q_isLent {x y : Int32} (h : RR μ ν a0 t) : Ok (fX10_isLent N μ 0 x y) (fun r => Ok (fX11_isLent N ν a0 x y) (fun r' => RR r.1 r'.1 a0 t ∧ Sm [0] r.2 r'.1 a0 r'.2)) := by
  obtain ⟨n, ec, mn, ht, hs⟩ := h.2.1
  obtain ⟨-, -, -, -, h1, h5, hE, -⟩ := hs
  unfold fX10_isLent fX11_isLent
  rw [m_isExhibit h1 h5]
  rcases k_existing (N := N) (x := x) (h.1.1.1.2.1.trans h1) h5 with ⟨hx, e1⟩ | ⟨e, he, rfl, hx, e1⟩ <;> rw [e1, hx]
  · refine ok_tbL (e := 0) (μ := μ) rfl ?_
    refine ok_bindE rfl (ok_bindE m_isThere ?_)
    exact ok_some ⟨h.th _, Or.inr ⟨0, 0, rfl, rfl, mset_at _ _ _ _⟩⟩
  · obtain ⟨r, l, p, q, fi, la, fe, le, hX⟩ := hE e he
    have hle := hX.2.2.2.2.2.2.2.1.2.2
    refine ok_tbR (a := 1 + 16 + 1 + 6 * e) (μ := μ) rfl ?_
    refine ok_bind (k_loanEndOn (x := y) (cL_of (h.1.2 e (by omega)) hX).2.2.2.2) ?_
    intro v hv
    have key : v = -1 ↔ ¬ ∃ d, d < 100 ∧ y = nI d ∧ 0 < le d := by
      rcases hv with ⟨hno, rfl⟩ | ⟨d, hd, rfl, rfl⟩
      · exact ⟨fun _ ⟨d, hd, e, _⟩ => hno d hd e, fun _ => rfl⟩
      · rw [le_m1 (hle d hd)]
        constructor
        · rintro hz ⟨d', hd', e', h0⟩
          have := (nI_eq (a := d) (b := d') (by omega) (by omega)).mp e'
          subst this
          omega
        · intro hz
          refine Classical.byContradiction fun hne => hz ⟨d, hd, rfl, by omega⟩
    refine ok_jn1 (fun b : Bool => b = true ↔ ∃ d, d < 100 ∧ y = nI d ∧ 0 < le d) (fun b hb => ok_some ?_) (fun j hj => ?_)
    · refine ok_bindE rfl (ok_bindE m_isThere ?_)
      refine ok_jn1 (fun b' : Bool => b' = b) (fun b' hb' => ok_some ⟨h.th _, Or.inl ⟨_, rfl, mset_at _ _ _ _, hb'⟩⟩) (fun j4 hj4 => ?_)
      refine ok_jn1 (fun _ : Unit => b = false) (fun _ hz => hj4 _ hz.symm) (fun j8 hj8 => ?_)
      refine ok_cdT rfl ?_
      refine ok_bind (k_lent (e := e) (le := le) (by omega) hle (fun d hd => ?_)) ?_
      · dsimp only
        rw [mset_ne _ _ _ _ (by omega)]; exact (mL_of hX).2.2 d hd
      · intro r hr
        refine ok_cd (fun hc => hj4 true ?_) (fun hc => hj8 () ?_)
        · exact (hb.mpr (hr.mp hc)).symm
        · cases hbb : b
          · rfl
          · rw [hr.mpr (hb.mp hbb)] at hc; cases hc
    · refine ok_if (fun hz => hj false ⟨fun z => (by cases z), fun z => absurd z (key.mp hz)⟩) (fun hz => hj true ⟨fun _ => Classical.byContradiction fun z => hz (key.mpr z), fun _ => rfl⟩)
/-- best fees -/
theorem bestM {x : Int32} (hN : 1000 ≤ N) (h1 : ν (a0 + 1) 1 = nI ec) (h5 : ec ≤ 5) (hE : ∀ e, e < ec → ∃ r l p q fi la fe le, EXq n (exY (ν (a0 + 1)) e) r l p q fi la fe le) : Ok (fX11_bestFees N ν a0 x) (fun r => (idx ec x = false ∧ r = (mset ν a0 6 1, 0)) ∨ (∀ e, e < ec → x = nI e → ∀ r' l p q fi la fe le, EXq n (exY (ν (a0 + 1)) e) r' l p q fi la fe le → r = (mset ν a0 6 0, nI (fees q fe (bsC q fi la fe le (2 ^ q - 1)).testBit)))) := by
  have goal : ∀ (e : Nat), e < ec → x = nI e → ∀ r' l p q fi la fe le, EXq n (exY (ν (a0 + 1)) e) r' l p q fi la fe le → Ok (fX11_bestFees N ν a0 x) (fun r => r = (mset ν a0 6 0, nI (fees q fe (bsC q fi la fe le (2 ^ q - 1)).testBit))) := by
    rintro e he rfl r' l p q fi la fe le hX
    unfold fX11_bestFees
    rw [m_isExhibit h1 h5, bS, m_isThere, bS, (idx_nI (by omega) (by omega)).mpr he]
    have hl := hX.2.2.2.2.2.2.2.1
    have hm : mL (mset ν a0 6 (nI (!true).toNat)) a0 e q fi la fe le := by
      obtain ⟨m1, m2, m3⟩ := mL_of hX
      exact ⟨by rw [mset_ne _ _ _ _ (by omega)]; exact m1, fun k hk => by rw [mset_ne _ _ _ _ (by omega)]; exact m2 k hk, fun d hd => by rw [mset_ne _ _ _ _ (by omega)]; exact m3 d hd⟩
    refine ok_jn ?_
    refine ok_bind (k_best hN (by omega) hl hm) ?_
    rintro _ rfl
    have hb := bsC_le (q := q) (fi := fi) (la := la) (fe := fe) (le := le) (2 ^ q - 1)
    have h8 : 2 ^ q ≤ 2 ^ 8 := Nat.pow_le_pow_right (by decide) hl.1
    refine ok_bind (k_feesM (by omega) (by omega) hl hm (show _ < 256 by omega)) ?_
    rintro _ rfl
    exact ok_some rfl
  cases hx : idx ec x
  · unfold fX11_bestFees
    rw [m_isExhibit h1 h5, bS, m_isThere, bS, hx]
    exact ok_some (Or.inl ⟨rfl, rfl⟩)
  · obtain ⟨e, he, rfl⟩ := idx_t.mp hx
    obtain ⟨r', l, p, q, fi, la, fe, le, hX⟩ := hE e he
    obtain ⟨r, e1, hr⟩ := goal e he rfl r' l p q fi la fe le hX
    refine ⟨r, e1, Or.inr ?_⟩
    intro e' he' ee r'' l' p' q' fi' la' fe' le' hX'
    obtain ⟨r2, e2, hr2⟩ := goal e' he' ee r'' l' p' q' fi' la' fe' le' hX'
    rw [e1] at e2
    exact (Option.some.inj e2).trans hr2
theorem q_bestFees {x : Int32} (hN : 20000 ≤ N) (h : RR μ ν a0 t) : Ok (fX10_bestFees N μ 0 x) (fun r => Ok (fX11_bestFees N ν a0 x) (fun r' => RR r.1 r'.1 a0 t ∧ Sm [0] r.2 r'.1 a0 r'.2)) := by
  obtain ⟨n, ec, mn, ht, hs⟩ := h.2.1
  obtain ⟨-, -, -, -, h1, h5, hE, -⟩ := hs
  have hM := bestM (N := N) (x := x) (by omega) h1 h5 hE
  unfold fX10_bestFees
  rcases k_existing (N := N) (x := x) (h.1.1.1.2.1.trans h1) h5 with ⟨hx, e1⟩ | ⟨e, he, rfl, hx, e1⟩ <;> rw [e1]
  · refine ok_tbL (e := 0) (μ := μ) rfl ?_
    unfold fX11_bestFees
    rw [m_isExhibit h1 h5, bS, m_isThere, bS, hx]
    exact ok_some ⟨h.th _, Or.inr ⟨0, 0, rfl, rfl, mset_at _ _ _ _⟩⟩
  · obtain ⟨r, l, p, q, fi, la, fe, le, hX⟩ := hE e he
    refine ok_tbR (a := 1 + 16 + 1 + 6 * e) (μ := μ) rfl ?_
    refine ok_bind (k_feesByLastDays (a0 := 543) (by omega) hX.2.2.2.2.2.2.2.1 (cL_of (h.1.2 e (by omega)) hX) (by omega) h.2.2.2.2.2.2.2.1) ?_
    rintro ⟨m, v⟩ ⟨hv, h0, hf⟩
    dsimp only at hv h0 hf
    subst hv
    refine ok_some (hM.mono (fun r' hr => ?_))
    rcases hr with ⟨hx2, -⟩ | hr
    · rw [hx] at hx2; cases hx2
    · rw [hr e he rfl _ _ _ _ _ _ _ _ hX]
      exact ⟨(h.th 0).ask (hf.mono (fun q hq => by omega)) h0 (fun j _ _ => rfl) frm.rf, Or.inl ⟨_, rfl, mset_at _ _ _ _, rfl⟩⟩
theorem q_bestFeesByTrials {x : Int32} (hN : 20000 ≤ N) (h : RR μ ν a0 t) : Ok (fX10_bestFeesByTrials N μ 0 x) (fun r => Ok (fX11_bestFeesByTrials N ν a0 x) (fun r' => RR r.1 r'.1 a0 t ∧ Sm [0] r.2 r'.1 a0 r'.2)) := by
  obtain ⟨n, ec, mn, ht, hs⟩ := h.2.1
  obtain ⟨-, -, -, -, h1, h5, hE, -⟩ := hs
  have hM := bestM (N := N) (x := x) (by omega) h1 h5 hE
  unfold fX10_bestFeesByTrials fX11_bestFeesByTrials
  rcases k_existing (N := N) (x := x) (h.1.1.1.2.1.trans h1) h5 with ⟨hx, e1⟩ | ⟨e, he, rfl, hx, e1⟩ <;> rw [e1]
  · refine ok_tbL (e := 0) (μ := μ) rfl ?_
    unfold fX11_bestFees
    rw [m_isExhibit h1 h5, bS, m_isThere, bS, hx]
    exact ok_some ⟨h.th _, Or.inr ⟨0, 0, rfl, rfl, mset_at _ _ _ _⟩⟩
  · obtain ⟨r, l, p, q, fi, la, fe, le, hX⟩ := hE e he
    have hl := hX.2.2.2.2.2.2.2.1
    have hc := cL_of (h.1.2 e (by omega)) hX
    refine ok_tbR (a := 1 + 16 + 1 + 6 * e) (μ := μ) rfl ?_
    refine ok_bind (k_bestChoice (by omega) hl hc) ?_
    rintro _ rfl
    have hb := bsC_le (q := q) (fi := fi) (la := la) (fe := fe) (le := le) (2 ^ q - 1)
    have h8 : 2 ^ q ≤ 2 ^ 8 := Nat.pow_le_pow_right (by decide) hl.1
    refine ok_bind (k_feesOf (by omega) hl hc (show _ < 256 by omega)) ?_
    rintro _ rfl
    refine ok_some (ok_bind hM (fun r' hr => ok_some ?_))
    rcases hr with ⟨hx2, -⟩ | hr
    · rw [hx] at hx2; cases hx2
    · rw [hr e he rfl _ _ _ _ _ _ _ _ hX]
      exact ⟨h.th _, Or.inl ⟨_, rfl, mset_at _ _ _ _, rfl⟩⟩
/-! Refusals and positions. -/
theorem q_refusalReason (h : RR μ ν a0 t) : Ok (fX10_refusalReason N μ 0) (fun r => Ok (fX11_refusalReason N ν a0) (fun r' => RR r.1 r'.1 a0 t ∧ Sm [3] r.2 r'.1 a0 r'.2)) := by
  obtain ⟨r, hr, e1, e2, e3⟩ := h.2.2.2.2.1
  unfold fX10_refusalReason fX11_refusalReason fX10_refusalFault
  rw [e1, e2]
  by_cases h0 : r = 0
  · subst h0
    refine ok_bindE (a := 4) rfl ?_
    refine ok_tbL (e := 3) (μ := μ) rfl ?_
    refine ok_jn ?_
    refine ok_ifT (by decide) ?_
    refine ok_bindE m_isThere ?_
    exact ok_some ⟨h.th _, Or.inr ⟨0, 3, rfl, rfl, mset_at _ _ _ _⟩⟩
  · refine ok_bindE (a := 0) ?_ ?_
    · show (if nI r = 0 then some 4 else some 0) = some 0
      rw [if_neg (nI_ne0 (by omega) (by omega))]
    · refine ok_tbR (a := ()) (μ := μ) rfl (ok_some ?_)
      refine ok_jn ?_
      refine ok_ifF (nI_nle (by omega) (by omega)) ?_
      refine ok_bindE m_isThere ?_
      refine ok_jn ?_
      refine ok_some ⟨h.th _, Or.inl ⟨_, rfl, mset_at _ _ _ _, ?_⟩⟩
      show mset ν a0 6 _ a0 7 = μ 0 9
      rw [mset_sl _ _ _ _ (by decide), e1, e2]
theorem q_refusalDetail (h : RR μ ν a0 t) : Ok (fX10_refusalDetail N μ 0) (fun r => Ok (fX11_refusalDetail N ν a0) (fun r' => RR r.1 r'.1 a0 t ∧ Sm [3] r.2 r'.1 a0 r'.2)) := by
  obtain ⟨r, hr, e1, e2, e3⟩ := h.2.2.2.2.1
  unfold fX10_refusalDetail fX11_refusalDetail fX10_refusalFault
  rw [e1, e2]
  by_cases h0 : r = 0
  · subst h0
    refine ok_bindE (a := 4) rfl ?_
    refine ok_tbL (e := 3) (μ := μ) rfl ?_
    refine ok_jn ?_
    refine ok_ifT (by decide) ?_
    refine ok_bindE m_isThere ?_
    exact ok_some ⟨h.th _, Or.inr ⟨0, 3, rfl, rfl, mset_at _ _ _ _⟩⟩
  · refine ok_bindE (a := 0) ?_ ?_
    · show (if nI r = 0 then some 4 else some 0) = some 0
      rw [if_neg (nI_ne0 (by omega) (by omega))]
    · refine ok_tbR (a := ()) (μ := μ) rfl (ok_some ?_)
      refine ok_jn ?_
      refine ok_ifF (nI_nle (by omega) (by omega)) ?_
      refine ok_bindE m_isThere ?_
      refine ok_jn ?_
      refine ok_some ⟨h.th _, Or.inl ⟨_, rfl, mset_at _ _ _ _, ?_⟩⟩
      show mset ν a0 6 _ a0 8 = μ 0 10
      rw [mset_sl _ _ _ _ (by decide), e3]
theorem q_errorPosition (h : RR μ ν a0 t) : Ok (fX10_errorPosition N μ 0) (fun r => Ok (fX11_errorPosition N ν a0) (fun r' => RR r.1 r'.1 a0 t ∧ Sm [3] r.2 r'.1 a0 r'.2)) := by
  obtain ⟨e1, -, hp, -⟩ := h.2.2.2.2.2.1
  unfold fX10_errorPosition fX11_errorPosition fX10_presentOnly
  rcases hp with hp | ⟨k, hk, hp⟩
  · rw [hp]
    refine ok_tbL (e := 3) (μ := μ) rfl ?_
    refine ok_jn ?_
    rw [← e1, hp]
    refine ok_ifT (by decide) ?_
    refine ok_bindE m_isThere ?_
    exact ok_some ⟨h.th _, Or.inr ⟨0, 3, rfl, rfl, mset_at _ _ _ _⟩⟩
  · rw [hp, if_neg (nI_m1 (by omega))]
    refine ok_tbR (a := nI k) (μ := μ) rfl (ok_some ?_)
    refine ok_jn ?_
    rw [← e1, hp]
    refine ok_ifF (nI_pos (by omega)) ?_
    refine ok_bindE m_isThere ?_
    refine ok_jn ?_
    refine ok_some ⟨h.th _, Or.inl ⟨_, rfl, mset_at _ _ _ _, ?_⟩⟩
    show mset ν a0 6 _ a0 20 = nI k
    rw [mset_sl _ _ _ _ (by decide), ← e1, hp]
theorem q_failedCommand (h : RR μ ν a0 t) : Ok (fX10_failedCommand N μ 0) (fun r => Ok (fX11_failedCommand N ν a0) (fun r' => RR r.1 r'.1 a0 t ∧ Sm [3] r.2 r'.1 a0 r'.2)) := by
  obtain ⟨-, e1, -, hp⟩ := h.2.2.2.2.2.1
  unfold fX10_failedCommand fX11_failedCommand fX10_presentOnly
  rcases hp with hp | ⟨k, hk, hp⟩
  · rw [hp]
    refine ok_tbL (e := 3) (μ := μ) rfl ?_
    refine ok_jn ?_
    rw [← e1, hp]
    refine ok_ifT (by decide) ?_
    refine ok_bindE m_isThere ?_
    exact ok_some ⟨h.th _, Or.inr ⟨0, 3, rfl, rfl, mset_at _ _ _ _⟩⟩
  · rw [hp, if_neg (nI_m1 (by omega))]
    refine ok_tbR (a := nI k) (μ := μ) rfl (ok_some ?_)
    refine ok_jn ?_
    rw [← e1, hp]
    refine ok_ifF (nI_pos (by omega)) ?_
    refine ok_bindE m_isThere ?_
    refine ok_jn ?_
    refine ok_some ⟨h.th _, Or.inl ⟨_, rfl, mset_at _ _ _ _, ?_⟩⟩
    show mset ν a0 6 _ a0 21 = nI k
    rw [mset_sl _ _ _ _ (by decide), ← e1, hp]
/-- feeding -/
theorem q_feed {ch : Nat} (hch : ch < 65536) (h : RR μ ν a0 t) : Ok (fX10_feed N μ 0 (nI ch)) (fun r => Ok (fX11_feed N ν a0 (nI ch)) (fun r' => RR r.1 r'.1 a0 t ∧ Sm [2] r.2 r'.1 a0 r'.2)) := by
  obtain ⟨L, hL, l1, l2, l3⟩ := h.2.2.2.2.2.2.1
  unfold fX10_feed fX11_feed
  rw [l1, l2, vp_char hch]
  refine ok_ltI L 60 (f := fun hc => ?_) (g := fun hc => ?_)
  · refine ok_aw L rfl hc (by decide) ?_
    refine ok_lt (ok_some ?_)
    refine ok_jn ?_
    refine ok_ifF (fun z => by have := (nI_eq (a := L) (b := 60) (by omega) (by decide)).mp z; omega) ?_
    refine ok_lt ?_
    refine ok_ifT (by rw [mset_at]; decide) ?_
    have e6 : mset ν a0 6 (b2i false) a0 17 = nI L := by rw [mset_sl _ _ _ _ (by decide), l2]
    rw [e6]
    refine ok_aw L rfl hc (by decide) ?_
    refine ok_lt (ok_some ?_)
    have e7 : mset (mset ν a0 6 (b2i false)) (a0 + 10) L (nI ch) a0 17 = nI L := by rw [mset_ne _ _ _ _ (by omega), e6]
    have e8 : mset μ (546 + 1) L (nI ch) 546 1 = nI L := by rw [mset_ne _ _ _ _ (by decide), l1]
    refine ⟨⟨?_, ?_, ?_, ?_⟩, Or.inl ⟨_, rfl, ?_, ?_⟩⟩
    · have n1 : mset (mset (mset ν a0 6 (b2i false)) (a0 + 10) L (nI ch)) a0 17 (mset (mset ν a0 6 (b2i false)) (a0 + 10) L (nI ch) a0 17 + 1) (a0 + 1) = ν (a0 + 1) := by rw [mset_ne _ _ _ _ (by omega), mset_ne _ _ _ _ (by omega), mset_ne _ _ _ _ (by omega)]
      show RC _ 1 (mset (mset (mset ν a0 6 (b2i false)) (a0 + 10) L (nI ch)) a0 17 _ (a0 + 1))
      rw [n1]
      exact h.1.mv (fun q h1 h2 => by show mset (mset μ _ _ _) _ _ _ q = _; rw [mset_ne _ _ _ _ (by omega), mset_ne _ _ _ _ (by omega)]) (fun _ _ => rfl)
    · show SI (mset (mset (mset ν a0 6 (b2i false)) (a0 + 10) L (nI ch)) a0 17 _ (a0 + 1))
      rw [mset_ne _ _ _ _ (by omega), mset_ne _ _ _ _ (by omega), mset_ne _ _ _ _ (by omega)]
      exact h.2.1
    · obtain ⟨f, c, hH⟩ := h.2.2.1
      refine ⟨f, c, hH.mv (fun q h1 h2 => ?_) ?_ ?_⟩
      · show mset (mset μ _ _ _) _ _ _ q = _
        rw [mset_ne _ _ _ _ (by omega), mset_ne _ _ _ _ (by omega)]
      · show mset (mset (mset ν a0 6 (b2i false)) (a0 + 10) L (nI ch)) a0 17 _ a0 5 = _
        rw [mset_sl _ _ _ _ (by decide), mset_ne _ _ _ _ (by omega), mset_sl _ _ _ _ (by decide)]
      · show mset (mset (mset ν a0 6 (b2i false)) (a0 + 10) L (nI ch)) a0 17 _ (a0 + 4) = _
        rw [mset_ne _ _ _ _ (by omega), mset_ne _ _ _ _ (by omega), mset_ne _ _ _ _ (by omega)]
    · obtain ⟨⟨s1, s2, s3, s4⟩, ⟨r, r1, r2, r3, r4⟩, ⟨p1, p2, p3, p4⟩, -, g, ⟨o1, o2, o3⟩⟩ := h.2.2.2
      have cm : ∀ q, q ≠ 546 → q ≠ 546 + 1 → mset (mset μ (546 + 1) L (nI ch)) 546 1 (mset μ (546 + 1) L (nI ch) 546 1 + 1) q = μ q := fun q h1 h2 => by rw [mset_ne _ _ _ _ h1, mset_ne _ _ _ _ h2]
      have nm : ∀ j, j ≠ 6 → j ≠ 17 → mset (mset (mset ν a0 6 (b2i false)) (a0 + 10) L (nI ch)) a0 17 (mset (mset ν a0 6 (b2i false)) (a0 + 10) L (nI ch) a0 17 + 1) a0 j = ν a0 j := fun j h1 h2 => by
        rw [mset_sl _ _ _ _ h2, mset_ne _ _ _ _ (by omega), mset_sl _ _ _ _ h1]
      have no : ∀ q, q ≠ a0 → q ≠ a0 + 10 → mset (mset (mset ν a0 6 (b2i false)) (a0 + 10) L (nI ch)) a0 17 (mset (mset ν a0 6 (b2i false)) (a0 + 10) L (nI ch) a0 17 + 1) q = ν q := fun q h1 h2 => by
        rw [mset_ne _ _ _ _ h1, mset_ne _ _ _ _ h2, mset_ne _ _ _ _ h1]
      dsimp only
      refine ⟨⟨?_, ?_, ?_, ?_⟩, ⟨r, r1, ?_, ?_, ?_⟩, ⟨?_, ?_, ?_, ?_⟩, ⟨L + 1, by omega, ?_, ?_, fun i hi => ?_⟩, ?_, ⟨?_, o2, fun i hi => ?_⟩⟩
      · rw [cm 0 (by decide) (by decide), nm _ (by decide) (by decide), s1]
      · rw [cm 0 (by decide) (by decide)]; exact s2
      · rw [no _ (by omega) (by omega)]
        exact s3.mv (fun q h1 h2 => cm q (by omega) (by omega)) (fun _ _ => rfl)
      · rw [no _ (by omega) (by omega)]; exact s4
      · rw [cm 0 (by decide) (by decide), r2]
      · rw [nm _ (by decide) (by decide), r3]
      · rw [cm 0 (by decide) (by decide), nm _ (by decide) (by decide), r4]
      · rw [cm 0 (by decide) (by decide), nm _ (by decide) (by decide), p1]
      · rw [cm 0 (by decide) (by decide), nm _ (by decide) (by decide), p2]
      · rw [cm 0 (by decide) (by decide)]; exact p3
      · rw [cm 0 (by decide) (by decide)]; exact p4
      · rw [mset_at, e8]; exact nI_1 _
      · rw [mset_at, e7]; exact nI_1 _
      · by_cases ei : i = L
        · subst ei
          refine ⟨ch, hch, ?_, ?_⟩
          · rw [mset_ne _ _ _ _ (by decide), mset_at]
          · rw [mset_ne _ _ _ _ (by omega), mset_at]
        · obtain ⟨c1, h1, h2, h3⟩ := l3 i (by omega)
          refine ⟨c1, h1, ?_, ?_⟩
          · rw [mset_ne _ _ _ _ (by decide), mset_sl _ _ _ _ ei, h2]
          · rw [mset_ne _ _ _ _ (by omega), mset_sl _ _ _ _ ei, mset_ne _ _ _ _ (by omega), h3]
      · rw [cm _ (by decide) (by decide)]; exact g
      · rw [nm _ (by decide) (by decide), o1]
      · rw [no _ (by omega) (by omega)]; exact o3 i hi
    · show mset (mset (mset ν a0 6 (b2i false)) (a0 + 10) L (nI ch)) a0 17 _ a0 6 = 0
      rw [mset_sl _ _ _ _ (by decide), mset_ne _ _ _ _ (by omega), mset_at]; rfl
    · dsimp only
      rw [mset_at, mset_at, e7, e8]
  · have : L = 60 := by omega
    subst this
    refine ok_some ?_
    refine ok_jn ?_
    refine ok_ifT rfl ?_
    refine ok_lt ?_
    refine ok_ifF (by rw [mset_at]; decide) ?_
    exact ok_some ⟨h.th _, Or.inr ⟨0, 2, rfl, rfl, mset_at _ _ _ _⟩⟩
end QQ
