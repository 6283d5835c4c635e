/-! Pure layer, 27: melting if sent; consistency. -/
section KK
variable {N : Nat} {μ : Mem} {a0 a1 n s t : Nat} {mn ht : Nat → Nat → Nat}
theorem k_minutesKeep0 (hN : 10 ≤ N) (hg : gOK n mn ht) (h : cG μ a1 n mn ht) (hsep : a1 + 17 ≤ a0) (hs : s < n) (ht1 : t < n) : Ok (fX9_minutesBySettling N μ a0 a1 (nI s) (nI t)) (fun r => Rm (eg n mn mn) s t r.2 ∧ frm (wFr a0) μ r.1 ∧ ∀ q, a0 + 9 < q → q < a0 + 16 → r.1 q = μ q) := by
  have hn := hg.1
  have hFA : cFA = 1000000 := rfl
  unfold fX9_minutesBySettling
  refine ok_bind (k_weighMinutes hN hg h hsep) ?_
  rintro m1 ⟨hr, hf1⟩
  have hgm : cG m1 a1 n mn ht := h.mv (fun q h1 h2 => hf1 q (by omega))
  rw [hgm.1]
  refine ok_bind (k_settleFrom hN hn hs (g800 hg) hr) ?_
  rintro m2 ⟨d, hd, h6, hb, hm2, hf2⟩
  have hF : frm (wFr a0) μ m2 := (hf1.mono (fun q hq => by show a0 ≤ q ∧ q < a0 + 18; omega)).tr (hf2.mono (fun q hq => by show a0 ≤ q ∧ q < a0 + 18; omega))
  refine ok_ag t rfl (by omega) (by decide) ?_
  rw [hm2 t ht1]
  have hbt := hb t ht1
  refine ok_jn ?_
  refine ok_ltI (d t) cFA (f := fun hc => ?_) (g := fun hc => ?_)
  · refine ok_ag t rfl (by omega) (by decide) ?_
    rw [hm2 t ht1, show (8 : Int32) = nI 8 from rfl, pk_div (by omega) (by decide) (by decide)]
    refine ok_some ⟨?_, hF, fun q h1 h2 => by show m2 q = μ q; rw [hf2 q (by omega), hf1 q (by omega)]⟩
    rcases lex8 hs hd h6 ht1 with ⟨-, hl, -⟩ | ⟨h1, -⟩
    · exact Or.inl ⟨d t / 8, ⟨_, hl.1⟩, fun k w hw => by have := hl.2 k w hw; omega, by omega, rfl⟩
    · omega
  · refine ok_some ⟨?_, hF, fun q h1 h2 => by show m2 q = μ q; rw [hf2 q (by omega), hf1 q (by omega)]⟩
    rcases lex8 hs hd h6 ht1 with ⟨h1, -, -⟩ | ⟨h1, h2⟩
    · omega
    · exact Or.inr ⟨h2, rfl⟩
end KK
section QM
variable {N : Nat} {μ ν : Mem} {a0 n ec : Nat} {mn ht : Nat → Nat → Nat} {t : List Nat}
theorem q_meltIfSent {x y : Int32} (hN : 1200000000000 ≤ N) (h : RR μ ν a0 t) : Ok (fX10_meltIfSent N μ 0 x y) (fun r => Ok (fX11_meltIfSent N ν a0 x y) (fun r' => RR r.1 r'.1 a0 t ∧ Sm [0, 3] r.2 r'.1 a0 r'.2)) := by
  obtain ⟨n, ec, mn, ht, hs⟩ := h.2.1
  have hn := hs.2.1.1
  have h5 := hs.2.2.2.2.2.1
  unfold fX10_meltIfSent
  rw [journF h.1 hs, bS]
  cases hxy : (idx ec x && idx n y)
  · refine ok_tbL (e := 0) (μ := μ) rfl ?_
    unfold fX11_meltIfSent
    rw [m_isExhibit hs.2.2.2.2.1 h5, bS]
    refine bothB (m_isRoom hs.1 hn) ?_
    rw [hxy, m_isThere, bS]
    exact ok_some ⟨h.th _, Or.inr ⟨0, 0, rfl, rfl, mset_at _ _ _ _⟩⟩
  · have hxy2 := hxy
    rw [Bool.and_eq_true] at hxy
    obtain ⟨e, he, rfl⟩ := idx_t.mp hxy.1
    obtain ⟨b, hb, rfl⟩ := idx_t.mp hxy.2
    obtain ⟨r, l, p, q, fi, la, fe, le, hX⟩ := hs.2.2.2.2.2.2.1 e he
    have hE := h.1.2 e (by omega)
    have e0 : ν (a0 + 1) (82 + 147 * e + 0) = nI r := hX.1
    have e1 : ν (a0 + 1) (82 + 147 * e + 1) = nI l := hX.2.2.1
    have hl9 := hX.2.2.2.1
    have hg48 := grs_stab hX.2.2.2.2.2.1
    have hs' : SIp (mset ν a0 6 (nI (!true).toNat) (a0 + 1)) n ec mn ht := by rw [mset_ne _ _ _ _ (by omega)]; exact hs
    refine ok_tbR (a := ()) (μ := μ) rfl ?_
    refine ok_ar e rfl (by omega) (by decide) ?_
    rw [hE.1.1, show exY (ν (a0 + 1)) e 0 = nI r from hX.1]
    refine ok_bind (wayBoth hN (h.th _) hs' hX.2.1 hb rfl rfl) ?_
    rintro ⟨m, f⟩ ⟨⟨m', g⟩, ew, hR, hV, hC, hor⟩
    dsimp only at hR hV hC hor
    have hmod : ∀ (P : Mem × Int32 → Prop) (k : Mem × Bool → Option (Mem × Int32)), Ok (k (m', g)) P → Ok ((fX11_asksWay N (mset ν a0 6 (nI (!true).toNat)) a0 (nI r) (nI b)).bind k) P := fun P k hk => ok_bindE ew hk
    rcases hor with ⟨rfl, rfl, h6⟩ | ⟨rfl, rfl, h6, d, F, S, h8, hlt, hw, hW, hF, hS, hbd, q1, q2⟩
    · refine ok_tbL (e := 3) (μ := m) rfl ?_
      unfold fX11_meltIfSent
      rw [m_isExhibit hs.2.2.2.2.1 h5, bS]
      refine bothB (m_isRoom hs.1 hn) ?_
      rw [hxy2, m_isThere, bS]
      refine ok_jn ?_
      refine ok_cdT rfl ?_
      refine ok_bindE (m_of e 0 (by omega) (by decide) rfl rfl) ?_
      dsimp only
      rw [mset_ne _ _ _ _ (by omega), e0]
      refine hmod _ _ ?_
      exact ok_some ⟨hR, Or.inr ⟨1, 3, rfl, rfl, h6⟩⟩
    · have hS5 := (d8_lex h8 hb hX.2.1 hlt).2
      have hwy := wy_ok hs.2.1 h8 hb hX.2.1 hlt
      have hpwl := pw_le (d := d) (s := r) hs.2.1 l (d r % 8)
      refine ok_tbR (a := ()) (μ := m) rfl ?_
      have hEm : RE m (1 + 16 + 1 + 6 * e) (exY (ν (a0 + 1)) e) := hE.mv (fun q h1 h2 => hC q (by omega)) (fun _ _ => rfl)
      rw [hEm.1.2.1, show exY (ν (a0 + 1)) e 1 = nI l from e1]
      refine ok_bind (k_passedOnWay (a0 := 0) (by omega) (by omega) hs.2.1 ((cG_of h.1 hs).mv (fun q h1 h2 => hC q (by omega))) h8 hX.2.1 hb hlt hw) ?_
      rintro _ rfl
      refine ok_bind (k_countGrains (by omega) (cP_of hEm hX)) ?_
      rintro _ rfl
      refine ok_some ?_
      unfold fX11_meltIfSent
      rw [m_isExhibit hs.2.2.2.2.1 h5, bS]
      refine bothB (m_isRoom hs.1 hn) ?_
      rw [hxy2, m_isThere, bS]
      refine ok_jn ?_
      refine ok_cdT rfl ?_
      refine ok_bindE (m_of e 0 (by omega) (by decide) rfl rfl) ?_
      dsimp only
      rw [mset_ne _ _ _ _ (by omega), e0]
      refine hmod _ _ ?_
      rw [mset_ne _ _ _ _ (by omega)] at hV
      have hs2 : SIp (m' (a0 + 1)) n ec mn ht := by rw [hV]; exact hs
      refine ok_cdT rfl ?_
      refine ok_bindE (m_of e 0 (by omega) (by decide) rfl rfl) ?_
      dsimp only
      rw [hV, e0]
      refine ok_fix2 (fun k x16 x17 => ∃ i, i + k = d r % 8 ∧ x16 = nI (pw n mn ht d r l i) ∧ x17 = nI (wy n mn d r i)) ?_ N (d r % 8) _ _ (by omega) ⟨0, by omega, rfl, rfl⟩
      rintro k self x16 x17 ⟨i, hi, rfl, rfl⟩ hs1
      obtain ⟨w1, w2, -, w4⟩ := hwy i (by omega)
      refine ok_eqI (wy n mn d r i) b (f := fun hz => ?_) (g := fun hz => ?_)
      · have hi2 := w4.mp hz
        refine ok_bind (k_all (e := e) (p := p) (by omega) (by omega) (fun j hj => by rw [hV]; exact mP_of hX j hj)) ?_
        rintro _ rfl
        refine ok_some ⟨hR, Or.inl ⟨_, rfl, h6, ?_⟩⟩
        rw [hi2]
      · have hi2 : i ≠ d r % 8 := fun zz => hz (w4.mpr zz)
        obtain ⟨w5, -⟩ := hwy (i + 1) (by omega)
        have hh := (hs.2.1.2 (wy n mn d r i) (wy n mn d r (i + 1))).2.1
        refine ok_bind (k_next (by omega) hs.2.1 (mG_of hs2) hb h8 hW hF hS hbd w1 w2 hz) ?_
        rintro _ rfl
        refine ok_bindE (m_heat (mG_of hs2) (wy n mn d r i) (wy n mn d r (i + 1)) (by omega) (by omega) rfl rfl) ?_
        refine ok_bindE (m_of e 1 (by omega) (by decide) rfl rfl) ?_
        rw [hV, e1]
        refine ok_bindE (show fX11_passed N m' (nI (ht (wy n mn d r i) (wy n mn d r (i + 1)))) (nI l) = some (nI (ht (wy n mn d r i) (wy n mn d r (i + 1)) - l)) from congrArg some (passedI (by omega) (by omega))) ?_
        refine ok_lt ?_
        refine ok_bind (k_next (by omega) hs.2.1 (mG_of hs2) hb h8 hW hF hS hbd w1 w2 hz) ?_
        rintro _ rfl
        exact hs1 (k - 1) _ _ (by omega) ⟨i + 1, by omega, nI_add _ _, rfl⟩
/-! Consistency: the class answers true. -/
theorem k_leastAgrees {r l q e : Nat} {p fi la fe le : Nat → Nat} {Y : Nat → Int32} (hN : 1200000000000 ≤ N) (hg : gOK n mn ht) (hG : cG μ 1 n mn ht) (he : e < 5) (hE : RE μ (1 + 16 + 1 + 6 * e) Y) (hX : EXq n Y r l p q fi la fe le) : Ok (fX10_leastPassedAgrees N μ 0 (1 + 16 + 1 + 6 * e)) (fun s => s.2 = true ∧ frm (wFr 520) μ s.1) := by
  have hn := hg.1
  have hl9 := hX.2.2.2.1
  unfold fX10_leastPassedAgrees
  refine ok_fix2 (fun k x m => ∃ i, i + k = n ∧ x = nI i ∧ frm (wFr 520) μ m) ?_ N n _ _ (by omega) ⟨0, by omega, rfl, frm.rf⟩
  rintro k self x m ⟨i, hi, rfl, hf⟩ hs
  have hf' : frm (fun q => 520 ≤ q ∧ q < 538) μ m := hf
  have hGm : cG m 1 n mn ht := hG.mv (fun q h1 h2 => hf' q (by omega))
  have hEm : RE m (1 + 16 + 1 + 6 * e) Y := hE.mv (fun q h1 h2 => hf' q (by omega)) (fun _ _ => rfl)
  rw [hGm.1]
  refine ok_le n i (f := fun hc => ok_some ⟨rfl, hf⟩) (g := fun hc => ?_)
  refine ok_bind (k_passedBySettling (a0 := 520) (lim := l) (by omega) (by omega) hg hGm (by decide) ⟨hEm.1.1.trans hX.1, hEm.1.2.1.trans hX.2.2.1⟩ (by omega) hX.2.1 hc) ?_
  rintro ⟨m2, v2⟩ ⟨hR2, hf2⟩
  dsimp only at hR2 hf2
  have hf2' : frm (fun q => 520 ≤ q ∧ q < 538) m m2 := hf2
  have hGm2 : cG m2 1 n mn ht := hGm.mv (fun q h1 h2 => hf2' q (by omega))
  have hEm2 : RE m2 (1 + 16 + 1 + 6 * e) Y := hEm.mv (fun q h1 h2 => hf2' q (by omega)) (fun _ _ => rfl)
  refine ok_bind (k_passedByRounds (a0 := 520) (lim := l) (by omega) (by omega) hg hGm2 (by decide) ⟨hEm2.1.1.trans hX.1, hEm2.1.2.1.trans hX.2.2.1⟩ (by omega) hX.2.1 hc) ?_
  rintro ⟨m3, v3⟩ ⟨hR3, hf3⟩
  dsimp only at hR3 hf3
  refine ok_ifT (Rm_eq hR2 hR3) ?_
  exact ok_lt (hs (k - 1) _ _ (by omega) ⟨i + 1, by omega, nI_1 _, (hf.tr hf2).tr hf3⟩)
theorem k_minutesAgree (hN : 1200000000000 ≤ N) (hg : gOK n mn ht) (hG : cG μ 1 n mn ht) : Ok (fX10_minutesAgree N μ 0) (fun s => s.2 = true ∧ frm (wFr 520) μ s.1) := by
  have hn := hg.1
  unfold fX10_minutesAgree
  refine ok_bind (k_fillTable (a0 := 520) (by omega) hg hG (by decide)) ?_
  rintro m0 ⟨T, hT, hD, hf0, -⟩
  refine ok_fix2 (fun k x m => ∃ i, i + k = n ∧ x = nI i ∧ frm (wFr 520) μ m ∧ RowsN m (520 + 9) n T) ?_ N n _ _ (by omega) ⟨0, by omega, rfl, hf0, hT⟩
  rintro k self x m ⟨i, hi, rfl, hf, hTm⟩ hs
  have hf' : frm (fun q => 520 ≤ q ∧ q < 538) μ m := hf
  have hGm : cG m 1 n mn ht := hG.mv (fun q h1 h2 => hf' q (by omega))
  rw [hGm.1]
  refine ok_le n i (f := fun hc => ok_some ⟨rfl, hf⟩) (g := fun hc => ?_)
  refine ok_fix2 (fun k2 x m => ∃ j, j + k2 = n ∧ x = nI j ∧ frm (wFr 520) μ m ∧ RowsN m (520 + 9) n T) ?_ N n _ _ (by omega) ⟨0, by omega, rfl, hf, hTm⟩
  clear hf hf' hGm hTm m
  rintro k2 self2 x m ⟨j, hj, rfl, hf, hTm⟩ hs2
  have hf' : frm (fun q => 520 ≤ q ∧ q < 538) μ m := hf
  have hGm : cG m 1 n mn ht := hG.mv (fun q h1 h2 => hf' q (by omega))
  rw [hGm.1]
  refine ok_le n j (f := fun hc2 => ?_) (g := fun hc2 => ?_)
  · exact ok_lt (hs (k - 1) _ _ (by omega) ⟨i + 1, by omega, nI_1 _, hf, hTm⟩)
  · refine ok_bind (k_minutesKeep0 (a0 := 520) (by omega) hg hGm (by decide) hc hc2) ?_
    rintro ⟨m2, v2⟩ ⟨hR2, hf2, hrow⟩
    dsimp only at hR2 hf2 hrow
    have hTm2 : RowsN m2 (520 + 9) n T := fun a ha b hb => by rw [hrow _ (by omega) (by omega)]; exact hTm a ha b hb
    refine ok_bind (k_minutesInTable hn hTm2 (hD i hc) hc hc2) ?_
    intro v3 hR3
    dsimp only
    refine ok_ifT (Rm_eq hR2 hR3) ?_
    exact ok_lt (hs2 (k2 - 1) _ _ (by omega) ⟨j + 1, by omega, nI_1 _, hf.tr hf2, hTm2⟩)
end QM
