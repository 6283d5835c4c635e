/-! Pure layer, 39: the best choice taken. -/
section CB
variable {N : Nat} {μ ν : Mem} {a0 n ec : Nat} {mn ht : Nat → Nat → Nat} {t : List Nat}
/-- the reference takes the loans of a choice -/
theorem k_takeM {e q C : Nat} {F : Int32} {fi la fe le : Nat → Nat} (hN : 1000 ≤ N) (he : e < 5) (hl : lnOK q fi la fe le) (h : mL ν a0 e q fi la fe le) (hC : C < 2 ^ q) : Ok (fix2 (fun self9 (x7 : Int32) (μ8 : Mem) =>
  (fX11_of N μ8 a0 (nI e) 5).bind fun r11 =>
  if r11 ≤ x7 then
  ((fX11_of N μ8 a0 (nI e) 6).bind fun r13 =>
  (fX11_bits N μ8 (nI C)).bind fun r14 =>
  (fX11_sets N μ8 a0 (nI e) 6 (r13 + r14)).bind fun r15 =>
  (fX11_sets N r15 a0 (nI e) 5 0).bind fun r16 =>
  ag (r16 (a0 + 1)) 817 3 fun v17 =>
  aw r16 (a0 + 1) 817 3 (v17 + F) fun μ20 =>
  some (μ20, F))
  else ((fX11_loan N μ8 a0 (nI e) x7 0).bind fun r23 =>
  fix2 (fun self26 (x24 : Int32) (μ25 : Mem) =>
  (fX11_loan N μ25 a0 (nI e) x7 1).bind fun r28 =>
  jn (fun (_ : Unit) =>
  lt (x7 + 1) fun v33 =>
  self9 v33 μ25) fun j30 =>
  if r28 < x24 then
  (j30 ())
  else (if (((nI C) >>> (x7 &&& 31)) &&& 1) = 1 then
  ((fX11_loan N μ25 a0 (nI e) x7 1).bind fun r37 =>
  (fX11_sets N μ25 a0 (nI e) (47 + x24) (r37 + 1)).bind fun r38 =>
  lt (x24 + 1) fun v39 =>
  self26 v39 r38)
  else (j30 ()))) N r23 μ8)) N 0 ν) (fun s => s.2 = F ∧ ∃ w, s.1 = mset w (a0 + 1) 3 (ν (a0 + 1) 3 + F) ∧ frm (fun q => q = a0 + 1) ν w ∧ (∀ j, (∀ v, v < 147 → v = 5 ∨ v = 6 ∨ 47 ≤ v → j ≠ 82 + 147 * e + v) → w (a0 + 1) j = ν (a0 + 1) j) ∧ w (a0 + 1) (82 + 147 * e + 5) = 0 ∧ w (a0 + 1) (82 + 147 * e + 6) = ν (a0 + 1) (82 + 147 * e + 6) + nI (pc C) ∧ ∀ d, d < 100 → w (a0 + 1) (82 + 147 * e + (47 + d)) = nI (leK C fi la le q d)) := by
  have hq := hl.1
  have h8 : 2 ^ q ≤ 2 ^ 8 := Nat.pow_le_pow_right (by decide) hq
  refine ok_fix2 (fun k x7 m => ∃ i, i + k = q ∧ x7 = nI i ∧ frm (fun q => q = a0 + 1) ν m ∧ (∀ j, (∀ v, v < 147 → 47 ≤ v → j ≠ 82 + 147 * e + v) → m (a0 + 1) j = ν (a0 + 1) j) ∧ ∀ d, d < 100 → m (a0 + 1) (82 + 147 * e + (47 + d)) = nI (leK C fi la le i d)) ?_ N q _ _ (by omega) ⟨0, by omega, rfl, frm.rf, fun _ _ => rfl, h.2.2⟩
  rintro k self x7 m ⟨i, hi, rfl, hf, ho, hd⟩ hs
  have hlk := leK_le hl C
  refine ok_bindE (m_of e 5 he (by decide) rfl rfl) ?_
  rw [ho _ (fun v _ _ => by omega), h.1]
  refine ok_le q i (f := fun hc => ?_) (g := fun hc => ?_)
  · have : i = q := by omega
    subst this
    refine ok_bindE (m_of e 6 he (by decide) rfl rfl) ?_
    rw [ho _ (fun v _ _ => by omega)]
    refine ok_bind (k_bits (by omega) (by omega)) ?_
    rintro _ rfl
    refine ok_bindE (m_sets e 6 he (by decide) rfl rfl) ?_
    refine ok_bindE (m_sets e 5 he (by decide) rfl rfl) ?_
    refine ok_ag 3 rfl (by decide) (by decide) ?_
    refine ok_aw 3 rfl (by decide) (by decide) ?_
    refine ok_some ⟨rfl, _, ?_, frm.set (X := fun q => q = a0 + 1) (frm.set (X := fun q => q = a0 + 1) hf rfl (82 + 147 * e + 6) (ν (a0 + 1) (82 + 147 * e + 6) + nI (pc C))) rfl (82 + 147 * e + 5) 0, fun j hj => ?_, mset_at _ _ _ _, ?_, fun d hdd => ?_⟩
    · dsimp only
      rw [mset_sl _ _ _ _ (show 3 ≠ 82 + 147 * e + 5 by omega), mset_sl _ _ _ _ (show 3 ≠ 82 + 147 * e + 6 by omega), ho 3 (fun v _ _ => by omega)]
    · rw [mset_sl _ _ _ _ (hj 5 (by decide) (by omega)), mset_sl _ _ _ _ (hj 6 (by decide) (by omega))]
      exact ho j (fun v g1 g2 => hj v g1 (by omega))
    · rw [mset_sl _ _ _ _ (by omega), mset_at]
    · rw [mset_sl _ _ _ _ (by omega), mset_sl _ _ _ _ (by omega)]
      exact hd d hdd
  · obtain ⟨f1, f2, -⟩ := hl.2.1 i hc
    obtain ⟨l1, l2, -⟩ := h.2.1 i hc
    refine ok_bindE (m_loan i 0 he (by omega) (by decide) rfl rfl rfl) ?_
    rw [ho _ (fun v _ _ => by omega), l1]
    cases hb : C.testBit i
    · refine ok_fix2 (fun k2 x24 m2 => x24 = nI (fi i) ∧ m2 = m) ?_ N 0 _ _ (by omega) ⟨rfl, rfl⟩
      rintro k2 self2 x24 m2 ⟨rfl, rfl⟩ hs2
      refine ok_bindE (m_loan i 1 he (by omega) (by decide) rfl rfl rfl) ?_
      rw [ho _ (fun v _ _ => by omega), l2]
      refine ok_jn1 (fun _ : Unit => True) (fun _ _ => ok_lt ?_) (fun j30 hj => ?_)
      · refine hs (k - 1) _ _ (by omega) ⟨i + 1, by omega, nI_1 _, hf, ho, fun d hdd => ?_⟩
        show _ = nI ((if C.testBit i = true then leR (leK C fi la le i) fi la i else leK C fi la le i) d)
        rw [if_neg (by rw [hb]; decide)]; exact hd d hdd
      · refine ok_ltI (la i) (fi i) (f := fun _ => hj () True.intro) (g := fun _ => ?_)
        refine ok_ifF (fun z => ?_) (hj () True.intro)
        rw [(bitI1 (by omega) (by omega)).mp z] at hb; cases hb
    · refine ok_fix2 (fun k2 x24 m2 => ∃ d, d + k2 = la i + 1 ∧ fi i ≤ d ∧ x24 = nI d ∧ frm (fun q => q = a0 + 1) ν m2 ∧ (∀ j, (∀ v, v < 147 → 47 ≤ v → j ≠ 82 + 147 * e + v) → m2 (a0 + 1) j = ν (a0 + 1) j) ∧ ∀ d', d' < 100 → m2 (a0 + 1) (82 + 147 * e + (47 + d')) = nI (if fi i ≤ d' ∧ d' < d then la i + 1 else leK C fi la le i d')) ?_ N (la i + 1 - fi i) _ _ (by omega) ⟨fi i, by omega, Nat.le_refl _, rfl, hf, ho, fun d' hd' => by rw [if_neg (by omega)]; exact hd d' hd'⟩
      rintro k2 self2 x24 m2 ⟨d, hdk, hfd, rfl, hf2, ho2, hd2⟩ hs2
      refine ok_bindE (m_loan i 1 he (by omega) (by decide) rfl rfl rfl) ?_
      rw [ho2 _ (fun v _ _ => by omega), l2]
      refine ok_jn ?_
      refine ok_ltI (la i) d (f := fun hc2 => ?_) (g := fun hc2 => ?_)
      · refine ok_lt ?_
        refine hs (k - 1) _ _ (by omega) ⟨i + 1, by omega, nI_1 _, hf2, ho2, fun d' hd' => ?_⟩
        show _ = nI ((if C.testBit i = true then leR (leK C fi la le i) fi la i else leK C fi la le i) d')
        rw [if_pos hb, hd2 d' hd']
        unfold leR
        by_cases cc : fi i ≤ d' ∧ d' < d
        · rw [if_pos cc, if_pos (by omega)]
        · rw [if_neg cc, if_neg (by omega)]
      · refine ok_ifT ((bitI1 (by omega) (by omega)).mpr hb) ?_
        refine ok_bindE (m_loan i 1 he (by omega) (by decide) rfl rfl rfl) ?_
        rw [ho2 _ (fun v _ _ => by omega), l2]
        refine ok_bindE (m_sets e (47 + d) he (by omega) rfl (nI_add 47 d)) ?_
        refine ok_lt ?_
        refine hs2 (k2 - 1) _ _ (by omega) ⟨d + 1, by omega, by omega, nI_1 _, frm.set (X := fun q => q = a0 + 1) hf2 rfl _ _, fun j hj => ?_, fun d' hd' => ?_⟩
        · rw [mset_sl _ _ _ _ (hj (47 + d) (by omega) (by omega))]; exact ho2 j hj
        · by_cases cc : d' = d
          · subst cc
            rw [mset_at, if_pos (by omega), nI_1]
          · rw [mset_sl _ _ _ _ (by omega), hd2 d' hd']
            by_cases c2 : fi i ≤ d' ∧ d' < d
            · rw [if_pos c2, if_pos (by omega)]
            · rw [if_neg c2, if_neg (by omega)]
theorem takeF_x {x : Int32} (h4 : μ 1 4 = nI ec) (he : ec ≤ 5) (hx : idx ec x = false) : fX10_takeFault N μ 0 x = some 1 := by
  unfold fX10_takeFault
  rw [k_hasExhibit h4 he, bS, hx]; rfl
theorem takeF_t {e q : Nat} (h4 : μ 1 4 = nI ec) (h5 : ec ≤ 5) (he : e < ec) (h6 : μ (1 + 16 + 1 + 6 * e) 6 = nI q) (hq : q ≤ 8) : fX10_takeFault N μ 0 (nI e) = some (if q = 0 then 3 else 0) := by
  have key : Ok (fX10_takeFault N μ 0 (nI e)) (fun r => r = if q = 0 then 3 else 0) := by
    unfold fX10_takeFault
    rw [k_hasExhibit h4 h5, bS, (idx_nI (by omega) (by omega)).mpr he]
    refine ok_cdT rfl ?_
    refine ok_ar e rfl (by omega) (by decide) ?_
    refine ok_jn ?_
    rw [h6]
    exact ok_eqI q 0 (f := fun z => ok_some (by rw [if_pos z])) (g := fun z => ok_some (by rw [if_neg z]))
  obtain ⟨r, e, h⟩ := key
  rw [e, h]
/-- the best choice taken, on both sides -/
theorem takeBoth {e r l q : Nat} {p fi la fe le : Nat → Nat} (hN : 1000 ≤ N) (hRC : RC μ 1 (ν (a0 + 1))) (hs : SIp (ν (a0 + 1)) n ec mn ht) (h0 : μ (543 + 2) 0 = 0) (he : e < ec) (hX : EXq n (exY (ν (a0 + 1)) e) r l p q fi la fe le) (hq0 : q ≠ 0) : Ok (fX8_lend N μ 1 (nI e)) (fun s => Ok (fX11_doTakeBest N ν a0 (nI e)) (fun s' => DP μ ν a0 s s')) := by
  have h5 := hs.2.2.2.2.2.1
  have hE := hRC.2 e (by omega)
  have hL := cL_of hE hX
  have hM := mL_of hX
  have hl := hX.2.2.2.2.2.2.2.1
  have hq := hl.1
  have h8 : 2 ^ q ≤ 2 ^ 8 := Nat.pow_le_pow_right (by decide) hq
  have h1 : 0 < 2 ^ q := Nat.two_pow_pos q
  have hb := bsC_le (q := q) (fi := fi) (la := la) (fe := fe) (le := le) (2 ^ q - 1)
  unfold fX8_lend
  refine ok_ar e rfl (by omega) (by decide) ?_
  refine ok_bind (k_bestChoice (by omega) hl hL) ?_
  rintro _ rfl
  unfold fX11_doTakeBest
  generalize hCe : bsC q fi la fe le (2 ^ q - 1) = C at *
  refine ok_bind (k_feesOf (by omega) hl hL (show C < 256 by omega)) ?_
  rintro _ rfl
  refine ok_bind (k_takeLoans (by omega) hl hL (show C < 256 by omega)) ?_
  rintro m ⟨g1, g2, g3, g4, g5⟩
  rw [pc_q hq (show C < 2 ^ q by omega)] at g3
  refine ok_lt (ok_some ?_)
  rw [m_isExhibit hs.2.2.2.2.1 h5, bS, (idx_nI (by omega) (by omega)).mpr he]
  refine ok_cdT rfl ?_
  refine ok_bindE (m_of e 5 (by omega) (by decide) rfl rfl) ?_
  rw [hM.1]
  refine ok_ifF (nI_ne0 (by omega) (by omega)) ?_
  refine ok_bind (k_best (by omega) (by omega) hl hM) ?_
  rintro _ rfl
  rw [hCe]
  refine ok_bind (k_feesM (by omega) (by omega) hl hM (show C < 256 by omega)) ?_
  rintro _ rfl
  refine (k_takeM (F := nI (fees q fe C.testBit)) hN (by omega) hl hM (show C < 2 ^ q by omega)).mono ?_
  rintro ⟨w', v'⟩ ⟨hv, w, hw', w1, w2, w3, w4, w5⟩
  dsimp only at hv hw'
  subst hv
  subst hw'
  have hup := ex_upL (μ' := m) (ν' := w) (q' := 0) (fi' := fi) (la' := la) (fe' := fe) (le' := leK C fi la le q) (x6 := ν (a0 + 1) (82 + 147 * e + 6) + nI (pc C)) hRC hs he hX ⟨by omega, fun k hk => absurd hk (Nat.not_lt_zero _), leK_le hl C q (Nat.le_refl _)⟩ (fun q' k1 k2 k3 k4 => g5 q' (by omega)) (fun j k1 k2 => g4 j k1 k2) g2 (by rw [g3]; exact congrArg (· + _) hE.1.2.2.2.2.2.2) (fun k hk => ⟨by rw [g5 _ (by omega), w2 _ (fun v _ _ => by omega)]; exact (hE.2.2.1 k hk).1, by rw [g5 _ (by omega), w2 _ (fun v _ _ => by omega)]; exact (hE.2.2.1 k hk).2.1, by rw [g5 _ (by omega), w2 _ (fun v _ _ => by omega)]; exact (hE.2.2.1 k hk).2.2⟩) g1 (fun j hj => w2 j (fun v k1 k2 => hj v k1 (by omega))) w3 w4 (fun k hk => absurd hk (Nat.not_lt_zero _)) w5
  obtain ⟨⟨⟨⟨a1, a2, a3, a4⟩, bw, cm, ch⟩, eE⟩, ⟨s1, s2, s3, s4, s5, s6, s7, s8⟩⟩ := hup
  have wz : ∀ j, j ≠ 3 → mset w (a0 + 1) 3 (ν (a0 + 1) 3 + nI (fees q fe C.testBit)) (a0 + 1) j = w (a0 + 1) j := fun j hj => mset_sl _ _ _ _ hj
  have mz : ∀ q', q' ≠ 1 → mset m 1 7 (m 1 7 + nI (fees q fe C.testBit)) q' = m q' := fun q' hq' => mset_ne _ _ _ _ hq'
  refine ⟨⟨⟨⟨?_, ?_, ?_, ?_⟩, fun i hi => ?_, fun a ha b hb => ?_, fun a ha b hb => ?_⟩, fun x hx => (eE x hx).mv (fun q' k1 k2 => mz q' (by omega)) (fun v hv => wz _ (by omega))⟩, ⟨n, ec, mn, ht, ?_, s2, fun a ha b hb => ⟨?_, ?_⟩, fun i hi => ?_, ?_, s6, fun x hx => ?_, fun x k1 k2 v hv => ?_⟩, rfl, ?_, ?_, ?_, fun j _ => ?_⟩
  · dsimp only; rw [mset_sl _ _ _ _ (by decide), wz _ (by decide)]; exact a1
  · dsimp only; rw [mset_sl _ _ _ _ (by decide), wz _ (by decide)]; exact a2
  · dsimp only; rw [mset_sl _ _ _ _ (by decide), wz _ (by decide)]; exact a3
  · dsimp only; rw [mset_at, mset_at, a4, w2 3 (fun v _ _ => by omega)]
  · dsimp only; rw [mz _ (by omega), wz _ (by omega)]; exact bw i hi
  · dsimp only; rw [mz _ (by omega), wz _ (by omega)]; exact cm a ha b hb
  · dsimp only; rw [mz _ (by omega), wz _ (by omega)]; exact ch a ha b hb
  · dsimp only; rw [wz _ (by decide)]; exact s1
  · dsimp only; rw [wz _ (by omega)]; exact (s3 a ha b hb).1
  · dsimp only; rw [wz _ (by omega)]; exact (s3 a ha b hb).2
  · obtain ⟨v, hv, e4⟩ := s4 i hi
    exact ⟨v, hv, by dsimp only; rw [wz _ (by omega)]; exact e4⟩
  · dsimp only; rw [wz _ (by decide)]; exact s5
  · obtain ⟨r', l', p', q', fi', la', fe', le', hX'⟩ := s7 x hx
    exact ⟨r', l', p', q', fi', la', fe', le', hX'.cg (fun v hv => wz _ (by omega))⟩
  · dsimp only; rw [wz _ (by omega)]; exact s8 x k1 k2 v hv
  · exact frm.set (X := fun q => (1 ≤ q ∧ q < 48) ∨ (520 ≤ q ∧ q < 546)) (g5.mono (fun q hq => by omega)) (by omega) _ _
  · dsimp only; rw [mset_ne _ _ _ _ (by decide), g5 _ (by omega)]; exact h0
  · exact frm.set (X := fun q => q = a0 ∨ q = a0 + 1 ∨ (a0 + 5 ≤ q ∧ q ≤ a0 + 8)) (w1.mono (fun q hq => by omega)) (by omega) _ _
  · dsimp only; rw [mset_ne _ _ _ _ (by omega), w1 _ (by omega)]
theorem cmd_take {x : Int32} (hN : 1000 ≤ N) (h : ST μ ν a0) : CMD [0, 2] a0 (fun q => fX10_takeFault N q 0 x) (fun q => fX8_lend N q 1 x) (fun q => fX11_doTakeBest N q a0 x) μ ν := by
  obtain ⟨hRC, ⟨n, ec, mn, ht, hs⟩, h0⟩ := h
  have h5 := hs.2.2.2.2.2.1
  have z1 := hs.2.2.2.2.1
  have m4 : μ 1 4 = nI ec := hRC.1.1.2.1.trans z1
  cases hx : idx ec x
  · refine Or.inl ⟨1, 0, takeF_x m4 h5 hx, by decide, by decide, by decide, rfl, ?_⟩
    show fX11_doTakeBest N ν a0 x = _
    unfold fX11_doTakeBest
    rw [m_isExhibit z1 h5, bS, hx]; rfl
  · obtain ⟨e, he, rfl⟩ := idx_t.mp hx
    obtain ⟨r, l, p, q, fi, la, fe, le, hX⟩ := hs.2.2.2.2.2.2.1 e he
    have hE := hRC.2 e (by omega)
    have hl := hX.2.2.2.2.2.2.2.1
    have e1 := takeF_t (N := N) m4 h5 he (cL_of hE hX).1 hl.1
    by_cases hq : q = 0
    · rw [if_pos hq] at e1
      refine Or.inl ⟨3, 1, e1, by decide, by decide, by decide, rfl, ?_⟩
      have key : Ok (fX11_doTakeBest N ν a0 (nI e)) (fun s => s = (mset ν a0 6 (nI 2), 0)) := by
        unfold fX11_doTakeBest
        rw [m_isExhibit z1 h5, bS, hx]
        refine ok_cdT rfl ?_
        refine ok_bindE (m_of e 5 (by omega) (by decide) rfl rfl) ?_
        rw [(mL_of hX).1, hq]
        exact ok_ifT rfl (ok_some rfl)
      obtain ⟨s, es, hs'⟩ := key
      show fX11_doTakeBest N ν a0 (nI e) = _
      rw [es, hs']
    · rw [if_neg hq] at e1
      exact Or.inr ⟨e1, takeBoth hN hRC hs h0 he hX hq⟩
theorem o_takeBest {x : Int32} (hN : 1000 ≤ N) (h : RR μ ν a0 t) : Ok (fX10_takeBest N μ 0 x) (fun r => Ok (fX11_takeBest N ν a0 x) (fun r' => RR r.1 r'.1 a0 t ∧ Sm [0, 2] r.2 r'.1 a0 r'.2)) :=
  op_chg (fault := fun q => fX10_takeFault N q 0 x) (deed := fun q => fX8_lend N q 1 x) (dom := fun q => fX11_doTakeBest N q a0 x) (by omega) h (fun q hq => cmd_take hN hq)
end CB
