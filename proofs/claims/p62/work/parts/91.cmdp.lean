/-! Pure layer, 31: removing legs, warmth, exhibits, limits. -/
section CP
variable {N : Nat} {μ ν : Mem} {a0 n ec : Nat} {mn ht : Nat → Nat → Nat} {t : List Nat}
theorem rm_shape {x y : Int32} (w : Mem) : ((fX11_asksLeg N w a0 x y).bind fun r2 => jn (fun (y3 : Int32) (μ4 : Mem) => (fX11_ends N μ4 a0 y3).bind fun r8 => some (r8.1, r8.2)) fun j5 => cond r2.2 ((fX11_lays N r2.1 a0 x y 0 0).bind fun r10 => j5 r10.2 r10.1) (j5 0 r2.1)) = (((fX11_asksLeg N w a0 x y).bind fun r2 => cond r2.2 ((fX11_lays N r2.1 a0 x y 0 0).bind fun r10 => some (r10.1, r10.2)) (some (r2.1, 0))).bind fun r2 => (fX11_ends N r2.1 a0 r2.2).bind fun r3 => some (r3.1, r3.2) : Option (Mem × Int32)) := by
  cases fX11_asksLeg N w a0 x y with
  | none => rfl
  | some q =>
    obtain ⟨m, b⟩ := q
    cases b
    · rfl
    · show ((fX11_lays N m a0 x y 0 0).bind _ : Option (Mem × Int32)) = ((fX11_lays N m a0 x y 0 0).bind _ : Option (Mem × Int32)).bind _
      cases fX11_lays N m a0 x y 0 0 <;> rfl
theorem o_removeLeg {x y : Int32} (hN : 50 ≤ N) (h : RR μ ν a0 t) : Ok (fX10_removeLeg N μ 0 x y) (fun r => Ok (fX11_removeLeg N ν a0 x y) (fun r' => RR r.1 r'.1 a0 t ∧ Sm [0, 3] r.2 r'.1 a0 r'.2)) := by
  have hop := op_chg (N := N) (L := [0, 3]) (fault := fun q => fX10_missingLegFault N q 0 x y) (deed := fun q => fX8_putLeg N q 1 x y 0 0) (dom := fun w => (fX11_asksLeg N w a0 x y).bind fun r2 => cond r2.2 ((fX11_lays N r2.1 a0 x y 0 0).bind fun r10 => some (r10.1, r10.2)) (some (r2.1, 0))) (by omega) h (fun q hq => by
    obtain ⟨hRC, ⟨n, ec, mn, ht, hs⟩, h0⟩ := hq
    have hn := hs.2.1.1
    rcases k_missingLeg (N := N) (x := x) (y := y) hRC hs with ⟨a, b, ha, hb, rfl, rfl, hp, e1, e2⟩ | ⟨e1, e2⟩ | ⟨e1, e2⟩
    · refine Or.inr ⟨e1, ?_⟩
      have hab := ((hs.2.1.2 a b).2.2.2.2 hp).2.2
      have hk6 : mset (kpM ν a0) a0 6 0 = kpM ν a0 := by
        funext q j
        rw [mset_el]
        by_cases c : q = a0 ∧ j = 6
        · rw [if_pos c, c.1, c.2, kp_6]
        · rw [if_neg c]
      obtain ⟨r, er, r', er', hD⟩ := layBoth (m := 0) (w := 0) hN hRC hs h0 ha hb hab (by decide) (by decide)
      refine ⟨r, er, r', ?_, hD⟩
      show ((fX11_asksLeg N (kpM ν a0) a0 (nI a) (nI b)).bind _ : Option (Mem × Int32)) = _
      rw [e2, hk6, bS]
      show ((fX11_lays N (kpM ν a0) a0 (nI a) (nI b) (nI 0) (nI 0)).bind _ : Option (Mem × Int32)) = _
      rw [er']; rfl
    · refine Or.inl ⟨1, 0, e1, by decide, by decide, by decide, rfl, ?_⟩
      show ((fX11_asksLeg N (kpM ν a0) a0 x y).bind _ : Option (Mem × Int32)) = _
      rw [e2]; rfl
    · refine Or.inl ⟨4, 1, e1, by decide, by decide, by decide, rfl, ?_⟩
      show ((fX11_asksLeg N (kpM ν a0) a0 x y).bind _ : Option (Mem × Int32)) = _
      rw [e2]; rfl)
  obtain ⟨r, er, r', er', hr⟩ := hop
  refine ⟨r, er, r', ?_, hr⟩
  rw [← er']
  unfold fX11_removeLeg
  rw [m_keep, bS, bS]
  exact rm_shape _
/-- a number of the state's head changed, on both sides -/
theorem o_setWarmth {x y : Int32} (hN : 20 ≤ N) (h : RR μ ν a0 t) : Ok (fX10_setWarmth N μ 0 x y) (fun r => Ok (fX11_setWarmth N ν a0 x y) (fun r' => RR r.1 r'.1 a0 t ∧ Sm [0, 1] r.2 r'.1 a0 r'.2)) := by
  obtain ⟨n, ec, mn, ht, hs⟩ := h.2.1
  have hn := hs.2.1.1
  have hkR : ∀ z, fX11_isRoom N (kpM ν a0) a0 z = some (idx n z) := fun z => m_isRoom (by rw [kp_s]; exact hs.1) hn
  have hfail : ∀ (i k : Nat), i < 5 → [0, 1][i]? = some k → Ok (fX11_ends N (mset (kpM ν a0) a0 6 (nI (i + 1))) a0 0) (fun r => RR μ r.1 a0 t ∧ Sm [0, 1] (.inl k : Nat ⊕ Int32) r.1 a0 r.2) := fun i k hi hk => by
    rw [m_endsF (k := i + 1) (by omega) (by omega) (mset_at _ _ _ _)]
    refine ok_some ⟨h.fail (fun j hj => ?_) (fun q hq => ?_) (fun j h6 h13 => ?_), Or.inr ⟨i, k, hk, rfl, ?_⟩⟩
    · rw [mset_ne _ _ _ _ (by omega), kp_b hj]
    · rw [mset_ne _ _ _ _ (by omega), kp_o (by omega) (by omega)]
    · rw [mset_sl _ _ _ _ h6, kp_f h6]
    · show mcp _ _ _ _ _ _ a0 6 = _
      rw [mcp_ne (by omega), mset_at]
  unfold fX10_setWarmth fX11_setWarmth fX11_doSetWarmth
  rw [k_roomIndexFault (h.1.1.1.1.trans hs.1) hn, bS, m_keep, bS, hkR, bS]
  cases hx : idx n x
  · refine ok_tbL (e := 0) (μ := μ) rfl ?_
    refine ok_bindE rfl ?_
    obtain ⟨r, er, hr⟩ := hfail 0 0 (by decide) rfl
    exact ok_bindE er (ok_some hr)
  · obtain ⟨j, hj, rfl⟩ := idx_t.mp hx
    refine ok_tbR (a := ()) (μ := μ) rfl ?_
    refine ok_bindE digF ?_
    cases hd : decide (0 ≤ y ∧ y ≤ 9)
    · refine ok_tbL (e := 1) (μ := μ) rfl ?_
      refine ok_bindE (a := (mset (kpM ν a0) a0 6 (nI 2), 0)) ?_ ?_
      · show (Option.bind _ _ : Option (Mem × Int32)) = _
        rw [k_inE, hd]; rfl
      · obtain ⟨r, er, hr⟩ := hfail 1 1 (by decide) rfl
        exact ok_bindE er (ok_some hr)
    · obtain ⟨w, hw, rfl⟩ := dig_of hd
      obtain ⟨f, c, hH⟩ := h.2.2.1
      have hf9 := hH.1
      refine ok_tbR (a := ()) (μ := μ) rfl ?_
      refine ok_bind (k_remember hN hH.1 hH.2.1 hH.2.2.1 hH.2.2.2.1 h.1) ?_
      intro m hm
      have hRm : RC m 1 (ν (a0 + 1)) := h.1.mv (fun q g1 g2 => hm.2.2.2 q (by omega)) (fun _ _ => rfl)
      refine ok_ag j rfl (by omega) (by decide) ?_
      refine ok_aw j rfl (by omega) (by decide) ?_
      refine ok_some ?_
      have hdo : Ok (cond true ((fX11_in N (kpM ν a0) (nI w) 0 9).bind fun r3 => cond r3 (ag (kpM ν a0 (a0 + 1)) 817 (4 + nI j) fun v5 => aw (kpM ν a0) (a0 + 1) 817 (4 + nI j) (nI w) fun μ8 => some (μ8, v5)) ((fX11_fails N (kpM ν a0) a0 2).bind fun r11 => some (r11.1, r11.2))) ((fX11_fails N (kpM ν a0) a0 1).bind fun r12 => some (r12.1, r12.2))) (fun r => r = (mset (kpM ν a0) (a0 + 1) (4 + j) (nI w), ν (a0 + 1) (4 + j))) := by
        refine ok_cdT rfl ?_
        refine ok_bindE k_inE ?_
        refine ok_cdT hd ?_
        refine ok_ag (4 + j) (nI_add 4 j) (by omega) (by decide) ?_
        refine ok_aw (4 + j) (nI_add 4 j) (by omega) (by decide) ?_
        exact ok_some (by rw [kp_s])
      refine ok_bind hdo ?_
      rintro _ rfl
      have w6 : mset (kpM ν a0) (a0 + 1) (4 + j) (nI w) a0 6 = 0 := by rw [mset_ne _ _ _ _ (by omega), kp_6]
      have w5 : mset (kpM ν a0) (a0 + 1) (4 + j) (nI w) a0 5 = nI c := by rw [mset_ne _ _ _ _ (by omega), kp_f (by decide)]; exact hH.2.2.2.2.1
      dsimp only
      rw [m_endsT hH.2.1 w6 w5, bS]
      have wz : ∀ i, i ≠ 4 + j → mset (kpM ν a0) (a0 + 1) (4 + j) (nI w) (a0 + 1) i = ν (a0 + 1) i := fun i hi => by rw [mset_sl _ _ _ _ hi, kp_s]
      refine ok_some ⟨h.chg hH hm (frm.set (X := fun q => (1 ≤ q ∧ q < 48) ∨ (520 ≤ q ∧ q < 546)) frm.rf (by omega) _ _) ?_ ?_ ?_ (fun i hi => by rw [mset_ne _ _ _ _ (by omega), kp_b hi]) (fun q hq => by rw [mset_ne _ _ _ _ (by omega), kp_o (by omega) (by omega)]) (fun i h6 h13 => by rw [mset_ne _ _ _ _ (by omega), kp_f h6]), Or.inl ⟨_, rfl, ?_, (hRm.1.2.1 j (by omega)).symm⟩⟩
      · show mset m (1 + 1) j (nI w) (543 + 2) 0 = 0
        rw [mset_ne _ _ _ _ (by decide), hm.2.2.2 _ (by omega)]; exact h.2.2.2.2.2.2.2.1
      · obtain ⟨⟨⟨a1, a2, a3, a4⟩, bw, cm, ch⟩, eE⟩ := hRm
        refine ⟨⟨⟨?_, ?_, ?_, ?_⟩, fun r hr => ?_, fun a ha b hb => ?_, fun a ha b hb => ?_⟩, fun e he => (eE e he).mv (fun q g1 g2 => mset_ne _ _ _ _ (by omega)) (fun v hv => wz _ (by omega))⟩
        · rw [wz _ (by omega), mset_ne _ _ _ _ (by decide)]; exact a1
        · rw [wz _ (by omega), mset_ne _ _ _ _ (by decide)]; exact a2
        · rw [wz _ (by omega), mset_ne _ _ _ _ (by decide)]; exact a3
        · rw [wz _ (by omega), mset_ne _ _ _ _ (by decide)]; exact a4
        · by_cases er : r = j
          · subst er
            show mset m (1 + 1) r (nI w) (1 + 1) r = _
            rw [mset_at, mset_at]
          · rw [wz _ (by omega)]
            show mset m (1 + 1) j (nI w) (1 + 1) r = _
            rw [mset_sl _ _ _ _ er]; exact bw r hr
        · rw [wz _ (by omega), mset_ne _ _ _ _ (by omega)]; exact cm a ha b hb
        · rw [wz _ (by omega), mset_ne _ _ _ _ (by omega)]; exact ch a ha b hb
      · obtain ⟨s1, s2, s3, s4, s5, s6, s7, s8⟩ := hs
        refine ⟨n, ec, mn, ht, by rw [wz _ (by omega)]; exact s1, s2, fun a ha b hb => ⟨by rw [wz _ (by omega)]; exact (s3 a ha b hb).1, by rw [wz _ (by omega)]; exact (s3 a ha b hb).2⟩, fun r hr => ?_, by rw [wz _ (by omega)]; exact s5, s6, fun e he => ?_, fun e g1 g2 v hv => by rw [wz _ (by omega)]; exact s8 e g1 g2 v hv⟩
        · by_cases er : r = j
          · subst er; exact ⟨w, hw, mset_at _ _ _ _⟩
          · obtain ⟨v, hv, e4⟩ := s4 r hr
            exact ⟨v, hv, by rw [wz _ (by omega)]; exact e4⟩
        · obtain ⟨r, l, p, q, fi, la, fe, le, hX⟩ := s7 e he
          exact ⟨r, l, p, q, fi, la, fe, le, hX.cg (fun v hv => wz _ (by omega))⟩
      · show psM _ a0 c a0 6 = 0
        rw [ps_f (by decide), w6]
/-- one exhibit's row changed in the reference, the rest kept: the class's state follows -/
theorem RC_ex {μ' : Mem} {Z Z' : Nat → Int32} {e : Nat} (h : RC μ 1 Z) (he : e < 5) (hb : ∀ q, 1 ≤ q → q < 17 → μ' q = μ q) (hz : ∀ j, j < 82 → Z' j = Z j) (ho : ∀ x, x < 5 → x ≠ e → ∀ q, 1 + 16 + 1 + 6 * x ≤ q → q < 1 + 16 + 1 + 6 * x + 6 → μ' q = μ q) (hzo : ∀ x, x < 5 → x ≠ e → ∀ w, w < 147 → Z' (82 + 147 * x + w) = Z (82 + 147 * x + w)) (hE : RE μ' (1 + 16 + 1 + 6 * e) (exY Z' e)) : RC μ' 1 Z' :=
  ⟨h.1.mv (fun q g1 g2 => hb q g1 (by omega)) hz, fun x hx => by
    by_cases c : x = e
    · subst c; exact hE
    · exact (h.2 x hx).mv (ho x hx c) (fun w hw => hzo x hx c w hw)⟩
theorem SI_ex {Z Z' : Nat → Int32} {e : Nat} (h : SIp Z n ec mn ht) (he : e < ec) (hz : ∀ j, j < 82 → Z' j = Z j) (hzo : ∀ x, x < 5 → x ≠ e → ∀ w, w < 147 → Z' (82 + 147 * x + w) = Z (82 + 147 * x + w)) (hE : ∃ r l p q fi la fe le, EXq n (exY Z' e) r l p q fi la fe le) : SI Z' := by
  obtain ⟨s1, s2, s3, s4, s5, s6, s7, s8⟩ := h
  refine ⟨n, ec, mn, ht, by rw [hz _ (by omega)]; exact s1, s2, fun a ha b hb => ⟨by rw [hz _ (by omega)]; exact (s3 a ha b hb).1, by rw [hz _ (by omega)]; exact (s3 a ha b hb).2⟩, fun r hr => ?_, by rw [hz _ (by omega)]; exact s5, s6, fun x hx => ?_, fun x g1 g2 v hv => by rw [hzo x g2 (by omega) v hv]; exact s8 x g1 g2 v hv⟩
  · obtain ⟨v, hv, e4⟩ := s4 r hr
    exact ⟨v, hv, by rw [hz _ (by omega)]; exact e4⟩
  · by_cases c : x = e
    · subst c; exact hE
    · obtain ⟨r, l, p, q, fi, la, fe, le, hX⟩ := s7 x hx
      exact ⟨r, l, p, q, fi, la, fe, le, hX.cg (fun v hv => hzo x (by omega) c v hv)⟩
theorem o_setLimit {x y : Int32} (hN : 20 ≤ N) (h : RR μ ν a0 t) : Ok (fX10_setLimit N μ 0 x y) (fun r => Ok (fX11_setLimit N ν a0 x y) (fun r' => RR r.1 r'.1 a0 t ∧ Sm [0, 1] r.2 r'.1 a0 r'.2)) := by
  obtain ⟨n, ec, mn, ht, hs⟩ := h.2.1
  have h1 := hs.2.2.2.2.1
  have h5 := hs.2.2.2.2.2.1
  have hkE : ∀ z, fX11_isExhibit N (kpM ν a0) a0 z = some (idx ec z) := fun z => m_isExhibit (by rw [kp_s]; exact h1) h5
  have hfail : ∀ (i k : Nat), i < 5 → [0, 1][i]? = some k → Ok (fX11_ends N (mset (kpM ν a0) a0 6 (nI (i + 1))) a0 0) (fun r => RR μ r.1 a0 t ∧ Sm [0, 1] (.inl k : Nat ⊕ Int32) r.1 a0 r.2) := fun i k hi hk => by
    rw [m_endsF (k := i + 1) (by omega) (by omega) (mset_at _ _ _ _)]
    refine ok_some ⟨h.fail (fun j hj => ?_) (fun q hq => ?_) (fun j h6 h13 => ?_), Or.inr ⟨i, k, hk, rfl, ?_⟩⟩
    · rw [mset_ne _ _ _ _ (by omega), kp_b hj]
    · rw [mset_ne _ _ _ _ (by omega), kp_o (by omega) (by omega)]
    · rw [mset_sl _ _ _ _ h6, kp_f h6]
    · show mcp _ _ _ _ _ _ a0 6 = _
      rw [mcp_ne (by omega), mset_at]
  unfold fX10_setLimit fX11_setLimit fX11_doSetLimit
  rw [m_keep, bS, hkE, bS]
  rcases k_existing (N := N) (x := x) (h.1.1.1.2.1.trans h1) h5 with ⟨hx, e1⟩ | ⟨e, he, rfl, hx, e1⟩ <;> rw [e1, hx]
  · refine ok_tbL (e := 0) (μ := μ) rfl ?_
    refine ok_bindE rfl ?_
    obtain ⟨r, er, hr⟩ := hfail 0 0 (by decide) rfl
    exact ok_bindE er (ok_some hr)
  · refine ok_tbR (a := 1 + 16 + 1 + 6 * e) (μ := μ) rfl ?_
    refine ok_bindE digF ?_
    cases hd : decide (0 ≤ y ∧ y ≤ 9)
    · refine ok_tbL (e := 1) (μ := μ) rfl ?_
      refine ok_bindE (a := (mset (kpM ν a0) a0 6 (nI 2), 0)) ?_ ?_
      · show (Option.bind _ _ : Option (Mem × Int32)) = _
        rw [k_inE, hd]; rfl
      · obtain ⟨r, er, hr⟩ := hfail 1 1 (by decide) rfl
        exact ok_bindE er (ok_some hr)
    · obtain ⟨w, hw, rfl⟩ := dig_of hd
      obtain ⟨f, c, hH⟩ := h.2.2.1
      have hf9 := hH.1
      refine ok_tbR (a := ()) (μ := μ) rfl ?_
      refine ok_bind (k_remember hN hH.1 hH.2.1 hH.2.2.1 hH.2.2.2.1 h.1) ?_
      intro m hm
      have hRm : RC m 1 (ν (a0 + 1)) := h.1.mv (fun q g1 g2 => hm.2.2.2 q (by omega)) (fun _ _ => rfl)
      refine ok_lt (ok_lt (ok_some ?_))
      have hdo : Ok (cond true ((fX11_in N (kpM ν a0) (nI w) 0 9).bind fun r3 => cond r3 ((fX11_of N (kpM ν a0) a0 (nI e) 1).bind fun r5 => (fX11_sets N (kpM ν a0) a0 (nI e) 1 (nI w)).bind fun r6 => some (r6, r5)) ((fX11_fails N (kpM ν a0) a0 2).bind fun r7 => some (r7.1, r7.2))) ((fX11_fails N (kpM ν a0) a0 1).bind fun r8 => some (r8.1, r8.2))) (fun r => r = (mset (kpM ν a0) (a0 + 1) (82 + 147 * e + 1) (nI w), ν (a0 + 1) (82 + 147 * e + 1))) := by
        refine ok_cdT rfl ?_
        refine ok_bindE k_inE ?_
        refine ok_cdT hd ?_
        refine ok_bindE (m_of e 1 (by omega) (by decide) rfl rfl) ?_
        refine ok_bindE (m_sets e 1 (by omega) (by decide) rfl rfl) ?_
        exact ok_some (by rw [kp_s])
      refine ok_bind hdo ?_
      rintro _ rfl
      have w6 : mset (kpM ν a0) (a0 + 1) (82 + 147 * e + 1) (nI w) a0 6 = 0 := by rw [mset_ne _ _ _ _ (by omega), kp_6]
      have w5 : mset (kpM ν a0) (a0 + 1) (82 + 147 * e + 1) (nI w) a0 5 = nI c := by rw [mset_ne _ _ _ _ (by omega), kp_f (by decide)]; exact hH.2.2.2.2.1
      dsimp only
      rw [m_endsT hH.2.1 w6 w5, bS]
      have wz : ∀ i, i ≠ 82 + 147 * e + 1 → mset (kpM ν a0) (a0 + 1) (82 + 147 * e + 1) (nI w) (a0 + 1) i = ν (a0 + 1) i := fun i hi => by rw [mset_sl _ _ _ _ hi, kp_s]
      have hE := hRm.2 e (by omega)
      refine ok_some ⟨h.chg hH hm (frm.set (X := fun q => (1 ≤ q ∧ q < 48) ∨ (520 ≤ q ∧ q < 546)) frm.rf (by omega) _ _) ?_ ?_ ?_ (fun i hi => by rw [mset_ne _ _ _ _ (by omega), kp_b hi]) (fun q hq => by rw [mset_ne _ _ _ _ (by omega), kp_o (by omega) (by omega)]) (fun i h6 h13 => by rw [mset_ne _ _ _ _ (by omega), kp_f h6]), Or.inl ⟨_, rfl, ?_, hE.1.2.1.symm⟩⟩
      · show mset m _ 1 (nI w) (543 + 2) 0 = 0
        rw [mset_ne _ _ _ _ (by omega), hm.2.2.2 _ (by omega)]; exact h.2.2.2.2.2.2.2.1
      · refine RC_ex (e := e) hRm (by omega) (fun q g1 g2 => mset_ne _ _ _ _ (by omega)) (fun j hj => wz _ (by omega)) (fun x hx hne q g1 g2 => mset_ne _ _ _ _ (by omega)) (fun x hx hne w hw => wz _ (by omega)) ?_
        obtain ⟨⟨b0, b1, b2, b3, b4, b5, b6⟩, c1, c2, c3⟩ := hE
        refine ⟨⟨?_, ?_, ?_, ?_, ?_, ?_, ?_⟩, fun i hi => ?_, fun k hk => ⟨?_, ?_, ?_⟩, fun d hd => ?_⟩
        · rw [mset_sl _ _ _ _ (by decide)]; dsimp only [exY]; rw [wz _ (by omega)]; exact b0
        · rw [mset_at]; dsimp only [exY]; rw [mset_at]
        · rw [mset_sl _ _ _ _ (by decide)]; dsimp only [exY]; rw [wz _ (by omega)]; exact b2
        · rw [mset_sl _ _ _ _ (by decide)]; dsimp only [exY]; rw [wz _ (by omega)]; exact b3
        · rw [mset_sl _ _ _ _ (by decide)]; dsimp only [exY]; rw [wz _ (by omega)]; exact b4
        · rw [mset_sl _ _ _ _ (by decide)]; dsimp only [exY]; rw [wz _ (by omega)]; exact b5
        · rw [mset_sl _ _ _ _ (by decide)]; dsimp only [exY]; rw [wz _ (by omega)]; exact b6
        · rw [mset_ne _ _ _ _ (by omega)]; dsimp only [exY]; rw [wz _ (by omega)]; exact c1 i hi
        · rw [mset_ne _ _ _ _ (by omega)]; dsimp only [exY]; rw [wz _ (by omega)]; exact (c2 k hk).1
        · rw [mset_ne _ _ _ _ (by omega)]; dsimp only [exY]; rw [wz _ (by omega)]; exact (c2 k hk).2.1
        · rw [mset_ne _ _ _ _ (by omega)]; dsimp only [exY]; rw [wz _ (by omega)]; exact (c2 k hk).2.2
        · rw [mset_ne _ _ _ _ (by omega)]; dsimp only [exY]; rw [wz _ (by omega)]; exact c3 d hd
      · refine SI_ex (e := e) hs he (fun j hj => wz _ (by omega)) (fun x hx hne w hw => wz _ (by omega)) ?_
        obtain ⟨r, l, p, q, fi, la, fe, le, x1, x2, x3, x4, x5, x6, x7, x8, x9, x10, x11⟩ := hs.2.2.2.2.2.2.1 e he
        have hq8 := x8.1
        refine ⟨r, w, p, q, fi, la, fe, le, ?_, x2, mset_at _ _ _ _, hw, fun i hi => ?_, x6, ?_, x8, fun k hk => ⟨?_, ?_, ?_⟩, fun d hd => ?_, ?_⟩
        · dsimp only [exY]; rw [wz _ (by omega)]; exact x1
        · dsimp only [exY]; rw [wz _ (by omega)]; exact x5 i hi
        · dsimp only [exY]; rw [wz _ (by omega)]; exact x7
        · dsimp only [exY]; rw [wz _ (by omega)]; exact (x9 k hk).1
        · dsimp only [exY]; rw [wz _ (by omega)]; exact (x9 k hk).2.1
        · dsimp only [exY]; rw [wz _ (by omega)]; exact (x9 k hk).2.2
        · dsimp only [exY]; rw [wz _ (by omega)]; exact x10 d hd
        · dsimp only [exY]; rw [wz _ (by omega), wz _ (by omega), wz _ (by omega)]; exact x11
      · show psM _ a0 c a0 6 = 0
        rw [ps_f (by decide), w6]
end CP
