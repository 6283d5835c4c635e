/-! Pure layer, 32: adding exhibits, dropping, melting, days. -/
section CE
variable {N : Nat} {μ ν : Mem} {a0 n ec : Nat} {mn ht : Nat → Nat → Nat} {t : List Nat}
theorem SIp_ex {Z Z' : Nat → Int32} {e : Nat} (h : SIp Z n ec mn ht) (he : e < ec) (hz : ∀ j, j < 82 → Z' j = Z j) (hzo : ∀ x, x < 5 → x ≠ e → ∀ w, w < 147 → Z' (82 + 147 * x + w) = Z (82 + 147 * x + w)) (hE : ∃ r l p q fi la fe le, EXq n (exY Z' e) r l p q fi la fe le) : SIp Z' n ec mn ht := by
  obtain ⟨s1, s2, s3, s4, s5, s6, s7, s8⟩ := h
  refine ⟨by rw [hz _ (by omega)]; exact s1, s2, fun a ha b hb => ⟨by rw [hz _ (by omega)]; exact (s3 a ha b hb).1, by rw [hz _ (by omega)]; exact (s3 a ha b hb).2⟩, fun r hr => ?_, by rw [hz _ (by omega)]; exact s5, s6, fun x hx => ?_, fun x g1 g2 v hv => by rw [hzo x g2 (by omega) v hv]; exact s8 x g1 g2 v hv⟩
  · obtain ⟨v, hv, e4⟩ := s4 r hr
    exact ⟨v, hv, by rw [hz _ (by omega)]; exact e4⟩
  · by_cases c : x = e
    · subst c; exact hE
    · obtain ⟨r, l, p, q, fi, la, fe, le, hX⟩ := s7 x hx
      exact ⟨r, l, p, q, fi, la, fe, le, hX.cg (fun v hv => hzo x (by omega) c v hv)⟩
theorem pileF {x y : Int32} (h0 : μ 1 0 = nI n) (hn : n ≤ 6) (h4 : μ 1 4 = nI ec) (he : ec ≤ 5) : fX10_pileFault N μ 0 x y = some (if idx n x = true then (if decide (0 ≤ y ∧ y ≤ 9) = true then (if ec < 5 then 0 else 3) else 2) else 1) := by
  have key : Ok (fX10_pileFault N μ 0 x y) (fun r => r = if idx n x = true then (if decide (0 ≤ y ∧ y ≤ 9) = true then (if ec < 5 then 0 else 3) else 2) else 1) := by
    unfold fX10_pileFault
    refine ok_bindE (k_roomIndexFault h0 hn) ?_
    cases idx n x
    · exact ok_ifF (by decide) (ok_some rfl)
    · refine ok_ifT rfl ?_
      refine ok_bindE digF ?_
      cases decide (0 ≤ y ∧ y ≤ 9)
      · exact ok_ifF (by decide) (ok_some rfl)
      · refine ok_ifT rfl (ok_jn ?_)
        rw [h4]
        exact ok_ltI ec 5 (f := fun h6 => ok_some (by rw [if_pos rfl, if_pos rfl, if_pos h6])) (g := fun h6 => ok_some (by rw [if_pos rfl, if_pos rfl, if_neg (by omega)]))
  obtain ⟨r, e, h⟩ := key
  rw [e, h]
theorem cmd_pile {x y : Int32} (hN : 200 ≤ N) (h : ST μ ν a0) : CMD [0, 1, 2] a0 (fun q => fX10_pileFault N q 0 x y) (fun q => fX8_putExhibit N q 1 x y) (fun q => fX11_doAddExhibit N q a0 x y) μ ν := by
  obtain ⟨hRC, ⟨n, ec, mn, ht, hs⟩, h0⟩ := h
  have hn := hs.2.1.1
  have h5 := hs.2.2.2.2.2.1
  have z1 := hs.2.2.2.2.1
  have e1 := pileF (N := N) (x := x) (y := y) (hRC.1.1.1.trans hs.1) hn (hRC.1.1.2.1.trans z1) h5
  have hag : ∀ (k : Int32 → Option (Mem × Int32)), ag (ν (a0 + 1)) 817 1 k = k (nI ec) := fun k => by
    unfold ag
    rw [if_neg (by decide), show (1 : Int32).toNatClampNeg = 1 from rfl, z1]
  have e2 : ∀ (P : Mem × Int32 → Prop), (idx n x = false → P (mset ν a0 6 (nI 1), 0)) → (idx n x = true → decide (0 ≤ y ∧ y ≤ 9) = false → P (mset ν a0 6 (nI 2), 0)) → (idx n x = true → decide (0 ≤ y ∧ y ≤ 9) = true → ¬ ec < 5 → P (mset ν a0 6 (nI 3), 0)) → (∀ w : Mem, idx n x = true → decide (0 ≤ y ∧ y ≤ 9) = true → ec < 5 → frm (fun q => q = a0 + 1) ν w → (∀ j, (∀ v, v < 147 → j ≠ 82 + 147 * ec + v) → w (a0 + 1) j = ν (a0 + 1) j) → (∀ v, v < 147 → w (a0 + 1) (82 + 147 * ec + v) = 0) → P (mset (mset (mset w (a0 + 1) (82 + 147 * ec + 0) x) (a0 + 1) (82 + 147 * ec + 1) y) (a0 + 1) 1 (nI (ec + 1)), nI ec)) → Ok (fX11_doAddExhibit N ν a0 x y) P := fun P p1 p2 p3 p4 => by
    unfold fX11_doAddExhibit
    rw [hag, m_isRoom hs.1 hn, bS]
    refine ok_cd (fun hx => ?_) (fun hx => ok_some (p1 hx))
    rw [k_inE, bS]
    refine ok_cd (fun hy => ?_) (fun hy => ok_some (p2 hx hy))
    refine ok_eqI ec 5 (f := fun h6 => ok_some (p3 hx hy (by omega))) (g := fun h6 => ?_)
    have hec : ec < 5 := by omega
    refine ok_fix2 (fun k v m => ∃ i, i + k = 147 ∧ v = nI i ∧ frm (fun q => q = a0 + 1) ν m ∧ (∀ j, (∀ v, v < 147 → j ≠ 82 + 147 * ec + v) → m (a0 + 1) j = ν (a0 + 1) j) ∧ ∀ v, v < i → m (a0 + 1) (82 + 147 * ec + v) = 0) ?_ N 147 _ _ (by omega) ⟨0, rfl, rfl, frm.rf, fun _ _ => rfl, fun v hv => absurd hv (Nat.not_lt_zero _)⟩
    rintro k self v m ⟨i, hi, rfl, hf, hsm, hz⟩ hs1
    refine ok_le 147 i (f := fun hc => ?_) (g := fun hc => ?_)
    · have : i = 147 := by omega
      subst this
      refine ok_bindE (m_sets ec 0 hec (by decide) rfl rfl) ?_
      refine ok_bindE (m_sets ec 1 hec (by decide) rfl rfl) ?_
      refine ok_ag 1 rfl (by decide) (by decide) ?_
      have ev : mset (mset m (a0 + 1) (82 + 147 * ec + 0) x) (a0 + 1) (82 + 147 * ec + 1) y (a0 + 1) 1 = nI ec := by
        rw [mset_sl _ _ _ _ (by omega), mset_sl _ _ _ _ (by omega), hsm 1 (fun v hv => by omega)]; exact z1
      rw [ev, nI_1]
      refine ok_aw 1 rfl (by decide) (by decide) ?_
      exact ok_some (p4 m hx hy hec hf hsm hz)
    · refine ok_bindE (m_sets ec i hec hc rfl rfl) ?_
      refine ok_lt ?_
      refine hs1 (k - 1) _ _ (by omega) ⟨i + 1, by omega, nI_1 _, frm.set (X := fun q => q = a0 + 1) hf rfl _ _, fun j hj => ?_, fun v hv => ?_⟩
      · rw [mset_sl _ _ _ _ (hj i hc)]; exact hsm j hj
      · by_cases ev : v = i
        · subst ev; rw [mset_at]
        · rw [mset_sl _ _ _ _ (by omega)]; exact hz v (by omega)
  cases hx : idx n x
  · rw [hx] at e1
    obtain ⟨r, er1, er2⟩ := e2 (fun r => r = (mset ν a0 6 (nI 1), 0)) (fun _ => rfl) (fun z => by rw [hx] at z; cases z) (fun z => by rw [hx] at z; cases z) (fun w z => by rw [hx] at z; cases z)
    exact Or.inl ⟨1, 0, e1, by decide, by decide, by decide, rfl, by show fX11_doAddExhibit N ν a0 x y = _; rw [er1, er2]⟩
  · rw [hx] at e1
    cases hd : decide (0 ≤ y ∧ y ≤ 9)
    · rw [hd] at e1
      obtain ⟨r, er1, er2⟩ := e2 (fun r => r = (mset ν a0 6 (nI 2), 0)) (fun z => by rw [hx] at z; cases z) (fun _ _ => rfl) (fun _ z => by rw [hd] at z; cases z) (fun w _ z => by rw [hd] at z; cases z)
      exact Or.inl ⟨2, 1, e1, by decide, by decide, by decide, rfl, by show fX11_doAddExhibit N ν a0 x y = _; rw [er1, er2]⟩
    · rw [hd] at e1
      by_cases hec : ec < 5
      · rw [if_pos hec] at e1
        refine Or.inr ⟨e1, ?_⟩
        obtain ⟨r, hr, rfl⟩ := idx_t.mp hx
        obtain ⟨l, hl, rfl⟩ := dig_of hd
        show Ok (fX8_putExhibit N μ 1 (nI r) (nI l)) _
        unfold fX8_putExhibit
        rw [hRC.1.1.2.1, z1]
        refine ok_ar ec rfl hec (by decide) ?_
        refine ok_lt (ok_lt (ok_lt (ok_some ?_)))
        have e4 : mset (mset μ (1 + 16 + 1 + 6 * ec) 0 (nI r)) (1 + 16 + 1 + 6 * ec) 1 (nI l) 1 4 = nI ec := by
          rw [mset_ne _ _ _ _ (by omega), mset_ne _ _ _ _ (by omega)]; exact hRC.1.1.2.1.trans z1
        rw [e4, nI_1]
        refine e2 _ (fun z => by rw [hx] at z; cases z) (fun _ z => by rw [hd] at z; cases z) (fun _ _ z => absurd hec z) (fun w _ _ _ hf hsm hz => ?_)
        have wz : ∀ j, j ≠ 1 → (∀ v, v < 147 → j ≠ 82 + 147 * ec + v) → mset (mset (mset w (a0 + 1) (82 + 147 * ec + 0) (nI r)) (a0 + 1) (82 + 147 * ec + 1) (nI l)) (a0 + 1) 1 (nI (ec + 1)) (a0 + 1) j = ν (a0 + 1) j := fun j h1 h2 => by
          rw [mset_sl _ _ _ _ h1, mset_sl _ _ _ _ (h2 1 (by decide)), mset_sl _ _ _ _ (h2 0 (by decide)), hsm j h2]
        have we : ∀ v, v < 147 → mset (mset (mset w (a0 + 1) (82 + 147 * ec + 0) (nI r)) (a0 + 1) (82 + 147 * ec + 1) (nI l)) (a0 + 1) 1 (nI (ec + 1)) (a0 + 1) (82 + 147 * ec + v) = if v = 0 then nI r else if v = 1 then nI l else 0 := fun v hv => by
          rw [mset_sl _ _ _ _ (by omega)]
          by_cases c1 : v = 1
          · subst c1; rw [mset_at]; rfl
          · rw [mset_sl _ _ _ _ (by omega)]
            by_cases c0 : v = 0
            · subst c0; rw [mset_at]; rfl
            · rw [mset_sl _ _ _ _ (by omega), if_neg c0, if_neg c1]; exact hz v hv
        have mo : ∀ q, q ≠ 1 → q ≠ 1 + 16 + 1 + 6 * ec → mset (mset (mset μ (1 + 16 + 1 + 6 * ec) 0 (nI r)) (1 + 16 + 1 + 6 * ec) 1 (nI l)) 1 4 (nI (ec + 1)) q = μ q := fun q g1 g2 => by
          rw [mset_ne _ _ _ _ g1, mset_ne _ _ _ _ g2, mset_ne _ _ _ _ g2]
        have m1 : ∀ j, j ≠ 4 → mset (mset (mset μ (1 + 16 + 1 + 6 * ec) 0 (nI r)) (1 + 16 + 1 + 6 * ec) 1 (nI l)) 1 4 (nI (ec + 1)) 1 j = μ 1 j := fun j g1 => by
          rw [mset_sl _ _ _ _ g1, mset_ne _ _ _ _ (by omega), mset_ne _ _ _ _ (by omega)]
        have mx' : ∀ j, j ≠ 0 → j ≠ 1 → mset (mset (mset μ (1 + 16 + 1 + 6 * ec) 0 (nI r)) (1 + 16 + 1 + 6 * ec) 1 (nI l)) 1 4 (nI (ec + 1)) (1 + 16 + 1 + 6 * ec) j = μ (1 + 16 + 1 + 6 * ec) j := fun j g1 g2 => by
          rw [mset_ne _ _ _ _ (by omega), mset_sl _ _ _ _ g2, mset_sl _ _ _ _ g1]
        have hzero : ∀ v, v < 147 → ν (a0 + 1) (82 + 147 * ec + v) = 0 := fun v hv => hs.2.2.2.2.2.2.2 ec (Nat.le_refl _) hec v hv
        obtain ⟨⟨⟨a1, a2, a3, a4⟩, bw, cm, ch⟩, eE⟩ := hRC
        obtain ⟨s1, s2, s3, s4, s5, s6, s7, s8⟩ := hs
        refine ⟨⟨⟨⟨?_, ?_, ?_, ?_⟩, fun i hi => ?_, fun a ha b hb => ?_, fun a ha b hb => ?_⟩, fun e he => ?_⟩, ⟨n, ec + 1, mn, ht, ?_, s2, fun a ha b hb => ⟨?_, ?_⟩, fun i hi => ?_, ?_, by omega, fun e he => ?_, fun e g1 g2 v hv => ?_⟩, ?_, ?_, ?_, ?_, ?_⟩
        · dsimp only; rw [m1 _ (by decide), wz _ (by decide) (fun v hv => by omega)]; exact a1
        · dsimp only; rw [mset_at, mset_at]
        · dsimp only; rw [m1 _ (by decide), wz _ (by decide) (fun v hv => by omega)]; exact a3
        · dsimp only; rw [m1 _ (by decide), wz _ (by decide) (fun v hv => by omega)]; exact a4
        · dsimp only; rw [mo _ (by omega) (by omega), wz _ (by omega) (fun v hv => by omega)]; exact bw i hi
        · dsimp only; rw [mo _ (by omega) (by omega), wz _ (by omega) (fun v hv => by omega)]; exact cm a ha b hb
        · dsimp only; rw [mo _ (by omega) (by omega), wz _ (by omega) (fun v hv => by omega)]; exact ch a ha b hb
        · by_cases c : e = ec
          · subst c
            obtain ⟨⟨b0, b1, b2, b3, b4, b5, b6⟩, c1, c2, c3⟩ := eE e he
            dsimp only [exY] at b0 b1 b2 b3 b4 b5 b6 c1 c2 c3
            refine ⟨⟨?_, ?_, ?_, ?_, ?_, ?_, ?_⟩, fun i hi => ?_, fun k hk => ⟨?_, ?_, ?_⟩, fun d hd => ?_⟩
            · dsimp only [exY]
              rw [we 0 (by decide), mset_ne _ _ _ _ (by omega), mset_sl _ _ _ _ (by decide), mset_at]; rfl
            · dsimp only [exY]
              rw [we 1 (by decide), mset_ne _ _ _ _ (by omega), mset_at]; rfl
            · dsimp only [exY]
              rw [we 2 (by decide), mx' _ (by decide) (by decide), b2, hzero _ (by decide)]; rfl
            · dsimp only [exY]
              rw [we 3 (by decide), mx' _ (by decide) (by decide), b3, hzero _ (by decide)]; rfl
            · dsimp only [exY]
              rw [we 4 (by decide), mx' _ (by decide) (by decide), b4, hzero _ (by decide)]; rfl
            · dsimp only [exY]
              rw [we 5 (by decide), mx' _ (by decide) (by decide), b5, hzero _ (by decide)]; rfl
            · dsimp only [exY]
              rw [we 6 (by decide), mx' _ (by decide) (by decide), b6, hzero _ (by decide)]; rfl
            · dsimp only [exY]
              rw [we _ (by omega), mo _ (by omega) (by omega), c1 i hi, hzero _ (by omega), if_neg (by omega), if_neg (by omega)]
            · dsimp only [exY]
              rw [we _ (by omega), mo _ (by omega) (by omega), (c2 k hk).1, hzero _ (by omega), if_neg (by omega), if_neg (by omega)]
            · dsimp only [exY]
              rw [we _ (by omega), mo _ (by omega) (by omega), (c2 k hk).2.1, hzero _ (by omega), if_neg (by omega), if_neg (by omega)]
            · dsimp only [exY]
              rw [we _ (by omega), mo _ (by omega) (by omega), (c2 k hk).2.2, hzero _ (by omega), if_neg (by omega), if_neg (by omega)]
            · dsimp only [exY]
              rw [we _ (by omega), mo _ (by omega) (by omega), c3 d hd, hzero _ (by omega), if_neg (by omega), if_neg (by omega)]
          · exact (eE e he).mv (fun q g1 g2 => mo q (by omega) (by omega)) (fun v hv => wz _ (by omega) (fun _ _ => by omega))
        · dsimp only; rw [wz _ (by decide) (fun v hv => by omega)]; exact s1
        · dsimp only; rw [wz _ (by omega) (fun v hv => by omega)]; exact (s3 a ha b hb).1
        · dsimp only; rw [wz _ (by omega) (fun v hv => by omega)]; exact (s3 a ha b hb).2
        · obtain ⟨v, hv, e4⟩ := s4 i hi
          exact ⟨v, hv, by dsimp only; rw [wz _ (by omega) (fun v hv => by omega)]; exact e4⟩
        · dsimp only; rw [mset_at]
        · by_cases c : e = ec
          · subst c
            refine ⟨r, l, fun _ => 0, 0, fun _ => 0, fun _ => 0, fun _ => 0, fun _ => 0, ?_, hr, ?_, hl, fun i hi => ?_, fun i _ => Nat.zero_le _, ?_, ⟨by decide, fun i hi => absurd hi (Nat.not_lt_zero _), fun d _ => Nat.zero_le _⟩, fun k hk => absurd hk (Nat.not_lt_zero _), fun d hd => ?_, ?_⟩
            · dsimp only [exY]; rw [we _ (by decide)]; rfl
            · dsimp only [exY]; rw [we _ (by decide)]; rfl
            · dsimp only [exY]; rw [we _ (by omega), if_neg (by omega), if_neg (by omega)]; rfl
            · dsimp only [exY]; rw [we _ (by decide)]; rfl
            · dsimp only [exY]; rw [we _ (by omega), if_neg (by omega), if_neg (by omega)]; rfl
            · dsimp only [exY]
              rw [we _ (by decide), we _ (by decide), we _ (by decide)]
              show (0 : Int32) = nI (sm 16 (fun _ => 0)) + 0 + 0
              rw [sm_z]; rfl
          · obtain ⟨r, l, p, q, fi, la, fe, le, hX⟩ := s7 e (by omega)
            exact ⟨r, l, p, q, fi, la, fe, le, hX.cg (fun v hv => wz _ (by omega) (fun _ _ => by omega))⟩
        · dsimp only; rw [wz _ (by omega) (fun _ _ => by omega)]; exact s8 e (by omega) g2 v hv
        · dsimp only; rw [mset_at]; exact (nI_pred ec).symm
        · exact frm.set (X := fun q => (1 ≤ q ∧ q < 48) ∨ (520 ≤ q ∧ q < 546)) (frm.set (X := fun q => (1 ≤ q ∧ q < 48) ∨ (520 ≤ q ∧ q < 546)) (frm.set (X := fun q => (1 ≤ q ∧ q < 48) ∨ (520 ≤ q ∧ q < 546)) frm.rf (by omega) _ _) (by omega) _ _) (by omega) _ _
        · dsimp only; rw [mo _ (by omega) (by omega)]; exact h0
        · refine frm.set (X := fun q => q = a0 ∨ q = a0 + 1 ∨ (a0 + 5 ≤ q ∧ q ≤ a0 + 8)) (frm.set (X := fun q => q = a0 ∨ q = a0 + 1 ∨ (a0 + 5 ≤ q ∧ q ≤ a0 + 8)) (frm.set (X := fun q => q = a0 ∨ q = a0 + 1 ∨ (a0 + 5 ≤ q ∧ q ≤ a0 + 8)) (hf.mono (fun q hq => by omega)) (by omega) _ _) (by omega) _ _) (by omega) _ _
        · intro j _
          dsimp only
          rw [mset_ne _ _ _ _ (by omega), mset_ne _ _ _ _ (by omega), mset_ne _ _ _ _ (by omega), hf _ (by omega)]
      · rw [if_neg hec] at e1
        obtain ⟨r, er1, er2⟩ := e2 (fun r => r = (mset ν a0 6 (nI 3), 0)) (fun z => by rw [hx] at z; cases z) (fun _ z => by rw [hd] at z; cases z) (fun _ _ _ => rfl) (fun w _ _ z => absurd z hec)
        exact Or.inl ⟨3, 2, e1, by decide, by decide, by decide, rfl, by show fX11_doAddExhibit N ν a0 x y = _; rw [er1, er2]⟩
theorem o_addExhibit {x y : Int32} (hN : 200 ≤ N) (h : RR μ ν a0 t) : Ok (fX10_addExhibit N μ 0 x y) (fun r => Ok (fX11_addExhibit N ν a0 x y) (fun r' => RR r.1 r'.1 a0 t ∧ Sm [0, 1, 2] r.2 r'.1 a0 r'.2)) :=
  op_chg (fault := fun q => fX10_pileFault N q 0 x y) (deed := fun q => fX8_putExhibit N q 1 x y) (dom := fun q => fX11_doAddExhibit N q a0 x y) (by omega) h (fun q hq => cmd_pile hN hq)
end CE
