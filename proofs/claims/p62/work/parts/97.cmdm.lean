/-! Pure layer, 37: days of the reference; both sides. -/
section DM
variable {N : Nat} {μ ν : Mem} {a0 n ec : Nat} {mn ht : Nat → Nat → Nat} {t : List Nat} {le : Nat → Nat → Nat} {more : Nat → Nat} {x : Int32} {P0 : Nat → Nat → Nat}
/-- the reference's memory in the middle of days -/
def dM (ν m : Mem) (a0 ec : Nat) (le : Nat → Nat → Nat) (more : Nat → Nat) (x : Int32) (P0 : Nat → Nat → Nat) (K : Nat → Nat) (y : Int32) : Prop :=
  (∀ e, e < ec → mP m a0 e (dyP le more x P0 (K e) e) ∧ m (a0 + 1) (82 + 147 * e + 4) = ν (a0 + 1) (82 + 147 * e + 4) + nI (dyQ le more x P0 (K e) e)) ∧ m (a0 + 1) 2 = y ∧ (∀ j, j ≠ 2 → (∀ e, e < ec → j ≠ 82 + 147 * e + 4 ∧ ∀ i, i < 16 → j ≠ 82 + 147 * e + (7 + i)) → m (a0 + 1) j = ν (a0 + 1) j) ∧ frm (fun q => q = a0 + 1) ν m
theorem dM.cg {m : Mem} {K K' : Nat → Nat} {y : Int32} (h : dM ν m a0 ec le more x P0 K y) (e : ∀ i, i < ec → K' i = K i) : dM ν m a0 ec le more x P0 K' y := ⟨fun i hi => by rw [e i hi]; exact h.1 i hi, h.2⟩
theorem dM.adv {m m' : Mem} {i k : Nat} {y : Int32} (h : dM ν m a0 ec le more x P0 (dyK i k) y) (hi : i < ec) (hp : mP m' a0 i (dyP le more x P0 (k + 1) i)) (h4 : m' (a0 + 1) (82 + 147 * i + 4) = m (a0 + 1) (82 + 147 * i + 4) + nI (dyA le more x P0 k i)) (ho : ∀ j, j ≠ 82 + 147 * i + 4 → (∀ c, c < 16 → j ≠ 82 + 147 * i + (7 + c)) → m' (a0 + 1) j = m (a0 + 1) j) (hf : frm (fun q => q = a0 + 1) m m') : dM ν m' a0 ec le more x P0 (dyK (i + 1) k) y := by
  obtain ⟨h1, h2, h3, h5⟩ := h
  refine ⟨fun e he => ?_, by rw [ho 2 (by omega) (fun c hc => by omega)]; exact h2, fun j g1 g2 => by rw [ho j (g2 i hi).1 (g2 i hi).2]; exact h3 j g1 g2, h5.tr hf⟩
  by_cases c : e = i
  · subst c
    obtain ⟨-, b2⟩ := h1 e he
    rw [dyK_i] at b2
    rw [dyK_s]
    exact ⟨hp, by rw [h4, b2, dyQ_s, ← nI_add, Int32.add_assoc]⟩
  · rw [dyK_o c]
    obtain ⟨b1, b2⟩ := h1 e he
    exact ⟨fun j hj => by rw [ho _ (by omega) (fun c hc => by omega)]; exact b1 j hj, by rw [ho _ (by omega) (fun c hc => by omega)]; exact b2⟩
theorem i4 {a : Nat} : (4 : Int32) + nI a = nI (4 + a) := nI_add 4 a
section DN
variable {r l q w : Nat → Nat} {fi la fe : Nat → Nat → Nat}
/-- the days of the reference -/
theorem k_daysM {D : Nat} (hN : 1000 ≤ N) (hD1 : 1 ≤ D) (hD : D ≤ 99) (hG : dG (ν (a0 + 1)) n ec mn ht r l P0 q fi la fe le w) (hx : ν (a0 + 1) 2 = x) : Ok (fX11_doPassDays N ν a0 (nI D)) (fun s => dM ν s.1 a0 ec le (fun e => w (r e) - l e) x P0 (fun _ => D) (x + nI D) ∧ s.2 = nI (dyT le (fun e => w (r e) - l e) x P0 ec D)) := by
  obtain ⟨hs, hE, hw⟩ := hG
  have h5 := hs.2.2.2.2.2.1
  have hn := hs.2.1.1
  unfold fX11_doPassDays
  rw [k_inE, bS]
  refine ok_cdT (decide_eq_true ⟨nI_le (show 1 ≤ D from hD1) (by omega), nI_le (show D ≤ 99 from hD) (by decide)⟩) ?_
  refine ok_fix3 (fun kk x3 x4 m5 => ∃ k, k + kk = D ∧ x3 = nI (dyT le (fun e => w (r e) - l e) x P0 ec k) ∧ x4 = nI k ∧ dM ν m5 a0 ec le (fun e => w (r e) - l e) x P0 (fun _ => k) (x + nI k)) ?_ N D _ _ _ (by omega) ⟨0, by omega, rfl, rfl, fun e he => ⟨mP_of (hE e he), (Int32.add_zero _).symm⟩, by rw [hx]; exact (Int32.add_zero _).symm, fun _ _ _ => rfl, frm.rf⟩
  rintro kk self x3 x4 m5 ⟨k, hk, rfl, rfl, hd⟩ hs1
  refine ok_le D k (f := fun hc => ?_) (g := fun hc => ?_)
  · have : k = D := by omega
    subst this
    exact ok_some ⟨hd, rfl⟩
  · refine ok_fix3 (fun k2 x9 x10 m11 => ∃ i, i + k2 = ec ∧ x9 = nI (dyT le (fun e => w (r e) - l e) x P0 ec k + sm i (fun e => dyA le (fun e => w (r e) - l e) x P0 k e)) ∧ x10 = nI i ∧ dM ν m11 a0 ec le (fun e => w (r e) - l e) x P0 (dyK i k) (x + nI k)) ?_ N ec _ _ _ (by omega) ⟨0, by omega, rfl, rfl, hd.cg (fun i hi => dyK_0)⟩
    rintro k2 self2 x9 x10 m11 ⟨i, hi, rfl, rfl, hd2⟩ hs2
    have keep : ∀ j, j < 82 → j ≠ 2 → m11 (a0 + 1) j = ν (a0 + 1) j := fun j g1 g2 => hd2.2.2.1 j g2 (fun e he => ⟨by omega, fun c hc => by omega⟩)
    refine ok_ag 1 rfl (by decide) (by decide) ?_
    rw [keep 1 (by decide) (by decide), hs.2.2.2.2.1]
    refine ok_le ec i (f := fun hc2 => ?_) (g := fun hc2 => ?_)
    · have : i = ec := by omega
      subst this
      refine ok_ag 2 rfl (by decide) (by decide) ?_
      refine ok_aw 2 rfl (by decide) (by decide) ?_
      refine ok_lt ?_
      refine hs1 (kk - 1) _ _ _ (by omega) ⟨k + 1, by omega, rfl, nI_1 _, fun e he => ⟨fun j hj => ?_, ?_⟩, ?_, fun j g1 g2 => ?_, frm.set (X := fun q => q = a0 + 1) hd2.2.2.2 rfl _ _⟩
      · have b := (hd2.1 e he).1 j hj
        rw [dyK_e he] at b
        rw [mset_sl _ _ _ _ (by omega)]; exact b
      · have b := (hd2.1 e he).2
        rw [dyK_e he] at b
        rw [mset_sl _ _ _ _ (by omega)]; exact b
      · rw [mset_at, hd2.2.1, Int32.add_assoc, nI_1]
      · rw [mset_sl _ _ _ _ g1]; exact hd2.2.2.1 j g1 g2
    · have hX := hE i hc2
      have hr6 := hX.2.1
      have hl9 := hX.2.2.2.1
      have hw9 := (hw (r i) (by omega)).1
      have hle := hX.2.2.2.2.2.2.2.1.2.2
      obtain ⟨b1, b2⟩ := hd2.1 i hc2
      rw [dyK_i] at b1 b2
      have hst := dyP_st (le := le) (more := fun e => w (r e) - l e) (x := x) (P0 := P0) (e := i) hX.2.2.2.2.2.1 k
      have keepE : ∀ v, v < 147 → v ≠ 4 → (v < 7 ∨ 23 ≤ v) → m11 (a0 + 1) (82 + 147 * i + v) = ν (a0 + 1) (82 + 147 * i + v) := fun v g1 g2 g3 => hd2.2.2.1 _ (by omega) (fun e he => ⟨by omega, fun c hc => by omega⟩)
      refine ok_bindE (m_of i 0 (by omega) (by decide) rfl rfl) ?_
      rw [keepE 0 (by decide) (by decide) (by decide), show ν (a0 + 1) (82 + 147 * i + 0) = nI (r i) from hX.1]
      refine ok_ag (4 + r i) i4 (by omega) (by decide) ?_
      rw [keep (4 + r i) (by omega) (by omega), (hw (r i) (by omega)).2]
      refine ok_bindE (m_of i 1 (by omega) (by decide) rfl rfl) ?_
      rw [keepE 1 (by decide) (by decide) (by decide), show ν (a0 + 1) (82 + 147 * i + 1) = nI (l i) from hX.2.2.1]
      refine ok_bindE (show fX11_passed N m11 (nI (w (r i))) (nI (l i)) = some (nI (w (r i) - l i)) from congrArg some (passedI (by omega) (by omega))) ?_
      refine ok_ag 2 rfl (by decide) (by decide) ?_
      rw [hd2.2.1]
      refine ok_bind (k_lent (e := i) (x := x + nI k) (le := le i) (by omega) hle (fun d hd => by rw [keepE (47 + d) (by omega) (by omega) (by omega)]; exact (mL_of hX).2.2 d hd)) ?_
      intro bb hbb
      refine ok_jn2 (fun (y : Int32) (m' : Mem) => y = nI (dyA le (fun e => w (r e) - l e) x P0 k i) ∧ dM ν m' a0 ec le (fun e => w (r e) - l e) x P0 (dyK (i + 1) k) (x + nI k)) ?_ ?_
      · rintro y m' ⟨rfl, hd'⟩
        refine ok_lt (ok_lt ?_)
        refine hs2 (k2 - 1) _ _ _ (by omega) ⟨i + 1, by omega, ?_, nI_1 _, hd'⟩
        rw [nI_add, Nat.add_assoc]; rfl
      · intro j hj
        refine ok_cd (fun hz => ?_) (fun hz => ?_)
        · have ea : dyA le (fun e => w (r e) - l e) x P0 k i = 0 := by
            unfold dyA dmA
            rw [if_pos (hbb.mp hz)]
          refine hj _ _ ⟨by rw [ea]; rfl, hd2.adv hc2 ?_ ?_ (fun _ _ _ => rfl) frm.rf⟩
          · rw [dyP_s, ea]; exact b1
          · rw [ea, show nI 0 = 0 from rfl, Int32.add_zero]
        · have hno : ¬ lentP (le i) (x + nI k) := fun z => by rw [hbb.mpr z] at hz; cases hz
          have ea : dyA le (fun e => w (r e) - l e) x P0 k i = min (w (r i) - l i) (grs (dyP le (fun e => w (r e) - l e) x P0 k i)) := by
            unfold dyA dmA
            rw [if_neg hno]
          refine ok_bind (k_melts (e := i) (by omega) (by omega) (by omega) b1 hst) ?_
          rintro ⟨m4, v4⟩ ⟨hv4, hp4, h44, h4o, hf4⟩
          dsimp only at hv4 hp4 h44 h4o hf4
          rw [← ea] at hv4 hp4 h44
          exact hj _ _ ⟨hv4, hd2.adv hc2 hp4 h44 h4o hf4⟩
/-- what stands behind days, on both sides -/
theorem daysBoth {D : Nat} (hN : 1000 ≤ N) (hD1 : 1 ≤ D) (hD : D ≤ 99) (h : ST μ ν a0) : Ok (fX8_letDaysPass N μ 1 (nI D)) (fun s => Ok (fX11_doPassDays N ν a0 (nI D)) (fun s' => DP μ ν a0 s s')) := by
  obtain ⟨hRC, ⟨n, ec, mn, ht, hs⟩, h0⟩ := h
  obtain ⟨r, l, P0, q, fi, la, fe, le, w, hG⟩ := dG_of hs
  have h5 := hs.2.2.2.2.2.1
  refine (k_daysC hN hD hRC hG rfl).mono ?_
  rintro ⟨m, v⟩ ⟨hdC, hv⟩
  dsimp only at hdC hv
  subst hv
  refine (k_daysM hN hD1 hD hG rfl).mono ?_
  rintro ⟨m', v'⟩ ⟨hdM, hv'⟩
  dsimp only at hdM hv'
  subst hv'
  obtain ⟨c1, c2, c3, c4⟩ := hdC
  obtain ⟨d1, d2, d3, d4⟩ := hdM
  have hE := hG.2.1
  have kp : ∀ e, e < 5 → ∀ v, v < 147 → v ≠ 4 → (v < 7 ∨ 23 ≤ v) → m' (a0 + 1) (82 + 147 * e + v) = ν (a0 + 1) (82 + 147 * e + v) := fun e he v g1 g2 g3 => d3 _ (by omega) (fun e' he' => ⟨by omega, fun c hc => by omega⟩)
  have kb : ∀ j, j < 82 → j ≠ 2 → m' (a0 + 1) j = ν (a0 + 1) j := fun j g1 g2 => d3 j g2 (fun e he => ⟨by omega, fun c hc => by omega⟩)
  have mb : ∀ q, 1 < q → q < 17 → m q = μ q := fun q g1 g2 => c4 q (by omega) (fun e he => by omega)
  have mo : ∀ q, (∀ e, e < ec → q ≠ 1 + 16 + 1 + 6 * e ∧ q ≠ 1 + 16 + 1 + 6 * e + 1) → q ≠ 1 → m q = μ q := fun q g1 g2 => c4 q g2 g1
  obtain ⟨⟨⟨a1, a2, a3, a4⟩, bw, cm, ch⟩, eE⟩ := hRC
  obtain ⟨s1, s2, s3, s4, s5, s6, s7, s8⟩ := hs
  refine ⟨⟨⟨⟨?_, ?_, ?_, ?_⟩, fun i hi => ?_, fun a ha b hb => ?_, fun a ha b hb => ?_⟩, fun e he => ?_⟩, ⟨n, ec, mn, ht, ?_, s2, fun a ha b hb => ⟨?_, ?_⟩, fun i hi => ?_, ?_, s6, fun e he => ?_, fun e g1 g2 v hv => ?_⟩, rfl, ?_, ?_, ?_, ?_⟩
  · dsimp only; rw [c3 _ (by decide), kb _ (by decide) (by decide)]; exact a1
  · dsimp only; rw [c3 _ (by decide), kb _ (by decide) (by decide)]; exact a2
  · dsimp only; rw [c2, d2]
  · dsimp only; rw [c3 _ (by decide), kb _ (by decide) (by decide)]; exact a4
  · dsimp only; rw [mb _ (by omega) (by omega), kb _ (by omega) (by omega)]; exact bw i hi
  · dsimp only; rw [mb _ (by omega) (by omega), kb _ (by omega) (by omega)]; exact cm a ha b hb
  · dsimp only; rw [mb _ (by omega) (by omega), kb _ (by omega) (by omega)]; exact ch a ha b hb
  · by_cases c : e < ec
    · obtain ⟨f1, f2, f3⟩ := c1 e c
      obtain ⟨g1, g2⟩ := d1 e c
      obtain ⟨⟨b0, b1, b2, b3, b4, b5, b6⟩, k1, k2, k3⟩ := eE e he
      refine ⟨⟨?_, ?_, ?_, ?_, ?_, ?_, ?_⟩, fun i hi => ?_, fun k hk => ⟨?_, ?_, ?_⟩, fun d hd => ?_⟩
      · dsimp only [exY]; rw [f3 _ (by decide), kp e he _ (by decide) (by decide) (by decide)]; exact b0
      · dsimp only [exY]; rw [f3 _ (by decide), kp e he _ (by decide) (by decide) (by decide)]; exact b1
      · dsimp only [exY]; rw [f3 _ (by decide), kp e he _ (by decide) (by decide) (by decide)]; exact b2
      · dsimp only [exY]; rw [f3 _ (by decide), kp e he _ (by decide) (by decide) (by decide)]; exact b3
      · dsimp only [exY]; rw [f2, g2]; exact congrArg (· + _) b4
      · dsimp only [exY]; rw [f3 _ (by decide), kp e he _ (by decide) (by decide) (by decide)]; exact b5
      · dsimp only [exY]; rw [f3 _ (by decide), kp e he _ (by decide) (by decide) (by decide)]; exact b6
      · dsimp only [exY]; rw [f1 i hi]; exact (g1 i hi).symm
      · dsimp only [exY]; rw [mo _ (fun e' he' => by omega) (by omega), kp e he _ (by omega) (by omega) (by omega)]; exact (k2 k hk).1
      · dsimp only [exY]; rw [mo _ (fun e' he' => by omega) (by omega), kp e he _ (by omega) (by omega) (by omega)]; exact (k2 k hk).2.1
      · dsimp only [exY]; rw [mo _ (fun e' he' => by omega) (by omega), kp e he _ (by omega) (by omega) (by omega)]; exact (k2 k hk).2.2
      · dsimp only [exY]; rw [mo _ (fun e' he' => by omega) (by omega), kp e he _ (by omega) (by omega) (by omega)]; exact k3 d hd
    · exact (eE e he).mv (fun q g1 g2 => mo q (fun e' he' => by omega) (by omega)) (fun v hv => d3 _ (by omega) (fun e' he' => ⟨by omega, fun c hc => by omega⟩))
  · dsimp only; rw [kb _ (by decide) (by decide)]; exact s1
  · dsimp only; rw [kb _ (by omega) (by omega)]; exact (s3 a ha b hb).1
  · dsimp only; rw [kb _ (by omega) (by omega)]; exact (s3 a ha b hb).2
  · obtain ⟨v, hv, e4⟩ := s4 i hi
    exact ⟨v, hv, by dsimp only; rw [kb _ (by omega) (by omega)]; exact e4⟩
  · dsimp only; rw [kb _ (by decide) (by decide)]; exact s5
  · obtain ⟨g1, g2⟩ := d1 e he
    obtain ⟨x1, x2, x3, x4, x5, x6, x7, x8, x9, x10, x11⟩ := hE e he
    have hq8 := x8.1
    have hgq := dyQ_g (le := le) (more := fun e => w (r e) - l e) (x := ν (a0 + 1) 2) (P0 := P0) (e := e) D
    refine ⟨r e, l e, _, q e, fi e, la e, fe e, le e, ?_, x2, ?_, x4, g1, dyP_st x6 D, ?_, x8, fun k hk => ⟨?_, ?_, ?_⟩, fun d hd => ?_, ?_⟩
    · dsimp only [exY]; rw [kp e (by omega) _ (by decide) (by decide) (by decide)]; exact x1
    · dsimp only [exY]; rw [kp e (by omega) _ (by decide) (by decide) (by decide)]; exact x3
    · dsimp only [exY]; rw [kp e (by omega) _ (by decide) (by decide) (by decide)]; exact x7
    · dsimp only [exY]; rw [kp e (by omega) _ (by omega) (by omega) (by omega)]; exact (x9 k hk).1
    · dsimp only [exY]; rw [kp e (by omega) _ (by omega) (by omega) (by omega)]; exact (x9 k hk).2.1
    · dsimp only [exY]; rw [kp e (by omega) _ (by omega) (by omega) (by omega)]; exact (x9 k hk).2.2
    · dsimp only [exY]; rw [kp e (by omega) _ (by omega) (by omega) (by omega)]; exact x10 d hd
    · dsimp only [exY]
      rw [kp e (by omega) _ (by decide) (by decide) (by decide), kp e (by omega) _ (by decide) (by decide) (by decide), g2]
      dsimp only [exY] at x11
      rw [x11, ← hgq, ← nI_add]; ac_rfl
  · dsimp only; rw [d3 _ (by omega) (fun e' he' => ⟨by omega, fun c hc => by omega⟩)]; exact s8 e g1 g2 v hv
  · exact fun q hq => by
      have := s6
      exact c4 q (by omega) (fun e he => by omega)
  · dsimp only; rw [c4 _ (by decide) (fun e he => by omega)]; exact h0
  · exact d4.mono (fun q hq => by omega)
  · intro j _
    dsimp only
    rw [d4 _ (by omega)]
theorem cmd_days {x : Int32} (hN : 1000 ≤ N) (h : ST μ ν a0) : CMD [1] a0 (fun q => fX10_daysFault N q x) (fun q => fX8_letDaysPass N q 1 x) (fun q => fX11_doPassDays N q a0 x) μ ν := by
  have e1 : ∀ m, fX10_daysFault N m x = some (if decide (1 ≤ x ∧ x ≤ 99) = true then 0 else 2) := fun m => by
    unfold fX10_daysFault
    rw [k_isFrom, bS]
    cases decide (1 ≤ x ∧ x ≤ 99) <;> rfl
  cases hd : decide (1 ≤ x ∧ x ≤ 99)
  · refine Or.inl ⟨2, 0, ?_, by decide, by decide, by decide, rfl, ?_⟩
    · show fX10_daysFault N μ x = _
      rw [e1, hd]; rfl
    · show fX11_doPassDays N ν a0 x = _
      unfold fX11_doPassDays
      rw [k_inE, bS, hd]; rfl
  · obtain ⟨D, h1, h2, rfl⟩ := dec_of (lo := 1) (hi := 99) (by decide) (by decide) hd
    refine Or.inr ⟨?_, daysBoth hN h1 h2 h⟩
    show fX10_daysFault N μ (nI D) = _
    rw [e1, hd]; rfl
theorem o_passDays {x : Int32} (hN : 1000 ≤ N) (h : RR μ ν a0 t) : Ok (fX10_passDays N μ 0 x) (fun r => Ok (fX11_passDays N ν a0 x) (fun r' => RR r.1 r'.1 a0 t ∧ Sm [1] r.2 r'.1 a0 r'.2)) :=
  op_chg (fault := fun q => fX10_daysFault N q x) (deed := fun q => fX8_letDaysPass N q 1 x) (dom := fun q => fX11_doPassDays N q a0 x) (by omega) h (fun q hq => cmd_days hN hq)
end DN
end DM
