/-! Pure layer, 29: changes of rooms and legs. -/
def ST (μ ν : Mem) (a0 : Nat) : Prop := RC μ 1 (ν (a0 + 1)) ∧ SI (ν (a0 + 1)) ∧ μ (543 + 2) 0 = 0
/-- what a deed leaves, on both sides -/
def DP (μ ν : Mem) (a0 : Nat) (r r' : Mem × Int32) : Prop := RC r.1 1 (r'.1 (a0 + 1)) ∧ SI (r'.1 (a0 + 1)) ∧ r'.2 = r.2 ∧ frm (fun q => (1 ≤ q ∧ q < 48) ∨ (520 ≤ q ∧ q < 546)) μ r.1 ∧ r.1 (543 + 2) 0 = 0 ∧ frm (fun q => q = a0 ∨ q = a0 + 1 ∨ (a0 + 5 ≤ q ∧ q ≤ a0 + 8)) ν r'.1 ∧ ∀ j, j ≠ 13 → r'.1 a0 j = ν a0 j
def CMD (L : List Nat) (a0 : Nat) (fault : Mem → Option Nat) (deed dom : Mem → Option (Mem × Int32)) (μ ν : Mem) : Prop := (∃ F i, fault μ = some F ∧ 1 ≤ F ∧ F ≤ 5 ∧ i < 5 ∧ L[i]? = some (F - 1) ∧ dom ν = some (mset ν a0 6 (nI (i + 1)), 0)) ∨ (fault μ = some 0 ∧ Ok (deed μ) (fun r => Ok (dom ν) (fun r' => DP μ ν a0 r r')))
section CM
variable {N : Nat} {μ ν : Mem} {a0 : Nat} {t : List Nat}
theorem stop_k {F : Nat} (h1 : 1 ≤ F) (h2 : F ≤ 5) : fX10_stopIf N μ F = some (μ, .inl (F - 1)) := by
  rcases (show F = 1 ∨ F = 2 ∨ F = 3 ∨ F = 4 ∨ F = 5 by omega) with rfl | rfl | rfl | rfl | rfl <;> rfl
theorem ST_kp (h : RR μ ν a0 t) : ST μ (kpM ν a0) a0 := ⟨by rw [kp_s]; exact h.1, by rw [kp_s]; exact h.2.1, h.2.2.2.2.2.2.2.1⟩
/-- a change, out of its fault and its deed on both sides -/
theorem op_chg {L : List Nat} {fault : Mem → Option Nat} {deed dom : Mem → Option (Mem × Int32)} (hN : 20 ≤ N) (h : RR μ ν a0 t) (hc : ∀ m, ST m (kpM ν a0) a0 → CMD L a0 fault deed dom m (kpM ν a0)) : Ok ((fault μ).bind fun r1 => tb (fX10_stopIf N μ r1) fun μ3 _ => (fX10_remember N μ3 0).bind fun r6 => (deed r6).bind fun r7 => some (r7.1, (.inr r7.2 : Nat ⊕ Int32))) (fun r => Ok ((fX11_keep N ν a0).bind fun r1 => (dom r1).bind fun r2 => (fX11_ends N r2.1 a0 r2.2).bind fun r3 => some (r3.1, r3.2)) (fun r' => RR r.1 r'.1 a0 t ∧ Sm L r.2 r'.1 a0 r'.2)) := by
  rcases hc μ (ST_kp h) with ⟨F, i, e1, hF1, hF5, hi, hL, e2⟩ | ⟨e1, hdeed⟩
  · rw [e1, bS]
    refine ok_tbL (e := F - 1) (μ := μ) (stop_k hF1 hF5) ?_
    rw [m_keep, bS, e2, bS, m_endsF (k := i + 1) (by omega) (by omega) (mset_at _ _ _ _), bS]
    refine ok_some ⟨h.fail (fun j hj => ?_) (fun q hq => ?_) (fun j h6 h13 => ?_), Or.inr ⟨i, F - 1, hL, rfl, ?_⟩⟩
    · rw [mset_ne _ _ _ _ (by omega), kp_b hj]
    · rw [mset_ne _ _ _ _ (by omega), kp_o (by omega) (by omega)]
    · rw [mset_sl _ _ _ _ h6, kp_f h6]
    · show mcp _ _ _ _ _ _ a0 6 = _
      rw [mcp_ne (by omega), mset_at]
  · obtain ⟨f, c, hH⟩ := h.2.2.1
    rw [e1, bS]
    refine ok_tbR (a := ()) (μ := μ) rfl ?_
    refine ok_bind (k_remember hN hH.1 hH.2.1 hH.2.2.1 hH.2.2.2.1 h.1) ?_
    intro m hm
    have hf9 := hH.1
    have hSTm : ST m (kpM ν a0) a0 := by
      obtain ⟨s1, s2, s3⟩ := ST_kp h
      exact ⟨s1.mv (fun q g1 g2 => hm.2.2.2 q (by omega)) (fun _ _ => rfl), s2, by rw [hm.2.2.2 _ (by omega)]; exact s3⟩
    rcases hc m hSTm with ⟨F, i, -, -, -, hi, -, e2⟩ | ⟨-, hd⟩
    · exfalso
      obtain ⟨r, -, r', er', hDP⟩ := hdeed
      rw [e2] at er'
      have er' := Option.some.inj er'
      have h6 := hDP.2.2.2.2.2.2 6 (by decide)
      rw [← er'] at h6
      dsimp only at h6
      rw [mset_at, kp_6] at h6
      exact nI_ne0 (n := i + 1) (by omega) (by omega) h6
    · refine ok_bind hd ?_
      rintro ⟨m2, v⟩ ⟨⟨w, v'⟩, ew, d1, d2, d3, d4, d5, d6, d7⟩
      dsimp only at d1 d2 d3 d4 d5 d6 d7
      refine ok_some ?_
      have w6 : w a0 6 = 0 := by rw [d7 _ (by decide), kp_6]
      have w5 : w a0 5 = nI c := by rw [d7 _ (by decide), kp_f (by decide)]; exact hH.2.2.2.2.1
      rw [m_keep, bS, ew, bS, m_endsT hH.2.1 w6 w5, bS]
      refine ok_some ⟨h.chg hH hm d4 d5 d1 d2 (fun j hj => by rw [d6 _ (by omega), kp_b hj]) (fun q hq => by rw [d6 _ (by omega), kp_o (by omega) (by omega)]) (fun j h6 h13 => by rw [d7 j h13, kp_f h6]), Or.inl ⟨_, rfl, ?_, d3⟩⟩
      show psM w a0 c a0 6 = 0
      rw [ps_f (by decide), w6]
theorem EXq.up {n n' r l q : Nat} {Y : Nat → Int32} {p fi la fe le : Nat → Nat} (h : EXq n Y r l p q fi la fe le) (hn : n ≤ n') : EXq n' Y r l p q fi la fe le := ⟨h.1, Nat.lt_of_lt_of_le h.2.1 hn, h.2.2⟩
theorem dig_of {x : Int32} (h : decide (0 ≤ x ∧ x ≤ 9) = true) : ∃ j, j ≤ 9 ∧ x = nI j := by
  obtain ⟨j, -, h1, h2⟩ := dec_of (lo := 0) (hi := 9) (by decide) (by decide) h
  exact ⟨j, h1, h2⟩
theorem cmd_room {x : Int32} (h : ST μ ν a0) : CMD [1, 2] a0 (fun m => fX10_roomFault N m 0 x) (fun m => fX8_putRoom N m 1 x) (fun w => fX11_doAddRoom N w a0 x) μ ν := by
  obtain ⟨hRC, ⟨n, ec, mn, ht, hs⟩, h0⟩ := h
  have hn := hs.2.1.1
  have er : μ 1 0 = nI n := hRC.1.1.1.trans hs.1
  have hz0 : ν (a0 + 1) 0 = nI n := hs.1
  have hag : ∀ (k : Int32 → Option (Mem × Int32)), ag (ν (a0 + 1)) 817 0 k = k (nI n) := fun k => by
    unfold ag
    rw [if_neg (by decide), show (0 : Int32).toNatClampNeg = 0 from rfl, hz0]
  have e1 : fX10_roomFault N μ 0 x = some (if decide (0 ≤ x ∧ x ≤ 9) = true then (if n < 6 then 0 else 3) else 2) := by
    have key : Ok (fX10_roomFault N μ 0 x) (fun r => r = if decide (0 ≤ x ∧ x ≤ 9) = true then (if n < 6 then 0 else 3) else 2) := by
      unfold fX10_roomFault
      refine ok_bindE digF ?_
      cases decide (0 ≤ x ∧ x ≤ 9)
      · exact ok_ifF (by decide) (ok_some rfl)
      · refine ok_ifT rfl (ok_jn ?_)
        rw [er]
        exact ok_ltI n 6 (f := fun h6 => ok_some (by rw [if_pos rfl, if_pos h6])) (g := fun h6 => ok_some (by rw [if_pos rfl, if_neg (by omega)]))
    obtain ⟨r, e, h⟩ := key
    rw [e, h]
  have e2 : ∀ (P : Mem × Int32 → Prop), (decide (0 ≤ x ∧ x ≤ 9) = false → P (mset ν a0 6 (nI 1), 0)) → (decide (0 ≤ x ∧ x ≤ 9) = true → ¬ n < 6 → P (mset ν a0 6 (nI 2), 0)) → (decide (0 ≤ x ∧ x ≤ 9) = true → n < 6 → P (mset (mset ν (a0 + 1) (4 + n) x) (a0 + 1) 0 (nI (n + 1)), nI n)) → Ok (fX11_doAddRoom N ν a0 x) P := fun P p1 p2 p3 => by
    unfold fX11_doAddRoom
    rw [hag, k_inE, bS]
    refine ok_cd (fun hd => ?_) (fun hd => ok_some (p1 hd))
    refine ok_eqI n 6 (f := fun h6 => ok_some (p2 hd (by omega))) (g := fun h6 => ?_)
    refine ok_aw (4 + n) (nI_add 4 n) (by omega) (by decide) ?_
    refine ok_ag 0 rfl (by decide) (by decide) ?_
    rw [mset_sl _ _ _ _ (by omega), hz0, nI_1]
    refine ok_aw 0 rfl (by decide) (by decide) ?_
    exact ok_some (p3 hd (by omega))
  cases hd : decide (0 ≤ x ∧ x ≤ 9)
  · rw [hd] at e1
    obtain ⟨r, er1, er2⟩ := e2 (fun r => r = (mset ν a0 6 (nI 1), 0)) (fun _ => rfl) (fun z => by rw [hd] at z; cases z) (fun z => by rw [hd] at z; cases z)
    exact Or.inl ⟨2, 0, e1, by decide, by decide, by decide, rfl, by show fX11_doAddRoom N ν a0 x = _; rw [er1, er2]⟩
  · rw [hd] at e1
    by_cases h6 : n < 6
    · rw [if_pos h6] at e1
      obtain ⟨j, hj, rfl⟩ := dig_of hd
      refine Or.inr ⟨e1, ?_⟩
      show Ok (fX8_putRoom N μ 1 (nI j)) _
      unfold fX8_putRoom
      rw [er]
      refine ok_aw n rfl h6 (by decide) ?_
      refine ok_lt (ok_some ?_)
      rw [mset_ne _ _ _ _ (by decide), er, nI_1]
      refine e2 _ (fun z => by rw [hd] at z; cases z) (fun _ z => absurd h6 z) (fun _ _ => ⟨?_, ?_, ?_, ?_, ?_, ?_, ?_⟩)
      · obtain ⟨⟨⟨a1, a2, a3, a4⟩, b, c, d⟩, e⟩ := hRC
        refine ⟨⟨⟨?_, ?_, ?_, ?_⟩, fun r hr => ?_, fun a ha b' hb => ?_, fun a ha b' hb => ?_⟩, fun x hx => (e x hx).mv (fun q g1 g2 => ?_) (fun w hw => ?_)⟩
        · dsimp only
          rw [mset_at, mset_at]
        · dsimp only
          rw [mset_sl _ _ _ _ (by decide), mset_ne _ _ _ _ (by decide), mset_sl _ _ _ _ (by decide), mset_sl _ _ _ _ (by omega), a2]
        · dsimp only
          rw [mset_sl _ _ _ _ (by decide), mset_ne _ _ _ _ (by decide), mset_sl _ _ _ _ (by decide), mset_sl _ _ _ _ (by omega), a3]
        · dsimp only
          rw [mset_sl _ _ _ _ (by decide), mset_ne _ _ _ _ (by decide), mset_sl _ _ _ _ (by decide), mset_sl _ _ _ _ (by omega), a4]
        · dsimp only
          by_cases ern : r = n
          · subst ern
            rw [mset_ne _ _ _ _ (by decide), mset_at, mset_sl _ _ _ _ (by omega), mset_at]
          · rw [mset_ne _ _ _ _ (by decide), mset_sl _ _ _ _ ern, mset_sl _ _ _ _ (by omega), mset_sl _ _ _ _ (by omega), b r hr]
        · dsimp only
          rw [mset_ne _ _ _ _ (by omega), mset_ne _ _ _ _ (by omega), mset_sl _ _ _ _ (by omega), mset_sl _ _ _ _ (by omega), c a ha b' hb]
        · dsimp only
          rw [mset_ne _ _ _ _ (by omega), mset_ne _ _ _ _ (by omega), mset_sl _ _ _ _ (by omega), mset_sl _ _ _ _ (by omega), d a ha b' hb]
        · dsimp only
          rw [mset_ne _ _ _ _ (by omega), mset_ne _ _ _ _ (by omega)]
        · dsimp only [exY]
          rw [mset_sl _ _ _ _ (by omega), mset_sl _ _ _ _ (by omega)]
      · obtain ⟨s1, s2, s3, s4, s5, s6, s7, s8⟩ := hs
        refine ⟨n + 1, ec, mn, ht, ?_, ⟨by omega, fun a b => ?_⟩, fun a ha b hb => ⟨?_, ?_⟩, fun r hr => ?_, ?_, s6, fun e he => ?_, fun e g1 g2 w hw => ?_⟩
        · dsimp only
          rw [mset_at]
        · obtain ⟨q1, q2, q3, q4, q5⟩ := s2.2 a b
          exact ⟨q1, q2, q3, q4, fun z => by have := q5 z; omega⟩
        · dsimp only
          rw [mset_sl _ _ _ _ (by omega), mset_sl _ _ _ _ (by omega)]; exact (s3 a ha b hb).1
        · dsimp only
          rw [mset_sl _ _ _ _ (by omega), mset_sl _ _ _ _ (by omega)]; exact (s3 a ha b hb).2
        · by_cases ern : r = n
          · subst ern
            exact ⟨j, hj, by dsimp only; rw [mset_sl _ _ _ _ (by omega), mset_at]⟩
          · obtain ⟨w, hw, e4⟩ := s4 r hr
            exact ⟨w, hw, by dsimp only; rw [mset_sl _ _ _ _ (by omega), mset_sl _ _ _ _ (by omega)]; exact e4⟩
        · dsimp only
          rw [mset_sl _ _ _ _ (by decide), mset_sl _ _ _ _ (by omega)]; exact s5
        · obtain ⟨r, l, p, q, fi, la, fe, le, hX⟩ := s7 e he
          exact ⟨r, l, p, q, fi, la, fe, le, (hX.up (by omega)).cg (fun w hw => by dsimp only [exY]; rw [mset_sl _ _ _ _ (by omega), mset_sl _ _ _ _ (by omega)])⟩
        · dsimp only
          rw [mset_sl _ _ _ _ (by omega), mset_sl _ _ _ _ (by omega)]; exact s8 e g1 g2 w hw
      · dsimp only
        rw [mset_at]; exact (nI_pred n).symm
      · exact frm.set (X := fun q => (1 ≤ q ∧ q < 48) ∨ (520 ≤ q ∧ q < 546)) (frm.set (X := fun q => (1 ≤ q ∧ q < 48) ∨ (520 ≤ q ∧ q < 546)) frm.rf (by omega) _ _) (by omega) _ _
      · dsimp only
        rw [mset_ne _ _ _ _ (by decide), mset_ne _ _ _ _ (by decide)]; exact h0
      · exact frm.set (X := fun q => q = a0 ∨ q = a0 + 1 ∨ (a0 + 5 ≤ q ∧ q ≤ a0 + 8)) (frm.set (X := fun q => q = a0 ∨ q = a0 + 1 ∨ (a0 + 5 ≤ q ∧ q ≤ a0 + 8)) frm.rf (by omega) _ _) (by omega) _ _
      · intro j _
        dsimp only
        rw [mset_ne _ _ _ _ (by omega), mset_ne _ _ _ _ (by omega)]
    · rw [if_neg h6] at e1
      obtain ⟨r, er1, er2⟩ := e2 (fun r => r = (mset ν a0 6 (nI 2), 0)) (fun z => by rw [hd] at z; cases z) (fun _ _ => rfl) (fun _ z => absurd z h6)
      exact Or.inl ⟨3, 1, e1, by decide, by decide, by decide, rfl, by show fX11_doAddRoom N ν a0 x = _; rw [er1, er2]⟩
theorem o_addRoom {x : Int32} (hN : 20 ≤ N) (h : RR μ ν a0 t) : Ok (fX10_addRoom N μ 0 x) (fun r => Ok (fX11_addRoom N ν a0 x) (fun r' => RR r.1 r'.1 a0 t ∧ Sm [1, 2] r.2 r'.1 a0 r'.2)) :=
  op_chg (fault := fun m => fX10_roomFault N m 0 x) (deed := fun m => fX8_putRoom N m 1 x) (dom := fun w => fX11_doAddRoom N w a0 x) hN h (fun m hm => cmd_room hm)
end CM
