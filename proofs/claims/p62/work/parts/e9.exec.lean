/-! Pure layer: feeding and executing, told of the state and its history. -/
/-- what the reference's memory is behind a text's end -/
def KX (ν w : Mem) (out : Nat ⊕ Int32) : Prop := (∃ k, out = .inl k ∧ (∀ j, j < 817 → w (0 + 1) j = ν (0 + 1) j) ∧ w 0 5 = ν 0 5 ∧ w (0 + 4) = ν (0 + 4)) ∨ ∃ (v : Int32) (c : Nat) (w2 : Mem), out = .inr v ∧ w = psM w2 0 c ∧ ν 0 5 = nI c ∧ c ≤ 8 ∧ (∀ j, j < 817 → w2 (0 + 2) j = ν (0 + 1) j) ∧ w2 (0 + 4) = ν (0 + 4) ∧ ¬ v < 0
section EXK
variable {N : Nat} {μ ν : Mem} {t : List Nat}
set_option maxHeartbeats 4000000 in
set_option maxRecDepth 100000 in
theorem o_executeK (hN : 1200000000000 ≤ N) (h : RR μ ν 0 t) : Ok (fX10_execute N μ 0) (fun r => Ok (fX11_execute N ν 0) (fun r' => RR r.1 r'.1 0 t ∧ Sm [1, 4] r.2 r'.1 0 r'.2 ∧ KX ν r'.1 r.2)) := by
  obtain ⟨L, hL, l1, l2, l3⟩ := h.2.2.2.2.2.2.1
  have hch : ∀ i : Nat, ∃ ch : Nat, i < L → ch < 65536 ∧ μ (546 + 1) i = nI ch ∧ ν (0 + 10) i = nI ch := fun i => by
    by_cases c : i < L
    · obtain ⟨ch, hc⟩ := l3 i c
      exact ⟨ch, fun _ => hc⟩
    · exact ⟨0, fun z => absurd z c⟩
  obtain ⟨T, hT⟩ := Classical.axiomOfChoice hch
  have hTc : TXc μ L T := ⟨hL, l1, fun i hi => ⟨(hT i hi).1, (hT i hi).2.1⟩⟩
  have hTm : TXm ν 0 L T := ⟨hL, l2, fun i hi => ⟨(hT i hi).1, (hT i hi).2.2⟩⟩
  unfold fX10_execute
  refine ok_bind (k_readAll (by omega) hTc) ?_
  rintro ⟨m1, v1⟩ ⟨hcase, hmo, hmf⟩
  dsimp only at hcase hmo hmf
  refine ok_lt ?_
  dsimp only
  have mP1 : ∀ q, q < 546 → mset m1 546 1 0 q = μ q := fun q hq => by rw [mset_ne _ _ _ _ (by omega), hmf q (by omega)]
  rcases hcase with ⟨e, he, he61, rfl⟩ | ⟨hnone, rfl, hn10, h4, hC⟩
  · refine ok_ifF (nI_m1 (by omega)) ?_
    refine ok_lt (ok_some ?_)
    refine k_executeM (by omega) hTm (fun w e' h1 h2 h3 h4 h5 => ?_) (fun w h1 _ _ _ _ _ _ => by rw [he] at h1; cases h1)
    rw [he] at h1
    have : e = e' := Option.some.inj h1
    subst this
    obtain ⟨pf1, pf2⟩ := h3
    refine ⟨h.parse (fun q q1 q2 => ?_) (fun j hj => ?_) ?_ (fun q q1 q2 => ?_) (fun j j6 j17 j18 j19 j20 j23 => ?_) ?_ (Or.inr ⟨e, by omega, ?_, ?_⟩), Or.inr ⟨0, 1, rfl, rfl, (show mset w 0 6 1 0 6 = nI 1 from mset_at _ _ _ _)⟩, ?_⟩
    · dsimp only; rw [mset_ne _ _ _ _ q2]; exact mP1 q q1
    · dsimp only; rw [mset_sl _ _ _ _ hj, mP1 0 (by decide)]
    · dsimp only; rw [mset_ne _ _ _ _ (by decide), mset_at]
    · dsimp only; rw [mset_ne _ _ _ _ q1, pf1 q (by omega)]
    · dsimp only; rw [mset_sl _ _ _ _ j6]; exact pf2 j j17 j18 j19 j20 j23
    · dsimp only; rw [mset_sl _ _ _ _ (by decide)]; exact h4
    · dsimp only; rw [mset_at]
    · dsimp only; rw [mset_sl _ _ _ _ (by decide)]; exact h5
    · refine Or.inl ⟨1, rfl, fun j hj => ?_, ?_, ?_⟩
      · dsimp only; rw [mset_ne _ _ _ _ (by omega), pf1 _ (by omega)]
      · dsimp only; rw [mset_sl _ _ _ _ (by decide)]; exact pf2 5 (by decide) (by decide) (by decide) (by decide) (by decide)
      · dsimp only; rw [mset_ne _ _ _ _ (by omega), pf1 _ (by omega)]
  · refine ok_ifT rfl ?_
    generalize hss : (prs T L 10 0).2 = ss at *
    -- the state that both have behind reading
    have hpar : ∀ w, PF ν w 0 → w 0 17 = 0 → w 0 20 = ν 0 20 → RR (mset m1 546 1 0) w 0 t := fun w hPF h17 h20 => by
      obtain ⟨pf1, pf2⟩ := hPF
      exact h.parse (fun q q1 q2 => mP1 q q1) (fun j hj => by rw [mP1 0 (by decide)]) (mset_at _ _ _ _) (fun q q1 q2 => pf1 q (by omega)) (fun j j6 j17 j18 j19 j20 j23 => pf2 j j17 j18 j19 j20 j23) h17 (Or.inl ⟨by rw [mP1 0 (by decide)], h20⟩)
    obtain ⟨f, c, hH0⟩ := h.2.2.1
    have f9 := hH0.1
    have hRC1 : RC (mset m1 546 1 0) 1 (ν (0 + 1)) := h.1.mv (fun q q1 q2 => mP1 q (by omega)) (fun _ _ => rfl)
    have g1 : mset m1 546 1 0 95 1 = nI f := by rw [mP1 95 (by decide)]; exact hH0.2.2.1
    have g2 : mset m1 546 1 0 95 2 = nI c := by rw [mP1 95 (by decide)]; exact hH0.2.2.2.1
    refine ok_bind (k_note (by omega) f9 g1 hRC1) ?_
    rintro mn ⟨hslot, hmn⟩
    have hc4 : mn 546 4 = nI ss.length := by rw [hmn _ (by omega), mset_sl _ _ _ _ (by decide)]; exact h4
    have hCn : CMc mn T L ss := fun k hk => by
      obtain ⟨u1, u2⟩ := hC k hk
      exact ⟨by rw [hmn _ (by omega), mset_ne _ _ _ _ (by decide)]; exact u1, fun j hj => by rw [hmn _ (by omega), mset_ne _ _ _ _ (by omega)]; exact u2 j hj⟩
    have hmn1 : RC mn 1 (ν (0 + 1)) := hRC1.mv (fun q q1 q2 => hmn q (by omega)) (fun _ _ => rfl)
    have hmn0 : mn (543 + 2) 0 = 0 := by rw [hmn _ (by omega), mP1 _ (by decide)]; exact h.2.2.2.2.2.2.2.1
    -- what the class's run gives, for any memory of the reference behind reading
    have hrun : ∀ w, PF ν w 0 → w 0 23 = nI ss.length → CMm w 0 T L ss → ∃ r, fX10_runCommands N mn 0 = some r ∧ ((r.2 = -1 ∧ ∃ w2, GG mn (kpM w 0) r.1 w2 0 ∧ runM N 0 w = endM N 0 w2) ∨ ∃ k w', k < ss.length ∧ r.2 = nI k ∧ GF mn (kpM w 0) r.1 w' 0 ∧ runM N 0 w = endF N 0 w' (nI k)) := fun w hPF h23 hCm => by
      have e1 : w (0 + 1) = ν (0 + 1) := hPF.1 _ (by omega)
      have hb := runBoth (N := N) (a0 := 0) (T := T) (L := L) (ss := ss) (m0 := mn) (w0 := kpM w 0) hN hn10 hc4 hCn (by rw [kp_f (by decide)]; exact h23) (fun k hk => by rw [kp_o (by omega) (by omega)]; exact hCm k hk) kp_6 ss.length 0 mn (kpM w 0) (by omega) ⟨⟨by rw [kp_s, e1]; exact hmn1, by rw [kp_s, e1]; exact h.2.1, hmn0⟩, frm.rf, frm.rf, fun _ _ => rfl⟩ N N (by omega) (by omega)
      obtain ⟨r, er, hr⟩ := hb
      have eM : runM N 0 w = fix2 (bodyM N 0) N (nI 0) (kpM w 0) := by
        unfold runM
        rw [m_keep, bS]; rfl
      rw [eM]
      exact ⟨r, er, hr⟩
    -- the reference's outcome first
    refine Ok.swap ?_
    refine k_executeM (by omega) hTm (fun w e' h1 _ _ _ _ => by rw [hnone] at h1; cases h1) (fun w _ hPF h17 h20 _ h23 hCm => ?_)
    rw [hss] at h23 hCm
    have hR := hpar w hPF h17 h20
    have e1 : w (0 + 1) = ν (0 + 1) := hPF.1 _ (by omega)
    have hH : HI (mset m1 546 1 0) w 0 f c := hH0.mv (fun q q1 q2 => mP1 q (by omega)) (hPF.2 5 (by decide) (by decide) (by decide) (by decide) (by decide)) (hPF.1 _ (by omega))
    obtain ⟨⟨m6, v6⟩, er, hcase⟩ := hrun w hPF h23 hCm
    dsimp only at hcase
    rcases hcase with ⟨rfl, w2, ⟨hST2, gC, gM, gf⟩, eM⟩ | ⟨k, w', hk, rfl, hGF, eM⟩
    · have w6 : w2 0 6 = 0 := by rw [gf 6 (by decide), kp_6]
      have w5 : w2 0 5 = nI c := by rw [gf 5 (by decide), kp_f (by decide)]; exact hH.2.2.2.2.1
      have w23 : w2 0 23 = nI ss.length := by rw [gf 23 (by decide), kp_f (by decide)]; exact h23
      rw [eM]
      unfold endM
      rw [m_endsT hH.2.1 w6 w5, bS]
      refine ok_some ?_
      rw [er, bS]
      refine ok_ifT rfl ?_
      have k1 : m6 95 1 = nI f := by rw [gC _ (by omega), hmn _ (by omega)]; exact g1
      have k2 : m6 95 2 = nI c := by rw [gC _ (by omega), hmn _ (by omega)]; exact g2
      refine ok_bind (k_keepC f9 hH.2.1 k1 k2) ?_
      rintro _ rfl
      refine ok_some ?_
      have hm95 : m6 95 = mn 95 := gC _ (by omega)
      refine ⟨hR.chg (m := mset (mset mn 95 1 (nI ((f + 1) % 9))) 95 2 (nI (min (c + 1) 8))) hH ⟨?_, ?_, mset_at _ _ _ _, ?_⟩ (fun q hq => ?_) ?_ ?_ hST2.2.1 (fun j hj => ?_) (fun q hq => ?_) (fun j h6 h13 => ?_), Or.inl ⟨_, rfl, ?_, ?_⟩, ?_⟩
      · rw [e1]
        exact hslot.mv (fun q q1 q2 => by rw [mset_ne _ _ _ _ (by omega), mset_ne _ _ _ _ (by omega)]) (fun _ _ => rfl)
      · rw [mset_sl _ _ _ _ (by decide), mset_at]
      · exact frm.set (X := fun q => q = 95 ∨ (95 + 1 + 1 + 47 * f ≤ q ∧ q < 95 + 1 + 1 + 47 * f + 47)) (frm.set (X := fun q => q = 95 ∨ (95 + 1 + 1 + 47 * f ≤ q ∧ q < 95 + 1 + 1 + 47 * f + 47)) (hmn.mono (fun q hq => Or.inr hq)) (Or.inl rfl) _ _) (Or.inl rfl) _ _
      · dsimp only
        by_cases e95 : q = 95
        · subst e95
          rw [mset_same, mset_same, mset_same, mset_same, hm95]
        · rw [mset_ne _ _ _ _ e95, mset_ne _ _ _ _ e95, mset_ne _ _ _ _ e95, mset_ne _ _ _ _ e95, gC q hq]
      · dsimp only
        rw [mset_ne _ _ _ _ (by decide), mset_ne _ _ _ _ (by decide)]; exact hST2.2.2
      · dsimp only
        exact hST2.1.mv (fun q q1 q2 => by rw [mset_ne _ _ _ _ (by omega), mset_ne _ _ _ _ (by omega)]) (fun _ _ => rfl)
      · rw [gM _ (by omega), kp_b hj]
      · rw [gM _ (by omega), kp_o (by omega) (by omega)]
      · rw [gf j h13, kp_f h6]
      · show psM w2 0 c 0 6 = 0
        rw [ps_f (by decide), w6]
      · dsimp only
        rw [w23, mset_ne _ _ _ _ (by decide), mset_ne _ _ _ _ (by decide), gC _ (by omega), hc4]
      · refine Or.inr ⟨_, c, w2, rfl, rfl, hH0.2.2.2.2.1, hH.2.1, fun j hj => ?_, ?_, ?_⟩
        · rw [gM _ (by omega), kp_b hj, e1]
        · rw [gM _ (by omega), kp_o (by omega) (by omega)]
          exact hPF.1 _ (by omega)
        · try dsimp only
          rw [mset_ne _ _ _ _ (by decide), mset_ne _ _ _ _ (by decide), gC _ (by omega), hc4]
          exact nI_pos (by omega)
    · rw [eM]
      unfold endF
      refine ok_lt ?_
      have e0 : fX11_fails N (mset w' 0 21 (nI k)) 0 2 = some (mset (mset w' 0 21 (nI k)) 0 6 2, 0) := rfl
      rw [e0, bS]
      dsimp only
      refine ok_bindE (m_endsF (k := 2) (by decide) (by decide) (mset_at _ _ _ _)) ?_
      refine ok_some ?_
      rw [er, bS]
      refine ok_ifF (nI_m1 (by omega)) ?_
      refine ok_lt ?_
      dsimp only
      have k1 : mset m6 0 12 (nI k) 95 1 = nI f := by rw [mset_ne _ _ _ _ (by decide), hGF.1 _ (by omega), hmn _ (by omega)]; exact g1
      have eN : fX4_noted N (mset m6 0 12 (nI k)) 95 = some (95 + 1 + 1 + 47 * f) := by
        have key : Ok (fX4_noted N (mset m6 0 12 (nI k)) 95) (fun r => r = 95 + 1 + 1 + 47 * f) := by
          unfold fX4_noted
          rw [k1]
          exact ok_ar f rfl f9 (by decide) (ok_some rfl)
        obtain ⟨r, e, hh⟩ := key
        rw [e, hh]
      refine ok_bindE eN ?_
      refine ok_bind (k_copy (o := 1) (Z := ν (0 + 1)) (by omega) (by omega) (hslot.mv (fun q q1 q2 => by rw [mset_ne _ _ _ _ (by omega), hGF.1 q (by omega)]) (fun _ _ => rfl))) ?_
      rintro m13 ⟨hr13, hf13⟩
      refine ok_some ⟨hR.back hH (by omega) hmn hGF (by rw [e1]; exact hr13) hf13, Or.inr ⟨1, 4, rfl, rfl, ?_⟩, ?_⟩
      · show mcp _ _ _ _ _ _ 0 6 = _
        rw [mcp_ne (by omega), mset_at]; rfl
      · have gW : ∀ q, q = 0 + 2 ∨ q = 0 + 4 → w' q = kpM w 0 q := fun q hq => hGF.2.2.2.1 q (by omega)
        refine Or.inl ⟨4, rfl, fun j hj => ?_, ?_, ?_⟩
        · show mcp _ (0 + 2) (0 + 1) 0 0 817 (0 + 1) j = _
          rw [mcp_in (by omega) (by omega), mset_ne _ _ _ _ (by omega), mset_ne _ _ _ _ (by omega), gW _ (Or.inl rfl), show 0 + (j - 0) = j by omega, kp_b hj, e1]
        · show mcp _ (0 + 2) (0 + 1) 0 0 817 0 5 = _
          rw [mcp_ne (by omega), mset_sl _ _ _ _ (by decide), mset_sl _ _ _ _ (by decide), hGF.2.2.2.2.1 5 (by decide) (by decide) (by decide) (by decide), kp_f (by decide)]
          exact hPF.2 5 (by decide) (by decide) (by decide) (by decide) (by decide)
        · show mcp _ (0 + 2) (0 + 1) 0 0 817 (0 + 4) = _
          rw [mcp_ne (by omega), mset_ne _ _ _ _ (by omega), mset_ne _ _ _ _ (by omega), gW _ (Or.inr rfl), kp_o (by omega) (by omega)]
          exact hPF.1 _ (by omega)
theorem m_feedK {x : Int32} {r' : Mem × Int32} (h : fX11_feed N ν 0 x = some r') : r'.1 1 = ν 1 ∧ r'.1 4 = ν 4 ∧ r'.1 0 5 = ν 0 5 := by
  have n1 : ∀ (m : Mem) (o k : Nat) (x : Int32) (q : Nat), q ≠ o → mset m o k x q = m q := fun m o k x q h => mset_ne m o k x h
  have n2 : ∀ (m : Mem) (k : Nat) (x : Int32), 5 ≠ k → mset m 0 k x 0 5 = m 0 5 := fun m k x h => mset_sl m 0 k x h
  have n3 : ∀ (y : Int32) (k1 : Nat) (x1 x2 : Int32), mset (mset (mset ν 0 6 y) (0 + 10) k1 x1) 0 17 x2 1 = ν 1 ∧ mset (mset (mset ν 0 6 y) (0 + 10) k1 x1) 0 17 x2 4 = ν 4 ∧ mset (mset (mset ν 0 6 y) (0 + 10) k1 x1) 0 17 x2 0 5 = ν 0 5 := fun y k1 x1 x2 =>
    ⟨by rw [n1 _ 0 17 _ 1 (by decide), n1 _ (0 + 10) _ _ 1 (by decide), n1 _ 0 6 _ 1 (by decide)], by rw [n1 _ 0 17 _ 4 (by decide), n1 _ (0 + 10) _ _ 4 (by decide), n1 _ 0 6 _ 4 (by decide)], by rw [n2 _ 17 _ (by decide), n1 _ (0 + 10) _ _ 0 (by decide), n2 _ 6 _ (by decide)]⟩
  have key : ∀ b : Bool, (if mset ν 0 6 (b2i b) 0 6 ≤ 0 then (aw (mset ν 0 6 (b2i b)) (0 + 10) 60 (mset ν 0 6 (b2i b) 0 17) (vp_nar .char x) fun μ8 => (some (mset μ8 0 17 ((μ8 0 17) + 1), (mset μ8 0 17 ((μ8 0 17) + 1) 0 17)) : Option (Mem × Int32))) else some (mset ν 0 6 (b2i b), 0)) = some r' → r'.1 1 = ν 1 ∧ r'.1 4 = ν 4 ∧ r'.1 0 5 = ν 0 5 := fun b h => by
    by_cases hc : mset ν 0 6 (b2i b) 0 6 ≤ 0
    · rw [if_pos hc] at h
      obtain ⟨-, h⟩ := aw_out h
      have e := congrArg Prod.fst (Option.some.inj h)
      dsimp only at e
      rw [← e]
      exact n3 _ _ _ _
    · rw [if_neg hc] at h
      have e := congrArg Prod.fst (Option.some.inj h)
      dsimp only at e
      rw [← e]
      exact ⟨n1 _ 0 6 _ 1 (by decide), n1 _ 0 6 _ 4 (by decide), n2 _ 6 _ (by decide)⟩
  unfold fX11_feed at h
  by_cases hc : ν 0 17 = 60
  · exact key true ((if_pos hc).symm.trans h)
  · exact key false ((if_neg hc).symm.trans h)
theorem c_feed {ch : Nat} {Z : Nat → Int32} {hs : List (Nat → Int32)} (hch : ch < 65536) (h : PZ μ t Z hs) : Ok (fX10_feed N μ 0 (nI ch)) (fun r => PZ r.1 t Z hs ∧ ((∃ v, r.2 = .inr v) ∨ r.2 = .inl 2)) := by
  obtain ⟨ν, hR, hZ, h1, h2, h3⟩ := h
  obtain ⟨r, er, r', er', hR2, hSm⟩ := q_feed (N := N) (ν := ν) (a0 := 0) hch hR
  obtain ⟨k1, k4, k5⟩ := m_feedK er'
  refine ⟨r, er, ⟨r'.1, hR2, fun j hj => by rw [k1]; exact hZ j hj, by rw [k5]; exact h1, h2, fun i hi j hj => by rw [k4]; exact h3 i hi j hj⟩, ?_⟩
  rcases hSm with ⟨v, e, -⟩ | ⟨i, k, hL, e, -⟩
  · exact Or.inl ⟨v, e⟩
  · have hk : k ∈ [2] := List.mem_of_getElem? hL
    have hk : k = 2 := List.mem_singleton.mp hk
    subst hk
    exact Or.inr e
theorem c_execute {Z : Nat → Int32} {hs : List (Nat → Int32)} (hN : 1200000000000 ≤ N) (h : PZ μ t Z hs) : Ok (fX10_execute N μ 0) (CHG [1, 4] t Z hs (fun _ => True) (fun _ v => ¬ v < 0)) := by
  obtain ⟨ν, hR, hZ, hHS⟩ := h
  obtain ⟨r, er, r', er', hR2, hSm, hK⟩ := o_executeK (N := N) hN hR
  refine ⟨r, er, ?_⟩
  rcases hK with ⟨k, e, k1, k5, k4⟩ | ⟨v, c, w2, e, ew, ec, hc8, k1, k4, kv⟩
  · refine Or.inl ⟨k, ?_, e, ⟨r'.1, hR2, fun j hj => (k1 j hj).trans (hZ j hj), k5.trans hHS.1, hHS.2.1, fun i hi j hj => ?_⟩, True.intro⟩
    · rcases hSm with ⟨v, e2, -⟩ | ⟨i, k2, hL, e2, -⟩
      · rw [e] at e2; cases e2
      · rw [e] at e2; cases e2
        exact List.mem_of_getElem? hL
    · have k4 : r'.1 4 = ν 4 := k4
      rw [k4]
      exact hHS.2.2 i hi j hj
  · have hcl : c = hs.length := by
      have h1 := hHS.1
      have h2 := hHS.2.1
      rw [ec] at h1
      exact (nI_eq (by omega) (by omega)).mp h1
    refine Or.inr ⟨v, r'.1 1, e, ⟨r'.1, hR2, fun j hj => rfl, ?_⟩, kv⟩
    rw [ew]
    exact HS_push hHS hcl (fun j hj => (k1 j hj).trans (hZ j hj)) k4
end EXK
