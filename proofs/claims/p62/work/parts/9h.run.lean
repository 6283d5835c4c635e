/-! Pure layer, 47: execute, on both sides. -/
section RU
variable {N : Nat} {μ ν : Mem} {a0 n : Nat} {t : List Nat} {T : Nat → Nat} {L : Nat} {ss : List Nat}
theorem agf_eq {O : Type} {row : Nat → Int32} {n j f : Nat} {i : Int32} {k : Nat → Option O} (hi : i = nI j) (hj : j < n) (hn : n < 2 ^ 31) (hr : row j = nI f) (f1 : 1 ≤ f) (f8 : f ≤ 8) : agf row n i k = k f := by
  subst hi
  have e1 : (row (nI j).toNatClampNeg).toNatClampNeg = f := by rw [nI_clamp (Nat.lt_trans hj hn), hr, nI_clamp (by omega)]
  unfold agf
  rw [e1, if_neg ?_]
  rintro (z | z)
  · exact vp_in_nI hj hn z
  · exact z ⟨f1, f8⟩
theorem ar_eq {O : Type} {n j : Nat} {i : Int32} {k : Nat → Option O} (hi : i = nI j) (hj : j < n) (hn : n < 2 ^ 31) : ar n i k = k j := by
  subst hi
  unfold ar
  rw [if_neg (vp_in_nI hj hn), nI_clamp (Nat.lt_trans hj hn)]
/-- while commands are carried out -/
def GG (m0 w0 m w : Mem) (a0 : Nat) : Prop := ST m w a0 ∧ frm (fun q => (1 ≤ q ∧ q < 48) ∨ (520 ≤ q ∧ q < 546)) m0 m ∧ frm (fun q => q = a0 ∨ q = a0 + 1 ∨ (a0 + 5 ≤ q ∧ q ≤ a0 + 8)) w0 w ∧ ∀ j, j ≠ 13 → w a0 j = w0 a0 j
/-- where one fails -/
def GF (m0 w0 m w : Mem) (a0 : Nat) : Prop := frm (fun q => q < 48 ∨ (520 ≤ q ∧ q < 546)) m0 m ∧ m (543 + 2) 0 = 0 ∧ (∀ j, j ≠ 9 → j ≠ 10 → m 0 j = m0 0 j) ∧ frm (fun q => q = a0 ∨ q = a0 + 1 ∨ (a0 + 5 ≤ q ∧ q ≤ a0 + 8)) w0 w ∧ (∀ j, j ≠ 6 → j ≠ 7 → j ≠ 8 → j ≠ 13 → w a0 j = w0 a0 j) ∧ ((m 0 9 = m0 0 9 ∧ m 0 10 = m0 0 10 ∧ w a0 7 = w0 a0 7 ∧ w a0 8 = w0 a0 8) ∨ ∃ r, r ≤ 2 ∧ m 0 9 = nI r ∧ w a0 7 = nI r ∧ m 0 10 = w a0 8)
abbrev bodyC (N : Nat) : (Int32 → Mem → Option (Mem × Int32)) → Int32 → Mem → Option (Mem × Int32) := fun self3 (x1 : Int32) (μ2 : Mem) =>
  if (μ2 546 4) ≤ x1 then
  (some (μ2, (-1)))
  else (agf (μ2 (546 + 2)) 10 x1 fun c6 =>
  ar 10 x1 fun q10 =>
  (fX10_commandFault N μ2 0 c6 ((546 + 3) + 1 + 1 * q10)).bind fun r14 =>
  if r14.2 = 0 then
  ((fX10_runCommand N r14.1 0 c6 ((546 + 3) + 1 + 1 * q10)).bind fun r16 =>
  lt (x1 + 1) fun v17 =>
  self3 v17 r16)
  else (some (r14.1, x1)))
abbrev endM (N a0 : Nat) (w : Mem) : Option (Mem × Int32) := (fX11_ends N w a0 (w a0 23)).bind fun r38 => some (r38.1, r38.2)
abbrev endF (N a0 : Nat) (w : Mem) (x : Int32) : Option (Mem × Int32) := lt (mset w a0 21 x) fun μ43 =>
  (fX11_fails N μ43 a0 2).bind fun r45 =>
  (fX11_ends N r45.1 a0 r45.2).bind fun r46 =>
  some (r46.1, r46.2)
abbrev bodyM (N a0 : Nat) : (Int32 → Mem → Option (Mem × Int32)) → Int32 → Mem → Option (Mem × Int32) := fun self35 (x33 : Int32) (μ34 : Mem) =>
  if (μ34 a0 23) ≤ x33 then
  (endM N a0 μ34)
  else ((fX11_does N μ34 a0 x33).bind fun r39 =>
  if (r39 a0 6) ≤ 0 then
  (lt (x33 + 1) fun v41 =>
  self35 v41 r39)
  else (endF N a0 r39 x33))
theorem runBoth {m0 w0 : Mem} (hN : 1200000000000 ≤ N) (hn : ss.length ≤ 10) (hc4 : m0 546 4 = nI ss.length) (hC : CMc m0 T L ss) (hw23 : w0 a0 23 = nI ss.length) (hM : CMm w0 a0 T L ss) (hw6 : w0 a0 6 = 0) : ∀ kk i m w, i + kk = ss.length → GG m0 w0 m w a0 → ∀ N1 N2, kk < N1 → kk < N2 → ∃ r, fix2 (bodyC N) N1 (nI i) m = some r ∧ ((r.2 = -1 ∧ ∃ w2, GG m0 w0 r.1 w2 a0 ∧ fix2 (bodyM N a0) N2 (nI i) w = endM N a0 w2) ∨ ∃ k w', k < ss.length ∧ r.2 = nI k ∧ GF m0 w0 r.1 w' a0 ∧ fix2 (bodyM N a0) N2 (nI i) w = endF N a0 w' (nI k))
  | kk, i, m, w, hi, hG, N1 + 1, N2 + 1, h1, h2 => by
    obtain ⟨hST, gC, gM, gf⟩ := hG
    have c4 : m 546 4 = nI ss.length := by rw [gC _ (by omega)]; exact hc4
    have w23 : w a0 23 = nI ss.length := by rw [gf 23 (by decide)]; exact hw23
    have w6 : w a0 6 = 0 := by rw [gf 6 (by decide)]; exact hw6
    have eC : fix2 (bodyC N) (N1 + 1) (nI i) m = bodyC N (fix2 (bodyC N) N1) (nI i) m := rfl
    have eM : fix2 (bodyM N a0) (N2 + 1) (nI i) w = bodyM N a0 (fix2 (bodyM N a0) N2) (nI i) w := rfl
    rw [eC, eM]
    by_cases hc : ss.length ≤ i
    · refine ⟨(m, -1), ?_, Or.inl ⟨rfl, w, ⟨hST, gC, gM, gf⟩, ?_⟩⟩
      · unfold bodyC
        rw [c4, if_pos ((nI_leI (by omega) (by omega)).mpr hc)]
      · unfold bodyM
        rw [w23, if_pos ((nI_leI (by omega) (by omega)).mpr hc)]
    · have hil : i < ss.length := by omega
      have hfr := fAt_rg (T := T) (L := L) (ss.getD i 0)
      have hnle : ¬ nI ss.length ≤ nI i := fun z => hc ((nI_leI (by omega) (by omega)).mp z)
      obtain ⟨q1, q2⟩ := hC i hil
      obtain ⟨p1, p2⟩ := hM i hil
      have stepC : ∀ self, bodyC N self (nI i) m = (fX10_commandFault N m 0 (fAt T L (ss.getD i 0)) (546 + 3 + 1 + 1 * i)).bind fun r14 => if r14.2 = 0 then ((fX10_runCommand N r14.1 0 (fAt T L (ss.getD i 0)) (546 + 3 + 1 + 1 * i)).bind fun r16 => lt (nI i + 1) fun v17 => self v17 r16) else (some (r14.1, nI i)) := fun self => by
        unfold bodyC
        rw [c4, if_neg hnle]
        refine (agf_eq (j := i) (f := fAt T L (ss.getD i 0)) rfl (by omega) (by decide) (by rw [gC _ (by omega)]; exact q1) hfr.1 hfr.2).trans ?_
        exact ar_eq (j := i) rfl (by omega) (by decide)
      have stepM : ∀ self, bodyM N a0 self (nI i) w = (fX11_does N w a0 (nI i)).bind fun r39 => if (r39 a0 6) ≤ 0 then (lt (nI i + 1) fun v41 => self v41 r39) else (endF N a0 r39 (nI i)) := fun self => by
        unfold bodyM
        rw [w23, if_neg hnle]
      rw [stepC, stepM]
      have hcmd := cmdE (N := N) (k := i) (v := fun j => nI ((cAt T L (ss.getD i 0)).2.2.getD j 0)) hN hST w6 hfr.1 hfr.2 (by omega) (fun j hj => by rw [gC _ (by omega)]; exact q2 j hj) (by rw [gM _ (by omega)]; exact p1) (fun j hj => by rw [gM _ (by omega)]; exact p2 j hj)
      rcases hcmd with ⟨F, i', m', w', e1, hF, hi5, e2, e6, f1, f2, f3, f4, f5, f6⟩ | ⟨m1, e1, m2, e2, w2, e3, d1, d2, d3, d4, d5, d6⟩
      · rw [e1, bS, e2, bS]
        dsimp only
        rw [if_neg hF, e6, if_neg (nI_nle (by omega) (by omega))]
        refine ⟨_, rfl, Or.inr ⟨i, w', hil, rfl, ⟨?_, f2, ?_, ?_, ?_, ?_⟩, rfl⟩⟩
        · exact (gC.mono (fun q hq => by omega)).tr (f1.mono (fun q hq => by omega))
        · exact fun j j1 j2 => by dsimp only; rw [f3 j j1 j2, gC 0 (by omega)]
        · exact gM.tr (f4.mono (fun q hq => by omega))
        · exact fun j j1 j2 j3 j4 => by rw [f5 j j1 j2 j3 j4, gf j j4]
        · dsimp only
          rcases f6 with ⟨a1, a2, a3, a4⟩ | hr
          · exact Or.inl ⟨by rw [a1, gC 0 (by omega)], by rw [a2, gC 0 (by omega)], by rw [a3, gf 7 (by decide)], by rw [a4, gf 8 (by decide)]⟩
          · exact Or.inr hr
      · rw [e1, bS, e3, bS]
        dsimp only
        rw [if_pos rfl, e2, bS, d6 6 (by decide), w6, if_pos (by decide)]
        have ih := runBoth hN hn hc4 hC hw23 hM hw6 (kk - 1) (i + 1) m2 w2 (by omega) ⟨⟨d1, d2, d4⟩, gC.tr d3, gM.tr d5, fun j hj => by rw [d6 j hj, gf j hj]⟩ N1 N2 (by omega) (by omega)
        rw [← nI_1] at ih
        exact ih
  | _, _, _, _, _, _, 0, _, h, _ => absurd h (Nat.not_lt_zero _)
  | _, _, _, _, _, _, _ + 1, 0, _, h => absurd h (Nat.not_lt_zero _)
/-- what reading leaves between the two -/
theorem RR.parse {m w : Mem} (h : RR μ ν a0 t) (hm : ∀ q, q < 546 → q ≠ 0 → m q = μ q) (h0 : ∀ j, j ≠ 11 → m 0 j = μ 0 j) (hl : m 546 1 = 0) (hw : ∀ q, q ≠ a0 → q ≠ a0 + 11 → w q = ν q) (wf : ∀ j, j ≠ 6 → j ≠ 17 → j ≠ 18 → j ≠ 19 → j ≠ 20 → j ≠ 23 → w a0 j = ν a0 j) (w17 : w a0 17 = 0) (hp : (m 0 11 = μ 0 11 ∧ w a0 20 = ν a0 20) ∨ ∃ e, e < 100 ∧ m 0 11 = nI e ∧ w a0 20 = nI e) : RR m w a0 t := by
  obtain ⟨h1, h2, ⟨f, c, h3⟩, ⟨⟨s1, s2, s3, s4⟩, ⟨r, r1, r2, r3, r4⟩, ⟨p1, p2, p3, p4⟩, -, g, ⟨o1, o2, o3⟩⟩⟩ := h
  have f9 := h3.1
  refine ⟨?_, by rw [hw _ (by omega) (by omega)]; exact h2, ⟨f, c, h3.mv (fun q q1 q2 => hm q (by omega) (by omega)) (wf _ (by decide) (by decide) (by decide) (by decide) (by decide) (by decide)) (hw _ (by omega) (by omega))⟩, ⟨?_, ?_, ?_, ?_⟩, ⟨r, r1, ?_, ?_, ?_⟩, ⟨?_, ?_, ?_, ?_⟩, ⟨0, by decide, hl, w17, fun i hi => absurd hi (Nat.not_lt_zero _)⟩, ?_, ⟨?_, o2, fun i hi => ?_⟩⟩
  · rw [hw _ (by omega) (by omega)]
    exact h1.mv (fun q q1 q2 => hm q (by omega) (by omega)) (fun _ _ => rfl)
  · rw [h0 _ (by decide), wf _ (by decide) (by decide) (by decide) (by decide) (by decide) (by decide)]; exact s1
  · rw [h0 _ (by decide)]; exact s2
  · rw [hw _ (by omega) (by omega)]
    exact s3.mv (fun q q1 q2 => hm q (by omega) (by omega)) (fun _ _ => rfl)
  · rw [hw _ (by omega) (by omega)]; exact s4
  · rw [h0 _ (by decide)]; exact r2
  · rw [wf _ (by decide) (by decide) (by decide) (by decide) (by decide) (by decide)]; exact r3
  · rw [h0 _ (by decide), wf _ (by decide) (by decide) (by decide) (by decide) (by decide) (by decide)]; exact r4
  · rcases hp with ⟨a1, a2⟩ | ⟨e, _, a1, a2⟩
    · rw [a1, a2]; exact p1
    · rw [a1, a2]
  · rw [h0 _ (by decide), wf _ (by decide) (by decide) (by decide) (by decide) (by decide) (by decide)]; exact p2
  · rcases hp with ⟨a1, a2⟩ | ⟨e, he, a1, a2⟩
    · rw [a1]; exact p3
    · exact Or.inr ⟨e, he, a1⟩
  · rw [h0 _ (by decide)]; exact p4
  · rw [hm _ (by decide) (by decide)]; exact g
  · rw [wf _ (by decide) (by decide) (by decide) (by decide) (by decide) (by decide)]; exact o1
  · rw [hw _ (by omega) (by omega)]; exact o3 i hi
/-- a command that failed: all is as before -/
theorem RR.back {mn mf w' r13 : Mem} {f c k : Nat} (h : RR μ ν a0 t) (hH : HI μ ν a0 f c) (hk : k < 100) (hmn : frm (fun q => 95 + 1 + 1 + 47 * f ≤ q ∧ q < 95 + 1 + 1 + 47 * f + 47) μ mn) (hG : GF mn (kpM ν a0) mf w' a0) (hr : RC r13 1 (ν (a0 + 1))) (hfr : frm (fun q => 1 ≤ q ∧ q < 1 + 47) (mset mf 0 12 (nI k)) r13) : RR r13 (mcp (mset (mset w' a0 21 (nI k)) a0 6 2) (a0 + 2) (a0 + 1) 0 0 817) a0 t := by
  obtain ⟨f1, f2, f3, f4, f5, f6⟩ := hG
  obtain ⟨h1, h2, -, hM⟩ := h
  obtain ⟨g1, g2, g3, g4, g5, g6⟩ := hH
  have e1 : ∀ j, j < 817 → mcp (mset (mset w' a0 21 (nI k)) a0 6 2) (a0 + 2) (a0 + 1) 0 0 817 (a0 + 1) j = ν (a0 + 1) j := fun j hj => by
    rw [mcp_in (by omega) (by omega), mset_ne _ _ _ _ (by omega), mset_ne _ _ _ _ (by omega), Nat.zero_add, Nat.sub_zero, f4 _ (by omega), kp_b hj]
  have eo : ∀ q, q = a0 + 3 ∨ q = a0 + 4 ∨ q = a0 + 9 ∨ q = a0 + 10 → mcp (mset (mset w' a0 21 (nI k)) a0 6 2) (a0 + 2) (a0 + 1) 0 0 817 q = ν q := fun q hq => by
    rw [mcp_ne (by omega), mset_ne _ _ _ _ (by omega), mset_ne _ _ _ _ (by omega), f4 _ (by omega), kp_o (by omega) (by omega)]
  have ew : ∀ j, j ≠ 6 → j ≠ 21 → mcp (mset (mset w' a0 21 (nI k)) a0 6 2) (a0 + 2) (a0 + 1) 0 0 817 a0 j = w' a0 j := fun j h6 h21 => by
    rw [mcp_ne (by omega), mset_sl _ _ _ _ h6, mset_sl _ _ _ _ h21]
  have ef : ∀ j, j ≠ 6 → j ≠ 7 → j ≠ 8 → j ≠ 13 → j ≠ 21 → mcp (mset (mset w' a0 21 (nI k)) a0 6 2) (a0 + 2) (a0 + 1) 0 0 817 a0 j = ν a0 j := fun j h6 h7 h8 h13 h21 => by
    rw [ew j h6 h21, f5 _ h6 h7 h8 h13, kp_f h6]
  have rr : ∀ q, 48 ≤ q → ¬ (520 ≤ q ∧ q < 546) → ¬ (95 + 1 + 1 + 47 * f ≤ q ∧ q < 95 + 1 + 1 + 47 * f + 47) → r13 q = μ q := fun q q1 q2 q3 => by
    rw [hfr q (by omega), mset_ne _ _ _ _ (by omega), f1 q (by omega), hmn q q3]
  have r0 : ∀ j, j ≠ 12 → r13 0 j = mf 0 j := fun j hj => by
    rw [hfr 0 (by omega), mset_sl _ _ _ _ hj]
  have r0' : ∀ j, j ≠ 9 → j ≠ 10 → j ≠ 12 → r13 0 j = μ 0 j := fun j j1 j2 j3 => by
    rw [r0 j j3, f3 j j1 j2, hmn 0 (by omega)]
  obtain ⟨⟨s1, s2, s3, s4⟩, ⟨r, r1, r2, r3, r4⟩, ⟨p1, p2, p3, p4⟩, ⟨L, l1, l2, l3, l4⟩, g, ⟨o1, o2, o3⟩⟩ := hM
  refine ⟨hr.mv (fun _ _ _ => rfl) e1, h2.cg e1, ⟨f, c, g1, g2, ?_, ?_, ?_, fun i hi => ?_⟩, ⟨?_, ?_, ?_, ?_⟩, ?_, ⟨?_, ?_, ?_, ?_⟩, ⟨L, l1, ?_, ?_, fun i hi => ?_⟩, ?_, ⟨?_, o2, fun i hi => ?_⟩⟩
  · rw [rr 95 (by decide) (by decide) (by omega)]; exact g3
  · rw [rr 95 (by decide) (by decide) (by omega)]; exact g4
  · rw [ef _ (by decide) (by decide) (by decide) (by decide) (by decide)]; exact g5
  · obtain ⟨k1, k2⟩ := g6 i hi
    have hlt : (f + 9 - c + i) % 9 < 9 := Nat.mod_lt _ (by decide)
    have hne : (f + 9 - c + i) % 9 ≠ f := by omega
    rw [eo (a0 + 4) (by omega)]
    exact ⟨k1.mv (fun q q1 q2 => rr q (by omega) (by omega) (by omega)) (fun _ _ => rfl), k2⟩
  · rw [r0' _ (by decide) (by decide) (by decide), ef _ (by decide) (by decide) (by decide) (by decide) (by decide)]; exact s1
  · rw [r0' _ (by decide) (by decide) (by decide)]; exact s2
  · rw [eo (a0 + 3) (by omega)]
    exact s3.mv (fun q q1 q2 => rr q (by omega) (by omega) (by omega)) (fun _ _ => rfl)
  · rw [eo (a0 + 3) (by omega)]; exact s4
  · rw [r0 9 (by decide), r0 10 (by decide), ew 7 (by decide) (by decide), ew 8 (by decide) (by decide)]
    rcases f6 with ⟨a1, a2, a3, a4⟩ | hr
    · exact ⟨r, r1, by rw [a1, hmn 0 (by omega)]; exact r2, by rw [a3, kp_f (by decide)]; exact r3, by rw [a2, a4, hmn 0 (by omega), kp_f (by decide)]; exact r4⟩
    · exact hr
  · rw [r0' _ (by decide) (by decide) (by decide), ef _ (by decide) (by decide) (by decide) (by decide) (by decide)]; exact p1
  · rw [hfr 0 (by omega), mset_at, mcp_ne (by omega), mset_sl _ _ _ _ (by decide), mset_at]
  · rw [r0' _ (by decide) (by decide) (by decide)]; exact p3
  · rw [hfr 0 (by omega), mset_at]
    exact Or.inr ⟨k, hk, rfl⟩
  · rw [rr 546 (by decide) (by decide) (by omega)]; exact l2
  · rw [ef _ (by decide) (by decide) (by decide) (by decide) (by decide)]; exact l3
  · obtain ⟨ch, c1, c2, c3⟩ := l4 i hi
    exact ⟨ch, c1, by rw [rr (546 + 1) (by decide) (by decide) (by omega)]; exact c2, by rw [eo (a0 + 10) (by omega)]; exact c3⟩
  · rw [hfr _ (by omega), mset_ne _ _ _ _ (by decide)]; exact f2
  · rw [ef _ (by decide) (by decide) (by decide) (by decide) (by decide)]; exact o1
  · rw [eo (a0 + 9) (by omega)]; exact o3 i hi
theorem o_execute (hN : 1200000000000 ≤ N) (h : RR μ ν a0 t) : Ok (fX10_execute N μ 0) (fun r => Ok (fX11_execute N ν a0) (fun r' => RR r.1 r'.1 a0 t ∧ Sm [1, 4] r.2 r'.1 a0 r'.2)) := by
  obtain ⟨L, hL, l1, l2, l3⟩ := h.2.2.2.2.2.2.1
  have hch : ∀ i : Nat, ∃ ch : Nat, i < L → ch < 65536 ∧ μ (546 + 1) i = nI ch ∧ ν (a0 + 10) i = nI ch := fun i => by
    by_cases c : i < L
    · obtain ⟨ch, hc⟩ := l3 i c
      exact ⟨ch, fun _ => hc⟩
    · exact ⟨0, fun z => absurd z c⟩
  obtain ⟨T, hT⟩ := Classical.axiomOfChoice hch
  have hTc : TXc μ L T := ⟨hL, l1, fun i hi => ⟨(hT i hi).1, (hT i hi).2.1⟩⟩
  have hTm : TXm ν a0 L T := ⟨hL, l2, fun i hi => ⟨(hT i hi).1, (hT i hi).2.2⟩⟩
  unfold fX10_execute
  refine ok_bind (k_readAll (by omega) hTc) ?_
  rintro ⟨m1, v1⟩ ⟨hcase, hmo, hmf⟩
  dsimp only at hcase hmo hmf
  refine ok_lt ?_
  dsimp only
  have mP1 : ∀ q, q < 546 → mset m1 546 1 0 q = μ q := fun q hq => by rw [mset_ne _ _ _ _ (by omega), hmf q (by omega)]
  rcases hcase with ⟨e, he, he61, rfl⟩ | ⟨hnone, rfl, hn10, h4, hC⟩
  · refine ok_ifF (nI_m1 (by omega)) ?_
    refine ok_lt (ok_some ?_)
    refine k_executeM (by omega) hTm (fun w e' h1 h2 h3 h4 h5 => ?_) (fun w h1 _ _ _ _ _ _ => by rw [he] at h1; cases h1)
    rw [he] at h1
    have : e = e' := Option.some.inj h1
    subst this
    obtain ⟨pf1, pf2⟩ := h3
    refine ⟨h.parse (fun q q1 q2 => ?_) (fun j hj => ?_) ?_ (fun q q1 q2 => ?_) (fun j j6 j17 j18 j19 j20 j23 => ?_) ?_ (Or.inr ⟨e, by omega, ?_, ?_⟩), Or.inr ⟨0, 1, rfl, rfl, mset_at _ _ _ _⟩⟩
    · dsimp only; rw [mset_ne _ _ _ _ q2]; exact mP1 q q1
    · dsimp only; rw [mset_sl _ _ _ _ hj, mP1 0 (by decide)]
    · dsimp only; rw [mset_ne _ _ _ _ (by decide), mset_at]
    · dsimp only; rw [mset_ne _ _ _ _ q1, pf1 q (by omega)]
    · dsimp only; rw [mset_sl _ _ _ _ j6]; exact pf2 j j17 j18 j19 j20 j23
    · dsimp only; rw [mset_sl _ _ _ _ (by decide)]; exact h4
    · dsimp only; rw [mset_at]
    · dsimp only; rw [mset_sl _ _ _ _ (by decide)]; exact h5
  · refine ok_ifT rfl ?_
    generalize hss : (prs T L 10 0).2 = ss at *
    -- the state that both have behind reading
    have hpar : ∀ w, PF ν w a0 → w a0 17 = 0 → w a0 20 = ν a0 20 → RR (mset m1 546 1 0) w a0 t := fun w hPF h17 h20 => by
      obtain ⟨pf1, pf2⟩ := hPF
      exact h.parse (fun q q1 q2 => mP1 q q1) (fun j hj => by rw [mP1 0 (by decide)]) (mset_at _ _ _ _) (fun q q1 q2 => pf1 q (by omega)) (fun j j6 j17 j18 j19 j20 j23 => pf2 j j17 j18 j19 j20 j23) h17 (Or.inl ⟨by rw [mP1 0 (by decide)], h20⟩)
    obtain ⟨f, c, hH0⟩ := h.2.2.1
    have f9 := hH0.1
    have hRC1 : RC (mset m1 546 1 0) 1 (ν (a0 + 1)) := h.1.mv (fun q q1 q2 => mP1 q (by omega)) (fun _ _ => rfl)
    have g1 : mset m1 546 1 0 95 1 = nI f := by rw [mP1 95 (by decide)]; exact hH0.2.2.1
    have g2 : mset m1 546 1 0 95 2 = nI c := by rw [mP1 95 (by decide)]; exact hH0.2.2.2.1
    refine ok_bind (k_note (by omega) f9 g1 hRC1) ?_
    rintro mn ⟨hslot, hmn⟩
    have hc4 : mn 546 4 = nI ss.length := by rw [hmn _ (by omega), mset_sl _ _ _ _ (by decide)]; exact h4
    have hCn : CMc mn T L ss := fun k hk => by
      obtain ⟨u1, u2⟩ := hC k hk
      exact ⟨by rw [hmn _ (by omega), mset_ne _ _ _ _ (by decide)]; exact u1, fun j hj => by rw [hmn _ (by omega), mset_ne _ _ _ _ (by omega)]; exact u2 j hj⟩
    have hmn1 : RC mn 1 (ν (a0 + 1)) := hRC1.mv (fun q q1 q2 => hmn q (by omega)) (fun _ _ => rfl)
    have hmn0 : mn (543 + 2) 0 = 0 := by rw [hmn _ (by omega), mP1 _ (by decide)]; exact h.2.2.2.2.2.2.2.1
    -- what the class's run gives, for any memory of the reference behind reading
    have hrun : ∀ w, PF ν w a0 → w a0 23 = nI ss.length → CMm w a0 T L ss → ∃ r, fX10_runCommands N mn 0 = some r ∧ ((r.2 = -1 ∧ ∃ w2, GG mn (kpM w a0) r.1 w2 a0 ∧ runM N a0 w = endM N a0 w2) ∨ ∃ k w', k < ss.length ∧ r.2 = nI k ∧ GF mn (kpM w a0) r.1 w' a0 ∧ runM N a0 w = endF N a0 w' (nI k)) := fun w hPF h23 hCm => by
      have e1 : w (a0 + 1) = ν (a0 + 1) := hPF.1 _ (by omega)
      have hb := runBoth (N := N) (a0 := a0) (T := T) (L := L) (ss := ss) (m0 := mn) (w0 := kpM w a0) hN hn10 hc4 hCn (by rw [kp_f (by decide)]; exact h23) (fun k hk => by rw [kp_o (by omega) (by omega)]; exact hCm k hk) kp_6 ss.length 0 mn (kpM w a0) (by omega) ⟨⟨by rw [kp_s, e1]; exact hmn1, by rw [kp_s, e1]; exact h.2.1, hmn0⟩, frm.rf, frm.rf, fun _ _ => rfl⟩ N N (by omega) (by omega)
      obtain ⟨r, er, hr⟩ := hb
      have eM : runM N a0 w = fix2 (bodyM N a0) N (nI 0) (kpM w a0) := by
        unfold runM
        rw [m_keep, bS]; rfl
      rw [eM]
      exact ⟨r, er, hr⟩
    -- the reference's outcome first
    refine Ok.swap ?_
    refine k_executeM (by omega) hTm (fun w e' h1 _ _ _ _ => by rw [hnone] at h1; cases h1) (fun w _ hPF h17 h20 _ h23 hCm => ?_)
    rw [hss] at h23 hCm
    have hR := hpar w hPF h17 h20
    have e1 : w (a0 + 1) = ν (a0 + 1) := hPF.1 _ (by omega)
    have hH : HI (mset m1 546 1 0) w a0 f c := hH0.mv (fun q q1 q2 => mP1 q (by omega)) (hPF.2 5 (by decide) (by decide) (by decide) (by decide) (by decide)) (hPF.1 _ (by omega))
    obtain ⟨⟨m6, v6⟩, er, hcase⟩ := hrun w hPF h23 hCm
    dsimp only at hcase
    rcases hcase with ⟨rfl, w2, ⟨hST2, gC, gM, gf⟩, eM⟩ | ⟨k, w', hk, rfl, hGF, eM⟩
    · have w6 : w2 a0 6 = 0 := by rw [gf 6 (by decide), kp_6]
      have w5 : w2 a0 5 = nI c := by rw [gf 5 (by decide), kp_f (by decide)]; exact hH.2.2.2.2.1
      have w23 : w2 a0 23 = nI ss.length := by rw [gf 23 (by decide), kp_f (by decide)]; exact h23
      rw [eM]
      unfold endM
      rw [m_endsT hH.2.1 w6 w5, bS]
      refine ok_some ?_
      rw [er, bS]
      refine ok_ifT rfl ?_
      have k1 : m6 95 1 = nI f := by rw [gC _ (by omega), hmn _ (by omega)]; exact g1
      have k2 : m6 95 2 = nI c := by rw [gC _ (by omega), hmn _ (by omega)]; exact g2
      refine ok_bind (k_keepC f9 hH.2.1 k1 k2) ?_
      rintro _ rfl
      refine ok_some ?_
      have hm95 : m6 95 = mn 95 := gC _ (by omega)
      refine ⟨hR.chg (m := mset (mset mn 95 1 (nI ((f + 1) % 9))) 95 2 (nI (min (c + 1) 8))) hH ⟨?_, ?_, mset_at _ _ _ _, ?_⟩ (fun q hq => ?_) ?_ ?_ hST2.2.1 (fun j hj => ?_) (fun q hq => ?_) (fun j h6 h13 => ?_), Or.inl ⟨_, rfl, ?_, ?_⟩⟩
      · rw [e1]
        exact hslot.mv (fun q q1 q2 => by rw [mset_ne _ _ _ _ (by omega), mset_ne _ _ _ _ (by omega)]) (fun _ _ => rfl)
      · rw [mset_sl _ _ _ _ (by decide), mset_at]
      · exact frm.set (X := fun q => q = 95 ∨ (95 + 1 + 1 + 47 * f ≤ q ∧ q < 95 + 1 + 1 + 47 * f + 47)) (frm.set (X := fun q => q = 95 ∨ (95 + 1 + 1 + 47 * f ≤ q ∧ q < 95 + 1 + 1 + 47 * f + 47)) (hmn.mono (fun q hq => Or.inr hq)) (Or.inl rfl) _ _) (Or.inl rfl) _ _
      · dsimp only
        by_cases e95 : q = 95
        · subst e95
          rw [mset_same, mset_same, mset_same, mset_same, hm95]
        · rw [mset_ne _ _ _ _ e95, mset_ne _ _ _ _ e95, mset_ne _ _ _ _ e95, mset_ne _ _ _ _ e95, gC q hq]
      · dsimp only
        rw [mset_ne _ _ _ _ (by decide), mset_ne _ _ _ _ (by decide)]; exact hST2.2.2
      · dsimp only
        exact hST2.1.mv (fun q q1 q2 => by rw [mset_ne _ _ _ _ (by omega), mset_ne _ _ _ _ (by omega)]) (fun _ _ => rfl)
      · rw [gM _ (by omega), kp_b hj]
      · rw [gM _ (by omega), kp_o (by omega) (by omega)]
      · rw [gf j h13, kp_f h6]
      · show psM w2 a0 c a0 6 = 0
        rw [ps_f (by decide), w6]
      · dsimp only
        rw [w23, mset_ne _ _ _ _ (by decide), mset_ne _ _ _ _ (by decide), gC _ (by omega), hc4]
    · rw [eM]
      unfold endF
      refine ok_lt ?_
      have e0 : fX11_fails N (mset w' a0 21 (nI k)) a0 2 = some (mset (mset w' a0 21 (nI k)) a0 6 2, 0) := rfl
      rw [e0, bS]
      dsimp only
      refine ok_bindE (m_endsF (k := 2) (by decide) (by decide) (mset_at _ _ _ _)) ?_
      refine ok_some ?_
      rw [er, bS]
      refine ok_ifF (nI_m1 (by omega)) ?_
      refine ok_lt ?_
      dsimp only
      have k1 : mset m6 0 12 (nI k) 95 1 = nI f := by rw [mset_ne _ _ _ _ (by decide), hGF.1 _ (by omega), hmn _ (by omega)]; exact g1
      have eN : fX4_noted N (mset m6 0 12 (nI k)) 95 = some (95 + 1 + 1 + 47 * f) := by
        have key : Ok (fX4_noted N (mset m6 0 12 (nI k)) 95) (fun r => r = 95 + 1 + 1 + 47 * f) := by
          unfold fX4_noted
          rw [k1]
          exact ok_ar f rfl f9 (by decide) (ok_some rfl)
        obtain ⟨r, e, hh⟩ := key
        rw [e, hh]
      refine ok_bindE eN ?_
      refine ok_bind (k_copy (o := 1) (Z := ν (a0 + 1)) (by omega) (by omega) (hslot.mv (fun q q1 q2 => by rw [mset_ne _ _ _ _ (by omega), hGF.1 q (by omega)]) (fun _ _ => rfl))) ?_
      rintro m13 ⟨hr13, hf13⟩
      refine ok_some ⟨hR.back hH (by omega) hmn hGF (by rw [e1]; exact hr13) hf13, Or.inr ⟨1, 4, rfl, rfl, ?_⟩⟩
      show mcp _ _ _ _ _ _ a0 6 = _
      rw [mcp_ne (by omega), mset_at]; rfl
end RU
