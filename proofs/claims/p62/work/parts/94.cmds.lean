/-! Pure layer, 34: sending. -/
section CS
variable {N : Nat} {μ ν : Mem} {a0 n ec : Nat} {mn ht : Nat → Nat → Nat} {t : List Nat}
theorem min_two (a b G : Nat) : min a G + min b (G - min a G) = min (a + b) G := by omega
/-- an exhibit whose room, pile and counters changed, on both sides -/
theorem ex_up2 {μ' ν' : Mem} {e r l q r' : Nat} {p p' fi la fe le : Nat → Nat} {x2 x3 x4 : Int32} (h : RC μ 1 (ν (a0 + 1))) (hs : SIp (ν (a0 + 1)) n ec mn ht) (he : e < ec) (hX : EXq n (exY (ν (a0 + 1)) e) r l p q fi la fe le) (hr : r' < n) (hp : stab p') (hsum : x2 = nI (grs p') + x3 + x4) (mo : ∀ q, 1 ≤ q → q < 48 → q ≠ 1 + 16 + 1 + 6 * e → q ≠ 1 + 16 + 1 + 6 * e + 1 → μ' q = μ q) (mf : ∀ j, j ≠ 0 → j ≠ 3 → j ≠ 4 → j ≠ 5 → μ' (1 + 16 + 1 + 6 * e) j = μ (1 + 16 + 1 + 6 * e) j) (m0 : μ' (1 + 16 + 1 + 6 * e) 0 = nI r') (m3 : μ' (1 + 16 + 1 + 6 * e) 3 = x2) (m4 : μ' (1 + 16 + 1 + 6 * e) 4 = x3) (m5 : μ' (1 + 16 + 1 + 6 * e) 5 = x4) (mp : ArN μ' (1 + 16 + 1 + 6 * e + 1) 16 p') (no : ∀ j, (∀ v, v < 5 → v ≠ 1 → j ≠ 82 + 147 * e + v) → (∀ i, i < 16 → j ≠ 82 + 147 * e + (7 + i)) → ν' (a0 + 1) j = ν (a0 + 1) j) (n0 : ν' (a0 + 1) (82 + 147 * e + 0) = nI r') (n2 : ν' (a0 + 1) (82 + 147 * e + 2) = x2) (n3 : ν' (a0 + 1) (82 + 147 * e + 3) = x3) (n4 : ν' (a0 + 1) (82 + 147 * e + 4) = x4) (np : mP ν' a0 e p') : RC μ' 1 (ν' (a0 + 1)) ∧ SIp (ν' (a0 + 1)) n ec mn ht ∧ EXq n (exY (ν' (a0 + 1)) e) r' l p' q fi la fe le := by
  have h5 := hs.2.2.2.2.2.1
  have hE' : EXq n (exY (ν' (a0 + 1)) e) r' l p' q fi la fe le := by
    obtain ⟨x1, x2', x3', x4', x5, x6, x7, x8, x9, x10, x11⟩ := hX
    have hq8 := x8.1
    dsimp only [exY] at x1 x3' x7 x9 x10
    refine ⟨?_, hr, ?_, x4', np, hp, ?_, x8, fun k hk => ⟨?_, ?_, ?_⟩, fun d hd => ?_, ?_⟩
    · exact n0
    · dsimp only [exY]; rw [no _ (fun v _ _ => by omega) (fun i _ => by omega)]; exact x3'
    · dsimp only [exY]; rw [no _ (fun v _ _ => by omega) (fun i _ => by omega)]; exact x7
    · dsimp only [exY]; rw [no _ (fun v _ _ => by omega) (fun i _ => by omega)]; exact (x9 k hk).1
    · dsimp only [exY]; rw [no _ (fun v _ _ => by omega) (fun i _ => by omega)]; exact (x9 k hk).2.1
    · dsimp only [exY]; rw [no _ (fun v _ _ => by omega) (fun i _ => by omega)]; exact (x9 k hk).2.2
    · dsimp only [exY]; rw [no _ (fun v _ _ => by omega) (fun i _ => by omega)]; exact x10 d hd
    · dsimp only [exY]; rw [n2, n3, n4]; exact hsum
  refine ⟨RC_ex (e := e) h (by omega) (fun q g1 g2 => mo q g1 (by omega) (by omega) (by omega)) (fun j hj => no j (fun v _ _ => by omega) (fun i _ => by omega)) (fun x hx hne q g1 g2 => mo q (by omega) (by omega) (by omega) (by omega)) (fun x hx hne w hw => no _ (fun v _ _ => by omega) (fun i _ => by omega)) ?_, SIp_ex (e := e) hs he (fun j hj => no j (fun v _ _ => by omega) (fun i _ => by omega)) (fun x hx hne w hw => no _ (fun v _ _ => by omega) (fun i _ => by omega)) ⟨r', l, p', q, fi, la, fe, le, hE'⟩, hE'⟩
  obtain ⟨⟨b0, b1, b2, b3, b4, b5, b6⟩, c1, c2, c3⟩ := h.2 e (by omega)
  dsimp only [exY] at b0 b1 b2 b3 b4 b5 b6 c1 c2 c3
  refine ⟨⟨?_, ?_, ?_, ?_, ?_, ?_, ?_⟩, fun i hi => ?_, fun k hk => ⟨?_, ?_, ?_⟩, fun d hd => ?_⟩
  · dsimp only [exY]; rw [m0, n0]
  · dsimp only [exY]; rw [mf _ (by decide) (by decide) (by decide) (by decide), no _ (fun v _ _ => by omega) (fun i _ => by omega)]; exact b1
  · dsimp only [exY]; rw [m3, n2]
  · dsimp only [exY]; rw [m4, n3]
  · dsimp only [exY]; rw [m5, n4]
  · dsimp only [exY]; rw [mf _ (by decide) (by decide) (by decide) (by decide), no _ (fun v _ _ => by omega) (fun i _ => by omega)]; exact b5
  · dsimp only [exY]; rw [mf _ (by decide) (by decide) (by decide) (by decide), no _ (fun v _ _ => by omega) (fun i _ => by omega)]; exact b6
  · dsimp only [exY]; rw [mp i hi]; exact (np i hi).symm
  · dsimp only [exY]; rw [mo _ (by omega) (by omega) (by omega) (by omega), no _ (fun v _ _ => by omega) (fun i _ => by omega)]; exact (c2 k hk).1
  · dsimp only [exY]; rw [mo _ (by omega) (by omega) (by omega) (by omega), no _ (fun v _ _ => by omega) (fun i _ => by omega)]; exact (c2 k hk).2.1
  · dsimp only [exY]; rw [mo _ (by omega) (by omega) (by omega) (by omega), no _ (fun v _ _ => by omega) (fun i _ => by omega)]; exact (c2 k hk).2.2
  · dsimp only [exY]; rw [mo _ (by omega) (by omega) (by omega) (by omega), no _ (fun v _ _ => by omega) (fun i _ => by omega)]; exact c3 d hd
/-- what a refused deed leaves, on both sides -/
def FL (μ ν m w : Mem) (a0 : Nat) : Prop := frm (fun q => q = 0 ∨ (520 ≤ q ∧ q < 546)) μ m ∧ m (543 + 2) 0 = 0 ∧ (∀ j, j ≠ 9 → j ≠ 10 → m 0 j = μ 0 j) ∧ frm (fun q => q = a0 ∨ (a0 + 5 ≤ q ∧ q ≤ a0 + 8)) ν w ∧ (∀ j, j ≠ 6 → j ≠ 7 → j ≠ 8 → j ≠ 13 → w a0 j = ν a0 j) ∧ ((m 0 9 = μ 0 9 ∧ m 0 10 = μ 0 10 ∧ w a0 7 = ν a0 7 ∧ w a0 8 = ν a0 8) ∨ ∃ r, r ≤ 2 ∧ m 0 9 = nI r ∧ w a0 7 = nI r ∧ m 0 10 = w a0 8)
def CMDx (L : List Nat) (a0 : Nat) (fault : Mem → Option (Mem × Nat)) (deed dom : Mem → Option (Mem × Int32)) (μ ν : Mem) : Prop := (∃ F i m w v, fault μ = some (m, F) ∧ 1 ≤ F ∧ F ≤ 5 ∧ i < 5 ∧ L[i]? = some (F - 1) ∧ dom ν = some (w, v) ∧ w a0 6 = nI (i + 1) ∧ FL μ ν m w a0) ∨ ((∃ m, fault μ = some (m, 0) ∧ frm (fun q => 520 ≤ q ∧ q < 546) μ m ∧ m (543 + 2) 0 = 0) ∧ ∀ m2, ST m2 ν a0 → Ok (deed m2) (fun r => Ok (dom ν) (fun r' => DP m2 ν a0 r r')))
theorem CMD.x {L : List Nat} {fault : Mem → Option Nat} {deed dom : Mem → Option (Mem × Int32)} (h6 : ν a0 6 = 0) (h : ST μ ν a0) (hc : ∀ m, ST m ν a0 → CMD L a0 fault deed dom m ν) : CMDx L a0 (fun q => (fault q).bind fun r => some (q, r)) deed dom μ ν := by
  rcases hc μ h with ⟨F, i, e1, hF1, hF5, hi, hL, e2⟩ | ⟨e1, hdeed⟩
  · refine Or.inl ⟨F, i, μ, _, _, ?_, hF1, hF5, hi, hL, e2, mset_at _ _ _ _, frm.rf, h.2.2, fun _ _ _ => rfl, frm.set (X := fun q => q = a0 ∨ (a0 + 5 ≤ q ∧ q ≤ a0 + 8)) frm.rf (Or.inl rfl) _ _, fun j g1 _ _ _ => mset_sl _ _ _ _ g1, Or.inl ⟨rfl, rfl, mset_sl _ _ _ _ (by decide), mset_sl _ _ _ _ (by decide)⟩⟩
    show (fault μ).bind _ = _
    rw [e1]; rfl
  · refine Or.inr ⟨⟨μ, ?_, frm.rf, h.2.2⟩, fun m2 h2 => ?_⟩
    · show (fault μ).bind _ = _
      rw [e1]; rfl
    · rcases hc m2 h2 with ⟨F, i, -, -, -, hi, -, e2⟩ | ⟨-, hd⟩
      · exfalso
        obtain ⟨r, -, r', er', hDP⟩ := hdeed
        rw [e2] at er'
        have er' := Option.some.inj er'
        have h7 := hDP.2.2.2.2.2.2 6 (by decide)
        rw [← er'] at h7
        dsimp only at h7
        rw [mset_at, h6] at h7
        exact nI_ne0 (n := i + 1) (by omega) (by omega) h7
      · exact hd
theorem MIr.mvr {μ' ν' : Mem} (h : MIr μ ν a0 t) (e0 : ∀ j, j = 2 ∨ j = 11 ∨ j = 12 → μ' 0 j = μ 0 j) (e1 : ∀ q, (48 ≤ q ∧ q < 95) ∨ q = 546 ∨ q = 546 + 1 → μ' q = μ q) (e2 : μ' (543 + 2) 0 = 0) (e3 : ∀ j, j = 3 ∨ j = 20 ∨ j = 21 ∨ j = 17 ∨ j = 15 → ν' a0 j = ν a0 j) (e4 : ν' (a0 + 3) = ν (a0 + 3)) (e5 : ν' (a0 + 10) = ν (a0 + 10)) (e6 : ν' (a0 + 9) = ν (a0 + 9)) (er : (μ' 0 9 = μ 0 9 ∧ μ' 0 10 = μ 0 10 ∧ ν' a0 7 = ν a0 7 ∧ ν' a0 8 = ν a0 8) ∨ ∃ r, r ≤ 2 ∧ μ' 0 9 = nI r ∧ ν' a0 7 = nI r ∧ μ' 0 10 = ν' a0 8) : MIr μ' ν' a0 t := by
  obtain ⟨⟨s1, s2, s3, s4⟩, hr, ⟨p1, p2, p3, p4⟩, ⟨L, l1, l2, l3, l4⟩, g, ⟨o1, o2, o3⟩⟩ := h
  refine ⟨⟨?_, ?_, ?_, ?_⟩, ?_, ⟨?_, ?_, ?_, ?_⟩, ⟨L, l1, ?_, ?_, fun i hi => ?_⟩, e2, ⟨?_, o2, fun i hi => ?_⟩⟩
  · rw [e0 _ (by omega), e3 _ (by omega), s1]
  · rw [e0 _ (by omega)]; exact s2
  · rw [e4]; exact s3.mv (fun q h1 h2 => e1 q (by omega)) (fun _ _ => rfl)
  · rw [e4]; exact s4
  · rcases er with ⟨a1, a2, a3, a4⟩ | er
    · obtain ⟨r, r1, r2, r3, r4⟩ := hr
      exact ⟨r, r1, by rw [a1, r2], by rw [a3, r3], by rw [a2, a4, r4]⟩
    · exact er
  · rw [e0 _ (by omega), e3 _ (by omega), p1]
  · rw [e0 _ (by omega), e3 _ (by omega), p2]
  · rw [e0 _ (by omega)]; exact p3
  · rw [e0 _ (by omega)]; exact p4
  · rw [e1 _ (by omega), l2]
  · rw [e3 _ (by omega), l3]
  · obtain ⟨ch, c1, c2, c3⟩ := l4 i hi
    exact ⟨ch, c1, by rw [e1 _ (by omega), c2], by rw [e5, c3]⟩
  · rw [e3 _ (by omega), o1]
  · rw [e6]; exact o3 i hi
/-- a refused call, on both sides -/
theorem RR.failx {m w : Mem} (h : RR μ ν a0 t) (hF : FL μ (kpM ν a0) m w a0) : RR m (mcp w (a0 + 2) (a0 + 1) 0 0 817) a0 t := by
  obtain ⟨f1, f2, f3, f4, f5, f6⟩ := hF
  have e2 : ∀ q, q ≠ a0 + 1 → mcp w (a0 + 2) (a0 + 1) 0 0 817 q = w q := fun q hq => mcp_ne hq
  have e1 : ∀ j, j < 817 → mcp w (a0 + 2) (a0 + 1) 0 0 817 (a0 + 1) j = ν (a0 + 1) j := fun j hj => by
    rw [mcp_in (by omega) (by omega), Nat.zero_add, Nat.sub_zero, f4 _ (by omega), kp_b hj]
  have eo : ∀ q, q = a0 + 3 ∨ q = a0 + 4 ∨ q = a0 + 9 ∨ q = a0 + 10 → mcp w (a0 + 2) (a0 + 1) 0 0 817 q = ν q := fun q hq => by
    rw [e2 _ (by omega), f4 _ (by omega), kp_o (by omega) (by omega)]
  have ef : ∀ j, j ≠ 6 → j ≠ 7 → j ≠ 8 → j ≠ 13 → mcp w (a0 + 2) (a0 + 1) 0 0 817 a0 j = ν a0 j := fun j h6 h7 h8 h13 => by
    rw [e2 _ (by omega), f5 _ h6 h7 h8 h13, kp_f h6]
  obtain ⟨h1, h2, ⟨f, c, h3⟩, h4⟩ := h
  refine ⟨h1.mv (fun q g1 g2 => f1 q (by omega)) e1, h2.cg e1, ⟨f, c, h3.mv (fun q g1 g2 => f1 q (by omega)) ?_ ?_⟩, h4.mvr (fun j hj => f3 j (by omega) (by omega)) (fun q hq => f1 q (by omega)) f2 (fun j hj => ef j (by omega) (by omega) (by omega) (by omega)) (eo _ (by omega)) (eo _ (by omega)) (eo _ (by omega)) ?_⟩
  · exact ef _ (by decide) (by decide) (by decide) (by decide)
  · exact eo _ (by omega)
  · rw [e2 _ (by omega)]
    rcases f6 with ⟨a1, a2, a3, a4⟩ | hr
    · exact Or.inl ⟨a1, a2, by rw [a3, kp_f (by decide)], by rw [a4, kp_f (by decide)]⟩
    · exact Or.inr hr
/-- a change, out of its fault and its deed on both sides, where the fault may write -/
theorem op_chgx {L : List Nat} {fault : Mem → Option (Mem × Nat)} {deed dom : Mem → Option (Mem × Int32)} (hN : 20 ≤ N) (h : RR μ ν a0 t) (hc : CMDx L a0 fault deed dom μ (kpM ν a0)) : Ok ((fault μ).bind fun r1 => tb (fX10_stopIf N r1.1 r1.2) fun μ3 _ => (fX10_remember N μ3 0).bind fun r6 => (deed r6).bind fun r7 => some (r7.1, (.inr r7.2 : Nat ⊕ Int32))) (fun r => Ok ((fX11_keep N ν a0).bind fun r1 => (dom r1).bind fun r2 => (fX11_ends N r2.1 a0 r2.2).bind fun r3 => some (r3.1, r3.2)) (fun r' => RR r.1 r'.1 a0 t ∧ Sm L r.2 r'.1 a0 r'.2)) := by
  rcases hc with ⟨F, i, m, w, v, e1, hF1, hF5, hi, hL, e2, h6, hFL⟩ | ⟨⟨m, e1, hfm, hm0⟩, hdeed⟩
  · rw [e1, bS]
    refine ok_tbL (e := F - 1) (μ := m) (stop_k hF1 hF5) ?_
    rw [m_keep, bS, e2, bS, m_endsF (k := i + 1) (by omega) (by omega) h6, bS]
    refine ok_some ⟨h.failx hFL, Or.inr ⟨i, F - 1, hL, rfl, ?_⟩⟩
    show mcp _ _ _ _ _ _ a0 6 = _
    rw [mcp_ne (by omega), h6]
  · have hRm : RR m ν a0 t := h.ask hfm hm0 (fun _ _ _ => rfl) frm.rf
    obtain ⟨f, c, hH⟩ := hRm.2.2.1
    rw [e1, bS]
    refine ok_tbR (a := ()) (μ := m) rfl ?_
    refine ok_bind (k_remember hN hH.1 hH.2.1 hH.2.2.1 hH.2.2.2.1 hRm.1) ?_
    intro m1 hm
    have hf9 := hH.1
    have hSTm : ST m1 (kpM ν a0) a0 := by
      obtain ⟨s1, s2, s3⟩ := ST_kp hRm
      exact ⟨s1.mv (fun q g1 g2 => hm.2.2.2 q (by omega)) (fun _ _ => rfl), s2, by rw [hm.2.2.2 _ (by omega)]; exact s3⟩
    refine ok_bind (hdeed m1 hSTm) ?_
    rintro ⟨m2, v⟩ ⟨⟨w, v'⟩, ew, d1, d2, d3, d4, d5, d6, d7⟩
    dsimp only at d1 d2 d3 d4 d5 d6 d7
    refine ok_some ?_
    have w6 : w a0 6 = 0 := by rw [d7 _ (by decide), kp_6]
    have w5 : w a0 5 = nI c := by rw [d7 _ (by decide), kp_f (by decide)]; exact hH.2.2.2.2.1
    rw [m_keep, bS, ew, bS, m_endsT hH.2.1 w6 w5, bS]
    refine ok_some ⟨hRm.chg hH hm d4 d5 d1 d2 (fun j hj => by rw [d6 _ (by omega), kp_b hj]) (fun q hq => by rw [d6 _ (by omega), kp_o (by omega) (by omega)]) (fun j h6 h13 => by rw [d7 j h13, kp_f h6]), Or.inl ⟨_, rfl, ?_, d3⟩⟩
    show psM w a0 c a0 6 = 0
    rw [ps_f (by decide), w6]
end CS
