/-! Pure layer, 33: drops, melting, days. -/
theorem ar_bind {A O : Type} {n : Nat} {i : Int32} {f : Nat → Option A} {k : A → Option O} : (ar n i fun q => (f q).bind k) = (ar n i f).bind k := by
  unfold ar
  split <;> rfl
section CD
variable {N : Nat} {μ ν : Mem} {a0 n ec : Nat} {mn ht : Nat → Nat → Nat} {t : List Nat}
/-- an exhibit whose pile and counters changed, on both sides -/
theorem ex_up {μ' ν' : Mem} {e r l q : Nat} {p p' fi la fe le : Nat → Nat} {x2 x3 x4 : Int32} (h : RC μ 1 (ν (a0 + 1))) (hs : SIp (ν (a0 + 1)) n ec mn ht) (he : e < ec) (hX : EXq n (exY (ν (a0 + 1)) e) r l p q fi la fe le) (hp : stab p') (hsum : x2 = nI (grs p') + x3 + x4) (mo : ∀ q, 1 ≤ q → q < 48 → q ≠ 1 + 16 + 1 + 6 * e → q ≠ 1 + 16 + 1 + 6 * e + 1 → μ' q = μ q) (mf : ∀ j, j ≠ 3 → j ≠ 4 → j ≠ 5 → μ' (1 + 16 + 1 + 6 * e) j = μ (1 + 16 + 1 + 6 * e) j) (m3 : μ' (1 + 16 + 1 + 6 * e) 3 = x2) (m4 : μ' (1 + 16 + 1 + 6 * e) 4 = x3) (m5 : μ' (1 + 16 + 1 + 6 * e) 5 = x4) (mp : ArN μ' (1 + 16 + 1 + 6 * e + 1) 16 p') (no : ∀ j, (∀ v, 2 ≤ v → v < 5 → j ≠ 82 + 147 * e + v) → (∀ i, i < 16 → j ≠ 82 + 147 * e + (7 + i)) → ν' (a0 + 1) j = ν (a0 + 1) j) (n2 : ν' (a0 + 1) (82 + 147 * e + 2) = x2) (n3 : ν' (a0 + 1) (82 + 147 * e + 3) = x3) (n4 : ν' (a0 + 1) (82 + 147 * e + 4) = x4) (np : mP ν' a0 e p') : RC μ' 1 (ν' (a0 + 1)) ∧ SIp (ν' (a0 + 1)) n ec mn ht ∧ EXq n (exY (ν' (a0 + 1)) e) r l p' q fi la fe le := by
  have h5 := hs.2.2.2.2.2.1
  have hE' : EXq n (exY (ν' (a0 + 1)) e) r l p' q fi la fe le := by
    obtain ⟨x1, x2', x3', x4', x5, x6, x7, x8, x9, x10, x11⟩ := hX
    have hq8 := x8.1
    dsimp only [exY] at x1 x3' x7 x9 x10
    refine ⟨?_, x2', ?_, x4', np, hp, ?_, x8, fun k hk => ⟨?_, ?_, ?_⟩, fun d hd => ?_, ?_⟩
    · dsimp only [exY]; rw [no _ (fun v _ _ => by omega) (fun i _ => by omega)]; exact x1
    · dsimp only [exY]; rw [no _ (fun v _ _ => by omega) (fun i _ => by omega)]; exact x3'
    · dsimp only [exY]; rw [no _ (fun v _ _ => by omega) (fun i _ => by omega)]; exact x7
    · dsimp only [exY]; rw [no _ (fun v _ _ => by omega) (fun i _ => by omega)]; exact (x9 k hk).1
    · dsimp only [exY]; rw [no _ (fun v _ _ => by omega) (fun i _ => by omega)]; exact (x9 k hk).2.1
    · dsimp only [exY]; rw [no _ (fun v _ _ => by omega) (fun i _ => by omega)]; exact (x9 k hk).2.2
    · dsimp only [exY]; rw [no _ (fun v _ _ => by omega) (fun i _ => by omega)]; exact x10 d hd
    · dsimp only [exY]; rw [n2, n3, n4]; exact hsum
  refine ⟨RC_ex (e := e) h (by omega) (fun q g1 g2 => mo q g1 (by omega) (by omega) (by omega)) (fun j hj => no j (fun v _ _ => by omega) (fun i _ => by omega)) (fun x hx hne q g1 g2 => mo q (by omega) (by omega) (by omega) (by omega)) (fun x hx hne w hw => no _ (fun v _ _ => by omega) (fun i _ => by omega)) ?_, SIp_ex (e := e) hs he (fun j hj => no j (fun v _ _ => by omega) (fun i _ => by omega)) (fun x hx hne w hw => no _ (fun v _ _ => by omega) (fun i _ => by omega)) ⟨r, l, p', q, fi, la, fe, le, hE'⟩, hE'⟩
  obtain ⟨⟨b0, b1, b2, b3, b4, b5, b6⟩, c1, c2, c3⟩ := h.2 e (by omega)
  dsimp only [exY] at b0 b1 b2 b3 b4 b5 b6 c1 c2 c3
  refine ⟨⟨?_, ?_, ?_, ?_, ?_, ?_, ?_⟩, fun i hi => ?_, fun k hk => ⟨?_, ?_, ?_⟩, fun d hd => ?_⟩
  · dsimp only [exY]; rw [mf _ (by decide) (by decide) (by decide), no _ (fun v _ _ => by omega) (fun i _ => by omega)]; exact b0
  · dsimp only [exY]; rw [mf _ (by decide) (by decide) (by decide), no _ (fun v _ _ => by omega) (fun i _ => by omega)]; exact b1
  · dsimp only [exY]; rw [m3, n2]
  · dsimp only [exY]; rw [m4, n3]
  · dsimp only [exY]; rw [m5, n4]
  · dsimp only [exY]; rw [mf _ (by decide) (by decide) (by decide), no _ (fun v _ _ => by omega) (fun i _ => by omega)]; exact b5
  · dsimp only [exY]; rw [mf _ (by decide) (by decide) (by decide), no _ (fun v _ _ => by omega) (fun i _ => by omega)]; exact b6
  · dsimp only [exY]; rw [mp i hi]; exact (np i hi).symm
  · dsimp only [exY]; rw [mo _ (by omega) (by omega) (by omega) (by omega), no _ (fun v _ _ => by omega) (fun i _ => by omega)]; exact (c2 k hk).1
  · dsimp only [exY]; rw [mo _ (by omega) (by omega) (by omega) (by omega), no _ (fun v _ _ => by omega) (fun i _ => by omega)]; exact (c2 k hk).2.1
  · dsimp only [exY]; rw [mo _ (by omega) (by omega) (by omega) (by omega), no _ (fun v _ _ => by omega) (fun i _ => by omega)]; exact (c2 k hk).2.2
  · dsimp only [exY]; rw [mo _ (by omega) (by omega) (by omega) (by omega), no _ (fun v _ _ => by omega) (fun i _ => by omega)]; exact c3 d hd
theorem grs_cg {p q : Nat → Nat} (h : ∀ i, i < 16 → p i = q i) : grs p = grs q := sm_cg 16 h
/-- a drop on both sides -/
theorem dropBoth {e a b c : Nat} (hN : 20000 ≤ N) (h : RC μ 1 (ν (a0 + 1))) (hs : SIp (ν (a0 + 1)) n ec mn ht) (h0 : μ (543 + 2) 0 = 0) (he : e < ec) (ha : a < 4) (hb : b < 4) (hc : c ≤ 40) : Ok (fX6_fallOn N μ 538 (1 + 16 + 1 + 6 * e) (nI (4 * b + a)) (nI c)) (fun r => Ok ((fX11_tries N ν a0 (nI e) (nI a) (nI b) (nI c)).bind fun r3 => acp r3.1 (a0 + 7) 16 (a0 + 1) 817 0 ((82 + (147 * nI e)) + 7) 16 fun μ4 => (fX11_of N μ4 a0 (nI e) 2).bind fun r7 => (fX11_sets N μ4 a0 (nI e) 2 (r7 + nI c)).bind fun r8 => (fX11_of N r8 a0 (nI e) 3).bind fun r9 => (fX11_sets N r8 a0 (nI e) 3 (r9 + (r8 a0 13))).bind fun r10 => some (r10, r3.2)) (fun r' => DP μ ν a0 r r')) := by
  have h5 := hs.2.2.2.2.2.1
  obtain ⟨r, l, p, q, fi, la, fe, le, hX⟩ := hs.2.2.2.2.2.2.1 e he
  have hp := hX.2.2.2.2.2.1
  have hk : 4 * b + a < 16 := by omega
  refine (k_fallOn (a0 := 538) hN (by omega) (by omega) (cP_of (h.2 e (by omega)) hX) hp hk hc).mono ?_
  rintro ⟨m, v⟩ ⟨l1, hl1, hs1, hm, h3, h4, hsame, hf, hv⟩
  dsimp only at hm h3 h4 hsame hf hv
  subst hv
  refine ok_bind (k_triesM hN (by omega) ha hb hc hp (mP_of hX)) ?_
  rintro ⟨w, v'⟩ ⟨l2, hl2, hs2, hw, h13, hwf, hwfr, hv'⟩
  dsimp only at hw h13 hwf hwfr hv'
  subst hv'
  have e7 : (82 : Int32) + 147 * nI e + 7 = nI (82 + 147 * e + 7) := by
    rw [show (147 : Int32) = nI 147 from rfl, pk_mul, show (82 : Int32) = nI 82 from rfl, show (7 : Int32) = nI 7 from rfl, nI_add, nI_add]
  have hrun := abel_run hl2 hs2 hl1 hs1
  have hgr := grs_run l1 _ hl1
  have hgq := grs_upd (p := p) (g := c) hk
  have hw1 : w (a0 + 1) = ν (a0 + 1) := hwfr _ (by omega)
  generalize updN p (4 * b + a) (p (4 * b + a) + c) = pq at *
  refine ok_acp 0 (82 + 147 * e + 7) 16 rfl e7 rfl (by decide) (by omega) (by decide) (by decide) ?_
  refine ok_bindE (m_of e 2 (by omega) (by decide) rfl rfl) ?_
  refine ok_bindE (m_sets e 2 (by omega) (by decide) rfl rfl) ?_
  refine ok_bindE (m_of e 3 (by omega) (by decide) rfl rfl) ?_
  refine ok_bindE (m_sets e 3 (by omega) (by decide) rfl rfl) ?_
  refine ok_some ?_
  dsimp only
  rw [mset_sl _ _ _ _ (show 82 + 147 * e + 3 ≠ 82 + 147 * e + 2 by omega), mset_ne _ _ _ _ (show a0 ≠ a0 + 1 by omega), mcp_ne (show a0 ≠ a0 + 1 by omega), h13, mcp_out (show ¬ (82 + 147 * e + 7 ≤ 82 + 147 * e + 2 ∧ 82 + 147 * e + 2 < 82 + 147 * e + 7 + 16) by omega), mcp_out (show ¬ (82 + 147 * e + 7 ≤ 82 + 147 * e + 3 ∧ 82 + 147 * e + 3 < 82 + 147 * e + 7 + 16) by omega), hw1]
  have hE := h.2 e (by omega)
  have ex2 : ν (a0 + 1) (82 + 147 * e + 2) = μ (1 + 16 + 1 + 6 * e) 3 := hE.1.2.2.1.symm
  have ex3 : ν (a0 + 1) (82 + 147 * e + 3) = μ (1 + 16 + 1 + 6 * e) 4 := hE.1.2.2.2.1.symm
  have ex4 : ν (a0 + 1) (82 + 147 * e + 4) = μ (1 + 16 + 1 + 6 * e) 5 := hE.1.2.2.2.2.1.symm
  have hsub : nI (grs pq) - nI (grs (runT l1 pq)) = nI (grs pq - grs (runT l1 pq)) := pk_sub hgr
  have hgc : grs (runT l2 pq) = grs (runT l1 pq) := grs_cg hrun
  rw [hgc]
  rw [hsub] at h4
  have hold := hX.2.2.2.2.2.2.2.2.2.2
  dsimp only [exY] at hold
  have hup := ex_up (μ' := m) (ν' := mset (mset (mcp w (a0 + 7) (a0 + 1) 0 (82 + 147 * e + 7) 16) (a0 + 1) (82 + 147 * e + 2) (ν (a0 + 1) (82 + 147 * e + 2) + nI c)) (a0 + 1) (82 + 147 * e + 3) (ν (a0 + 1) (82 + 147 * e + 3) + nI (grs pq - grs (runT l1 pq)))) (p' := runT l1 pq) (x2 := ν (a0 + 1) (82 + 147 * e + 2) + nI c) (x3 := ν (a0 + 1) (82 + 147 * e + 3) + nI (grs pq - grs (runT l1 pq))) (x4 := ν (a0 + 1) (82 + 147 * e + 4)) h hs he hX hs1 (by
      rw [hold]
      have e1 : nI (grs p) + nI c = nI (grs (runT l1 pq)) + nI (grs pq - grs (runT l1 pq)) := by
        rw [nI_add, nI_add]; exact congrArg nI (by omega)
      calc nI (grs p) + ν (a0 + 1) (82 + 147 * e + 3) + ν (a0 + 1) (82 + 147 * e + 4) + nI c = (nI (grs p) + nI c) + ν (a0 + 1) (82 + 147 * e + 3) + ν (a0 + 1) (82 + 147 * e + 4) := by ac_rfl
        _ = (nI (grs (runT l1 pq)) + nI (grs pq - grs (runT l1 pq))) + ν (a0 + 1) (82 + 147 * e + 3) + ν (a0 + 1) (82 + 147 * e + 4) := by rw [e1]
        _ = nI (grs (runT l1 pq)) + (ν (a0 + 1) (82 + 147 * e + 3) + nI (grs pq - grs (runT l1 pq))) + ν (a0 + 1) (82 + 147 * e + 4) := by ac_rfl) (fun q g1 g2 g3 g4 => hf q (by omega)) (fun j g3 g4 g5 => hsame j g3 g4) (by rw [h3, ex2]) (by rw [h4, ex3]) (by rw [hsame 5 (by decide) (by decide), ex4]) hm (fun j g1 g2 => by
      rw [mset_sl _ _ _ _ (g1 3 (by decide) (by decide)), mset_sl _ _ _ _ (g1 2 (by decide) (by decide)), mcp_out (fun z => g2 (j - (82 + 147 * e + 7)) (by omega) (by omega)), hw1]) (by rw [mset_sl _ _ _ _ (by omega), mset_at]) (mset_at _ _ _ _) (by rw [mset_sl _ _ _ _ (by omega), mset_sl _ _ _ _ (by omega), mcp_out (by omega), hw1]) (fun i hi => by
      rw [mset_sl _ _ _ _ (by omega), mset_sl _ _ _ _ (by omega), mcp_in (by omega) (by omega), ← hrun i hi, ← hw i hi]
      exact congrArg _ (by omega))
  refine ⟨hup.1, ⟨_, _, _, _, hup.2.1⟩, congrArg nI (abel_len hl2 hs2 hl1 hs1), hf.mono (fun q hq => by omega), ?_, ?_, fun j hj => ?_⟩
  · dsimp only
    rw [hf _ (by omega)]; exact h0
  · exact frm.set (X := fun q => q = a0 ∨ q = a0 + 1 ∨ (a0 + 5 ≤ q ∧ q ≤ a0 + 8)) (frm.set (X := fun q => q = a0 ∨ q = a0 + 1 ∨ (a0 + 5 ≤ q ∧ q ≤ a0 + 8)) (frm.cpy (X := fun q => q = a0 ∨ q = a0 + 1 ∨ (a0 + 5 ≤ q ∧ q ≤ a0 + 8)) (hwfr.mono (fun q hq => by omega)) (by omega) _ _ _) (by omega) _ _) (by omega) _ _
  · dsimp only
    rw [mset_ne _ _ _ _ (by omega), mset_ne _ _ _ _ (by omega), mcp_ne (by omega)]; exact hwf j hj
theorem cmd_drop {x px py g : Int32} (hN : 20000 ≤ N) (h : ST μ ν a0) : CMD [0, 1] a0 (fun q => fX10_dropFault N q 0 x px py g) (fun m => ar 5 x fun q7 => (fX10_placeAt N m px py).bind fun r11 => fX6_fallOn N m 538 ((1 + 16) + 1 + 6 * q7) r11 g) (fun q => fX11_doDrop N q a0 x px py g) μ ν := by
  obtain ⟨hRC, ⟨n, ec, mn, ht, hs⟩, h0⟩ := h
  have h5 := hs.2.2.2.2.2.1
  have z1 := hs.2.2.2.2.1
  have e1 := dropF (N := N) (x := x) (px := px) (py := py) (g := g) (hRC.1.1.2.1.trans z1) h5
  cases hx : idx ec x
  · rw [hx] at e1
    refine Or.inl ⟨1, 0, e1, by decide, by decide, by decide, rfl, ?_⟩
    show fX11_doDrop N ν a0 x px py g = _
    unfold fX11_doDrop
    rw [wrongM z1 h5, hx]; rfl
  · rw [hx] at e1
    cases hd : okD px py g
    · rw [hd] at e1
      refine Or.inl ⟨2, 1, e1, by decide, by decide, by decide, rfl, ?_⟩
      show fX11_doDrop N ν a0 x px py g = _
      unfold fX11_doDrop
      rw [wrongM z1 h5, hx, hd]; rfl
    · rw [hd] at e1
      refine Or.inr ⟨e1, ?_⟩
      obtain ⟨e, he, rfl⟩ := idx_t.mp hx
      obtain ⟨a, b, c, ha, hb, hc1, hc, rfl, rfl, rfl⟩ := okD_t hd
      obtain ⟨r, er, hr⟩ := dropBoth (N := N) hN hRC hs h0 he ha hb hc
      refine ⟨r, ?_, ?_⟩
      · show (ar 5 (nI e) _ : Option (Mem × Int32)) = _
        unfold ar
        rw [if_neg (vp_in_nI (by omega) (by decide)), nI_clamp (by omega)]
        show ((some (nI b * 4 + nI a)).bind _ : Option (Mem × Int32)) = _
        rw [bS, placeI]; exact er
      · show Ok (fX11_doDrop N ν a0 (nI e) (nI a) (nI b) (nI c)) _
        unfold fX11_doDrop
        rw [wrongM z1 h5, hx, hd, bS]
        exact ok_ifT (by decide) hr
theorem o_drop {x px py g : Int32} (hN : 20000 ≤ N) (h : RR μ ν a0 t) : Ok (fX10_drop N μ 0 x px py g) (fun r => Ok (fX11_drop N ν a0 x px py g) (fun r' => RR r.1 r'.1 a0 t ∧ Sm [0, 1] r.2 r'.1 a0 r'.2)) := by
  have hop := op_chg (N := N) (L := [0, 1]) (fault := fun q => fX10_dropFault N q 0 x px py g) (deed := fun m => ar 5 x fun q7 => (fX10_placeAt N m px py).bind fun r11 => fX6_fallOn N m 538 ((1 + 16) + 1 + 6 * q7) r11 g) (dom := fun q => fX11_doDrop N q a0 x px py g) (by omega) h (fun q hq => cmd_drop hN hq)
  obtain ⟨r, er, hr⟩ := hop
  refine ⟨r, ?_, hr⟩
  rw [← er]
  unfold fX10_drop
  simp only [← ar_bind]
  rfl
end CD
