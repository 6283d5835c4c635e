/-! Pure layer, 38: loans asked for and taken. -/
section CK
variable {N : Nat} {μ ν : Mem} {a0 n ec : Nat} {mn ht : Nat → Nat → Nat} {t : List Nat}
/-- an exhibit whose loans changed, on both sides -/
theorem ex_upL {μ' ν' : Mem} {e r l q q' : Nat} {p fi la fe le fi' la' fe' le' : Nat → Nat} {x6 : Int32} (h : RC μ 1 (ν (a0 + 1))) (hs : SIp (ν (a0 + 1)) n ec mn ht) (he : e < ec) (hX : EXq n (exY (ν (a0 + 1)) e) r l p q fi la fe le) (hl : lnOK q' fi' la' fe' le') (mo : ∀ q, 1 ≤ q → q < 48 → q ≠ 1 + 16 + 1 + 6 * e → (q < 1 + 16 + 1 + 6 * e + 2 ∨ 1 + 16 + 1 + 6 * e + 6 ≤ q) → μ' q = μ q) (mf : ∀ j, j ≠ 6 → j ≠ 10 → μ' (1 + 16 + 1 + 6 * e) j = μ (1 + 16 + 1 + 6 * e) j) (m6 : μ' (1 + 16 + 1 + 6 * e) 6 = nI q') (m10 : μ' (1 + 16 + 1 + 6 * e) 10 = x6) (mk : ∀ k, k < 8 → μ' (1 + 16 + 1 + 6 * e + 2) k = ν' (a0 + 1) (82 + 147 * e + (23 + 3 * k + 0)) ∧ μ' (1 + 16 + 1 + 6 * e + 3) k = ν' (a0 + 1) (82 + 147 * e + (23 + 3 * k + 1)) ∧ μ' (1 + 16 + 1 + 6 * e + 4) k = ν' (a0 + 1) (82 + 147 * e + (23 + 3 * k + 2))) (md : ArN μ' (1 + 16 + 1 + 6 * e + 5) 100 le') (no : ∀ j, (∀ v, v < 147 → v = 5 ∨ v = 6 ∨ 23 ≤ v → j ≠ 82 + 147 * e + v) → ν' (a0 + 1) j = ν (a0 + 1) j) (n5 : ν' (a0 + 1) (82 + 147 * e + 5) = nI q') (n6 : ν' (a0 + 1) (82 + 147 * e + 6) = x6) (nk : ∀ k, k < q' → ν' (a0 + 1) (82 + 147 * e + (23 + 3 * k + 0)) = nI (fi' k) ∧ ν' (a0 + 1) (82 + 147 * e + (23 + 3 * k + 1)) = nI (la' k) ∧ ν' (a0 + 1) (82 + 147 * e + (23 + 3 * k + 2)) = nI (fe' k)) (nd : ∀ d, d < 100 → ν' (a0 + 1) (82 + 147 * e + (47 + d)) = nI (le' d)) : RC μ' 1 (ν' (a0 + 1)) ∧ SIp (ν' (a0 + 1)) n ec mn ht := by
  have h5 := hs.2.2.2.2.2.1
  have nv : ∀ v, v < 147 → v ≠ 5 → v ≠ 6 → v < 23 → ν' (a0 + 1) (82 + 147 * e + v) = ν (a0 + 1) (82 + 147 * e + v) := fun v g1 g2 g3 g4 => no _ (fun v' h1 h2 => by omega)
  have hE' : EXq n (exY (ν' (a0 + 1)) e) r l p q' fi' la' fe' le' := by
    obtain ⟨x1, x2, x3, x4, x5, x6, x7, x8, x9, x10, x11⟩ := hX
    dsimp only [exY] at x1 x3 x5 x11
    refine ⟨?_, x2, ?_, x4, fun i hi => ?_, x6, n5, hl, nk, nd, ?_⟩
    · dsimp only [exY]; rw [nv _ (by decide) (by decide) (by decide) (by decide)]; exact x1
    · dsimp only [exY]; rw [nv _ (by decide) (by decide) (by decide) (by decide)]; exact x3
    · dsimp only [exY]; rw [nv _ (by omega) (by omega) (by omega) (by omega)]; exact x5 i hi
    · dsimp only [exY]; rw [nv _ (by decide) (by decide) (by decide) (by decide), nv _ (by decide) (by decide) (by decide) (by decide), nv _ (by decide) (by decide) (by decide) (by decide)]; exact x11
  refine ⟨RC_ex (e := e) h (by omega) (fun q g1 g2 => mo q g1 (by omega) (by omega) (by omega)) (fun j hj => no j (fun v _ _ => by omega)) (fun x hx hne q g1 g2 => mo q (by omega) (by omega) (by omega) (by omega)) (fun x hx hne w hw => no _ (fun v _ _ => by omega)) ?_, SIp_ex (e := e) hs he (fun j hj => no j (fun v _ _ => by omega)) (fun x hx hne w hw => no _ (fun v _ _ => by omega)) ⟨r, l, p, q', fi', la', fe', le', hE'⟩⟩
  obtain ⟨⟨b0, b1, b2, b3, b4, b5, b6⟩, c1, c2, c3⟩ := h.2 e (by omega)
  dsimp only [exY] at b0 b1 b2 b3 b4 c1
  refine ⟨⟨?_, ?_, ?_, ?_, ?_, ?_, ?_⟩, fun i hi => ?_, mk, fun d hd => ?_⟩
  · dsimp only [exY]; rw [mf _ (by decide) (by decide), nv _ (by decide) (by decide) (by decide) (by decide)]; exact b0
  · dsimp only [exY]; rw [mf _ (by decide) (by decide), nv _ (by decide) (by decide) (by decide) (by decide)]; exact b1
  · dsimp only [exY]; rw [mf _ (by decide) (by decide), nv _ (by decide) (by decide) (by decide) (by decide)]; exact b2
  · dsimp only [exY]; rw [mf _ (by decide) (by decide), nv _ (by decide) (by decide) (by decide) (by decide)]; exact b3
  · dsimp only [exY]; rw [mf _ (by decide) (by decide), nv _ (by decide) (by decide) (by decide) (by decide)]; exact b4
  · dsimp only [exY]; rw [m6, n5]
  · dsimp only [exY]; rw [m10, n6]
  · dsimp only [exY]; rw [mo _ (by omega) (by omega) (by omega) (by omega), nv _ (by omega) (by omega) (by omega) (by omega)]; exact c1 i hi
  · dsimp only [exY]; rw [md d hd]; exact (nd d hd).symm
def okA (a b c : Int32) : Bool := decide (0 ≤ a ∧ a ≤ b) && (decide (0 ≤ b ∧ b ≤ 99) && decide (1 ≤ c ∧ c ≤ 99))
theorem okA_t {a b c : Int32} (h : okA a b c = true) : ∃ i j f, i ≤ j ∧ j ≤ 99 ∧ f ≤ 99 ∧ a = nI i ∧ b = nI j ∧ c = nI f := by
  unfold okA at h
  rw [Bool.and_eq_true, Bool.and_eq_true] at h
  obtain ⟨h1, h2, h3⟩ := h
  obtain ⟨j, -, hj, rfl⟩ := dec_of (lo := 0) (hi := 99) (by decide) (by decide) h2
  obtain ⟨f, -, hf, rfl⟩ := dec_of (lo := 1) (hi := 99) (by decide) (by decide) h3
  obtain ⟨i, -, hi, rfl⟩ := dec_of (lo := 0) (hi := j) (by decide) (by omega) h1
  exact ⟨i, j, f, hi, hj, hf, rfl, rfl, rfl⟩
theorem okA_m {a b c : Int32} : okA a b c = (decide (0 ≤ a ∧ a ≤ 99) && (decide (a ≤ b ∧ b ≤ 99) && decide (1 ≤ c ∧ c ≤ 99))) := by
  unfold okA
  cases decide (1 ≤ c ∧ c ≤ 99)
  · rw [Bool.and_false, Bool.and_false, Bool.and_false, Bool.and_false]
  · rw [Bool.and_true, Bool.and_true]
    have e : (0 : Int32).toInt = 0 := by decide
    have e9 : (99 : Int32).toInt = 99 := by decide
    rw [Bool.eq_iff_iff, Bool.and_eq_true, Bool.and_eq_true, decide_eq_true_iff, decide_eq_true_iff, decide_eq_true_iff, decide_eq_true_iff, Int32.le_iff_toInt_le, Int32.le_iff_toInt_le, Int32.le_iff_toInt_le, Int32.le_iff_toInt_le, Int32.le_iff_toInt_le, e, e9]
    omega
theorem askF_x {x a b c : Int32} (h4 : μ 1 4 = nI ec) (he : ec ≤ 5) (hx : idx ec x = false) : fX10_askFault N μ 0 x a b c = some 1 := by
  unfold fX10_askFault
  rw [k_hasExhibit h4 he, bS, hx]; rfl
theorem askF_t {e q : Nat} {a b c : Int32} (h4 : μ 1 4 = nI ec) (h5 : ec ≤ 5) (he : e < ec) (h6 : μ (1 + 16 + 1 + 6 * e) 6 = nI q) (hq : q ≤ 8) : fX10_askFault N μ 0 (nI e) a b c = some (if okA a b c = true then (if q < 8 then 0 else 3) else 2) := by
  have key : Ok (fX10_askFault N μ 0 (nI e) a b c) (fun r => r = if okA a b c = true then (if q < 8 then 0 else 3) else 2) := by
    unfold fX10_askFault okA
    rw [k_hasExhibit h4 h5, bS, (idx_nI (by omega) (by omega)).mpr he]
    refine ok_cdT rfl ?_
    rw [k_isFrom, bS]
    refine ok_jn1 (fun _ : Unit => (decide (0 ≤ a ∧ a ≤ b) && (decide (0 ≤ b ∧ b ≤ 99) && decide (1 ≤ c ∧ c ≤ 99))) = false) (fun _ hz => ok_some (by rw [hz]; rfl)) (fun j5 hj5 => ?_)
    refine ok_cd (fun h1 => ?_) (fun h1 => hj5 () (by rw [h1, Bool.false_and, Bool.and_false]))
    rw [k_isFrom, bS]
    refine ok_cd (fun h2 => ?_) (fun h2 => hj5 () (by rw [h2, Bool.false_and]))
    rw [k_isFrom, bS]
    refine ok_cd (fun h3 => ?_) (fun h3 => hj5 () (by rw [h3, Bool.and_false, Bool.and_false]))
    refine ok_ar e rfl (by omega) (by decide) ?_
    refine ok_jn ?_
    rw [h6, h1, h2, h3]
    exact ok_ltI q 8 (f := fun z => ok_some (by show 0 = if q < 8 then 0 else 3; rw [if_pos z])) (g := fun z => ok_some (by show 3 = if q < 8 then 0 else 3; rw [if_neg (by omega)]))
  obtain ⟨r, e, h⟩ := key
  rw [e, h]
theorem i23 {k w : Nat} : (23 : Int32) + 3 * nI k + nI w = nI (23 + 3 * k + w) := by
  rw [show (23 : Int32) = nI 23 from rfl, show (3 : Int32) = nI 3 from rfl, pk_mul, nI_add, nI_add]
theorem i230 {k : Nat} : (23 : Int32) + 3 * nI k = nI (23 + 3 * k + 0) := by
  rw [show (23 : Int32) = nI 23 from rfl, show (3 : Int32) = nI 3 from rfl, pk_mul, nI_add]; rfl
theorem cmd_ask {x a b c : Int32} (hN : 200 ≤ N) (h : ST μ ν a0) : CMD [0, 1, 2] a0 (fun q => fX10_askFault N q 0 x a b c) (fun m => ar 5 x fun q7 => fX1_noteLoan N m (1 + 16 + 1 + 6 * q7) a b c) (fun q => fX11_doAsk N q a0 x a b c) μ ν := by
  obtain ⟨hRC, ⟨n, ec, mn, ht, hs⟩, h0⟩ := h
  have h5 := hs.2.2.2.2.2.1
  have z1 := hs.2.2.2.2.1
  have m4 : μ 1 4 = nI ec := hRC.1.1.2.1.trans z1
  cases hx : idx ec x
  · refine Or.inl ⟨1, 0, askF_x m4 h5 hx, by decide, by decide, by decide, rfl, ?_⟩
    show fX11_doAsk N ν a0 x a b c = _
    unfold fX11_doAsk
    rw [m_isExhibit z1 h5, bS, hx]; rfl
  · obtain ⟨e, he, rfl⟩ := idx_t.mp hx
    obtain ⟨r, l, p, q, fi, la, fe, le, hX⟩ := hs.2.2.2.2.2.2.1 e he
    have hE := hRC.2 e (by omega)
    have hL := cL_of hE hX
    have hM := mL_of hX
    have hl := hX.2.2.2.2.2.2.2.1
    have hq := hl.1
    have e1 := askF_t (N := N) (a := a) (b := b) (c := c) m4 h5 he hL.1 hq
    have e2 : ∀ (P : Mem × Int32 → Prop), (okA a b c = false → P (mset ν a0 6 (nI 2), 0)) → (okA a b c = true → ¬ q < 8 → P (mset ν a0 6 (nI 3), 0)) → (okA a b c = true → q < 8 → P (mset (mset (mset (mset ν (a0 + 1) (82 + 147 * e + (23 + 3 * q + 0)) a) (a0 + 1) (82 + 147 * e + (23 + 3 * q + 1)) b) (a0 + 1) (82 + 147 * e + (23 + 3 * q + 2)) c) (a0 + 1) (82 + 147 * e + 5) (nI (q + 1)), nI (q + 1))) → Ok (fX11_doAsk N ν a0 (nI e) a b c) P := fun P p1 p2 p3 => by
      rw [okA_m] at p1 p2 p3
      unfold fX11_doAsk
      rw [m_isExhibit z1 h5, bS, hx]
      refine ok_cdT rfl ?_
      rw [k_inE, bS]
      refine ok_jn1 (fun _ : Unit => (decide (0 ≤ a ∧ a ≤ 99) && (decide (a ≤ b ∧ b ≤ 99) && decide (1 ≤ c ∧ c ≤ 99))) = false) (fun _ hz => ok_some (p1 hz)) (fun j5 hj5 => ?_)
      cases h1 : decide (0 ≤ a ∧ a ≤ 99)
      · exact hj5 () (by rw [h1]; rfl)
      · refine ok_cdT rfl ?_
        rw [k_inE, bS]
        cases h2 : decide (a ≤ b ∧ b ≤ 99)
        · exact hj5 () (by rw [h1, h2]; rfl)
        · refine ok_cdT rfl ?_
          rw [k_inE, bS]
          cases h3 : decide (1 ≤ c ∧ c ≤ 99)
          · exact hj5 () (by rw [h1, h2, h3]; rfl)
          · rw [h1, h2, h3] at p2 p3
            refine ok_cdT rfl ?_
            refine ok_bindE (m_of e 5 (by omega) (by decide) rfl rfl) ?_
            rw [hM.1]
            refine ok_eqI q 8 (f := fun z => ok_some (p2 rfl (by omega))) (g := fun z => ?_)
            refine ok_bindE (m_sets e (23 + 3 * q + 0) (by omega) (by omega) rfl i230) ?_
            refine ok_bindE (m_sets e (23 + 3 * q + 1) (by omega) (by omega) rfl (i23 (w := 1))) ?_
            refine ok_bindE (m_sets e (23 + 3 * q + 2) (by omega) (by omega) rfl (i23 (w := 2))) ?_
            refine ok_bindE (m_sets e 5 (by omega) (by decide) rfl rfl) ?_
            refine ok_some ?_
            rw [nI_1]
            exact p3 rfl (by omega)
    cases hd : okA a b c
    · rw [hd] at e1
      obtain ⟨s, er1, er2⟩ := e2 (fun s => s = (mset ν a0 6 (nI 2), 0)) (fun _ => rfl) (fun z => by rw [hd] at z; cases z) (fun z => by rw [hd] at z; cases z)
      exact Or.inl ⟨2, 1, e1, by decide, by decide, by decide, rfl, by show fX11_doAsk N ν a0 (nI e) a b c = _; rw [er1, er2]⟩
    · rw [hd] at e1
      by_cases hq8 : q < 8
      · rw [if_pos hq8] at e1
        refine Or.inr ⟨e1, ?_⟩
        obtain ⟨i, j, f, hij, hj, hf, rfl, rfl, rfl⟩ := okA_t hd
        refine ok_ar e rfl (by omega) (by decide) ?_
        unfold fX1_noteLoan
        rw [hL.1]
        refine ok_aw q rfl hq8 (by decide) ?_
        rw [mset_ne _ _ _ _ (by omega), hL.1]
        refine ok_aw q rfl hq8 (by decide) ?_
        rw [mset_ne _ _ _ _ (by omega), mset_ne _ _ _ _ (by omega), hL.1]
        refine ok_aw q rfl hq8 (by decide) ?_
        refine ok_lt (ok_some ?_)
        rw [mset_ne _ _ _ _ (by omega), mset_ne _ _ _ _ (by omega), mset_ne _ _ _ _ (by omega), hL.1, nI_1]
        refine e2 _ (fun z => by rw [hd] at z; cases z) (fun _ z => absurd hq8 z) (fun _ _ => ?_)
        have hup := ex_upL (μ' := mset (mset (mset (mset μ (1 + 16 + 1 + 6 * e + 2) q (nI i)) (1 + 16 + 1 + 6 * e + 3) q (nI j)) (1 + 16 + 1 + 6 * e + 4) q (nI f)) (1 + 16 + 1 + 6 * e) 6 (nI (q + 1))) (ν' := mset (mset (mset (mset ν (a0 + 1) (82 + 147 * e + (23 + 3 * q + 0)) (nI i)) (a0 + 1) (82 + 147 * e + (23 + 3 * q + 1)) (nI j)) (a0 + 1) (82 + 147 * e + (23 + 3 * q + 2)) (nI f)) (a0 + 1) (82 + 147 * e + 5) (nI (q + 1))) (q' := q + 1) (fi' := updN fi q i) (la' := updN la q j) (fe' := updN fe q f) (le' := le) (x6 := ν (a0 + 1) (82 + 147 * e + 6)) hRC hs he hX ⟨by omega, fun k hk => ?_, hl.2.2⟩ (fun q' g1 g2 g3 g4 => by
            rw [mset_ne _ _ _ _ g3, mset_ne _ _ _ _ (by omega), mset_ne _ _ _ _ (by omega), mset_ne _ _ _ _ (by omega)]) (fun k g1 g2 => by
            rw [mset_sl _ _ _ _ g1, mset_ne _ _ _ _ (by omega), mset_ne _ _ _ _ (by omega), mset_ne _ _ _ _ (by omega)]) (mset_at _ _ _ _) (by
            rw [mset_sl _ _ _ _ (by decide), mset_ne _ _ _ _ (by omega), mset_ne _ _ _ _ (by omega), mset_ne _ _ _ _ (by omega)]; exact hE.1.2.2.2.2.2.2) (fun k hk => ?_) (hL.2.2.2.2.mv (by
            rw [mset_ne _ _ _ _ (by omega), mset_ne _ _ _ _ (by omega), mset_ne _ _ _ _ (by omega), mset_ne _ _ _ _ (by omega)])) (fun k g => by
            rw [mset_sl _ _ _ _ (g 5 (by omega) (by omega)), mset_sl _ _ _ _ (g _ (by omega) (by omega)), mset_sl _ _ _ _ (g _ (by omega) (by omega)), mset_sl _ _ _ _ (g _ (by omega) (by omega))]) (mset_at _ _ _ _) (by
            rw [mset_sl _ _ _ _ (by omega), mset_sl _ _ _ _ (by omega), mset_sl _ _ _ _ (by omega), mset_sl _ _ _ _ (by omega)]) (fun k hk => ?_) (fun d hd => by
            rw [mset_sl _ _ _ _ (by omega), mset_sl _ _ _ _ (by omega), mset_sl _ _ _ _ (by omega), mset_sl _ _ _ _ (by omega)]; exact hM.2.2 d hd)
        · refine ⟨hup.1, ⟨_, _, _, _, hup.2⟩, ?_, ?_, ?_, ?_, fun k _ => ?_⟩
          · dsimp only
            rw [mset_at]
          · exact frm.set (X := fun q => (1 ≤ q ∧ q < 48) ∨ (520 ≤ q ∧ q < 546)) (frm.set (X := fun q => (1 ≤ q ∧ q < 48) ∨ (520 ≤ q ∧ q < 546)) (frm.set (X := fun q => (1 ≤ q ∧ q < 48) ∨ (520 ≤ q ∧ q < 546)) (frm.set (X := fun q => (1 ≤ q ∧ q < 48) ∨ (520 ≤ q ∧ q < 546)) frm.rf (by omega) _ _) (by omega) _ _) (by omega) _ _) (by omega) _ _
          · dsimp only
            rw [mset_ne _ _ _ _ (by omega), mset_ne _ _ _ _ (by omega), mset_ne _ _ _ _ (by omega), mset_ne _ _ _ _ (by omega)]; exact h0
          · exact frm.set (X := fun q => q = a0 ∨ q = a0 + 1 ∨ (a0 + 5 ≤ q ∧ q ≤ a0 + 8)) (frm.set (X := fun q => q = a0 ∨ q = a0 + 1 ∨ (a0 + 5 ≤ q ∧ q ≤ a0 + 8)) (frm.set (X := fun q => q = a0 ∨ q = a0 + 1 ∨ (a0 + 5 ≤ q ∧ q ≤ a0 + 8)) (frm.set (X := fun q => q = a0 ∨ q = a0 + 1 ∨ (a0 + 5 ≤ q ∧ q ≤ a0 + 8)) frm.rf (by omega) _ _) (by omega) _ _) (by omega) _ _) (by omega) _ _
          · dsimp only
            rw [mset_ne _ _ _ _ (by omega), mset_ne _ _ _ _ (by omega), mset_ne _ _ _ _ (by omega), mset_ne _ _ _ _ (by omega)]
        · by_cases ck : k = q
          · subst ck
            rw [updN_at, updN_at, updN_at]
            exact ⟨hij, hj, hf⟩
          · rw [updN_ne _ _ _ ck, updN_ne _ _ _ ck, updN_ne _ _ _ ck]
            exact hl.2.1 k (by omega)
        · obtain ⟨k1, k2, k3⟩ := hE.2.2.1 k hk
          dsimp only [exY] at k1 k2 k3
          by_cases ck : k = q
          · subst ck
            refine ⟨?_, ?_, ?_⟩
            · rw [mset_ne _ _ _ _ (by omega), mset_ne _ _ _ _ (by omega), mset_ne _ _ _ _ (by omega), mset_at, mset_sl _ _ _ _ (by omega), mset_sl _ _ _ _ (by omega), mset_sl _ _ _ _ (by omega), mset_at]
            · rw [mset_ne _ _ _ _ (by omega), mset_ne _ _ _ _ (by omega), mset_at, mset_sl _ _ _ _ (by omega), mset_sl _ _ _ _ (by omega), mset_at]
            · rw [mset_ne _ _ _ _ (by omega), mset_at, mset_sl _ _ _ _ (by omega), mset_at]
          · refine ⟨?_, ?_, ?_⟩
            · rw [mset_ne _ _ _ _ (by omega), mset_ne _ _ _ _ (by omega), mset_ne _ _ _ _ (by omega), mset_sl _ _ _ _ ck, mset_sl _ _ _ _ (by omega), mset_sl _ _ _ _ (by omega), mset_sl _ _ _ _ (by omega), mset_sl _ _ _ _ (by omega)]; exact k1
            · rw [mset_ne _ _ _ _ (by omega), mset_ne _ _ _ _ (by omega), mset_sl _ _ _ _ ck, mset_ne _ _ _ _ (by omega), mset_sl _ _ _ _ (by omega), mset_sl _ _ _ _ (by omega), mset_sl _ _ _ _ (by omega), mset_sl _ _ _ _ (by omega)]; exact k2
            · rw [mset_ne _ _ _ _ (by omega), mset_sl _ _ _ _ ck, mset_ne _ _ _ _ (by omega), mset_ne _ _ _ _ (by omega), mset_sl _ _ _ _ (by omega), mset_sl _ _ _ _ (by omega), mset_sl _ _ _ _ (by omega), mset_sl _ _ _ _ (by omega)]; exact k3
        · by_cases ck : k = q
          · subst ck
            rw [updN_at, updN_at, updN_at]
            refine ⟨?_, ?_, ?_⟩
            · rw [mset_sl _ _ _ _ (by omega), mset_sl _ _ _ _ (by omega), mset_sl _ _ _ _ (by omega), mset_at]
            · rw [mset_sl _ _ _ _ (by omega), mset_sl _ _ _ _ (by omega), mset_at]
            · rw [mset_sl _ _ _ _ (by omega), mset_at]
          · rw [updN_ne _ _ _ ck, updN_ne _ _ _ ck, updN_ne _ _ _ ck]
            obtain ⟨k1, k2, k3⟩ := hM.2.1 k (by omega)
            refine ⟨?_, ?_, ?_⟩
            · rw [mset_sl _ _ _ _ (by omega), mset_sl _ _ _ _ (by omega), mset_sl _ _ _ _ (by omega), mset_sl _ _ _ _ (by omega)]; exact k1
            · rw [mset_sl _ _ _ _ (by omega), mset_sl _ _ _ _ (by omega), mset_sl _ _ _ _ (by omega), mset_sl _ _ _ _ (by omega)]; exact k2
            · rw [mset_sl _ _ _ _ (by omega), mset_sl _ _ _ _ (by omega), mset_sl _ _ _ _ (by omega), mset_sl _ _ _ _ (by omega)]; exact k3
      · rw [if_neg hq8] at e1
        obtain ⟨s, er1, er2⟩ := e2 (fun s => s = (mset ν a0 6 (nI 3), 0)) (fun z => by rw [hd] at z; cases z) (fun _ _ => rfl) (fun _ z => absurd z hq8)
        exact Or.inl ⟨3, 2, e1, by decide, by decide, by decide, rfl, by show fX11_doAsk N ν a0 (nI e) a b c = _; rw [er1, er2]⟩
theorem o_ask {x a b c : Int32} (hN : 200 ≤ N) (h : RR μ ν a0 t) : Ok (fX10_ask N μ 0 x a b c) (fun r => Ok (fX11_ask N ν a0 x a b c) (fun r' => RR r.1 r'.1 a0 t ∧ Sm [0, 1, 2] r.2 r'.1 a0 r'.2)) := by
  have hop := op_chg (N := N) (L := [0, 1, 2]) (fault := fun q => fX10_askFault N q 0 x a b c) (deed := fun m => ar 5 x fun q7 => fX1_noteLoan N m (1 + 16 + 1 + 6 * q7) a b c) (dom := fun q => fX11_doAsk N q a0 x a b c) (by omega) h (fun q hq => cmd_ask hN hq)
  obtain ⟨r, er, hr⟩ := hop
  refine ⟨r, ?_, hr⟩
  rw [← er]
  unfold fX10_ask
  simp only [← ar_bind]
end CK
