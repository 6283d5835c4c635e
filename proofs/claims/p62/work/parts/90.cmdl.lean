/-! Pure layer, 30: legs. -/
theorem leg_sum {G : Nat → Nat → Nat} (hs : ∀ a b, G a b = G b a) (h0 : ∀ a, G a a = 0) : sm 36 (fun k => G (k / 6) (k % 6)) = 2 * sm 6 (fun a => sm a (fun b => G a b)) := by
  simp [sm]
  have e1 := hs 1 0
  have e2 := hs 2 0
  have e3 := hs 2 1
  have e4 := hs 3 0
  have e5 := hs 3 1
  have e6 := hs 3 2
  have e7 := hs 4 0
  have e8 := hs 4 1
  have e9 := hs 4 2
  have e10 := hs 4 3
  have e11 := hs 5 0
  have e12 := hs 5 1
  have e13 := hs 5 2
  have e14 := hs 5 3
  have e15 := hs 5 4
  have z0 := h0 0
  have z1 := h0 1
  have z2 := h0 2
  have z3 := h0 3
  have z4 := h0 4
  have z5 := h0 5
  omega
theorem sm_cut {f : Nat → Nat} {n : Nat} : ∀ m, n ≤ m → (∀ a, n ≤ a → a < m → f a = 0) → sm m f = sm n f
  | 0, h, _ => by rw [show n = 0 by omega]
  | m + 1, h, hz => by
    by_cases e : n = m + 1
    · rw [e]
    · show sm m f + f m = _
      rw [sm_cut m (by omega) (fun a g1 g2 => hz a g1 (by omega)), hz m (by omega) (by omega)]; rfl
def lgG (mn : Nat → Nat → Nat) (a b : Nat) : Nat := (decide (0 < mn a b)).toNat
def legN (n : Nat) (mn : Nat → Nat → Nat) : Nat := sm n (fun a => sm a (fun b => lgG mn a b))
section CL
variable {N : Nat} {μ ν : Mem} {a0 n : Nat} {mn ht : Nat → Nat → Nat} {t : List Nat}
theorem legN_36 (hg : gOK n mn ht) : sm 36 (fun k => lgG mn (k / 6) (k % 6)) = 2 * legN n mn := by
  have h := leg_sum (G := lgG mn) (fun a b => by unfold lgG; rw [(hg.2 a b).2.2.1]) (fun a => by
    unfold lgG
    rw [decide_eq_false (fun z => ((hg.2 a a).2.2.2.2 z).2.2 rfl)]; rfl)
  rw [h]
  unfold legN
  rw [sm_cut 6 hg.1 (fun a g1 g2 => by
    rw [sm_cg a (g := fun _ => 0) (fun b hb => by
      unfold lgG
      rw [decide_eq_false (fun z => by have := (hg.2 a b).2.2.2.2 z; omega)]; rfl), sm_z])]
theorem legN_le (hg : gOK n mn ht) : legN n mn ≤ 18 := by
  have h := legN_36 hg
  have h2 : sm 36 (fun k => lgG mn (k / 6) (k % 6)) ≤ 1 * 36 := sm_b 36 (fun k _ => toNat_le1 _)
  omega
theorem k_countLegs (hN : 20 ≤ N) (hg : gOK n mn ht) (h : cG μ 1 n mn ht) : Ok (fX8_countLegs N μ 1) (fun r => r = nI (legN n mn)) := by
  have hn := hg.1
  unfold fX8_countLegs
  refine ok_fix2 (fun k x y => ∃ i, i + k = n ∧ x = nI (sm i (fun a => sm a (fun b => lgG mn a b))) ∧ y = nI i) ?_ N n _ _ (by omega) ⟨0, by omega, rfl, rfl⟩
  rintro k self x y ⟨i, hi, rfl, rfl⟩ hs
  rw [h.1]
  refine ok_le n i (f := fun hc => ?_) (g := fun hc => ?_)
  · exact ok_some (by rw [show i = n by omega]; rfl)
  · refine ok_fix2 (fun k2 x y => ∃ j, j + k2 = i ∧ x = nI (sm i (fun a => sm a (fun b => lgG mn a b)) + sm j (fun b => lgG mn i b)) ∧ y = nI j) ?_ N i _ _ (by omega) ⟨0, by omega, rfl, rfl⟩
    rintro k2 self2 x y ⟨j, hj, rfl, rfl⟩ hs2
    refine ok_le i j (f := fun hc2 => ?_) (g := fun hc2 => ?_)
    · refine ok_lt ?_
      refine hs (k - 1) _ _ (by omega) ⟨i + 1, by omega, ?_, nI_1 _⟩
      rw [show j = i by omega]; rfl
    · refine ok_bindE (k_joins hg h (by omega) (by omega)) ?_
      have e : sm (j + 1) (fun b => lgG mn i b) = sm j (fun b => lgG mn i b) + lgG mn i j := rfl
      refine ok_jn ?_
      refine ok_cd (fun hz => ?_) (fun hz => ?_)
      · refine ok_lt (ok_lt ?_)
        refine hs2 (k2 - 1) _ _ (by omega) ⟨j + 1, by omega, ?_, nI_1 _⟩
        rw [e, nI_1]
        unfold lgG
        rw [hz]; rfl
      · refine ok_lt ?_
        refine hs2 (k2 - 1) _ _ (by omega) ⟨j + 1, by omega, ?_, nI_1 _⟩
        rw [e]
        unfold lgG
        rw [hz]; rfl
theorem i10 {a b : Nat} : (10 : Int32) + 6 * nI a + nI b = nI (10 + 6 * a + b) := by
  rw [show (10 : Int32) = nI 10 from rfl, show (6 : Int32) = nI 6 from rfl, pk_mul, nI_add, nI_add]
theorem i46 {a b : Nat} : (46 : Int32) + 6 * nI a + nI b = nI (46 + 6 * a + b) := by
  rw [show (46 : Int32) = nI 46 from rfl, show (6 : Int32) = nI 6 from rfl, pk_mul, nI_add, nI_add]
/-- a pair of numbers put into both places of a table -/
def put2 (T : Nat → Nat → Nat) (a b v : Nat) : Nat → Nat → Nat := fun x y => if (x = a ∧ y = b) ∨ (x = b ∧ y = a) then v else T x y
theorem gOK_put {a b m w : Nat} (hg : gOK n mn ht) (ha : a < n) (hb : b < n) (hab : a ≠ b) (hm : m ≤ 99) (hw : w ≤ 9) : gOK n (put2 mn a b m) (put2 ht a b w) := by
  refine ⟨hg.1, fun x y => ?_⟩
  obtain ⟨q1, q2, q3, q4, q5⟩ := hg.2 x y
  unfold put2
  by_cases c : (x = a ∧ y = b) ∨ (x = b ∧ y = a)
  · rw [if_pos c, if_pos c, if_pos (by omega), if_pos (by omega)]
    exact ⟨hm, hw, rfl, rfl, fun _ => by omega⟩
  · rw [if_neg c, if_neg c, if_neg (by omega), if_neg (by omega)]
    exact ⟨q1, q2, q3, q4, q5⟩
/-- laying a leg, on both sides -/
theorem layBoth {a b m w ec : Nat} (hN : 50 ≤ N) (h : RC μ 1 (ν (a0 + 1))) (hs : SIp (ν (a0 + 1)) n ec mn ht) (h0 : μ (543 + 2) 0 = 0) (ha : a < n) (hb : b < n) (hab : a ≠ b) (hm : m ≤ 99) (hw : w ≤ 9) : Ok (fX8_putLeg N μ 1 (nI a) (nI b) (nI m) (nI w)) (fun r => Ok (fX11_lays N ν a0 (nI a) (nI b) (nI m) (nI w)) (fun r' => DP μ ν a0 r r')) := by
  have hn := hs.2.1.1
  have hg' := gOK_put hs.2.1 ha hb hab hm hw
  obtain ⟨⟨⟨a1, a2, a3, a4⟩, bw, cm, ch⟩, eE⟩ := h
  obtain ⟨s1, s2, s3, s4, s5, s6, s7, s8⟩ := hs
  have hle := legN_le hg'
  let μ' : Mem := mset (mset (mset (mset μ (1 + 2 + 1 + 1 * a) b (nI m)) (1 + 2 + 1 + 1 * b) a (nI m)) (1 + 9 + 1 + 1 * a) b (nI w)) (1 + 9 + 1 + 1 * b) a (nI w)
  let ν' : Mem := mset (mset (mset (mset ν (a0 + 1) (10 + 6 * a + b) (nI m)) (a0 + 1) (10 + 6 * b + a) (nI m)) (a0 + 1) (46 + 6 * a + b) (nI w)) (a0 + 1) (46 + 6 * b + a) (nI w)
  have nz : ∀ j, (∀ x y, x < 6 → y < 6 → j ≠ 10 + 6 * x + y ∧ j ≠ 46 + 6 * x + y) → ν' (a0 + 1) j = ν (a0 + 1) j := fun j hj => by
    have j1 := hj a b (by omega) (by omega)
    have j2 := hj b a (by omega) (by omega)
    show mset _ _ _ _ _ _ = _
    rw [mset_sl _ _ _ _ j2.2, mset_sl _ _ _ _ j1.2, mset_sl _ _ _ _ j2.1, mset_sl _ _ _ _ j1.1]
  have nm : ∀ x, x < 6 → ∀ y, y < 6 → ν' (a0 + 1) (10 + 6 * x + y) = nI (put2 mn a b m x y) := fun x hx y hy => by
    show mset _ _ _ _ _ _ = _
    rw [mset_sl _ _ _ _ (by omega), mset_sl _ _ _ _ (by omega), mset_if, mset_if]
    unfold put2
    by_cases c1 : x = b ∧ y = a
    · rw [if_pos (by omega), if_pos (Or.inr c1)]
    · by_cases c2 : x = a ∧ y = b
      · rw [if_neg (by omega), if_pos (by omega), if_pos (Or.inl c2)]
      · rw [if_neg (by omega), if_neg (by omega), if_neg (by omega)]; exact (s3 x hx y hy).1
  have nh : ∀ x, x < 6 → ∀ y, y < 6 → ν' (a0 + 1) (46 + 6 * x + y) = nI (put2 ht a b w x y) := fun x hx y hy => by
    show mset _ _ _ _ _ _ = _
    rw [mset_if, mset_if, mset_sl _ _ _ _ (by omega), mset_sl _ _ _ _ (by omega)]
    unfold put2
    by_cases c1 : x = b ∧ y = a
    · rw [if_pos (by omega), if_pos (Or.inr c1)]
    · by_cases c2 : x = a ∧ y = b
      · rw [if_neg (by omega), if_pos (by omega), if_pos (Or.inl c2)]
      · rw [if_neg (by omega), if_neg (by omega), if_neg (by omega)]; exact (s3 x hx y hy).2
  have mm : ∀ x, x < 6 → ∀ y, y < 6 → μ' (1 + 2 + 1 + 1 * x) y = nI (put2 mn a b m x y) := fun x hx y hy => by
    show mset _ _ _ _ _ _ = _
    rw [mset_ne _ _ _ _ (by omega), mset_ne _ _ _ _ (by omega), mset_el, mset_el]
    unfold put2
    by_cases c1 : x = b ∧ y = a
    · rw [if_pos (by omega), if_pos (Or.inr c1)]
    · by_cases c2 : x = a ∧ y = b
      · rw [if_neg (by omega), if_pos (by omega), if_pos (Or.inl c2)]
      · rw [if_neg (by omega), if_neg (by omega), if_neg (by omega), cm x hx y hy]; exact (s3 x hx y hy).1
  have mh : ∀ x, x < 6 → ∀ y, y < 6 → μ' (1 + 9 + 1 + 1 * x) y = nI (put2 ht a b w x y) := fun x hx y hy => by
    show mset _ _ _ _ _ _ = _
    rw [mset_el, mset_el, mset_ne _ _ _ _ (by omega), mset_ne _ _ _ _ (by omega)]
    unfold put2
    by_cases c1 : x = b ∧ y = a
    · rw [if_pos (by omega), if_pos (Or.inr c1)]
    · by_cases c2 : x = a ∧ y = b
      · rw [if_neg (by omega), if_pos (by omega), if_pos (Or.inl c2)]
      · rw [if_neg (by omega), if_neg (by omega), if_neg (by omega), ch x hx y hy]; exact (s3 x hx y hy).2
  have mo : ∀ q, (q < 4 ∨ 17 ≤ q ∨ q = 10) → μ' q = μ q := fun q hq => by
    show mset _ _ _ _ _ = _
    rw [mset_ne _ _ _ _ (by omega), mset_ne _ _ _ _ (by omega), mset_ne _ _ _ _ (by omega), mset_ne _ _ _ _ (by omega)]
  have hGμ : cG μ' 1 n (put2 mn a b m) (put2 ht a b w) := ⟨by rw [mo 1 (by omega)]; exact a1.trans s1, mm, mh⟩
  unfold fX8_putLeg
  refine ok_ar a rfl (by omega) (by decide) ?_
  refine ok_aw b rfl (by omega) (by decide) ?_
  refine ok_ar b rfl (by omega) (by decide) ?_
  refine ok_aw a rfl (by omega) (by decide) ?_
  refine ok_ar a rfl (by omega) (by decide) ?_
  refine ok_aw b rfl (by omega) (by decide) ?_
  refine ok_ar b rfl (by omega) (by decide) ?_
  refine ok_aw a rfl (by omega) (by decide) ?_
  refine ok_bind (k_countLegs (μ := μ') (by omega) hg' hGμ) ?_
  rintro _ rfl
  refine ok_some ?_
  unfold fX11_lays
  refine ok_aw (10 + 6 * a + b) i10 (by omega) (by decide) ?_
  refine ok_aw (10 + 6 * b + a) i10 (by omega) (by decide) ?_
  refine ok_aw (46 + 6 * a + b) i46 (by omega) (by decide) ?_
  refine ok_aw (46 + 6 * b + a) i46 (by omega) (by decide) ?_
  refine ok_fix2 (fun k x y => ∃ i, i + k = 36 ∧ x = nI (sm i (fun k => lgG (put2 mn a b m) (k / 6) (k % 6))) ∧ y = nI i) ?_ N 36 _ _ (by omega) ⟨0, rfl, rfl, rfl⟩
  rintro k self x y ⟨i, hi, rfl, rfl⟩ hsf
  refine ok_le 36 i (f := fun hc => ?_) (g := fun hc => ?_)
  · have : i = 36 := by omega
    subst this
    refine ok_some ⟨⟨⟨⟨?_, ?_, ?_, ?_⟩, fun r hr => ?_, fun x hx y hy => ?_, fun x hx y hy => ?_⟩, fun x hx => (eE x hx).mv (fun q g1 g2 => mo q (by omega)) (fun v hv => nz _ (fun _ _ _ _ => by omega))⟩, ⟨n, ec, _, _, ?_, hg', fun x hx y hy => ⟨nm x hx y hy, nh x hx y hy⟩, fun r hr => ?_, ?_, s6, fun e he => ?_, fun e g1 g2 v hv => ?_⟩, ?_, ?_, ?_, ?_, ?_⟩
    · show μ' 1 0 = ν' (a0 + 1) 0
      rw [mo 1 (by omega), nz 0 (fun _ _ _ _ => by omega), a1]
    · show μ' 1 4 = ν' (a0 + 1) 1
      rw [mo 1 (by omega), nz 1 (fun _ _ _ _ => by omega), a2]
    · show μ' 1 6 = ν' (a0 + 1) 2
      rw [mo 1 (by omega), nz 2 (fun _ _ _ _ => by omega), a3]
    · show μ' 1 7 = ν' (a0 + 1) 3
      rw [mo 1 (by omega), nz 3 (fun _ _ _ _ => by omega), a4]
    · show μ' (1 + 1) r = ν' (a0 + 1) (4 + r)
      rw [mo (1 + 1) (by omega), nz (4 + r) (fun _ _ _ _ => by omega), bw r hr]
    · show μ' _ y = ν' _ _
      rw [mm x hx y hy, nm x hx y hy]
    · show μ' _ y = ν' _ _
      rw [mh x hx y hy, nh x hx y hy]
    · show ν' _ 0 = _
      rw [nz 0 (fun _ _ _ _ => by omega)]; exact s1
    · obtain ⟨v, hv, e4⟩ := s4 r hr
      exact ⟨v, hv, by show ν' _ _ = _; rw [nz (4 + r) (fun _ _ _ _ => by omega)]; exact e4⟩
    · show ν' _ 1 = _
      rw [nz 1 (fun _ _ _ _ => by omega)]; exact s5
    · obtain ⟨r, l, p, q, fi, la, fe, le, hX⟩ := s7 e he
      exact ⟨r, l, p, q, fi, la, fe, le, hX.cg (fun v hv => nz _ (fun _ _ _ _ => by omega))⟩
    · show ν' _ _ = 0
      rw [nz _ (fun _ _ _ _ => by omega)]; exact s8 e g1 g2 v hv
    · show nI (sm 36 (fun k => lgG (put2 mn a b m) (k / 6) (k % 6))) / 2 = nI (legN n (put2 mn a b m))
      rw [legN_36 hg', show (2 : Int32) = nI 2 from rfl, pk_div (by omega) (by decide) (by decide), Nat.mul_div_cancel_left _ (by decide)]
    · exact frm.set (X := fun q => (1 ≤ q ∧ q < 48) ∨ (520 ≤ q ∧ q < 546)) (frm.set (X := fun q => (1 ≤ q ∧ q < 48) ∨ (520 ≤ q ∧ q < 546)) (frm.set (X := fun q => (1 ≤ q ∧ q < 48) ∨ (520 ≤ q ∧ q < 546)) (frm.set (X := fun q => (1 ≤ q ∧ q < 48) ∨ (520 ≤ q ∧ q < 546)) frm.rf (by omega) _ _) (by omega) _ _) (by omega) _ _) (by omega) _ _
    · show μ' (543 + 2) 0 = 0
      rw [mo _ (by omega)]; exact h0
    · exact frm.set (X := fun q => q = a0 ∨ q = a0 + 1 ∨ (a0 + 5 ≤ q ∧ q ≤ a0 + 8)) (frm.set (X := fun q => q = a0 ∨ q = a0 + 1 ∨ (a0 + 5 ≤ q ∧ q ≤ a0 + 8)) (frm.set (X := fun q => q = a0 ∨ q = a0 + 1 ∨ (a0 + 5 ≤ q ∧ q ≤ a0 + 8)) (frm.set (X := fun q => q = a0 ∨ q = a0 + 1 ∨ (a0 + 5 ≤ q ∧ q ≤ a0 + 8)) frm.rf (by omega) _ _) (by omega) _ _) (by omega) _ _) (by omega) _ _
    · intro j _
      show ν' a0 j = _
      show mset _ _ _ _ _ _ = _
      rw [mset_ne _ _ _ _ (by omega), mset_ne _ _ _ _ (by omega), mset_ne _ _ _ _ (by omega), mset_ne _ _ _ _ (by omega)]
  · refine ok_ag (10 + i) (nI_add 10 i) (by omega) (by decide) ?_
    have e1 : ν' (a0 + 1) (10 + i) = nI (put2 mn a b m (i / 6) (i % 6)) := by
      have := nm (i / 6) (by omega) (i % 6) (by omega)
      rw [show 10 + 6 * (i / 6) + i % 6 = 10 + i by omega] at this
      exact this
    have hmb := (hg'.2 (i / 6) (i % 6)).1
    rw [show mset (mset (mset (mset ν (a0 + 1) (10 + 6 * a + b) (nI m)) (a0 + 1) (10 + 6 * b + a) (nI m)) (a0 + 1) (46 + 6 * a + b) (nI w)) (a0 + 1) (46 + 6 * b + a) (nI w) (a0 + 1) (10 + i) = nI (put2 mn a b m (i / 6) (i % 6)) from e1]
    have e : sm (i + 1) (fun k => lgG (put2 mn a b m) (k / 6) (k % 6)) = sm i (fun k => lgG (put2 mn a b m) (k / 6) (k % 6)) + lgG (put2 mn a b m) (i / 6) (i % 6) := rfl
    refine ok_jn1 (fun y : Bool => y = decide (0 < put2 mn a b m (i / 6) (i % 6))) (fun y hy => ?_) (fun j hj => ?_)
    · subst hy
      refine ok_lt (ok_lt ?_)
      exact hsf (k - 1) _ _ (by omega) ⟨i + 1, by omega, by rw [b2i_nI, nI_add, e]; rfl, nI_1 _⟩
    · exact ok_le (put2 mn a b m (i / 6) (i % 6)) 0 (f := fun hz => hj _ (decide_eq_false (by omega)).symm) (g := fun hz => hj _ (decide_eq_true hz).symm)
def okL (x y m w : Int32) : Bool := !decide (x = y) && (decide (1 ≤ m ∧ m ≤ 99) && decide (0 ≤ w ∧ w ≤ 9))
theorem legF {x y m w : Int32} (h : μ 1 0 = nI n) (hn : n ≤ 6) : fX10_legFault N μ 0 x y m w = some (if (idx n x && idx n y) = true then (if okL x y m w = true then 0 else 2) else 1) := by
  have key : Ok (fX10_legFault N μ 0 x y m w) (fun r => r = if (idx n x && idx n y) = true then (if okL x y m w = true then 0 else 2) else 1) := by
    unfold fX10_legFault okL
    refine ok_bindE (k_pairFault h hn) ?_
    cases (idx n x && idx n y)
    · exact ok_ifF (by decide) (ok_some rfl)
    · refine ok_ifT rfl (ok_jn ?_)
      refine ok_if (fun hxy => ok_some (by rw [decide_eq_true hxy]; rfl)) (fun hxy => ?_)
      rw [decide_eq_false hxy]
      refine ok_bindE k_isFrom ?_
      cases decide (1 ≤ m ∧ m ≤ 99)
      · exact ok_some rfl
      · refine ok_cdT rfl ?_
        refine ok_bindE digF ?_
        cases decide (0 ≤ w ∧ w ≤ 9) <;> exact ok_some rfl
  obtain ⟨r, e, h⟩ := key
  rw [e, h]
theorem cmd_leg {x y m w : Int32} (hN : 50 ≤ N) (h : ST μ ν a0) : CMD [0, 1] a0 (fun q => fX10_legFault N q 0 x y m w) (fun q => fX8_putLeg N q 1 x y m w) (fun q => fX11_doSetLeg N q a0 x y m w) μ ν := by
  obtain ⟨hRC, ⟨n, ec, mn, ht, hs⟩, h0⟩ := h
  have hn := hs.2.1.1
  have e1 := legF (N := N) (x := x) (y := y) (m := m) (w := w) (hRC.1.1.1.trans hs.1) hn
  have e2 : ∀ (P : Mem × Int32 → Prop), ((idx n x && idx n y) = false → P (mset ν a0 6 (nI 1), 0)) → ((idx n x && idx n y) = true → okL x y m w = false → P (mset ν a0 6 (nI 2), 0)) → ((idx n x && idx n y) = true → okL x y m w = true → Ok (fX11_lays N ν a0 x y m w) P) → Ok (fX11_doSetLeg N ν a0 x y m w) P := fun P p1 p2 p3 => by
    unfold fX11_doSetLeg
    rw [m_isRoom hs.1 hn, bS]
    refine ok_jn1 (fun _ : Unit => (idx n x && idx n y) = false) (fun _ hz => ok_some (p1 hz)) (fun j3 hj3 => ?_)
    refine ok_cd (fun hx => ?_) (fun hx => hj3 () (by rw [hx]; rfl))
    rw [m_isRoom hs.1 hn, bS]
    refine ok_cd (fun hy => ?_) (fun hy => hj3 () (by rw [hx, hy]; rfl))
    have hxy : (idx n x && idx n y) = true := by rw [hx, hy]; rfl
    refine ok_jn1 (fun _ : Unit => okL x y m w = false) (fun _ hz => ok_some (p2 hxy hz)) (fun j11 hj11 => ?_)
    refine ok_if (fun he => hj11 () (by unfold okL; rw [decide_eq_true he]; rfl)) (fun he => ?_)
    rw [k_inE, bS]
    refine ok_cd (fun hm => ?_) (fun hm => hj11 () (by unfold okL; rw [hm, Bool.false_and, Bool.and_false]))
    rw [k_inE, bS]
    refine ok_cd (fun hw => ?_) (fun hw => hj11 () (by unfold okL; rw [hw, Bool.and_false, Bool.and_false]))
    have hok : okL x y m w = true := by unfold okL; rw [hm, hw, decide_eq_false he]; rfl
    obtain ⟨r, er, hr⟩ := p3 hxy hok
    rw [er, bS]
    exact ok_some hr
  cases hxy : (idx n x && idx n y)
  · rw [hxy] at e1
    obtain ⟨r, er1, er2⟩ := e2 (fun r => r = (mset ν a0 6 (nI 1), 0)) (fun _ => rfl) (fun z => by rw [hxy] at z; cases z) (fun z => by rw [hxy] at z; cases z)
    exact Or.inl ⟨1, 0, e1, by decide, by decide, by decide, rfl, by show fX11_doSetLeg N ν a0 x y m w = _; rw [er1, er2]⟩
  · rw [hxy] at e1
    cases hok : okL x y m w
    · rw [hok] at e1
      obtain ⟨r, er1, er2⟩ := e2 (fun r => r = (mset ν a0 6 (nI 2), 0)) (fun z => by rw [hxy] at z; cases z) (fun _ _ => rfl) (fun _ z => by rw [hok] at z; cases z)
      exact Or.inl ⟨2, 1, e1, by decide, by decide, by decide, rfl, by show fX11_doSetLeg N ν a0 x y m w = _; rw [er1, er2]⟩
    · rw [hok] at e1
      rw [Bool.and_eq_true] at hxy
      obtain ⟨a, ha, rfl⟩ := idx_t.mp hxy.1
      obtain ⟨b, hb, rfl⟩ := idx_t.mp hxy.2
      have hok2 := hok
      unfold okL at hok2
      rw [Bool.and_eq_true, Bool.and_eq_true] at hok2
      obtain ⟨m', -, hm, rfl⟩ := dec_of (lo := 1) (hi := 99) (by decide) (by decide) hok2.2.1
      obtain ⟨w', hw, rfl⟩ := dig_of hok2.2.2
      have hab : a ≠ b := fun e => by
        subst e
        have := hok2.1
        rw [decide_eq_true rfl] at this; cases this
      refine Or.inr ⟨e1, ?_⟩
      obtain ⟨r, er, hl⟩ := layBoth hN hRC hs h0 ha hb hab hm hw
      refine ⟨r, er, ?_⟩
      exact e2 _ (fun z => by rw [hxy.1, hxy.2] at z; cases z) (fun _ z => by rw [hok] at z; cases z) (fun _ _ => hl)
theorem o_setLeg {x y m w : Int32} (hN : 50 ≤ N) (h : RR μ ν a0 t) : Ok (fX10_setLeg N μ 0 x y m w) (fun r => Ok (fX11_setLeg N ν a0 x y m w) (fun r' => RR r.1 r'.1 a0 t ∧ Sm [0, 1] r.2 r'.1 a0 r'.2)) :=
  op_chg (fault := fun q => fX10_legFault N q 0 x y m w) (deed := fun q => fX8_putLeg N q 1 x y m w) (dom := fun q => fX11_doSetLeg N q a0 x y m w) (by omega) h (fun q hq => cmd_leg hN hq)
end CL
