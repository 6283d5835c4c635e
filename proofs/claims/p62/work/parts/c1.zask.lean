/-! Pure layer: what the class answers of a state: piles, loans, ways. -/
section PZt
variable {N : Nat} {μ μ' : Mem} {t : List Nat} {Z : Nat → Int32} {hs : List (Nat → Int32)}
/-- the answer for an exhibit, a question's way through 'existing' -/
theorem z_ex {A : Type} {x : Int32} {k : Mem → Nat → Option (Mem × (Nat ⊕ A))} {P : Mem × (Nat ⊕ A) → Prop} (h : PZ μ t Z hs) (h0 : idx (eZ Z) x = false → P (μ, .inl 0)) (h1 : ∀ e, e < eZ Z → e < 5 → x = nI e → idx (eZ Z) x = true → RE μ (1 + 16 + 1 + 6 * e) (exY Z e) → EXq (nZ Z) (exY Z e) (rZ Z e) (lZ Z e) (pZ Z e) (qZ Z e) (fiZ Z e) (laZ Z e) (feZ Z e) (leZ Z e) → Ok (k μ (1 + 16 + 1 + 6 * e)) P) : Ok (tb (fX10_existing N μ 0 x) k) P := by
  have hs9 := SIp_z h.si
  have h5 := hs9.2.2.2.2.2.1
  rcases k_existing (N := N) (x := x) (h.rc.1.1.2.1.trans hs9.2.2.2.2.1) h5 with ⟨hx, e1⟩ | ⟨e, he, rfl, hx, e1⟩ <;> rw [e1]
  · exact ok_tbL (e := 0) (μ := μ) rfl (h0 hx)
  · exact ok_tbR (a := 1 + 16 + 1 + 6 * e) (μ := μ) rfl (h1 e he (by omega) rfl hx (h.rc.2 e (by omega)) (SI_ex_z h.si he))
noncomputable abbrev aGrains (Z : Nat → Int32) (x : Int32) := aEx Z x (fun e => nI (grs (pZ Z e)))
theorem z_grains {x : Int32} (hN : 20 ≤ N) (h : PZ μ t Z hs) : Ok (fX10_grains N μ 0 x) (fun r => PZ r.1 t Z hs ∧ r.2 = aGrains Z x) := by
  unfold fX10_grains
  refine z_ex h (fun hx => ⟨h, (aEx_f hx).symm⟩) (fun e he h5 hx _ hE hX => ?_)
  refine ok_bind (k_countGrains (by omega) (cP_of hE hX)) ?_
  rintro _ rfl
  refine ok_some ⟨h, ?_⟩
  rw [hx]; unfold aGrains; rw [aEx_t he (SIp_z h.si).2.2.2.2.2.1]
noncomputable def aGrainsAt (Z : Nat → Int32) (x px py : Int32) : Nat ⊕ Int32 := if idx (eZ Z) x = true then (if (decide (0 ≤ px ∧ px ≤ 3) && decide (0 ≤ py ∧ py ≤ 3)) = true then .inr (nI (pZ Z (tn x) (4 * tn py + tn px))) else .inl 1) else .inl 0
theorem z_grainsAt {x px py : Int32} (h : PZ μ t Z hs) : Ok (fX10_grainsAt N μ 0 x px py) (fun r => PZ r.1 t Z hs ∧ r.2 = aGrainsAt Z x px py) := by
  unfold fX10_grainsAt aGrainsAt
  refine z_ex h (fun hx => ⟨h, by rw [if_neg (by rw [hx]; decide)]⟩) (fun e he h5 hx hi hE hX => ?_)
  rw [placeF, bS, if_pos hi]
  have hok : okD px py 1 = (decide (0 ≤ px ∧ px ≤ 3) && decide (0 ≤ py ∧ py ≤ 3)) := by
    unfold okD
    rw [show decide ((1 : Int32) ≤ 1 ∧ (1 : Int32) ≤ 40) = true by decide, Bool.and_true]
  rw [← hok]
  cases hd : okD px py 1
  · exact ok_tbL (e := 1) (μ := μ) rfl ⟨h, rfl⟩
  · obtain ⟨a, b, c, ha, hb, -, -, rfl, rfl, -⟩ := okD_t hd
    refine ok_tbR (a := ()) (μ := μ) rfl ?_
    refine ok_bindE rfl ?_
    refine ok_ag (4 * b + a) placeI (by omega) (by decide) ?_
    refine ok_some ⟨h, ?_⟩
    rw [if_pos rfl, hx, tn_nI (by omega), tn_nI (by omega), tn_nI (by omega)]
    exact congrArg Sum.inr (cP_of hE hX (4 * b + a) (by omega))
/-- how often a pile topples -/
noncomputable def tpN (q : Nat → Nat) : Nat := Classical.epsilon (fun n => ∃ l, legal l q ∧ stab (runT l q) ∧ l.length = n)
theorem tpN_eq {q : Nat → Nat} {l : List Nat} (h1 : legal l q) (h2 : stab (runT l q)) : tpN q = l.length := by
  obtain ⟨l2, g1, g2, g3⟩ := Classical.epsilon_spec (p := fun n => ∃ l, legal l q ∧ stab (runT l q) ∧ l.length = n) ⟨_, l, h1, h2, rfl⟩
  unfold tpN
  rw [← g3]
  exact abel_len g1 g2 h1 h2
noncomputable def aTop (Z : Nat → Int32) (x px py g : Int32) : Nat ⊕ Int32 := if idx (eZ Z) x = true then (if okD px py g = true then .inr (nI (tpN (updN (pZ Z (tn x)) (4 * tn py + tn px) (pZ Z (tn x) (4 * tn py + tn px) + tn g)))) else .inl 1) else .inl 0
theorem z_topplingsIf {x px py g : Int32} (hN : 20000 ≤ N) (h : PZ μ t Z hs) : Ok (fX10_topplingsIf N μ 0 x px py g) (fun r => PZ r.1 t Z hs ∧ r.2 = aTop Z x px py g) := by
  have hs9 := SIp_z h.si
  have h5 := hs9.2.2.2.2.2.1
  unfold fX10_topplingsIf aTop
  rw [dropF (h.rc.1.1.2.1.trans hs9.2.2.2.2.1) h5, bS]
  cases hx : idx (eZ Z) x
  · exact ok_tbL (e := 0) (μ := μ) rfl ⟨h, rfl⟩
  · obtain ⟨e, he, rfl⟩ := idx_t.mp hx
    cases hd : okD px py g
    · exact ok_tbL (e := 1) (μ := μ) rfl ⟨h, rfl⟩
    · obtain ⟨a, b, c, ha, hb, hc1, hc, rfl, rfl, rfl⟩ := okD_t hd
      have hX := SI_ex_z h.si he
      have hp := hX.2.2.2.2.2.1
      refine ok_tbR (a := ()) (μ := μ) rfl ?_
      refine ok_ar e rfl (by omega) (by decide) ?_
      refine ok_bindE (show fX10_placeAt N μ (nI a) (nI b) = some (nI (4 * b + a)) from congrArg some placeI) ?_
      refine ok_bind (k_tryFall (a0 := 538) (cP_of (h.rc.2 e (by omega)) hX) (show 4 * b + a < 16 by omega)) ?_
      rintro m ⟨hm, hf⟩
      have hpo := pot_stab hp
      have hpu := pot_upd (p := pZ Z e) (g := c) (show 4 * b + a < 16 by omega)
      refine ok_bind (k_toppleByPlaces (a0 := 538) hN (by decide) hm (by omega)) ?_
      rintro ⟨m2, c2⟩ ⟨l1, hl1, hs1, -, -, hf2, hc2, -⟩
      simp only at hf2 hc2
      subst hc2
      refine ok_some ⟨(h.ask' hf (fun q hq => by omega)).ask' hf2 (fun q hq => by omega), ?_⟩
      rw [if_pos rfl, if_pos rfl, tn_nI (by omega), tn_nI (by omega), tn_nI (by omega), tn_nI (by omega), tpN_eq hl1 hs1]
theorem z_topplingsIfByRounds {x px py g : Int32} (hN : 20000 ≤ N) (h : PZ μ t Z hs) : Ok (fX10_topplingsIfByRounds N μ 0 x px py g) (fun r => PZ r.1 t Z hs ∧ r.2 = aTop Z x px py g) := by
  have hs9 := SIp_z h.si
  have h5 := hs9.2.2.2.2.2.1
  unfold fX10_topplingsIfByRounds aTop
  rw [dropF (h.rc.1.1.2.1.trans hs9.2.2.2.2.1) h5, bS]
  cases hx : idx (eZ Z) x
  · exact ok_tbL (e := 0) (μ := μ) rfl ⟨h, rfl⟩
  · obtain ⟨e, he, rfl⟩ := idx_t.mp hx
    cases hd : okD px py g
    · exact ok_tbL (e := 1) (μ := μ) rfl ⟨h, rfl⟩
    · obtain ⟨a, b, c, ha, hb, hc1, hc, rfl, rfl, rfl⟩ := okD_t hd
      have hX := SI_ex_z h.si he
      have hp := hX.2.2.2.2.2.1
      refine ok_tbR (a := ()) (μ := μ) rfl ?_
      refine ok_ar e rfl (by omega) (by decide) ?_
      refine ok_bindE (show fX10_placeAt N μ (nI a) (nI b) = some (nI (4 * b + a)) from congrArg some placeI) ?_
      refine ok_bind (k_tryFall (a0 := 538) (cP_of (h.rc.2 e (by omega)) hX) (show 4 * b + a < 16 by omega)) ?_
      rintro m ⟨hm, hf⟩
      have hpo := pot_stab hp
      have hpu := pot_upd (p := pZ Z e) (g := c) (show 4 * b + a < 16 by omega)
      refine ok_bind (k_toppleByRounds (a0 := 538) hN (by decide) hm (by omega)) ?_
      rintro ⟨m2, c2⟩ ⟨l1, hl1, hs1, hf2, hc2, -⟩
      simp only at hf2 hc2
      subst hc2
      refine ok_some ⟨(h.ask' hf (fun q hq => by omega)).ask' hf2 (fun q hq => by omega), ?_⟩
      rw [if_pos rfl, if_pos rfl, tn_nI (by omega), tn_nI (by omega), tn_nI (by omega), tn_nI (by omega), tpN_eq hl1 hs1]
/-- a truth as a Boolean -/
noncomputable def tB (P : Prop) : Bool := @decide P (Classical.propDecidable P)
theorem tB_t {P : Prop} : tB P = true ↔ P := @decide_eq_true_iff P (Classical.propDecidable P)
theorem tB_eq {P : Prop} {b : Bool} (h : b = true ↔ P) : b = tB P := bool_iff h tB_t
noncomputable def aExB (Z : Nat → Int32) (x : Int32) (f : Nat → Bool) : Nat ⊕ Bool := if idx (eZ Z) x = true then .inr (f (tn x)) else .inl 0
theorem aExB_t {e : Nat} {f : Nat → Bool} (he : e < eZ Z) (h5 : eZ Z ≤ 5) : aExB Z (nI e) f = .inr (f e) := by
  unfold aExB; rw [if_pos ((idx_nI (by omega) (by omega)).mpr he), tn_nI (by omega)]
theorem aExB_f {x : Int32} {f : Nat → Bool} (h : idx (eZ Z) x = false) : aExB Z x f = .inl 0 := by
  unfold aExB; rw [if_neg (by rw [h]; decide)]
noncomputable abbrev aLasts (Z : Nat → Int32) (x : Int32) := aExB Z x (fun e => tB (lasting (pZ Z e)))
theorem z_lasts {x : Int32} (hN : 20000 ≤ N) (h : PZ μ t Z hs) : Ok (fX10_lasts N μ 0 x) (fun r => PZ r.1 t Z hs ∧ r.2 = aLasts Z x) := by
  unfold fX10_lasts
  refine z_ex h (fun hx => ⟨h, (aExB_f hx).symm⟩) (fun e he h5 hx _ hE hX => ?_)
  refine ok_bind (k_burnsWhole (a0 := 538) (by omega) (by omega) (cP_of hE hX) hX.2.2.2.2.2.1) ?_
  rintro ⟨m, b⟩ ⟨hb, hf⟩
  dsimp only at hb hf
  refine ok_some ⟨h.ask' hf (fun q hq => by omega), ?_⟩
  rw [hx]; unfold aLasts; rw [aExB_t he (SIp_z h.si).2.2.2.2.2.1]; exact congrArg Sum.inr (tB_eq hb)
theorem z_lastsByToppling {x : Int32} (hN : 20000 ≤ N) (h : PZ μ t Z hs) : Ok (fX10_lastsByToppling N μ 0 x) (fun r => PZ r.1 t Z hs ∧ r.2 = aLasts Z x) := by
  unfold fX10_lastsByToppling
  refine z_ex h (fun hx => ⟨h, (aExB_f hx).symm⟩) (fun e he h5 hx _ hE hX => ?_)
  refine ok_bind (k_topplesOnceEach (a0 := 538) (by omega) (by omega) (cP_of hE hX) hX.2.2.2.2.2.1) ?_
  rintro ⟨m, b⟩ ⟨hb, hf⟩
  dsimp only at hb hf
  refine ok_some ⟨h.ask' hf (fun q hq => by omega), ?_⟩
  rw [hx]; unfold aLasts; rw [aExB_t he (SIp_z h.si).2.2.2.2.2.1]; exact congrArg Sum.inr (tB_eq hb)
noncomputable abbrev aSlope (Z : Nat → Int32) (x : Int32) := aEx Z x (fun e => nI (slP (pZ Z e)))
theorem z_longestSlope {x : Int32} (hN : 20000 ≤ N) (h : PZ μ t Z hs) : Ok (fX10_longestSlope N μ 0 x) (fun r => PZ r.1 t Z hs ∧ r.2 = aSlope Z x) := by
  unfold fX10_longestSlope
  refine z_ex h (fun hx => ⟨h, (aEx_f hx).symm⟩) (fun e he h5 hx _ hE hX => ?_)
  refine ok_bind (k_slopeByRecursion (by omega) (cP_of hE hX) hX.2.2.2.2.2.1) ?_
  rintro _ rfl
  refine ok_some ⟨h, ?_⟩
  rw [hx]; unfold aSlope; rw [aEx_t he (SIp_z h.si).2.2.2.2.2.1]
theorem z_longestSlopeByGrains {x : Int32} (hN : 20000 ≤ N) (h : PZ μ t Z hs) : Ok (fX10_longestSlopeByGrains N μ 0 x) (fun r => PZ r.1 t Z hs ∧ r.2 = aSlope Z x) := by
  unfold fX10_longestSlopeByGrains
  refine z_ex h (fun hx => ⟨h, (aEx_f hx).symm⟩) (fun e he h5 hx _ hE hX => ?_)
  refine ok_bind (k_slopeFromFewest (a0 := 538) (by omega) (by omega) (cP_of hE hX) hX.2.2.2.2.2.1) ?_
  rintro ⟨m, v⟩ ⟨hv, hf⟩
  dsimp only at hv hf
  subst hv
  refine ok_some ⟨h.ask' hf (fun q hq => by omega), ?_⟩
  rw [hx]; unfold aSlope; rw [aEx_t he (SIp_z h.si).2.2.2.2.2.1]
noncomputable abbrev aFees (Z : Nat → Int32) (x : Int32) := aEx Z x (fun e => nI (fees (qZ Z e) (feZ Z e) (bsC (qZ Z e) (fiZ Z e) (laZ Z e) (feZ Z e) (leZ Z e) (2 ^ (qZ Z e) - 1)).testBit))
theorem z_bestFees {x : Int32} (hN : 20000 ≤ N) (h : PZ μ t Z hs) : Ok (fX10_bestFees N μ 0 x) (fun r => PZ r.1 t Z hs ∧ r.2 = aFees Z x) := by
  unfold fX10_bestFees
  refine z_ex h (fun hx => ⟨h, (aEx_f hx).symm⟩) (fun e he h5 hx _ hE hX => ?_)
  refine ok_bind (k_feesByLastDays (a0 := 543) (by omega) hX.2.2.2.2.2.2.2.1 (cL_of hE hX) (by omega) h.z0) ?_
  rintro ⟨m, v⟩ ⟨hv, h0, hf⟩
  dsimp only at hv h0 hf
  subst hv
  refine ok_some ⟨h.ask (hf.mono (fun q hq => by omega)) h0, ?_⟩
  rw [hx]; unfold aFees; rw [aEx_t he (SIp_z h.si).2.2.2.2.2.1]
theorem z_bestFeesByTrials {x : Int32} (hN : 20000 ≤ N) (h : PZ μ t Z hs) : Ok (fX10_bestFeesByTrials N μ 0 x) (fun r => PZ r.1 t Z hs ∧ r.2 = aFees Z x) := by
  unfold fX10_bestFeesByTrials
  refine z_ex h (fun hx => ⟨h, (aEx_f hx).symm⟩) (fun e he h5 hx _ hE hX => ?_)
  have hl := hX.2.2.2.2.2.2.2.1
  have hc := cL_of hE hX
  refine ok_bind (k_bestChoice (by omega) hl hc) ?_
  rintro _ rfl
  have hb := bsC_le (q := qZ Z e) (fi := fiZ Z e) (la := laZ Z e) (fe := feZ Z e) (le := leZ Z e) (2 ^ (qZ Z e) - 1)
  have h8 : 2 ^ (qZ Z e) ≤ 2 ^ 8 := Nat.pow_le_pow_right (by decide) hl.1
  refine ok_bind (k_feesOf (by omega) hl hc (show _ < 256 by omega)) ?_
  rintro _ rfl
  refine ok_some ⟨h, ?_⟩
  rw [hx]; unfold aFees; rw [aEx_t he (SIp_z h.si).2.2.2.2.2.1]
noncomputable abbrev aLent (Z : Nat → Int32) (x y : Int32) := aExB Z x (fun e => tB (∃ d, d < 100 ∧ y = nI d ∧ 0 < leZ Z e d))
theorem z_isLent {x y : Int32} (h : PZ μ t Z hs) : Ok (fX10_isLent N μ 0 x y) (fun r => PZ r.1 t Z hs ∧ r.2 = aLent Z x y) := by
  unfold fX10_isLent
  refine z_ex h (fun hx => ⟨h, (aExB_f hx).symm⟩) (fun e he h5 hx _ hE hX => ?_)
  have hle := hX.2.2.2.2.2.2.2.1.2.2
  refine ok_bind (k_loanEndOn (x := y) (cL_of hE hX).2.2.2.2) ?_
  intro v hv
  have key : v = -1 ↔ ¬ ∃ d, d < 100 ∧ y = nI d ∧ 0 < leZ Z e d := by
    rcases hv with ⟨hno, rfl⟩ | ⟨d, hd, rfl, rfl⟩
    · exact ⟨fun _ ⟨d, hd, e, _⟩ => hno d hd e, fun _ => rfl⟩
    · rw [le_m1 (hle d hd)]
      constructor
      · rintro hz ⟨d', hd', e', h0⟩
        have := (nI_eq (a := d) (b := d') (by omega) (by omega)).mp e'
        subst this
        omega
      · intro hz
        refine Classical.byContradiction fun hne => hz ⟨d, hd, rfl, by omega⟩
  refine ok_jn1 (fun b : Bool => b = true ↔ ∃ d, d < 100 ∧ y = nI d ∧ 0 < leZ Z e d) (fun b hb => ok_some ⟨h, ?_⟩) (fun j hj => ?_)
  · rw [hx]; unfold aLent; rw [aExB_t he (SIp_z h.si).2.2.2.2.2.1]; exact congrArg Sum.inr (tB_eq hb)
  · refine ok_if (fun hz => hj false ⟨fun z => (by cases z), fun z => absurd z (key.mp hz)⟩) (fun hz => hj true ⟨fun _ => Classical.byContradiction fun z => hz (key.mpr z), fun _ => rfl⟩)
/-- a least sum, or -1 -/
noncomputable def rmV (E : Nat → Nat → Nat → Prop) (s t : Nat) : Int32 := Classical.epsilon (fun r => Rm E s t r)
theorem rmV_eq {E : Nat → Nat → Nat → Prop} {s t : Nat} {r : Int32} (h : Rm E s t r) : rmV E s t = r := Rm_eq (Classical.epsilon_spec (p := fun r => Rm E s t r) ⟨_, h⟩) h
def npR (r : Int32) : Nat ⊕ Int32 := if r = -1 then .inl 3 else .inr r
theorem z_present {m : Mem} {r : Int32} {P : Mem × (Nat ⊕ Int32) → Prop} (h : P (m, npR r)) : Ok (tb (fX10_presentOnly N m r) fun μ8 r9 => some (μ8, .inr r9) : Option (Mem × (Nat ⊕ Int32))) P := by
  unfold fX10_presentOnly
  unfold npR at h
  by_cases hr : r = -1
  · rw [if_pos hr] at h ⊢
    exact ok_tbL (e := 3) (μ := m) rfl h
  · rw [if_neg hr] at h ⊢
    exact ok_tbR (a := r) (μ := m) rfl (ok_some h)
noncomputable abbrev aMin (Z : Nat → Int32) (x y : Int32) := aPr Z x y (fun a b => npR (rmV (eg (nZ Z) (mZ Z) (mZ Z)) a b))
theorem z_minutes {x y : Int32} (hN : 1200000000000 ≤ N) (h : PZ μ t Z hs) : Ok (fX10_minutes N μ 0 x y) (fun r => PZ r.1 t Z hs ∧ r.2 = aMin Z x y) := by
  have hs9 := SIp_z h.si
  have hn := hs9.2.1.1
  unfold fX10_minutes
  rw [k_pairFault (h.rc.1.1.1.trans hs9.1) hn, bS]
  cases hxy : (idx (nZ Z) x && idx (nZ Z) y)
  · exact ok_tbL (e := 0) (μ := μ) rfl ⟨h, (aPr_f hxy).symm⟩
  · rw [Bool.and_eq_true] at hxy
    obtain ⟨a, ha, rfl⟩ := idx_t.mp hxy.1
    obtain ⟨b, hb, rfl⟩ := idx_t.mp hxy.2
    refine ok_tbR (a := ()) (μ := μ) rfl ?_
    refine ok_bind (k_minutesBySettling (a0 := 520) (by omega) hs9.2.1 (cG_of h.rc hs9) (by decide) ha hb) ?_
    rintro ⟨m, r⟩ ⟨hR2, hfm⟩
    dsimp only at hR2 hfm
    refine z_present ⟨h.ask' hfm (fun q hq => by have h1 : 520 ≤ q := hq.1; have h2 : q < 538 := hq.2; omega), ?_⟩
    unfold aMin; rw [aPr_t ha hb hn, rmV_eq hR2]
theorem z_minutesByTable {x y : Int32} (hN : 1200000000000 ≤ N) (h : PZ μ t Z hs) : Ok (fX10_minutesByTable N μ 0 x y) (fun r => PZ r.1 t Z hs ∧ r.2 = aMin Z x y) := by
  have hs9 := SIp_z h.si
  have hn := hs9.2.1.1
  unfold fX10_minutesByTable
  rw [k_pairFault (h.rc.1.1.1.trans hs9.1) hn, bS]
  cases hxy : (idx (nZ Z) x && idx (nZ Z) y)
  · exact ok_tbL (e := 0) (μ := μ) rfl ⟨h, (aPr_f hxy).symm⟩
  · rw [Bool.and_eq_true] at hxy
    obtain ⟨a, ha, rfl⟩ := idx_t.mp hxy.1
    obtain ⟨b, hb, rfl⟩ := idx_t.mp hxy.2
    refine ok_tbR (a := ()) (μ := μ) rfl ?_
    refine ok_bind (k_fillTable (a0 := 520) (by omega) hs9.2.1 (cG_of h.rc hs9) (by decide)) ?_
    rintro m ⟨T, hT, hD, hfm, -⟩
    refine ok_bind (k_minutesInTable hn hT (hD a ha) ha hb) ?_
    intro r hR2
    refine z_present ⟨h.ask' hfm (fun q hq => by have h1 : 520 ≤ q := hq.1; have h2 : q < 538 := hq.2; omega), ?_⟩
    unfold aMin; rw [aPr_t ha hb hn, rmV_eq hR2]
noncomputable def aLeast (Z : Nat → Int32) (x y : Int32) : Nat ⊕ Int32 := if (idx (eZ Z) x && idx (nZ Z) y) = true then npR (rmV (eg (nZ Z) (mZ Z) (fun a b => hZ Z a b - lZ Z (tn x))) (rZ Z (tn x)) (tn y)) else .inl 0
theorem journ_z {x y : Int32} (h : PZ μ t Z hs) : fX10_journeyFault N μ 0 x y = some (if (idx (eZ Z) x && idx (nZ Z) y) = true then 0 else 1) := journF (ν := fun _ => Z) (a0 := 0) h.rc (SIp_z h.si)
theorem z_leastPassed {x y : Int32} (hN : 1200000000000 ≤ N) (h : PZ μ t Z hs) : Ok (fX10_leastPassed N μ 0 x y) (fun r => PZ r.1 t Z hs ∧ r.2 = aLeast Z x y) := by
  have hs9 := SIp_z h.si
  have hn := hs9.2.1.1
  have h5 := hs9.2.2.2.2.2.1
  unfold fX10_leastPassed aLeast
  rw [journ_z h, bS]
  cases hxy : (idx (eZ Z) x && idx (nZ Z) y)
  · exact ok_tbL (e := 0) (μ := μ) rfl ⟨h, rfl⟩
  · rw [Bool.and_eq_true] at hxy
    obtain ⟨e, he, rfl⟩ := idx_t.mp hxy.1
    obtain ⟨b, hb, rfl⟩ := idx_t.mp hxy.2
    have hX := SI_ex_z h.si he
    have hE := h.rc.2 e (by omega)
    refine ok_tbR (a := ()) (μ := μ) rfl ?_
    refine ok_ar e rfl (by omega) (by decide) ?_
    refine ok_bind (k_passedBySettling (a0 := 520) (lim := lZ Z e) (by omega) (by have := hX.2.2.2.1; omega) hs9.2.1 (cG_of h.rc hs9) (by decide) ⟨hE.1.1.trans hX.1, hE.1.2.1.trans hX.2.2.1⟩ (by omega) hX.2.1 hb) ?_
    rintro ⟨m, r2⟩ ⟨hR2, hfm⟩
    dsimp only at hR2 hfm
    refine z_present ⟨h.ask' hfm (fun q hq => by have h1 : 520 ≤ q := hq.1; have h2 : q < 538 := hq.2; omega), ?_⟩
    rw [if_pos rfl, tn_nI (by omega), tn_nI (by omega), rmV_eq hR2]
theorem z_leastPassedByRounds {x y : Int32} (hN : 1200000000000 ≤ N) (h : PZ μ t Z hs) : Ok (fX10_leastPassedByRounds N μ 0 x y) (fun r => PZ r.1 t Z hs ∧ r.2 = aLeast Z x y) := by
  have hs9 := SIp_z h.si
  have hn := hs9.2.1.1
  have h5 := hs9.2.2.2.2.2.1
  unfold fX10_leastPassedByRounds aLeast
  rw [journ_z h, bS]
  cases hxy : (idx (eZ Z) x && idx (nZ Z) y)
  · exact ok_tbL (e := 0) (μ := μ) rfl ⟨h, rfl⟩
  · rw [Bool.and_eq_true] at hxy
    obtain ⟨e, he, rfl⟩ := idx_t.mp hxy.1
    obtain ⟨b, hb, rfl⟩ := idx_t.mp hxy.2
    have hX := SI_ex_z h.si he
    have hE := h.rc.2 e (by omega)
    refine ok_tbR (a := ()) (μ := μ) rfl ?_
    refine ok_ar e rfl (by omega) (by decide) ?_
    refine ok_bind (k_passedByRounds (a0 := 520) (lim := lZ Z e) (by omega) (by have := hX.2.2.2.1; omega) hs9.2.1 (cG_of h.rc hs9) (by decide) ⟨hE.1.1.trans hX.1, hE.1.2.1.trans hX.2.2.1⟩ (by omega) hX.2.1 hb) ?_
    rintro ⟨m, r2⟩ ⟨hR2, hfm⟩
    dsimp only at hR2 hfm
    refine z_present ⟨h.ask' hfm (fun q hq => by have h1 : 520 ≤ q := hq.1; have h2 : q < 538 := hq.2; omega), ?_⟩
    rw [if_pos rfl, tn_nI (by omega), tn_nI (by omega), rmV_eq hR2]
/-- the least pairs towards a room -/
noncomputable def dZ (Z : Nat → Int32) (b : Nat) : Nat → Nat := Classical.epsilon (fun d => d8 (nZ Z) (mZ Z) b d)
theorem d8_eq {n b : Nat} {mn : Nat → Nat → Nat} {d d' : Nat → Nat} (h : d8 n mn b d) (h' : d8 n mn b d') : ∀ a, a < n → d a = d' a := fun a ha => by
  rcases isD_eq h.1 h'.1 ha with ⟨-, -, e⟩ | ⟨e1, e2⟩
  · exact e
  · rw [e1, e2]
theorem dZ_8 {b : Nat} (hs9 : SIp Z (nZ Z) (eZ Z) (mZ Z) (hZ Z)) (hb : b < nZ Z) : d8 (nZ Z) (mZ Z) b (dZ Z b) := by
  refine Classical.epsilon_spec (p := fun d => d8 (nZ Z) (mZ Z) b d) ?_
  exact dij_ex hs9.2.1.1 hb (fun a b => by have := (hs9.2.1.2 a b).1; omega)
theorem nx_cg {n room : Nat} {mn : Nat → Nat → Nat} {d d' : Nat → Nat} (e : ∀ a, a < n → d a = d' a) (hr : room < n) : nx n mn d room = nx n mn d' room := fs_cg n (fun i hi => by unfold nxP; rw [e i hi, e room hr])
theorem wy_cg {n s k : Nat} {mn : Nat → Nat → Nat} {d d' : Nat → Nat} (e : ∀ a, a < n → d a = d' a) (hr : ∀ i, i ≤ k → wy n mn d s i < n) : ∀ i, i ≤ k → wy n mn d s i = wy n mn d' s i
  | 0, _ => rfl
  | i + 1, hi => by
    have h1 := wy_cg e hr i (by omega)
    show nx n mn d (wy n mn d s i) = nx n mn d' (wy n mn d' s i)
    rw [← h1]
    exact nx_cg e (hr i (by omega))
/-- the class finds the way -/
theorem way_z {a b : Nat} (hN : 1200000000000 ≤ N) (h : PZ μ t Z hs) (ha : a < nZ Z) (hb : b < nZ Z) : Ok (fX10_wayFault N μ 0 (nI a) (nI b)) (fun r => PZ r.1 t Z hs ∧ (∀ q, q < 520 → r.1 q = μ q) ∧ ((dZ Z b a = cFA ∧ r.2 = 4) ∨ (dZ Z b a < cFA ∧ r.2 = 0 ∧ wayR r.1 520 (nZ Z) (mZ Z) (dZ Z b) a))) := by
  have hs9 := SIp_z h.si
  have h8' := dZ_8 hs9 hb
  unfold fX10_wayFault
  refine ok_bind (k_findWay (a0 := 520) (by omega) hs9.2.1 (cG_of h.rc hs9) (by decide) ha hb) ?_
  rintro ⟨m, bb⟩ ⟨hfm, d, h8, hcase⟩
  dsimp only at hfm hcase
  have hfm' : frm (fun q => 520 ≤ q ∧ q < 538) μ m := hfm
  have hR : PZ m t Z hs := h.ask' hfm' (fun q hq => by omega)
  have ed := d8_eq h8 h8'
  refine ok_jn ?_
  rcases hcase with ⟨c1, rfl, c3⟩ | ⟨c1, rfl⟩
  · refine ok_some ⟨hR, fun q hq => hfm' q (by omega), Or.inr ⟨by rw [← ed a ha]; exact c1, rfl, ?_⟩⟩
    have hw := wy_ok hs9.2.1 h8 hb ha c1
    have hcg := wy_cg (s := a) (k := d a % 8) (mn := mZ Z) ed (fun i hi => (hw i hi).1)
    refine ⟨by rw [← ed a ha]; exact c3.1, by rw [← ed a ha]; exact c3.2.1, fun i hi => ?_⟩
    rw [← ed a ha] at hi
    rw [← hcg i hi]
    exact c3.2.2 i hi
  · exact ok_some ⟨hR, fun q hq => hfm' q (by omega), Or.inl ⟨by rw [← ed a ha]; exact c1, rfl⟩⟩
noncomputable abbrev aLegs (Z : Nat → Int32) (x y : Int32) := aPr Z x y (fun a b => if dZ Z b a = cFA then .inl 3 else .inr (nI (dZ Z b a % 8)))
theorem z_wayLegs {x y : Int32} (hN : 1200000000000 ≤ N) (h : PZ μ t Z hs) : Ok (fX10_wayLegs N μ 0 x y) (fun r => PZ r.1 t Z hs ∧ r.2 = aLegs Z x y) := by
  have hs9 := SIp_z h.si
  have hn := hs9.2.1.1
  unfold fX10_wayLegs
  rw [k_pairFault (h.rc.1.1.1.trans hs9.1) hn, bS]
  cases hxy : (idx (nZ Z) x && idx (nZ Z) y)
  · exact ok_tbL (e := 0) (μ := μ) rfl ⟨h, (aPr_f hxy).symm⟩
  · rw [Bool.and_eq_true] at hxy
    obtain ⟨a, ha, rfl⟩ := idx_t.mp hxy.1
    obtain ⟨b, hb, rfl⟩ := idx_t.mp hxy.2
    refine ok_tbR (a := ()) (μ := μ) rfl ?_
    refine ok_bind (way_z hN h ha hb) ?_
    rintro ⟨m, f⟩ ⟨hR, hC, hor⟩
    dsimp only at hR hor
    rcases hor with ⟨c1, rfl⟩ | ⟨c1, rfl, hw⟩
    · refine ok_tbL (e := 3) (μ := m) rfl ⟨hR, ?_⟩
      unfold aLegs; rw [aPr_t ha hb hn, if_pos c1]
    · refine ok_tbR (a := ()) (μ := m) rfl (ok_some ⟨hR, ?_⟩)
      unfold aLegs; rw [aPr_t ha hb hn, if_neg (by omega)]
      dsimp only
      rw [hw.1]
      exact congrArg Sum.inr (nI_pred _)
noncomputable def aWay (Z : Nat → Int32) (x y z : Int32) : Nat ⊕ Int32 := aPr Z x y (fun a b => if dZ Z b a = cFA then .inl 3 else if ∃ k, k ≤ dZ Z b a % 8 ∧ z = nI k then .inr (nI (wy (nZ Z) (mZ Z) (dZ Z b) a (tn z))) else .inl 3)
theorem z_wayRoom {x y z : Int32} (hN : 1200000000000 ≤ N) (h : PZ μ t Z hs) : Ok (fX10_wayRoom N μ 0 x y z) (fun r => PZ r.1 t Z hs ∧ r.2 = aWay Z x y z) := by
  have hs9 := SIp_z h.si
  have hn := hs9.2.1.1
  unfold fX10_wayRoom aWay
  rw [k_pairFault (h.rc.1.1.1.trans hs9.1) hn, bS]
  cases hxy : (idx (nZ Z) x && idx (nZ Z) y)
  · exact ok_tbL (e := 0) (μ := μ) rfl ⟨h, (aPr_f hxy).symm⟩
  · rw [Bool.and_eq_true] at hxy
    obtain ⟨a, ha, rfl⟩ := idx_t.mp hxy.1
    obtain ⟨b, hb, rfl⟩ := idx_t.mp hxy.2
    refine ok_tbR (a := ()) (μ := μ) rfl ?_
    refine ok_bind (way_z hN h ha hb) ?_
    rintro ⟨m, f⟩ ⟨hR, hC, hor⟩
    dsimp only at hR hor
    rcases hor with ⟨c1, rfl⟩ | ⟨c1, rfl, hw⟩
    · refine ok_tbL (e := 3) (μ := m) rfl ⟨hR, ?_⟩
      rw [aPr_t ha hb hn, if_pos c1]
    · have hS5 := (d8_lex (dZ_8 hs9 hb) hb ha c1).2
      refine ok_tbR (a := ()) (μ := m) rfl ?_
      rw [aPr_t ha hb hn, if_neg (by omega)]
      have hbad : (¬ ∃ k, k ≤ dZ Z b a % 8 ∧ z = nI k) → Ok (some (m, (.inl 3 : Nat ⊕ Int32))) (fun r => PZ r.1 t Z hs ∧ r.2 = if ∃ k, k ≤ dZ Z b a % 8 ∧ z = nI k then .inr (nI (wy (nZ Z) (mZ Z) (dZ Z b) a (tn z))) else .inl 3) := fun hno => ok_some ⟨hR, by rw [if_neg hno]⟩
      refine ok_jn ?_
      refine ok_if (fun h1 => hbad ?_) (fun h1 => ?_)
      · rintro ⟨k, hk, rfl⟩
        exact nI_pos (show k < 2 ^ 31 by omega) h1
      dsimp only
      rw [hw.1]
      refine ok_if (fun h2 => ?_) (fun h2 => hbad ?_)
      · rcases pk_ix z (show dZ Z b a % 8 + 1 < 2 ^ 31 by omega) with h3 | h3 | ⟨k, hk, rfl⟩
        · exact absurd h3 h1
        · have a1 := Int32.lt_iff_toInt_lt.mp h2
          have a2 := Int32.le_iff_toInt_le.mp h3
          omega
        · refine ok_ag k rfl (by omega) (by decide) (ok_some ⟨hR, ?_⟩)
          rw [if_pos ⟨k, by omega, rfl⟩, hw.2.2 k (by omega), tn_nI (by omega)]
      · rintro ⟨k, hk, rfl⟩
        exact h2 ((nI_ltI (by omega) (by omega)).mpr (by omega))
noncomputable def aMelt (Z : Nat → Int32) (x y : Int32) : Nat ⊕ Int32 := if (idx (eZ Z) x && idx (nZ Z) y) = true then (if dZ Z (tn y) (rZ Z (tn x)) = cFA then .inl 3 else .inr (nI (min (pw (nZ Z) (mZ Z) (hZ Z) (dZ Z (tn y)) (rZ Z (tn x)) (lZ Z (tn x)) (dZ Z (tn y) (rZ Z (tn x)) % 8)) (grs (pZ Z (tn x)))))) else .inl 0
theorem z_meltIfSent {x y : Int32} (hN : 1200000000000 ≤ N) (h : PZ μ t Z hs) : Ok (fX10_meltIfSent N μ 0 x y) (fun r => PZ r.1 t Z hs ∧ r.2 = aMelt Z x y) := by
  have hs9 := SIp_z h.si
  have hn := hs9.2.1.1
  have h5 := hs9.2.2.2.2.2.1
  unfold fX10_meltIfSent aMelt
  rw [journ_z h, bS]
  cases hxy : (idx (eZ Z) x && idx (nZ Z) y)
  · exact ok_tbL (e := 0) (μ := μ) rfl ⟨h, rfl⟩
  · rw [Bool.and_eq_true] at hxy
    obtain ⟨e, he, rfl⟩ := idx_t.mp hxy.1
    obtain ⟨b, hb, rfl⟩ := idx_t.mp hxy.2
    have hX := SI_ex_z h.si he
    have hE := h.rc.2 e (by omega)
    have hl9 := hX.2.2.2.1
    have hg48 := grs_stab hX.2.2.2.2.2.1
    refine ok_tbR (a := ()) (μ := μ) rfl ?_
    refine ok_ar e rfl (by omega) (by decide) ?_
    rw [hE.1.1, hX.1, if_pos rfl, tn_nI (by omega), tn_nI (by omega)]
    refine ok_bind (way_z hN h hX.2.1 hb) ?_
    rintro ⟨m, f⟩ ⟨hR, hC, hor⟩
    dsimp only at hR hC hor
    rcases hor with ⟨c1, rfl⟩ | ⟨c1, rfl, hw⟩
    · refine ok_tbL (e := 3) (μ := m) rfl ⟨hR, ?_⟩
      rw [if_pos c1]
    · have hpwl := pw_le (d := dZ Z b) (s := rZ Z e) hs9.2.1 (lZ Z e) (dZ Z b (rZ Z e) % 8)
      refine ok_tbR (a := ()) (μ := m) rfl ?_
      rw [if_neg (by omega)]
      have hEm : RE m (1 + 16 + 1 + 6 * e) (exY Z e) := hE.mv (fun q h1 h2 => hC q (by omega)) (fun _ _ => rfl)
      rw [hEm.1.2.1, hX.2.2.1]
      refine ok_bind (k_passedOnWay (a0 := 0) (by omega) (by omega) hs9.2.1 ((cG_of h.rc hs9).mv (fun q h1 h2 => hC q (by omega))) (dZ_8 hs9 hb) hX.2.1 hb c1 hw) ?_
      rintro _ rfl
      refine ok_bind (k_countGrains (by omega) (cP_of hEm hX)) ?_
      rintro _ rfl
      refine ok_some ⟨hR, ?_⟩
      exact congrArg Sum.inr (imin_nI (by omega) (by omega))
theorem z_isConsistent (hN : 1200000000000 ≤ N) (h : PZ μ t Z hs) : Ok (fX10_isConsistent N μ 0) (fun r => PZ r.1 t Z hs ∧ r.2 = true) := by
  have hs := SIp_z h.si
  have h5 := hs.2.2.2.2.2.1
  unfold fX10_isConsistent
  refine ok_fix3 (fun k x1 x m => ∃ i, i + k = eZ Z ∧ x1 = true ∧ x = nI i ∧ frm (fun q => 520 ≤ q ∧ q < 546) μ m ∧ m (543 + 2) 0 = 0) ?_ N (eZ Z) _ _ _ (by omega) ⟨0, by omega, rfl, rfl, frm.rf, h.z0⟩
  rintro k self x1 x m ⟨i, hi, rfl, rfl, hf, hm0⟩ hs1
  have hRC : RC m 1 Z := h.rc.mv (fun q h1 h2 => hf q (by omega)) (fun _ _ => rfl)
  rw [hRC.1.1.2.1, hs.2.2.2.2.1]
  refine ok_le (eZ Z) i (f := fun hc => ?_) (g := fun hc => ?_)
  · refine ok_jn (ok_jn ?_)
    refine ok_cdT rfl ?_
    refine ok_bind (k_minutesAgree hN hs.2.1 (cG_of hRC hs)) ?_
    rintro ⟨m2, b2⟩ ⟨hb2, hf2⟩
    dsimp only at hb2 hf2
    subst hb2
    have hf2' : frm (fun q => 520 ≤ q ∧ q < 538) m m2 := hf2
    refine ok_cdT rfl ?_
    refine ok_some ⟨h.ask (hf.tr (hf2'.mono (fun q hq => by omega))) ?_, rfl⟩
    show m2 (543 + 2) 0 = 0
    rw [hf2' _ (by omega)]; exact hm0
  · have hX := SI_ex_z h.si hc
    have hl := hX.2.2.2.2.2.2.2.1
    refine ok_ar i rfl (by omega) (by decide) ?_
    refine ok_jn (ok_jn ?_)
    refine ok_cdT rfl ?_
    refine ok_bind (k_pileAgrees (by omega) (by omega) (hRC.2 i (by omega)) hX) ?_
    rintro ⟨m2, b2⟩ ⟨hb2, hf2⟩
    dsimp only at hb2 hf2
    subst hb2
    refine ok_cdT rfl ?_
    have hRC2 : RC m2 1 Z := hRC.mv (fun q h1 h2 => hf2 q (by omega)) (fun _ _ => rfl)
    refine ok_bind (k_leastAgrees hN hs.2.1 (cG_of hRC2 hs) (by omega) (hRC2.2 i (by omega)) hX) ?_
    rintro ⟨m3, b3⟩ ⟨hb3, hf3⟩
    dsimp only at hb3 hf3
    subst hb3
    have hf3' : frm (fun q => 520 ≤ q ∧ q < 538) m2 m3 := hf3
    refine ok_cdT rfl ?_
    have hRC3 : RC m3 1 Z := hRC2.mv (fun q h1 h2 => hf3' q (by omega)) (fun _ _ => rfl)
    have hc3 := cL_of (hRC3.2 i (by omega)) hX
    have hm3 : m3 (543 + 2) 0 = 0 := by rw [hf3' _ (by omega), hf2 _ (by omega)]; exact hm0
    refine ok_bind (k_feesByLastDays (a0 := 543) (by omega) hl hc3 (by omega) hm3) ?_
    rintro ⟨m4, v4⟩ ⟨hv4, h40, hf4⟩
    dsimp only at hv4 h40 hf4
    subst hv4
    have hRC4 : RC m4 1 Z := hRC3.mv (fun q h1 h2 => hf4 q (by omega)) (fun _ _ => rfl)
    have hc4 := cL_of (hRC4.2 i (by omega)) hX
    refine ok_bind (k_bestChoice (by omega) hl hc4) ?_
    rintro _ rfl
    have hb := bsC_le (q := qZ Z i) (fi := fiZ Z i) (la := laZ Z i) (fe := feZ Z i) (le := leZ Z i) (2 ^ (qZ Z i) - 1)
    have h8 : 2 ^ (qZ Z i) ≤ 2 ^ 8 := Nat.pow_le_pow_right (by decide) hl.1
    refine ok_bind (k_feesOf (by omega) hl hc4 (show _ < 256 by omega)) ?_
    rintro _ rfl
    refine ok_ifT rfl ?_
    refine ok_lt ?_
    exact hs1 (k - 1) _ _ _ (by omega) ⟨i + 1, by omega, rfl, nI_1 _, ((hf.tr (hf2.mono (fun q hq => by omega))).tr (hf3'.mono (fun q hq => by omega))).tr (hf4.mono (fun q hq => by omega)), h40⟩
noncomputable abbrev lentB (Z : Nat → Int32) (e : Nat) : Bool := tB (∃ d, d < 100 ∧ Z 2 = nI d ∧ 0 < leZ Z e d)
noncomputable def aMean (Z : Nat → Int32) : Nat ⊕ UInt64 := if eZ Z = 0 then .inl 5 else .inr (FP.ddiv (FP.i2d (nI (sm (eZ Z) (fun e => grs (pZ Z e))))) (FP.i2d (nI (eZ Z))))
noncomputable def aFrac (Z : Nat → Int32) : Nat ⊕ UInt32 := if eZ Z = 0 then .inl 5 else .inr (FP.fdiv (FP.i2f (nI (sm (eZ Z) (fun e => (lentB Z e).toNat)))) (FP.i2f (nI (eZ Z))))
theorem z_meanGrains (hN : 20 ≤ N) (h : PZ μ t Z hs) : Ok (fX10_meanGrains N μ 0) (fun r => PZ r.1 t Z hs ∧ r.2 = aMean Z) := by
  have hs9 := SIp_z h.si
  have h5 := hs9.2.2.2.2.2.1
  refine (k_meanGrains (G := fun e => grs (pZ Z e)) hN (h.rc.1.1.2.1.trans hs9.2.2.2.2.1) h5 (fun e he => grs_stab (SI_ex_z h.si he).2.2.2.2.2.1) (fun e he => k_countGrains (by omega) (cP_of (h.rc.2 e (by omega)) (SI_ex_z h.si he)))).mono ?_
  unfold aMean
  rintro r (⟨h0, rfl⟩ | ⟨h0, rfl⟩)
  · exact ⟨h, by rw [if_pos h0]⟩
  · exact ⟨h, by rw [if_neg (by omega)]⟩
theorem z_lentFraction (hN : 20 ≤ N) (h : PZ μ t Z hs) : Ok (fX10_lentFraction N μ 0) (fun r => PZ r.1 t Z hs ∧ r.2 = aFrac Z) := by
  have hs9 := SIp_z h.si
  have h5 := hs9.2.2.2.2.2.1
  have hd : μ 1 6 = Z 2 := h.rc.1.1.2.2.1
  refine (k_lentFraction (L := lentB Z) hN (h.rc.1.1.2.1.trans hs9.2.2.2.2.1) h5 (fun e he => ?_)).mono ?_
  · have hX := SI_ex_z h.si he
    have hle := hX.2.2.2.2.2.2.2.1.2.2
    refine (k_loanEndOn (x := μ 1 6) (cL_of (h.rc.2 e (by omega)) hX).2.2.2.2).mono ?_
    intro v hv
    have hb : lentB Z e = false ↔ ¬ ∃ d, d < 100 ∧ Z 2 = nI d ∧ 0 < leZ Z e d := by
      have ht := tB_t (P := ∃ d, d < 100 ∧ Z 2 = nI d ∧ 0 < leZ Z e d)
      show tB _ = false ↔ _
      cases hc : tB (∃ d, d < 100 ∧ Z 2 = nI d ∧ 0 < leZ Z e d)
      · exact ⟨fun _ z => (by rw [ht.mpr z] at hc; cases hc), fun _ => rfl⟩
      · exact ⟨fun z => (by cases z), fun z => absurd (ht.mp hc) z⟩
    rw [hb, ← hd]
    rcases hv with ⟨hno, rfl⟩ | ⟨d, hd9, e9, rfl⟩
    · exact ⟨fun _ ⟨d, hd, e, _⟩ => hno d hd e, fun _ => rfl⟩
    · rw [le_m1 (hle d hd9)]
      constructor
      · rintro hz ⟨d', hd', e', h0⟩
        have := (nI_eq (a := d) (b := d') (by omega) (by omega)).mp (e9.symm.trans e')
        subst this
        omega
      · intro hz
        exact Classical.byContradiction fun hne => hz ⟨d, hd9, e9, by omega⟩
  · unfold aFrac
    rintro r (⟨h0, rfl⟩ | ⟨h0, rfl⟩)
    · exact ⟨h, by rw [if_pos h0]⟩
    · exact ⟨h, by rw [if_neg (by omega)]⟩
end PZt
