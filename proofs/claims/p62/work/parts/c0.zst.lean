/-! Pure layer: a state's numbers, and what the class answers of them. -/
def tn (x : Int32) : Nat := x.toNatClampNeg
theorem tn_nI {k : Nat} (h : k < 2 ^ 31) : tn (nI k) = k := nI_clamp h
def nZ (Z : Nat → Int32) : Nat := tn (Z 0)
def eZ (Z : Nat → Int32) : Nat := tn (Z 1)
def mZ (Z : Nat → Int32) : Nat → Nat → Nat := fun a b => if a < 6 ∧ b < 6 then tn (Z (10 + 6 * a + b)) else 0
def hZ (Z : Nat → Int32) : Nat → Nat → Nat := fun a b => if a < 6 ∧ b < 6 then tn (Z (46 + 6 * a + b)) else 0
def rZ (Z : Nat → Int32) (e : Nat) : Nat := tn (exY Z e 0)
def lZ (Z : Nat → Int32) (e : Nat) : Nat := tn (exY Z e 1)
def pZ (Z : Nat → Int32) (e : Nat) : Nat → Nat := fun i => tn (exY Z e (7 + i))
def qZ (Z : Nat → Int32) (e : Nat) : Nat := tn (exY Z e 5)
def fiZ (Z : Nat → Int32) (e : Nat) : Nat → Nat := fun k => tn (exY Z e (23 + 3 * k + 0))
def laZ (Z : Nat → Int32) (e : Nat) : Nat → Nat := fun k => tn (exY Z e (23 + 3 * k + 1))
def feZ (Z : Nat → Int32) (e : Nat) : Nat → Nat := fun k => tn (exY Z e (23 + 3 * k + 2))
def leZ (Z : Nat → Int32) (e : Nat) : Nat → Nat := fun d => tn (exY Z e (47 + d))
theorem EX_z {Z : Nat → Int32} {n e r l q : Nat} {p fi la fe le : Nat → Nat} (hn : n ≤ 6) (h : EXq n (exY Z e) r l p q fi la fe le) : EXq n (exY Z e) (rZ Z e) (lZ Z e) (pZ Z e) (qZ Z e) (fiZ Z e) (laZ Z e) (feZ Z e) (leZ Z e) := by
  obtain ⟨h1, h2, h3, h4, h5, h6, h7, h8, h9, h10, h11⟩ := h
  have er : rZ Z e = r := by unfold rZ; rw [h1]; exact tn_nI (by omega)
  have el : lZ Z e = l := by unfold lZ; rw [h3]; exact tn_nI (by omega)
  have hq := h8.1
  have eq : qZ Z e = q := by unfold qZ; rw [h7]; exact tn_nI (by omega)
  have ep : ∀ i, i < 16 → pZ Z e i = p i := fun i hi => by unfold pZ; rw [h5 i hi]; have := h6 i hi; exact tn_nI (by omega)
  have e1 : ∀ k, k < q → fiZ Z e k = fi k := fun k hk => by unfold fiZ; rw [(h9 k hk).1]; have := h8.2.1 k hk; exact tn_nI (by omega)
  have e2 : ∀ k, k < q → laZ Z e k = la k := fun k hk => by unfold laZ; rw [(h9 k hk).2.1]; have := h8.2.1 k hk; exact tn_nI (by omega)
  have e3 : ∀ k, k < q → feZ Z e k = fe k := fun k hk => by unfold feZ; rw [(h9 k hk).2.2]; have := h8.2.1 k hk; exact tn_nI (by omega)
  have e4 : ∀ d, d < 100 → leZ Z e d = le d := fun d hd => by unfold leZ; rw [h10 d hd]; have := h8.2.2 d hd; exact tn_nI (by omega)
  refine ⟨by rw [er]; exact h1, by rw [er]; exact h2, by rw [el]; exact h3, by rw [el]; exact h4, fun i hi => by rw [ep i hi]; exact h5 i hi, fun i hi => by rw [ep i hi]; exact h6 i hi, by rw [eq]; exact h7, ⟨by rw [eq]; exact hq, fun i hi => by rw [eq] at hi; rw [e1 i hi, e2 i hi, e3 i hi]; exact h8.2.1 i hi, fun d hd => by rw [e4 d hd]; exact h8.2.2 d hd⟩, fun k hk => by rw [eq] at hk; rw [e1 k hk, e2 k hk, e3 k hk]; exact h9 k hk, fun d hd => by rw [e4 d hd]; exact h10 d hd, ?_⟩
  rw [h11, grs_cg (p := p) (q := pZ Z e) (fun i hi => (ep i hi).symm)]
theorem SIp_z {Z : Nat → Int32} (h : SI Z) : SIp Z (nZ Z) (eZ Z) (mZ Z) (hZ Z) := by
  obtain ⟨n, ec, mn, ht, h1, h2, h3, h4, h5, h6, h7, h8⟩ := h
  have hn := h2.1
  have en : nZ Z = n := by unfold nZ; rw [h1]; exact tn_nI (by omega)
  have ee : eZ Z = ec := by unfold eZ; rw [h5]; exact tn_nI (by omega)
  have em : ∀ a, a < 6 → ∀ b, b < 6 → mZ Z a b = mn a b := fun a ha b hb => by
    unfold mZ; rw [if_pos ⟨ha, hb⟩, (h3 a ha b hb).1]
    have := (h2.2 a b).1
    exact tn_nI (by omega)
  have eh : ∀ a, a < 6 → ∀ b, b < 6 → hZ Z a b = ht a b := fun a ha b hb => by
    unfold hZ; rw [if_pos ⟨ha, hb⟩, (h3 a ha b hb).2]
    have := (h2.2 a b).2.1
    exact tn_nI (by omega)
  have zm : ∀ a b, ¬ (a < 6 ∧ b < 6) → mZ Z a b = 0 ∧ hZ Z a b = 0 := fun a b h => ⟨if_neg h, if_neg h⟩
  rw [en, ee]
  refine ⟨h1, ⟨hn, fun a b => ?_⟩, fun a ha b hb => by rw [em a ha b hb, eh a ha b hb]; exact h3 a ha b hb, h4, h5, h6, fun e he => ?_, h8⟩
  · by_cases hc : a < 6 ∧ b < 6
    · rw [em a hc.1 b hc.2, eh a hc.1 b hc.2, em b hc.2 a hc.1, eh b hc.2 a hc.1]
      exact h2.2 a b
    · have hc2 : ¬ (b < 6 ∧ a < 6) := fun z => hc ⟨z.2, z.1⟩
      rw [(zm a b hc).1, (zm a b hc).2, (zm b a hc2).1, (zm b a hc2).2]
      exact ⟨by omega, by omega, rfl, rfl, fun z => absurd z (Nat.lt_irrefl 0)⟩
  · obtain ⟨r, l, p, q, fi, la, fe, le, hX⟩ := h7 e he
    exact ⟨_, _, _, _, _, _, _, _, EX_z hn hX⟩
theorem SI_ex_z {Z : Nat → Int32} (h : SI Z) {e : Nat} (he : e < eZ Z) : EXq (nZ Z) (exY Z e) (rZ Z e) (lZ Z e) (pZ Z e) (qZ Z e) (fiZ Z e) (laZ Z e) (feZ Z e) (leZ Z e) := by
  have hs := SIp_z h
  obtain ⟨r, l, p, q, fi, la, fe, le, hX⟩ := hs.2.2.2.2.2.2.1 e he
  exact EX_z hs.2.1.1 hX
section PZs
variable {N : Nat} {μ μ' : Mem} {t : List Nat} {Z : Nat → Int32} {hs : List (Nat → Int32)}
theorem PZ.rc (h : PZ μ t Z hs) : RC μ 1 Z := by
  obtain ⟨ν, hR, hZ, -⟩ := h
  exact hR.1.mv (fun _ _ _ => rfl) (fun j hj => (hZ j hj).symm)
theorem PZ.si (h : PZ μ t Z hs) : SI Z := by
  obtain ⟨ν, hR, hZ, -⟩ := h
  exact SI.cg hR.2.1 (fun j hj => (hZ j hj).symm)
theorem PZ.z0 (h : PZ μ t Z hs) : μ (543 + 2) 0 = 0 := by
  obtain ⟨ν, hR, -, -⟩ := h
  exact hR.2.2.2.2.2.2.2.1
theorem PZ.ask (h : PZ μ t Z hs) (hf : frm (fun q => 520 ≤ q ∧ q < 546) μ μ') (h0 : μ' (543 + 2) 0 = 0) : PZ μ' t Z hs := by
  obtain ⟨ν, hR, hZ, hH⟩ := h
  exact ⟨ν, hR.ask hf h0 (fun _ _ _ => rfl) frm.rf, hZ, hH⟩
theorem PZ.ask' {X : Nat → Prop} (h : PZ μ t Z hs) (hf : frm X μ μ') (hX : ∀ q, X q → 520 ≤ q ∧ q < 545) : PZ μ' t Z hs :=
  h.ask (hf.mono (fun q hq => ⟨(hX q hq).1, by have := (hX q hq).2; omega⟩)) (by rw [hf _ (fun z => by have := (hX _ z).2; omega)]; exact h.z0)
/-- exhibits' numbers -/
noncomputable def aEx (Z : Nat → Int32) (x : Int32) (f : Nat → Int32) : Nat ⊕ Int32 := if idx (eZ Z) x = true then .inr (f (tn x)) else .inl 0
noncomputable def aPr (Z : Nat → Int32) (x y : Int32) (f : Nat → Nat → Nat ⊕ Int32) : Nat ⊕ Int32 := if (idx (nZ Z) x && idx (nZ Z) y) = true then f (tn x) (tn y) else .inl 0
theorem aEx_t {e : Nat} {f : Nat → Int32} (he : e < eZ Z) (h5 : eZ Z ≤ 5) : aEx Z (nI e) f = .inr (f e) := by
  unfold aEx; rw [if_pos ((idx_nI (by omega) (by omega)).mpr he), tn_nI (by omega)]
theorem aEx_f {x : Int32} {f : Nat → Int32} (h : idx (eZ Z) x = false) : aEx Z x f = .inl 0 := by
  unfold aEx; rw [if_neg (by rw [h]; decide)]
theorem aPr_t {a b : Nat} {f : Nat → Nat → Nat ⊕ Int32} (ha : a < nZ Z) (hb : b < nZ Z) (h6 : nZ Z ≤ 6) : aPr Z (nI a) (nI b) f = f a b := by
  unfold aPr; rw [(idx_nI (by omega) (by omega)).mpr ha, (idx_nI (by omega) (by omega)).mpr hb, Bool.and_self, if_pos rfl, tn_nI (by omega), tn_nI (by omega)]
theorem aPr_f {x y : Int32} {f : Nat → Nat → Nat ⊕ Int32} (h : (idx (nZ Z) x && idx (nZ Z) y) = false) : aPr Z x y f = .inl 0 := by
  unfold aPr; rw [if_neg (by rw [h]; decide)]
/-- an exhibit's number, told -/
theorem z_tell {x : Int32} {k w : Nat} (h : PZ μ t Z hs) (hk : ∀ x Y, RE μ x Y → μ x k = Y w) : Ok (tb (fX10_existing N μ 0 x) fun μ2 r3 => some (μ2, .inr (μ2 r3 k)) : Option (Mem × (Nat ⊕ Int32))) (fun r => PZ r.1 t Z hs ∧ r.2 = aEx Z x (fun e => exY Z e w)) := by
  have hs9 := SIp_z h.si
  have h5 := hs9.2.2.2.2.2.1
  rcases k_existing (N := N) (x := x) (h.rc.1.1.2.1.trans hs9.2.2.2.2.1) h5 with ⟨hx, e1⟩ | ⟨e, he, rfl, hx, e1⟩ <;> rw [e1]
  · exact ok_tbL (e := 0) (μ := μ) rfl ⟨h, (aEx_f hx).symm⟩
  · refine ok_tbR (a := 1 + 16 + 1 + 6 * e) (μ := μ) rfl (ok_some ⟨h, ?_⟩)
    rw [aEx_t he h5]
    exact congrArg Sum.inr (hk _ _ (h.rc.2 e (by omega)))
noncomputable abbrev aRoomOf (Z : Nat → Int32) (x : Int32) := aEx Z x (fun e => exY Z e 0)
noncomputable abbrev aLimit (Z : Nat → Int32) (x : Int32) := aEx Z x (fun e => exY Z e 1)
noncomputable abbrev aDropped (Z : Nat → Int32) (x : Int32) := aEx Z x (fun e => exY Z e 2)
noncomputable abbrev aSpilled (Z : Nat → Int32) (x : Int32) := aEx Z x (fun e => exY Z e 3)
noncomputable abbrev aMelted (Z : Nat → Int32) (x : Int32) := aEx Z x (fun e => exY Z e 4)
noncomputable abbrev aAsked (Z : Nat → Int32) (x : Int32) := aEx Z x (fun e => exY Z e 5)
noncomputable abbrev aTaken (Z : Nat → Int32) (x : Int32) := aEx Z x (fun e => exY Z e 6)
theorem z_roomOf {x : Int32} (h : PZ μ t Z hs) : Ok (fX10_roomOf N μ 0 x) (fun r => PZ r.1 t Z hs ∧ r.2 = aRoomOf Z x) := z_tell (k := 0) (w := 0) h (fun x Y hE => hE.1.1)
theorem z_limit {x : Int32} (h : PZ μ t Z hs) : Ok (fX10_limit N μ 0 x) (fun r => PZ r.1 t Z hs ∧ r.2 = aLimit Z x) := z_tell (k := 1) (w := 1) h (fun x Y hE => hE.1.2.1)
theorem z_dropped {x : Int32} (h : PZ μ t Z hs) : Ok (fX10_dropped N μ 0 x) (fun r => PZ r.1 t Z hs ∧ r.2 = aDropped Z x) := z_tell (k := 3) (w := 2) h (fun x Y hE => hE.1.2.2.1)
theorem z_spilled {x : Int32} (h : PZ μ t Z hs) : Ok (fX10_spilled N μ 0 x) (fun r => PZ r.1 t Z hs ∧ r.2 = aSpilled Z x) := z_tell (k := 4) (w := 3) h (fun x Y hE => hE.1.2.2.2.1)
theorem z_melted {x : Int32} (h : PZ μ t Z hs) : Ok (fX10_melted N μ 0 x) (fun r => PZ r.1 t Z hs ∧ r.2 = aMelted Z x) := z_tell (k := 5) (w := 4) h (fun x Y hE => hE.1.2.2.2.2.1)
theorem z_askedCount {x : Int32} (h : PZ μ t Z hs) : Ok (fX10_askedCount N μ 0 x) (fun r => PZ r.1 t Z hs ∧ r.2 = aAsked Z x) := z_tell (k := 6) (w := 5) h (fun x Y hE => hE.1.2.2.2.2.2.1)
theorem z_takenCount {x : Int32} (h : PZ μ t Z hs) : Ok (fX10_takenCount N μ 0 x) (fun r => PZ r.1 t Z hs ∧ r.2 = aTaken Z x) := z_tell (k := 10) (w := 6) h (fun x Y hE => hE.1.2.2.2.2.2.2)
theorem z_roomCount (h : PZ μ t Z hs) : Ok (fX10_roomCount N μ 0) (fun r => r = nI (nZ Z)) := ⟨_, rfl, h.rc.1.1.1.trans (SIp_z h.si).1⟩
theorem z_exhibitCount (h : PZ μ t Z hs) : Ok (fX10_exhibitCount N μ 0) (fun r => r = nI (eZ Z)) := ⟨_, rfl, h.rc.1.1.2.1.trans (SIp_z h.si).2.2.2.2.1⟩
theorem z_day (h : PZ μ t Z hs) : Ok (fX10_day N μ 0) (fun r => r = Z 2) := ⟨_, rfl, h.rc.1.1.2.2.1⟩
theorem z_income (h : PZ μ t Z hs) : Ok (fX10_income N μ 0) (fun r => r = Z 3) := ⟨_, rfl, h.rc.1.1.2.2.2⟩
noncomputable def aWarmth (Z : Nat → Int32) (x : Int32) : Nat ⊕ Int32 := if idx (nZ Z) x = true then .inr (Z (4 + tn x)) else .inl 0
theorem z_warmth {x : Int32} (h : PZ μ t Z hs) : Ok (fX10_warmth N μ 0 x) (fun r => PZ r.1 t Z hs ∧ r.2 = aWarmth Z x) := by
  have hs9 := SIp_z h.si
  have hn := hs9.2.1.1
  unfold fX10_warmth aWarmth
  rw [k_roomIndexFault (h.rc.1.1.1.trans hs9.1) hn]
  cases hx : idx (nZ Z) x
  · refine ok_bindE rfl ?_
    exact ok_tbL (e := 0) (μ := μ) rfl ⟨h, rfl⟩
  · obtain ⟨j, hj, rfl⟩ := idx_t.mp hx
    refine ok_bindE rfl ?_
    refine ok_tbR (a := ()) (μ := μ) rfl ?_
    refine ok_ag j rfl (by omega) (by decide) (ok_some ⟨h, ?_⟩)
    rw [if_pos rfl, tn_nI (by omega)]
    exact congrArg Sum.inr (h.rc.1.2.1 j (by omega))
noncomputable def aLeg (Z : Nat → Int32) (g : Nat → Nat → Nat) (x y : Int32) : Nat ⊕ Int32 := aPr Z x y (fun a b => if 0 < mZ Z a b then .inr (nI (g a b)) else .inl 3)
theorem missing_z {x y : Int32} (h : PZ μ t Z hs) : (∃ a b, a < nZ Z ∧ b < nZ Z ∧ x = nI a ∧ y = nI b ∧ 0 < mZ Z a b ∧ fX10_missingLegFault N μ 0 x y = some 0) ∨ ((idx (nZ Z) x && idx (nZ Z) y) = false ∧ fX10_missingLegFault N μ 0 x y = some 1) ∨ (∃ a b, a < nZ Z ∧ b < nZ Z ∧ x = nI a ∧ y = nI b ∧ mZ Z a b = 0 ∧ fX10_missingLegFault N μ 0 x y = some 4) := by
  have hs9 := SIp_z h.si
  have hn := hs9.2.1.1
  unfold fX10_missingLegFault
  rw [k_pairFault (h.rc.1.1.1.trans hs9.1) hn, bS]
  cases hxy : (idx (nZ Z) x && idx (nZ Z) y)
  · exact Or.inr (Or.inl ⟨rfl, rfl⟩)
  · rw [Bool.and_eq_true] at hxy
    obtain ⟨a, ha, rfl⟩ := idx_t.mp hxy.1
    obtain ⟨b, hb, rfl⟩ := idx_t.mp hxy.2
    have hj := k_joins (N := N) (a := a) (b := b) hs9.2.1 (cG_of h.rc hs9) (by omega) (by omega)
    by_cases h0 : 0 < mZ Z a b
    · refine Or.inl ⟨a, b, ha, hb, rfl, rfl, h0, ?_⟩
      simp only [jn, if_pos, hj, bS, decide_eq_true h0]
      rfl
    · refine Or.inr (Or.inr ⟨a, b, ha, hb, rfl, rfl, by omega, ?_⟩)
      simp only [jn, if_pos, hj, bS, decide_eq_false h0]
      rfl
theorem z_legMinutes {x y : Int32} (h : PZ μ t Z hs) : Ok (fX10_legMinutes N μ 0 x y) (fun r => PZ r.1 t Z hs ∧ r.2 = aLeg Z (mZ Z) x y) := by
  have hs9 := SIp_z h.si
  have hn := hs9.2.1.1
  unfold fX10_legMinutes aLeg
  rcases missing_z (N := N) (x := x) (y := y) h with ⟨a, b, ha, hb, rfl, rfl, h0, e1⟩ | ⟨hf, e1⟩ | ⟨a, b, ha, hb, rfl, rfl, h0, e1⟩ <;> rw [e1]
  · refine ok_bindE rfl ?_
    refine ok_tbR (a := ()) (μ := μ) rfl ?_
    refine ok_ar a rfl (by omega) (by decide) ?_
    refine ok_ag b rfl (by omega) (by decide) (ok_some ⟨h, ?_⟩)
    rw [aPr_t ha hb hn, if_pos h0]
    exact congrArg Sum.inr ((cG_of h.rc hs9).2.1 a (by omega) b (by omega))
  · exact ok_bindE rfl (ok_tbL (e := 0) (μ := μ) rfl ⟨h, (aPr_f hf).symm⟩)
  · refine ok_bindE rfl (ok_tbL (e := 3) (μ := μ) rfl ⟨h, ?_⟩)
    rw [aPr_t ha hb hn, if_neg (by omega)]
theorem z_legWarmth {x y : Int32} (h : PZ μ t Z hs) : Ok (fX10_legWarmth N μ 0 x y) (fun r => PZ r.1 t Z hs ∧ r.2 = aLeg Z (hZ Z) x y) := by
  have hs9 := SIp_z h.si
  have hn := hs9.2.1.1
  unfold fX10_legWarmth aLeg
  rcases missing_z (N := N) (x := x) (y := y) h with ⟨a, b, ha, hb, rfl, rfl, h0, e1⟩ | ⟨hf, e1⟩ | ⟨a, b, ha, hb, rfl, rfl, h0, e1⟩ <;> rw [e1]
  · refine ok_bindE rfl ?_
    refine ok_tbR (a := ()) (μ := μ) rfl ?_
    refine ok_ar a rfl (by omega) (by decide) ?_
    refine ok_ag b rfl (by omega) (by decide) (ok_some ⟨h, ?_⟩)
    rw [aPr_t ha hb hn, if_pos h0]
    exact congrArg Sum.inr ((cG_of h.rc hs9).2.2 a (by omega) b (by omega))
  · exact ok_bindE rfl (ok_tbL (e := 0) (μ := μ) rfl ⟨h, (aPr_f hf).symm⟩)
  · refine ok_bindE rfl (ok_tbL (e := 3) (μ := μ) rfl ⟨h, ?_⟩)
    rw [aPr_t ha hb hn, if_neg (by omega)]
end PZs
