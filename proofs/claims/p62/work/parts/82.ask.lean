/-! Pure layer, 22: questions, the plain ones. -/
def Sm {A : Type} (L : List Nat) (out : Nat ⊕ A) (ν' : Mem) (a0 : Nat) (ans : A) : Prop := (∃ v, out = .inr v ∧ ν' a0 6 = 0 ∧ ans = v) ∨ ∃ i k, L[i]? = some k ∧ out = .inl k ∧ ν' a0 6 = nI (i + 1)
section QA
variable {N : Nat} {μ ν : Mem} {a0 n ec : Nat} {t : List Nat}
theorem ok_tbR {A O : Type} {μ : Mem} {a : A} {x : Option (Mem × (Nat ⊕ A))} {k : Mem → A → Option (Mem × (Nat ⊕ O))} {P : Mem × (Nat ⊕ O) → Prop} (hx : x = some (μ, .inr a)) (h : Ok (k μ a) P) : Ok (tb x k) P := by subst hx; exact h
theorem ok_tbL {A O : Type} {μ : Mem} {e : Nat} {x : Option (Mem × (Nat ⊕ A))} {k : Mem → A → Option (Mem × (Nat ⊕ O))} {P : Mem × (Nat ⊕ O) → Prop} (hx : x = some (μ, .inl e)) (h : P (μ, .inl e)) : Ok (tb x k) P := by subst hx; exact ⟨_, rfl, h⟩
theorem ok_tb {A O : Type} {x : Option (Mem × (Nat ⊕ A))} {k : Mem → A → Option (Mem × (Nat ⊕ O))} {P : Mem × (Nat ⊕ O) → Prop} {R : Mem × (Nat ⊕ A) → Prop} (hx : Ok x R) (hl : ∀ m e, R (m, .inl e) → P (m, .inl e)) (hr : ∀ m a, R (m, .inr a) → Ok (k m a) P) : Ok (tb x k) P := by
  obtain ⟨⟨m, e | a⟩, rfl, h⟩ := hx
  · exact ⟨_, rfl, hl m e h⟩
  · exact hr m a h
theorem bS {A O : Type} {a : A} {k : A → Option O} : (some a).bind k = k a := rfl
theorem idx_f {x : Int32} (h : idx n x = false) : ∀ j, j < n → x ≠ nI j := fun j hj e => by
  have := idx_t.mpr ⟨j, hj, e⟩
  rw [h] at this; cases this
theorem idx_of {x : Int32} (hn : n < 2 ^ 30) (h1 : ¬ x < 0) (h2 : ¬ nI n ≤ x) : idx n x = true := by
  rcases pk_ix x (show n < 2 ^ 31 by omega) with h | h | h
  · exact absurd h h1
  · exact absurd h h2
  · exact idx_t.mpr h
theorem idx_nI {j : Nat} (hn : n < 2 ^ 30) (hj : j < 2 ^ 30) : idx n (nI j) = true ↔ j < n := by
  rw [idx_t]
  constructor
  · rintro ⟨i, hi, e⟩
    have := (nI_eq (a := j) (b := i) (by omega) (by omega)).mp e
    omega
  · exact fun h => ⟨j, h, rfl⟩
theorem k_hasExhibit {o : Nat} {x : Int32} (h : μ o 4 = nI ec) (he : ec ≤ 5) : fX8_hasExhibit N μ o x = some (idx ec x) := by
  have key : Ok (fX8_hasExhibit N μ o x) (fun r => r = idx ec x) := by
    unfold fX8_hasExhibit
    refine ok_jn1 (fun y : Bool => y = idx ec x) (fun y hy => ok_some hy) (fun j2 hj2 => ?_)
    refine ok_jn1 (fun _ : Unit => idx ec x = false) (fun _ hz => hj2 false hz.symm) (fun j6 hj6 => ?_)
    have hno : x < 0 ∨ nI ec ≤ x → idx ec x = false := fun hor => by
      cases hb : idx ec x
      · rfl
      · obtain ⟨j, hj, rfl⟩ := idx_t.mp hb
        rcases hor with h1 | h1
        · exact absurd h1 (nI_pos (by omega))
        · exact absurd h1 (nI_ge hj (by omega))
    refine ok_if (fun h1 => hj6 () (hno (Or.inl h1))) (fun h1 => ?_)
    rw [h]
    exact ok_if (fun h2 => hj6 () (hno (Or.inr h2))) (fun h2 => hj2 true (idx_of (by omega) h1 h2).symm)
  obtain ⟨r, e, h⟩ := key
  rw [e, h]
theorem k_roomIndexFault {o : Nat} {x : Int32} (h : μ o 0 = nI n) (hn : n ≤ 6) : fX8_roomIndexFault N μ o x = some (if idx n x = true then 0 else 1) := by
  have key : Ok (fX8_roomIndexFault N μ o x) (fun r => r = if idx n x = true then 0 else 1) := by
    unfold fX8_roomIndexFault
    refine ok_jn1 (fun y : Nat => y = if idx n x = true then 0 else 1) (fun y hy => ok_some hy) (fun j2 hj2 => ?_)
    refine ok_jn1 (fun _ : Unit => idx n x = false) (fun _ hz => hj2 1 (by rw [hz]; rfl)) (fun j6 hj6 => ?_)
    have hno : x < 0 ∨ nI n ≤ x → idx n x = false := fun hor => by
      cases hb : idx n x
      · rfl
      · obtain ⟨j, hj, rfl⟩ := idx_t.mp hb
        rcases hor with h1 | h1
        · exact absurd h1 (nI_pos (by omega))
        · exact absurd h1 (nI_ge hj (by omega))
    refine ok_if (fun h1 => hj6 () (hno (Or.inl h1))) (fun h1 => ?_)
    rw [h]
    exact ok_if (fun h2 => hj6 () (hno (Or.inr h2))) (fun h2 => hj2 0 (by rw [if_pos (idx_of (by omega) h1 h2)]))
  obtain ⟨r, e, h⟩ := key
  rw [e, h]
theorem k_pairFault {o : Nat} {x y : Int32} (h : μ o 0 = nI n) (hn : n ≤ 6) : fX8_pairFault N μ o x y = some (if (idx n x && idx n y) = true then 0 else 1) := by
  unfold fX8_pairFault
  rw [k_roomIndexFault h hn]
  cases hx : idx n x
  · rfl
  · show jn _ _ = _
    rw [k_roomIndexFault h hn]
    rfl
theorem in_idx {x : Int32} (hn : n ≤ 6) : decide (0 ≤ x ∧ x ≤ nI n - 1) = idx n x := by
  have hsub : (nI n - 1).toInt = (n : Int) - 1 := pk_sub_toInt (b := 1) (by omega) (by decide)
  cases hb : idx n x
  · refine decide_eq_false fun z => ?_
    have hlt : idx n x = true := idx_of (by omega) (fun w => by
      have a1 := Int32.lt_iff_toInt_lt.mp w
      have a2 := Int32.le_iff_toInt_le.mp z.1
      omega) (fun w => by
      have a1 := Int32.le_iff_toInt_le.mp w
      have a2 := Int32.le_iff_toInt_le.mp z.2
      rw [nI_toInt (by omega)] at a1
      omega)
    rw [hb] at hlt; cases hlt
  · obtain ⟨j, hj, rfl⟩ := idx_t.mp hb
    refine decide_eq_true ⟨nI_pos' (by omega), Int32.le_iff_toInt_le.mpr ?_⟩
    rw [nI_toInt (by omega), hsub]
    omega
theorem m_isRoom {x : Int32} (h : ν (a0 + 1) 0 = nI n) (hn : n ≤ 6) : fX11_isRoom N ν a0 x = some (idx n x) := by
  unfold fX11_isRoom ag
  rw [if_neg (by decide), show (0 : Int32).toNatClampNeg = 0 from rfl, h]
  show (fX11_in N ν x 0 (nI n - 1)).bind _ = _
  rw [k_inE, in_idx hn]; rfl
theorem m_isExhibit {x : Int32} (h : ν (a0 + 1) 1 = nI ec) (hn : ec ≤ 5) : fX11_isExhibit N ν a0 x = some (idx ec x) := by
  unfold fX11_isExhibit ag
  rw [if_neg (by decide), show (1 : Int32).toNatClampNeg = 1 from rfl, h]
  show (fX11_in N ν x 0 (nI ec - 1)).bind _ = _
  rw [k_inE, in_idx (by omega)]; rfl
theorem m_isThere {b : Bool} : fX11_isThere N ν a0 b = some (mset ν a0 6 (nI (!b).toNat), b) := by
  obtain ⟨r, e, h⟩ := k_isThere (N := N) (μ := ν) (a0 := a0) (b := b)
  rw [e, h]
theorem RR.th (h : RR μ ν a0 t) (v : Int32) : RR μ (mset ν a0 6 v) a0 t := h.ask frm.rf h.2.2.2.2.2.2.2.1 (fun j h6 _ => mset_sl _ _ _ _ h6) (frm.set (X := fun q => q = a0 ∨ (a0 + 5 ≤ q ∧ q ≤ a0 + 8)) frm.rf (Or.inl rfl) _ _)
theorem digF {x : Int32} : fX10_digitFault N μ x = some (if decide (0 ≤ x ∧ x ≤ 9) = true then 0 else 2) := by
  unfold fX10_digitFault
  rw [k_isFrom]
  cases decide (0 ≤ x ∧ x ≤ 9) <;> rfl
/-! Numbers asked for plainly. -/
theorem q_roomCount (h : RR μ ν a0 t) : Ok (fX10_roomCount N μ 0) (fun r => Ok (fX11_roomCount N ν a0) (fun r' => RR μ r'.1 a0 t ∧ r'.2 = r)) := by
  refine ⟨_, rfl, ?_⟩
  unfold fX11_roomCount
  refine ok_lt (ok_ag 0 rfl (by decide) (by decide) (ok_some ⟨h.th _, ?_⟩))
  show mset ν a0 6 0 (a0 + 1) 0 = _
  rw [mset_ne _ _ _ _ (by omega)]; exact h.1.1.1.1.symm
theorem q_exhibitCount (h : RR μ ν a0 t) : Ok (fX10_exhibitCount N μ 0) (fun r => Ok (fX11_exhibitCount N ν a0) (fun r' => RR μ r'.1 a0 t ∧ r'.2 = r)) := by
  refine ⟨_, rfl, ?_⟩
  unfold fX11_exhibitCount
  refine ok_lt (ok_ag 1 rfl (by decide) (by decide) (ok_some ⟨h.th _, ?_⟩))
  show mset ν a0 6 0 (a0 + 1) 1 = _
  rw [mset_ne _ _ _ _ (by omega)]; exact h.1.1.1.2.1.symm
theorem q_day (h : RR μ ν a0 t) : Ok (fX10_day N μ 0) (fun r => Ok (fX11_day N ν a0) (fun r' => RR μ r'.1 a0 t ∧ r'.2 = r)) := by
  refine ⟨_, rfl, ?_⟩
  unfold fX11_day
  refine ok_lt (ok_ag 2 rfl (by decide) (by decide) (ok_some ⟨h.th _, ?_⟩))
  show mset ν a0 6 0 (a0 + 1) 2 = _
  rw [mset_ne _ _ _ _ (by omega)]; exact h.1.1.1.2.2.1.symm
theorem q_income (h : RR μ ν a0 t) : Ok (fX10_income N μ 0) (fun r => Ok (fX11_income N ν a0) (fun r' => RR μ r'.1 a0 t ∧ r'.2 = r)) := by
  refine ⟨_, rfl, ?_⟩
  unfold fX11_income
  refine ok_lt (ok_ag 3 rfl (by decide) (by decide) (ok_some ⟨h.th _, ?_⟩))
  show mset ν a0 6 0 (a0 + 1) 3 = _
  rw [mset_ne _ _ _ _ (by omega)]; exact h.1.1.1.2.2.2.symm
theorem q_undoCount (h : RR μ ν a0 t) : Ok (fX10_undoCount N μ 0) (fun r => Ok (fX11_undoCount N ν a0) (fun r' => RR μ r'.1 a0 t ∧ r'.2 = r)) := by
  refine ⟨_, rfl, ?_⟩
  unfold fX11_undoCount
  refine ok_lt (ok_some ⟨h.th _, ?_⟩)
  obtain ⟨f, c, hH⟩ := h.2.2.1
  show mset ν a0 6 0 a0 5 = μ 95 2
  rw [mset_sl _ _ _ _ (by decide), hH.2.2.2.2.1, hH.2.2.2.1]
theorem q_warmth {x : Int32} (h : RR μ ν a0 t) : Ok (fX10_warmth N μ 0 x) (fun r => Ok (fX11_warmth N ν a0 x) (fun r' => RR r.1 r'.1 a0 t ∧ Sm [0] r.2 r'.1 a0 r'.2)) := by
  obtain ⟨n, ec, mn, ht, hs⟩ := h.2.1
  have hn := hs.2.1.1
  unfold fX10_warmth fX11_warmth
  rw [k_roomIndexFault (h.1.1.1.1.trans hs.1) hn, m_isRoom hs.1 hn]
  cases hx : idx n x
  · refine ok_bindE rfl ?_
    refine ok_tbL (e := 0) (μ := μ) rfl ?_
    refine ok_bindE rfl (ok_bindE m_isThere ?_)
    exact ok_some ⟨h.th _, Or.inr ⟨0, 0, rfl, rfl, mset_at _ _ _ _⟩⟩
  · obtain ⟨j, hj, rfl⟩ := idx_t.mp hx
    refine ok_bindE rfl ?_
    refine ok_tbR (a := ()) (μ := μ) rfl ?_
    refine ok_ag j rfl (by omega) (by decide) (ok_some ?_)
    refine ok_bindE rfl (ok_bindE m_isThere ?_)
    refine ok_jn ?_
    refine ok_cdT rfl ?_
    refine ok_ag (4 + j) (nI_add 4 j) (by omega) (by decide) ?_
    refine ok_some ⟨h.th _, Or.inl ⟨_, rfl, mset_at _ _ _ _, ?_⟩⟩
    show mset ν a0 6 _ (a0 + 1) _ = μ (1 + 1) j
    rw [mset_ne _ _ _ _ (by omega)]; exact (h.1.1.2.1 j (by omega)).symm
theorem k_missingLeg {x y : Int32} {mn ht : Nat → Nat → Nat} (h : RC μ 1 (ν (a0 + 1))) (hs : SIp (ν (a0 + 1)) n ec mn ht) : (∃ a b, a < n ∧ b < n ∧ x = nI a ∧ y = nI b ∧ 0 < mn a b ∧ fX10_missingLegFault N μ 0 x y = some 0 ∧ fX11_asksLeg N ν a0 x y = some (mset ν a0 6 0, true)) ∨ (fX10_missingLegFault N μ 0 x y = some 1 ∧ fX11_asksLeg N ν a0 x y = some (mset ν a0 6 1, false)) ∨ (fX10_missingLegFault N μ 0 x y = some 4 ∧ fX11_asksLeg N ν a0 x y = some (mset ν a0 6 2, false)) := by
  have hn := hs.2.1.1
  unfold fX10_missingLegFault fX11_asksLeg
  rw [k_pairFault (h.1.1.1.trans hs.1) hn, m_isRoom hs.1 hn]
  cases hx : idx n x
  · exact Or.inr (Or.inl ⟨rfl, by
      show (jn _ _ : Option (Mem × Bool)) = _
      unfold jn lt
      dsimp only [cond]
      rw [mset_at]
      rfl⟩)
  · cases hy : idx n y
    · exact Or.inr (Or.inl ⟨rfl, by
        show (jn _ _ : Option (Mem × Bool)) = _
        rw [m_isRoom hs.1 hn, hy]
        unfold jn lt
        dsimp only [cond, Option.bind]
        rw [mset_at]
        rfl⟩)
    · obtain ⟨a, ha, rfl⟩ := idx_t.mp hx
      obtain ⟨b, hb, rfl⟩ := idx_t.mp hy
      have hmm := (hs.2.1.2 a b).1
      by_cases h0 : 0 < mn a b
      · refine Or.inl ⟨a, b, ha, hb, rfl, rfl, h0, ?_, ?_⟩
        · show (fX8_joins N μ 1 (nI a) (nI b)).bind _ = _
          rw [k_joins hs.2.1 (cG_of h hs) (by omega) (by omega), decide_eq_true h0]; rfl
        · show (jn _ _ : Option (Mem × Bool)) = _
          rw [m_isRoom hs.1 hn, hy, m_leg (mG_of hs) a b (by omega) (by omega) rfl rfl]
          unfold jn lt
          dsimp only [cond, Option.bind]
          rw [if_neg (nI_ne0 h0 (by omega)), mset_at]
          rfl
      · refine Or.inr (Or.inr ⟨?_, ?_⟩)
        · show (fX8_joins N μ 1 (nI a) (nI b)).bind _ = _
          rw [k_joins hs.2.1 (cG_of h hs) (by omega) (by omega), decide_eq_false h0]; rfl
        · show (jn _ _ : Option (Mem × Bool)) = _
          rw [m_isRoom hs.1 hn, hy, m_leg (mG_of hs) a b (by omega) (by omega) rfl rfl, show mn a b = 0 by omega]
          unfold jn lt
          dsimp only [cond, Option.bind]
          rw [if_pos (show nI 0 = 0 from rfl), mset_at]
          rfl
theorem q_legMinutes {x y : Int32} (h : RR μ ν a0 t) : Ok (fX10_legMinutes N μ 0 x y) (fun r => Ok (fX11_legMinutes N ν a0 x y) (fun r' => RR r.1 r'.1 a0 t ∧ Sm [0, 3] r.2 r'.1 a0 r'.2)) := by
  obtain ⟨n, ec, mn, ht, hs⟩ := h.2.1
  have hn := hs.2.1.1
  unfold fX10_legMinutes fX11_legMinutes
  rcases k_missingLeg (N := N) (x := x) (y := y) h.1 hs with ⟨a, b, ha, hb, rfl, rfl, h0, e1, e2⟩ | ⟨e1, e2⟩ | ⟨e1, e2⟩ <;> rw [e1, e2]
  · refine ok_bindE rfl ?_
    refine ok_tbR (a := ()) (μ := μ) rfl ?_
    refine ok_ar a rfl (by omega) (by decide) ?_
    refine ok_ag b rfl (by omega) (by decide) (ok_some ?_)
    refine ok_jn ?_
    refine ok_bindE (m_leg ((mG_of hs).mv (fun j _ => by dsimp only; rw [mset_ne _ _ _ _ (by omega)])) a b (by omega) (by omega) rfl rfl) ?_
    refine ok_some ⟨h.th _, Or.inl ⟨_, rfl, mset_at _ _ _ _, ?_⟩⟩
    exact ((cG_of h.1 hs).2.1 a (by omega) b (by omega)).symm
  · exact ok_bindE rfl (ok_tbL (e := 0) (μ := μ) rfl (ok_some ⟨h.th _, Or.inr ⟨0, 0, rfl, rfl, mset_at _ _ _ _⟩⟩))
  · exact ok_bindE rfl <| ok_tbL (e := 3) (μ := μ) rfl (ok_some ⟨h.th _, Or.inr ⟨1, 3, rfl, rfl, mset_at _ _ _ _⟩⟩)
theorem q_legWarmth {x y : Int32} (h : RR μ ν a0 t) : Ok (fX10_legWarmth N μ 0 x y) (fun r => Ok (fX11_legWarmth N ν a0 x y) (fun r' => RR r.1 r'.1 a0 t ∧ Sm [0, 3] r.2 r'.1 a0 r'.2)) := by
  obtain ⟨n, ec, mn, ht, hs⟩ := h.2.1
  have hn := hs.2.1.1
  unfold fX10_legWarmth fX11_legWarmth
  rcases k_missingLeg (N := N) (x := x) (y := y) h.1 hs with ⟨a, b, ha, hb, rfl, rfl, h0, e1, e2⟩ | ⟨e1, e2⟩ | ⟨e1, e2⟩ <;> rw [e1, e2]
  · refine ok_bindE rfl ?_
    refine ok_tbR (a := ()) (μ := μ) rfl ?_
    refine ok_ar a rfl (by omega) (by decide) ?_
    refine ok_ag b rfl (by omega) (by decide) (ok_some ?_)
    refine ok_jn ?_
    refine ok_bindE (m_heat ((mG_of hs).mv (fun j _ => by dsimp only; rw [mset_ne _ _ _ _ (by omega)])) a b (by omega) (by omega) rfl rfl) ?_
    refine ok_some ⟨h.th _, Or.inl ⟨_, rfl, mset_at _ _ _ _, ?_⟩⟩
    exact ((cG_of h.1 hs).2.2 a (by omega) b (by omega)).symm
  · exact ok_bindE rfl (ok_tbL (e := 0) (μ := μ) rfl (ok_some ⟨h.th _, Or.inr ⟨0, 0, rfl, rfl, mset_at _ _ _ _⟩⟩))
  · exact ok_bindE rfl <| ok_tbL (e := 3) (μ := μ) rfl (ok_some ⟨h.th _, Or.inr ⟨1, 3, rfl, rfl, mset_at _ _ _ _⟩⟩)
/-! Numbers of an exhibit. -/
theorem k_existing {x : Int32} (h : μ 1 4 = nI ec) (he : ec ≤ 5) : (idx ec x = false ∧ fX10_existing N μ 0 x = some (μ, .inl 0)) ∨ ∃ e, e < ec ∧ x = nI e ∧ idx ec x = true ∧ fX10_existing N μ 0 x = some (μ, .inr (1 + 16 + 1 + 6 * e)) := by
  unfold fX10_existing
  rw [k_hasExhibit h he]
  cases hx : idx ec x
  · exact Or.inl ⟨rfl, rfl⟩
  · obtain ⟨e, he2, rfl⟩ := idx_t.mp hx
    refine Or.inr ⟨e, he2, rfl, rfl, ?_⟩
    rw [bS]
    dsimp only [cond]
    unfold ar
    rw [if_neg (vp_in_nI (by omega) (by decide)), nI_clamp (by omega)]
theorem m_tells {x : Int32} {w : Nat} (hw : w < 147) (h : ν (a0 + 1) 1 = nI ec) (hn : ec ≤ 5) : (idx ec x = false → fX11_tells N ν a0 x (nI w) = some (mset ν a0 6 1, 0)) ∧ ∀ e, e < ec → x = nI e → fX11_tells N ν a0 x (nI w) = some (mset ν a0 6 0, ν (a0 + 1) (82 + 147 * e + w)) := by
  unfold fX11_tells
  rw [m_isExhibit h hn]
  refine ⟨fun hx => ?_, ?_⟩
  · rw [hx, bS, m_isThere]; rfl
  · rintro e he rfl
    rw [(idx_nI (by omega) (by omega)).mpr he]
    rw [bS, m_isThere, bS]
    unfold jn
    dsimp only [cond]
    rw [m_of e w (by omega) hw rfl rfl, mset_ne _ _ _ _ (by omega)]
    rfl
/-- the shape of all questions that tell one number of an exhibit -/
theorem q_tell {x : Int32} {k w : Nat} (hw : w < 147) (h : RR μ ν a0 t) (hk : ∀ x Y, RE μ x Y → μ x k = Y w) : Ok (tb (fX10_existing N μ 0 x) fun μ2 r3 => some (μ2, .inr (μ2 r3 k)) : Option (Mem × (Nat ⊕ Int32))) (fun r => Ok (((fX11_tells N ν a0 x (nI w)).bind fun r1 => some (r1.1, r1.2)) : Option (Mem × Int32)) (fun r' => RR r.1 r'.1 a0 t ∧ Sm [0] r.2 r'.1 a0 r'.2)) := by
  obtain ⟨n, ec, mn, ht, hs⟩ := h.2.1
  obtain ⟨-, -, -, -, h1, h5, -⟩ := hs
  have hm := m_tells (N := N) (x := x) hw h1 h5
  rcases k_existing (N := N) (x := x) (h.1.1.1.2.1.trans h1) h5 with ⟨hx, e1⟩ | ⟨e, he, rfl, hx, e1⟩
  · rw [e1, hm.1 hx]
    exact ok_tbL (e := 0) (μ := μ) rfl (ok_some ⟨h.th _, Or.inr ⟨0, 0, rfl, rfl, mset_at _ _ _ _⟩⟩)
  · rw [e1, hm.2 e he rfl]
    refine ok_tbR (a := 1 + 16 + 1 + 6 * e) (μ := μ) rfl (ok_some ?_)
    exact ok_some ⟨h.th _, Or.inl ⟨_, rfl, mset_at _ _ _ _, (hk _ _ (h.1.2 e (by omega))).symm⟩⟩
theorem q_roomOf {x : Int32} (h : RR μ ν a0 t) : Ok (fX10_roomOf N μ 0 x) (fun r => Ok (fX11_roomOf N ν a0 x) (fun r' => RR r.1 r'.1 a0 t ∧ Sm [0] r.2 r'.1 a0 r'.2)) := q_tell (k := 0) (w := 0) (by decide) h (fun x Y hE => hE.1.1)
theorem q_limit {x : Int32} (h : RR μ ν a0 t) : Ok (fX10_limit N μ 0 x) (fun r => Ok (fX11_limit N ν a0 x) (fun r' => RR r.1 r'.1 a0 t ∧ Sm [0] r.2 r'.1 a0 r'.2)) := q_tell (k := 1) (w := 1) (by decide) h (fun x Y hE => hE.1.2.1)
theorem q_dropped {x : Int32} (h : RR μ ν a0 t) : Ok (fX10_dropped N μ 0 x) (fun r => Ok (fX11_dropped N ν a0 x) (fun r' => RR r.1 r'.1 a0 t ∧ Sm [0] r.2 r'.1 a0 r'.2)) := q_tell (k := 3) (w := 2) (by decide) h (fun x Y hE => hE.1.2.2.1)
theorem q_spilled {x : Int32} (h : RR μ ν a0 t) : Ok (fX10_spilled N μ 0 x) (fun r => Ok (fX11_spilled N ν a0 x) (fun r' => RR r.1 r'.1 a0 t ∧ Sm [0] r.2 r'.1 a0 r'.2)) := q_tell (k := 4) (w := 3) (by decide) h (fun x Y hE => hE.1.2.2.2.1)
theorem q_melted {x : Int32} (h : RR μ ν a0 t) : Ok (fX10_melted N μ 0 x) (fun r => Ok (fX11_melted N ν a0 x) (fun r' => RR r.1 r'.1 a0 t ∧ Sm [0] r.2 r'.1 a0 r'.2)) := q_tell (k := 5) (w := 4) (by decide) h (fun x Y hE => hE.1.2.2.2.2.1)
theorem q_askedCount {x : Int32} (h : RR μ ν a0 t) : Ok (fX10_askedCount N μ 0 x) (fun r => Ok (fX11_askedCount N ν a0 x) (fun r' => RR r.1 r'.1 a0 t ∧ Sm [0] r.2 r'.1 a0 r'.2)) := q_tell (k := 6) (w := 5) (by decide) h (fun x Y hE => hE.1.2.2.2.2.2.1)
theorem q_takenCount {x : Int32} (h : RR μ ν a0 t) : Ok (fX10_takenCount N μ 0 x) (fun r => Ok (fX11_takenCount N ν a0 x) (fun r' => RR r.1 r'.1 a0 t ∧ Sm [0] r.2 r'.1 a0 r'.2)) := q_tell (k := 10) (w := 6) (by decide) h (fun x Y hE => hE.1.2.2.2.2.2.2)
end QA
