/-! Pure layer, 23: questions of piles and loans. -/
section QP
variable {N : Nat} {μ ν : Mem} {a0 n ec : Nat} {t : List Nat}
theorem dec_of {lo hi : Nat} {x : Int32} (hlo : lo < 2 ^ 30) (hhi : hi < 2 ^ 30) (h : decide (nI lo ≤ x ∧ x ≤ nI hi) = true) : ∃ j, lo ≤ j ∧ j ≤ hi ∧ x = nI j := by
  obtain ⟨h1, h2⟩ := of_decide_eq_true h
  rcases pk_ix x (show hi + 1 < 2 ^ 31 by omega) with h3 | h3 | ⟨j, hj, rfl⟩
  · have a1 := Int32.lt_iff_toInt_lt.mp h3
    have a2 := Int32.le_iff_toInt_le.mp h1
    rw [nI_toInt (by omega)] at a2
    have e0 : (0 : Int32).toInt = 0 := rfl
    omega
  · have a1 := Int32.le_iff_toInt_le.mp h3
    have a2 := Int32.le_iff_toInt_le.mp h2
    rw [nI_toInt (by omega)] at a1 a2
    omega
  · exact ⟨j, (nI_leI (by omega) (by omega)).mp h1, by omega, rfl⟩
def okD (x y g : Int32) : Bool := decide (0 ≤ x ∧ x ≤ 3) && (decide (0 ≤ y ∧ y ≤ 3) && decide (1 ≤ g ∧ g ≤ 40))
theorem okD_t {x y g : Int32} (h : okD x y g = true) : ∃ a b c, a < 4 ∧ b < 4 ∧ 1 ≤ c ∧ c ≤ 40 ∧ x = nI a ∧ y = nI b ∧ g = nI c := by
  unfold okD at h
  rw [Bool.and_eq_true, Bool.and_eq_true] at h
  obtain ⟨a, -, ha, rfl⟩ := dec_of (lo := 0) (hi := 3) (by decide) (by decide) h.1
  obtain ⟨b, -, hb, rfl⟩ := dec_of (lo := 0) (hi := 3) (by decide) (by decide) h.2.1
  obtain ⟨c, hc, hc2, rfl⟩ := dec_of (lo := 1) (hi := 40) (by decide) (by decide) h.2.2
  exact ⟨a, b, c, by omega, by omega, hc, hc2, rfl, rfl, rfl⟩
theorem placeF {x y : Int32} : fX10_placeFault N μ x y = some (if (decide (0 ≤ x ∧ x ≤ 3) && decide (0 ≤ y ∧ y ≤ 3)) = true then 0 else 2) := by
  unfold fX10_placeFault
  rw [k_isFrom, bS]
  cases decide (0 ≤ x ∧ x ≤ 3)
  · rfl
  · show (jn _ _ : Option Nat) = _
    rw [k_isFrom]
    cases decide (0 ≤ y ∧ y ≤ 3) <;> rfl
theorem dropF {x px py g : Int32} (h : μ 1 4 = nI ec) (he : ec ≤ 5) : fX10_dropFault N μ 0 x px py g = some (if idx ec x = true then (if okD px py g = true then 0 else 2) else 1) := by
  unfold fX10_dropFault okD
  rw [k_hasExhibit h he, bS, k_isFrom, placeF]
  cases idx ec x
  · rfl
  · cases decide (1 ≤ g ∧ g ≤ 40) <;> cases decide (0 ≤ px ∧ px ≤ 3) <;> cases decide (0 ≤ py ∧ py ≤ 3) <;> rfl
theorem wrongM {x px py g : Int32} (h : ν (a0 + 1) 1 = nI ec) (he : ec ≤ 5) : fX11_wrongDrop N ν a0 x px py g = some (if idx ec x = true then (if okD px py g = true then 0 else 2) else 1) := by
  unfold fX11_wrongDrop okD
  rw [m_isExhibit h he, bS, k_inE, k_inE, k_inE]
  cases idx ec x
  · rfl
  · cases decide (1 ≤ g ∧ g ≤ 40) <;> cases decide (0 ≤ px ∧ px ≤ 3) <;> cases decide (0 ≤ py ∧ py ≤ 3) <;> rfl
theorem placeI {a b : Nat} : nI b * 4 + nI a = nI (4 * b + a) := by
  rw [show (4 : Int32) = nI 4 from rfl, pk_mul, nI_add, Nat.mul_comm]
theorem placeM {a b : Nat} : 4 * nI b + nI a = nI (4 * b + a) := by
  rw [show (4 : Int32) = nI 4 from rfl, pk_mul, nI_add]
theorem q_grains {x : Int32} (hN : 20 ≤ N) (h : RR μ ν a0 t) : Ok (fX10_grains N μ 0 x) (fun r => Ok (fX11_grains N ν a0 x) (fun r' => RR r.1 r'.1 a0 t ∧ Sm [0] r.2 r'.1 a0 r'.2)) := by
  obtain ⟨n, ec, mn, ht, hs⟩ := h.2.1
  obtain ⟨-, -, -, -, h1, h5, hE, -⟩ := hs
  unfold fX10_grains fX11_grains
  rw [m_isExhibit h1 h5]
  rcases k_existing (N := N) (x := x) (h.1.1.1.2.1.trans h1) h5 with ⟨hx, e1⟩ | ⟨e, he, rfl, hx, e1⟩ <;> rw [e1, hx]
  · refine ok_tbL (e := 0) (μ := μ) rfl ?_
    refine ok_bindE rfl (ok_bindE m_isThere ?_)
    exact ok_some ⟨h.th _, Or.inr ⟨0, 0, rfl, rfl, mset_at _ _ _ _⟩⟩
  · obtain ⟨r, l, p, q, fi, la, fe, le, hX⟩ := hE e he
    refine ok_tbR (a := 1 + 16 + 1 + 6 * e) (μ := μ) rfl ?_
    refine ok_bind (k_countGrains (by omega) (cP_of (h.1.2 e (by omega)) hX)) ?_
    rintro _ rfl
    refine ok_some ?_
    refine ok_bindE rfl (ok_bindE m_isThere ?_)
    refine ok_jn ?_
    refine ok_bind (k_all (e := e) (p := p) (by omega) (by omega) (fun i hi => ?_)) ?_
    · dsimp only
      rw [mset_ne _ _ _ _ (by omega)]; exact mP_of hX i hi
    · rintro _ rfl
      exact ok_some ⟨h.th _, Or.inl ⟨_, rfl, mset_at _ _ _ _, rfl⟩⟩
theorem q_grainsAt {x px py : Int32} (h : RR μ ν a0 t) : Ok (fX10_grainsAt N μ 0 x px py) (fun r => Ok (fX11_grainsAt N ν a0 x px py) (fun r' => RR r.1 r'.1 a0 t ∧ Sm [0, 1] r.2 r'.1 a0 r'.2)) := by
  obtain ⟨n, ec, mn, ht, hs⟩ := h.2.1
  obtain ⟨-, -, -, -, h1, h5, hE, -⟩ := hs
  unfold fX10_grainsAt fX11_grainsAt
  rw [wrongM h1 h5, bS]
  rcases k_existing (N := N) (x := x) (h.1.1.1.2.1.trans h1) h5 with ⟨hx, e1⟩ | ⟨e, he, rfl, hx, e1⟩ <;> rw [e1, hx]
  · refine ok_tbL (e := 0) (μ := μ) rfl ?_
    refine ok_lt (ok_jn ?_)
    refine ok_ifF (by rw [mset_at]; show ¬ (1 : Int32) ≤ 0; decide) ?_
    exact ok_some ⟨h.th _, Or.inr ⟨0, 0, rfl, rfl, mset_at _ _ _ _⟩⟩
  · obtain ⟨r, l, p, q, fi, la, fe, le, hX⟩ := hE e he
    refine ok_tbR (a := 1 + 16 + 1 + 6 * e) (μ := μ) rfl ?_
    rw [placeF, bS]
    have hok : okD px py 1 = (decide (0 ≤ px ∧ px ≤ 3) && decide (0 ≤ py ∧ py ≤ 3)) := by
      unfold okD
      rw [show decide ((1 : Int32) ≤ 1 ∧ (1 : Int32) ≤ 40) = true by decide, Bool.and_true]
    rw [← hok]
    cases hd : okD px py 1
    · refine ok_tbL (e := 1) (μ := μ) rfl ?_
      refine ok_lt (ok_jn ?_)
      refine ok_ifF (by rw [mset_at]; decide) ?_
      exact ok_some ⟨h.th _, Or.inr ⟨1, 1, rfl, rfl, mset_at _ _ _ _⟩⟩
    · obtain ⟨a, b, c, ha, hb, -, -, rfl, rfl, -⟩ := okD_t hd
      refine ok_tbR (a := ()) (μ := μ) rfl ?_
      refine ok_bindE rfl ?_
      refine ok_ag (4 * b + a) placeI (by omega) (by decide) ?_
      refine ok_some ?_
      refine ok_lt (ok_jn ?_)
      refine ok_ifT (by rw [mset_at]; decide) ?_
      refine ok_bindE (m_of e (7 + (4 * b + a)) (by omega) (by omega) rfl (by
        rw [show (4 : Int32) = nI 4 from rfl, pk_mul, show (7 : Int32) = nI 7 from rfl, nI_add, nI_add]
        exact congrArg nI (by omega))) ?_
      refine ok_some ⟨h.th _, Or.inl ⟨_, rfl, mset_at _ _ _ _, ?_⟩⟩
      show mset ν a0 6 _ (a0 + 1) _ = μ (1 + 16 + 1 + 6 * e + 1) (4 * b + a)
      rw [mset_ne _ _ _ _ (by omega)]
      exact ((h.1.2 e (by omega)).2.1 (4 * b + a) (by omega)).symm
/-- toppling asked for -/
theorem k_triesM {e a b c : Nat} {p : Nat → Nat} (hN : 20000 ≤ N) (he : e < 5) (ha : a < 4) (hb : b < 4) (hc : c ≤ 40) (hp : stab p) (h : mP ν a0 e p) : Ok (fX11_tries N ν a0 (nI e) (nI a) (nI b) (nI c)) (fun r => ∃ l, legal l (updN p (4 * b + a) (p (4 * b + a) + c)) ∧ stab (runT l (updN p (4 * b + a) (p (4 * b + a) + c))) ∧ ArN r.1 (a0 + 7) 16 (runT l (updN p (4 * b + a) (p (4 * b + a) + c))) ∧ r.1 a0 13 = nI (grs (updN p (4 * b + a) (p (4 * b + a) + c)) - grs (runT l (updN p (4 * b + a) (p (4 * b + a) + c)))) ∧ (∀ j, j ≠ 13 → r.1 a0 j = ν a0 j) ∧ frm (fun q => q = a0 ∨ q = a0 + 7 ∨ q = a0 + 8) ν r.1 ∧ r.2 = nI l.length) := by
  have hpo := pot_stab hp
  have hpu := pot_upd (p := p) (g := c) (show 4 * b + a < 16 by omega)
  unfold fX11_tries fX11_takesPile
  have e1 : (82 : Int32) + 147 * nI e + 7 = nI (82 + 147 * e + 7) := by
    rw [show (147 : Int32) = nI 147 from rfl, pk_mul, show (82 : Int32) = nI 82 from rfl, show (7 : Int32) = nI 7 from rfl, nI_add, nI_add]
  refine ok_bind (R := fun m => m = mcp ν (a0 + 1) (a0 + 7) (82 + 147 * e + 7) 0 16) (ok_acp (82 + 147 * e + 7) 0 16 e1 rfl rfl (by omega) (by decide) (by decide) (by decide) (ok_some rfl)) ?_
  rintro _ rfl
  have hm : ArN (mcp ν (a0 + 1) (a0 + 7) (82 + 147 * e + 7) 0 16) (a0 + 7) 16 p := fun i hi => by
    rw [mcp_in (by omega) (by omega), ← h i hi]
    exact congrArg _ (by omega)
  refine ok_ag (4 * b + a) placeM (by omega) (by decide) ?_
  refine ok_aw (4 * b + a) placeM (by omega) (by decide) ?_
  rw [hm (4 * b + a) (by omega)]
  refine ok_bind (k_settles (a0 := a0) hN (hm.set (4 * b + a) _ (nI_add _ _)) (by omega)) ?_
  rintro r ⟨l, h1, h2, h3, h4, h5, h6, h7⟩
  refine ok_some ⟨l, h1, h2, h3, h4, fun j hj => ?_, ?_, h7⟩
  · rw [h5 j hj, mset_ne _ _ _ _ (by omega), mcp_ne (by omega)]
  · exact (frm.set (X := fun q => q = a0 ∨ q = a0 + 7 ∨ q = a0 + 8) (frm.cpy (X := fun q => q = a0 ∨ q = a0 + 7 ∨ q = a0 + 8) frm.rf (Or.inr (Or.inl rfl)) _ _ _) (Or.inr (Or.inl rfl)) _ _).tr h6
theorem q_topplingsIf {x px py g : Int32} (hN : 20000 ≤ N) (h : RR μ ν a0 t) : Ok (fX10_topplingsIf N μ 0 x px py g) (fun r => Ok (fX11_topplingsIf N ν a0 x px py g) (fun r' => RR r.1 r'.1 a0 t ∧ Sm [0, 1] r.2 r'.1 a0 r'.2)) := by
  obtain ⟨n, ec, mn, ht, hs⟩ := h.2.1
  obtain ⟨-, -, -, -, h1, h5, hE, -⟩ := hs
  unfold fX10_topplingsIf fX11_topplingsIf
  rw [dropF (h.1.1.1.2.1.trans h1) h5, wrongM h1 h5, bS, bS]
  cases hx : idx ec x
  · refine ok_tbL (e := 0) (μ := μ) rfl ?_
    refine ok_lt (ok_jn ?_)
    refine ok_ifF (by rw [mset_at]; show ¬ (1 : Int32) ≤ 0; decide) ?_
    exact ok_some ⟨h.th _, Or.inr ⟨0, 0, rfl, rfl, mset_at _ _ _ _⟩⟩
  · obtain ⟨e, he, rfl⟩ := idx_t.mp hx
    cases hd : okD px py g
    · refine ok_tbL (e := 1) (μ := μ) rfl ?_
      refine ok_lt (ok_jn ?_)
      refine ok_ifF (by rw [mset_at]; decide) ?_
      exact ok_some ⟨h.th _, Or.inr ⟨1, 1, rfl, rfl, mset_at _ _ _ _⟩⟩
    · obtain ⟨a, b, c, ha, hb, hc1, hc, rfl, rfl, rfl⟩ := okD_t hd
      obtain ⟨r, l, p, q, fi, la, fe, le, hX⟩ := hE e he
      have hp := hX.2.2.2.2.2.1
      refine ok_tbR (a := ()) (μ := μ) rfl ?_
      refine ok_ar e rfl (by omega) (by decide) ?_
      refine ok_bindE (show fX10_placeAt N μ (nI a) (nI b) = some (nI (4 * b + a)) from congrArg some placeI) ?_
      refine ok_bind (k_tryFall (a0 := 538) (cP_of (h.1.2 e (by omega)) hX) (show 4 * b + a < 16 by omega)) ?_
      rintro m ⟨hm, hf⟩
      have hpo := pot_stab hp
      have hpu := pot_upd (p := p) (g := c) (show 4 * b + a < 16 by omega)
      refine ok_bind (k_toppleByPlaces (a0 := 538) hN (by decide) hm (by omega)) ?_
      rintro ⟨m2, c2⟩ ⟨l1, hl1, hs1, -, -, hf2, hc2, -⟩
      simp only at hf2 hc2
      subst hc2
      refine ok_some ?_
      refine ok_lt (ok_jn ?_)
      refine ok_ifT (by rw [mset_at]; decide) ?_
      refine ok_bind (k_triesM (ν := mset ν a0 6 0) (e := e) (p := p) hN (by omega) ha hb hc hp (fun i hi => by rw [mset_ne _ _ _ _ (by omega)]; exact mP_of hX i hi)) ?_
      rintro ⟨m3, c3⟩ ⟨l2, hl2, hs2, -, -, hsame, hf3, hc3⟩
      simp only at hsame hf3 hc3
      subst hc3
      refine ok_some ⟨?_, Or.inl ⟨_, rfl, ?_, ?_⟩⟩
      · refine (h.th 0).ask ((hf.mono (fun q hq => ?_)).tr (hf2.mono (fun q hq => ?_))) ?_ (fun j h6 h13 => hsame j h13) (hf3.mono (fun q hq => by omega))
        · omega
        · omega
        · show m2 (543 + 2) 0 = 0
          rw [hf2 _ (by omega), hf _ (by omega)]; exact h.2.2.2.2.2.2.2.1
      · show m3 a0 6 = 0
        rw [hsame 6 (by decide), mset_at]
      · exact congrArg nI (abel_len hl2 hs2 hl1 hs1)
theorem q_topplingsIfByRounds {x px py g : Int32} (hN : 20000 ≤ N) (h : RR μ ν a0 t) : Ok (fX10_topplingsIfByRounds N μ 0 x px py g) (fun r => Ok (fX11_topplingsIfByRounds N ν a0 x px py g) (fun r' => RR r.1 r'.1 a0 t ∧ Sm [0, 1] r.2 r'.1 a0 r'.2)) := by
  obtain ⟨n, ec, mn, ht, hs⟩ := h.2.1
  obtain ⟨-, -, -, -, h1, h5, hE, -⟩ := hs
  unfold fX10_topplingsIfByRounds fX11_topplingsIfByRounds fX11_topplingsIf
  rw [dropF (h.1.1.1.2.1.trans h1) h5, wrongM h1 h5, bS, bS]
  cases hx : idx ec x
  · refine ok_tbL (e := 0) (μ := μ) rfl ?_
    refine ok_bind (R := fun r => r = (mset ν a0 6 1, 0)) (ok_lt (ok_jn (ok_ifF (by rw [mset_at]; show ¬ (1 : Int32) ≤ 0; decide) (ok_some rfl)))) ?_
    rintro _ rfl
    exact ok_some ⟨h.th _, Or.inr ⟨0, 0, rfl, rfl, mset_at _ _ _ _⟩⟩
  · obtain ⟨e, he, rfl⟩ := idx_t.mp hx
    cases hd : okD px py g
    · refine ok_tbL (e := 1) (μ := μ) rfl ?_
      refine ok_bind (R := fun r => r = (mset ν a0 6 2, 0)) (ok_lt (ok_jn (ok_ifF (by rw [mset_at]; decide) (ok_some rfl)))) ?_
      rintro _ rfl
      exact ok_some ⟨h.th _, Or.inr ⟨1, 1, rfl, rfl, mset_at _ _ _ _⟩⟩
    · obtain ⟨a, b, c, ha, hb, hc1, hc, rfl, rfl, rfl⟩ := okD_t hd
      obtain ⟨r, l, p, q, fi, la, fe, le, hX⟩ := hE e he
      have hp := hX.2.2.2.2.2.1
      refine ok_tbR (a := ()) (μ := μ) rfl ?_
      refine ok_ar e rfl (by omega) (by decide) ?_
      refine ok_bindE (show fX10_placeAt N μ (nI a) (nI b) = some (nI (4 * b + a)) from congrArg some placeI) ?_
      refine ok_bind (k_tryFall (a0 := 538) (cP_of (h.1.2 e (by omega)) hX) (show 4 * b + a < 16 by omega)) ?_
      rintro m ⟨hm, hf⟩
      have hpo := pot_stab hp
      have hpu := pot_upd (p := p) (g := c) (show 4 * b + a < 16 by omega)
      refine ok_bind (k_toppleByRounds (a0 := 538) hN (by decide) hm (by omega)) ?_
      rintro ⟨m2, c2⟩ ⟨l1, hl1, hs1, hf2, hc2, -⟩
      simp only at hf2 hc2
      subst hc2
      refine ok_some ?_
      refine ok_bind (R := fun r => ∃ l2, legal l2 (updN p (4 * b + a) (p (4 * b + a) + c)) ∧ stab (runT l2 (updN p (4 * b + a) (p (4 * b + a) + c))) ∧ (∀ j, j ≠ 13 → r.1 a0 j = mset ν a0 6 0 a0 j) ∧ frm (fun q => q = a0 ∨ q = a0 + 7 ∨ q = a0 + 8) (mset ν a0 6 0) r.1 ∧ r.2 = nI l2.length) ?_ ?_
      · refine ok_lt (ok_jn ?_)
        refine ok_ifT (by rw [mset_at]; decide) ?_
        refine ok_bind (k_triesM (ν := mset ν a0 6 0) (e := e) (p := p) hN (by omega) ha hb hc hp (fun i hi => by rw [mset_ne _ _ _ _ (by omega)]; exact mP_of hX i hi)) ?_
        rintro ⟨m3, c3⟩ ⟨l2, hl2, hs2, -, -, hsame, hf3, hc3⟩
        exact ok_some ⟨l2, hl2, hs2, hsame, hf3, hc3⟩
      · rintro ⟨m3, c3⟩ ⟨l2, hl2, hs2, hsame, hf3, hc3⟩
        simp only at hsame hf3 hc3
        subst hc3
        refine ok_some ⟨?_, Or.inl ⟨_, rfl, ?_, ?_⟩⟩
        · refine (h.th 0).ask ((hf.mono (fun q hq => ?_)).tr (hf2.mono (fun q hq => ?_))) ?_ (fun j h6 h13 => hsame j h13) (hf3.mono (fun q hq => by omega))
          · omega
          · omega
          · show m2 (543 + 2) 0 = 0
            rw [hf2 _ (by omega), hf _ (by omega)]; exact h.2.2.2.2.2.2.2.1
        · show m3 a0 6 = 0
          rw [hsame 6 (by decide), mset_at]
        · exact congrArg nI (abel_len hl2 hs2 hl1 hs1)
/-! Lasting piles and slopes. -/
theorem lastsM {x : Int32} (hN : 100 ≤ N) (h1 : ν (a0 + 1) 1 = nI ec) (h5 : ec ≤ 5) (hE : ∀ e, e < ec → ∃ p, mP ν a0 e p ∧ stab p) : Ok (fX11_lasts N ν a0 x) (fun r => (idx ec x = false ∧ r = (mset ν a0 6 1, false)) ∨ (∃ e p, e < ec ∧ x = nI e ∧ mP ν a0 e p ∧ stab p ∧ r.1 = mset ν a0 6 0 ∧ (r.2 = true ↔ lasting p))) := by
  unfold fX11_lasts
  rw [m_isExhibit h1 h5, bS, m_isThere, bS]
  cases hx : idx ec x
  · exact ok_some (Or.inl ⟨rfl, rfl⟩)
  · obtain ⟨e, he, rfl⟩ := idx_t.mp hx
    obtain ⟨p, hP, hp⟩ := hE e he
    refine (k_lastsM (μ := mset ν a0 6 0) (e := e) (p := p) hN (by omega) (fun i hi => by rw [mset_ne _ _ _ _ (by omega)]; exact hP i hi) hp).mono (fun r hr => ?_)
    exact Or.inr ⟨e, p, he, rfl, hP, hp, hr.1, hr.2⟩
theorem mP_uniq {e : Nat} {p q : Nat → Nat} (hp : stab p) (hq : stab q) (h1 : mP ν a0 e p) (h2 : mP ν a0 e q) : ∀ i, i < 16 → p i = q i := fun i hi => by
  have a1 := hp i hi
  have a2 := hq i hi
  exact (nI_eq (by omega) (by omega)).mp ((h1 i hi).symm.trans (h2 i hi))
theorem lasting_cg {p q : Nat → Nat} (h : ∀ i, i < 16 → p i = q i) : lasting p ↔ lasting q := by
  have key : ∀ p q : Nat → Nat, (∀ i, i < 16 → p i = q i) → lasting p → lasting q := fun p q h hl ⟨F, hF1, hF2⟩ => hl ⟨F, hF1, fun i hi hFi => by rw [h i hi]; exact hF2 i hi hFi⟩
  exact ⟨key p q h, key q p (fun i hi => (h i hi).symm)⟩
theorem bool_iff {a b : Bool} {P : Prop} (h1 : a = true ↔ P) (h2 : b = true ↔ P) : a = b := by
  cases a <;> cases b
  · rfl
  · exact h1.mpr (h2.mp rfl)
  · exact (h2.mpr (h1.mp rfl)).symm
  · rfl
theorem q_lasts {x : Int32} (hN : 20000 ≤ N) (h : RR μ ν a0 t) : Ok (fX10_lasts N μ 0 x) (fun r => Ok (fX11_lasts N ν a0 x) (fun r' => RR r.1 r'.1 a0 t ∧ Sm [0] r.2 r'.1 a0 r'.2)) := by
  obtain ⟨n, ec, mn, ht, hs⟩ := h.2.1
  obtain ⟨-, -, -, -, h1, h5, hE, -⟩ := hs
  have hM := lastsM (N := N) (x := x) (by omega) h1 h5 (fun e he => by
    obtain ⟨r, l, p, q, fi, la, fe, le, hX⟩ := hE e he
    exact ⟨p, mP_of hX, hX.2.2.2.2.2.1⟩)
  unfold fX10_lasts
  rcases k_existing (N := N) (x := x) (h.1.1.1.2.1.trans h1) h5 with ⟨hx, e1⟩ | ⟨e, he, rfl, hx, e1⟩ <;> rw [e1]
  · refine ok_tbL (e := 0) (μ := μ) rfl (hM.mono (fun r hr => ?_))
    rcases hr with ⟨-, rfl⟩ | ⟨e, p, he, rfl, -⟩
    · exact ⟨h.th _, Or.inr ⟨0, 0, rfl, rfl, mset_at _ _ _ _⟩⟩
    · rw [(idx_nI (by omega) (by omega)).mpr he] at hx; cases hx
  · obtain ⟨r, l, p, q, fi, la, fe, le, hX⟩ := hE e he
    refine ok_tbR (a := 1 + 16 + 1 + 6 * e) (μ := μ) rfl ?_
    refine ok_bind (k_burnsWhole (a0 := 538) (by omega) (by omega) (cP_of (h.1.2 e (by omega)) hX) hX.2.2.2.2.2.1) ?_
    rintro ⟨m, b⟩ ⟨hb, hf⟩
    dsimp only at hb hf
    refine ok_some (hM.mono (fun r' hr => ?_))
    rcases hr with ⟨hx2, -⟩ | ⟨e', p', he', ee, hP', hp', hr1, hr2⟩
    · rw [hx] at hx2; cases hx2
    · have : e = e' := (nI_eq (by omega) (by omega)).mp ee
      subst this
      have hl := lasting_cg (mP_uniq hX.2.2.2.2.2.1 hp' (mP_of hX) hP')
      obtain ⟨m', b'⟩ := r'
      simp only at hr1 hr2
      subst hr1
      refine ⟨(h.th 0).ask (hf.mono (fun q hq => by omega)) ?_ (fun j _ _ => rfl) frm.rf, Or.inl ⟨_, rfl, mset_at _ _ _ _, bool_iff (hr2.trans hl.symm) hb⟩⟩
      show m (543 + 2) 0 = 0
      rw [hf _ (by omega)]; exact h.2.2.2.2.2.2.2.1
theorem q_lastsByToppling {x : Int32} (hN : 20000 ≤ N) (h : RR μ ν a0 t) : Ok (fX10_lastsByToppling N μ 0 x) (fun r => Ok (fX11_lastsByToppling N ν a0 x) (fun r' => RR r.1 r'.1 a0 t ∧ Sm [0] r.2 r'.1 a0 r'.2)) := by
  obtain ⟨n, ec, mn, ht, hs⟩ := h.2.1
  obtain ⟨-, -, -, -, h1, h5, hE, -⟩ := hs
  have hM := lastsM (N := N) (x := x) (by omega) h1 h5 (fun e he => by
    obtain ⟨r, l, p, q, fi, la, fe, le, hX⟩ := hE e he
    exact ⟨p, mP_of hX, hX.2.2.2.2.2.1⟩)
  unfold fX10_lastsByToppling fX11_lastsByToppling
  rcases k_existing (N := N) (x := x) (h.1.1.1.2.1.trans h1) h5 with ⟨hx, e1⟩ | ⟨e, he, rfl, hx, e1⟩ <;> rw [e1]
  · refine ok_tbL (e := 0) (μ := μ) rfl (ok_bind hM (fun r hr => ok_some ?_))
    rcases hr with ⟨-, rfl⟩ | ⟨e, p, he, rfl, -⟩
    · exact ⟨h.th _, Or.inr ⟨0, 0, rfl, rfl, mset_at _ _ _ _⟩⟩
    · rw [(idx_nI (by omega) (by omega)).mpr he] at hx; cases hx
  · obtain ⟨r, l, p, q, fi, la, fe, le, hX⟩ := hE e he
    refine ok_tbR (a := 1 + 16 + 1 + 6 * e) (μ := μ) rfl ?_
    refine ok_bind (k_topplesOnceEach (a0 := 538) (by omega) (by omega) (cP_of (h.1.2 e (by omega)) hX) hX.2.2.2.2.2.1) ?_
    rintro ⟨m, b⟩ ⟨hb, hf⟩
    dsimp only at hb hf
    refine ok_some (ok_bind hM (fun r' hr => ok_some ?_))
    rcases hr with ⟨hx2, -⟩ | ⟨e', p', he', ee, hP', hp', hr1, hr2⟩
    · rw [hx] at hx2; cases hx2
    · have : e = e' := (nI_eq (by omega) (by omega)).mp ee
      subst this
      have hl := lasting_cg (mP_uniq hX.2.2.2.2.2.1 hp' (mP_of hX) hP')
      obtain ⟨m', b'⟩ := r'
      simp only at hr1 hr2
      subst hr1
      refine ⟨(h.th 0).ask (hf.mono (fun q hq => by omega)) ?_ (fun j _ _ => rfl) frm.rf, Or.inl ⟨_, rfl, mset_at _ _ _ _, bool_iff (hr2.trans hl.symm) hb⟩⟩
      show m (543 + 2) 0 = 0
      rw [hf _ (by omega)]; exact h.2.2.2.2.2.2.2.1
end QP
