/-! Pure layer, 35: the courier's deed. -/
section CT
variable {N : Nat} {μ ν : Mem} {a0 n ec : Nat} {mn ht : Nat → Nat → Nat} {t : List Nat}
/-- is the exhibit lent on that day? -/
abbrev lentP (le : Nat → Nat) (x : Int32) : Prop := ∃ d, d < 100 ∧ x = nI d ∧ 0 < le d
theorem k_lentEnd {o : Nat} {x : Int32} {le : Nat → Nat} (hle : ∀ d, d < 100 → le d ≤ 100) (h : ArN μ (o + 5) 100 le) : Ok (fX1_loanEndOn N μ o x) (fun r => (¬ lentP le x ∧ r = -1) ∨ ∃ d, d < 100 ∧ x = nI d ∧ 0 < le d ∧ r = nI (le d) - 1 ∧ r ≠ -1) := by
  refine (k_loanEndOn (x := x) h).mono ?_
  rintro r (⟨hno, rfl⟩ | ⟨d, hd, rfl, rfl⟩)
  · exact Or.inl ⟨fun ⟨d, hd, e, _⟩ => hno d hd e, rfl⟩
  · by_cases h0 : le d = 0
    · refine Or.inl ⟨?_, (le_m1 (hle d hd)).mpr h0⟩
      rintro ⟨d', hd', e', hp⟩
      have := (nI_eq (a := d) (b := d') (by omega) (by omega)).mp e'
      subst this
      omega
    · exact Or.inr ⟨d, hd, rfl, by omega, rfl, fun z => h0 ((le_m1 (hle d hd)).mp z)⟩
theorem sendF_x {x y : Int32} (hRC : RC μ 1 (ν (a0 + 1))) (hs : SIp (ν (a0 + 1)) n ec mn ht) (hf : (idx ec x && idx n y) = false) : fX10_sendFault N μ 0 x y = some (μ, 1) ∧ fX11_doSend N ν a0 x y = some (mset ν a0 6 (nI 1), 0) := by
  have hn := hs.2.1.1
  have h5 := hs.2.2.2.2.2.1
  constructor
  · unfold fX10_sendFault
    rw [journF hRC hs, bS, hf]; rfl
  · have key : Ok (fX11_doSend N ν a0 x y) (fun r => r = (mset ν a0 6 (nI 1), 0)) := by
      unfold fX11_doSend
      rw [m_isExhibit hs.2.2.2.2.1 h5, bS]
      refine ok_jn1 (fun _ : Unit => True) (fun _ _ => ok_some rfl) (fun j3 hj3 => ?_)
      refine ok_cd (fun h1 => ?_) (fun _ => hj3 () True.intro)
      rw [m_isRoom hs.1 hn, bS]
      refine ok_cd (fun h2 => ?_) (fun _ => hj3 () True.intro)
      rw [h1, h2] at hf; cases hf
    obtain ⟨r, e, h⟩ := key
    rw [e, h]
section SD
variable {e b r l q : Nat} {p fi la fe le : Nat → Nat}
/-- the class finds a fault where the courier is refused -/
theorem sendF_t (hN : 20 ≤ N) (h : ST μ ν a0) (hs : SIp (ν (a0 + 1)) n ec mn ht) (he : e < ec) (hb : b < n) (hX : EXq n (exY (ν (a0 + 1)) e) r l p q fi la fe le) : Ok (fX10_sendFault N μ 0 (nI e) (nI b)) (fun s => (∃ d, d < 100 ∧ ν (a0 + 1) 2 = nI d ∧ 0 < le d ∧ s = (mset (mset μ 0 9 1) 0 10 (nI (le d) - 1), 5)) ∨ (¬ lentP le (ν (a0 + 1) 2) ∧ ∃ d m, d8 n mn b d ∧ frm (fun q => 520 ≤ q ∧ q < 538) μ m ∧ ((d r = cFA ∧ s = (mset (mset m 0 9 2) 0 10 (nI r), 5)) ∨ (d r < cFA ∧ s = (m, 0))))) := by
  obtain ⟨hRC, -, h0⟩ := h
  have h5 := hs.2.2.2.2.2.1
  have hE := hRC.2 e (by omega)
  have hle := hX.2.2.2.2.2.2.2.1.2.2
  unfold fX10_sendFault
  rw [journF hRC hs, bS, (idx_nI (by omega) (by omega)).mpr he, (idx_nI (by have := hs.2.1.1; omega) (by have := hs.2.1.1; omega)).mpr hb]
  refine ok_ifT rfl ?_
  refine ok_ar e rfl (by omega) (by decide) ?_
  rw [show μ 1 6 = ν (a0 + 1) 2 from hRC.1.1.2.2.1]
  refine ok_bind (k_lentEnd (o := 1 + 16 + 1 + 6 * e) (x := ν (a0 + 1) 2) hle (cL_of hE hX).2.2.2.2) ?_
  rintro v (⟨hno, rfl⟩ | ⟨d, hd, ed, hp, rfl, hne⟩)
  · refine ok_ifT rfl ?_
    rw [hE.1.1, show exY (ν (a0 + 1)) e 0 = nI r from hX.1]
    refine ok_bind (k_findWay (a0 := 520) (by omega) hs.2.1 (cG_of hRC hs) (by decide) hX.2.1 hb) ?_
    rintro ⟨m, bb⟩ ⟨hfm, d, h8, hcase⟩
    dsimp only at hfm hcase
    have hfm' : frm (fun q => 520 ≤ q ∧ q < 538) μ m := hfm
    rcases hcase with ⟨c1, rfl, -⟩ | ⟨c1, rfl⟩
    · exact ok_cdT rfl (ok_some (Or.inr ⟨hno, d, m, h8, hfm', Or.inr ⟨c1, rfl⟩⟩))
    · refine ok_cdF rfl ?_
      refine ok_some (Or.inr ⟨hno, d, m, h8, hfm', Or.inl ⟨c1, ?_⟩⟩)
      dsimp only
      rw [hfm' _ (by omega), hE.1.1, show exY (ν (a0 + 1)) e 0 = nI r from hX.1]
  · refine ok_ifF hne ?_
    exact ok_some (Or.inl ⟨d, hd, ed, hp, rfl⟩)
/-- the reference refuses a lent exhibit -/
theorem sendM_l {d : Nat} (hs : SIp (ν (a0 + 1)) n ec mn ht) (he : e < ec) (hb : b < n) (hX : EXq n (exY (ν (a0 + 1)) e) r l p q fi la fe le) (hd : d < 100) (ed : ν (a0 + 1) 2 = nI d) (hp : 0 < le d) : fX11_doSend N ν a0 (nI e) (nI b) = some (mset (mset (mset ν a0 7 1) a0 8 (nI (le d) - 1)) a0 6 2, 0) := by
  have key : Ok (fX11_doSend N ν a0 (nI e) (nI b)) (fun s => s = (mset (mset (mset ν a0 7 1) a0 8 (nI (le d) - 1)) a0 6 2, 0)) := by
    have hn := hs.2.1.1
    have h5 := hs.2.2.2.2.2.1
    have hle := hX.2.2.2.2.2.2.2.1.2.2
    have hl := (mL_of hX).2.2
    unfold fX11_doSend
    rw [m_isExhibit hs.2.2.2.2.1 h5, bS, (idx_nI (by omega) (by omega)).mpr he]
    refine ok_jn (ok_cdT rfl ?_)
    rw [m_isRoom hs.1 hn, bS, (idx_nI (by omega) (by omega)).mpr hb]
    refine ok_cdT rfl ?_
    refine ok_bindE (m_of e 0 (by omega) (by decide) rfl rfl) ?_
    refine ok_ag 2 rfl (by decide) (by decide) ?_
    refine ok_bind (k_lent (e := e) (x := ν (a0 + 1) 2) (le := le) (by omega) hle hl) ?_
    intro bb hbb
    refine ok_cdT (hbb.mpr ⟨d, hd, ed, hp⟩) ?_
    refine ok_ag 2 rfl (by decide) (by decide) ?_
    rw [ed]
    refine ok_bindE (m_of e (47 + d) (by omega) (by omega) rfl (nI_add 47 d)) ?_
    rw [hl d hd]
    exact ok_some rfl
  obtain ⟨s, e1, h⟩ := key
  rw [e1, h]
/-- what the reference does before it looks at the way -/
theorem sendM_w {P : Mem × Int32 → Prop} (hN : 1200000000000 ≤ N) (hs : SIp (ν (a0 + 1)) n ec mn ht) (he : e < ec) (hb : b < n) (hX : EXq n (exY (ν (a0 + 1)) e) r l p q fi la fe le) (hno : ¬ lentP le (ν (a0 + 1) 2)) (h1 : ∀ w F S, mW n mn b F S → F r = 100000 → frm (fun q => q = a0 + 5 ∨ q = a0 + 6) ν w → P (mset (mset (mset w a0 7 2) a0 8 (nI r)) a0 6 2, 0)) (h2 : ∀ w F S, mW n mn b F S → F r ≠ 100000 → frm (fun q => q = a0 + 5 ∨ q = a0 + 6) ν w → ArN w (a0 + 5) 6 F → ArN w (a0 + 6) 6 S → (∀ b, b < 6 → S b ≤ 100000 ∧ F b ≤ 100000) → Ok (fix3 (fun self24 (x21 : Int32) (x22 : Int32) (μ23 : Mem) =>
  if x21 = (nI b) then
  ((fX11_sets N μ23 a0 (nI e) 0 (nI b)).bind fun r27 =>
  some (r27, x22))
  else ((fX11_next N μ23 a0 x21).bind fun r28 =>
  (fX11_heat N μ23 a0 x21 r28).bind fun r29 =>
  (fX11_of N μ23 a0 (nI e) 1).bind fun r30 =>
  (fX11_passed N μ23 r29 r30).bind fun r31 =>
  (fX11_melts N μ23 a0 (nI e) r31).bind fun r32 =>
  lt (x22 + r32.2) fun v33 =>
  self24 r28 v33 r32.1)) N (nI r) 0 w) P) : Ok (fX11_doSend N ν a0 (nI e) (nI b)) P := by
  have hn := hs.2.1.1
  have h5 := hs.2.2.2.2.2.1
  have hle := hX.2.2.2.2.2.2.2.1.2.2
  have hl := (mL_of hX).2.2
  have hr := hX.2.1
  unfold fX11_doSend
  rw [m_isExhibit hs.2.2.2.2.1 h5, bS, (idx_nI (by omega) (by omega)).mpr he]
  refine ok_jn (ok_cdT rfl ?_)
  rw [m_isRoom hs.1 hn, bS, (idx_nI (by omega) (by omega)).mpr hb]
  refine ok_cdT rfl ?_
  refine ok_bindE (m_of e 0 (by omega) (by decide) rfl rfl) ?_
  rw [show ν (a0 + 1) (82 + 147 * e + 0) = nI r from hX.1]
  refine ok_ag 2 rfl (by decide) (by decide) ?_
  refine ok_bind (k_lent (e := e) (x := ν (a0 + 1) 2) (le := le) (by omega) hle hl) ?_
  intro bb hbb
  refine ok_cdF (by cases bb; · rfl
                    · exact absurd (hbb.mp rfl) hno) ?_
  refine ok_bind (k_findsWays hN hs.2.1 (mG_of hs) hb) ?_
  rintro w ⟨F, S, hW, hF, hS, hbd, hf⟩
  refine ok_ag r rfl (by omega) (by decide) ?_
  rw [hF r (by omega)]
  have hb5 := (hbd r (by omega)).2
  refine ok_eqI (F r) 100000 (f := fun hz => ?_) (g := fun hz => ?_)
  · exact ok_some (h1 w F S hW hz hf)
  · exact h2 w F S hW hz hf hF hS hbd
/-- the deed, on both sides -/
theorem sendDeed {d0 : Nat → Nat} (hN : 1200000000000 ≤ N) (h : ST μ ν a0) (hs : SIp (ν (a0 + 1)) n ec mn ht) (he : e < ec) (hb : b < n) (hX : EXq n (exY (ν (a0 + 1)) e) r l p q fi la fe le) (hno : ¬ lentP le (ν (a0 + 1) 2)) (hd0 : d8 n mn b d0) (hlt0 : d0 r < cFA) : Ok (ar 5 (nI e) fun q7 => fX10_carry N μ 0 (1 + 16 + 1 + 6 * q7) (nI b)) (fun s => Ok (fX11_doSend N ν a0 (nI e) (nI b)) (fun s' => DP μ ν a0 s s')) := by
  obtain ⟨hRC, -, h0⟩ := h
  have hn := hs.2.1.1
  have h5 := hs.2.2.2.2.2.1
  have hE := hRC.2 e (by omega)
  have hr := hX.2.1
  have hst := hX.2.2.2.2.2.1
  have hl9 := hX.2.2.2.1
  have hg48 := grs_stab hst
  have e0 : ν (a0 + 1) (82 + 147 * e + 0) = nI r := hX.1
  have e1 : ν (a0 + 1) (82 + 147 * e + 1) = nI l := hX.2.2.1
  have ex2 : μ (1 + 16 + 1 + 6 * e) 3 = ν (a0 + 1) (82 + 147 * e + 2) := hE.1.2.2.1
  have ex3 : μ (1 + 16 + 1 + 6 * e) 4 = ν (a0 + 1) (82 + 147 * e + 3) := hE.1.2.2.2.1
  have ex4 : μ (1 + 16 + 1 + 6 * e) 5 = ν (a0 + 1) (82 + 147 * e + 4) := hE.1.2.2.2.2.1
  have hsum : ν (a0 + 1) (82 + 147 * e + 2) = nI (grs p) + ν (a0 + 1) (82 + 147 * e + 3) + ν (a0 + 1) (82 + 147 * e + 4) := hX.2.2.2.2.2.2.2.2.2.2
  refine ok_ar e rfl (by omega) (by decide) ?_
  unfold fX10_carry
  rw [hE.1.1, show exY (ν (a0 + 1)) e 0 = nI r from hX.1]
  refine ok_bind (k_findWay (a0 := 520) (by omega) hs.2.1 (cG_of hRC hs) (by decide) hr hb) ?_
  rintro ⟨m, bb⟩ ⟨hfm, d, h8, hcase⟩
  dsimp only at hfm hcase
  have hfm' : frm (fun q => 520 ≤ q ∧ q < 538) μ m := hfm
  rcases hcase with ⟨hlt, rfl, hw⟩ | ⟨c1, rfl⟩
  · have hEm : RE m (1 + 16 + 1 + 6 * e) (exY (ν (a0 + 1)) e) := hE.mv (fun q g1 g2 => hfm' q (by omega)) (fun _ _ => rfl)
    have hS5 := (d8_lex h8 hb hr hlt).2
    have hwy := wy_ok hs.2.1 h8 hb hr hlt
    have hpwl := pw_le (d := d) (s := r) hs.2.1 l (d r % 8)
    refine ok_jn (ok_cdT rfl ?_)
    dsimp only
    rw [hEm.1.2.1, show exY (ν (a0 + 1)) e 1 = nI l from e1]
    refine ok_bind (k_passedOnWay (a0 := 0) (by omega) (by omega) hs.2.1 ((cG_of hRC hs).mv (fun q g1 g2 => hfm' q (by omega))) h8 hr hb hlt hw) ?_
    rintro _ rfl
    refine ok_bind (k_melt (a0 := 1 + 16 + 1 + 6 * e) (by omega) (by omega) (cP_of hEm hX) hst) ?_
    rintro ⟨m2, v⟩ ⟨hv, hp2, hm5, hmo, hf2⟩
    dsimp only at hv hp2 hm5 hmo hf2
    subst hv
    refine ok_lt (ok_some ?_)
    generalize hG : grs p = G at *
    generalize hW : pw n mn ht d r l (d r % 8) = W at *
    refine sendM_w hN hs he hb hX hno (fun w F S hmW hz hf => ?_) (fun w F S hmW hz hf hF hS hbd => ?_)
    · rcases ag_of hs.2.1 hb h8 hmW (show r < 6 by omega) with ⟨-, -, -, -, g⟩ | ⟨g, -⟩
      · omega
      · have := g hr; omega
    have hG' : mG ν a0 n mn ht := mG_of hs
    refine ok_fix3 (fun k x21 x22 m3 => ∃ i, i + k = d r % 8 ∧ x21 = nI (wy n mn d r i) ∧ x22 = nI (min (pw n mn ht d r l i) G) ∧ mP m3 a0 e (meltN (min (pw n mn ht d r l i) G) p) ∧ m3 (a0 + 1) (82 + 147 * e + 4) = ν (a0 + 1) (82 + 147 * e + 4) + nI (min (pw n mn ht d r l i) G) ∧ (∀ j, j ≠ 82 + 147 * e + 4 → (∀ i, i < 16 → j ≠ 82 + 147 * e + (7 + i)) → m3 (a0 + 1) j = ν (a0 + 1) j) ∧ frm (fun q => q = a0 + 1) w m3) ?_ N (d r % 8) _ _ _ (by omega) ⟨0, by omega, rfl, ?_, ?_, ?_, ?_, frm.rf⟩
    · rintro k self x21 x22 m3 ⟨i, hi, rfl, rfl, hP3, h34, h3o, hf3⟩ hs1
      obtain ⟨w1, w2, -, w4⟩ := hwy i (by omega)
      have hm3 : mG m3 a0 n mn ht := hG'.mv (fun j hj => h3o j (by omega) (fun i _ => by omega))
      have hle48 : min (pw n mn ht d r l i) G ≤ grs p := by rw [hG]; omega
      have hgm := grs_meltN _ p hle48
      rw [hG] at hgm
      refine ok_eqI (wy n mn d r i) b (f := fun hz => ?_) (g := fun hz => ?_)
      · have hi2 := w4.mp hz
        have hWi : pw n mn ht d r l i = W := by rw [hi2]; exact hW
        rw [hWi] at hP3 h34 hgm ⊢
        refine ok_bindE (m_sets e 0 (by omega) (by decide) rfl rfl) ?_
        refine ok_some ?_
        have hup := ex_up2 (μ' := mset m2 (1 + 16 + 1 + 6 * e) 0 (nI b)) (ν' := mset m3 (a0 + 1) (82 + 147 * e + 0) (nI b)) (r' := b) (p' := meltN (min W G) p) (x2 := ν (a0 + 1) (82 + 147 * e + 2)) (x3 := ν (a0 + 1) (82 + 147 * e + 3)) (x4 := ν (a0 + 1) (82 + 147 * e + 4) + nI (min W G)) hRC hs he hX hb (stab_le hst (fun j _ => meltN_le _ p)) (by
            rw [hsum]
            have e2 : nI G = nI (grs (meltN (min W G) p)) + nI (min W G) := by rw [nI_add]; exact congrArg nI (by omega)
            rw [e2]; ac_rfl) (fun q g1 g2 g3 g4 => by
            rw [mset_ne _ _ _ _ g3, hf2 q (by omega), hfm' q (by omega)]) (fun j j0 j3 j4 j5 => by
            rw [mset_sl _ _ _ _ j0, hmo j j5, hfm' _ (by omega)]) (mset_at _ _ _ _) (by
            rw [mset_sl _ _ _ _ (by decide), hmo _ (by decide), hfm' _ (by omega), ex2]) (by
            rw [mset_sl _ _ _ _ (by decide), hmo _ (by decide), hfm' _ (by omega), ex3]) (by
            rw [mset_sl _ _ _ _ (by decide), hm5, hfm' _ (by omega), ex4]) (hp2.mv (mset_ne _ _ _ _ (by omega))) (fun j g1 g2 => by
            rw [mset_sl _ _ _ _ (g1 0 (by decide) (by decide)), h3o j (g1 4 (by decide) (by decide)) g2]) (mset_at _ _ _ _) (by
            rw [mset_sl _ _ _ _ (by omega), h3o _ (by omega) (fun i _ => by omega)]) (by
            rw [mset_sl _ _ _ _ (by omega), h3o _ (by omega) (fun i _ => by omega)]) (by
            rw [mset_sl _ _ _ _ (by omega), h34]) (fun j hj => by
            rw [mset_sl _ _ _ _ (by omega)]; exact hP3 j hj)
        refine ⟨hup.1, ⟨_, _, _, _, hup.2.1⟩, rfl, ?_, ?_, ?_, fun j _ => ?_⟩
        · exact frm.set (X := fun q => (1 ≤ q ∧ q < 48) ∨ (520 ≤ q ∧ q < 546)) ((hfm'.mono (fun q hq => by omega)).tr (hf2.mono (fun q hq => by omega))) (by omega) _ _
        · dsimp only
          rw [mset_ne _ _ _ _ (by omega), hf2 _ (by omega), hfm' _ (by omega)]; exact h0
        · exact frm.set (X := fun q => q = a0 ∨ q = a0 + 1 ∨ (a0 + 5 ≤ q ∧ q ≤ a0 + 8)) ((hf.mono (fun q hq => by omega)).tr (hf3.mono (fun q hq => by omega))) (by omega) _ _
        · dsimp only
          rw [mset_ne _ _ _ _ (by omega), hf3 _ (by omega), hf _ (by omega)]
      · have hi2 : i ≠ d r % 8 := fun zz => hz (w4.mpr zz)
        obtain ⟨w5, -⟩ := hwy (i + 1) (by omega)
        have hh := (hs.2.1.2 (wy n mn d r i) (wy n mn d r (i + 1))).2.1
        refine ok_bind (k_next (by omega) hs.2.1 hm3 hb h8 hmW (hF.mv (hf3 _ (by omega))) (hS.mv (hf3 _ (by omega))) hbd w1 w2 hz) ?_
        rintro _ rfl
        refine ok_bindE (m_heat hm3 (wy n mn d r i) (wy n mn d r (i + 1)) (by omega) (by omega) rfl rfl) ?_
        refine ok_bindE (m_of e 1 (by omega) (by decide) rfl rfl) ?_
        rw [h3o _ (by omega) (fun i _ => by omega), e1]
        refine ok_bindE (show fX11_passed N m3 (nI (ht (wy n mn d r i) (wy n mn d r (i + 1)))) (nI l) = some (nI (ht (wy n mn d r i) (wy n mn d r (i + 1)) - l)) from congrArg some (passedI (by omega) (by omega))) ?_
        refine ok_bind (k_melts (e := e) (by omega) (by omega) (by omega) hP3 (stab_le hst (fun j _ => meltN_le _ p))) ?_
        rintro ⟨m4, v4⟩ ⟨hv4, hP4, h44, h4o, hf4⟩
        dsimp only at hv4 hP4 h44 h4o hf4
        subst hv4
        have hstep : pw n mn ht d r l (i + 1) = pw n mn ht d r l i + (ht (wy n mn d r i) (wy n mn d r (i + 1)) - l) := rfl
        have hgi : grs (meltN (min (pw n mn ht d r l i) G) p) = G - min (pw n mn ht d r l i) G := by omega
        have htwo := min_two (pw n mn ht d r l i) (ht (wy n mn d r i) (wy n mn d r (i + 1)) - l) G
        rw [← hstep] at htwo
        rw [hgi, ← meltN_add, htwo] at hP4
        rw [hgi] at h44
        refine ok_lt ?_
        dsimp only
        rw [hgi]
        refine hs1 (k - 1) _ _ _ (by omega) ⟨i + 1, by omega, rfl, ?_, hP4, ?_, fun j g1 g2 => ?_, hf3.tr hf4⟩
        · rw [nI_add, htwo]
        · rw [h44, h34, ← htwo, ← nI_add, Int32.add_assoc]
        · rw [h4o j g1 g2, h3o j g1 g2]
    · show (0 : Int32) = nI (min 0 G)
      rw [Nat.zero_min]; rfl
    · intro j hj
      show w (a0 + 1) _ = nI (meltN (min 0 G) p j)
      rw [Nat.zero_min, hf _ (by omega)]
      exact mP_of hX j hj
    · show w (a0 + 1) _ = _ + nI (min 0 G)
      rw [Nat.zero_min, hf _ (by omega), show nI 0 = 0 from rfl, Int32.add_zero]
    · intro j _ _
      rw [hf _ (by omega)]
  · have hcon : ∀ F S, mW n mn b F S → False := fun F S hmW => by
      rcases ag_of hs.2.1 hb hd0 hmW (show r < 6 by omega) with ⟨-, -, -, -, g⟩ | ⟨g, -⟩
      · rcases ag_of hs.2.1 hb h8 hmW (show r < 6 by omega) with ⟨-, g2, -⟩ | ⟨-, g2⟩ <;> omega
      · have := g hr
        omega
    refine ok_jn (ok_cdF rfl (ok_some ?_))
    exact sendM_w hN hs he hb hX hno (fun w F S hmW _ _ => (hcon F S hmW).elim) (fun w F S hmW _ _ _ _ _ => (hcon F S hmW).elim)
end SD
theorem cmd_send {x y : Int32} (hN : 1200000000000 ≤ N) (h : ST μ ν a0) : CMDx [0, 4] a0 (fun q => fX10_sendFault N q 0 x y) (fun m => ar 5 x fun q7 => fX10_carry N m 0 (1 + 16 + 1 + 6 * q7) y) (fun q => fX11_doSend N q a0 x y) μ ν := by
  have hh := h
  obtain ⟨hRC, ⟨n, ec, mn, ht, hs⟩, h0⟩ := h
  have hn := hs.2.1.1
  have h5 := hs.2.2.2.2.2.1
  cases hxy : (idx ec x && idx n y)
  · obtain ⟨e1, e2⟩ := sendF_x (N := N) hRC hs hxy
    exact Or.inl ⟨1, 0, μ, _, _, e1, by decide, by decide, by decide, rfl, e2, mset_at _ _ _ _, frm.rf, h0, fun _ _ _ => rfl, frm.set (X := fun q => q = a0 ∨ (a0 + 5 ≤ q ∧ q ≤ a0 + 8)) frm.rf (Or.inl rfl) _ _, fun j g1 _ _ _ => mset_sl _ _ _ _ g1, Or.inl ⟨rfl, rfl, mset_sl _ _ _ _ (by decide), mset_sl _ _ _ _ (by decide)⟩⟩
  · rw [Bool.and_eq_true] at hxy
    obtain ⟨e, he, rfl⟩ := idx_t.mp hxy.1
    obtain ⟨b, hb, rfl⟩ := idx_t.mp hxy.2
    obtain ⟨r, l, p, q, fi, la, fe, le, hX⟩ := hs.2.2.2.2.2.2.1 e he
    have hr := hX.2.1
    obtain ⟨s, e1, hcase⟩ := sendF_t (N := N) (by omega) hh hs he hb hX
    rcases hcase with ⟨d, hd, ed, hp, rfl⟩ | ⟨hno, d, m, h8, hfm, ⟨hc, rfl⟩ | ⟨hc, rfl⟩⟩
    · have e2 := sendM_l (N := N) hs he hb hX hd ed hp
      refine Or.inl ⟨5, 1, _, _, _, e1, by decide, by decide, by decide, rfl, e2, mset_at _ _ _ _, ?_, ?_, fun j g9 g10 => ?_, ?_, fun j g6 g7 g8 _ => ?_, Or.inr ⟨1, by decide, ?_, ?_, ?_⟩⟩
      · exact frm.set (X := fun q => q = 0 ∨ (520 ≤ q ∧ q < 546)) (frm.set (X := fun q => q = 0 ∨ (520 ≤ q ∧ q < 546)) frm.rf (Or.inl rfl) _ _) (Or.inl rfl) _ _
      · rw [mset_ne _ _ _ _ (by decide), mset_ne _ _ _ _ (by decide)]; exact h0
      · rw [mset_sl _ _ _ _ g10, mset_sl _ _ _ _ g9]
      · exact frm.set (X := fun q => q = a0 ∨ (a0 + 5 ≤ q ∧ q ≤ a0 + 8)) (frm.set (X := fun q => q = a0 ∨ (a0 + 5 ≤ q ∧ q ≤ a0 + 8)) (frm.set (X := fun q => q = a0 ∨ (a0 + 5 ≤ q ∧ q ≤ a0 + 8)) frm.rf (Or.inl rfl) _ _) (Or.inl rfl) _ _) (Or.inl rfl) _ _
      · rw [mset_sl _ _ _ _ g6, mset_sl _ _ _ _ g8, mset_sl _ _ _ _ g7]
      · rw [mset_sl _ _ _ _ (by decide), mset_at]; rfl
      · rw [mset_sl _ _ _ _ (by decide), mset_sl _ _ _ _ (by decide), mset_at]; rfl
      · rw [mset_at, mset_sl _ _ _ _ (by decide), mset_at]
    · obtain ⟨s', e2, hs'⟩ := sendM_w (N := N) (P := fun s' => ∃ w, frm (fun q => q = a0 + 5 ∨ q = a0 + 6) ν w ∧ s' = (mset (mset (mset w a0 7 2) a0 8 (nI r)) a0 6 2, 0)) hN hs he hb hX hno (fun w F S hmW hz hf => ⟨w, hf, rfl⟩) (fun w F S hmW hz hf _ _ _ => by
        exfalso
        rcases ag_of hs.2.1 hb h8 hmW (show r < 6 by omega) with ⟨-, g2, -⟩ | ⟨-, g2⟩
        · omega
        · exact hz g2)
      obtain ⟨w, hf, rfl⟩ := hs'
      refine Or.inl ⟨5, 1, _, _, _, e1, by decide, by decide, by decide, rfl, e2, mset_at _ _ _ _, ?_, ?_, fun j g9 g10 => ?_, ?_, fun j g6 g7 g8 _ => ?_, Or.inr ⟨2, by decide, ?_, ?_, ?_⟩⟩
      · exact frm.set (X := fun q => q = 0 ∨ (520 ≤ q ∧ q < 546)) (frm.set (X := fun q => q = 0 ∨ (520 ≤ q ∧ q < 546)) (hfm.mono (fun q hq => by omega)) (Or.inl rfl) _ _) (Or.inl rfl) _ _
      · rw [mset_ne _ _ _ _ (by decide), mset_ne _ _ _ _ (by decide), hfm _ (by omega)]; exact h0
      · rw [mset_sl _ _ _ _ g10, mset_sl _ _ _ _ g9, hfm _ (by omega)]
      · exact frm.set (X := fun q => q = a0 ∨ (a0 + 5 ≤ q ∧ q ≤ a0 + 8)) (frm.set (X := fun q => q = a0 ∨ (a0 + 5 ≤ q ∧ q ≤ a0 + 8)) (frm.set (X := fun q => q = a0 ∨ (a0 + 5 ≤ q ∧ q ≤ a0 + 8)) (hf.mono (fun q hq => by omega)) (Or.inl rfl) _ _) (Or.inl rfl) _ _) (Or.inl rfl) _ _
      · rw [mset_sl _ _ _ _ g6, mset_sl _ _ _ _ g8, mset_sl _ _ _ _ g7, hf _ (by omega)]
      · rw [mset_sl _ _ _ _ (by decide), mset_at]; rfl
      · rw [mset_sl _ _ _ _ (by decide), mset_sl _ _ _ _ (by decide), mset_at]; rfl
      · rw [mset_at, mset_sl _ _ _ _ (by decide), mset_at]
    · refine Or.inr ⟨⟨m, e1, hfm.mono (fun q hq => by omega), ?_⟩, fun m2 h2 => sendDeed hN h2 hs he hb hX hno h8 hc⟩
      rw [hfm _ (by omega)]; exact h0
theorem o_send {x y : Int32} (hN : 1200000000000 ≤ N) (h : RR μ ν a0 t) : Ok (fX10_send N μ 0 x y) (fun r => Ok (fX11_send N ν a0 x y) (fun r' => RR r.1 r'.1 a0 t ∧ Sm [0, 4] r.2 r'.1 a0 r'.2)) := by
  have hop := op_chgx (N := N) (L := [0, 4]) (fault := fun q => fX10_sendFault N q 0 x y) (deed := fun m => ar 5 x fun q7 => fX10_carry N m 0 (1 + 16 + 1 + 6 * q7) y) (dom := fun q => fX11_doSend N q a0 x y) (by omega) h (cmd_send hN (ST_kp h))
  obtain ⟨r, er, hr⟩ := hop
  refine ⟨r, ?_, hr⟩
  rw [← er]
  unfold fX10_send
  simp only [← ar_bind]
end CT
