/-! Pure layer: what the deeds leave of counts, and what they answer. -/
theorem ok_of {O : Type} {x : Option O} {r : O} {P : O → Prop} (h : x = some r) (hk : Ok x P) : P r := by
  obtain ⟨r2, e, hp⟩ := hk
  cases h.symm.trans e
  exact hp
/-- rooms, exhibits and loans taken behind a deed, and its answer -/
def KP (m : Mem) (r : Mem × Int32) : Prop := r.1 1 0 = m 1 0 ∧ r.1 1 4 = m 1 4 ∧ (∀ e, e < 5 → ∃ k, k ≤ 8 ∧ r.1 (1 + 16 + 1 + 6 * e) 10 = m (1 + 16 + 1 + 6 * e) 10 + nI k) ∧ ∃ v, v < 2 ^ 31 ∧ r.2 = nI v
section DEED
variable {N : Nat} {m : Mem} {Z Z' : Nat → Int32} {r : Mem × Int32}
theorem KP.ek (hk : KP m r) (h : RC m 1 Z) (h' : RC r.1 1 Z') : EK Z Z' r.2 := by
  obtain ⟨k1, k2, k3, v, hv, k4⟩ := hk
  refine ⟨?_, ?_, fun n hT e he => ?_, by rw [k4]; exact nI_pos hv⟩
  · unfold nZ; rw [← h'.1.1.1, k1, h.1.1.1]
  · unfold eZ; rw [← h'.1.1.2.1, k2, h.1.1.2.1]
  · obtain ⟨k, hk8, e1⟩ := k3 e he
    obtain ⟨k0, hk0, e0⟩ := hT e he
    have a1 : r.1 (1 + 16 + 1 + 6 * e) 10 = exY Z' e 6 := (h'.2 e he).1.2.2.2.2.2.2
    have a0 : m (1 + 16 + 1 + 6 * e) 10 = exY Z e 6 := (h.2 e he).1.2.2.2.2.2.2
    exact ⟨k0 + k, by omega, by rw [← a1, e1, a0, e0, nI_add]⟩
theorem add_nI0 (x : Int32) : x = x + nI 0 := (Int32.add_zero x).symm
theorem d_drop {x px py g : Int32} (hN : 20000 ≤ N) (hsi : SI Z) (h : RC m 1 Z) (hf : fX10_dropFault N m 0 x px py g = some 0) (hd : (ar 5 x fun q7 => (fX10_placeAt N m px py).bind fun r11 => fX6_fallOn N m 538 ((1 + 16) + 1 + 6 * q7) r11 g) = some r) : KP m r := by
  have hs := SIp_z hsi
  have h5 := hs.2.2.2.2.2.1
  rw [dropF (h.1.1.2.1.trans hs.2.2.2.2.1) h5] at hf
  have hf := Option.some.inj hf
  cases hx : idx (eZ Z) x
  · rw [hx, if_neg (by decide)] at hf; exact absurd hf (by decide)
  · cases ho : okD px py g
    · rw [hx, ho] at hf; exact absurd hf (by decide)
    · obtain ⟨e, he, rfl⟩ := idx_t.mp hx
      obtain ⟨a, b, c, ha, hb, hc1, hc, rfl, rfl, rfl⟩ := okD_t ho
      have hX := SI_ex_z hsi he
      have hp := hX.2.2.2.2.2.1
      have hk : 4 * b + a < 16 := by omega
      refine ok_of hd (ok_ar e rfl (by omega) (by decide) (ok_bindE rfl ?_))
      rw [placeI]
      refine (k_fallOn (a0 := 538) hN (by omega) (by omega) (cP_of (h.2 e (by omega)) hX) hp hk hc).mono ?_
      rintro ⟨m1, v⟩ ⟨l1, hl1, hs1, hm, h3, h4, hsame, hfr, rfl⟩
      have h1 : m1 1 = m 1 := hfr 1 (by omega)
      have hpot := pot_run l1 _ hl1
      have hpt := pot_try hp hk hc
      refine ⟨by dsimp only; rw [h1], by dsimp only; rw [h1], fun e2 he2 => ⟨0, by omega, ?_⟩, l1.length, by omega, rfl⟩
      rw [← add_nI0]
      by_cases ee : e2 = e
      · subst ee
        exact hsame 10 (by decide) (by decide)
      · exact congrFun (hfr _ (by omega)) 10
theorem d_note {x a b c : Int32} (hsi : SI Z) (h : RC m 1 Z) (hd : (ar 5 x fun q7 => fX1_noteLoan N m (1 + 16 + 1 + 6 * q7) a b c) = some r) : KP m r := by
  obtain ⟨hin, hd⟩ := ar_out hd
  have hq5 : x.toNatClampNeg < 5 := vp_in_lt hin
  generalize x.toNatClampNeg = q at hd hq5
  have h6 : ∃ k, k ≤ 8 ∧ m (1 + 16 + 1 + 6 * q) 6 = nI k := by
    have e1 : m (1 + 16 + 1 + 6 * q) 6 = exY Z q 5 := (h.2 q hq5).1.2.2.2.2.2.1
    by_cases hq : q < eZ Z
    · have hX := SI_ex_z hsi hq
      exact ⟨qZ Z q, hX.2.2.2.2.2.2.2.1.1, e1.trans hX.2.2.2.2.2.2.1⟩
    · have hs := SIp_z hsi
      exact ⟨0, by omega, e1.trans (hs.2.2.2.2.2.2.2 q (by omega) hq5 5 (by decide))⟩
  obtain ⟨k, hk, h6⟩ := h6
  unfold fX1_noteLoan at hd
  obtain ⟨-, hd⟩ := aw_out hd
  obtain ⟨-, hd⟩ := aw_out hd
  obtain ⟨-, hd⟩ := aw_out hd
  have hd := Option.some.inj hd
  rw [← hd]
  refine ⟨?_, ?_, fun e2 he2 => ⟨0, by omega, ?_⟩, k + 1, by omega, ?_⟩
  · dsimp only; rw [mset_ne _ _ _ _ (by omega), mset_ne _ _ _ _ (by omega), mset_ne _ _ _ _ (by omega), mset_ne _ _ _ _ (by omega)]
  · dsimp only; rw [mset_ne _ _ _ _ (by omega), mset_ne _ _ _ _ (by omega), mset_ne _ _ _ _ (by omega), mset_ne _ _ _ _ (by omega)]
  · rw [← add_nI0]
    dsimp only
    rw [mset_el, if_neg (fun z => by omega), mset_ne _ _ _ _ (by omega), mset_ne _ _ _ _ (by omega), mset_ne _ _ _ _ (by omega)]
  · dsimp only
    rw [mset_at, mset_ne _ _ _ _ (by omega), mset_ne _ _ _ _ (by omega), mset_ne _ _ _ _ (by omega), h6]
    exact nI_1 _
theorem d_lend {x : Int32} (hN : 1000 ≤ N) (hsi : SI Z) (h : RC m 1 Z) (hf : fX10_takeFault N m 0 x = some 0) (hd : fX8_lend N m 1 x = some r) : KP m r := by
  have hs := SIp_z hsi
  have h5 := hs.2.2.2.2.2.1
  have m4 : m 1 4 = nI (eZ Z) := h.1.1.2.1.trans hs.2.2.2.2.1
  cases hx : idx (eZ Z) x
  · rw [takeF_x m4 h5 hx] at hf
    exact absurd (Option.some.inj hf) (by decide)
  · obtain ⟨e, he, rfl⟩ := idx_t.mp hx
    have hX := SI_ex_z hsi he
    have hE := h.2 e (by omega)
    have hl := hX.2.2.2.2.2.2.2.1
    have hcL := cL_of hE hX
    refine ok_of hd ?_
    unfold fX8_lend
    refine ok_ar e rfl (by omega) (by decide) ?_
    refine ok_bind (k_bestChoice hN hl hcL) ?_
    rintro _ rfl
    have hq8 := hl.1
    have hC : bsC (qZ Z e) (fiZ Z e) (laZ Z e) (feZ Z e) (leZ Z e) (2 ^ qZ Z e - 1) < 256 := by
      have h1 := bsC_le (q := qZ Z e) (fi := fiZ Z e) (la := laZ Z e) (fe := feZ Z e) (le := leZ Z e) (2 ^ qZ Z e - 1)
      have h2 : 2 ^ qZ Z e ≤ 2 ^ 8 := Nat.pow_le_pow_right (by decide) hq8
      omega
    refine ok_bind (k_feesOf (by omega) hl hcL hC) ?_
    rintro _ rfl
    refine ok_bind (k_takeLoans (by omega) hl hcL hC) ?_
    intro m7 hm7
    obtain ⟨-, -, t10, tsame, tfr⟩ := hm7
    have h1 : m7 1 = m 1 := tfr 1 (by omega)
    have hfe := fees_le hl (bsC (qZ Z e) (fiZ Z e) (laZ Z e) (feZ Z e) (leZ Z e) (2 ^ qZ Z e - 1)).testBit (Nat.le_refl (qZ Z e))
    have hsm : sm (qZ Z e) (fun i => ((bsC (qZ Z e) (fiZ Z e) (laZ Z e) (feZ Z e) (leZ Z e) (2 ^ qZ Z e - 1)).testBit i).toNat) ≤ 1 * qZ Z e := sm_b _ (fun _ _ => toNat_le1 _)
    refine ok_lt (ok_some ⟨?_, ?_, fun e2 he2 => ?_, _, ?_, rfl⟩)
    · dsimp only; rw [mset_sl _ _ _ _ (by decide), h1]
    · dsimp only; rw [mset_sl _ _ _ _ (by decide), h1]
    · dsimp only
      rw [mset_ne _ _ _ _ (by omega)]
      by_cases ee : e2 = e
      · subst ee
        exact ⟨_, by omega, t10⟩
      · exact ⟨0, by omega, by rw [← add_nI0]; exact congrFun (tfr _ (by omega)) 10⟩
    · exact Nat.lt_of_le_of_lt hfe (by decide)
theorem d_days {x : Int32} (hN : 1000 ≤ N) (hsi : SI Z) (h : RC m 1 Z) (hf : fX10_daysFault N m x = some 0) (hd : fX8_letDaysPass N m 1 x = some r) : KP m r := by
  have hs := SIp_z hsi
  have h5 := hs.2.2.2.2.2.1
  have e1 : fX10_daysFault N m x = some (if decide (1 ≤ x ∧ x ≤ 99) = true then 0 else 2) := by
    unfold fX10_daysFault
    rw [k_isFrom, bS]
    cases decide (1 ≤ x ∧ x ≤ 99) <;> rfl
  rw [e1] at hf
  have hf := Option.some.inj hf
  cases hdd : decide (1 ≤ x ∧ x ≤ 99)
  · rw [hdd] at hf; exact absurd hf (by decide)
  · obtain ⟨D, h1, h2, rfl⟩ := dec_of (lo := 1) (hi := 99) (by decide) (by decide) hdd
    obtain ⟨rr, l, P0, q, fi, la, fe, le, w, hG⟩ := dG_of hs
    refine ok_of hd ((k_daysC (ν := fun _ => Z) (a0 := 0) hN h2 h hG rfl).mono ?_)
    rintro ⟨m2, v⟩ ⟨⟨c1, c2, c3, c4⟩, hv⟩
    dsimp only at c1 c2 c3 c4 hv
    have hb : dyT le (fun e => w (rr e) - l e) (Z 2) P0 (eZ Z) D ≤ (9 * eZ Z) * D := sm_b D (fun j _ => sm_b (eZ Z) (fun e he => by
      have hw := (hG.2.2 (rr e) (by have := (hG.2.1 e he).2.1; have := hs.2.1.1; omega)).1
      unfold dyA dmA
      split
      · omega
      · exact Nat.le_trans (Nat.min_le_left (w (rr e) - l e) (grs (dyP le (fun e => w (rr e) - l e) (Z 2) P0 j e))) (by omega)))
    have hb2 : (9 * eZ Z) * D ≤ (9 * 5) * 99 := Nat.mul_le_mul (by omega) h2
    refine ⟨c3 0 (by decide), c3 4 (by decide), fun e he => ⟨0, by omega, ?_⟩, _, ?_, hv⟩
    · rw [← add_nI0]
      dsimp only
      by_cases hee : e < eZ Z
      · exact (c1 e hee).2.2 10 (by decide)
      · exact congrFun (c4 _ (by omega) (fun e2 he2 => ⟨by omega, by omega⟩)) 10
    · exact Nat.lt_of_le_of_lt (Nat.le_trans hb hb2) (by decide)
theorem d_carry {x y : Int32} (hN : 1200000000000 ≤ N) (hsi : SI Z) (h : RC m 1 Z) (hx : (idx (eZ Z) x && idx (nZ Z) y) = true) (hd : (ar 5 x fun q7 => fX10_carry N m 0 (1 + 16 + 1 + 6 * q7) y) = some r) : KP m r := by
  have hs := SIp_z hsi
  have h5 := hs.2.2.2.2.2.1
  rw [Bool.and_eq_true] at hx
  obtain ⟨e, he, rfl⟩ := idx_t.mp hx.1
  obtain ⟨b, hb, rfl⟩ := idx_t.mp hx.2
  have hX := SI_ex_z hsi he
  have hE := h.2 e (by omega)
  have hr := hX.2.1
  have hst := hX.2.2.2.2.2.1
  have hl9 := hX.2.2.2.1
  have hg48 := grs_stab hst
  refine ok_of hd (ok_ar e rfl (by omega) (by decide) ?_)
  unfold fX10_carry
  rw [hE.1.1, show exY Z e 0 = nI (rZ Z e) from hX.1]
  refine ok_bind (k_findWay (a0 := 520) (by omega) hs.2.1 (cG_of h hs) (by decide) hr hb) ?_
  rintro ⟨m1, bb⟩ ⟨hfm, d, h8, hcase⟩
  dsimp only at hfm hcase
  have hfm' : frm (fun q => 520 ≤ q ∧ q < 538) m m1 := hfm
  rcases hcase with ⟨hlt, rfl, hw⟩ | ⟨c1, rfl⟩
  · have hEm : RE m1 (1 + 16 + 1 + 6 * e) (exY Z e) := hE.mv (fun q g1 g2 => hfm' q (by omega)) (fun _ _ => rfl)
    refine ok_jn (ok_cdT rfl ?_)
    dsimp only
    rw [hEm.1.2.1, show exY Z e 1 = nI (lZ Z e) from hX.2.2.1]
    refine ok_bind (k_passedOnWay (a0 := 0) (by omega) (by omega) hs.2.1 ((cG_of h hs).mv (fun q g1 g2 => hfm' q (by omega))) h8 hr hb hlt hw) ?_
    rintro _ rfl
    have hpwl := pw_le (d := d) (s := rZ Z e) hs.2.1 (lZ Z e) (d (rZ Z e) % 8)
    refine ok_bind (k_melt (a0 := 1 + 16 + 1 + 6 * e) (by omega) (by omega) (cP_of hEm hX) hst) ?_
    rintro ⟨m2, v⟩ ⟨hv, hp2, hm5, hmo, hf2⟩
    dsimp only at hv hp2 hm5 hmo hf2
    subst hv
    refine ok_lt (ok_some ⟨?_, ?_, fun e2 he2 => ⟨0, by omega, ?_⟩, _, ?_, rfl⟩)
    · dsimp only; rw [mset_ne _ _ _ _ (by omega), hf2 1 (by omega), hfm' 1 (by omega)]
    · dsimp only; rw [mset_ne _ _ _ _ (by omega), hf2 1 (by omega), hfm' 1 (by omega)]
    · rw [← add_nI0]
      dsimp only
      by_cases ee : e2 = e
      · subst ee
        rw [mset_sl _ _ _ _ (by decide), hmo 10 (by decide), hfm' _ (by omega)]
      · rw [mset_ne _ _ _ _ (by omega), hf2 _ (by omega), hfm' _ (by omega)]
    · have := Nat.min_le_right (pw (nZ Z) (mZ Z) (hZ Z) d (rZ Z e) (lZ Z e) (d (rZ Z e) % 8)) (grs (pZ Z e))
      omega
  · refine ok_jn (ok_cdF rfl (ok_some ⟨?_, ?_, fun e2 he2 => ⟨0, by omega, ?_⟩, 0, by decide, rfl⟩))
    · dsimp only; rw [hfm' 1 (by omega)]
    · dsimp only; rw [hfm' 1 (by omega)]
    · rw [← add_nI0]
      dsimp only
      rw [hfm' _ (by omega)]
theorem d_putLeg {x y m0 w0 : Int32} (hN : 50 ≤ N) (h' : RC r.1 1 Z') (hsi' : SI Z') (hd : fX8_putLeg N m 1 x y m0 w0 = some r) : KP m r := by
  have hs' := SIp_z hsi'
  unfold fX8_putLeg at hd
  obtain ⟨i1, hd⟩ := ar_out hd
  obtain ⟨-, hd⟩ := aw_out hd
  obtain ⟨i2, hd⟩ := ar_out hd
  obtain ⟨-, hd⟩ := aw_out hd
  obtain ⟨-, hd⟩ := ar_out hd
  obtain ⟨-, hd⟩ := aw_out hd
  obtain ⟨-, hd⟩ := ar_out hd
  obtain ⟨-, hd⟩ := aw_out hd
  have hx6 : x.toNatClampNeg < 6 := vp_in_lt i1
  have hy6 : y.toNatClampNeg < 6 := vp_in_lt i2
  obtain ⟨r29, e29, hd⟩ := bd_out hd
  have hd := Option.some.inj hd
  rw [← hd] at h' ⊢
  dsimp only at h'
  have hcnt := ok_of e29 (k_countLegs (by omega) hs'.2.1 (cG_of h' hs'))
  refine ⟨?_, ?_, fun e2 he2 => ⟨0, by omega, ?_⟩, _, Nat.lt_of_le_of_lt (legN_le hs'.2.1) (by decide), hcnt⟩
  · dsimp only; rw [mset_ne _ _ _ _ (by omega), mset_ne _ _ _ _ (by omega), mset_ne _ _ _ _ (by omega), mset_ne _ _ _ _ (by omega)]
  · dsimp only; rw [mset_ne _ _ _ _ (by omega), mset_ne _ _ _ _ (by omega), mset_ne _ _ _ _ (by omega), mset_ne _ _ _ _ (by omega)]
  · rw [← add_nI0]
    dsimp only
    rw [mset_ne _ _ _ _ (by omega), mset_ne _ _ _ _ (by omega), mset_ne _ _ _ _ (by omega), mset_ne _ _ _ _ (by omega)]
/-- a room more -/
theorem d_putRoom {x : Int32} (hsi : SI Z) (h : RC m 1 Z) (h' : RC r.1 1 Z') (hd : fX8_putRoom N m 1 x = some r) : r.2 = nI (nZ Z) ∧ nZ Z' = nZ Z + 1 ∧ eZ Z' = eZ Z ∧ ∀ n, TK Z n → TK Z' n := by
  have hs := SIp_z hsi
  have hn := hs.2.1.1
  have h0 : m 1 0 = nI (nZ Z) := h.1.1.1.trans hs.1
  unfold fX8_putRoom at hd
  obtain ⟨-, hd⟩ := aw_out hd
  have hd := Option.some.inj hd
  rw [← hd] at h' ⊢
  dsimp only at h' ⊢
  rw [mset_at, mset_ne _ _ _ _ (by decide), h0, nI_1]
  refine ⟨nI_pred _, ?_, ?_, fun n hT e he => ?_⟩
  · unfold nZ
    rw [← h'.1.1.1, mset_at, mset_ne _ _ _ _ (by decide), h0, nI_1]
    exact tn_nI (by omega)
  · unfold eZ
    rw [← h'.1.1.2.1, mset_sl _ _ _ _ (by decide), mset_ne _ _ _ _ (by decide), h.1.1.2.1]
  · obtain ⟨k, hk, e0⟩ := hT e he
    have a1 := (h'.2 e he).1.2.2.2.2.2.2
    have a0 : m (1 + 16 + 1 + 6 * e) 10 = exY Z e 6 := (h.2 e he).1.2.2.2.2.2.2
    rw [mset_ne _ _ _ _ (by omega), mset_ne _ _ _ _ (by omega), a0] at a1
    exact ⟨k, hk, a1.symm.trans e0⟩
/-- an exhibit more -/
theorem d_putExhibit {x y : Int32} (hsi : SI Z) (h : RC m 1 Z) (h' : RC r.1 1 Z') (hd : fX8_putExhibit N m 1 x y = some r) : r.2 = nI (eZ Z) ∧ eZ Z' = eZ Z + 1 ∧ nZ Z' = nZ Z ∧ ∀ n, TK Z n → TK Z' n := by
  have hs := SIp_z hsi
  have h5 := hs.2.2.2.2.2.1
  have h0 : m 1 4 = nI (eZ Z) := h.1.1.2.1.trans hs.2.2.2.2.1
  unfold fX8_putExhibit at hd
  obtain ⟨i1, hd⟩ := ar_out hd
  have hq5 : (m 1 4).toNatClampNeg < 5 := vp_in_lt i1
  generalize (m 1 4).toNatClampNeg = q at hd hq5
  have hd := Option.some.inj hd
  rw [← hd] at h' ⊢
  dsimp only at h' ⊢
  rw [mset_at, mset_ne _ _ _ _ (by omega), mset_ne _ _ _ _ (by omega), h0, nI_1]
  refine ⟨nI_pred _, ?_, ?_, fun n hT e he => ?_⟩
  · unfold eZ
    rw [← h'.1.1.2.1, mset_at, mset_ne _ _ _ _ (by omega), mset_ne _ _ _ _ (by omega), h0, nI_1]
    exact tn_nI (by omega)
  · unfold nZ
    rw [← h'.1.1.1, mset_sl _ _ _ _ (by decide), mset_ne _ _ _ _ (by omega), mset_ne _ _ _ _ (by omega), h.1.1.1]
  · obtain ⟨k, hk, e0⟩ := hT e he
    have a1 := (h'.2 e he).1.2.2.2.2.2.2
    have a0 : m (1 + 16 + 1 + 6 * e) 10 = exY Z e 6 := (h.2 e he).1.2.2.2.2.2.2
    rw [mset_ne _ _ _ _ (by omega), mset_el, if_neg (fun z => by omega), mset_el, if_neg (fun z => by omega), a0] at a1
    exact ⟨k, hk, a1.symm.trans e0⟩
end DEED
