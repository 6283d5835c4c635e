/-! Pure layer: the law's loans hold; its sum answers. -/
section LOANS
variable {N : Nat} {Z : Nat → Int32}
theorem wl_ex {e : Nat} (he : e < eZ Z) (h5 : eZ Z ≤ 5) : wL_asked Z (nI e) = exY Z e 5 ∧ wL_taken Z (nI e) = exY Z e 6 ∧ wL_byTrials Z (nI e) = wL_bestFees Z (nI e) ∧ wL_bestFees Z (nI e) = nI (fees (qZ Z e) (feZ Z e) (bsC (qZ Z e) (fiZ Z e) (laZ Z e) (feZ Z e) (leZ Z e) (2 ^ (qZ Z e) - 1)).testBit) := by
  refine ⟨?_, ?_, rfl, ?_⟩
  · unfold wL_asked aAsked; rw [aEx_t he h5]; rfl
  · unfold wL_taken aTaken; rw [aEx_t he h5]; rfl
  · unfold wL_bestFees aFees; rw [aEx_t he h5]; rfl
theorem wl_exx {x : Int32} (h : idx (eZ Z) x = false) : wL_asked Z x = -11 ∧ wL_taken Z x = -11 ∧ wL_bestFees Z x = -11 ∧ wL_byTrials Z x = -11 ∧ ∀ y, wL_isLent Z x y = -11 := by
  refine ⟨?_, ?_, ?_, ?_, fun y => ?_⟩
  · unfold wL_asked aAsked; rw [aEx_f h]; rfl
  · unfold wL_taken aTaken; rw [aEx_f h]; rfl
  · unfold wL_bestFees aFees; rw [aEx_f h]; rfl
  · unfold wL_byTrials aFees; rw [aEx_f h]; rfl
  · unfold wL_isLent aLent; rw [aExB_f h]; rfl
theorem wl_lent {e : Nat} {y : Int32} (he : e < eZ Z) (h5 : eZ Z ≤ 5) (hy : ∀ d, d < 100 → y ≠ nI d) : wL_isLent Z (nI e) y = 0 := by
  unfold wL_isLent aLent
  rw [aExB_t he h5]
  have : tB (∃ d, d < 100 ∧ y = nI d ∧ 0 < leZ Z e d) = false := by
    cases hb : tB (∃ d, d < 100 ∧ y = nI d ∧ 0 < leZ Z e d)
    · rfl
    · obtain ⟨d, hd, e9, -⟩ := tB_t.mp hb
      exact absurd e9 (hy d hd)
  rw [this]; rfl
theorem idx_ende (h5 : eZ Z ≤ 5) : idx (eZ Z) (nI (eZ Z)) = false := by
  refine decide_eq_false ?_
  rintro ⟨j, hj, e⟩
  have := (nI_eq (by omega) (by omega)).mp e
  omega
set_option maxHeartbeats 4000000 in
set_option maxRecDepth 100000 in
theorem k_loans {K : Nat} (hN : 1000 ≤ N) (hsi : SI Z) (htk : ∀ e, e < eZ Z → ¬ exY Z e 6 < 0) (hK : 100 ≤ K) : Ok (fL_loans N Z K) (fun r => r = true) := by
  have hs := SIp_z hsi
  have h5 := hs.2.2.2.2.2.1
  unfold fL_loans
  refine ok_gd (Nat.zero_le _) (ok_lt ?_)
  refine ok_fix2 (fun k x4 κ => ∃ i, i + k = eZ Z ∧ x4 = nI i ∧ κ ≤ i * 10) ?_ N (eZ Z) _ _ (by omega) ⟨0, by omega, rfl, by omega⟩
  rintro k1 self6 x4 κ5 ⟨i, hi, rfl, hκ⟩ hself
  refine ok_le (eZ Z) i (f := fun hc => ?_) (g := fun hc => ?_)
  · have hx := wl_exx (Z := Z) (idx_ende h5)
    have hm : idx (eZ Z) (-1) = false := idx_m1 (by omega)
    rw [hx.1, hx.2.1, hx.2.2.1, (wl_exx (Z := Z) hm).2.2.2.1, hx.2.2.2.2 0]
    refine ok_gd (by omega) (ok_jn (ok_jn ?_))
    refine ok_ifT rfl (ok_gd (by omega) ?_)
    refine ok_ifT rfl (ok_gd (by omega) ?_)
    refine ok_ifT rfl (ok_gd (by omega) ?_)
    refine ok_ifT rfl (ok_gd (by omega) ?_)
    refine ok_ifT rfl ?_
    exact ok_gd (by omega) (ok_some rfl)
  · have hX := SI_ex_z hsi hc
    obtain ⟨e1, e2, e3, e4⟩ := wl_ex hc h5
    have hq : exY Z i 5 = nI (qZ Z i) := hX.2.2.2.2.2.2.1
    have hq8 := hX.2.2.2.2.2.2.2.1.1
    have hl1 : wL_isLent Z (nI i) (-1) = 0 := wl_lent hc h5 (fun d hd => fun z => nI_m1 (show d < 2 ^ 31 by omega) z.symm)
    have hl2 : wL_isLent Z (nI i) 100 = 0 := wl_lent hc h5 (fun d hd => fun z => by have := (nI_eq (a := 100) (b := d) (by omega) (by omega)).mp z; omega)
    have go : ∀ κ, κ ≤ (i + 1) * 10 → Ok (lt (nI i + 1) fun v => self6 v κ) (fun r => r = true) := fun κ hk => ok_lt (hself (k1 - 1) _ _ (by omega) ⟨i + 1, by omega, nI_1 _, hk⟩)
    have hfe := fees_le hX.2.2.2.2.2.2.2.1 (bsC (qZ Z i) (fiZ Z i) (laZ Z i) (feZ Z i) (leZ Z i) (2 ^ (qZ Z i) - 1)).testBit (Nat.le_refl (qZ Z i))
    refine ok_gd (by omega) (ok_gd (by omega) (ok_jn ?_))
    refine ok_ifT e3.symm (ok_gd (by omega) ?_)
    rw [e1, e2, hq, hl1, hl2]
    refine ok_ifF (nI_pos (by omega)) (ok_gd (by omega) ?_)
    refine ok_ifF (fun z => ?_) (ok_gd (by omega) ?_)
    · have := (nI_ltI (a := 8) (b := qZ Z i) (by decide) (by omega)).mp z
      omega
    refine ok_ifF (htk i hc) (ok_gd (by omega) (ok_jn ?_))
    have done : ∀ κ, κ ≤ κ5 + 8 → Ok (gd ((κ + 1) ≤ K) <| if (0 : Int32) = 0 then (gd ((κ + 2) ≤ K) <| if (0 : Int32) = 0 then (lt (nI i + 1) fun v52 => self6 v52 (κ + 2)) else (gd (κ + 2 ≤ K) <| some false)) else (gd (κ + 1 ≤ K) <| some false)) (fun r => r = true) := fun κ hk => ok_gd (by omega) (ok_ifT rfl (ok_gd (by omega) (ok_ifT rfl (go _ (by omega)))))
    refine ok_if (fun _ => done _ (by omega)) (fun hpos => ok_gd (by omega) (ok_ifF (fun hz => ?_) (done _ (by omega))))
    have hq0 : qZ Z i = 0 := (nI_eq (b := 0) (by omega) (by decide)).mp hz
    refine hpos ?_
    rw [e4, hq0]
    exact Int32.le_refl _
theorem k_sum (hN : 1000 ≤ N) (hsi : SI Z) : Ok (fL_sum N Z 1000) (fun _ => True) := by
  have hs := SIp_z hsi
  have hn := hs.2.1.1
  have h5 := hs.2.2.2.2.2.1
  unfold fL_sum
  refine ok_gd (Nat.zero_le _) (ok_lt (ok_gd (Nat.zero_le _) (ok_lt ?_)))
  refine ok_fix3 (fun k _ x8 κ => ∃ i, i + k = nZ Z ∧ x8 = nI i ∧ κ ≤ i * 20) ?_ N (nZ Z) _ _ _ (by omega) ⟨0, by omega, rfl, by omega⟩
  rintro k1 self10 x7 x8 κ9 ⟨i, hi, rfl, hκ⟩ hself
  refine ok_gd (by omega) ?_
  refine ok_le (nZ Z) i (f := fun hc => ?_) (g := fun hc => ?_)
  · refine ok_fix3 (fun k _ x15 κ => ∃ j, j + k = eZ Z ∧ x15 = nI j ∧ κ ≤ 120 + j * 140) ?_ N (eZ Z) _ _ _ (by omega) ⟨0, by omega, rfl, by omega⟩
    rintro k2 self17 x14 x15 κ16 ⟨j, hj, rfl, hκ2⟩ hself2
    refine ok_gd (by omega) ?_
    refine ok_le (eZ Z) j (f := fun hc2 => ?_) (g := fun hc2 => ?_)
    · exact ok_gd (by omega) (ok_gd (by omega) (ok_gd (by omega) (ok_some True.intro)))
    · refine ok_gd (by omega) (ok_bindE (gR_e hc2 h5) (ok_gd (by omega) (ok_bindE (gR_e hc2 h5) (ok_lt ?_))))
      refine ok_gd (by omega) (ok_bindE (gR_e hc2 h5) (ok_gd (by omega) (ok_bindE (gR_e hc2 h5) (ok_lt ?_))))
      refine ok_gd (by omega) (ok_bindE (gR_e hc2 h5) (ok_gd (by omega) (ok_bindE (gR_e hc2 h5) (ok_gd (by omega) (ok_bindE (gR_e hc2 h5) (ok_lt ?_))))))
      refine ok_fix3 (fun k _ x52 κ => ∃ q, q + k = 16 ∧ x52 = nI q ∧ κ = κ16 + 7 + 2 * q) ?_ N 16 _ _ _ (by omega) ⟨0, by omega, rfl, rfl⟩
      rintro k3 self54 x51 x52 κ53 ⟨q, hq, rfl, rfl⟩ hself3
      refine ok_le 16 q (f := fun hc3 => ?_) (g := fun hc3 => ?_)
      · refine ok_fix3 (fun k _ x58 κ => ∃ d, d + k = 100 ∧ x58 = nI d ∧ κ = κ16 + 7 + 2 * q + d) ?_ N 100 _ _ _ (by omega) ⟨0, by omega, rfl, rfl⟩
        rintro k4 self60 x57 x58 κ59 ⟨d, hd, rfl, rfl⟩ hself4
        refine ok_le 100 d (f := fun hc4 => ?_) (g := fun hc4 => ?_)
        · exact ok_lt (hself2 (k2 - 1) _ _ _ (by omega) ⟨j + 1, by omega, nI_1 _, by omega⟩)
        · refine ok_gd (by omega) (ok_bindE (gR_b hc2 h5) (ok_jn ?_))
          have go : ∀ b : Bool, Ok (lt (((3 : Int64) * x57) + (Int32.toInt64 (b2i b))) fun v73 => lt (nI d + 1) fun v75 => self60 v73 v75 (κ16 + 7 + 2 * q + d + 1)) (fun _ => True) := fun b => ok_lt (ok_lt (hself4 (k4 - 1) _ _ _ (by omega) ⟨d + 1, by omega, nI_1 _, by omega⟩))
          exact ok_cd (fun _ => go true) (fun _ => go false)
      · refine ok_gd (by omega) ?_
        have e4 : nI q / 4 = nI (q / 4) := pk_div (a := q) (d := 4) (by omega) (by decide) (by decide)
        have e5 : nI q - nI (q / 4) * 4 = nI (q % 4) := by
          rw [show (4 : Int32) = nI 4 from rfl, pk_mul, pk_sub (by omega)]
          exact congrArg nI (by omega)
        rw [e4, e5]
        refine ok_bindE (show gR (aGrainsAt Z (nI j) (nI (q % 4)) (nI (q / 4))) = some (nI (pZ Z j (4 * (q / 4) + q % 4))) from ?_) (ok_lt (ok_lt (hself3 (k3 - 1) _ _ _ (by omega) ⟨q + 1, by omega, nI_1 _, by omega⟩)))
        unfold aGrainsAt
        rw [if_pos ((idx_nI (by omega) (by omega)).mpr hc2), decide_eq_true ⟨nI_pos' (by omega), nI_le (show q % 4 ≤ 3 by omega) (by decide)⟩, decide_eq_true ⟨nI_pos' (by omega), nI_le (show q / 4 ≤ 3 by omega) (by decide)⟩, Bool.and_self, if_pos rfl, tn_nI (by omega), tn_nI (by omega), tn_nI (by omega)]
        rfl
  · refine ok_gd (by omega) ?_
    refine ok_bindE (show gR (aWarmth Z (nI i)) = some (Z (4 + i)) from ?_) (ok_lt ?_)
    · unfold aWarmth
      rw [if_pos ((idx_nI (by omega) (by omega)).mpr hc), tn_nI (by omega)]; rfl
    refine ok_fix3 (fun k _ x91 κ => ∃ q, q + k = i ∧ x91 = nI q ∧ κ = κ9 + 1 + 2 * q) ?_ N i _ _ _ (by omega) ⟨0, by omega, rfl, rfl⟩
    rintro k3 self93 x90 x91 κ92 ⟨q, hq, rfl, rfl⟩ hself3
    refine ok_le i q (f := fun hc3 => ?_) (g := fun hc3 => ?_)
    · exact ok_lt (hself (k1 - 1) _ _ _ (by omega) ⟨i + 1, by omega, nI_1 _, by omega⟩)
    · exact ok_gd (by omega) (ok_gd (by omega) (ok_lt (ok_lt (hself3 (k3 - 1) _ _ _ (by omega) ⟨q + 1, by omega, nI_1 _, by omega⟩))))
end LOANS
