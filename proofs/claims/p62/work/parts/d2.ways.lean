/-! Pure layer: the law's ways hold. -/
theorem idx_m1 {n : Nat} (hn : n ≤ 6) : idx n (-1) = false := by
  refine decide_eq_false ?_
  rintro ⟨j, hj, e⟩
  exact nI_m1 (show j < 2 ^ 31 by omega) e.symm
theorem idx_end {n : Nat} (hn : n ≤ 6) : idx n (nI n) = false := by
  refine decide_eq_false ?_
  rintro ⟨j, hj, e⟩
  have := (nI_eq (by omega) (by omega)).mp e
  omega
section WAYS
variable {N : Nat} {Z : Nat → Int32}
theorem wl_mi {a b : Nat} (hn : nZ Z ≤ 6) (ha : a < nZ Z) (hb : b < nZ Z) : wL_minutes Z (nI a) (nI b) = (if rmV (eg (nZ Z) (mZ Z) (mZ Z)) a b = -1 then -13 else rmV (eg (nZ Z) (mZ Z) (mZ Z)) a b) ∧ wL_byTable Z (nI a) (nI b) = (if rmV (eg (nZ Z) (mZ Z) (mZ Z)) a b = -1 then -13 else rmV (eg (nZ Z) (mZ Z) (mZ Z)) a b) := by
  unfold wL_minutes wL_byTable aMin
  rw [aPr_t ha hb hn]
  unfold npR
  split <;> exact ⟨rfl, rfl⟩
theorem wl_le {a b : Nat} (hn : nZ Z ≤ 6) (ha : a < nZ Z) (hb : b < nZ Z) : wL_wayLegs Z (nI a) (nI b) = if dZ Z b a = cFA then -13 else nI (dZ Z b a % 8) := by
  unfold wL_wayLegs aLegs
  rw [aPr_t ha hb hn]
  split <;> rfl
theorem wl_wr {a b : Nat} {z : Int32} (hn : nZ Z ≤ 6) (ha : a < nZ Z) (hb : b < nZ Z) : wL_wayRoom Z (nI a) (nI b) z = if dZ Z b a = cFA then -13 else if ∃ k, k ≤ dZ Z b a % 8 ∧ z = nI k then nI (wy (nZ Z) (mZ Z) (dZ Z b) a (tn z)) else -13 := by
  unfold wL_wayRoom aWay
  rw [aPr_t ha hb hn]
  by_cases h1 : dZ Z b a = cFA
  · rw [if_pos h1, if_pos h1]; rfl
  · rw [if_neg h1, if_neg h1]
    by_cases h2 : ∃ k, k ≤ dZ Z b a % 8 ∧ z = nI k
    · rw [if_pos h2, if_pos h2]; rfl
    · rw [if_neg h2, if_neg h2]; rfl
theorem aPr_x {x y : Int32} {f : Nat → Nat → Nat ⊕ Int32} (h : idx (nZ Z) x = false ∨ idx (nZ Z) y = false) : aPr Z x y f = .inl 0 := aPr_f (by
  rcases h with h | h
  · rw [h, Bool.false_and]
  · rw [h, Bool.and_false])
theorem wl_x {x y : Int32} (h : idx (nZ Z) x = false ∨ idx (nZ Z) y = false) : wL_legMinutes Z x y = -11 ∧ wL_legWarmth Z x y = -11 ∧ wL_minutes Z x y = -11 ∧ wL_byTable Z x y = -11 ∧ wL_wayLegs Z x y = -11 ∧ ∀ z, wL_wayRoom Z x y z = -11 := by
  refine ⟨?_, ?_, ?_, ?_, ?_, fun z => ?_⟩
  · unfold wL_legMinutes aLeg; rw [aPr_x h]; rfl
  · unfold wL_legWarmth aLeg; rw [aPr_x h]; rfl
  · unfold wL_minutes aMin; rw [aPr_x h]; rfl
  · unfold wL_byTable aMin; rw [aPr_x h]; rfl
  · unfold wL_wayLegs aLegs; rw [aPr_x h]; rfl
  · unfold wL_wayRoom aWay; rw [aPr_x h]; rfl
theorem wl_wx {x : Int32} (h : idx (nZ Z) x = false) : wL_warmth Z x = -11 := by
  unfold wL_warmth aWarmth; rw [if_neg (by rw [h]; decide)]; rfl
theorem ckF_5 : ckF 7 5 = 2282 := rfl
theorem ck0 {a : Nat} (ha : a < 6) : ckW 7 (nI a) 0 = 2282 := by
  have h := ckW_nI (c := 7) (a := a) (G := 0) (by decide) ha
  have h2 := rem_s (G := 0) ha (Nat.zero_testBit a)
  have h3 : rem 0 = 6 := rfl
  rw [show rem (0 ||| 2 ^ a) = 5 by omega] at h
  exact h
/-- the way's numbers out of bestWay's answer -/
theorem l2i_nat {x : Int64} {c : Nat} (h : x.toInt = (c : Int)) (hc : c < 2 ^ 31) : Int64.toInt32 x = nI c := by
  apply Int32.toInt_inj.mp
  rw [Int64.toInt_toInt32, h, nI_toInt hc, Int.bmod_def]
  split <;> omega
theorem way_rooms {x : Int64} {R w : Nat} (hx : x.toInt = ((R / 7 + (w + 1) * 16807 : Nat) : Int)) (hR : R < 117649) (m7 : R % 7 = 0) (hw : w ≤ 5) : lg_cmp (Int32.toInt64 (nI w)) ((x / (16807 : Int64)) - (1 : Int64)) = 0 ∧ ((x - x / (16807 : Int64) * (16807 : Int64)) * (7 : Int64)).toInt = (R : Int) := by
  have e5 : (16807 : Int64).toInt = 16807 := rfl
  have e1 : (1 : Int64).toInt = 1 := rfl
  have e77 : (7 : Int64).toInt = 7 := rfl
  have g1 := jj_div (b := 16807) hx e5 (by omega)
  have g2 : (x / (16807 : Int64) - (1 : Int64)).toInt = (w : Int) := by
    rw [jj_sub (by rw [g1, e1]; omega) (by rw [g1, e1]; omega), g1, e1]; omega
  have g3 : (x / (16807 : Int64) * (16807 : Int64)).toInt = ((w + 1) * 16807 : Nat) := by
    rw [jj_mul (by rw [g1, e5]; omega) (by rw [g1, e5]; omega), g1, e5]; omega
  have g4 : (x - x / (16807 : Int64) * (16807 : Int64)).toInt = ((R / 7 : Nat) : Int) := by
    rw [jj_sub (by rw [hx, g3]; omega) (by rw [hx, g3]; omega), hx, g3]; omega
  refine ⟨?_, ?_⟩
  · rw [lg_cmp_eq]
    apply Int64.toInt_inj.mp
    rw [g2]; exact i64_c w (by omega)
  · rw [jj_mul (by rw [g4, e77]; omega) (by rw [g4, e77]; omega), g4, e77]; omega
theorem way_nums {r : Int64} {F S R : Nat} (hr : r.toInt = ((F * 10000000 + S * 1000000 + R : Nat) : Int)) (hF : F ≤ 600) (hS : S ≤ 5) (hR : R < 117649) : Int64.toInt32 (r / (10000000 : Int64)) = nI F ∧ Int64.toInt32 ((r / (1000000 : Int64)) - (r / (1000000 : Int64)) / (10 : Int64) * (10 : Int64)) = nI S ∧ (r - r / (1000000 : Int64) * (1000000 : Int64)).toInt = (R : Int) := by
  have e7 : (10000000 : Int64).toInt = 10000000 := rfl
  have e6 : (1000000 : Int64).toInt = 1000000 := rfl
  have e10 : (10 : Int64).toInt = 10 := rfl
  have q1 := jj_div (b := 1000000) hr e6 (by omega)
  have q2 := jj_div (b := 10) q1 e10 (by omega)
  have q3 : (r / (1000000 : Int64) / (10 : Int64) * (10 : Int64)).toInt = (((F * 10000000 + S * 1000000 + R) / 1000000 / 10 * 10 : Nat) : Int) := by
    rw [jj_mul (by rw [q2, e10]; omega) (by rw [q2, e10]; omega), q2, e10]; omega
  have q4 : (r / (1000000 : Int64) * (1000000 : Int64)).toInt = (((F * 10000000 + S * 1000000 + R) / 1000000 * 1000000 : Nat) : Int) := by
    rw [jj_mul (by rw [q1, e6]; omega) (by rw [q1, e6]; omega), q1, e6]; omega
  refine ⟨l2i_nat (c := F) ?_ (by omega), l2i_nat (c := S) ?_ (by omega), ?_⟩
  · rw [jj_div (b := 10000000) hr e7 (by omega)]; omega
  · rw [jj_sub (by rw [q1, q3]; omega) (by rw [q1, q3]; omega), q1, q3]; omega
  · rw [jj_sub (by rw [hr, q4]; omega) (by rw [hr, q4]; omega), hr, q4]; omega
set_option maxHeartbeats 4000000 in
set_option maxRecDepth 100000 in
theorem k_ways {K : Nat} (hN : 1000 ≤ N) (hs : SIp Z (nZ Z) (eZ Z) (mZ Z) (hZ Z)) (hK : 87000 ≤ K) : Ok (fL_ways N Z K) (fun r => r = true) := by
  have hg := hs.2.1
  have hn := hg.1
  unfold fL_ways
  refine ok_gd (Nat.zero_le _) (ok_lt ?_)
  refine ok_fix2 (fun k x4 κ => ∃ i, i + k = nZ Z ∧ x4 = nI i ∧ κ ≤ i * 14400) ?_ N (nZ Z) _ _ (by omega) ⟨0, by omega, rfl, by omega⟩
  rintro k1 self6 x4 κ5 ⟨i, hi, rfl, hκ⟩ hself
  refine ok_le (nZ Z) i (f := fun hc => ?_) (g := fun hc => ?_)
  · have hx1 : idx (nZ Z) (nI (nZ Z)) = false := idx_end hn
    have w1 := wl_x (Z := Z) (x := nI (nZ Z)) (y := 0) (Or.inl hx1)
    have w2 := wl_x (Z := Z) (x := 0) (y := -1) (Or.inr (idx_m1 hn))
    have w3 := wl_x (Z := Z) (x := 0) (y := nI (nZ Z)) (Or.inr hx1)
    have w4 := wl_x (Z := Z) (x := nI (nZ Z)) (y := nI (nZ Z)) (Or.inl hx1)
    rw [wl_wx hx1, w1.1, w2.2.1, w1.2.2.1, w3.2.2.2.1, w4.2.2.2.2.1, w1.2.2.2.2.2 0]
    refine ok_gd (by omega) (ok_jn (ok_jn ?_))
    refine ok_ifT rfl (ok_gd (by omega) ?_)
    refine ok_ifT rfl (ok_gd (by omega) ?_)
    refine ok_ifT rfl (ok_gd (by omega) ?_)
    refine ok_ifT rfl (ok_gd (by omega) ?_)
    refine ok_ifT rfl (ok_gd (by omega) ?_)
    refine ok_ifT rfl (ok_gd (by omega) ?_)
    refine ok_ifT rfl ?_
    exact ok_gd (by omega) (ok_some rfl)
  · refine ok_fix2 (fun k x33 κ => ∃ j, j + k = nZ Z ∧ x33 = nI j ∧ κ ≤ i * 14400 + j * 2400) ?_ N (nZ Z) _ _ (by omega) ⟨0, by omega, rfl, by omega⟩
    rintro k2 self35 x33 κ34 ⟨j, hj, rfl, hκ2⟩ hself2
    refine ok_le (nZ Z) j (f := fun hc2 => ?_) (g := fun hc2 => ?_)
    · exact ok_lt (hself (k1 - 1) _ _ (by omega) ⟨i + 1, by omega, nI_1 _, by omega⟩)
    rw [ck0 (show i < 6 by omega)]
    refine ok_gd (by omega) ?_
    have h8 := dZ_8 hs hc2
    have hb := k_bestWay (N := N) (by omega) hs 8 i j 0 hc hc2 (by decide) (by have := rem_le (0 ||| 2 ^ i); omega)
    refine ok_bind hb ?_
    intro r hr
    have hr := best_cwk hg h8 hc2 hc hr
    have hrm := best_rm hg h8 hc2 hc
    obtain ⟨wm1, wm2⟩ := wl_mi hn hc hc2
    have wle := wl_le hn hc hc2
    have wwr := fun z => wl_wr (z := z) hn hc hc2
    have hlm := wl_lm hn hc hc2
    have hlm2 := wl_lm hn hc2 hc
    have hlw := wl_lw hn hc hc2
    have hsy : mZ Z j i = mZ Z i j := (hg.2 j i).2.2.1
    have h99 := hg.2 i j
    -- the end of a pair: the leg both ways
    have fin : ∀ (x : Int64) (κ : Nat), κ + 4 ≤ i * 14400 + (j + 1) * 2400 → κ + 4 ≤ K → Ok (gd ((κ + 1) ≤ K) <|
      jn (fun (y85 : Bool) (κ86 : Nat) =>
      jn (fun (κ90 : Nat) =>
      gd (κ90 ≤ K) <|
      some false) fun j91 =>
      cond true
      (gd ((κ86 + 1) ≤ K) <|
      jn (fun (y97 : Bool) (κ98 : Nat) =>
      if (b2i y85) = (b2i y97) then
      (gd ((κ98 + 1) ≤ K) <|
      gd ((κ98 + 2) ≤ K) <|
      if (wL_legMinutes Z (nI i) (nI j)) = (wL_legMinutes Z (nI j) (nI i)) then
      (lt (nI j + 1) fun v106 =>
      self35 v106 (κ98 + 2))
      else (j91 (κ98 + 2)))
      else (j91 κ98)) fun j99 =>
      if (wL_legWarmth Z (nI i) (nI j)) < 0 then
      (j99 false (κ86 + 1))
      else (j99 true (κ86 + 1)))
      (j91 κ86)) fun j87 =>
      if (wL_legMinutes Z (nI i) (nI j)) ≤ 0 then
      (j87 false (κ + 1))
      else (j87 true (κ + 1))) (fun r => r = true) := fun x κ h1 h2 => by
        have go : Ok (lt (nI j + 1) fun v106 => self35 v106 (κ + 1 + 1 + 2)) (fun r => r = true) := ok_lt (hself2 (k2 - 1) _ _ (by omega) ⟨j + 1, by omega, nI_1 _, by omega⟩)
        refine ok_gd (by omega) (ok_jn ?_)
        rw [hlm, hlm2, hlw, hsy]
        by_cases hm : 0 < mZ Z i j
        · rw [if_pos hm, if_pos hm]
          refine ok_ifF (nI_npos (by omega) hm) (ok_jn (ok_cdT rfl (ok_gd (by omega) (ok_jn ?_))))
          refine ok_ifF (nI_pos (by omega)) (ok_ifT rfl (ok_gd (by omega) (ok_gd (by omega) (ok_ifT rfl go))))
        · rw [if_neg hm, if_neg hm]
          refine ok_ifT (by decide) (ok_jn (ok_cdT rfl (ok_gd (by omega) (ok_jn ?_))))
          refine ok_ifT (by decide) (ok_ifT rfl (ok_gd (by omega) (ok_gd (by omega) (ok_ifT rfl go))))
    refine ok_jn ?_
    rcases hr with ⟨hd, hr⟩ | ⟨hd, hr⟩
    · -- no way
      have hrm : rmV (eg (nZ Z) (mZ Z) (mZ Z)) i j = -1 := by
        rcases hrm with ⟨-, h⟩ | ⟨z, -⟩
        · exact h
        · omega
      have hneg : ¬ 0 ≤ lg_cmp r 0 := by rw [gj0, hr]; decide
      refine ok_ifF hneg (ok_jn (ok_ifF hneg (ok_gd (by omega) (ok_jn ?_))))
      rw [wm1, wm2, wle, wwr, wwr, hrm, if_pos rfl, if_pos hd, if_pos hd, if_pos hd]
      refine ok_ifT rfl (ok_gd (by omega) ?_)
      refine ok_ifT rfl (ok_gd (by omega) ?_)
      refine ok_ifT rfl (ok_gd (by omega) (ok_gd (by omega) ?_))
      refine ok_ifT rfl (ok_gd (by omega) ?_)
      refine ok_ifT rfl (ok_lt (ok_jn (ok_jn ?_)))
      refine ok_ifT (by rw [lj0, hr]; decide) ?_
      refine ok_fix4 (fun k (x : Int64) y z κ => y = true ∧ z = 1 ∧ κ = κ34 + 2282 + 12) ?_ N 0 _ _ _ _ (by omega) ⟨rfl, rfl, rfl⟩
      rintro k self81 x77 x78 x79 κ80 ⟨rfl, rfl, rfl⟩ -
      refine ok_ifT (by decide) ?_
      exact fin x77 _ (by omega) (by omega)
    · rcases hrm with ⟨z, -⟩ | ⟨-, hrm, hF⟩
      · omega
      have hS5 := (d8_lex h8 hc2 hc hd).2
      obtain ⟨c1, c2⟩ := cwk_eq hg h8 hc2 _ i hc hd rfl
      have hwy := wy_ok hg h8 hc2 hc hd
      have hpos : 0 ≤ lg_cmp r 0 := by rw [gj0, hr]; omega
      have hnegC : ¬ lg_cmp r 0 < 0 := by rw [lj0, hr]; omega
      rw [c1] at hr
      obtain ⟨em, el, er⟩ := way_nums hr hF hS5 c2
      refine ok_ifT hpos (ok_jn (ok_ifT hpos (ok_gd (by omega) (ok_jn ?_))))
      rw [em, el]
      have hne : ¬ rmV (eg (nZ Z) (mZ Z) (mZ Z)) i j = -1 := by rw [hrm]; exact nI_m1 (by omega)
      rw [wm1, wm2, wle, if_neg hne, hrm, if_neg (show ¬ dZ Z j i = cFA by omega)]
      have w13 : ∀ z : Int32, (¬ ∃ k, k ≤ dZ Z j i % 8 ∧ z = nI k) → wL_wayRoom Z (nI i) (nI j) z = -13 := fun z hz => by
        rw [wwr, if_neg (show ¬ dZ Z j i = cFA by omega), if_neg hz]
      have win : ∀ q, q ≤ dZ Z j i % 8 → wL_wayRoom Z (nI i) (nI j) (nI q) = nI (wy (nZ Z) (mZ Z) (dZ Z j) i q) := fun q hq => by
        rw [wwr, if_neg (show ¬ dZ Z j i = cFA by omega), if_pos ⟨q, hq, rfl⟩, tn_nI (by omega)]
      refine ok_ifT rfl (ok_gd (by omega) ?_)
      refine ok_ifT rfl (ok_gd (by omega) ?_)
      refine ok_ifT rfl (ok_gd (by omega) (ok_gd (by omega) ?_))
      rw [show imax 0 (nI (dZ Z j i % 8)) = nI (dZ Z j i % 8) from (imax_nI (a := 0) (by decide) (by omega)).trans (by rw [Nat.max_eq_right (Nat.zero_le _)]), nI_1]
      rw [w13 (nI (dZ Z j i % 8 + 1)) (fun ⟨k, hk, e⟩ => by have := (nI_eq (by omega) (by omega)).mp e; omega), w13 (-1) (fun ⟨k, hk, e⟩ => nI_m1 (show k < 2 ^ 31 by omega) e.symm)]
      refine ok_ifT rfl (ok_gd (by omega) (ok_ifT rfl (ok_lt (ok_jn (ok_jn ?_)))))
      refine ok_ifF hnegC (ok_gd (by omega) ?_)
      have w0 : wL_wayRoom Z (nI i) (nI j) 0 = nI i := win 0 (Nat.zero_le _)
      rw [w0]
      refine ok_ifT rfl ?_
      refine ok_fix4 (fun k (x : Int64) y z κ => ∃ q, q + k = dZ Z j i % 8 ∧ x.toInt = ((rcw (nZ Z) (mZ Z) (dZ Z j) k (wy (nZ Z) (mZ Z) (dZ Z j) i q) : Nat) : Int) ∧ y = true ∧ z = nI (q + 1) ∧ κ = κ34 + 2282 + 15 + 3 * q) ?_ N (dZ Z j i % 8) _ _ _ _ (by omega) ⟨0, by omega, er, rfl, rfl, rfl⟩
      rintro k self81 x77 x78 x79 κ80 ⟨q, hq, hx, rfl, rfl, rfl⟩ hs81
      cases k with
      | zero =>
        refine ok_ifT (nI_lt (by omega) (by omega)) ?_
        exact fin x77 _ (by omega) (by omega)
      | succ k =>
        refine ok_ifF (nI_nlt (by omega) (by omega)) ?_
        refine ok_jn (ok_jn (ok_cdT rfl (ok_gd (by omega) ?_)))
        rw [win (q + 1) (by omega)]
        obtain ⟨w1, w2, w3, w4⟩ := hwy q (by omega)
        have hx5 : wy (nZ Z) (mZ Z) (dZ Z j) i (q + 1) = nx (nZ Z) (mZ Z) (dZ Z j) (wy (nZ Z) (mZ Z) (dZ Z j) i q) := rfl
        obtain ⟨v1, v2, v3, v4⟩ := hwy (q + 1) (by omega)
        obtain ⟨-, t2⟩ := cwk_eq hg h8 hc2 k (wy (nZ Z) (mZ Z) (dZ Z j) i (q + 1)) v1 v2 (by omega)
        have e8 : rcw (nZ Z) (mZ Z) (dZ Z j) (k + 1) (wy (nZ Z) (mZ Z) (dZ Z j) i q) = rcw (nZ Z) (mZ Z) (dZ Z j) k (wy (nZ Z) (mZ Z) (dZ Z j) i (q + 1)) / 7 + (wy (nZ Z) (mZ Z) (dZ Z j) i (q + 1) + 1) * 16807 := rfl
        have m7 := rcw_m7 (n := nZ Z) (mn := mZ Z) (d := dZ Z j) (k := k) (by omega) (wy (nZ Z) (mZ Z) (dZ Z j) i (q + 1))
        rw [e8] at hx
        obtain ⟨g1, g2⟩ := way_rooms hx t2 m7 (by omega)
        refine ok_ifT g1 (ok_lt (ok_lt ?_))
        exact hs81 k _ _ _ _ (by omega) ⟨q + 1, by omega, g2, rfl, nI_1 _, by omega⟩
end WAYS
