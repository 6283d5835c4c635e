/-! Pure layer: the law's couriers hold. -/
section COUR
variable {N : Nat} {Z : Nat → Int32}
theorem wl_ms {e b : Nat} (hn : nZ Z ≤ 6) (h5 : eZ Z ≤ 5) (he : e < eZ Z) (hb : b < nZ Z) : wL_meltIfSent Z (nI e) (nI b) = if dZ Z b (rZ Z e) = cFA then -13 else nI (min (pw (nZ Z) (mZ Z) (hZ Z) (dZ Z b) (rZ Z e) (lZ Z e) (dZ Z b (rZ Z e) % 8)) (grs (pZ Z e))) := by
  unfold wL_meltIfSent aMelt
  rw [(idx_nI (by omega) (by omega)).mpr he, (idx_nI (by omega) (by omega)).mpr hb, Bool.and_self, if_pos rfl, tn_nI (by omega), tn_nI (by omega)]
  split <;> rfl
theorem wl_lp {e b : Nat} (hn : nZ Z ≤ 6) (h5 : eZ Z ≤ 5) (he : e < eZ Z) (hb : b < nZ Z) : wL_leastPassed Z (nI e) (nI b) = (if rmV (eg (nZ Z) (mZ Z) (fun a b => hZ Z a b - lZ Z e)) (rZ Z e) b = -1 then -13 else rmV (eg (nZ Z) (mZ Z) (fun a b => hZ Z a b - lZ Z e)) (rZ Z e) b) ∧ wL_leastByRounds Z (nI e) (nI b) = wL_leastPassed Z (nI e) (nI b) := by
  refine ⟨?_, rfl⟩
  unfold wL_leastPassed aLeast
  rw [(idx_nI (by omega) (by omega)).mpr he, (idx_nI (by omega) (by omega)).mpr hb, Bool.and_self, if_pos rfl, tn_nI (by omega), tn_nI (by omega)]
  unfold npR
  split <;> rfl
theorem wl_jx {x y : Int32} (h : idx (eZ Z) x = false ∨ idx (nZ Z) y = false) : wL_meltIfSent Z x y = -11 ∧ wL_leastPassed Z x y = -11 ∧ wL_leastByRounds Z x y = -11 := by
  have hf : (idx (eZ Z) x && idx (nZ Z) y) = false := by
    rcases h with h | h
    · rw [h, Bool.false_and]
    · rw [h, Bool.and_false]
  refine ⟨?_, ?_, ?_⟩
  · unfold wL_meltIfSent aMelt; rw [if_neg (by rw [hf]; decide)]; rfl
  · unfold wL_leastPassed aLeast; rw [if_neg (by rw [hf]; decide)]; rfl
  · unfold wL_leastByRounds aLeast; rw [if_neg (by rw [hf]; decide)]; rfl
theorem gR_e {e : Nat} {f : Nat → Int32} (he : e < eZ Z) (h5 : eZ Z ≤ 5) : gR (aEx Z (nI e) f) = some (f e) := by rw [aEx_t he h5]; rfl
theorem gR_b {e : Nat} {f : Nat → Bool} (he : e < eZ Z) (h5 : eZ Z ≤ 5) : gR (aExB Z (nI e) f) = some (f e) := by rw [aExB_t he h5]; rfl
theorem gR_way {a b q : Nat} (hn : nZ Z ≤ 6) (ha : a < nZ Z) (hb : b < nZ Z) (hd : dZ Z b a < cFA) (hq : q ≤ dZ Z b a % 8) : gR (aWay Z (nI a) (nI b) (nI q)) = some (nI (wy (nZ Z) (mZ Z) (dZ Z b) a q)) := by
  unfold aWay
  rw [aPr_t ha hb hn, if_neg (by omega), if_pos ⟨q, hq, rfl⟩, tn_nI (by omega)]
  rfl
theorem gR_leg {a b : Nat} {g : Nat → Nat → Nat} (hn : nZ Z ≤ 6) (ha : a < nZ Z) (hb : b < nZ Z) (hm : 0 < mZ Z a b) : gR (aLeg Z g (nI a) (nI b)) = some (nI (g a b)) := by
  unfold aLeg
  rw [aPr_t ha hb hn, if_pos hm]; rfl
theorem ck0w {a : Nat} (ha : a < 6) : ckW 14 (nI a) 0 = 4564 := by
  have h := ckW_nI (c := 14) (a := a) (G := 0) (by decide) ha
  have h2 := rem_s (G := 0) ha (Nat.zero_testBit a)
  have h3 : rem 0 = 6 := rfl
  rw [show rem (0 ||| 2 ^ a) = 5 by omega] at h
  exact h
set_option maxHeartbeats 4000000 in
set_option maxRecDepth 100000 in
theorem k_couriers {K : Nat} (hN : 1000 ≤ N) (hsi : SI Z) (hec : 1 ≤ eZ Z) (hK : 150000 ≤ K) : Ok (fL_couriers N Z K) (fun r => r = true) := by
  have hs := SIp_z hsi
  have hg := hs.2.1
  have hn := hg.1
  have h5 := hs.2.2.2.2.2.1
  have hG : ∀ e, e < eZ Z → (fun e => grs (pZ Z e)) e ≤ 48 := fun e he => grs_stab (SI_ex_z hsi he).2.2.2.2.2.1
  have hLb : ∀ e, e < eZ Z → (fun e => (lentB Z e).toNat) e ≤ 1 := fun e _ => toNat_le1 _
  unfold fL_couriers
  refine ok_gd (Nat.zero_le _) (ok_lt ?_)
  refine ok_fix4 (fun k x4 x5 x6 κ => ∃ i, i + k = eZ Z ∧ x4 = nI (sm i (fun e => (lentB Z e).toNat)) ∧ x5 = nI (sm i (fun e => grs (pZ Z e))) ∧ x6 = nI i ∧ κ ≤ i * 29000) ?_ N (eZ Z) _ _ _ _ (by omega) ⟨0, by omega, rfl, rfl, rfl, by omega⟩
  rintro k1 self8 x4 x5 x6 κ7 ⟨i, hi, rfl, rfl, rfl, hκ⟩ hself
  refine ok_le (eZ Z) i (f := fun hc => ?_) (g := fun hc => ?_)
  · have hie : i = eZ Z := by omega
    subst hie
    have hb1 := sm_b (c := 48) (eZ Z) hG
    have hb2 := sm_b (c := 1) (eZ Z) hLb
    have hmk := mean_ok (eZ Z) (by omega) hec _ (show sm (eZ Z) (fun e => grs (pZ Z e)) < 241 by omega)
    have hfk := frac_ok (eZ Z) (by omega) hec _ (show sm (eZ Z) (fun e => (lentB Z e).toNat) < 6 by omega)
    have hfc := frac_cmp (eZ Z) (by omega) hec _ (show sm (eZ Z) (fun e => (lentB Z e).toNat) < 6 by omega)
    have hx : idx (eZ Z) (nI (eZ Z)) = false := by
      refine decide_eq_false ?_
      rintro ⟨j, hj, e⟩
      have := (nI_eq (by omega) (by omega)).mp e
      omega
    refine ok_gd (by omega) ?_
    unfold aMean
    rw [if_neg (by omega)]
    refine ok_bindE rfl (ok_gd hmk.1 (ok_jn (ok_jn ?_)))
    refine ok_ifT hmk.2 (ok_gd (by omega) ?_)
    unfold aFrac
    rw [if_neg (by omega)]
    refine ok_bindE rfl (ok_gd hfk.1 (ok_ifT hfc (ok_gd (by omega) (ok_cdT rfl (ok_gd (by omega) ?_)))))
    rw [(wl_jx (Z := Z) (x := nI (eZ Z)) (y := 0) (Or.inl hx)).1, (wl_jx (Z := Z) (x := 0) (y := nI (nZ Z)) (Or.inr (idx_end hn))).1, (wl_jx (Z := Z) (x := nI (eZ Z)) (y := 0) (Or.inl hx)).2.1, (wl_jx (Z := Z) (x := 0) (y := -1) (Or.inr (idx_m1 hn))).2.2]
    refine ok_ifT rfl (ok_gd (by omega) (ok_gd (by omega) ?_))
    refine ok_ifT rfl (ok_gd (by omega) ?_)
    refine ok_ifT rfl (ok_gd (by omega) ?_)
    refine ok_ifT rfl ?_
    exact ok_gd (by omega) (ok_some rfl)
  · have hX := SI_ex_z hsi hc
    have hr := hX.2.1
    have hl := hX.2.2.2.1
    have er : exY Z i 0 = nI (rZ Z i) := hX.1
    have el : exY Z i 1 = nI (lZ Z i) := hX.2.2.1
    refine ok_gd (by omega) (ok_gd (by omega) ?_)
    refine ok_bindE (gR_b hc h5) ?_
    have go : ∀ (y : Bool), y = lentB Z i → Ok (lt (nI (sm i (fun e => (lentB Z e).toNat)) + (b2i y)) fun v51 =>
        gd ((κ7 + 1 + 1) ≤ K) <|
        (gR (aGrains Z (nI i))).bind fun v54 =>
        lt (nI (sm i (fun e => grs (pZ Z e))) + v54) fun v56 =>
        gd ((κ7 + 1 + 2) ≤ K) <|
        (gR (aRoomOf Z (nI i))).bind fun v59 =>
        fix2 (fun self63 (x61 : Int32) (κ62 : Nat) =>
        gd (κ62 ≤ K) <|
        if (nI (nZ Z)) ≤ x61 then
        (lt (nI i + 1) fun v67 =>
        self8 v51 v56 v67 κ62)
        else (gd ((κ62 + 2) ≤ K) <|
        lt (wL_wayLegs Z v59 x61) fun v70 =>
        fix3 (fun self75 (x72 : Int32) (x73 : Int32) (κ74 : Nat) =>
        if v70 ≤ x73 then
        (gd ((κ74 + 1) ≤ K) <|
        (gR (aLimit Z (nI i))).bind fun v79 =>
        gd (((κ74 + 1) + (ckW 14 v59 0)) ≤ K) <|
        (fL_least N 8 Z v59 x61 v79 0).bind fun r82 =>
        jn (fun (y83 : Int32) (κ84 : Nat) =>
        gd ((κ84 + 2) ≤ K) <|
        jn (fun (y89 : Int32) (κ90 : Nat) =>
        jn (fun (κ94 : Nat) =>
        gd (κ94 ≤ K) <|
        some false) fun j95 =>
        if (wL_meltIfSent Z (nI i) x61) = y89 then
        (gd ((κ90 + 2) ≤ K) <|
        if (wL_leastPassed Z (nI i) x61) = y83 then
        (gd ((κ90 + 4) ≤ K) <|
        if (wL_leastByRounds Z (nI i) x61) = y83 then
        (lt (x61 + 1) fun v104 =>
        self63 v104 (κ90 + 4))
        else (j95 (κ90 + 4)))
        else (j95 (κ90 + 2)))
        else (j95 κ90)) fun j91 =>
        if 0 ≤ v70 then
        (gd ((κ84 + 3) ≤ K) <|
        (gR (aGrains Z (nI i))).bind fun v108 =>
        gd ((κ84 + 3) ≤ K) <|
        j91 (imin x72 v108) (κ84 + 3))
        else (j91 (-13) (κ84 + 2))) fun j85 =>
        if r82 < 9999 then
        (j85 r82 ((κ74 + 1) + (ckW 14 v59 0)))
        else (j85 (-13) ((κ74 + 1) + (ckW 14 v59 0))))
        else (gd ((κ74 + 3) ≤ K) <|
        (gR (aWay Z v59 x61 x73)).bind fun v113 =>
        gd ((κ74 + 6) ≤ K) <|
        (gR (aWay Z v59 x61 (x73 + 1))).bind fun v116 =>
        gd ((κ74 + 7) ≤ K) <|
        (gR (aLeg Z (hZ Z) v113 v116)).bind fun v119 =>
        gd ((κ74 + 8) ≤ K) <|
        (gR (aLimit Z (nI i))).bind fun v122 =>
        gd (((κ74 + 8) + 0) ≤ K) <|
        (fL_passedBy N Z 0 v119 v122).bind fun r125 =>
        lt (x72 + r125) fun v126 =>
        lt (x73 + 1) fun v128 =>
        self75 v126 v128 ((κ74 + 8) + 0))) N 0 0 (κ62 + 2))) N 0 (κ7 + 1 + 2)) (fun r => r = true) := fun y hy => by
      refine ok_lt (ok_gd (by omega) (ok_bindE (gR_e hc h5) (ok_lt (ok_gd (by omega) (ok_bindE (gR_e hc h5) ?_)))))
      rw [er, hy, b2i_nI, nI_add, nI_add]
      refine ok_fix2 (fun k x61 κ => ∃ j, j + k = nZ Z ∧ x61 = nI j ∧ κ ≤ i * 29000 + 3 + j * 4800) ?_ N (nZ Z) _ _ (by omega) ⟨0, by omega, rfl, by omega⟩
      rintro k2 self63 x61 κ62 ⟨j, hj, rfl, hκ2⟩ hself2
      refine ok_gd (by omega) ?_
      refine ok_le (nZ Z) j (f := fun hc2 => ?_) (g := fun hc2 => ?_)
      · exact ok_lt (hself (k1 - 1) _ _ _ _ (by omega) ⟨i + 1, by omega, rfl, rfl, nI_1 _, by omega⟩)
      have h8 := dZ_8 hs hc2
      have wle := wl_le hn hr hc2
      have wms := wl_ms hn h5 hc hc2
      have wlp := wl_lp hn h5 hc hc2
      have hf9 : ∀ x y, (fun a b => hZ Z a b - lZ Z i) x y ≤ 9 := fun x y => by have := (hg.2 x y).2.1; dsimp only; omega
      refine ok_gd (by omega) (ok_lt ?_)
      rw [wle]
      -- behind the way: v the sum over it, or nothing
      have fin : ∀ (x72 v70 v : Int32) (κ74 : Nat), κ74 + 1 + 4564 + 10 ≤ i * 29000 + 3 + (j + 1) * 4800 → (∀ κ84, κ84 + 10 ≤ i * 29000 + 3 + (j + 1) * 4800 → ∀ (J : Int32 → Nat → Option Bool), Ok (J (wL_meltIfSent Z (nI i) (nI j)) (κ84 + 3)) (fun r => r = true) → Ok (J (wL_meltIfSent Z (nI i) (nI j)) (κ84 + 2)) (fun r => r = true) → Ok (if 0 ≤ v70 then (gd ((κ84 + 3) ≤ K) <| (gR (aGrains Z (nI i))).bind fun v108 => gd ((κ84 + 3) ≤ K) <| J (imin x72 v108) (κ84 + 3)) else (J (-13) (κ84 + 2))) (fun r => r = true)) →
          Ok (gd ((κ74 + 1) ≤ K) <|
          (gR (aLimit Z (nI i))).bind fun v79 =>
          gd (((κ74 + 1) + (ckW 14 (nI (rZ Z i)) 0)) ≤ K) <|
          (fL_least N 8 Z (nI (rZ Z i)) (nI j) v79 0).bind fun r82 =>
          jn (fun (y83 : Int32) (κ84 : Nat) =>
          gd ((κ84 + 2) ≤ K) <|
          jn (fun (y89 : Int32) (κ90 : Nat) =>
          jn (fun (κ94 : Nat) =>
          gd (κ94 ≤ K) <|
          some false) fun j95 =>
          if (wL_meltIfSent Z (nI i) (nI j)) = y89 then
          (gd ((κ90 + 2) ≤ K) <|
          if (wL_leastPassed Z (nI i) (nI j)) = y83 then
          (gd ((κ90 + 4) ≤ K) <|
          if (wL_leastByRounds Z (nI i) (nI j)) = y83 then
          (lt (nI j + 1) fun v104 =>
          self63 v104 (κ90 + 4))
          else (j95 (κ90 + 4)))
          else (j95 (κ90 + 2)))
          else (j95 κ90)) fun j91 =>
          if 0 ≤ v70 then
          (gd ((κ84 + 3) ≤ K) <|
          (gR (aGrains Z (nI i))).bind fun v108 =>
          gd ((κ84 + 3) ≤ K) <|
          j91 (imin x72 v108) (κ84 + 3))
          else (j91 (-13) (κ84 + 2))) fun j85 =>
          if r82 < 9999 then
          (j85 r82 ((κ74 + 1) + (ckW 14 (nI (rZ Z i)) 0)))
          else (j85 (-13) ((κ74 + 1) + (ckW 14 (nI (rZ Z i)) 0)))) (fun r => r = true) := fun x72 v70 v κ74 hκ3 hend => by
        refine ok_gd (by omega) (ok_bindE (gR_e hc h5) ?_)
        rw [el, ck0w (by omega)]
        refine ok_gd (by omega) ?_
        refine ok_bind (k_least (by omega) hl hs 8 (rZ Z i) j 0 hr hc2 (by decide) (by have := rem_le (0 ||| 2 ^ (rZ Z i)); omega)) ?_
        rintro _ ⟨v9, rfl, hv9⟩
        have hlr := least_rm hg (fun a b => by rw [(hg.2 a b).2.2.2.1]) hf9 hr hc2 hv9
        have key : Ok (if nI v9 < 9999 then
            gd ((κ74 + 1 + 4564 + 2) ≤ K) <| jn (fun (y89 : Int32) (κ90 : Nat) =>
            jn (fun (κ94 : Nat) => gd (κ94 ≤ K) <| some false) fun j95 =>
            if (wL_meltIfSent Z (nI i) (nI j)) = y89 then
            (gd ((κ90 + 2) ≤ K) <| if (wL_leastPassed Z (nI i) (nI j)) = (nI v9) then
            (gd ((κ90 + 4) ≤ K) <| if (wL_leastByRounds Z (nI i) (nI j)) = (nI v9) then
            (lt (nI j + 1) fun v104 => self63 v104 (κ90 + 4))
            else (j95 (κ90 + 4))) else (j95 (κ90 + 2))) else (j95 κ90)) fun j91 =>
            if 0 ≤ v70 then (gd ((κ74 + 1 + 4564 + 3) ≤ K) <| (gR (aGrains Z (nI i))).bind fun v108 => gd ((κ74 + 1 + 4564 + 3) ≤ K) <| j91 (imin x72 v108) (κ74 + 1 + 4564 + 3)) else (j91 (-13) (κ74 + 1 + 4564 + 2))
            else gd ((κ74 + 1 + 4564 + 2) ≤ K) <| jn (fun (y89 : Int32) (κ90 : Nat) =>
            jn (fun (κ94 : Nat) => gd (κ94 ≤ K) <| some false) fun j95 =>
            if (wL_meltIfSent Z (nI i) (nI j)) = y89 then
            (gd ((κ90 + 2) ≤ K) <| if (wL_leastPassed Z (nI i) (nI j)) = (-13) then
            (gd ((κ90 + 4) ≤ K) <| if (wL_leastByRounds Z (nI i) (nI j)) = (-13) then
            (lt (nI j + 1) fun v104 => self63 v104 (κ90 + 4))
            else (j95 (κ90 + 4))) else (j95 (κ90 + 2))) else (j95 κ90)) fun j91 =>
            if 0 ≤ v70 then (gd ((κ74 + 1 + 4564 + 3) ≤ K) <| (gR (aGrains Z (nI i))).bind fun v108 => gd ((κ74 + 1 + 4564 + 3) ≤ K) <| j91 (imin x72 v108) (κ74 + 1 + 4564 + 3)) else (j91 (-13) (κ74 + 1 + 4564 + 2))) (fun r => r = true) := by
          have step : ∀ y : Int32, wL_leastPassed Z (nI i) (nI j) = y → ∀ κ90, κ90 + 4 ≤ i * 29000 + 3 + (j + 1) * 4800 → Ok (jn (fun (κ94 : Nat) => gd (κ94 ≤ K) <| some false) fun j95 =>
              if (wL_meltIfSent Z (nI i) (nI j)) = (wL_meltIfSent Z (nI i) (nI j)) then
              (gd ((κ90 + 2) ≤ K) <| if (wL_leastPassed Z (nI i) (nI j)) = y then
              (gd ((κ90 + 4) ≤ K) <| if (wL_leastByRounds Z (nI i) (nI j)) = y then
              (lt (nI j + 1) fun v104 => self63 v104 (κ90 + 4))
              else (j95 (κ90 + 4))) else (j95 (κ90 + 2))) else (j95 κ90)) (fun r => r = true) := fun y hy κ90 hk => by
            refine ok_jn (ok_ifT rfl (ok_gd (by omega) (ok_ifT hy (ok_gd (by omega) (ok_ifT (wlp.2.trans hy) ?_)))))
            exact ok_lt (hself2 (k2 - 1) _ _ (by omega) ⟨j + 1, by omega, nI_1 _, by omega⟩)
          rcases hlr with ⟨g1, g2⟩ | ⟨g1, g2⟩
          · subst g1
            have hy : wL_leastPassed Z (nI i) (nI j) = -13 := by rw [wlp.1, g2, if_pos rfl]
            refine ok_ifF (by decide) (ok_gd (by omega) (ok_jn ?_))
            exact hend _ (by omega) (fun y89 κ90 => jn (fun (κ94 : Nat) => gd (κ94 ≤ K) <| some false) fun j95 =>
              if (wL_meltIfSent Z (nI i) (nI j)) = y89 then
              (gd ((κ90 + 2) ≤ K) <| if (wL_leastPassed Z (nI i) (nI j)) = (-13) then
              (gd ((κ90 + 4) ≤ K) <| if (wL_leastByRounds Z (nI i) (nI j)) = (-13) then
              (lt (nI j + 1) fun v104 => self63 v104 (κ90 + 4))
              else (j95 (κ90 + 4))) else (j95 (κ90 + 2))) else (j95 κ90)) (step _ hy _ (by omega)) (step _ hy _ (by omega))
          · have hy : wL_leastPassed Z (nI i) (nI j) = nI v9 := by rw [wlp.1, g2, if_neg (nI_m1 (by omega))]
            refine ok_ifT (nI_lt (a := v9) (b := 9999) (by omega) (by decide)) (ok_gd (by omega) (ok_jn ?_))
            exact hend _ (by omega) (fun y89 κ90 => jn (fun (κ94 : Nat) => gd (κ94 ≤ K) <| some false) fun j95 =>
              if (wL_meltIfSent Z (nI i) (nI j)) = y89 then
              (gd ((κ90 + 2) ≤ K) <| if (wL_leastPassed Z (nI i) (nI j)) = (nI v9) then
              (gd ((κ90 + 4) ≤ K) <| if (wL_leastByRounds Z (nI i) (nI j)) = (nI v9) then
              (lt (nI j + 1) fun v104 => self63 v104 (κ90 + 4))
              else (j95 (κ90 + 4))) else (j95 (κ90 + 2))) else (j95 κ90)) (step _ hy _ (by omega)) (step _ hy _ (by omega))
        exact ok_jn key
      by_cases hd : dZ Z j (rZ Z i) = cFA
      · rw [if_pos hd]
        rw [if_pos hd] at wms
        refine ok_fix3 (fun k x72 x73 κ => x73 = 0 ∧ κ = κ62 + 2) ?_ N 0 _ _ _ (by omega) ⟨rfl, rfl⟩
        rintro k3 self75 x72 x73 κ74 ⟨rfl, rfl⟩ -
        refine ok_ifT (by decide) ?_
        refine fin x72 (-13) 0 _ (by omega) (fun κ84 _ J _ h2 => ok_ifF (by decide) ?_)
        rw [wms] at h2; exact h2
      · have hb := h8.2.2 (rZ Z i) hr
        have hlt : dZ Z j (rZ Z i) < cFA := by omega
        have hS5 := (d8_lex h8 hc2 hr hlt).2
        have hwy := wy_ok hg h8 hc2 hr hlt
        have hpw := pw_le (d := dZ Z j) (s := rZ Z i) hg (lZ Z i) (dZ Z j (rZ Z i) % 8)
        have hgr := hG i hc
        dsimp only at hgr
        rw [if_neg hd]
        rw [if_neg hd] at wms
        refine ok_fix3 (fun k x72 x73 κ => ∃ q, q + k = dZ Z j (rZ Z i) % 8 ∧ x72 = nI (pw (nZ Z) (mZ Z) (hZ Z) (dZ Z j) (rZ Z i) (lZ Z i) q) ∧ x73 = nI q ∧ κ = κ62 + 2 + 8 * q) ?_ N (dZ Z j (rZ Z i) % 8) _ _ _ (by omega) ⟨0, by omega, rfl, rfl, rfl⟩
        rintro k3 self75 x72 x73 κ74 ⟨q, hq, rfl, rfl, rfl⟩ hself3
        refine ok_le (dZ Z j (rZ Z i) % 8) q (f := fun hc3 => ?_) (g := fun hc3 => ?_)
        · have hqe : q = dZ Z j (rZ Z i) % 8 := by omega
          subst hqe
          refine fin _ _ 0 _ (by omega) (fun κ84 hk J h1 _ => ok_ifT (nI_pos' (by omega)) (ok_gd (by omega) (ok_bindE (gR_e hc h5) (ok_gd (by omega) ?_))))
          rw [imin_nI (by omega) (by omega), ← wms]; exact h1
        · obtain ⟨w1, w2, w3, w4⟩ := hwy q (by omega)
          obtain ⟨v1, -⟩ := hwy (q + 1) (by omega)
          have hwb : wy (nZ Z) (mZ Z) (dZ Z j) (rZ Z i) q ≠ j := fun z => by have := w4.mp z; omega
          have hmm : 0 < mZ Z (wy (nZ Z) (mZ Z) (dZ Z j) (rZ Z i) q) (wy (nZ Z) (mZ Z) (dZ Z j) (rZ Z i) (q + 1)) := (nx_ok hg h8 hc2 w1 w2 hwb).2.1
          have hpq := pw_le (d := dZ Z j) (s := rZ Z i) hg (lZ Z i) q
          refine ok_gd (by omega) (ok_bindE (gR_way hn hr hc2 hlt (by omega)) (ok_gd (by omega) ?_))
          rw [nI_1]
          refine ok_bindE (gR_way hn hr hc2 hlt (by omega)) (ok_gd (by omega) (ok_bindE (gR_leg hn w1 v1 hmm) (ok_gd (by omega) (ok_bindE (gR_e hc h5) (ok_gd (by omega) ?_)))))
          rw [el]
          refine ok_bindE (k_passedBy (hg.2 _ _).2.1 hl) (ok_lt (ok_lt ?_))
          exact hself3 (k3 - 1) _ _ _ (by omega) ⟨q + 1, by omega, nI_add _ _, rfl, by omega⟩
    refine ok_jn ?_
    cases hb : lentB Z i
    · exact ok_cdF hb (go false hb.symm)
    · exact ok_cdT hb (go true hb.symm)
end COUR
