/-! Pure layer: the law's texts hold. -/
section KTX
variable {N : Nat} {Z : Nat → Int32}
theorem oc_in {t : List Nat} {k : Nat} (hl : t.length ≤ 40) (hk : k < t.length) : wL_outputAt t (nI k) = nI (t.getD k 0) := by
  unfold wL_outputAt oC
  rw [nI_clamp (by omega), if_neg (fun z => z.elim (nI_pos (by omega)) (fun z => by omega))]
  rfl
theorem oc_end {t : List Nat} (hl : t.length ≤ 40) : wL_outputAt t (nI t.length) = -11 := by
  unfold wL_outputAt oC
  rw [nI_clamp (by omega), if_pos (Or.inr (Nat.le_refl _))]
  rfl
theorem k_spells {t : List Nat} {K : Nat} {a1 : Int32} (hN : 1000 ≤ N) (hl : t.length ≤ 40) (hK : 100 ≤ K) (ha : a1 = nI t.length) : Ok (fL_spells N t t K a1) (fun r => r = true) := by
  subst ha
  unfold fL_spells
  refine ok_gd (Nat.zero_le _) (ok_jn2 (fun b κ => b = true ∧ κ = 0) ?_ (fun j hj => ok_ifT rfl (hj _ _ ⟨rfl, rfl⟩)))
  rintro _ _ ⟨rfl, rfl⟩
  refine ok_fix3 (fun k x7 x8 κ => ∃ i, i + k = t.length ∧ x7 = true ∧ x8 = nI i ∧ κ = i) ?_ N t.length _ _ _ (by omega) ⟨0, by omega, rfl, rfl, rfl⟩
  rintro k self x7 x8 κ ⟨i, hi, rfl, rfl, rfl⟩ hs
  refine ok_gd (by omega) (ok_jn ?_)
  refine ok_le t.length κ (f := fun hc => ?_) (g := fun hc => ?_)
  · refine ok_jn (ok_jn (ok_cdT rfl (ok_gd (by omega) ?_)))
    refine ok_ifT (oc_end hl) ?_
    exact ok_gd (by omega) (ok_some rfl)
  · refine ok_cdT rfl (ok_gd (by omega) (ok_gd (by omega) ?_))
    have e : ctG t (nI κ) = fun k : Int32 → Option Bool => k (nI (t.getD κ 0)) := by
      funext k
      unfold ctG
      rw [nI_clamp (by omega), if_neg (fun z => z.elim (nI_pos (by omega)) (fun z => by omega))]
    rw [e]
    refine ok_jn2 (fun b κ2 => b = true ∧ κ2 = κ + 1) ?_ (fun j hj => ok_ifT (oc_in hl hc) (hj _ _ ⟨rfl, rfl⟩))
    rintro _ _ ⟨rfl, rfl⟩
    exact ok_lt (hs (k - 1) _ _ _ (by omega) ⟨κ + 1, by omega, rfl, nI_1 _, rfl⟩)
theorem wp_t {t : List Nat} {e : Nat} (he : e < eZ Z) (h5 : eZ Z ≤ 5) : (wpA Z t (nI e)).1 = pL (pZ Z e) 16 ∧ wL_writePile Z t (nI e) = nI (pL (pZ Z e) 16).length := by
  unfold wL_writePile wpA
  rw [if_pos ((idx_nI (by omega) (by omega)).mpr he), tn_nI (by omega)]
  exact ⟨rfl, rfl⟩
theorem wp_f {t : List Nat} {x : Int32} (h : idx (eZ Z) x = false) : wL_writePile Z t x = -11 := by
  unfold wL_writePile wpA
  rw [if_neg (by rw [h]; decide)]
  rfl
theorem ww_f {t : List Nat} {x y : Int32} (h : idx (nZ Z) x = false ∨ idx (nZ Z) y = false) : wL_writeWay Z t x y = -11 := by
  unfold wL_writeWay wwA
  rw [if_neg (by
    rcases h with h | h
    · rw [h, Bool.false_and]; decide
    · rw [h, Bool.and_false]; decide)]
  rfl
theorem ww_t {t : List Nat} {a b : Nat} (hn : nZ Z ≤ 6) (ha : a < nZ Z) (hb : b < nZ Z) : (dZ Z b a = cFA → wL_writeWay Z t (nI a) (nI b) = -13) ∧ (dZ Z b a ≠ cFA → (wwA Z t (nI a) (nI b)).1 = wwL Z a b ∧ wL_writeWay Z t (nI a) (nI b) = nI (wwL Z a b).length) := by
  unfold wL_writeWay wwA
  rw [if_pos (by rw [(idx_nI (by omega) (by omega)).mpr ha, (idx_nI (by omega) (by omega)).mpr hb]; rfl), tn_nI (by omega), tn_nI (by omega)]
  refine ⟨fun h => ?_, fun h => ?_⟩
  · rw [if_pos h]; rfl
  · rw [if_neg h]; exact ⟨rfl, rfl⟩
theorem nI_13 {k : Nat} (hk : k < 2 ^ 31) : ¬ (nI k = -13) := fun e => by
  have h := nI_pos hk
  rw [e] at h
  exact h (by decide)
set_option maxHeartbeats 8000000 in
set_option maxRecDepth 100000 in
theorem k_texts {K : Nat} {t : List Nat} (hN : 1200000000000 ≤ N) (hsi : SI Z) (hn1 : 1 ≤ nZ Z) (hK : 50000 ≤ K) : Ok (fL_texts N Z t K) (fun r => r.1 = true) := by
  have hs9 := SIp_z hsi
  have h5 := hs9.2.2.2.2.2.1
  have hn := hs9.2.1.1
  unfold fL_texts
  refine ok_fix3 (fun k x1 t2 κ => ∃ i, i + k = eZ Z ∧ x1 = nI i ∧ κ ≤ i * 5400) ?_ N (eZ Z) _ _ _ (by omega) ⟨0, by omega, rfl, by omega⟩
  rintro k1 self4 x1 t2 κ3 ⟨i, hi, rfl, hκ⟩ hself
  refine ok_gd (by omega) ?_
  refine ok_le (eZ Z) i (f := fun hc => ?_) (g := fun hc => ?_)
  · refine ok_fix3 (fun k x9 t10 κ => ∃ j, j + k = nZ Z ∧ x9 = nI j ∧ κ ≤ κ3 + j * 2800) ?_ N (nZ Z) _ _ _ (by omega) ⟨0, by omega, rfl, by omega⟩
    rintro k2 self12 x9 t10 κ11 ⟨j, hj, rfl, hκ2⟩ hself2
    refine ok_gd (by omega) ?_
    refine ok_le (nZ Z) j (f := fun hc2 => ?_) (g := fun hc2 => ?_)
    · refine ok_gd (by omega) (ok_gd (by omega) (ok_lt (ok_jn (ok_jn ?_))))
      refine ok_ifT (wp_f (idx_ende h5)) (ok_gd (by omega) (ok_gd (by omega) (ok_lt ?_)))
      refine ok_ifT (ww_f (Or.inr (idx_end hn))) ?_
      exact ok_gd (by omega) (ok_some rfl)
    · have h0 : 0 < nZ Z := hn1
      have z0 : (0 : Int32) = nI 0 := rfl
      have h8 := dZ_8 hs9 hc2
      refine ok_gd (by omega) ?_
      rw [z0, wl_le hn h0 hc2]
      by_cases hd : dZ Z j 0 = cFA
      · rw [if_pos hd]
        refine ok_lt ?_
        refine ok_fix4 (fun k x44 t45 tx κ => k = 0 ∧ x44 = 1 ∧ κ = κ11 + 2) ?_ N 0 _ _ _ _ (by omega) ⟨rfl, rfl, rfl⟩
        rintro k3 self49 x44 t45 tx46 κ48 ⟨rfl, rfl, rfl⟩ _
        refine ok_ifT (by decide) ?_
        refine ok_jn (ok_jn ?_)
        refine ok_ifF (by decide) (ok_gd (by omega) (ok_lt ?_))
        refine ok_ifT ((ww_t hn h0 hc2).1 hd) ?_
        exact ok_lt (hself2 (k2 - 1) _ _ _ (by omega) ⟨j + 1, by omega, nI_1 _, by omega⟩)
      · have hlt : dZ Z j 0 < cFA := by
          rcases best_rm hs9.2.1 h8 hc2 h0 with ⟨h, -⟩ | ⟨h, -⟩
          · exact absurd h hd
          · exact h
        have hS5 := (d8_lex h8 hc2 h0 hlt).2
        have hwy := wy_ok hs9.2.1 h8 hc2 h0 hlt
        have hW10 : ∀ q, q ≤ dZ Z j 0 % 8 → wy (nZ Z) (mZ Z) (dZ Z j) 0 q < 10 := fun q hq => by have := (hwy q hq).1; omega
        have hrm : rmV (eg (nZ Z) (mZ Z) (mZ Z)) 0 j = nI (dZ Z j 0 / 8) ∧ dZ Z j 0 / 8 ≤ 600 := by
          rcases best_rm hs9.2.1 h8 hc2 h0 with ⟨h, -⟩ | ⟨-, h1, h2⟩
          · exact absurd h hd
          · exact ⟨h1, h2⟩
        have h404 : lTx 404 = wL (wy (nZ Z) (mZ Z) (dZ Z j) 0) 1 := by
          have e : wy (nZ Z) (mZ Z) (dZ Z j) 0 0 = 0 := rfl
          show _ = (if 0 < 0 then wL (wy (nZ Z) (mZ Z) (dZ Z j) 0) 0 ++ [62] else wL (wy (nZ Z) (mZ Z) (dZ Z j) 0) 0) ++ dsN (wy (nZ Z) (mZ Z) (dZ Z j) 0 0)
          rw [e, dsN_1 0 (by decide)]
          rfl
        rw [if_neg hd]
        refine ok_lt ?_
        refine ok_fix4 (fun k x44 t45 tx κ => ∃ q, q + k = dZ Z j 0 % 8 + 1 ∧ 1 ≤ q ∧ x44 = nI q ∧ tx = wL (wy (nZ Z) (mZ Z) (dZ Z j) 0) q ∧ κ = κ11 + 2 + (q - 1) * 208) ?_ N (dZ Z j 0 % 8) _ _ _ _ (by omega) ⟨1, by omega, Nat.le_refl _, rfl, h404, by omega⟩
        rintro k3 self49 x44 t45 tx46 κ48 ⟨q, hq, hq1, rfl, rfl, rfl⟩ hself3
        have hl := wL_len (W := wy (nZ Z) (mZ Z) (dZ Z j) 0) q (fun y hy => hW10 y (by omega))
        have l410 : lTx 410 = [61] := rfl
        have l406 : lTx 406 = [62] := rfl
        refine ok_ltI (dZ Z j 0 % 8) q (f := fun hc3 => ?_) (g := fun hc3 => ?_)
        · have eq : q = dZ Z j 0 % 8 + 1 := by omega
          have hmi : gR (aMin Z (nI 0) (nI j)) = some (nI (dZ Z j 0 / 8)) := by
            unfold aMin
            rw [aPr_t h0 hc2 hn, hrm.1]
            unfold npR
            rw [if_neg (nI_m1 (by omega))]
            rfl
          refine ok_jn (ok_jn ?_)
          refine ok_ifT (nI_pos' (by omega)) (ok_gd (by omega) (ok_lt (ok_gd (by omega) (ok_gd (by omega) ?_))))
          obtain ⟨g1, g2⟩ := (ww_t (t := t45) hn h0 hc2).2 hd
          rw [g1, g2, List.nil_append, l410]
          have hd3 := dsN_len (dZ Z j 0 / 8) (by omega)
          have h61 : ([61] : List Nat).length = 1 := rfl
          refine ok_gd (by omega) (ok_gd (by omega) ?_)
          refine ok_gd (by rw [List.length_append]; omega) (ok_gd (by omega) (ok_bindE hmi (ok_gd (by omega) (ok_bindE (dcN_nI (by omega)) ?_))))
          refine ok_gd (by rw [List.length_append, List.length_append]; omega) (ok_gd (by omega) (ok_gd (by omega) ?_))
          have ew : (wL (wy (nZ Z) (mZ Z) (dZ Z j) 0) q ++ [61]) ++ dsN (dZ Z j 0 / 8) = wwL Z 0 j := by rw [eq]; rfl
          rw [ew]
          refine ok_bind (k_spells (by omega) (by rw [← ew, List.length_append, List.length_append]; omega) (Nat.le_refl _) rfl) ?_
          rintro _ rfl
          refine ok_cdT rfl ?_
          exact ok_lt (hself2 (k2 - 1) _ _ _ (by omega) ⟨j + 1, by omega, nI_1 _, by omega⟩)
        · have hWq := hW10 q (by omega)
          have hd1 := dsN_len1 _ hWq
          have h62 : ([62] : List Nat).length = 1 := rfl
          refine ok_gd (by omega) (ok_gd (by omega) ?_)
          rw [List.nil_append, l406]
          refine ok_gd (by omega) (ok_gd (by omega) ?_)
          refine ok_gd (by rw [List.length_append]; omega) (ok_gd (by omega) (ok_bindE (gR_way hn h0 hc2 hlt (by omega)) (ok_gd (by omega) (ok_bindE (dcN_nI (by omega)) ?_))))
          refine ok_gd (by rw [List.length_append, List.length_append]; omega) (ok_gd (by omega) (ok_lt ?_))
          refine hself3 (k3 - 1) _ _ _ _ (by omega) ⟨q + 1, by omega, by omega, nI_1 _, ?_, by omega⟩
          show _ = (if 0 < q then wL (wy (nZ Z) (mZ Z) (dZ Z j) 0) q ++ [62] else wL (wy (nZ Z) (mZ Z) (dZ Z j) 0) q) ++ dsN (wy (nZ Z) (mZ Z) (dZ Z j) 0 q)
          rw [if_pos (by omega)]
  · have hX := SI_ex_z hsi hc
    have hp : stab (pZ Z i) := hX.2.2.2.2.2.1
    have l380 : lTx 380 = [] := rfl
    have l389 : lTx 389 = [47] := rfl
    refine ok_fix4 (fun k x110 t111 tx κ => ∃ q, q + k = 16 ∧ x110 = nI q ∧ tx = pL (pZ Z i) q ∧ κ ≤ κ3 + q * 208) ?_ N 16 _ _ _ _ (by omega) ⟨0, rfl, rfl, rfl, by omega⟩
    rintro k2 self115 x110 t111 tx112 κ114 ⟨q, hq, rfl, rfl, hκ2⟩ hself2
    refine ok_le 16 q (f := fun hc2 => ?_) (g := fun hc2 => ?_)
    · have e16 : q = 16 := by omega
      subst e16
      have hl := pL_len hp 16 (by omega)
      obtain ⟨g1, g2⟩ := wp_t (t := t111) hc h5
      refine ok_gd (by omega) ?_
      rw [g1, g2]
      refine ok_lt (ok_gd (by omega) ?_)
      refine ok_bind (k_spells (by omega) (by omega) (Nat.le_refl _) rfl) ?_
      rintro _ rfl
      refine ok_cdT rfl ?_
      exact ok_lt (hself (k1 - 1) _ _ _ (by omega) ⟨i + 1, by omega, nI_1 _, by omega⟩)
    · have hl := pL_len hp q (by omega)
      have hpq := hp q hc2
      have hd1 := dsN_len1 (pZ Z i q) (by omega)
      have h47 : ([47] : List Nat).length = 1 := rfl
      have e4 : nI q / 4 = nI (q / 4) := dvN 4 (by omega) (by decide) (by decide)
      have er : nI q - nI (q / 4) * 4 = nI (q % 4) := by
        rw [← e4]
        exact rmN 4 (by omega) (by decide) (by decide)
      have hga : gR (aGrainsAt Z (nI i) (nI (q % 4)) (nI (q / 4))) = some (nI (pZ Z i q)) := by
        rw [gR_ga hc h5 (by omega) (by omega), show 4 * (q / 4) + q % 4 = q by omega]
      rw [e4, er, List.nil_append, l380, l389, List.append_nil]
      refine ok_gd (by omega) (ok_gd (by omega) (ok_gd (by omega) ?_))
      refine ok_jn2 (fun t9 κ9 => κ9 = κ114 + 54 ∧ ¬ (0 < q ∧ q % 4 = 0)) ?_ (fun jj hjj => ?_)
      · rintro t9 κ9 ⟨rfl, hno⟩
        refine ok_gd (by omega) (ok_gd (by omega) (ok_gd (by omega) (ok_bindE hga (ok_gd (by omega) (ok_bindE (dcN_nI (by omega)) ?_)))))
        refine ok_gd (by rw [List.length_append]; omega) (ok_gd (by omega) (ok_lt ?_))
        refine hself2 (k2 - 1) _ _ _ _ (by omega) ⟨q + 1, by omega, nI_1 _, ?_, by omega⟩
        show _ = (if 0 < q ∧ q % 4 = 0 then pL (pZ Z i) q ++ [47] else pL (pZ Z i) q) ++ dsN (pZ Z i q)
        rw [if_neg hno]
      · refine ok_le q 0 (f := fun h0 => hjj _ _ ⟨rfl, fun z => by omega⟩) (g := fun h0 => ?_)
        refine ok_eqI (q % 4) 0 (f := fun h4 => ?_) (g := fun h4 => hjj _ _ ⟨rfl, fun z => h4 z.2⟩)
        refine ok_gd (by omega) (ok_gd (by rw [List.length_append]; omega) (ok_gd (by omega) (ok_bindE hga (ok_gd (by omega) (ok_bindE (dcN_nI (by omega)) ?_)))))
        refine ok_gd (by rw [List.length_append, List.length_append]; omega) (ok_gd (by omega) (ok_lt ?_))
        refine hself2 (k2 - 1) _ _ _ _ (by omega) ⟨q + 1, by omega, nI_1 _, ?_, by omega⟩
        show _ = (if 0 < q ∧ q % 4 = 0 then pL (pZ Z i) q ++ [47] else pL (pZ Z i) q) ++ dsN (pZ Z i q)
        rw [if_pos ⟨h0, h4⟩]
end KTX
