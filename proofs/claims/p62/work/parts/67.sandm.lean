/-! Pure layer, 8: the reference's piles. -/
section SM
variable {N : Nat} {μ : Mem} {a0 : Nat} {p : Nat → Nat}
theorem m_of {x y : Int32} (e w : Nat) (he : e < 5) (hw : w < 147) (hx : x = nI e) (hy : y = nI w) : fX11_of N μ a0 x y = some (μ (a0 + 1) (82 + 147 * e + w)) := by
  subst hx; subst hy
  unfold fX11_of ag
  have h : (82 : Int32) + 147 * nI e + nI w = nI (82 + 147 * e + w) := by
    rw [show (82 : Int32) = nI 82 from rfl, show (147 : Int32) = nI 147 from rfl, pk_mul, nI_add, nI_add]
  rw [h, if_neg (vp_in_nI (by omega) (by decide)), nI_clamp (by omega)]
theorem m_sets {x y v : Int32} (e w : Nat) (he : e < 5) (hw : w < 147) (hx : x = nI e) (hy : y = nI w) : fX11_sets N μ a0 x y v = some (mset μ (a0 + 1) (82 + 147 * e + w) v) := by
  subst hx; subst hy
  unfold fX11_sets aw
  have h : (82 : Int32) + 147 * nI e + nI w = nI (82 + 147 * e + w) := by
    rw [show (82 : Int32) = nI 82 from rfl, show (147 : Int32) = nI 147 from rfl, pk_mul, nI_add, nI_add]
  rw [h, if_neg (vp_in_nI (by omega) (by decide)), nI_clamp (by omega)]
theorem l7 (i : Nat) : (7 : Int32) + nI i = nI (7 + i) := nI_add 7 i
/-- exhibit e of the reference has the pile p -/
def mP (μ : Mem) (a0 e : Nat) (p : Nat → Nat) : Prop := ∀ i, i < 16 → μ (a0 + 1) (82 + 147 * e + (7 + i)) = nI (p i)
theorem k_all {e : Nat} (hN : 17 ≤ N) (he : e < 5) (h : mP μ a0 e p) : Ok (fX11_all N μ a0 (nI e)) (fun r => r = nI (grs p)) := by
  unfold fX11_all
  refine ok_fix2 (fun k x y => ∃ i, i + k = 16 ∧ x = nI (sm i p) ∧ y = nI i) ?_ N 16 _ _ (by omega) ⟨0, rfl, rfl, rfl⟩
  rintro k self x y ⟨i, hi, rfl, rfl⟩ hs
  refine ok_le 16 i (f := fun hc => ?_) (g := fun hc => ?_)
  · have : i = 16 := by omega
    subst this
    exact ok_some rfl
  · refine ok_bindE (m_of e (7 + i) he (by omega) rfl (l7 i)) ?_
    rw [h i hc]
    exact ok_lt (ok_lt (hs (k - 1) _ _ (by omega) ⟨i + 1, by omega, nI_add _ _, nI_1 _⟩))
theorem k_settles (hN : 20000 ≤ N) (h : ArN μ (a0 + 7) 16 p) (hg : pot p ≤ 1000) : Ok (fX11_settles N μ a0) (fun r => ∃ l, legal l p ∧ stab (runT l p) ∧ ArN r.1 (a0 + 7) 16 (runT l p) ∧ r.1 a0 13 = nI (grs p - grs (runT l p)) ∧ (∀ j, j ≠ 13 → r.1 a0 j = μ a0 j) ∧ frm (fun q => q = a0 ∨ q = a0 + 7 ∨ q = a0 + 8) μ r.1 ∧ r.2 = nI l.length) := by
  unfold fX11_settles
  refine ok_lt ?_
  have hF : frm (fun q => q = a0 ∨ q = a0 + 7 ∨ q = a0 + 8) μ (mset μ a0 13 0) := frm.set (X := fun q => q = a0 ∨ q = a0 + 7 ∨ q = a0 + 8) frm.rf (Or.inl rfl) _ _
  refine ok_fix2 (fun k x m => ∃ i, i + k = 16 ∧ x = nI i ∧ frm (fun q => q = a0 ∨ q = a0 + 7 ∨ q = a0 + 8) μ m ∧ ArN m (a0 + 7) 16 p ∧ ArN m (a0 + 8) i (fun _ => 0) ∧ m a0 = upd (μ a0) 13 0) ?_ N 16 _ _ (by omega) ⟨0, rfl, rfl, hF, h.mv (mset_ne _ _ _ _ (by omega)), fun i hi => absurd hi (Nat.not_lt_zero _), mset_same _ _ _ _⟩
  rintro k self x m ⟨i, hi, rfl, hf, hm, hz, h0⟩ hs
  refine ok_le 16 i (f := fun hc => ?_) (g := fun hc => ?_)
  · have : i = 16 := by omega
    subst this
    clear hs
    refine ok_fix3 (fun k x8 x9 m => ∃ l pl, x8 = nI l.length ∧ x9 = nI pl ∧ pl ≤ 16 ∧ legal l p ∧ (∀ i, i < pl → runT l p i ≤ 3) ∧ ArN m (a0 + 7) 16 (runT l p) ∧ ArN m (a0 + 8) 16 (cnt l) ∧ m a0 13 = nI (grs p - grs (runT l p)) ∧ (∀ j, j ≠ 13 → m a0 j = μ a0 j) ∧ frm (fun q => q = a0 ∨ q = a0 + 7 ∨ q = a0 + 8) μ m ∧ k = 17 * pot (runT l p) + (16 - pl)) ?_ N (17 * pot p + 16) _ _ _ (by omega) ⟨[], 0, rfl, rfl, by omega, True.intro, fun i hi => absurd hi (Nat.not_lt_zero _), hm, hz.cg (fun i _ => (cnt_nil i).symm), ?_, fun j hj => ?_, hf, rfl⟩
    · rintro k self x8 x9 m ⟨l, pl, rfl, rfl, hpl, hl, hst, hm, ht, h13, h0, hf, hk⟩ hs
      have hpr := pot_run l p hl
      have hgr := grs_run l p hl
      refine ok_le 16 pl (f := fun hc => ?_) (g := fun hc => ?_)
      · exact ok_some ⟨l, hl, fun i hi => hst i (by omega), hm, h13, h0, hf, rfl⟩
      · refine ok_ag pl rfl hc (by decide) ?_
        rw [hm pl hc]
        have hsm := pot_s (c := 0) (p := runT l p) (by omega) hc
        refine ok_jn ?_
        refine ok_ltI (runT l p pl) 4 (f := fun h3 => ?_) (g := fun h4 => ?_)
        · refine ok_fix2 (fun _ x m' => x = 0 ∧ m' = m) ?_ N 0 _ _ (by omega) ⟨rfl, rfl⟩
          rintro _ _ _ _ ⟨rfl, rfl⟩ -
          refine ok_jn ?_
          refine ok_ifF (by decide) ?_
          refine ok_cdF rfl ?_
          refine ok_ag pl rfl hc (by decide) ?_
          refine ok_jn (ok_cdF rfl ?_)
          refine ok_aw pl rfl hc (by decide) ?_
          refine ok_jn (ok_cdF rfl ?_)
          refine ok_lt (ok_jn (ok_cdF rfl ?_))
          rw [ht pl hc]
          refine hs (k - 1) _ _ _ (by omega) ⟨l, pl + 1, ?_, nI_1 _, by omega, hl, fun i hi => ?_, hm.mv (mset_ne _ _ _ _ (by omega)), ?_, ?_, fun j hj => ?_, frm.set (X := fun q => q = a0 ∨ q = a0 + 7 ∨ q = a0 + 8) hf (Or.inr (Or.inr rfl)) _ _, by omega⟩
          · exact nI_add _ 0
          · by_cases e : i = pl
            · subst e; omega
            · exact hst i (by omega)
          · refine (ht.set pl (cnt l pl) (nI_add _ 0)).cg (fun i _ => ?_)
            unfold updN
            by_cases e : i = pl
            · subst e; rw [if_pos rfl]
            · rw [if_neg e]
          · rw [mset_ne _ _ _ _ (by omega)]; exact h13
          · rw [mset_ne _ _ _ _ (by omega)]; exact h0 j hj
        · refine ok_fix2 (fun k2 x m' => ∃ d, d + k2 = 4 ∧ x = nI d ∧ ArN m' (a0 + 7) 16 (mid nbM (runT l p) pl d d) ∧ m' (a0 + 8) = m (a0 + 8) ∧ m' a0 13 = nI (grs p - grs (runT l p) + opd nbM pl d) ∧ (∀ j, j ≠ 13 → m' a0 j = μ a0 j) ∧ frm (fun q => q = a0 ∨ q = a0 + 7 ∨ q = a0 + 8) μ m') ?_ N 4 _ _ (by omega) ⟨0, rfl, rfl, hm.cg (fun i _ => ?_), rfl, h13, h0, hf⟩
          · rintro k2 self2 x m' ⟨d, hd, rfl, hm', h8, h13', h0', hf'⟩ hs2
            refine ok_jn ?_
            refine ok_le 4 d (f := fun hd4 => ?_) (g := fun hd4 => ?_)
            · have : d = 4 := by omega
              subst this
              refine ok_ag pl rfl hc (by decide) ?_
              refine ok_jn (ok_cdT rfl ?_)
              refine ok_aw pl rfl hc (by decide) ?_
              refine ok_jn (ok_cdT rfl ?_)
              refine ok_lt (ok_jn (ok_cdT rfl ?_))
              rw [h8, ht pl hc]
              have hp1 := pot_topl hc h4
              have hg1 := grs_topl hc h4
              refine hs (17 * pot (topl (runT l p) pl) + 16) _ _ _ (by omega) ⟨l ++ [pl], 0, ?_, rfl, by omega, legal_one hl hc h4, fun i hi => absurd hi (Nat.not_lt_zero _), ?_, ?_, ?_, fun j hj => ?_, frm.set (X := fun q => q = a0 ∨ q = a0 + 7 ∨ q = a0 + 8) hf' (Or.inr (Or.inr rfl)) _ _, by rw [runT_one]⟩
              · rw [List.length_append]; exact nI_add _ 1
              · rw [runT_one]
                exact (hm'.cg (mid_end (cnM pl hc))).mv (mset_ne _ _ _ _ (by omega))
              · have ht' : ArN m' (a0 + 8) 16 (cnt l) := ht.mv h8
                refine (ht'.set pl (cnt l pl + 1) (nI_add _ 1)).cg (fun i _ => ?_)
                rw [cnt_one]
                unfold updN
                by_cases e : i = pl
                · subst e; rw [if_pos rfl, if_pos rfl]
                · rw [if_neg e, if_neg e]; rfl
              · rw [mset_ne _ _ _ _ (by omega), h13', runT_one, opM pl hc]
                refine congrArg nI ?_
                omega
              · rw [mset_ne _ _ _ _ (by omega)]; exact h0' j hj
            · refine ok_cdT rfl ?_
              refine ok_bindE (beM hc hd4) ?_
              have hb := nbM_ok.1 pl hc d hd4
              refine ok_ag pl rfl hc (by decide) ?_
              refine ok_aw pl rfl hc (by decide) ?_
              rw [hm' pl hc]
              have hdp : 1 ≤ mid nbM (runT l p) pl d d pl := by
                unfold mid; rw [if_pos rfl]; omega
              have hsub : nI (mid nbM (runT l p) pl d d pl) - 1 = nI (mid nbM (runT l p) pl d d pl - 1) := pk_sub (b := 1) hdp
              have hm1 : ArN (mset m' (a0 + 7) pl (nI (mid nbM (runT l p) pl d d pl) - 1)) (a0 + 7) 16 (mid nbM (runT l p) pl (d + 1) d) := (hm'.set pl _ hsub).cg (fun i _ => by
                unfold updN mid
                by_cases e : i = pl
                · subst e; rw [if_pos rfl, if_pos rfl, if_pos rfl]; omega
                · rw [if_neg e, if_neg e, if_neg e])
              refine ok_jn ?_
              refine ok_if (fun he => ?_) (fun he => ?_)
              · have he : nbM pl d ≠ 16 := (bv_ge hb.1).mp he
                rw [bv_pl he]
                have hlt : nbM pl d < 16 := by omega
                refine ok_lt (ok_jn ?_)
                refine ok_ifF (nI_pos (by omega)) ?_
                refine ok_ag (nbM pl d) rfl hlt (by decide) ?_
                refine ok_aw (nbM pl d) rfl hlt (by decide) ?_
                refine ok_lt ?_
                refine hs2 (k2 - 1) _ _ (by omega) ⟨d + 1, by omega, nI_1 _, ?_, ?_, ?_, fun j hj => ?_, ?_⟩
                · have hm2 := hm1.mv (mset_ne (mset m' (a0 + 7) pl (nI (mid nbM (runT l p) pl d d pl) - 1)) a0 13 ((mset m' (a0 + 7) pl (nI (mid nbM (runT l p) pl d d pl) - 1)) a0 13 + b2i false) (show a0 + 7 ≠ a0 by omega))
                  rw [hm2 _ hlt]
                  refine (hm2.set (nbM pl d) _ (nI_1 _)).cg (fun i _ => ?_)
                  show (if i = nbM pl d then mid nbM (runT l p) pl (d + 1) d (nbM pl d) + 1 else mid nbM (runT l p) pl (d + 1) d i) = (if i = pl then runT l p i - (d + 1) else runT l p i + (cn nbM pl d i + if nbM pl d = i then 1 else 0))
                  by_cases e : i = nbM pl d
                  · subst e
                    rw [if_pos rfl, if_neg hb.2, if_pos rfl]
                    unfold mid
                    rw [if_neg hb.2]; omega
                  · rw [if_neg e, if_neg (fun z => e z.symm : ¬ nbM pl d = i)]
                    unfold mid
                    by_cases e2 : i = pl
                    · rw [if_pos e2, if_pos e2]
                    · rw [if_neg e2, if_neg e2]; rfl
                · rw [mset_ne _ _ _ _ (by omega), mset_ne _ _ _ _ (by omega), mset_ne _ _ _ _ (by omega), h8]
                · rw [mset_ne _ _ _ _ (by omega), mset_at, mset_ne _ _ _ _ (by omega), h13']
                  show _ = nI (grs p - grs (runT l p) + (opd nbM pl d + if nbM pl d = 16 then 1 else 0))
                  rw [if_neg he]
                  exact nI_add _ 0
                · rw [mset_ne _ _ _ _ (by omega), mset_sl _ _ _ _ hj, mset_ne _ _ _ _ (by omega)]; exact h0' j hj
                · exact frm.set (X := fun q => q = a0 ∨ q = a0 + 7 ∨ q = a0 + 8) (frm.set (X := fun q => q = a0 ∨ q = a0 + 7 ∨ q = a0 + 8) (frm.set (X := fun q => q = a0 ∨ q = a0 + 7 ∨ q = a0 + 8) hf' (Or.inr (Or.inl rfl)) _ _) (Or.inl rfl) _ _) (Or.inr (Or.inl rfl)) _ _
              · have he : nbM pl d = 16 := Classical.byContradiction fun z => he ((bv_ge hb.1).mpr z)
                refine ok_lt (ok_jn ?_)
                refine ok_ifT ((bv_lt hb.1).mpr he) ?_
                refine ok_lt ?_
                refine hs2 (k2 - 1) _ _ (by omega) ⟨d + 1, by omega, nI_1 _, ?_, ?_, ?_, fun j hj => ?_, ?_⟩
                · refine (hm1.mv (mset_ne _ _ _ _ (by omega))).cg (fun i hi => ?_)
                  show (if i = pl then runT l p i - (d + 1) else runT l p i + cn nbM pl d i) = (if i = pl then runT l p i - (d + 1) else runT l p i + (cn nbM pl d i + if nbM pl d = i then 1 else 0))
                  rw [if_neg (fun z => by omega : ¬ nbM pl d = i)]; rfl
                · rw [mset_ne _ _ _ _ (by omega), mset_ne _ _ _ _ (by omega), h8]
                · rw [mset_at, mset_ne _ _ _ _ (by omega), h13']
                  show _ = nI (grs p - grs (runT l p) + (opd nbM pl d + if nbM pl d = 16 then 1 else 0))
                  rw [if_pos he]
                  exact nI_add _ 1
                · rw [mset_sl _ _ _ _ hj, mset_ne _ _ _ _ (by omega)]; exact h0' j hj
                · exact frm.set (X := fun q => q = a0 ∨ q = a0 + 7 ∨ q = a0 + 8) (frm.set (X := fun q => q = a0 ∨ q = a0 + 7 ∨ q = a0 + 8) hf' (Or.inr (Or.inl rfl)) _ _) (Or.inl rfl) _ _
          · unfold mid
            by_cases e : i = pl
            · rw [if_pos e]; rfl
            · rw [if_neg e]; rfl
    · rw [h0]
      show upd (μ a0) 13 0 13 = nI (grs p - grs p)
      rw [Nat.sub_self]; rfl
    · rw [h0]
      unfold upd
      rw [if_neg hj]
  · refine ok_aw i rfl hc (by decide) ?_
    refine ok_lt ?_
    refine hs (k - 1) _ _ (by omega) ⟨i + 1, by omega, nI_1 _, frm.set (X := fun q => q = a0 ∨ q = a0 + 7 ∨ q = a0 + 8) hf (Or.inr (Or.inr rfl)) _ _, hm.mv (mset_ne _ _ _ _ (by omega)), fun j hj => ?_, by rw [mset_ne _ _ _ _ (by omega)]; exact h0⟩
    rw [mset_if]
    by_cases e : j = i
    · rw [if_pos e]; rfl
    · rw [if_neg e]; exact hz j (by omega)
end SM
