/-! Pure layer, 6: the class's piles: drops, burning, toppling once each, slopes. -/
theorem wsum3 : sm 16 (fun i => wgt i * 3) = 240 := by decide +kernel
theorem pot_stab {p : Nat → Nat} (hp : stab p) : pot p ≤ 240 := by
  rw [← wsum3]; exact sm_le 16 (fun i hi => Nat.mul_le_mul_left _ (hp i hi))
theorem pot_upd {p : Nat → Nat} {k g : Nat} (hk : k < 16) : pot (updN p k (p k + g)) ≤ pot p + 6 * g := by
  have h1 := sm_one (f := fun i => wgt i * updN p k (p k + g) i) (g := fun i => wgt i * p i) (k := k) 16 hk (fun i _ hn => by rw [updN_ne _ _ _ hn])
  simp only [updN_at] at h1
  rw [Nat.mul_add] at h1
  have h2 : wgt k * g ≤ 6 * g := Nat.mul_le_mul_right _ (by unfold wgt; split <;> omega)
  unfold pot
  omega
theorem grs_upd {p : Nat → Nat} {k g : Nat} (hk : k < 16) : grs (updN p k (p k + g)) = grs p + g := by
  have h1 := sm_one (f := updN p k (p k + g)) (g := p) (k := k) 16 hk (fun i _ hn => by rw [updN_ne _ _ _ hn])
  rw [updN_at] at h1
  unfold grs
  omega
theorem grs_stab {p : Nat → Nat} (hp : stab p) : grs p ≤ 48 := sm_b (c := 3) 16 hp
section SE
variable {N : Nat} {μ : Mem} {a0 a1 a : Nat} {p : Nat → Nat}
theorem k_fallOn (hN : 20000 ≤ N) (hne : a1 + 1 ≠ a0 + 2) (hne2 : a1 ≠ a0 + 2) (h : ArN μ (a1 + 1) 16 p) (hp : stab p) {k g : Nat} (hk : k < 16) (hg : g ≤ 40) : Ok (fX6_fallOn N μ a0 a1 (nI k) (nI g)) (fun r => ∃ l, legal l (updN p k (p k + g)) ∧ stab (runT l (updN p k (p k + g))) ∧ ArN r.1 (a1 + 1) 16 (runT l (updN p k (p k + g))) ∧ r.1 a1 3 = μ a1 3 + nI g ∧ r.1 a1 4 = μ a1 4 + (nI (grs (updN p k (p k + g))) - nI (grs (runT l (updN p k (p k + g))))) ∧ (∀ j, j ≠ 3 → j ≠ 4 → r.1 a1 j = μ a1 j) ∧ frm (fun q => q = a1 ∨ q = a1 + 1 ∨ q = a0 + 2) μ r.1 ∧ r.2 = nI l.length) := by
  have hpo := pot_stab hp
  have hpu := pot_upd (p := p) (g := g) hk
  have hsm : ∀ i, i < 16 → updN p k (p k + g) i < 2 ^ 20 := fun i hi => pot_s (c := 0) (by omega) hi
  unfold fX6_fallOn
  refine ok_ag k rfl hk (by decide) ?_
  refine ok_aw k rfl hk (by decide) ?_
  rw [h k hk]
  refine ok_lt ?_
  have e0 : ∀ m : Mem, m a1 = m a1 := fun _ => rfl
  have h1 : ArN (mset μ (a1 + 1) k (nI (p k) + nI g)) (a1 + 1) 16 (updN p k (p k + g)) := h.set k _ (nI_add _ _)
  have h2 : ArN (mset (mset μ (a1 + 1) k (nI (p k) + nI g)) a1 3 (mset μ (a1 + 1) k (nI (p k) + nI g) a1 3 + nI g)) (a1 + 1) 16 (updN p k (p k + g)) := h1.mv (mset_ne _ _ _ _ (by omega))
  rw [mset_ne μ (a1 + 1) k _ (show a1 ≠ a1 + 1 by omega)] at h2 ⊢
  refine ok_bind (k_countGrains (by omega) h2) ?_
  rintro _ rfl
  refine ok_bind (k_toppleByPlaces hN hne h2 (by omega)) ?_
  rintro ⟨m, c⟩ ⟨l, hl, hst, hm, -, hf, hc, hlen⟩
  simp only at hm hf hc
  subst hc
  refine ok_bind (k_countGrains (by omega) hm) ?_
  rintro _ rfl
  refine ok_lt (ok_some ?_)
  have e1 : m a1 = mset (mset μ (a1 + 1) k (nI (p k) + nI g)) a1 3 (μ a1 3 + nI g) a1 := hf a1 (by rintro (z | z) <;> omega)
  have e2 : ∀ j, m a1 j = if j = 3 then μ a1 3 + nI g else μ a1 j := fun j => by
    rw [e1, mset_if, mset_ne _ _ _ _ (show a1 ≠ a1 + 1 by omega)]
  refine ⟨l, hl, hst, hm.mv (mset_ne _ _ _ _ (by omega)), ?_, ?_, ?_, ?_, rfl⟩
  · show mset m a1 4 _ a1 3 = _
    rw [mset_sl _ _ _ _ (by decide), e2]; rfl
  · show mset m a1 4 _ a1 4 = _
    rw [mset_at]; dsimp only; rw [e2]; rfl
  · intro j h3 h4
    show mset m a1 4 _ a1 j = _
    rw [mset_sl _ _ _ _ h4, e2, if_neg h3]
  · refine frm.set (X := fun q => q = a1 ∨ q = a1 + 1 ∨ q = a0 + 2) ?_ (Or.inl rfl) _ _
    refine frm.tr ?_ (hf.mono (fun q hq => Or.inr hq))
    exact frm.set (X := fun q => q = a1 ∨ q = a1 + 1 ∨ q = a0 + 2) (frm.set (X := fun q => q = a1 ∨ q = a1 + 1 ∨ q = a0 + 2) frm.rf (Or.inr (Or.inl rfl)) _ _) (Or.inl rfl) _ _
theorem k_tryFall (h : ArN μ (a1 + 1) 16 p) {k g : Nat} (hk : k < 16) : Ok (fX6_tryFall N μ a0 a1 (nI k) (nI g)) (fun m => ArN m (a0 + 1) 16 (updN p k (p k + g)) ∧ frm (fun q => q = a0 + 1) μ m) := by
  unfold fX6_tryFall
  refine ok_acp 0 0 16 rfl rfl rfl (by decide) (by decide) (by decide) (by decide) ?_
  have h1 : ArN (mcp μ (a1 + 1) (a0 + 1) 0 0 16) (a0 + 1) 16 p := fun i hi => by
    rw [mcp_in (by omega) (by omega), show 0 + (i - 0) = i by omega, h i hi]
  refine ok_ag k rfl hk (by decide) ?_
  refine ok_aw k rfl hk (by decide) ?_
  rw [h1 k hk]
  exact ok_some ⟨h1.set k _ (nI_add _ _), frm.set (X := fun q => q = a0 + 1) (frm.cpy (X := fun q => q = a0 + 1) frm.rf rfl _ _ _) rfl _ _⟩
theorem k_countUnmarkedBeside {left : Nat → Bool} (hN : 5 ≤ N) (ha : a < 16) (h : ArN μ (a0 + 3) 16 (fun j => (!left j).toNat)) : Ok (fX6_countUnmarkedBeside N μ a0 (nI a)) (fun r => r = nI (nbs left a)) := by
  unfold fX6_countUnmarkedBeside
  have hbd : ∀ d, d ≤ 4 → cl nbC (fun b => (left b).toNat) a d ≤ d := fun d => by
    induction d with
    | zero => intro _; exact Nat.le_refl _
    | succ d ih =>
      intro hd
      have := ih (by omega)
      show cl nbC (fun b => (left b).toNat) a d + _ ≤ d + 1
      have h1 : (if nbC a d = 16 then 0 else (left (nbC a d)).toNat) ≤ 1 := by
        split
        · omega
        · exact toNat_le1 _
      dsimp only
      omega
  refine ok_fix2 (fun k x y => ∃ d, d + k = 4 ∧ x = nI (cl nbC (fun b => (left b).toNat) a d) ∧ y = nI d) ?_ N 4 _ _ (by omega) ⟨0, rfl, rfl, rfl⟩
  rintro k self x y ⟨d, hd, rfl, rfl⟩ hs
  refine ok_le 4 d (f := fun hc => ?_) (g := fun hc => ?_)
  · have : d = 4 := by omega
    subst this
    exact ok_some (by rw [clC ha]; rfl)
  · refine ok_bindE (beC ha hc) ?_
    have hb := nbC_ok.1 a ha d hc
    have e : cl nbC (fun b => (left b).toNat) a (d + 1) = cl nbC (fun b => (left b).toNat) a d + if nbC a d = 16 then 0 else (left (nbC a d)).toNat := rfl
    refine ok_jn ?_
    refine ok_if (fun he => ?_) (fun he => ?_)
    · have he := (bv_m1 hb.1).mp he
      refine ok_lt ?_
      exact hs (k - 1) _ _ (by omega) ⟨d + 1, by omega, by rw [e, if_pos he]; rfl, nI_1 _⟩
    · have he : nbC a d ≠ 16 := fun z => he ((bv_m1 hb.1).mpr z)
      rw [bv_pl he]
      have hlt : nbC a d < 16 := by omega
      refine ok_ag (nbC a d) rfl hlt (by decide) ?_
      rw [h _ hlt]
      dsimp only
      rcases Bool.eq_false_or_eq_true (left (nbC a d)) with hl | hl
      rotate_left
      · refine ok_ifF (by rw [hl]; decide) ?_
        refine ok_lt ?_
        exact hs (k - 1) _ _ (by omega) ⟨d + 1, by omega, by rw [e, if_neg he, hl]; rfl, nI_1 _⟩
      · refine ok_ifT (by rw [hl]; rfl) ?_
        refine ok_lt (ok_lt ?_)
        exact hs (k - 1) _ _ (by omega) ⟨d + 1, by omega, by rw [e, if_neg he, hl]; exact nI_1 _, nI_1 _⟩
/-- how many places are not left -/
def gone (left : Nat → Bool) : Nat := sm 16 (fun j => (!left j).toNat)
theorem gone_le (left : Nat → Bool) : gone left ≤ 16 := sm_b (c := 1) 16 (fun _ _ => toNat_le1 _)
theorem gone_all {left : Nat → Bool} : gone left = 16 ↔ ∀ i, i < 16 → left i = false := by
  constructor
  · intro h i hi
    cases hl : left i
    · rfl
    · exfalso
      have h1 := sm_one (f := fun j => (!left j).toNat) (g := fun j => (!(if j = i then false else left j)).toNat) (k := i) 16 hi (fun a _ hn => by simp only [if_neg hn])
      have h2 : gone (fun j => if j = i then false else left j) ≤ 16 := gone_le _
      simp only [if_pos, hl] at h1
      unfold gone at h h2
      dsimp only at h2
      have e1 : (!false).toNat = 1 := rfl
      have e2 : (!true).toNat = 0 := rfl
      omega
  · intro h
    unfold gone
    rw [sm_cg 16 (g := fun _ => 1) (fun i hi => by rw [h i hi]; rfl)]
    decide
/-- the class burns -/
theorem k_burnsWhole (hN : 100 ≤ N) (hne : a1 ≠ a0 + 3) (h : ArN μ a1 16 p) (hp : stab p) : Ok (fX6_burnsWhole N μ a0 a1) (fun r => (r.2 = true ↔ lasting p) ∧ frm (fun q => q = a0 + 3) μ r.1) := by
  unfold fX6_burnsWhole
  refine ok_fix2 (fun k x m => ∃ i, i + k = 16 ∧ x = nI i ∧ frm (fun q => q = a0 + 3) μ m ∧ ArN m (a0 + 3) i (fun _ => 0)) ?_ N 16 _ _ (by omega) ⟨0, rfl, rfl, frm.rf, fun i hi => absurd hi (Nat.not_lt_zero _)⟩
  rintro k self x m ⟨i, hi, rfl, hf, hz⟩ hs
  refine ok_le 16 i (f := fun hc => ?_) (g := fun hc => ?_)
  · have : i = 16 := by omega
    subst this
    clear hs
    refine ok_fix3 (fun k x6 x7 m => ∃ left rd, rd + k = 16 ∧ x6 = nI (gone left) ∧ x7 = nI rd ∧ frm (fun q => q = a0 + 3) μ m ∧ ArN m (a0 + 3) 16 (fun j => (!left j).toNat) ∧ burnI p left ∧ (rd ≤ gone left ∨ ∀ i, i < 16 → left i = true → p i < nbs left i)) ?_ N 16 _ _ _ (by omega) ⟨fun _ => true, 0, rfl, by rfl, rfl, hf, hz.cg (fun _ _ => rfl), burnI_all p, Or.inl (Nat.zero_le _)⟩
    rintro k self x6 x7 m ⟨left, rd, hrd, rfl, rfl, hf, hm, hbi, hor⟩ hs
    have hgl := gone_le left
    refine ok_le 16 rd (f := fun hc => ?_) (g := fun hc => ?_)
    · have : rd = 16 := by omega
      subst this
      have hfin : (gone left = 16 ↔ lasting p) := by
        rcases hor with h1 | h1
        · have hall : ∀ i, i < 16 → left i = false := gone_all.mp (by omega)
          rw [gone_all]
          exact burn_end hbi (fun i hi hl => by rw [hall i hi] at hl; cases hl)
        · rw [gone_all]; exact burn_end hbi h1
      refine ok_jn ?_
      refine ok_eqI (gone left) 16 (f := fun he => ?_) (g := fun he => ?_)
      · exact ok_some ⟨⟨fun _ => hfin.mp he, fun _ => rfl⟩, hf⟩
      · exact ok_some ⟨⟨fun z => (by cases z), fun z => absurd (hfin.mpr z) he⟩, hf⟩
    · refine ok_fix3 (fun k2 x17 x18 m => ∃ lf i, i + k2 = 16 ∧ x17 = nI (gone lf) ∧ x18 = nI i ∧ frm (fun q => q = a0 + 3) μ m ∧ ArN m (a0 + 3) 16 (fun j => (!lf j).toNat) ∧ burnI p lf ∧ ((lf = left ∧ ∀ j, j < i → left j = true → p j < nbs left j) ∨ (gone left + 1 ≤ gone lf ∧ ¬ ∀ i, i < 16 → left i = true → p i < nbs left i))) ?_ N 16 _ _ _ (by omega) ⟨left, 0, rfl, rfl, rfl, hf, hm, hbi, Or.inl ⟨rfl, fun j hj => absurd hj (Nat.not_lt_zero _)⟩⟩
      rintro k2 self2 x17 x18 m ⟨lf, i, hi, rfl, rfl, hf, hm, hbi, hor2⟩ hs2
      have hgf := gone_le lf
      refine ok_le 16 i (f := fun hc => ?_) (g := fun hc => ?_)
      · have : i = 16 := by omega
        subst this
        refine ok_lt ?_
        refine hs (k - 1) _ _ _ (by omega) ⟨lf, rd + 1, by omega, rfl, nI_1 _, hf, hm, hbi, ?_⟩
        rcases hor2 with ⟨rfl, hfx⟩ | ⟨hg, hnf⟩
        · exact Or.inr hfx
        · rcases hor with h1 | h1
          · left; omega
          · exact absurd h1 hnf
      · refine ok_ag i rfl hc (by decide) ?_
        rw [hm i hc]
        dsimp only
        refine ok_jn ?_
        rcases Bool.eq_false_or_eq_true (lf i) with hli | hli
        rotate_left
        · refine ok_ifF (by rw [hli]; decide) ?_
          refine ok_lt ?_
          refine hs2 (k2 - 1) _ _ _ (by omega) ⟨lf, i + 1, by omega, rfl, nI_1 _, hf, hm, hbi, ?_⟩
          rcases hor2 with ⟨rfl, hfx⟩ | hg
          · exact Or.inl ⟨rfl, fun j hj hl => by
              by_cases e : j = i
              · subst e; rw [hli] at hl; cases hl
              · exact hfx j (by omega) hl⟩
          · exact Or.inr hg
        · refine ok_ifT (by rw [hli]; rfl) ?_
          refine ok_ag i rfl hc (by decide) ?_
          rw [h.mv (hf a1 hne) i hc]
          refine ok_bind (k_countUnmarkedBeside (by omega) hc hm) ?_
          rintro _ rfl
          have hpi := hp i hc
          have hnl : nbs lf i ≤ 4 := Nat.le_trans (nbs_mono (fun _ _ _ => rfl)) (nbs_all i hc)
          refine ok_ltI (p i) (nbs lf i) (f := fun hd => ?_) (g := fun hd => ?_)
          · refine ok_lt ?_
            refine hs2 (k2 - 1) _ _ _ (by omega) ⟨lf, i + 1, by omega, rfl, nI_1 _, hf, hm, hbi, ?_⟩
            rcases hor2 with ⟨rfl, hfx⟩ | hg
            · exact Or.inl ⟨rfl, fun j hj hl => by
                by_cases e : j = i
                · subst e; exact hd
                · exact hfx j (by omega) hl⟩
            · exact Or.inr hg
          · refine ok_aw i rfl hc (by decide) ?_
            refine ok_lt (ok_lt ?_)
            have hgo : gone (fun j => if j = i then false else lf j) = gone lf + 1 := by
              have h1 := sm_one (f := fun j => (!(if j = i then false else lf j)).toNat) (g := fun j => (!lf j).toNat) (k := i) 16 hc (fun a _ hn => by simp only [if_neg hn])
              simp only [if_pos, hli] at h1
              exact h1
            refine hs2 (k2 - 1) _ _ _ (by omega) ⟨fun j => if j = i then false else lf j, i + 1, by omega, by rw [hgo]; exact nI_1 _, nI_1 _, frm.set (X := fun q => q = a0 + 3) hf rfl _ _, fun j hj => ?_, burnI_take hbi hd (fun j _ hn => by rw [if_neg hn]) hc, ?_⟩
            · rw [mset_if]
              dsimp only
              by_cases e : j = i
              · rw [if_pos e, if_pos e]; exact nar_bool true
              · rw [if_neg e, if_neg e]; exact hm j hj
            · right
              rcases hor2 with ⟨rfl, hfx⟩ | ⟨hg, hnf⟩
              · exact ⟨by omega, fun z => by have := z i hc hli; omega⟩
              · exact ⟨by omega, hnf⟩
  · refine ok_aw i rfl hc (by decide) ?_
    refine ok_lt ?_
    refine hs (k - 1) _ _ (by omega) ⟨i + 1, by omega, nI_1 _, frm.set (X := fun q => q = a0 + 3) hf rfl _ _, fun j hj => ?_⟩
    rw [mset_if]
    by_cases e : j = i
    · rw [if_pos e]; exact nar_bool false
    · rw [if_neg e]; exact hz j (by omega)
theorem opd_le (nb : Nat → Nat → Nat) (a : Nat) : ∀ d, opd nb a d ≤ d
  | 0 => Nat.le_refl _
  | d + 1 => by
    have := opd_le nb a d
    show opd nb a d + (if nb a d = 16 then 1 else 0) ≤ d + 1
    split <;> omega
theorem k_countOpenSides (hN : 5 ≤ N) (ha : a < 16) : Ok (fX6_countOpenSides N μ (nI a)) (fun r => r = nI (opn a)) := by
  unfold fX6_countOpenSides
  refine ok_fix2 (fun k x y => ∃ d, d + k = 4 ∧ x = nI (opd nbC a d) ∧ y = nI d) ?_ N 4 _ _ (by omega) ⟨0, rfl, rfl, rfl⟩
  rintro k self x y ⟨d, hd, rfl, rfl⟩ hs
  refine ok_le 4 d (f := fun hc => ?_) (g := fun hc => ?_)
  · have : d = 4 := by omega
    subst this
    exact ok_some (by rw [opC a ha])
  · refine ok_bindE (beC ha hc) ?_
    have hb := nbC_ok.1 a ha d hc
    have e : opd nbC a (d + 1) = opd nbC a d + if nbC a d = 16 then 1 else 0 := rfl
    refine ok_jn ?_
    refine ok_if (fun he => ?_) (fun he => ?_)
    · have he := (bv_m1 hb.1).mp he
      refine ok_lt (ok_lt ?_)
      exact hs (k - 1) _ _ (by omega) ⟨d + 1, by omega, by rw [e, if_pos he]; exact nI_1 _, nI_1 _⟩
    · have he : nbC a d ≠ 16 := fun z => he ((bv_m1 hb.1).mpr z)
      refine ok_lt ?_
      exact hs (k - 1) _ _ (by omega) ⟨d + 1, by omega, by rw [e, if_neg he]; rfl, nI_1 _⟩
theorem wsum5 : sm 16 (fun i => wgt i * 7) = 560 := by decide +kernel
theorem k_topplesOnceEach (hN : 20000 ≤ N) (hne : a1 ≠ a0 + 1) (h : ArN μ a1 16 p) (hp : stab p) : Ok (fX6_topplesOnceEach N μ a0 a1) (fun r => (r.2 = true ↔ lasting p) ∧ frm (fun q => q = a0 + 1 ∨ q = a0 + 2) μ r.1) := by
  unfold fX6_topplesOnceEach
  refine ok_fix2 (fun k x m => ∃ i, i + k = 16 ∧ x = nI i ∧ frm (fun q => q = a0 + 1) μ m ∧ ArN m (a0 + 1) i (fun j => p j + opn j)) ?_ N 16 _ _ (by omega) ⟨0, rfl, rfl, frm.rf, fun i hi => absurd hi (Nat.not_lt_zero _)⟩
  rintro k self x m ⟨i, hi, rfl, hf, hm⟩ hs
  refine ok_le 16 i (f := fun hc => ?_) (g := fun hc => ?_)
  · have : i = 16 := by omega
    subst this
    have hpo : pot (fun j => p j + opn j) ≤ 560 := by
      rw [← wsum5]
      exact sm_le 16 (fun i hi => Nat.mul_le_mul_left _ (by have := hp i hi; unfold opn; dsimp only; omega))
    refine ok_bind (k_toppleByPlaces (a1 := a0 + 1) hN (by omega) hm (by omega)) ?_
    rintro ⟨m1, c⟩ ⟨l, hl, hst, -, ht, hf1, -⟩
    simp only at ht hf1
    have hd := dhar hp hl hst
    have hle := dhar_le hp hl
    have hfr : frm (fun q => q = a0 + 1 ∨ q = a0 + 2) μ m1 := (hf.mono (fun q hq => Or.inl hq)).tr hf1
    refine ok_fix1 (fun k x => ∃ i, i + k = 16 ∧ x = nI i ∧ ∀ j, j < i → cnt l j = 1) ?_ N 16 _ (by omega) ⟨0, rfl, rfl, fun j hj => absurd hj (Nat.not_lt_zero _)⟩
    rintro k self x ⟨i, hi, rfl, hi1⟩ hs
    refine ok_le 16 i (f := fun hc => ?_) (g := fun hc => ?_)
    · exact ok_some ⟨⟨fun _ => hd.mp (fun a ha => hi1 a (by omega)), fun _ => rfl⟩, hfr⟩
    · refine ok_ag i rfl hc (by decide) ?_
      dsimp only
      rw [ht i hc]
      refine ok_eqI (cnt l i) 1 (ha := by have := hle i hc; omega) (f := fun he => ?_) (g := fun he => ?_)
      · refine ok_lt ?_
        exact hs (k - 1) _ (by omega) ⟨i + 1, by omega, nI_1 _, fun j hj => by
          by_cases e : j = i
          · subst e; exact he
          · exact hi1 j (by omega)⟩
      · exact ok_some ⟨⟨fun z => (by cases z), fun z => absurd (hd.mpr z i hc) he⟩, hfr⟩
  · refine ok_ag i rfl hc (by decide) ?_
    rw [h.mv (hf a1 hne) i hc]
    refine ok_bind (k_countOpenSides (by omega) hc) ?_
    rintro _ rfl
    refine ok_aw i rfl hc (by decide) ?_
    refine ok_lt ?_
    refine hs (k - 1) _ _ (by omega) ⟨i + 1, by omega, nI_1 _, frm.set (X := fun q => q = a0 + 1) hf rfl _ _, fun j hj => ?_⟩
    rw [mset_if]
    by_cases e : j = i
    · subst e; rw [if_pos rfl]; exact nI_add _ _
    · rw [if_neg e]; exact hm j (by omega)
end SE
