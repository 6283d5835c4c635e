/-! Pure layer, 18: the class's loans: the table of best fees, taking. -/
section LD
variable {N : Nat} {μ : Mem} {a0 a1 q : Nat} {fi la fe le : Nat → Nat}
theorem k_sort (hN : 20 ≤ N) (hl : lnOK q fi la fe le) (h : cL μ a1 q fi la fe le) (hsep : a1 + 6 ≤ a0) : Ok (fX5_sortByLastDays N μ a0 a1) (fun m => ∃ od, ordI q la od ∧ ArN m (a0 + 1) q od ∧ frm (fun p => p = a0 + 1) μ m) := by
  have hq := hl.1
  unfold fX5_sortByLastDays
  refine ok_fix2 (fun k x m => ∃ n od, n + k = q ∧ x = nI n ∧ ordI n la od ∧ ArN m (a0 + 1) n od ∧ frm (fun p => p = a0 + 1) μ m) ?_ N q _ _ (by omega) ⟨0, fun _ => 0, by omega, rfl, ⟨fun _ => rfl, fun i j _ hj => absurd hj (Nat.not_lt_zero _)⟩, fun i hi => absurd hi (Nat.not_lt_zero _), frm.rf⟩
  rintro k self x m ⟨n, od, hn, rfl, ho, hm, hf⟩ hs
  have hcm : cL m a1 q fi la fe le := h.mv (fun p h1 h2 => hf p (by omega))
  rw [hcm.1]
  refine ok_le q n (f := fun hc => ?_) (g := fun hc => ?_)
  · have : n = q := by omega
    subst this
    exact ok_some ⟨od, ho, hm, hf⟩
  · refine ok_fix3 (fun k2 x6 x7 m => ∃ o, o = k2 ∧ o ≤ n ∧ x6 = nI o ∧ x7 = nI o ∧ frm (fun p => p = a0 + 1) μ m ∧ (∀ i, i < o → m (a0 + 1) i = nI (od i)) ∧ (∀ i, o < i → i ≤ n → m (a0 + 1) i = nI (od (i - 1))) ∧ ∀ i, o ≤ i → i < n → la n ≤ la (od i)) ?_ N n _ _ _ (by omega) ⟨n, rfl, Nat.le_refl _, rfl, rfl, hf, hm, fun i h1 h2 => by omega, fun i h1 h2 => by omega⟩
    rintro k2 self2 x6 x7 m ⟨o, rfl, hon, rfl, rfl, hf, hlo, hhi, hge⟩ hs2
    have hcm : cL m a1 q fi la fe le := h.mv (fun p h1 h2 => hf p (by omega))
    refine ok_jn1 (fun _ : Unit => ∀ i, i < o → la (od i) ≤ la n) (fun _ hz => ?_) (fun j12 hj => ?_)
    · refine ok_aw o rfl (by omega) (by decide) ?_
      refine ok_lt ?_
      refine hs (k - 1) _ _ (by omega) ⟨n + 1, fun i => if i < o then od i else if i = o then n else od (i - 1), by omega, nI_1 _, ord_ins ho hon hz hge, fun i hi => ?_, frm.set (X := fun p => p = a0 + 1) hf rfl _ _⟩
      rw [mset_if]
      dsimp only
      by_cases e : i = o
      · subst e
        rw [if_pos rfl, if_neg (Nat.lt_irrefl _), if_pos rfl]
      · rw [if_neg e]
        by_cases e2 : i < o
        · rw [if_pos e2]; exact hlo i e2
        · rw [if_neg e2, if_neg e]; exact hhi i (by omega) (by omega)
    · refine ok_le o 0 (f := fun hz => hj () (fun i hi => by omega)) (g := fun hz => ?_)
      obtain ⟨o', rfl⟩ : ∃ o', o = o' + 1 := ⟨o - 1, by omega⟩
      have e1 : nI (o' + 1) - 1 = nI o' := nI_pred o'
      have hod := ord_lt ho (show o' < n by omega)
      rw [e1]
      refine ok_ag o' rfl (by omega) (by decide) ?_
      rw [hlo o' (by omega)]
      refine ok_ag (od o') rfl (by omega) (by decide) ?_
      refine ok_ag n rfl (by omega) (by decide) ?_
      rw [hcm.2.2.1 (od o') (by omega), hcm.2.2.1 n hc]
      have l1 := (hl.2.1 (od o') (by omega)).2.1
      have l2 := (hl.2.1 n hc).2.1
      refine ok_ltI (la n) (la (od o')) (f := fun hd => ?_) (g := fun hd => hj () (fun i hi => ?_))
      · refine ok_ag o' rfl (by omega) (by decide) ?_
        rw [hlo o' (by omega)]
        refine ok_aw (o' + 1) rfl (by omega) (by decide) ?_
        have e2 : nI (o' + 1) + (-1) = nI o' := pk_m1 o'
        refine ok_lt (ok_lt ?_)
        rw [e2]
        refine hs2 o' _ _ _ (by omega) ⟨o', rfl, by omega, rfl, rfl, frm.set (X := fun p => p = a0 + 1) hf rfl _ _, fun i hi => ?_, fun i h1 h2 => ?_, fun i h1 h2 => ?_⟩
        · rw [mset_sl _ _ _ _ (by omega)]; exact hlo i (by omega)
        · rw [mset_if]
          by_cases e : i = o' + 1
          · subst e; rw [if_pos rfl]; rfl
          · rw [if_neg e]; exact hhi i (by omega) h2
        · by_cases e : i = o'
          · subst e; omega
          · exact hge i (by omega) h2
      · by_cases e : i = o'
        · subst e; exact hd
        · have := ho.2 i o' (by omega) (by omega); omega
theorem k_countEndedBefore {day : Nat} (hN : 20 ≤ N) (hl : lnOK q fi la fe le) (h : cL μ a0 q fi la fe le) (hd : day ≤ 99) : Ok (fX5_countEndedBefore N μ a0 (nI day)) (fun r => r = nI (bef q la day)) := by
  have hq := hl.1
  unfold fX5_countEndedBefore
  refine ok_fix2 (fun k x y => ∃ i, i + k = q ∧ x = nI (sm i (fun k => (decide (la k < day)).toNat)) ∧ y = nI i) ?_ N q _ _ (by omega) ⟨0, by omega, rfl, rfl⟩
  rintro k self x y ⟨i, hi, rfl, rfl⟩ hs
  rw [h.1]
  refine ok_le q i (f := fun hc => ?_) (g := fun hc => ?_)
  · have : i = q := by omega
    subst this
    exact ok_some rfl
  · refine ok_ag i rfl (by omega) (by decide) ?_
    rw [h.2.2.1 i hc]
    have l1 := (hl.2.1 i hc).2.1
    have e : sm (i + 1) (fun k => (decide (la k < day)).toNat) = sm i (fun k => (decide (la k < day)).toNat) + (decide (la i < day)).toNat := rfl
    refine ok_jn ?_
    refine ok_le day (la i) (f := fun hz => ?_) (g := fun hz => ?_)
    · refine ok_lt ?_
      exact hs (k - 1) _ _ (by omega) ⟨i + 1, by omega, by rw [e, decide_eq_false (by omega)]; rfl, nI_1 _⟩
    · refine ok_lt (ok_lt ?_)
      exact hs (k - 1) _ _ (by omega) ⟨i + 1, by omega, by rw [e, decide_eq_true hz]; exact nI_1 _, nI_1 _⟩
theorem k_feesByLastDays (hN : 200 ≤ N) (hl : lnOK q fi la fe le) (h : cL μ a1 q fi la fe le) (hsep : a1 + 6 ≤ a0) (h0 : μ (a0 + 2) 0 = 0) : Ok (fX5_feesByLastDays N μ a0 a1) (fun r => r.2 = nI (fees q fe (bsC q fi la fe le (2 ^ q - 1)).testBit) ∧ r.1 (a0 + 2) 0 = 0 ∧ frm (fun p => p = a0 + 1 ∨ p = a0 + 2) μ r.1) := by
  have hq := hl.1
  unfold fX5_feesByLastDays
  refine ok_bind (k_sort (by omega) hl h hsep) ?_
  rintro m0 ⟨od, ho, hod, hf0⟩
  refine ok_fix2 (fun k x m => ∃ c B, c + k = q ∧ x = nI (c + 1) ∧ tabI q fi la fe le od B c ∧ (∀ j, j ≤ c → m (a0 + 2) j = nI (B j) ∧ B j ≤ 100 * j) ∧ m (a0 + 1) = m0 (a0 + 1) ∧ frm (fun p => p = a0 + 1 ∨ p = a0 + 2) μ m) ?_ N q _ _ (by omega) ⟨0, fun _ => 0, by omega, rfl, ⟨rfl, fun k hk => absurd hk (Nat.not_lt_zero _)⟩, fun j hj => ?_, rfl, hf0.mono (fun p hp => Or.inl hp)⟩
  · rintro k self x m ⟨c, B, hc, rfl, hT, hB, hod2, hf⟩ hs
    have hcm : cL m a1 q fi la fe le := h.mv (fun p h1 h2 => hf p (by omega))
    rw [hcm.1]
    refine ok_ltI q (c + 1) (f := fun hd => ?_) (g := fun hd => ?_)
    · have : c = q := by omega
      subst this
      refine ok_ag c rfl (by omega) (by decide) ?_
      rw [(hB c (Nat.le_refl _)).1]
      refine ok_some ⟨?_, by show m (a0 + 2) 0 = 0; rw [(hB 0 (Nat.zero_le _)).1, hT.1]; rfl, hf⟩
      exact congrArg nI (tab_best hl ho hT (bsC_best (2 ^ c - 1)).1 (fun D hD => bsC_top D hD))
    · have e1 : nI (c + 1) - 1 = nI c := nI_pred c
      have hlo := ord_lt ho (show c < q by omega)
      obtain ⟨f1, f2, f3⟩ := hl.2.1 (od c) hlo
      rw [e1]
      refine ok_ag c rfl (by omega) (by decide) ?_
      rw [hod2, hod c (by omega)]
      refine ok_ag c rfl (by omega) (by decide) ?_
      rw [(hB c (Nat.le_refl _)).1]
      refine ok_aw (c + 1) rfl (by omega) (by decide) ?_
      have hcm1 : cL (mset m (a0 + 2) (c + 1) (nI (B c))) a1 q fi la fe le := hcm.mv (fun p h1 h2 => mset_ne _ _ _ _ (by omega))
      have hbc := (hB c (Nat.le_refl _)).2
      have hbl := bef_le hl ho (show c < q by omega)
      refine ok_bind (k_isFree hN hl hcm1 hlo) ?_
      intro r hr
      have go : ∀ (m' : Mem) (v : Nat), (∀ p j, m' p j = if p = a0 + 2 ∧ j = c + 1 then nI v else m p j) → (freeL fi la le (od c) → v = max (B c) (B (bef q la (fi (od c))) + fe (od c))) → (¬ freeL fi la le (od c) → v = B c) → v ≤ 100 * (c + 1) → frm (fun p => p = a0 + 1 ∨ p = a0 + 2) μ m' → Ok (lt (nI (c + 1) + 1) fun v24 => self v24 m') (fun r => r.2 = nI (fees q fe (bsC q fi la fe le (2 ^ q - 1)).testBit) ∧ r.1 (a0 + 2) 0 = 0 ∧ frm (fun p => p = a0 + 1 ∨ p = a0 + 2) μ r.1) := fun m' v hm' hv1 hv2 hvb hf' => by
        refine ok_lt ?_
        refine hs (k - 1) _ _ (by omega) ⟨c + 1, updN B (c + 1) v, by omega, nI_1 _, ⟨?_, fun j hj => ?_⟩, fun j hj => ?_, ?_, hf'⟩
        · rw [updN_ne _ _ _ (by omega)]; exact hT.1
        · by_cases ej : j = c
          · subst ej
            rw [updN_at, updN_ne _ _ _ (by omega), updN_ne _ _ _ (by omega)]
            exact ⟨hv1, hv2⟩
          · have hbj := bef_le hl ho (show j < q by omega)
            rw [updN_ne _ _ _ (by omega), updN_ne _ _ _ (by omega), updN_ne _ _ _ (by omega)]
            exact hT.2 j (by omega)
        · rw [hm']
          by_cases ej : j = c + 1
          · subst ej
            rw [if_pos ⟨rfl, rfl⟩, updN_at]
            exact ⟨rfl, hvb⟩
          · rw [if_neg (fun z => ej z.2), updN_ne _ _ _ ej]
            exact hB j (by omega)
        · rw [← hod2]
          funext j
          rw [hm', if_neg (by omega)]
      refine ok_jn ?_
      refine ok_cd (fun hx => ?_) (fun hx => ?_)
      · have hfr := hr.mp hx
        refine ok_ag (od c) rfl (by omega) (by decide) ?_
        rw [hcm1.2.1 (od c) hlo]
        refine ok_bind (k_countEndedBefore (by omega) hl hcm1 (show fi (od c) ≤ 99 by omega)) ?_
        rintro _ rfl
        refine ok_ag (c + 1) rfl (by omega) (by decide) ?_
        refine ok_ag (bef q la (fi (od c))) rfl (by omega) (by decide) ?_
        refine ok_ag (od c) rfl (by omega) (by decide) ?_
        have hbb := (hB (bef q la (fi (od c))) hbl)
        rw [mset_at, mset_sl _ _ _ _ (by omega), hbb.1, hcm1.2.2.2.1 (od c) hlo, nI_add, imax_nI (by omega) (by omega)]
        refine ok_aw (c + 1) rfl (by omega) (by decide) ?_
        refine go _ (max (B c) (B (bef q la (fi (od c))) + fe (od c))) (fun p j => ?_) (fun _ => rfl) (fun z => absurd hfr z) (by omega) (frm.set (X := fun p => p = a0 + 1 ∨ p = a0 + 2) (frm.set (X := fun p => p = a0 + 1 ∨ p = a0 + 2) hf (Or.inr rfl) _ _) (Or.inr rfl) _ _)
        rw [mset_el, mset_el]
        by_cases ee : p = a0 + 2 ∧ j = c + 1
        · rw [if_pos ee, if_pos ee]
        · rw [if_neg ee, if_neg ee, if_neg ee]
      · have hnf : ¬ freeL fi la le (od c) := fun z => by rw [hr.mpr z] at hx; cases hx
        exact go _ (B c) (fun p j => mset_el _ _ _ _ _ _) (fun z => absurd z hnf) (fun _ => rfl) (by omega) (frm.set (X := fun p => p = a0 + 1 ∨ p = a0 + 2) hf (Or.inr rfl) _ _)
  · have : j = 0 := by omega
    subst this
    rw [hf0 _ (by omega), h0]
    exact ⟨rfl, by omega⟩
/-! Taking loans. -/
def leR (le fi la : Nat → Nat) (i : Nat) : Nat → Nat := fun d => if fi i ≤ d ∧ d ≤ la i then la i + 1 else le d
def leK (C : Nat) (fi la le : Nat → Nat) : Nat → (Nat → Nat)
  | 0 => le
  | i + 1 => if C.testBit i = true then leR (leK C fi la le i) fi la i else leK C fi la le i
theorem leK_le (hl : lnOK q fi la fe le) (C : Nat) : ∀ i, i ≤ q → ∀ d, d < 100 → leK C fi la le i d ≤ 100
  | 0, _, d, hd => hl.2.2 d hd
  | i + 1, hi, d, hd => by
    have ih := leK_le hl C i (by omega) d hd
    have := (hl.2.1 i (by omega)).2.1
    unfold leK leR
    split
    · dsimp only
      split <;> omega
    · exact ih
theorem k_takeLoan {i : Nat} (hN : 200 ≤ N) (hl : lnOK q fi la fe le) (h : cL μ a0 q fi la fe le) (hi : i < q) : Ok (fX1_takeLoan N μ a0 (nI i)) (fun m => cL m a0 q fi la fe (leR le fi la i) ∧ m a0 10 = μ a0 10 + 1 ∧ (∀ j, j ≠ 10 → m a0 j = μ a0 j) ∧ frm (fun p => p = a0 ∨ p = a0 + 5) μ m) := by
  have hq := hl.1
  obtain ⟨f1, f2, -⟩ := hl.2.1 i hi
  unfold fX1_takeLoan
  refine ok_ag i rfl (by omega) (by decide) ?_
  rw [h.2.1 i hi]
  refine ok_fix2 (fun k x m => ∃ d, d + k = la i + 1 ∧ fi i ≤ d ∧ x = nI d ∧ ArN m (a0 + 5) 100 (fun j => if fi i ≤ j ∧ j < d then la i + 1 else le j) ∧ frm (fun p => p = a0 + 5) μ m) ?_ N (la i + 1 - fi i) _ _ (by omega) ⟨fi i, by omega, Nat.le_refl _, rfl, h.2.2.2.2.cg (fun j _ => by rw [if_neg (by omega)]), frm.rf⟩
  rintro k self x m ⟨d, hd, hfd, rfl, hm, hf⟩ hs
  refine ok_ag i rfl (by omega) (by decide) ?_
  rw [hf _ (by omega), h.2.2.1 i hi]
  refine ok_ltI (la i) d (f := fun hc => ?_) (g := fun hc => ?_)
  · refine ok_lt (ok_some ?_)
    have e0 : m a0 = μ a0 := hf _ (by omega)
    refine ⟨⟨?_, ?_, ?_, ?_, ?_⟩, ?_, fun j hj => ?_, frm.set (X := fun p => p = a0 ∨ p = a0 + 5) (hf.mono (fun p hp => Or.inr hp)) (Or.inl rfl) _ _⟩
    · rw [mset_sl _ _ _ _ (by decide), e0]; exact h.1
    · exact h.2.1.mv (by rw [mset_ne _ _ _ _ (by omega), hf _ (by omega)])
    · exact h.2.2.1.mv (by rw [mset_ne _ _ _ _ (by omega), hf _ (by omega)])
    · exact h.2.2.2.1.mv (by rw [mset_ne _ _ _ _ (by omega), hf _ (by omega)])
    · refine (hm.mv (mset_ne _ _ _ _ (by omega))).cg (fun j _ => ?_)
      unfold leR
      by_cases c : fi i ≤ j ∧ j < d
      · rw [if_pos c, if_pos (by omega)]
      · rw [if_neg c, if_neg (by omega)]
    · rw [mset_at, e0]
    · rw [mset_sl _ _ _ _ hj, e0]
  · refine ok_ag i rfl (by omega) (by decide) ?_
    rw [h.2.2.1 i hi]
    refine ok_aw d rfl (by omega) (by decide) ?_
    refine ok_lt ?_
    refine hs (k - 1) _ _ (by omega) ⟨d + 1, by omega, by omega, nI_1 _, (hm.set d _ (nI_1 _)).cg (fun j _ => ?_), frm.set (X := fun p => p = a0 + 5) hf rfl _ _⟩
    unfold updN
    dsimp only
    by_cases c : j = d
    · rw [if_pos c, if_pos (by omega)]
    · rw [if_neg c]
      by_cases c2 : fi i ≤ j ∧ j < d
      · rw [if_pos c2, if_pos (by omega)]
      · rw [if_neg c2, if_neg (by omega)]
theorem lnOK_le {le' : Nat → Nat} (hl : lnOK q fi la fe le) (h : ∀ d, d < 100 → le' d ≤ 100) : lnOK q fi la fe le' := ⟨hl.1, hl.2.1, h⟩
theorem k_takeLoans {C : Nat} (hN : 200 ≤ N) (hl : lnOK q fi la fe le) (h : cL μ a0 q fi la fe le) (hC : C < 256) : Ok (fX1_takeLoans N μ a0 (nI C)) (fun m => ArN m (a0 + 5) 100 (leK C fi la le q) ∧ m a0 6 = 0 ∧ m a0 10 = μ a0 10 + nI (sm q (fun i => (C.testBit i).toNat)) ∧ (∀ j, j ≠ 6 → j ≠ 10 → m a0 j = μ a0 j) ∧ frm (fun p => p = a0 ∨ p = a0 + 5) μ m) := by
  have hq := hl.1
  unfold fX1_takeLoans
  refine ok_fix2 (fun k x m => ∃ i, i + k = q ∧ x = nI i ∧ cL m a0 q fi la fe (leK C fi la le i) ∧ m a0 10 = μ a0 10 + nI (sm i (fun i => (C.testBit i).toNat)) ∧ (∀ j, j ≠ 10 → m a0 j = μ a0 j) ∧ frm (fun p => p = a0 ∨ p = a0 + 5) μ m) ?_ N q _ _ (by omega) ⟨0, by omega, rfl, h, (Int32.add_zero _).symm, fun _ _ => rfl, frm.rf⟩
  rintro k self x m ⟨i, hi, rfl, hm, h10, hsame, hf⟩ hs
  rw [hm.1]
  refine ok_le q i (f := fun hc => ?_) (g := fun hc => ?_)
  · have : i = q := by omega
    subst this
    refine ok_lt (ok_some ⟨hm.2.2.2.2.mv (mset_ne _ _ _ _ (by omega)), mset_at _ _ _ _, ?_, fun j h6 h10' => ?_, frm.set (X := fun p => p = a0 ∨ p = a0 + 5) hf (Or.inl rfl) _ _⟩)
    · rw [mset_sl _ _ _ _ (by decide)]; exact h10
    · rw [mset_sl _ _ _ _ h6]; exact hsame j h10'
  · refine ok_bindE (k_contains (by omega) (by omega)) ?_
    have e : sm (i + 1) (fun i => (C.testBit i).toNat) = sm i (fun i => (C.testBit i).toNat) + (C.testBit i).toNat := rfl
    refine ok_jn ?_
    refine ok_cd (fun hx => ?_) (fun hx => ?_)
    · refine ok_bind (k_takeLoan hN (lnOK_le hl (leK_le hl C i (by omega))) hm hc) ?_
      rintro m2 ⟨hm2, h102, hs2, hf2⟩
      refine ok_lt ?_
      refine hs (k - 1) _ _ (by omega) ⟨i + 1, by omega, nI_1 _, ?_, ?_, fun j hj => by rw [hs2 j hj, hsame j hj], hf.tr hf2⟩
      · show cL m2 a0 q fi la fe (if C.testBit i = true then leR (leK C fi la le i) fi la i else leK C fi la le i)
        rw [if_pos hx]; exact hm2
      · rw [h102, h10, e, hx, Int32.add_assoc]
        exact congrArg _ (nI_1 _)
    · refine ok_lt ?_
      refine hs (k - 1) _ _ (by omega) ⟨i + 1, by omega, nI_1 _, ?_, ?_, hsame, hf⟩
      · show cL m a0 q fi la fe (if C.testBit i = true then leR (leK C fi la le i) fi la i else leK C fi la le i)
        rw [if_neg (by rw [hx]; decide)]; exact hm
      · rw [e, hx]; exact h10
theorem pc_q {C : Nat} (hq : q ≤ 8) (hC : C < 2 ^ q) : sm q (fun i => (C.testBit i).toNat) = pc C := by
  have h : ∀ j, q ≤ j → sm j (fun i => (C.testBit i).toNat) = sm q (fun i => (C.testBit i).toNat) := by
    intro j hj
    induction j with
    | zero => rw [show q = 0 by omega]
    | succ j ih =>
      by_cases e : q = j + 1
      · rw [e]
      · show sm j (fun i => (C.testBit i).toNat) + (C.testBit j).toNat = _
        rw [ih (by omega), Nat.testBit_lt_two_pow (Nat.lt_of_lt_of_le hC (Nat.pow_le_pow_right (by decide) (by omega)))]
        rfl
  exact (h 8 hq).symm
end LD
