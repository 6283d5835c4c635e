/-! Pure layer, 43: the class reads all commands. -/
section RA
variable {N : Nat} {μ ν : Mem} {a0 L : Nat} {T : Nat → Nat}
theorem ok_fo {O : Type} {P : O → Prop} {i : Nat} {x : Int32} {k : Nat → Option O} (hx : x = nI i) (hi : i < 8) (h : Ok (k (i + 1)) P) : Ok (fo x k) P := by
  subst hx
  unfold fo
  rw [if_neg (vp_in_nI hi (by decide)), nI_clamp (by omega)]; exact h
theorem TXc.b (h : TXc μ L T) : ∀ i, i < L → T i < 65536 := fun i hi => (h.2.2 i hi).1
theorem cAt_ok (s : Nat) : s ≤ (cAt T L s).2.1 ∧ (cAt T L s).2.1 ≤ max s L ∧ ((cAt T L s).1 = false → s + 5 ≤ (cAt T L s).2.1 ∧ (cAt T L s).2.1 ≤ L) := by
  have hf := fAt_rg (T := T) (L := L) s
  have hlen := (shp_len (fAt T L s) (by omega)).2 hf.1
  obtain ⟨h1, h2, h3⟩ := sgn_ok (T := T) (L := L) (c := fAt T L s) (s := s) (sTx (fAt T L s)).length
  exact ⟨h1, h2, fun z => ⟨by have := (h3 z).1; exact Nat.le_trans (by omega) this, (h3 z).2.2 (by omega)⟩⟩
theorem k_readCommand {k s : Nat} (hN : 60 ≤ N) (hT : TXc μ L T) (hk : k < 10) (hcm : μ 546 4 = nI k) (hs : s ≤ 61) : Ok (fX7_readCommand N μ 546 (nI s)) (fun r => r.2 = !(cAt T L s).1 ∧ r.1 546 5 = nI (cAt T L s).2.1 ∧ ((cAt T L s).1 = false → r.1 (546 + 2) k = nI (fAt T L s) ∧ ∀ j, j < nC (fAt T L s) (sTx (fAt T L s)).length → r.1 (546 + 3 + 1 + 1 * k) j = nI ((cAt T L s).2.2.getD j 0)) ∧ (∀ j, j ≠ 5 → r.1 546 j = μ 546 j) ∧ (∀ j, j ≠ k → r.1 (546 + 2) j = μ (546 + 2) j) ∧ frm (fun q => q = 546 ∨ q = 546 + 2 ∨ q = 546 + 3 + 1 + 1 * k) μ r.1) := by
  have hL := hT.1
  obtain ⟨f1, f8⟩ := fAt_rg (T := T) (L := L) s
  obtain ⟨c1, c2, c3⟩ := cAt_ok (T := T) (L := L) s
  unfold fX7_readCommand
  refine ok_fix3 (fun kk x4 x5 m => ∃ i e, i + kk = 8 ∧ x4 = nI e ∧ x5 = nI i ∧ s ≤ e ∧ e ≤ (cAt T L s).2.1 ∧ (fAt T L s ≤ i → (cAt T L s).1 = true ∧ e = (cAt T L s).2.1) ∧ (∀ j, j ≠ 5 → m 546 j = μ 546 j) ∧ frm (fun q => q = 546 ∨ q = 546 + 3 + 1 + 1 * k) μ m) ?_ N 8 _ _ _ (by omega) ⟨0, s, rfl, rfl, rfl, Nat.le_refl _, c1, fun z => by omega, fun _ _ => rfl, frm.rf⟩
  rintro kk self x4 x5 m ⟨i, e, hi, rfl, rfl, e1, e2, hfi, ho, hf⟩ hs1
  refine ok_le 8 i (f := fun hc => ?_) (g := fun hc => ?_)
  · obtain ⟨z1, z2⟩ := hfi (by omega)
    refine ok_lt (ok_some ?_)
    rw [z1]
    refine ⟨rfl, by dsimp only; rw [mset_at, z2], fun z => (by cases z), fun j hj => ?_, fun j _ => ?_, frm.set (X := fun q => q = 546 ∨ q = 546 + 2 ∨ q = 546 + 3 + 1 + 1 * k) (hf.mono (fun q hq => by omega)) (Or.inl rfl) _ _⟩
    · dsimp only
      rw [mset_sl _ _ _ _ hj]; exact ho j hj
    · dsimp only
      rw [mset_ne _ _ _ _ (by decide), hf _ (by omega)]
  · refine ok_fo rfl hc ?_
    have hT' : TXc m L T := hT.mv (ho 1 (by decide)) (hf _ (by omega))
    refine ok_bind (k_readShape (c := i + 1) (by omega) hT' (by omega) (by omega) hk (by rw [ho 4 (by decide)]; exact hcm) hs) ?_
    rintro ⟨m2, b2⟩ ⟨r1, r2, r3, r4, r5⟩
    dsimp only at r1 r2 r3 r4 r5
    subst r1
    by_cases hfe : i + 1 = fAt T L s
    · rw [hfe] at r2 r3 ⊢
      refine ok_cd (fun hz => ?_) (fun hz => ?_)
      · dsimp only at hz
        have hz' : (cAt T L s).1 = false := by
          cases hb : (cAt T L s).1
          · rfl
          · rw [show (fin T L (fAt T L s) s).1 = true from hb] at hz; cases hz
        dsimp only
        rw [r4 4 (by decide), ho 4 (by decide), hcm]
        refine ok_aw k rfl hk (by decide) ?_
        refine ok_some ?_
        rw [hz']
        refine ⟨rfl, ?_, fun _ => ⟨by dsimp only; exact mset_at _ _ _ _, fun j hj => ?_⟩, fun j hj => ?_, fun j hj => ?_, frm.set (X := fun q => q = 546 ∨ q = 546 + 2 ∨ q = 546 + 3 + 1 + 1 * k) ((hf.tr r5).mono (fun q hq => by omega)) (by omega) _ _⟩
        · dsimp only
          rw [mset_ne _ _ _ _ (by decide)]; exact r2
        · dsimp only
          rw [mset_ne _ _ _ _ (by omega)]; exact r3 hz' j hj
        · dsimp only
          rw [mset_ne _ _ _ _ (by decide), r4 j hj, ho j hj]
        · dsimp only
          rw [mset_sl _ _ _ _ hj, r5 _ (by omega), hf _ (by omega)]
      · dsimp only at hz
        have hz' : (cAt T L s).1 = true := by
          cases hb : (cAt T L s).1
          · rw [show (fin T L (fAt T L s) s).1 = false from hb] at hz; cases hz
          · rfl
        refine ok_lt (ok_lt ?_)
        dsimp only
        rw [r2, imax_nI (by omega) (show (cAt T L s).2.1 < 2 ^ 31 by omega)]
        refine hs1 (kk - 1) _ _ _ (by omega) ⟨i + 1, _, by omega, rfl, nI_1 _, by omega, ?_, fun _ => ⟨hz', ?_⟩, fun j hj => by rw [r4 j hj, ho j hj], hf.tr r5⟩
        · exact Nat.max_le.mpr ⟨e2, Nat.le_refl _⟩
        · exact Nat.max_eq_right e2
    · obtain ⟨o1, o2⟩ := oth (T := T) (L := L) (s := s) (c := i + 1) hT.b (by omega) (by omega) hfe
      refine ok_cdF (by dsimp only; rw [o1]; rfl) ?_
      refine ok_lt (ok_lt ?_)
      dsimp only
      rw [r2, imax_nI (by omega) (show (fin T L (i + 1) s).2.1 < 2 ^ 31 by omega)]
      refine hs1 (kk - 1) _ _ _ (by omega) ⟨i + 1, _, by omega, rfl, nI_1 _, by omega, Nat.max_le.mpr ⟨e2, o2⟩, fun z => ?_, fun j hj => by rw [r4 j hj, ho j hj], hf.tr r5⟩
      obtain ⟨z1, z2⟩ := hfi (by omega)
      exact ⟨z1, by rw [Nat.max_eq_left (by omega)]; exact z2⟩
/-- the commands that the class has read -/
def CMc (m : Mem) (T : Nat → Nat) (L : Nat) (ss : List Nat) : Prop := ∀ k, k < ss.length → m (546 + 2) k = nI (fAt T L (ss.getD k 0)) ∧ ∀ j, j < nC (fAt T L (ss.getD k 0)) (sTx (fAt T L (ss.getD k 0))).length → m (546 + 3 + 1 + 1 * k) j = nI ((cAt T L (ss.getD k 0)).2.2.getD j 0)
theorem k_readAll (hN : 60 ≤ N) (hT : TXc μ L T) : Ok (fX7_readAll N μ 546) (fun r => ((∃ e, (prs T L 10 0).1 = some e ∧ e ≤ 61 ∧ r.2 = nI e) ∨ ((prs T L 10 0).1 = none ∧ r.2 = -1 ∧ (prs T L 10 0).2.length ≤ 10 ∧ r.1 546 4 = nI (prs T L 10 0).2.length ∧ CMc r.1 T L (prs T L 10 0).2)) ∧ (∀ j, j ≠ 4 → j ≠ 5 → r.1 546 j = μ 546 j) ∧ frm (fun q => q = 546 ∨ (548 ≤ q ∧ q < 560)) μ r.1) := by
  have hL := hT.1
  unfold fX7_readAll
  refine ok_lt ?_
  refine ok_fix3 (fun kk x3 x4 m => ∃ ds s, ds.length + kk = 10 ∧ prs T L 10 0 = ((prs T L kk s).1, ds ++ (prs T L kk s).2) ∧ s ≤ 61 ∧ x3 = nI s ∧ x4 = nI (ds.length + 1) ∧ m 546 4 = nI ds.length ∧ CMc m T L ds ∧ (∀ j, j ≠ 4 → j ≠ 5 → m 546 j = μ 546 j) ∧ frm (fun q => q = 546 ∨ (548 ≤ q ∧ q < 560)) μ m) ?_ N 10 _ _ _ (by omega) ⟨[], 0, rfl, rfl, by decide, rfl, rfl, mset_at _ _ _ _, fun k hk => absurd hk (Nat.not_lt_zero _), fun j h4 _ => mset_sl _ _ _ _ h4, frm.set (X := fun q => q = 546 ∨ (548 ≤ q ∧ q < 560)) frm.rf (Or.inl rfl) _ _⟩
  rintro kk self x3 x4 m ⟨ds, s, hl, hp, hs61, rfl, rfl, h4, hC, ho, hf⟩ hs1
  refine ok_ltI 10 (ds.length + 1) (f := fun hc => ?_) (g := fun hc => ?_)
  · have : kk = 0 := by omega
    subst this
    exact ok_some ⟨Or.inl ⟨s, by rw [hp]; rfl, hs61, rfl⟩, ho, hf⟩
  · obtain ⟨n, rfl⟩ : ∃ n, kk = n + 1 := ⟨kk - 1, by omega⟩
    have hT' : TXc m L T := hT.mv (ho 1 (by decide) (by decide)) (hf _ (by omega))
    have hk : ds.length < 10 := by omega
    refine ok_bind (k_readCommand (by omega) hT' hk h4 hs61) ?_
    rintro ⟨m2, b2⟩ ⟨r1, r2, r3, r4, r5, r6⟩
    dsimp only at r1 r2 r3 r4 r5 r6
    subst r1
    obtain ⟨c1, c2, c3⟩ := cAt_ok (T := T) (L := L) s
    have hps : prs T L (n + 1) s = if (cAt T L s).1 = true then (some (cAt T L s).2.1, []) else if (cAt T L s).2.1 = L then (none, [s]) else if T (cAt T L s).2.1 = 59 then ((prs T L n ((cAt T L s).2.1 + 1)).1, s :: (prs T L n ((cAt T L s).2.1 + 1)).2) else (some (cAt T L s).2.1, [s]) := rfl
    have hf2 : frm (fun q => q = 546 ∨ (548 ≤ q ∧ q < 560)) μ m2 := hf.tr (r6.mono (fun q hq => by omega))
    have ho2 : ∀ j, j ≠ 4 → j ≠ 5 → m2 546 j = μ 546 j := fun j j4 j5 => by rw [r4 j j5, ho j j4 j5]
    cases hb : (cAt T L s).1
    · rw [hb, if_neg (by decide)] at hps
      obtain ⟨d1, d2⟩ := c3 hb
      obtain ⟨q1, q2⟩ := r3 hb
      have hC2 : ∀ y, CMc (mset m2 546 4 y) T L (ds ++ [s]) := fun y k hk2 => by
        rw [List.length_append] at hk2
        have hl1 : ([s] : List Nat).length = 1 := rfl
        rw [mset_ne _ _ _ _ (by decide), mset_ne _ _ _ _ (by omega)]
        by_cases ek : k = ds.length
        · subst ek
          rw [gd_last]
          exact ⟨q1, q2⟩
        · rw [gd_front _ _ _ (by omega)]
          obtain ⟨u1, u2⟩ := hC k (by omega)
          exact ⟨by rw [r5 k ek]; exact u1, fun j hj => by rw [r6 _ (by omega)]; exact u2 j hj⟩
      refine ok_cdT (by dsimp only; rfl) ?_
      refine ok_lt ?_
      dsimp only
      rw [mset_sl _ _ _ _ (by decide), mset_sl _ _ _ _ (by decide), r2, ho2 1 (by decide) (by decide), hT.2.1]
      have hfr : frm (fun q => q = 546 ∨ (548 ≤ q ∧ q < 560)) μ (mset m2 546 4 (nI (ds.length + 1))) := frm.set (X := fun q => q = 546 ∨ (548 ≤ q ∧ q < 560)) hf2 (Or.inl rfl) _ _
      have hfo : ∀ j, j ≠ 4 → j ≠ 5 → mset m2 546 4 (nI (ds.length + 1)) 546 j = μ 546 j := fun j j4 j5 => by rw [mset_sl _ _ _ _ j4]; exact ho2 j j4 j5
      refine ok_eqI (cAt T L s).2.1 L (f := fun hz => ?_) (g := fun hz => ?_)
      · rw [if_pos hz] at hps
        have hpp : prs T L 10 0 = (none, ds ++ [s]) := by rw [hp, hps]
        refine ok_some ⟨Or.inr ?_, hfo, hfr⟩
        rw [hpp]
        refine ⟨rfl, rfl, ?_, ?_, hC2 _⟩
        · rw [List.length_append]
          have hl1 : ([s] : List Nat).length = 1 := rfl
          omega
        · dsimp only
          rw [mset_at, List.length_append]; rfl
      · rw [if_neg hz] at hps
        have hlt : (cAt T L s).2.1 < L := by omega
        obtain ⟨t1, t2⟩ := hT.2.2 _ hlt
        refine ok_ag (cAt T L s).2.1 rfl (by omega) (by decide) ?_
        rw [mset_ne _ _ _ _ (by decide), hf2 _ (by omega), t2]
        refine ok_eqI (T (cAt T L s).2.1) 59 (f := fun hy => ?_) (g := fun hy => ?_)
        · rw [if_pos hy] at hps
          refine ok_lt (ok_lt ?_)
          refine hs1 n _ _ _ (by omega) ⟨ds ++ [s], (cAt T L s).2.1 + 1, ?_, ?_, by omega, nI_1 _, ?_, ?_, hC2 _, hfo, hfr⟩
          · rw [List.length_append]
            have hl1 : ([s] : List Nat).length = 1 := rfl
            omega
          · rw [hp, hps, List.append_assoc]; rfl
          · rw [List.length_append]; exact nI_1 _
          · rw [mset_at, List.length_append]; rfl
        · rw [if_neg hy] at hps
          refine ok_some ⟨Or.inl ⟨_, by rw [hp, hps], by omega, rfl⟩, hfo, hfr⟩
    · rw [hb, if_pos rfl] at hps
      refine ok_cdF (by dsimp only; rfl) ?_
      exact ok_some ⟨Or.inl ⟨_, by rw [hp, hps], by omega, r2⟩, ho2, hf2⟩
end RA
