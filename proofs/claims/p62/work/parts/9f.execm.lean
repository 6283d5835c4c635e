/-! Pure layer, 45: the reference reads all commands. -/
section EM
variable {N : Nat} {μ ν m : Mem} {a0 L : Nat} {T : Nat → Nat}
/-- the letter by which the reference keeps a form -/
def kdF (f : Nat) : Nat := if f = 1 then 114 else if f = 2 then 108 else if f = 3 then 112 else if f = 4 then 100 else if f = 5 then 115 else if f = 6 then 97 else if f = 7 then 116 else 121
def RCm (m w : Mem) (a0 L : Nat) (T : Nat → Nat) (s k : Nat) : Prop := w a0 19 = nI (cAt T L s).1.toNat ∧ w a0 18 = nI (cAt T L s).2.1 ∧ w a0 23 = nI (k + 1) ∧ w (a0 + 11) (5 * k) = nI (kdF (fAt T L s)) ∧ ((cAt T L s).1 = false → ∀ j, j < nC (fAt T L s) (sTx (fAt T L s)).length → w (a0 + 11) (5 * k + 1 + j) = nI ((cAt T L s).2.2.getD j 0)) ∧ (∀ j, j < 5 * k → w (a0 + 11) j = m (a0 + 11) j) ∧ (∀ j, j ≠ 18 → j ≠ 19 → j ≠ 23 → w a0 j = m a0 j) ∧ frm (fun q => q = a0 ∨ q = a0 + 11) m w
theorem k_readsCommand {k s : Nat} (hN : 60 ≤ N) (hT : TXm m a0 L T) (h19 : m a0 19 = 0) (h18 : m a0 18 = nI s) (hs : s ≤ 61) (h23 : m a0 23 = nI k) (hk : k ≤ 10) : Ok (fX11_readsCommand N m a0) (fun w => RCm m w a0 L T s k) := by
  unfold fX11_readsCommand
  rw [h19]
  refine ok_ifT rfl ?_
  rw [m_behind (x := 0) 0 hT h18 (by omega) (by decide) rfl, bS, Nat.add_zero]
  refine ok_jn1 (fun w : Mem => RCm m w a0 L T s k) (fun w hw => ok_some hw) (fun j4 hj4 => ?_)
  have go : ∀ (f c : Nat) (kd : Int32), fAt T L s = f → c = mdF f → kd = nI (kdF f) → Ok ((fX11_reads N m a0 kd c).bind fun r => j4 r) (fun w => RCm m w a0 L T s k) := by
    rintro f c kd hf rfl rfl
    have hrg := fAt_rg (T := T) (L := L) s
    refine ok_bind (k_reads (f := f) (kd := nI (kdF f)) hN hT (by omega) (by omega) h19 h18 hs h23 hk) ?_
    intro w hw
    refine hj4 w ?_
    unfold RCm
    subst hf
    exact hw
  refine ok_jn1 (fun _ : Unit => fAt T L s = if chI T L (s + 1) = 97 then 8 else 4) (fun _ hz => ?_) (fun j8 hj8 => ?_)
  · rw [m_behind (x := 1) 1 hT h18 (by omega) (by decide) rfl, bS]
    refine ok_jn ?_
    refine ok_if (fun h => ?_) (fun h => ?_)
    · rw [if_pos h] at hz
      refine ok_jn (ok_cdT rfl (ok_jn (ok_cdT rfl (ok_gd (by decide) ?_))))
      exact go 8 15 121 hz rfl rfl
    · rw [if_neg h] at hz
      refine ok_jn (ok_cdF rfl (ok_jn (ok_cdF rfl (ok_gd (by decide) ?_))))
      exact go 4 16 100 hz rfl rfl
  · refine ok_if (fun h => go 6 _ _ (by unfold fAt; rw [h]; rfl) rfl (by rw [h]; rfl)) (fun h97 => ?_)
    refine ok_if (fun h => hj8 () (by unfold fAt; rw [h]; rfl)) (fun _ => ?_)
    refine ok_if (fun h => hj8 () (by unfold fAt; rw [h]; rfl)) (fun _ => ?_)
    refine ok_if (fun h => hj8 () (by unfold fAt; rw [h]; rfl)) (fun _ => ?_)
    refine ok_if (fun h => hj8 () (by unfold fAt; rw [h]; rfl)) (fun _ => ?_)
    refine ok_if (fun h => hj8 () (by unfold fAt; rw [h]; rfl)) (fun _ => ?_)
    refine ok_if (fun h => hj8 () (by unfold fAt; rw [h]; rfl)) (fun _ => ?_)
    refine ok_if (fun h => hj8 () (by unfold fAt; rw [h]; rfl)) (fun _ => ?_)
    refine ok_if (fun h => hj8 () (by unfold fAt; rw [h]; rfl)) (fun _ => ?_)
    refine ok_if (fun h => hj8 () (by unfold fAt; rw [h]; rfl)) (fun _ => ?_)
    refine ok_if (fun h => hj8 () (by unfold fAt; rw [h]; rfl)) (fun _ => ?_)
    refine ok_if (fun h => go 2 _ _ (by unfold fAt; rw [h]; rfl) rfl (by rw [h]; rfl)) (fun h108 => ?_)
    refine ok_if (fun h => hj8 () (by unfold fAt; rw [h]; rfl)) (fun _ => ?_)
    refine ok_if (fun h => hj8 () (by unfold fAt; rw [h]; rfl)) (fun _ => ?_)
    refine ok_if (fun h => hj8 () (by unfold fAt; rw [h]; rfl)) (fun _ => ?_)
    refine ok_if (fun h => go 3 _ _ (by unfold fAt; rw [h]; rfl) rfl (by rw [h]; rfl)) (fun h112 => ?_)
    refine ok_if (fun h => hj8 () (by unfold fAt; rw [h]; rfl)) (fun _ => ?_)
    refine ok_if (fun h => go 1 _ _ (by unfold fAt; rw [h]; rfl) rfl (by rw [h]; rfl)) (fun h114 => ?_)
    refine ok_if (fun h => go 5 _ _ (by unfold fAt; rw [h]; rfl) rfl (by rw [h]; rfl)) (fun h115 => ?_)
    refine ok_if (fun h => go 7 _ _ (by unfold fAt; rw [h]; rfl) rfl (by rw [h]; rfl)) (fun h116 => ?_)
    exact hj8 () (by unfold fAt; rw [if_neg h97, if_neg h108, if_neg h112, if_neg h114, if_neg h115, if_neg h116])
/-- the commands that the reference has read -/
def CMm (m : Mem) (a0 : Nat) (T : Nat → Nat) (L : Nat) (ss : List Nat) : Prop := ∀ k, k < ss.length → m (a0 + 11) (5 * k) = nI (kdF (fAt T L (ss.getD k 0))) ∧ ∀ j, j < nC (fAt T L (ss.getD k 0)) (sTx (fAt T L (ss.getD k 0))).length → m (a0 + 11) (5 * k + 1 + j) = nI ((cAt T L (ss.getD k 0)).2.2.getD j 0)
/-- what the reference does with them -/
def runM (N a0 : Nat) (w : Mem) : Option (Mem × Int32) := (fX11_keep N w a0).bind fun r32 =>
  fix2 (fun self35 (x33 : Int32) (μ34 : Mem) =>
  if (μ34 a0 23) ≤ x33 then
  ((fX11_ends N μ34 a0 (μ34 a0 23)).bind fun r38 =>
  some (r38.1, r38.2))
  else ((fX11_does N μ34 a0 x33).bind fun r39 =>
  if (r39 a0 6) ≤ 0 then
  (lt (x33 + 1) fun v41 =>
  self35 v41 r39)
  else (lt (mset r39 a0 21 x33) fun μ43 =>
  (fX11_fails N μ43 a0 2).bind fun r45 =>
  (fX11_ends N r45.1 a0 r45.2).bind fun r46 =>
  some (r46.1, r46.2)))) N 0 r32
/-- the frame of reading -/
def PF (ν w : Mem) (a0 : Nat) : Prop := frm (fun q => q = a0 ∨ q = a0 + 11) ν w ∧ ∀ j, j ≠ 17 → j ≠ 18 → j ≠ 19 → j ≠ 20 → j ≠ 23 → w a0 j = ν a0 j
theorem prs_stuck {n s : Nat} (hb : (cAt T L s).1 = true) (h0 : n = 0 → L ≤ s) : prs T L n s = (some (cAt T L s).2.1, []) := by
  cases n with
  | zero =>
    have h1 := cAt_ok (T := T) (L := L) s
    have h2 := h0 rfl
    rw [show (cAt T L s).2.1 = s by omega]; rfl
  | succ n =>
    show (if (cAt T L s).1 = true then _ else _) = _
    rw [if_pos hb]
theorem k_executeM {P : Mem × Int32 → Prop} (hN : 60 ≤ N) (hT : TXm ν a0 L T) (herr : ∀ w e, (prs T L 10 0).1 = some e → e ≤ 61 → PF ν w a0 → w a0 17 = 0 → w a0 20 = nI e → P (mset w a0 6 1, 0)) (hok : ∀ w, (prs T L 10 0).1 = none → PF ν w a0 → w a0 17 = 0 → w a0 20 = ν a0 20 → (prs T L 10 0).2.length ≤ 10 → w a0 23 = nI (prs T L 10 0).2.length → CMm w a0 T L (prs T L 10 0).2 → Ok (runM N a0 w) P) : Ok (fX11_execute N ν a0) P := by
  have hL := hT.1
  unfold fX11_execute
  refine ok_lt (ok_lt (ok_lt ?_))
  have i0 : ∀ j, j ≠ 18 → j ≠ 19 → j ≠ 23 → mset (mset (mset ν a0 18 0) a0 19 0) a0 23 0 a0 j = ν a0 j := fun j j1 j2 j3 => by
    rw [mset_sl _ _ _ _ j3, mset_sl _ _ _ _ j2, mset_sl _ _ _ _ j1]
  have i1 : frm (fun q => q = a0 ∨ q = a0 + 11) ν (mset (mset (mset ν a0 18 0) a0 19 0) a0 23 0) := frm.set (X := fun q => q = a0 ∨ q = a0 + 11) (frm.set (X := fun q => q = a0 ∨ q = a0 + 11) (frm.set (X := fun q => q = a0 ∨ q = a0 + 11) frm.rf (Or.inl rfl) _ _) (Or.inl rfl) _ _) (Or.inl rfl) _ _
  refine ok_bind (k_readsCommand (k := 0) (s := 0) hN (hT.mv (i0 17 (by decide) (by decide) (by decide)) (i1 _ (by omega))) ?_ ?_ (by decide) (mset_at _ _ _ _) (by decide)) ?_
  · rw [mset_sl _ _ _ _ (by decide), mset_at]
  · rw [mset_sl _ _ _ _ (by decide), mset_sl _ _ _ _ (by decide), mset_at]; rfl
  intro w0 hw0
  obtain ⟨x1, x2, x3, x4, x5, x6, x7, x8⟩ := hw0
  refine ok_fix2 (fun kk m8 κ => ∃ ds s, ds.length + kk = 10 ∧ κ = ds.length ∧ 6 * ds.length ≤ s ∧ s ≤ 61 ∧ prs T L 10 0 = ((prs T L kk s).1, ds ++ (prs T L kk s).2) ∧ CMm m8 a0 T L ds ∧ m8 a0 19 = nI (cAt T L s).1.toNat ∧ m8 a0 18 = nI (cAt T L s).2.1 ∧ m8 a0 23 = nI (ds.length + 1) ∧ m8 (a0 + 11) (5 * ds.length) = nI (kdF (fAt T L s)) ∧ ((cAt T L s).1 = false → ∀ j, j < nC (fAt T L s) (sTx (fAt T L s)).length → m8 (a0 + 11) (5 * ds.length + 1 + j) = nI ((cAt T L s).2.2.getD j 0)) ∧ (∀ j, j ≠ 18 → j ≠ 19 → j ≠ 23 → m8 a0 j = ν a0 j) ∧ frm (fun q => q = a0 ∨ q = a0 + 11) ν m8) ?_ N 10 _ _ (by omega) ⟨[], 0, rfl, rfl, by decide, by decide, rfl, fun k hk => absurd hk (Nat.not_lt_zero _), x1, x2, x3, x4, x5, fun j j1 j2 j3 => by rw [x7 j j1 j2 j3, i0 j j1 j2 j3], i1.tr x8⟩
  rintro kk self m8 κ ⟨ds, s, hl, rfl, h6, hs61, hp, hC, k19, k18, k23, kk0, kv, ko, kf⟩ hs1
  have hT8 : TXm m8 a0 L T := hT.mv (ko 17 (by decide) (by decide) (by decide)) (kf _ (by omega))
  obtain ⟨c1, c2, c3⟩ := cAt_ok (T := T) (L := L) s
  refine ok_gd (by omega) ?_
  -- the end of reading
  have hend : ((cAt T L s).1 = false → chI T L (cAt T L s).2.1 ≠ 59) → ∀ y : Bool, y = ((cAt T L s).1 || decide ((cAt T L s).2.1 < L)) → ∀ v20 : Int32, v20 = (if y = true then nI (cAt T L s).2.1 else ν a0 20) → Ok (if (mset (mset (mset m8 a0 19 (b2i y)) a0 20 v20) a0 17 0 a0 19) = 0 then runM N a0 (mset (mset (mset m8 a0 19 (b2i y)) a0 20 v20) a0 17 0) else some (mset (mset (mset (mset m8 a0 19 (b2i y)) a0 20 v20) a0 17 0) a0 6 1, 0)) P := by
    intro hne y hy v20 hv
    have hPF : PF ν (mset (mset (mset m8 a0 19 (b2i y)) a0 20 v20) a0 17 0) a0 := ⟨frm.set (X := fun q => q = a0 ∨ q = a0 + 11) (frm.set (X := fun q => q = a0 ∨ q = a0 + 11) (frm.set (X := fun q => q = a0 ∨ q = a0 + 11) kf (Or.inl rfl) _ _) (Or.inl rfl) _ _) (Or.inl rfl) _ _, fun j j1 j2 j3 j4 j5 => by
      rw [mset_sl _ _ _ _ j1, mset_sl _ _ _ _ j4, mset_sl _ _ _ _ j3]; exact ko j j2 j3 j5⟩
    have e19 : mset (mset (mset m8 a0 19 (b2i y)) a0 20 v20) a0 17 0 a0 19 = nI y.toNat := by
      rw [mset_sl _ _ _ _ (by decide), mset_sl _ _ _ _ (by decide), mset_at, b2i_nI]
    have e20 : mset (mset (mset m8 a0 19 (b2i y)) a0 20 v20) a0 17 0 a0 20 = v20 := by
      rw [mset_sl _ _ _ _ (by decide), mset_at]
    rw [e19]
    cases hb : (cAt T L s).1
    · obtain ⟨d1, d2⟩ := c3 hb
      obtain ⟨n, rfl⟩ : ∃ n, kk = n + 1 := ⟨kk - 1, by omega⟩
      have hps : prs T L (n + 1) s = if (cAt T L s).1 = true then (some (cAt T L s).2.1, []) else if (cAt T L s).2.1 = L then (none, [s]) else if T (cAt T L s).2.1 = 59 then ((prs T L n ((cAt T L s).2.1 + 1)).1, s :: (prs T L n ((cAt T L s).2.1 + 1)).2) else (some (cAt T L s).2.1, [s]) := rfl
      rw [hb, if_neg (by decide)] at hps
      have hne' := hne hb
      by_cases hz : (cAt T L s).2.1 = L
      · have hy' : y = false := by rw [hy, hb, decide_eq_false (show ¬ (cAt T L s).2.1 < L by omega)]; rfl
        subst hy'
        rw [if_pos hz] at hps
        have hpp : prs T L 10 0 = (none, ds ++ [s]) := by rw [hp, hps]
        have hl1 : ([s] : List Nat).length = 1 := rfl
        refine ok_ifT rfl ?_
        refine hok _ (by rw [hpp]) hPF (mset_at _ _ _ _) (by rw [e20, hv]; rfl) (by rw [hpp]; dsimp only; rw [List.length_append]; omega) ?_ ?_
        · rw [hpp, mset_sl _ _ _ _ (by decide), mset_sl _ _ _ _ (by decide), mset_sl _ _ _ _ (by decide), k23]
          dsimp only
          rw [List.length_append]; rfl
        · rw [hpp]
          intro k hk
          dsimp only at hk ⊢
          rw [List.length_append] at hk
          rw [mset_ne _ _ _ _ (by omega), mset_ne _ _ _ _ (by omega), mset_ne _ _ _ _ (by omega)]
          by_cases ek : k = ds.length
          · subst ek
            rw [gd_last]
            exact ⟨kk0, kv hb⟩
          · rw [gd_front _ _ _ (by omega)]
            exact hC k (by omega)
      · have hlt : (cAt T L s).2.1 < L := by omega
        have hy' : y = true := by rw [hy, decide_eq_true hlt]; cases (cAt T L s).1 <;> rfl
        subst hy'
        rw [if_neg hz, if_neg (fun z => hne' ((chI_eq (T := T) (g := 59) hT.b (by decide)).mpr ⟨hlt, z⟩))] at hps
        refine ok_ifF (by decide) (ok_some ?_)
        exact herr _ _ (by rw [hp, hps]) (by omega) hPF (mset_at _ _ _ _) (by rw [e20, hv]; rfl)
    · have hy' : y = true := by rw [hy, hb]; rfl
      subst hy'
      refine ok_ifF (by decide) (ok_some ?_)
      have hst := prs_stuck (T := T) (L := L) (n := kk) (s := s) hb (fun z => by omega)
      exact herr _ _ (by rw [hp, hst]) (by omega) hPF (mset_at _ _ _ _) (by rw [e20, hv]; rfl)
  refine ok_jn1 (fun _ : Unit => (cAt T L s).1 = false → chI T L (cAt T L s).2.1 ≠ 59) (fun _ hne => ?_) (fun j14 hj14 => ?_)
  · refine ok_jn1 (fun y : Bool => y = ((cAt T L s).1 || decide ((cAt T L s).2.1 < L))) (fun y hy => ?_) (fun j18 hj18 => ?_)
    · refine ok_lt ?_
      refine ok_jn1 (fun v20 : Int32 => v20 = (if y = true then nI (cAt T L s).2.1 else ν a0 20)) (fun v20 hv => ?_) (fun j24 hj24 => ?_)
      · exact ok_lt (ok_lt (hend hne y hy v20 hv))
      · rw [mset_at, mset_sl _ _ _ _ (by decide), mset_sl _ _ _ _ (by decide), k18, ko 20 (by decide) (by decide) (by decide)]
        cases y
        · exact ok_ifT rfl (hj24 _ rfl)
        · exact ok_ifF (by decide) (hj24 _ rfl)
    · refine ok_jn1 (fun _ : Unit => true = ((cAt T L s).1 || decide ((cAt T L s).2.1 < L))) (fun _ hz => hj18 _ hz) (fun j50 hj50 => ?_)
      rw [k19, k18, hT8.2.1]
      cases hb : (cAt T L s).1
      · refine ok_ifT rfl ?_
        rw [hb] at hj18 hj50
        refine ok_le L (cAt T L s).2.1 (f := fun hz => hj18 _ ?_) (g := fun hz => hj50 () ?_)
        · rw [decide_eq_false (by omega)]; rfl
        · rw [decide_eq_true hz]; rfl
      · rw [hb] at hj50
        exact ok_ifF (by decide) (hj50 () rfl)
  · rw [k19]
    cases hb : (cAt T L s).1
    · refine ok_ifT rfl ?_
      obtain ⟨d1, d2⟩ := c3 hb
      rw [m_behind (x := 0) 0 hT8 k18 (by omega) (by decide) rfl, bS, Nat.add_zero]
      refine ok_if (fun h59 => ?_) (fun h59 => hj14 () (fun _ => h59))
      obtain ⟨t1, t2⟩ := (chI_eq (T := T) (g := 59) hT.b (by decide)).mp h59
      obtain ⟨n, rfl⟩ : ∃ n, kk = n + 1 := ⟨kk - 1, by omega⟩
      have hps : prs T L (n + 1) s = if (cAt T L s).1 = true then (some (cAt T L s).2.1, []) else if (cAt T L s).2.1 = L then (none, [s]) else if T (cAt T L s).2.1 = 59 then ((prs T L n ((cAt T L s).2.1 + 1)).1, s :: (prs T L n ((cAt T L s).2.1 + 1)).2) else (some (cAt T L s).2.1, [s]) := rfl
      rw [hb, if_neg (by decide), if_neg (by omega), if_pos t2] at hps
      refine ok_lt ?_
      rw [k18, nI_1]
      have hT9 : TXm (mset m8 a0 18 (nI ((cAt T L s).2.1 + 1))) a0 L T := hT8.mv (mset_sl _ _ _ _ (by decide)) (mset_ne _ _ _ _ (by omega))
      refine ok_bind (k_readsCommand (k := ds.length + 1) (s := (cAt T L s).2.1 + 1) hN hT9 ?_ (mset_at _ _ _ _) (by omega) ?_ (by omega)) ?_
      · rw [mset_sl _ _ _ _ (by decide), k19, hb]; rfl
      · rw [mset_sl _ _ _ _ (by decide), k23]
      intro w1 hw1
      obtain ⟨y1, y2, y3, y4, y5, y6, y7, y8⟩ := hw1
      have hl1 : ([s] : List Nat).length = 1 := rfl
      have hla : (ds ++ [s]).length = ds.length + 1 := by rw [List.length_append]; rfl
      refine hs1 n _ _ (by omega) ⟨ds ++ [s], (cAt T L s).2.1 + 1, by omega, hla.symm, by omega, by omega, ?_, fun k hk => ?_, y1, y2, by rw [hla]; exact y3, by rw [hla]; exact y4, by rw [hla]; exact y5, fun j j1 j2 j3 => ?_, ?_⟩
      · rw [hp, hps, List.append_assoc]; rfl
      · rw [hla] at hk
        by_cases ek : k = ds.length
        · subst ek
          rw [gd_last]
          refine ⟨?_, fun j hj => ?_⟩
          · rw [y6 _ (by omega), mset_ne _ _ _ _ (by omega)]; exact kk0
          · have hrg := fAt_rg (T := T) (L := L) s
            have h4 := nC_le (fAt T L s) (by omega) _ (Nat.le_refl _)
            have hj' : j < nC (fAt T L s) (sTx (fAt T L s)).length := hj
            rw [y6 _ (by omega), mset_ne _ _ _ _ (by omega)]; exact kv hb j hj'
        · rw [gd_front _ _ _ (by omega)]
          obtain ⟨u1, u2⟩ := hC k (by omega)
          have hrg := fAt_rg (T := T) (L := L) (ds.getD k 0)
          have h4 := nC_le (fAt T L (ds.getD k 0)) (by omega) _ (Nat.le_refl _)
          exact ⟨by rw [y6 _ (by omega), mset_ne _ _ _ _ (by omega)]; exact u1, fun j hj => by rw [y6 _ (by omega), mset_ne _ _ _ _ (by omega)]; exact u2 j hj⟩
      · rw [y7 j j1 j2 j3, mset_sl _ _ _ _ j1]; exact ko j j1 j2 j3
      · exact (frm.set (X := fun q => q = a0 ∨ q = a0 + 11) kf (Or.inl rfl) _ _).tr y8
    · exact ok_ifF (by decide) (hj14 () (fun z => by rw [hb] at z; cases z))
end EM
