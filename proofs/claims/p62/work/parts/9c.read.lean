/-! Pure layer, 42: the class reads commands. -/
section RD
variable (T : Nat → Nat) (L : Nat)
def chI (e : Nat) : Int32 := if e < L then nI (T e) else -1
/-- the form that the letters at s stand for -/
def fAt (s : Nat) : Nat := if chI T L s = 97 then 6 else if chI T L s = 108 then 2 else if chI T L s = 112 then 3 else if chI T L s = 114 then 1 else if chI T L s = 115 then 5 else if chI T L s = 116 then 7 else if chI T L (s + 1) = 97 then 8 else 4
abbrev cAt (s : Nat) : Bool × Nat × List Nat := fin T L (fAt T L s) s
/-- reading commands: where it is malformed, where commands start -/
def prs : Nat → Nat → Option Nat × List Nat
  | 0, s => (some s, [])
  | m + 1, s => if (cAt T L s).1 = true then (some (cAt T L s).2.1, []) else if (cAt T L s).2.1 = L then (none, [s]) else if T (cAt T L s).2.1 = 59 then ((prs m ((cAt T L s).2.1 + 1)).1, s :: (prs m ((cAt T L s).2.1 + 1)).2) else (some (cAt T L s).2.1, [s])
end RD
section RF
variable {N : Nat} {μ ν : Mem} {a0 L : Nat} {T : Nat → Nat}
theorem chI_eq {e g : Nat} (hT : ∀ i, i < L → T i < 65536) (hg : g < 65536) : chI T L e = nI g ↔ e < L ∧ T e = g := by
  unfold chI
  by_cases h : e < L
  · have := hT e h
    rw [if_pos h, nI_eq (by omega) (by omega)]
    exact ⟨fun z => ⟨h, z⟩, fun z => z.2⟩
  · rw [if_neg h]
    exact ⟨fun z => absurd z.symm (nI_m1 (by omega)), fun z => absurd z.1 h⟩
theorem fAt_rg (s : Nat) : 1 ≤ fAt T L s ∧ fAt T L s ≤ 8 := by
  unfold fAt
  repeat' split
  all_goals omega
theorem sgn_1 {c s : Nat} : sgn T L c s 1 = stp T L ((sTx c).getD 0 0) (false, s, []) := rfl
/-- a form that the letters don't stand for does not get further -/
theorem oth {s c : Nat} (hT : ∀ i, i < L → T i < 65536) (h1 : 1 ≤ c) (h8 : c ≤ 8) (hne : c ≠ fAt T L s) : (fin T L c s).1 = true ∧ (fin T L c s).2.1 ≤ (cAt T L s).2.1 := by
  have hlen := (shp_len c (by omega)).2 h1
  have hs := (sgn_ok (T := T) (L := L) (c := fAt T L s) (s := s) (sTx (fAt T L s)).length).1
  have hw0 : wid ((sTx c).getD 0 0) = 0 := by
    have : ∀ c, c < 9 → 1 ≤ c → wid ((sTx c).getD 0 0) = 0 := by decide +kernel
    exact this c (by omega) h1
  have hg : (sTx c).getD 0 0 < 65536 := by
    have := (shp_fin c (by omega) 0 (by omega)).1
    omega
  by_cases hc : s < L ∧ T s = (sTx c).getD 0 0
  · have hch := (chI_eq (T := T) hT hg).mpr hc
    have two : ∀ g2 f, (sTx c).getD 1 0 = g2 → wid g2 = 0 → ¬ (s + 1 < L ∧ T (s + 1) = g2) → fAt T L s = f → (sTx f).getD 0 0 = (sTx c).getD 0 0 → 1 ≤ (sTx f).length → (fin T L c s).1 = true ∧ (fin T L c s).2.1 ≤ (cAt T L s).2.1 := by
      intro g2 f e2 hw2 hn hf ef hfl
      have q1 : sgn T L c s 1 = (false, s + 1, []) := by rw [sgn_1]; exact stp_c hw0 hc
      have q2 : sgn T L c s 2 = (true, s + 1, []) := by
        rw [sgn_s, q1, e2]; exact stp_d hw2 hn
      have q3 : fin T L c s = (true, s + 1, []) := by
        show sgn T L c s _ = _
        rw [sgn_up (i := 2) (by rw [q2]) (by omega), q2]
      have q4 : sgn T L f s 1 = (false, s + 1, []) := by rw [sgn_1, ef]; exact stp_c hw0 hc
      have q5 := sgn_up1 (T := T) (L := L) (c := f) (s := s) (i := 1) (n := (sTx f).length) hfl
      rw [q4] at q5
      rw [q3]
      refine ⟨rfl, ?_⟩
      show s + 1 ≤ (fin T L (fAt T L s) s).2.1
      rw [hf]; exact q5
    rcases (show c = 1 ∨ c = 2 ∨ c = 3 ∨ c = 4 ∨ c = 5 ∨ c = 6 ∨ c = 7 ∨ c = 8 by omega) with rfl | rfl | rfl | rfl | rfl | rfl | rfl | rfl
    · exact absurd (by unfold fAt; rw [show chI T L s = 114 from hch]; rfl) hne
    · exact absurd (by unfold fAt; rw [show chI T L s = 108 from hch]; rfl) hne
    · exact absurd (by unfold fAt; rw [show chI T L s = 112 from hch]; rfl) hne
    · have hf : fAt T L s = if chI T L (s + 1) = 97 then 8 else 4 := by unfold fAt; rw [show chI T L s = 100 from hch]; rfl
      by_cases ha : chI T L (s + 1) = 97
      · rw [if_pos ha] at hf
        have h97 := (chI_eq (T := T) (g := 97) hT (by decide)).mp ha
        exact two 114 8 rfl rfl (fun z => by rw [h97.2] at z; exact absurd z.2 (by decide)) hf rfl (by decide)
      · rw [if_neg ha] at hf; exact absurd hf.symm hne
    · exact absurd (by unfold fAt; rw [show chI T L s = 115 from hch]; rfl) hne
    · exact absurd (by unfold fAt; rw [show chI T L s = 97 from hch]; rfl) hne
    · exact absurd (by unfold fAt; rw [show chI T L s = 116 from hch]; rfl) hne
    · have hf : fAt T L s = if chI T L (s + 1) = 97 then 8 else 4 := by unfold fAt; rw [show chI T L s = 100 from hch]; rfl
      by_cases ha : chI T L (s + 1) = 97
      · rw [if_pos ha] at hf; exact absurd hf.symm hne
      · rw [if_neg ha] at hf
        exact two 97 4 rfl rfl (fun z => ha ((chI_eq (T := T) (g := 97) hT (by decide)).mpr z)) hf rfl (by decide)
  · have q1 : sgn T L c s 1 = (true, s, []) := by rw [sgn_1]; exact stp_d hw0 hc
    have q3 : fin T L c s = (true, s, []) := by
      show sgn T L c s _ = _
      rw [sgn_up (i := 1) (by rw [q1]) (by omega), q1]
    rw [q3]
    exact ⟨rfl, hs⟩
theorem k_readShape {c k s : Nat} (hN : 50 ≤ N) (hT : TXc μ L T) (hc1 : 1 ≤ c) (hc8 : c ≤ 8) (hk : k < 10) (hcm : μ 546 4 = nI k) (hs : s ≤ 61) : Ok (fX7_readShape N μ 546 c (nI s)) (fun r => r.2 = !(fin T L c s).1 ∧ r.1 546 5 = nI (fin T L c s).2.1 ∧ ((fin T L c s).1 = false → ∀ j, j < nC c (sTx c).length → r.1 (546 + 3 + 1 + 1 * k) j = nI ((fin T L c s).2.2.getD j 0)) ∧ (∀ j, j ≠ 5 → r.1 546 j = μ 546 j) ∧ frm (fun q => q = 546 ∨ q = 546 + 3 + 1 + 1 * k) μ r.1) := by
  have hlen := (shp_len c (by omega)).1
  have hL := hT.1
  unfold fX7_readShape
  refine ok_lt ?_
  refine ok_fix3 (fun kk x3 x4 m => ∃ i e vs, i + kk = (sTx c).length ∧ sgn T L c s i = (false, e, vs) ∧ x3 = nI vs.length ∧ x4 = nI i ∧ m 546 5 = nI e ∧ (∀ j, j < vs.length → m (546 + 3 + 1 + 1 * k) j = nI (vs.getD j 0)) ∧ (∀ j, j ≠ 5 → m 546 j = μ 546 j) ∧ frm (fun q => q = 546 ∨ q = 546 + 3 + 1 + 1 * k) μ m) ?_ N (sTx c).length _ _ _ (by omega) ⟨0, s, [], by omega, rfl, rfl, rfl, mset_at _ _ _ _, fun j hj => absurd hj (Nat.not_lt_zero _), fun j hj => mset_sl _ _ _ _ hj, frm.set (X := fun q => q = 546 ∨ q = 546 + 3 + 1 + 1 * k) frm.rf (Or.inl rfl) _ _⟩
  rintro kk self x3 x4 m ⟨i, e, vs, hi, hx, rfl, rfl, h5, hvs, ho, hf⟩ hs1
  have hok := sgn_ok (T := T) (L := L) (c := c) (s := s) i
  rw [hx] at hok
  dsimp only at hok
  obtain ⟨o1, o2, o3⟩ := hok
  obtain ⟨o4, o5, o6⟩ := o3 rfl
  unfold sLn
  refine ok_le (sTx c).length i (f := fun hc => ?_) (g := fun hc => ?_)
  · have : i = (sTx c).length := by omega
    subst this
    refine ok_some ?_
    rw [show fin T L c s = (false, e, vs) from hx]
    exact ⟨rfl, h5, fun _ j hj => hvs j (by rw [o5]; exact hj), ho, hf⟩
  · obtain ⟨g1, g2⟩ := shp_fin c (by omega) i hc
    have hT' : TXc m L T := hT.mv (ho 1 (by decide)) (hf _ (by omega))
    refine ok_sat rfl hc (by omega) ?_
    refine ok_lt ?_
    rw [h5]
    generalize hg : (sTx c).getD i 0 = g at g1 g2 ⊢
    have hstep : sgn T L c s (i + 1) = stp T L g (false, e, vs) := by rw [sgn_s, hx, hg]
    have stuck : stp T L g (false, e, vs) = (true, e, vs) → fin T L c s = (true, e, vs) := fun z => by
      show sgn T L c s _ = _
      rw [sgn_up (i := i + 1) (by rw [hstep, z]) (by omega), hstep, z]
    refine ok_jn2 (fun (y : Int32) (m' : Mem) => ∃ e' vs', (stp T L g (false, e, vs) = (false, e', vs') ∧ e' ≠ e ∨ (e' = e ∧ stp T L g (false, e, vs) = (true, e, vs))) ∧ e' ≤ 100 ∧ (stp T L g (false, e, vs) = (false, e', vs') → y = nI vs'.length ∧ ∀ j, j < vs'.length → m' (546 + 3 + 1 + 1 * k) j = nI (vs'.getD j 0)) ∧ m' 546 5 = nI e' ∧ (∀ j, j ≠ 5 → m' 546 j = μ 546 j) ∧ frm (fun q => q = 546 ∨ q = 546 + 3 + 1 + 1 * k) μ m') ?_ ?_
    · rintro y m' ⟨e', vs', hst, he100, hv, q5, qo, qf⟩
      rw [q5]
      refine ok_eqI e' e (f := fun hz => ?_) (g := fun hz => ?_)
      · rcases hst with ⟨-, z⟩ | ⟨-, z⟩
        · exact absurd hz z
        · refine ok_some ?_
          rw [stuck z]
          subst hz
          exact ⟨rfl, q5, fun zz => (by cases zz), qo, qf⟩
      · rcases hst with ⟨z, -⟩ | ⟨z, -⟩
        · obtain ⟨rfl, hv2⟩ := hv z
          refine ok_lt ?_
          exact hs1 (kk - 1) _ _ _ (by omega) ⟨i + 1, e', vs', by omega, by rw [hstep, z], rfl, nI_1 _, q5, hv2, qo, qf⟩
        · exact absurd z hz
    · intro j16 hj16
      have hnum : ∀ w, wid g = w → 1 ≤ w ∧ w ≤ 2 → Ok ((fX7_readNumber N m 546 (nI vs.length) (nI w)).bind fun r30 => lt (nI vs.length + 1) fun v31 => j16 v31 r30) (fun r => r.2 = !(fin T L c s).1 ∧ r.1 546 5 = nI (fin T L c s).2.1 ∧ ((fin T L c s).1 = false → ∀ j, j < nC c (sTx c).length → r.1 (546 + 3 + 1 + 1 * k) j = nI ((fin T L c s).2.2.getD j 0)) ∧ (∀ j, j ≠ 5 → r.1 546 j = μ 546 j) ∧ frm (fun q => q = 546 ∨ q = 546 + 3 + 1 + 1 * k) μ r.1) := by
        intro w hw hw12
        have hv4 : vs.length < 4 := by rw [o5]; exact g2 (by omega)
        refine ok_bind (k_readNumber (e := e) (by omega) hT' hw12 hv4 hk (by rw [ho 4 (by decide)]; exact hcm) h5 (by omega)) ?_
        rintro m2 ⟨r1, r2, r3, r4, r5⟩
        refine ok_lt ?_
        have hnd := ndG_le (T := T) (L := L) (w := w) (e := e)
        refine hj16 _ _ ⟨e + ndG T L w e, vs ++ [nvG T L w e], ?_, by omega, fun z => ⟨?_, fun j hj => ?_⟩, r1, fun j hj => by rw [r4 j hj, ho j hj], hf.tr r5⟩
        · cases hd : dgt T L e
          · refine Or.inr ⟨by rw [ndG_n hd]; rfl, stp_m (by omega) hd⟩
          · have := ndG_d (T := T) (L := L) (w := w) (e := e) (by omega) hd
            refine Or.inl ⟨?_, by omega⟩
            rw [stp_n (by omega) hd, hw]
        · rw [List.length_append]; exact nI_1 _
        · rw [List.length_append] at hj
          have hj1 : ([nvG T L w e] : List Nat).length = 1 := rfl
          by_cases ej : j = vs.length
          · subst ej
            rw [r2, gd_last]
          · rw [r3 j ej, gd_front _ _ _ (by omega)]
            exact hvs j (by omega)
      refine ok_jn1 (fun _ : Unit => wid g ≠ 0) (fun _ hw => ?_) (fun j23 hj23 => ?_)
      · refine ok_jn1 (fun y : Int32 => y = nI (wid g)) (fun y hy => ?_) (fun j27 hj27 => ?_)
        · subst hy
          refine hnum (wid g) rfl ?_
          unfold wid at hw ⊢
          split
          · omega
          · split
            · omega
            · rename_i z1 z2; rw [if_neg z1, if_neg z2] at hw; exact absurd rfl hw
        · refine ok_eqI g 35 (f := fun z => hj27 _ (by rw [z]; rfl)) (g := fun z => hj27 _ ?_)
          have hg37 : g = 37 := by
            unfold wid at hw
            rw [if_neg z] at hw
            refine Classical.byContradiction fun z2 => ?_
            rw [if_neg z2] at hw; exact hw rfl
          rw [hg37]; rfl
      · refine ok_eqI g 35 (f := fun z => hj23 _ (by rw [z]; decide)) (g := fun z35 => ?_)
        refine ok_eqI g 37 (f := fun z => hj23 _ (by rw [z]; decide)) (g := fun z37 => ?_)
        have hw0 : wid g = 0 := by unfold wid; rw [if_neg z35, if_neg z37]
        rw [ho 1 (by decide), hT.2.1]
        refine ok_le L e (f := fun hz => ?_) (g := fun hz => ?_)
        · have hst := stp_d (T := T) (L := L) (vs := vs) (g := g) (e := e) hw0 (fun z => by omega)
          exact hj16 _ _ ⟨e, vs, Or.inr ⟨rfl, hst⟩, by omega, fun z => by (rw [hst] at z; cases z), h5, ho, hf⟩
        · obtain ⟨t1, t2⟩ := hT'.2.2 e hz
          refine ok_ag e rfl (by omega) (by decide) ?_
          rw [t2]
          refine ok_eqI (T e) g (f := fun hz2 => ?_) (g := fun hz2 => ?_)
          · refine ok_lt ?_
            rw [nI_1]
            refine hj16 _ _ ⟨e + 1, vs, Or.inl ⟨stp_c hw0 ⟨hz, hz2⟩, by omega⟩, by omega, fun z => ⟨rfl, fun j hj => ?_⟩, mset_at _ _ _ _, fun j hj => by rw [mset_sl _ _ _ _ hj]; exact ho j hj, frm.set (X := fun q => q = 546 ∨ q = 546 + 3 + 1 + 1 * k) hf (Or.inl rfl) _ _⟩
            rw [mset_ne _ _ _ _ (by omega)]; exact hvs j hj
          · have hst := stp_d (T := T) (L := L) (vs := vs) (g := g) (e := e) hw0 (fun z => hz2 z.2)
            exact hj16 _ _ ⟨e, vs, Or.inr ⟨rfl, hst⟩, by omega, fun z => by (rw [hst] at z; cases z), h5, ho, hf⟩
end RF
