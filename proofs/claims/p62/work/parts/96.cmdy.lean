/-! Pure layer, 36: days. -/
section DY
variable (le : Nat → Nat → Nat) (more : Nat → Nat) (x : Int32) (P0 : Nat → Nat → Nat)
/-- what melts of a pile on a day -/
def dmA (le : Nat → Nat) (a : Nat) (x : Int32) (p : Nat → Nat) : Nat := if lentP le x then 0 else min a (grs p)
/-- the pile of exhibit e after k days -/
def dyP : Nat → Nat → Nat → Nat
  | 0, e => P0 e
  | k + 1, e => meltN (dmA (le e) (more e) (x + nI k) (dyP k e)) (dyP k e)
def dyA (k e : Nat) : Nat := dmA (le e) (more e) (x + nI k) (dyP le more x P0 k e)
def dyQ (k e : Nat) : Nat := sm k (fun j => dyA le more x P0 j e)
def dyT (ec k : Nat) : Nat := sm k (fun j => sm ec (fun e => dyA le more x P0 j e))
def dyK (i k e : Nat) : Nat := if e < i then k + 1 else k
end DY
section DZ
variable {N : Nat} {μ ν : Mem} {a0 n ec : Nat} {mn ht : Nat → Nat → Nat} {t : List Nat} {le : Nat → Nat → Nat} {more : Nat → Nat} {x : Int32} {P0 : Nat → Nat → Nat}
theorem dyP_s {k e : Nat} : dyP le more x P0 (k + 1) e = meltN (dyA le more x P0 k e) (dyP le more x P0 k e) := rfl
theorem dyQ_s {k e : Nat} : dyQ le more x P0 (k + 1) e = dyQ le more x P0 k e + dyA le more x P0 k e := rfl
theorem dyT_s {k : Nat} : dyT le more x P0 ec (k + 1) = dyT le more x P0 ec k + sm ec (fun e => dyA le more x P0 k e) := rfl
theorem dyA_le (k e : Nat) : dyA le more x P0 k e ≤ grs (dyP le more x P0 k e) := by
  unfold dyA dmA
  split
  · exact Nat.zero_le _
  · exact Nat.min_le_right _ _
theorem dyP_le {i e : Nat} : ∀ k, dyP le more x P0 k e i ≤ P0 e i
  | 0 => Nat.le_refl _
  | k + 1 => Nat.le_trans (meltN_le _ _) (dyP_le k)
theorem dyP_st {e : Nat} (h : stab (P0 e)) (k : Nat) : stab (dyP le more x P0 k e) := stab_le h (fun _ _ => dyP_le k)
theorem dyQ_g {e : Nat} : ∀ k, grs (dyP le more x P0 k e) + dyQ le more x P0 k e = grs (P0 e)
  | 0 => rfl
  | k + 1 => by
    have h1 := dyQ_g (e := e) k
    have h2 := grs_meltN _ _ (dyA_le (le := le) (more := more) (x := x) (P0 := P0) k e)
    rw [dyP_s, dyQ_s]
    omega
theorem dyK_0 {k e : Nat} : dyK 0 k e = k := by unfold dyK; rw [if_neg (Nat.not_lt_zero _)]
theorem dyK_e {k e : Nat} (h : e < ec) : dyK ec k e = k + 1 := by unfold dyK; rw [if_pos h]
theorem dyK_i {k i : Nat} : dyK i k i = k := by unfold dyK; rw [if_neg (Nat.lt_irrefl _)]
theorem dyK_s {k i : Nat} : dyK (i + 1) k i = k + 1 := by unfold dyK; rw [if_pos (Nat.lt_succ_self _)]
theorem dyK_o {k i e : Nat} (h : e ≠ i) : dyK (i + 1) k e = dyK i k e := by
  unfold dyK
  by_cases c : e < i
  · rw [if_pos c, if_pos (by omega)]
  · rw [if_neg c, if_neg (by omega)]
/-- the class's memory in the middle of days -/
def dC (μ m : Mem) (ec : Nat) (le : Nat → Nat → Nat) (more : Nat → Nat) (x : Int32) (P0 : Nat → Nat → Nat) (K : Nat → Nat) (y : Int32) : Prop :=
  (∀ e, e < ec → ArN m (1 + 16 + 1 + 6 * e + 1) 16 (dyP le more x P0 (K e) e) ∧ m (1 + 16 + 1 + 6 * e) 5 = μ (1 + 16 + 1 + 6 * e) 5 + nI (dyQ le more x P0 (K e) e) ∧ ∀ j, j ≠ 5 → m (1 + 16 + 1 + 6 * e) j = μ (1 + 16 + 1 + 6 * e) j) ∧ m 1 6 = y ∧ (∀ j, j ≠ 6 → m 1 j = μ 1 j) ∧ ∀ q, q ≠ 1 → (∀ e, e < ec → q ≠ 1 + 16 + 1 + 6 * e ∧ q ≠ 1 + 16 + 1 + 6 * e + 1) → m q = μ q
theorem dC.cg {m : Mem} {K K' : Nat → Nat} {y : Int32} (h : dC μ m ec le more x P0 K y) (e : ∀ i, i < ec → K' i = K i) : dC μ m ec le more x P0 K' y := ⟨fun i hi => by rw [e i hi]; exact h.1 i hi, h.2⟩
theorem dC.adv {m m' : Mem} {i k : Nat} {y : Int32} (h : dC μ m ec le more x P0 (dyK i k) y) (hi : i < ec) (hp : ArN m' (1 + 16 + 1 + 6 * i + 1) 16 (dyP le more x P0 (k + 1) i)) (h5 : m' (1 + 16 + 1 + 6 * i) 5 = m (1 + 16 + 1 + 6 * i) 5 + nI (dyA le more x P0 k i)) (ho : ∀ j, j ≠ 5 → m' (1 + 16 + 1 + 6 * i) j = m (1 + 16 + 1 + 6 * i) j) (hf : frm (fun q => q = 1 + 16 + 1 + 6 * i ∨ q = 1 + 16 + 1 + 6 * i + 1) m m') : dC μ m' ec le more x P0 (dyK (i + 1) k) y := by
  obtain ⟨h1, h2, h3, h4⟩ := h
  refine ⟨fun e he => ?_, by rw [hf _ (by omega)]; exact h2, fun j hj => by rw [hf _ (by omega)]; exact h3 j hj, fun q g1 g2 => by rw [hf q (fun z => by have := g2 i hi; omega)]; exact h4 q g1 g2⟩
  by_cases c : e = i
  · subst c
    obtain ⟨-, b2, b3⟩ := h1 e he
    rw [dyK_i] at b2
    rw [dyK_s]
    exact ⟨hp, by rw [h5, b2, dyQ_s, ← nI_add, Int32.add_assoc], fun j hj => by rw [ho j hj, b3 j hj]⟩
  · rw [dyK_o c]
    obtain ⟨b1, b2, b3⟩ := h1 e he
    exact ⟨b1.mv (hf _ (by omega)), by rw [hf _ (by omega)]; exact b2, fun j hj => by rw [hf _ (by omega)]; exact b3 j hj⟩
/-- what is given of the exhibits -/
def dG (Z : Nat → Int32) (n ec : Nat) (mn ht : Nat → Nat → Nat) (r l : Nat → Nat) (P0 : Nat → Nat → Nat) (q : Nat → Nat) (fi la fe le : Nat → Nat → Nat) (w : Nat → Nat) : Prop := SIp Z n ec mn ht ∧ (∀ e, e < ec → EXq n (exY Z e) (r e) (l e) (P0 e) (q e) (fi e) (la e) (fe e) (le e)) ∧ ∀ i, i < 6 → w i ≤ 9 ∧ Z (4 + i) = nI (w i)
theorem dG_of {Z : Nat → Int32} (hs : SIp Z n ec mn ht) : ∃ r l P0 q fi la fe le w, dG Z n ec mn ht r l P0 q fi la fe le w := by
  have h1 : ∀ e : Nat, ∃ T : Nat × Nat × (Nat → Nat) × Nat × (Nat → Nat) × (Nat → Nat) × (Nat → Nat) × (Nat → Nat), e < ec → EXq n (exY Z e) T.1 T.2.1 T.2.2.1 T.2.2.2.1 T.2.2.2.2.1 T.2.2.2.2.2.1 T.2.2.2.2.2.2.1 T.2.2.2.2.2.2.2 := fun e => by
    by_cases c : e < ec
    · obtain ⟨r, l, p, q, fi, la, fe, le, hX⟩ := hs.2.2.2.2.2.2.1 e c
      exact ⟨(r, l, p, q, fi, la, fe, le), fun _ => hX⟩
    · exact ⟨(0, 0, id, 0, id, id, id, id), fun z => absurd z c⟩
  have h2 : ∀ i : Nat, ∃ w : Nat, i < 6 → w ≤ 9 ∧ Z (4 + i) = nI w := fun i => by
    by_cases c : i < 6
    · obtain ⟨w, hw⟩ := hs.2.2.2.1 i c
      exact ⟨w, fun _ => hw⟩
    · exact ⟨0, fun z => absurd z c⟩
  obtain ⟨f, hf⟩ := Classical.axiomOfChoice h1
  obtain ⟨w, hw⟩ := Classical.axiomOfChoice h2
  exact ⟨fun e => (f e).1, fun e => (f e).2.1, fun e => (f e).2.2.1, fun e => (f e).2.2.2.1, fun e => (f e).2.2.2.2.1, fun e => (f e).2.2.2.2.2.1, fun e => (f e).2.2.2.2.2.2.1, fun e => (f e).2.2.2.2.2.2.2, w, hs, hf, hw⟩
section DD
variable {r l q w : Nat → Nat} {fi la fe : Nat → Nat → Nat}
/-- one day of the class -/
theorem k_dayC {m : Mem} {k : Nat} (hN : 1000 ≤ N) (hRC : RC μ 1 (ν (a0 + 1))) (hG : dG (ν (a0 + 1)) n ec mn ht r l P0 q fi la fe le w) (h : dC μ m ec le (fun e => w (r e) - l e) x P0 (fun _ => k) (x + nI k)) : Ok (fX8_letDayPass N m 1) (fun s => dC μ s.1 ec le (fun e => w (r e) - l e) x P0 (fun _ => k + 1) (x + nI (k + 1)) ∧ s.2 = nI (sm ec (fun e => dyA le (fun e => w (r e) - l e) x P0 k e))) := by
  obtain ⟨hs, hE, hw⟩ := hG
  have h5 := hs.2.2.2.2.2.1
  have hn := hs.2.1.1
  unfold fX8_letDayPass
  refine ok_fix3 (fun kk x1 x2 m3 => ∃ i, i + kk = ec ∧ x1 = nI (sm i (fun e => dyA le (fun e => w (r e) - l e) x P0 k e)) ∧ x2 = nI i ∧ dC μ m3 ec le (fun e => w (r e) - l e) x P0 (dyK i k) (x + nI k)) ?_ N ec _ _ _ (by omega) ⟨0, by omega, rfl, rfl, h.cg (fun i hi => dyK_0)⟩
  rintro kk self x1 x2 m3 ⟨i, hi, rfl, rfl, hd⟩ hs1
  have e4 : m3 1 4 = nI ec := by rw [hd.2.2.1 4 (by decide), hRC.1.1.2.1]; exact hs.2.2.2.2.1
  rw [e4]
  refine ok_le ec i (f := fun hc => ?_) (g := fun hc => ?_)
  · have : i = ec := by omega
    subst this
    refine ok_lt (ok_some ⟨?_, rfl⟩)
    obtain ⟨d1, d2, d3, d4⟩ := hd
    refine ⟨fun e he => ?_, ?_, fun j hj => ?_, fun q g1 g2 => ?_⟩
    · obtain ⟨b1, b2, b3⟩ := d1 e he
      rw [dyK_e he] at b1 b2
      dsimp only
      exact ⟨b1.mv (mset_ne _ _ _ _ (by omega)), by rw [mset_ne _ _ _ _ (by omega)]; exact b2, fun j hj => by rw [mset_ne _ _ _ _ (by omega)]; exact b3 j hj⟩
    · dsimp only
      rw [mset_at, d2, Int32.add_assoc, nI_1]
    · dsimp only
      rw [mset_sl _ _ _ _ hj, d3 j hj]
    · dsimp only
      rw [mset_ne _ _ _ _ g1, d4 q g1 g2]
  · have hX := hE i hc
    have hr6 := hX.2.1
    have hl9 := hX.2.2.2.1
    have hw9 := (hw (r i) (by omega)).1
    have hle := hX.2.2.2.2.2.2.2.1.2.2
    have hEi := hRC.2 i (by omega)
    obtain ⟨b1, b2, b3⟩ := hd.1 i hc
    rw [dyK_i] at b1 b2
    have hst := dyP_st (le := le) (more := fun e => w (r e) - l e) (x := x) (P0 := P0) (e := i) hX.2.2.2.2.2.1 k
    refine ok_ar i rfl (by omega) (by decide) ?_
    rw [hd.2.1]
    have hle5 : ArN m3 (1 + 16 + 1 + 6 * i + 5) 100 (le i) := (cL_of hEi hX).2.2.2.2.mv (hd.2.2.2 _ (by omega) (fun e he => by omega))
    refine ok_bind (k_lentEnd (x := x + nI k) hle hle5) ?_
    intro v hv
    refine ok_jn2 (fun (y : Int32) (m' : Mem) => y = nI (sm (i + 1) (fun e => dyA le (fun e => w (r e) - l e) x P0 k e)) ∧ dC μ m' ec le (fun e => w (r e) - l e) x P0 (dyK (i + 1) k) (x + nI k)) ?_ ?_
    · rintro y m' ⟨rfl, hd'⟩
      exact ok_lt (hs1 (kk - 1) _ _ _ (by omega) ⟨i + 1, by omega, rfl, nI_1 _, hd'⟩)
    · intro j hj
      rcases hv with ⟨hno, rfl⟩ | ⟨d, hd1, hd2, hd3, rfl, hne⟩
      · have ea : dyA le (fun e => w (r e) - l e) x P0 k i = min (w (r i) - l i) (grs (dyP le (fun e => w (r e) - l e) x P0 k i)) := by
          unfold dyA dmA
          rw [if_neg hno]
        refine ok_ifT rfl ?_
        rw [b3 0 (by decide), hEi.1.1, show exY (ν (a0 + 1)) i 0 = nI (r i) from hX.1]
        refine ok_ag (r i) rfl (by omega) (by decide) ?_
        have ew : m3 (1 + 1) (r i) = nI (w (r i)) := by
          rw [hd.2.2.2 (1 + 1) (by decide) (fun e he => by omega), hRC.1.2.1 (r i) (by omega)]
          exact (hw (r i) (by omega)).2
        have el : m3 (1 + 16 + 1 + 6 * i) 1 = nI (l i) := by
          rw [b3 1 (by decide), hEi.1.2.1]
          exact hX.2.2.1
        rw [ew, el]
        refine ok_bindE (show fX10_passedBy N m3 (nI (w (r i))) (nI (l i)) = some (nI (w (r i) - l i)) from congrArg some (passedI (by omega) (by omega))) ?_
        refine ok_bind (k_melt (a0 := 1 + 16 + 1 + 6 * i) (by omega) (by omega) b1 hst) ?_
        rintro ⟨m4, v4⟩ ⟨hv4, hp4, h45, h4o, hf4⟩
        dsimp only at hv4 hp4 h45 h4o hf4
        rw [← ea] at hv4 hp4 h45
        subst hv4
        refine ok_lt (hj _ _ ⟨?_, hd.adv hc hp4 h45 h4o hf4⟩)
        exact nI_add _ _
      · have ea : dyA le (fun e => w (r e) - l e) x P0 k i = 0 := by
          unfold dyA dmA
          rw [if_pos ⟨d, hd1, hd2, hd3⟩]
        refine ok_ifF hne ?_
        refine hj _ _ ⟨?_, hd.adv hc ?_ ?_ (fun _ _ => rfl) frm.rf⟩
        · show _ = nI (sm i _ + dyA le (fun e => w (r e) - l e) x P0 k i)
          rw [ea]; rfl
        · rw [dyP_s, ea]; exact b1
        · rw [ea, show nI 0 = 0 from rfl, Int32.add_zero]
/-- the days of the class -/
theorem k_daysC {D : Nat} (hN : 1000 ≤ N) (hD : D ≤ 99) (hRC : RC μ 1 (ν (a0 + 1))) (hG : dG (ν (a0 + 1)) n ec mn ht r l P0 q fi la fe le w) (hx : ν (a0 + 1) 2 = x) : Ok (fX8_letDaysPass N μ 1 (nI D)) (fun s => dC μ s.1 ec le (fun e => w (r e) - l e) x P0 (fun _ => D) (x + nI D) ∧ s.2 = nI (dyT le (fun e => w (r e) - l e) x P0 ec D)) := by
  unfold fX8_letDaysPass
  refine ok_fix3 (fun kk x1 x2 m3 => ∃ k, k + kk = D ∧ x1 = nI (dyT le (fun e => w (r e) - l e) x P0 ec k) ∧ x2 = nI k ∧ dC μ m3 ec le (fun e => w (r e) - l e) x P0 (fun _ => k) (x + nI k)) ?_ N D _ _ _ (by omega) ⟨0, by omega, rfl, rfl, fun e he => ⟨cP_of (hRC.2 e (by have := hG.1.2.2.2.2.2.1; omega)) (hG.2.1 e he), (Int32.add_zero _).symm, fun _ _ => rfl⟩, ?_, fun _ _ => rfl, fun _ _ _ => rfl⟩
  · rintro kk self x1 x2 m3 ⟨k, hk, rfl, rfl, hd⟩ hs1
    refine ok_le D k (f := fun hc => ?_) (g := fun hc => ?_)
    · have : k = D := by omega
      subst this
      exact ok_some ⟨hd, rfl⟩
    · refine ok_bind (k_dayC (by omega) hRC hG hd) ?_
      rintro ⟨m4, v4⟩ ⟨hd4, hv4⟩
      dsimp only at hd4 hv4
      subst hv4
      refine ok_lt (ok_lt ?_)
      exact hs1 (kk - 1) _ _ _ (by omega) ⟨k + 1, by omega, nI_add _ _, nI_1 _, hd4⟩
  · rw [show μ 1 6 = ν (a0 + 1) 2 from hRC.1.1.2.2.1, hx]
    exact (Int32.add_zero _).symm
end DD
end DZ
