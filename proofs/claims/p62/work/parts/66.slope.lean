/-! Pure layer, 7: slopes and melting of the class. -/
section SF
variable {N : Nat} {μ : Mem} {a0 a1 a : Nat} {p : Nat → Nat}
abbrev lowf (p : Nat → Nat) (a : Nat) : Nat → Nat := fun b => if p b < p a then slo p b else 0
theorem slo_ml {nb : Nat → Nat → Nat} (h : nbOK nb) (ha : a < 16) : slo p a = ml nb (lowf p a) a 4 + 1 := by rw [ml_mxn h ha]; exact slo_eq p a
theorem ml_le4 {nb : Nat → Nat → Nat} (h : nbOK nb) (hp : stab p) (ha : a < 16) {d : Nat} (hd : d ≤ 4) : ml nb (lowf p a) a d ≤ 4 := ml_le d (fun e he => by
  have h1 := h.1 a ha e (by omega)
  show (if nb a e = 16 then 0 else if p (nb a e) < p a then slo p (nb a e) else 0) ≤ 4
  by_cases e16 : nb a e = 16
  · rw [if_pos e16]; omega
  · rw [if_neg e16]
    have := slo_le hp (a := nb a e) (by omega)
    split <;> omega)
theorem k_slopeFrom (hN : 5 ≤ N) (h : ArN μ a0 16 p) (hp : stab p) : ∀ (n a dep : Nat), a < 16 → p a < n → p a + dep < 16 → Ok (fX6_slopeFrom N n μ a0 (nI a) (nI dep)) (fun r => r = nI (slo p a))
  | 0, _, _, _, h, _ => absurd h (Nat.not_lt_zero _)
  | n + 1, a, dep, ha, hn, hdep => by
    unfold fX6_slopeFrom
    refine ok_ltI dep 16 (f := fun _ => ?_) (g := fun hc => by omega)
    refine ok_fix2 (fun k x y => ∃ d, d + k = 4 ∧ x = nI (ml nbC (lowf p a) a d) ∧ y = nI d) ?_ N 4 _ _ (by omega) ⟨0, rfl, rfl, rfl⟩
    rintro k self x y ⟨d, hd, rfl, rfl⟩ hs
    have hml := ml_le4 nbC_ok hp ha (d := d) (by omega)
    refine ok_le 4 d (f := fun hc => ?_) (g := fun hc => ?_)
    · have : d = 4 := by omega
      subst this
      exact ok_some (by rw [slo_ml nbC_ok ha]; exact nI_1 _)
    · refine ok_bindE (beC ha hc) ?_
      have hb := nbC_ok.1 a ha d hc
      have e : ml nbC (lowf p a) a (d + 1) = max (ml nbC (lowf p a) a d) (if nbC a d = 16 then 0 else if p (nbC a d) < p a then slo p (nbC a d) else 0) := rfl
      refine ok_jn ?_
      refine ok_if (fun he => ?_) (fun he => ?_)
      · have he := (bv_m1 hb.1).mp he
        refine ok_lt ?_
        exact hs (k - 1) _ _ (by omega) ⟨d + 1, by omega, by rw [e, if_pos he, Nat.max_eq_left (Nat.zero_le _)], nI_1 _⟩
      · have he : nbC a d ≠ 16 := fun z => he ((bv_m1 hb.1).mpr z)
        rw [bv_pl he]
        have hlt : nbC a d < 16 := by omega
        refine ok_ag (nbC a d) rfl hlt (by decide) ?_
        refine ok_ag a rfl ha (by decide) ?_
        rw [h _ hlt, h a ha]
        have hp1 := hp a ha
        have hp2 := hp _ hlt
        refine ok_le (p a) (p (nbC a d)) (f := fun hq => ?_) (g := fun hq => ?_)
        · refine ok_lt ?_
          exact hs (k - 1) _ _ (by omega) ⟨d + 1, by omega, by rw [e, if_neg he, if_neg (by omega), Nat.max_eq_left (Nat.zero_le _)], nI_1 _⟩
        · have ih := k_slopeFrom hN h hp n (nbC a d) (dep + 1) hlt (by omega) (by omega)
          rw [nI_1]
          refine ok_bind ih ?_
          rintro _ rfl
          refine ok_lt (ok_lt ?_)
          have hsl := slo_le hp hlt
          exact hs (k - 1) _ _ (by omega) ⟨d + 1, by omega, by rw [e, if_neg he, if_pos hq]; exact imax_nI (by omega) (by omega), nI_1 _⟩
theorem slP_le (hp : stab p) {i : Nat} (hi : i ≤ 16) : mx i (slo p) ≤ 4 := mx_le i (fun a ha => slo_le hp (by omega))
theorem k_slopeByRecursion (hN : 17 ≤ N) (h : ArN μ a0 16 p) (hp : stab p) : Ok (fX6_slopeByRecursion N μ a0) (fun r => r = nI (slP p)) := by
  unfold fX6_slopeByRecursion
  refine ok_fix2 (fun k x y => ∃ i, i + k = 16 ∧ x = nI (mx i (slo p)) ∧ y = nI i) ?_ N 16 _ _ (by omega) ⟨0, rfl, rfl, rfl⟩
  rintro k self x y ⟨i, hi, rfl, rfl⟩ hs
  refine ok_le 16 i (f := fun hc => ?_) (g := fun hc => ?_)
  · have : i = 16 := by omega
    subst this
    exact ok_some rfl
  · have hpi := hp i hc
    refine ok_bind (k_slopeFrom (by omega) h hp 17 i 1 hc (by omega) (by omega)) ?_
    rintro _ rfl
    refine ok_lt (ok_lt ?_)
    have h1 := slP_le hp (i := i) (by omega)
    have h2 := slo_le hp hc
    exact hs (k - 1) _ _ (by omega) ⟨i + 1, by omega, imax_nI (by omega) (by omega), nI_1 _⟩
theorem k_longestLowerSlope (hN : 5 ≤ N) (h : ArN μ a1 16 p) (hp : stab p) (ha : a < 16) (hsl : ∀ b, b < 16 → p b < p a → μ (a0 + 4) b = nI (slo p b)) : Ok (fX6_longestLowerSlope N μ a0 a1 (nI a)) (fun r => r + 1 = nI (slo p a)) := by
  unfold fX6_longestLowerSlope
  refine ok_fix2 (fun k x y => ∃ d, d + k = 4 ∧ x = nI (ml nbC (lowf p a) a d) ∧ y = nI d) ?_ N 4 _ _ (by omega) ⟨0, rfl, rfl, rfl⟩
  rintro k self x y ⟨d, hd, rfl, rfl⟩ hs
  have hml := ml_le4 nbC_ok hp ha (d := d) (by omega)
  refine ok_le 4 d (f := fun hc => ?_) (g := fun hc => ?_)
  · have : d = 4 := by omega
    subst this
    exact ok_some (by rw [slo_ml nbC_ok ha]; exact nI_1 _)
  · refine ok_bindE (beC ha hc) ?_
    have hb := nbC_ok.1 a ha d hc
    have e : ml nbC (lowf p a) a (d + 1) = max (ml nbC (lowf p a) a d) (if nbC a d = 16 then 0 else if p (nbC a d) < p a then slo p (nbC a d) else 0) := rfl
    refine ok_jn ?_
    refine ok_if (fun he => ?_) (fun he => ?_)
    · have he := (bv_m1 hb.1).mp he
      refine ok_lt ?_
      exact hs (k - 1) _ _ (by omega) ⟨d + 1, by omega, by rw [e, if_pos he, Nat.max_eq_left (Nat.zero_le _)], nI_1 _⟩
    · have he : nbC a d ≠ 16 := fun z => he ((bv_m1 hb.1).mpr z)
      rw [bv_pl he]
      have hlt : nbC a d < 16 := by omega
      refine ok_ag (nbC a d) rfl hlt (by decide) ?_
      refine ok_ag a rfl ha (by decide) ?_
      rw [h _ hlt, h a ha]
      have hp1 := hp a ha
      have hp2 := hp _ hlt
      refine ok_le (p a) (p (nbC a d)) (f := fun hq => ?_) (g := fun hq => ?_)
      · refine ok_lt ?_
        exact hs (k - 1) _ _ (by omega) ⟨d + 1, by omega, by rw [e, if_neg he, if_neg (by omega), Nat.max_eq_left (Nat.zero_le _)], nI_1 _⟩
      · refine ok_ag (nbC a d) rfl hlt (by decide) ?_
        rw [hsl _ hlt hq]
        refine ok_lt (ok_lt ?_)
        have hsl2 := slo_le hp hlt
        exact hs (k - 1) _ _ (by omega) ⟨d + 1, by omega, by rw [e, if_neg he, if_pos hq]; exact imax_nI (by omega) (by omega), nI_1 _⟩
/-- the longest slope from the places with fewer than g grains, and from those with g among the first i -/
def slG (p : Nat → Nat) (g i : Nat) : Nat := mx 16 (fun a => if p a < g ∨ (p a = g ∧ a < i) then slo p a else 0)
theorem mx_one {f g : Nat → Nat} {k : Nat} : ∀ n, k < n → (∀ a, a < n → a ≠ k → f a = g a) → f k = 0 → mx n g = max (mx n f) (g k)
  | 0, h, _, _ => absurd h (Nat.not_lt_zero _)
  | n + 1, h, e, h0 => by
    show max (mx n g) (g n) = max (max (mx n f) (f n)) (g k)
    by_cases hk : k = n
    · subst hk
      rw [mx_cg (f := f) (g := g) k (fun a ha => e a (by omega) (by omega)), h0]; omega
    · have h1 := mx_one (f := f) (g := g) (k := k) n (by omega) (fun a ha hne => e a (by omega) hne) h0
      rw [h1, e n (by omega) (fun z => hk z.symm)]; omega
theorem slG_le (hp : stab p) (g i : Nat) : slG p g i ≤ 4 := mx_le 16 (fun a ha => by
  have := slo_le hp ha
  split <;> omega)
theorem k_slopeFromFewest (hN : 20 ≤ N) (hne : a1 ≠ a0 + 4) (h : ArN μ a1 16 p) (hp : stab p) : Ok (fX6_slopeFromFewest N μ a0 a1) (fun r => r.2 = nI (slP p) ∧ frm (fun q => q = a0 + 4) μ r.1) := by
  unfold fX6_slopeFromFewest
  refine ok_fix3 (fun k x1 x2 m => ∃ g, g + k = 4 ∧ x1 = nI (slG p g 0) ∧ x2 = nI g ∧ frm (fun q => q = a0 + 4) μ m ∧ ∀ b, b < 16 → p b < g → m (a0 + 4) b = nI (slo p b)) ?_ N 4 _ _ _ (by omega) ⟨0, rfl, ?_, rfl, frm.rf, fun b _ hb => absurd hb (Nat.not_lt_zero _)⟩
  · rintro k self x1 x2 m ⟨g, hg, rfl, rfl, hf, hm⟩ hs
    refine ok_le 4 g (f := fun hc => ?_) (g := fun hc => ?_)
    · have : g = 4 := by omega
      subst this
      refine ok_some ⟨?_, hf⟩
      show nI (slG p 4 0) = nI (slP p)
      unfold slG slP
      rw [mx_cg 16 (fun a ha => by rw [if_pos (Or.inl (by have := hp a ha; omega))])]
    · refine ok_fix3 (fun k2 x7 x8 m => ∃ i, i + k2 = 16 ∧ x7 = nI (slG p g i) ∧ x8 = nI i ∧ frm (fun q => q = a0 + 4) μ m ∧ ∀ b, b < 16 → (p b < g ∨ (p b = g ∧ b < i)) → m (a0 + 4) b = nI (slo p b)) ?_ N 16 _ _ _ (by omega) ⟨0, rfl, rfl, rfl, hf, fun b hb hx => hm b hb (by omega)⟩
      rintro k2 self2 x7 x8 m ⟨i, hi, rfl, rfl, hf, hm⟩ hs2
      have hle := slG_le hp g i
      refine ok_le 16 i (f := fun hd => ?_) (g := fun hd => ?_)
      · have : i = 16 := by omega
        subst this
        refine ok_lt ?_
        refine hs (k - 1) _ _ _ (by omega) ⟨g + 1, by omega, ?_, nI_1 _, hf, fun b hb hx => hm b hb (by omega)⟩
        unfold slG
        rw [mx_cg 16 (fun a ha => ?_)]
        by_cases c : p a < g + 1
        · rw [if_pos (by omega), if_pos (by omega)]
        · rw [if_neg (by omega), if_neg (by omega)]
      · refine ok_ag i rfl hd (by decide) ?_
        rw [h.mv (hf a1 hne) i hd]
        have hpi := hp i hd
        refine ok_jn ?_
        refine ok_eqI (p i) g (f := fun he => ?_) (g := fun he => ?_)
        · refine ok_bind (k_longestLowerSlope (a0 := a0) (by omega) (h.mv (hf a1 hne)) hp hd (fun b hb hx => hm b hb (by omega))) ?_
          intro r hr
          refine ok_aw i rfl hd (by decide) ?_
          refine ok_ag i rfl hd (by decide) ?_
          rw [mset_at, hr]
          refine ok_lt (ok_lt ?_)
          have hsl := slo_le hp hd
          refine hs2 (k2 - 1) _ _ _ (by omega) ⟨i + 1, by omega, ?_, nI_1 _, frm.set (X := fun q => q = a0 + 4) hf rfl _ _, fun b hb hx => ?_⟩
          · rw [imax_nI (by omega) (by omega)]
            refine congrArg nI ?_
            unfold slG
            have := mx_one (f := fun a => if p a < g ∨ (p a = g ∧ a < i) then slo p a else 0) (g := fun a => if p a < g ∨ (p a = g ∧ a < i + 1) then slo p a else 0) (k := i) 16 hd (fun a _ hn => by
              by_cases c : p a < g ∨ (p a = g ∧ a < i)
              · rw [if_pos c, if_pos (by omega)]
              · rw [if_neg c, if_neg (by omega)]) (by rw [if_neg (by omega)])
            rw [this]
            rw [if_pos (Or.inr ⟨he, by omega⟩)]
          · rw [mset_if]
            by_cases e : b = i
            · subst e; rw [if_pos rfl]
            · rw [if_neg e]; exact hm b hb (by omega)
        · refine ok_lt ?_
          refine hs2 (k2 - 1) _ _ _ (by omega) ⟨i + 1, by omega, ?_, nI_1 _, hf, fun b hb hx => hm b hb ?_⟩
          · unfold slG
            rw [mx_cg 16 (fun a ha => ?_)]
            by_cases c : p a < g ∨ (p a = g ∧ a < i)
            · rw [if_pos c, if_pos (by omega)]
            · by_cases c2 : a = i
              · subst c2; rw [if_neg c, if_neg (by omega)]
              · rw [if_neg c, if_neg (by omega)]
          · by_cases c2 : b = i
            · subst c2; omega
            · omega
  · unfold slG
    rw [mx_cg 16 (g := fun _ => 0) (fun a _ => by rw [if_neg (by omega)])]
    rfl
/-! Melting. -/
def melt1 (p : Nat → Nat) : Nat → Nat := updN p (hiP p) (p (hiP p) - 1)
def meltN : Nat → (Nat → Nat) → (Nat → Nat)
  | 0, p => p
  | n + 1, p => meltN n (melt1 p)
theorem hiP_0 {p : Nat → Nat} : p (hiP p) = 0 ↔ grs p = 0 := by
  constructor
  · intro h
    unfold grs
    rw [sm_cg 16 (g := fun _ => 0) (fun a ha => by
      have := hi_max (p := p) 15 a (by omega)
      unfold hiP at h
      omega), sm_z]
  · intro h
    have := sm_mem (f := p) (k := hiP p) 16 hiP_lt
    unfold grs at h
    omega
theorem grs_melt1 {p : Nat → Nat} (h : grs p ≠ 0) : grs (melt1 p) + 1 = grs p := by
  have h0 : p (hiP p) ≠ 0 := fun z => h (hiP_0.mp z)
  have h1 := sm_one (f := melt1 p) (g := p) (k := hiP p) 16 hiP_lt (fun a _ hn => updN_ne _ _ _ hn)
  have h2 : melt1 p (hiP p) = p (hiP p) - 1 := updN_at _ _ _
  unfold grs at h1 ⊢
  omega
theorem melt1_le {p : Nat → Nat} (i : Nat) : melt1 p i ≤ p i := by
  unfold melt1 updN
  split
  · rename_i h; subst h; omega
  · exact Nat.le_refl _
theorem melt1_cg {p q : Nat → Nat} (h : ∀ i, i < 16 → p i = q i) : hiP p = hiP q := by
  have : ∀ k, k < 16 → hi p k = hi q k := fun k => by
    induction k with
    | zero => intro _; rfl
    | succ k ih =>
      intro hk
      have e := ih (by omega)
      have := hi_le (p := q) k
      show (if p (hi p k) < p (k + 1) then k + 1 else hi p k) = (if q (hi q k) < q (k + 1) then k + 1 else hi q k)
      rw [e, h (hi q k) (by omega), h (k + 1) hk]
  exact this 15 (by decide)
theorem meltN_le {i : Nat} : ∀ (n : Nat) (p : Nat → Nat), meltN n p i ≤ p i
  | 0, _ => Nat.le_refl _
  | n + 1, p => Nat.le_trans (meltN_le n (melt1 p)) (melt1_le i)
theorem meltN_add : ∀ (n m : Nat) (p : Nat → Nat), meltN (n + m) p = meltN m (meltN n p)
  | 0, m, p => by rw [Nat.zero_add]; rfl
  | n + 1, m, p => by
    rw [show n + 1 + m = (n + m) + 1 by omega]
    exact meltN_add n m (melt1 p)
theorem grs_meltN : ∀ (n : Nat) (p : Nat → Nat), n ≤ grs p → grs (meltN n p) + n = grs p
  | 0, _, _ => rfl
  | n + 1, p, h => by
    have h1 := grs_melt1 (p := p) (by omega)
    have h2 := grs_meltN n (melt1 p) (by omega)
    show grs (meltN n (melt1 p)) + (n + 1) = grs p
    omega
theorem stab_le {q : Nat → Nat} (hp : stab p) (h : ∀ i, i < 16 → q i ≤ p i) : stab q := fun i hi => Nat.le_trans (h i hi) (hp i hi)
/-- the class melts a number of grains -/
theorem k_melt {n : Nat} (hN : 100 ≤ N) (hn : n < 2 ^ 30) (h : ArN μ (a0 + 1) 16 p) (hp : stab p) : Ok (fX1_melt N μ a0 (nI n)) (fun r => r.2 = nI (min n (grs p)) ∧ ArN r.1 (a0 + 1) 16 (meltN (min n (grs p)) p) ∧ r.1 a0 5 = μ a0 5 + nI (min n (grs p)) ∧ (∀ j, j ≠ 5 → r.1 a0 j = μ a0 j) ∧ frm (fun q => q = a0 ∨ q = a0 + 1) μ r.1) := by
  have hg := grs_stab hp
  unfold fX1_melt
  refine ok_fix3 (fun k x1 x2 m => ∃ i, i + k = grs p ∧ i ≤ n ∧ x1 = nI i ∧ x2 = nI i ∧ m a0 = μ a0 ∧ frm (fun q => q = a0 ∨ q = a0 + 1) μ m ∧ ArN m (a0 + 1) 16 (meltN i p)) ?_ N (grs p) _ _ _ (by omega) ⟨0, by omega, Nat.zero_le _, rfl, rfl, rfl, frm.rf, h⟩
  rintro k self x1 x2 m ⟨i, hi, hin, rfl, rfl, h0, hf, hm⟩ hs
  have hst : stab (meltN i p) := stab_le hp (fun j _ => meltN_le i p)
  have hgi := grs_meltN i p (by omega)
  have fin : i = min n (grs p) → Ok (lt (mset m a0 5 (m a0 5 + nI i)) fun μ10 => some (μ10, nI i)) (fun r : Mem × Int32 => r.2 = nI (min n (grs p)) ∧ ArN r.1 (a0 + 1) 16 (meltN (min n (grs p)) p) ∧ r.1 a0 5 = μ a0 5 + nI (min n (grs p)) ∧ (∀ j, j ≠ 5 → r.1 a0 j = μ a0 j) ∧ frm (fun q => q = a0 ∨ q = a0 + 1) μ r.1) := fun e => by
    rw [← e, h0]
    refine ok_lt (ok_some ⟨rfl, hm.mv (mset_ne _ _ _ _ (by omega)), mset_at _ _ _ _, fun j hj => ?_, frm.set (X := fun q => q = a0 ∨ q = a0 + 1) hf (Or.inl rfl) _ _⟩)
    show mset m a0 5 _ a0 j = _
    rw [mset_sl _ _ _ _ hj, h0]
  refine ok_jn ?_
  refine ok_le n i (f := fun hc => ?_) (g := fun hc => ?_)
  · exact fin (by omega)
  · refine ok_bind (k_highestPlace (by omega) (stab_s hst) hm) ?_
    rintro _ rfl
    have hlt : hiP (meltN i p) < 16 := hiP_lt
    refine ok_ag _ rfl hlt (by decide) ?_
    rw [hm _ hlt]
    have h3 := hst _ hlt
    refine ok_eqI (meltN i p (hiP (meltN i p))) 0 (f := fun hz => ?_) (g := fun hz => ?_)
    · have := hiP_0.mp hz
      exact fin (by omega)
    · have hne : grs (meltN i p) ≠ 0 := fun z => hz (hiP_0.mpr z)
      refine ok_ag _ rfl hlt (by decide) ?_
      refine ok_aw _ rfl hlt (by decide) ?_
      rw [hm _ hlt]
      refine ok_lt (ok_lt ?_)
      refine hs (k - 1) _ _ _ (by omega) ⟨i + 1, by omega, by omega, nI_1 _, nI_1 _, ?_, frm.set (X := fun q => q = a0 ∨ q = a0 + 1) hf (Or.inr rfl) _ _, ?_⟩
      · rw [mset_ne _ _ _ _ (by omega), h0]
      · rw [meltN_add]
        exact hm.set _ _ (pk_sub (b := 1) (by omega))
end SF
