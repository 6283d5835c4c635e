/-! Pure layer, 17: the class's loans. -/
theorem orN {a b : Nat} (ha : a < 2 ^ 32) (hb : b < 2 ^ 32) : nI a ||| nI b = nI (a ||| b) := by
  apply Int32.toBitVec_inj.mp
  rw [Int32.toBitVec_or]
  apply BitVec.eq_of_toNat_eq
  rw [BitVec.toNat_or, pk_tn ha, pk_tn hb, pk_tn (Nat.or_lt_two_pow ha hb)]
theorem and2 {a b : Nat} (ha : a < 2 ^ 32) (hb : b < 2 ^ 32) : nI a &&& nI b = nI (a &&& b) := by rw [andN ha, pk_tn hb]
theorem shl1 {i : Nat} (hi : i < 31) : (1 : Int32) <<< (nI i &&& 31) = nI (2 ^ i) := by
  rw [mask31 hi, show (1 : Int32) = nI 1 from rfl, pk_shlN (nI i) i (smod_small i hi) (by
    rw [Nat.one_mul]; exact Nat.pow_lt_pow_right (by decide) (by omega)), Nat.one_mul]
theorem sub_eq0 {a b : Nat} (ha : a < 2 ^ 30) (hb : b < 2 ^ 30) : nI a - nI b = 0 ↔ a = b := by
  have h := pk_sub_toInt ha hb
  constructor
  · intro e
    rw [e] at h
    have : (0 : Int32).toInt = 0 := rfl
    omega
  · rintro rfl
    exact Int32.sub_self _
theorem sub_le0 {a b : Nat} (ha : a < 2 ^ 30) (hb : b < 2 ^ 30) : nI a - nI b ≤ 0 ↔ a ≤ b := by
  have h := pk_sub_toInt ha hb
  have h0 : (0 : Int32).toInt = 0 := rfl
  rw [Int32.le_iff_toInt_le, h, h0]; omega
theorem sub_ge0 {a b : Nat} (ha : a < 2 ^ 30) (hb : b < 2 ^ 30) : 0 ≤ nI a - nI b ↔ b ≤ a := by
  have h := pk_sub_toInt ha hb
  have h0 : (0 : Int32).toInt = 0 := rfl
  rw [Int32.le_iff_toInt_le, h, h0]; omega
theorem sub_gt0 {a b : Nat} (ha : a < 2 ^ 30) (hb : b < 2 ^ 30) : 0 < nI a - nI b ↔ b < a := by
  have h := pk_sub_toInt ha hb
  have h0 : (0 : Int32).toInt = 0 := rfl
  rw [Int32.lt_iff_toInt_lt, h, h0]; omega
theorem k_contains {N : Nat} {μ : Mem} {C i : Nat} (hC : C < 2 ^ 31) (hi : i < 31) : fX1_contains N μ (nI C) (nI i) = some (C.testBit i) := by
  have key : Ok (fX1_contains N μ (nI C) (nI i)) (fun r => r = C.testBit i) := by
    unfold fX1_contains
    refine ok_jn ?_
    refine ok_if (fun h => ok_some ((bitI1 hC hi).mp h).symm) (fun h => ok_some ?_)
    cases hb : C.testBit i
    · rfl
    · exact absurd ((bitI1 hC hi).mpr hb) h
  obtain ⟨r, e, h⟩ := key
  rw [e, h]
/-- a choice is a number by its bits -/
def pc (C : Nat) : Nat := sm 8 (fun i => (C.testBit i).toNat)
theorem pc_le (C : Nat) : pc C ≤ 8 := sm_b (c := 1) 8 (fun _ _ => toNat_le1 _)
theorem bitC0 : ∀ C, C < 256 → fJ6_bitCount_0f7a4 0 (fun _ _ => 0) (nI C) = some (nI (pc C)) := by decide +kernel
theorem k_bitCount {N : Nat} {μ : Mem} {C : Nat} (hC : C < 256) : fJ6_bitCount_0f7a4 N μ (nI C) = some (nI (pc C)) := bitC0 C hC
def fd (C B : Nat) : Bool := !decide (nI C &&& ((nI C ^^^ nI B) &&& (-(nI C ^^^ nI B))) = 0)
def btC (q : Nat) (fe : Nat → Nat) (C B : Nat) : Bool := if fees q fe C.testBit = fees q fe B.testBit then (if pc C = pc B then fd C B else decide (pc C < pc B)) else decide (fees q fe B.testBit < fees q fe C.testBit)
noncomputable def bsC (q : Nat) (fi la fe le : Nat → Nat) : Nat → Nat
  | 0 => 0
  | m + 1 => @ite Nat (okC q fi la le (m + 1).testBit ∧ btC q fe (m + 1) (bsC q fi la fe le m) = true) (Classical.propDecidable _) (m + 1) (bsC q fi la fe le m)
theorem bsC_le {q : Nat} {fi la fe le : Nat → Nat} : ∀ m, bsC q fi la fe le m ≤ m
  | 0 => Nat.le_refl _
  | m + 1 => by
    have := bsC_le (q := q) (fi := fi) (la := la) (fe := fe) (le := le) m
    unfold bsC
    split <;> omega
theorem bt_ge {q : Nat} {fe : Nat → Nat} {C B : Nat} : (btC q fe C B = true → fees q fe B.testBit ≤ fees q fe C.testBit) ∧ (btC q fe C B = false → fees q fe C.testBit ≤ fees q fe B.testBit) := by
  unfold btC
  by_cases h : fees q fe C.testBit = fees q fe B.testBit
  · exact ⟨fun _ => by omega, fun _ => by omega⟩
  · rw [if_neg h]
    exact ⟨fun z => Nat.le_of_lt (of_decide_eq_true z), fun z => Nat.not_lt.mp (of_decide_eq_false z)⟩
theorem okC_0 {q : Nat} {fi la le : Nat → Nat} : okC q fi la le (Nat.testBit 0) := ⟨fun i _ h => (by rw [Nat.zero_testBit] at h; cases h), fun i j _ _ h => (by rw [Nat.zero_testBit] at h; cases h)⟩
theorem bsC_best {q : Nat} {fi la fe le : Nat → Nat} : ∀ m, okC q fi la le (bsC q fi la fe le m).testBit ∧ ∀ C, C ≤ m → okC q fi la le C.testBit → fees q fe C.testBit ≤ fees q fe (bsC q fi la fe le m).testBit
  | 0 => ⟨okC_0, fun C hC _ => by rw [show C = 0 by omega]; exact Nat.le_refl _⟩
  | m + 1 => by
    obtain ⟨h1, h2⟩ := bsC_best (q := q) (fi := fi) (la := la) (fe := fe) (le := le) m
    have hb := bt_ge (q := q) (fe := fe) (C := m + 1) (B := bsC q fi la fe le m)
    unfold bsC
    by_cases hc : okC q fi la le (m + 1).testBit ∧ btC q fe (m + 1) (bsC q fi la fe le m) = true
    · rw [if_pos hc]
      refine ⟨hc.1, fun C hC hok => ?_⟩
      by_cases e : C = m + 1
      · rw [e]; exact Nat.le_refl _
      · exact Nat.le_trans (h2 C (by omega) hok) (hb.1 hc.2)
    · rw [if_neg hc]
      refine ⟨h1, fun C hC hok => ?_⟩
      by_cases e : C = m + 1
      · subst e
        cases hbt : btC q fe (m + 1) (bsC q fi la fe le m)
        · exact hb.2 hbt
        · exact absurd ⟨hok, hbt⟩ hc
      · exact h2 C (by omega) hok
theorem bits_of (D : Nat → Bool) : ∀ q, ∃ C, C < 2 ^ q ∧ ∀ i, i < q → C.testBit i = D i
  | 0 => ⟨0, by decide, fun i hi => absurd hi (Nat.not_lt_zero _)⟩
  | q + 1 => by
    obtain ⟨C, h1, h2⟩ := bits_of D q
    have h3 : C.testBit q = false := Nat.testBit_lt_two_pow h1
    cases hD : D q
    · refine ⟨C, Nat.lt_trans h1 (Nat.pow_lt_pow_right (by decide) (by omega)), fun i hi => ?_⟩
      by_cases e : i = q
      · subst e; rw [h3, hD]
      · exact h2 i (by omega)
    · refine ⟨C ||| 2 ^ q, Nat.or_lt_two_pow (Nat.lt_trans h1 (Nat.pow_lt_pow_right (by decide) (by omega))) (Nat.pow_lt_pow_right (by decide) (by omega)), fun i hi => ?_⟩
      rw [Nat.testBit_or, Nat.testBit_two_pow]
      by_cases e : i = q
      · subst e; rw [h3, hD]; simp
      · rw [decide_eq_false (fun z => e z.symm), Bool.or_false]; exact h2 i (by omega)
theorem fees_cg {q : Nat} {fe : Nat → Nat} {C D : Nat → Bool} (h : ∀ i, i < q → C i = D i) : fees q fe C = fees q fe D := sm_cg q (fun i hi => by rw [h i hi])
/-- the best choice of all -/
theorem bsC_top {q : Nat} {fi la fe le : Nat → Nat} (D : Nat → Bool) (hD : okC q fi la le D) : fees q fe D ≤ fees q fe (bsC q fi la fe le (2 ^ q - 1)).testBit := by
  obtain ⟨C, h1, h2⟩ := bits_of D q
  rw [← fees_cg (fe := fe) h2]
  exact (bsC_best (2 ^ q - 1)).2 C (by omega) (okC_cg hD (fun i hi => (h2 i hi).symm))
/-- an exhibit of the class has these loans -/
def cL (μ : Mem) (o q : Nat) (fi la fe le : Nat → Nat) : Prop := μ o 6 = nI q ∧ ArN μ (o + 2) q fi ∧ ArN μ (o + 3) q la ∧ ArN μ (o + 4) q fe ∧ ArN μ (o + 5) 100 le
theorem cL.mv {μ μ' : Mem} {o q : Nat} {fi la fe le : Nat → Nat} (h : cL μ o q fi la fe le) (e : ∀ p, o ≤ p → p < o + 6 → μ' p = μ p) : cL μ' o q fi la fe le :=
  ⟨by rw [e o (by omega) (by omega)]; exact h.1, h.2.1.mv (e _ (by omega) (by omega)), h.2.2.1.mv (e _ (by omega) (by omega)), h.2.2.2.1.mv (e _ (by omega) (by omega)), h.2.2.2.2.mv (e _ (by omega) (by omega))⟩
section LC
variable {N : Nat} {μ : Mem} {a0 q : Nat} {fi la fe le : Nat → Nat}
theorem k_isFree {i : Nat} (hN : 200 ≤ N) (hl : lnOK q fi la fe le) (h : cL μ a0 q fi la fe le) (hi : i < q) : Ok (fX1_isFree N μ a0 (nI i)) (fun r => r = true ↔ freeL fi la le i) := by
  have hq := hl.1
  obtain ⟨h1, h2, -⟩ := hl.2.1 i hi
  unfold fX1_isFree
  refine ok_ag i rfl (by omega) (by decide) ?_
  rw [h.2.1 i hi]
  refine ok_fix1 (fun k x => ∃ d, d + k = la i + 1 ∧ fi i ≤ d ∧ x = nI d ∧ ∀ j, fi i ≤ j → j < d → le j = 0) ?_ N (la i + 1 - fi i) _ (by omega) ⟨fi i, by omega, Nat.le_refl _, rfl, fun j h1 h2 => by omega⟩
  rintro k self x ⟨d, hd, hfd, rfl, hz⟩ hs
  refine ok_ag i rfl (by omega) (by decide) ?_
  rw [h.2.2.1 i hi]
  refine ok_ltI (la i) d (f := fun hc => ?_) (g := fun hc => ?_)
  · exact ok_some ⟨fun _ j h3 h4 => hz j h3 (by omega), fun _ => rfl⟩
  · refine ok_ag d rfl (by omega) (by decide) ?_
    rw [h.2.2.2.2 d (by omega)]
    have hle := hl.2.2 d (by omega)
    refine ok_eqI (le d) 0 (f := fun he => ?_) (g := fun he => ?_)
    · refine ok_lt ?_
      refine hs (k - 1) _ (by omega) ⟨d + 1, by omega, by omega, nI_1 _, fun j h3 h4 => ?_⟩
      by_cases e : j = d
      · subst e; exact he
      · exact hz j h3 (by omega)
    · exact ok_some ⟨fun z => (by cases z), fun z => absurd (z d hfd hc) he⟩
theorem k_hinderedLoans (hN : 200 ≤ N) (hl : lnOK q fi la fe le) (h : cL μ a0 q fi la fe le) : Ok (fX1_hinderedLoans N μ a0) (fun r => ∃ H, H < 256 ∧ r = nI H ∧ ∀ i, H.testBit i = true ↔ (i < q ∧ ¬ freeL fi la le i)) := by
  have hq := hl.1
  unfold fX1_hinderedLoans
  refine ok_fix2 (fun k x y => ∃ i H, i + k = q ∧ H < 2 ^ i ∧ x = nI H ∧ y = nI i ∧ ∀ j, H.testBit j = true ↔ (j < i ∧ ¬ freeL fi la le j)) ?_ N q _ _ (by omega) ⟨0, 0, by omega, by decide, rfl, rfl, fun j => by rw [Nat.zero_testBit]; exact ⟨fun z => (by cases z), fun z => absurd z.1 (Nat.not_lt_zero _)⟩⟩
  rintro k self x y ⟨i, H, hi, hH, rfl, rfl, hb⟩ hs
  have h8 : 2 ^ i ≤ 2 ^ 8 := Nat.pow_le_pow_right (by decide) (by omega)
  rw [h.1]
  refine ok_le q i (f := fun hc => ?_) (g := fun hc => ?_)
  · have : i = q := by omega
    subst this
    exact ok_some ⟨H, by omega, rfl, hb⟩
  · refine ok_bind (k_isFree hN hl h hc) ?_
    intro r hr
    refine ok_jn ?_
    have hpw : 2 ^ i < 2 ^ (i + 1) := Nat.pow_lt_pow_right (by decide) (by omega)
    refine ok_cd (fun hx => ?_) (fun hx => ?_)
    · refine ok_lt ?_
      refine hs (k - 1) _ _ (by omega) ⟨i + 1, H, by omega, by omega, rfl, nI_1 _, fun j => (hb j).trans ⟨fun z => ⟨by omega, z.2⟩, fun z => ⟨?_, z.2⟩⟩⟩
      by_cases e : j = i
      · subst e; exact absurd (hr.mp hx) z.2
      · omega
    · refine ok_lt ?_
      rw [shl1 (by omega), orN (by omega) (by omega)]
      refine ok_lt ?_
      refine hs (k - 1) _ _ (by omega) ⟨i + 1, H ||| 2 ^ i, by omega, Nat.or_lt_two_pow (by omega) hpw, rfl, nI_1 _, fun j => ?_⟩
      rw [Nat.testBit_or, Nat.testBit_two_pow, Bool.or_eq_true, hb j]
      have hnf : ¬ freeL fi la le i := fun z => by rw [hr.mpr z] at hx; cases hx
      constructor
      · rintro (z | z)
        · exact ⟨by omega, z.2⟩
        · have := of_decide_eq_true z
          subst this
          exact ⟨by omega, hnf⟩
      · rintro ⟨z1, z2⟩
        by_cases e : j = i
        · right; exact decide_eq_true e.symm
        · left; exact ⟨by omega, z2⟩
theorem fees_le (hl : lnOK q fi la fe le) (C : Nat → Bool) {i : Nat} (hi : i ≤ q) : sm i (fun k => (C k).toNat * fe k) ≤ 800 := by
  have h1 := sm_b (f := fun k => (C k).toNat * fe k) (c := 100) i (fun k hk => by
    have h1 := toNat_le1 (C k)
    have h2 := (hl.2.1 k (by omega)).2.2
    have h3 : (C k).toNat * fe k ≤ 1 * fe k := Nat.mul_le_mul_right _ h1
    omega)
  have := hl.1
  omega
theorem k_feesOf {C : Nat} (hN : 20 ≤ N) (hl : lnOK q fi la fe le) (h : cL μ a0 q fi la fe le) (hC : C < 256) : Ok (fX1_feesOf N μ a0 (nI C)) (fun r => r = nI (fees q fe C.testBit)) := by
  have hq := hl.1
  unfold fX1_feesOf
  refine ok_fix2 (fun k x y => ∃ i, i + k = q ∧ x = nI (sm i (fun k => (C.testBit k).toNat * fe k)) ∧ y = nI i) ?_ N q _ _ (by omega) ⟨0, by omega, rfl, rfl⟩
  rintro k self x y ⟨i, hi, rfl, rfl⟩ hs
  rw [h.1]
  refine ok_le q i (f := fun hc => ?_) (g := fun hc => ?_)
  · have : i = q := by omega
    subst this
    exact ok_some rfl
  · refine ok_bindE (k_contains (by omega) (by omega)) ?_
    have e : sm (i + 1) (fun k => (C.testBit k).toNat * fe k) = sm i (fun k => (C.testBit k).toNat * fe k) + (C.testBit i).toNat * fe i := rfl
    refine ok_jn ?_
    refine ok_cd (fun hx => ?_) (fun hx => ?_)
    · refine ok_ag i rfl (by omega) (by decide) ?_
      rw [h.2.2.2.1 i hc]
      refine ok_lt (ok_lt ?_)
      exact hs (k - 1) _ _ (by omega) ⟨i + 1, by omega, by rw [e, hx, nI_add]; show nI (_ + fe i) = nI (_ + 1 * fe i); rw [Nat.one_mul], nI_1 _⟩
    · refine ok_lt ?_
      exact hs (k - 1) _ _ (by omega) ⟨i + 1, by omega, by rw [e, hx]; show _ = nI (_ + 0 * fe i); rw [Nat.zero_mul]; rfl, nI_1 _⟩
theorem k_meetsEarlier {C j : Nat} (hN : 20 ≤ N) (hl : lnOK q fi la fe le) (h : cL μ a0 q fi la fe le) (hC : C < 256) (hj : j < q) : Ok (fX1_meetsEarlier N μ a0 (nI C) (nI j)) (fun r => r = true ↔ ∃ e, e < j ∧ C.testBit e = true ∧ fi e ≤ la j ∧ fi j ≤ la e) := by
  have hq := hl.1
  unfold fX1_meetsEarlier
  refine ok_fix1 (fun k x => ∃ i, i + k = j ∧ x = nI i ∧ ∀ e, e < i → ¬ (C.testBit e = true ∧ fi e ≤ la j ∧ fi j ≤ la e)) ?_ N j _ (by omega) ⟨0, by omega, rfl, fun e he => absurd he (Nat.not_lt_zero _)⟩
  rintro k self x ⟨i, hi, rfl, hno⟩ hs
  refine ok_le j i (f := fun hc => ?_) (g := fun hc => ?_)
  · exact ok_some ⟨fun z => (by cases z), fun z => by
      obtain ⟨e, he, hz⟩ := z
      exact absurd hz (hno e (by omega))⟩
  · refine ok_bindE (k_contains (by omega) (by omega)) ?_
    obtain ⟨i1, i2, -⟩ := hl.2.1 i (by omega)
    obtain ⟨j1, j2, -⟩ := hl.2.1 j hj
    refine ok_jn1 (fun _ : Unit => ¬ (C.testBit i = true ∧ fi i ≤ la j ∧ fi j ≤ la i)) (fun _ hz => ?_) (fun j7 hj7 => ?_)
    · refine ok_lt ?_
      refine hs (k - 1) _ (by omega) ⟨i + 1, by omega, nI_1 _, fun e he => ?_⟩
      by_cases ee : e = i
      · subst ee; exact hz
      · exact hno e (by omega)
    · refine ok_cd (fun hx => ?_) (fun hx => hj7 () (fun z => by rw [hx] at z; exact absurd z.1 (by decide)))
      refine ok_ag i rfl (by omega) (by decide) ?_
      refine ok_ag j rfl (by omega) (by decide) ?_
      rw [h.2.1 i (by omega), h.2.2.1 j hj]
      refine ok_ltI (la j) (fi i) (f := fun hz => hj7 () (fun z => by omega)) (g := fun hz => ?_)
      refine ok_ag j rfl (by omega) (by decide) ?_
      refine ok_ag i rfl (by omega) (by decide) ?_
      rw [h.2.1 j hj, h.2.2.1 i (by omega)]
      exact ok_ltI (la i) (fi j) (f := fun hz2 => hj7 () (fun z => by omega)) (g := fun hz2 => ok_some ⟨fun _ => ⟨i, hc, hx, hz, hz2⟩, fun _ => rfl⟩)
theorem k_isApart {C : Nat} (hN : 20 ≤ N) (hl : lnOK q fi la fe le) (h : cL μ a0 q fi la fe le) (hC : C < 256) : Ok (fX1_isApart N μ a0 (nI C)) (fun r => r = true ↔ ∀ i j, i < j → j < q → C.testBit i = true → C.testBit j = true → la i < fi j ∨ la j < fi i) := by
  have hq := hl.1
  unfold fX1_isApart
  refine ok_fix1 (fun k x => ∃ n, n + k = q ∧ x = nI n ∧ ∀ i j, i < j → j < n → C.testBit i = true → C.testBit j = true → la i < fi j ∨ la j < fi i) ?_ N q _ (by omega) ⟨0, by omega, rfl, fun i j _ hj => absurd hj (Nat.not_lt_zero _)⟩
  rintro k self x ⟨n, hn, rfl, hall⟩ hs
  rw [h.1]
  refine ok_le q n (f := fun hc => ?_) (g := fun hc => ?_)
  · exact ok_some ⟨fun _ i j hij hj => hall i j hij (by omega), fun _ => rfl⟩
  · refine ok_bindE (k_contains (by omega) (by omega)) ?_
    refine ok_jn1 (fun _ : Unit => C.testBit n = true → ∀ i, i < n → C.testBit i = true → la i < fi n ∨ la n < fi i) (fun _ hz => ?_) (fun j7 hj7 => ?_)
    · refine ok_lt ?_
      refine hs (k - 1) _ (by omega) ⟨n + 1, by omega, nI_1 _, fun i j hij hj h1 h2 => ?_⟩
      by_cases ee : j = n
      · subst ee; exact hz h2 i hij h1
      · exact hall i j hij (by omega) h1 h2
    · refine ok_cd (fun hx => ?_) (fun hx => hj7 () (fun z => by rw [hx] at z; cases z))
      refine ok_bind (k_meetsEarlier hN hl h hC hc) ?_
      intro r hr
      refine ok_cd (fun hy => ?_) (fun hy => ?_)
      · obtain ⟨e, he, h1, h2, h3⟩ := hr.mp hy
        refine ok_some ⟨fun z => (by cases z), fun z => ?_⟩
        have := z e n he hc h1 hx
        omega
      · refine hj7 () (fun _ i hi h1 => ?_)
        refine Classical.byContradiction fun hno => ?_
        have := hr.mpr ⟨i, hi, h1, by omega, by omega⟩
        rw [this] at hy; cases hy
theorem k_isBetter {C B : Nat} (hN : 20 ≤ N) (hl : lnOK q fi la fe le) (h : cL μ a0 q fi la fe le) (hC : C < 256) (hB : B < 256) : Ok (fX1_isBetter N μ a0 (nI C) (nI B)) (fun r => r = btC q fe C B) := by
  have f1 := fees_le hl C.testBit (Nat.le_refl q)
  have f2 := fees_le hl B.testBit (Nat.le_refl q)
  have p1 := pc_le C
  have p2 := pc_le B
  have f1 : fees q fe C.testBit ≤ 800 := f1
  have f2 : fees q fe B.testBit ≤ 800 := f2
  unfold fX1_isBetter
  refine ok_bind (k_feesOf hN hl h hC) ?_
  rintro _ rfl
  refine ok_bind (k_feesOf hN hl h hB) ?_
  rintro _ rfl
  refine ok_lt ?_
  refine ok_if (fun h0 => ?_) (fun h0 => ?_)
  · have h0 := (sub_eq0 (by omega) (by omega)).mp h0
    refine ok_bindE (k_bitCount hC) ?_
    refine ok_bindE (k_bitCount hB) ?_
    refine ok_lt ?_
    refine ok_if (fun h1 => ?_) (fun h1 => ?_)
    · have h1 := (sub_eq0 (by omega) (by omega)).mp h1
      refine ok_lt (ok_lt (ok_jn ?_))
      have e : btC q fe C B = fd C B := by unfold btC; rw [if_pos h0, if_pos h1]
      rw [e]
      unfold fd
      refine ok_if (fun h2 => ok_some ?_) (fun h2 => ok_some ?_)
      · rw [decide_eq_true h2]; rfl
      · rw [decide_eq_false h2]; rfl
    · have h1 : pc C ≠ pc B := fun z => h1 ((sub_eq0 (by omega) (by omega)).mpr z)
      refine ok_jn ?_
      have e : btC q fe C B = decide (pc C < pc B) := by unfold btC; rw [if_pos h0, if_neg h1]
      rw [e]
      refine ok_if (fun h2 => ok_some ?_) (fun h2 => ok_some ?_)
      · have := (sub_ge0 (by omega) (by omega)).mp h2
        rw [decide_eq_false (by omega)]
      · have : ¬ pc B ≤ pc C := fun z => h2 ((sub_ge0 (by omega) (by omega)).mpr z)
        rw [decide_eq_true (by omega)]
  · have h0 : fees q fe C.testBit ≠ fees q fe B.testBit := fun z => h0 ((sub_eq0 (by omega) (by omega)).mpr z)
    refine ok_jn ?_
    have e : btC q fe C B = decide (fees q fe B.testBit < fees q fe C.testBit) := by unfold btC; rw [if_neg h0]
    rw [e]
    refine ok_if (fun h2 => ok_some ?_) (fun h2 => ok_some ?_)
    · have := (sub_le0 (by omega) (by omega)).mp h2
      rw [decide_eq_false (by omega)]
    · have : ¬ fees q fe C.testBit ≤ fees q fe B.testBit := fun z => h2 ((sub_le0 (by omega) (by omega)).mpr z)
      rw [decide_eq_true (by omega)]
theorem k_bestChoice (hN : 1000 ≤ N) (hl : lnOK q fi la fe le) (h : cL μ a0 q fi la fe le) : Ok (fX1_bestChoice N μ a0) (fun r => r = nI (bsC q fi la fe le (2 ^ q - 1))) := by
  have hq := hl.1
  have h8 : 2 ^ q ≤ 2 ^ 8 := Nat.pow_le_pow_right (by decide) hq
  have h1 : 0 < 2 ^ q := Nat.two_pow_pos q
  unfold fX1_bestChoice
  refine ok_bind (k_hinderedLoans (by omega) hl h) ?_
  rintro _ ⟨H, hH, rfl, hHb⟩
  refine ok_fix2 (fun k x y => ∃ m, m + k = 2 ^ q - 1 ∧ x = nI (bsC q fi la fe le m) ∧ y = nI (m + 1)) ?_ N (2 ^ q - 1) _ _ (by omega) ⟨0, by omega, rfl, rfl⟩
  rintro k self x y ⟨m, hm, rfl, rfl⟩ hs
  have hbs := bsC_le (q := q) (fi := fi) (la := la) (fe := fe) (le := le) m
  rw [h.1, shl1 (by omega)]
  refine ok_le (2 ^ q) (m + 1) (f := fun hc => ?_) (g := fun hc => ?_)
  · exact ok_some (by rw [show m = 2 ^ q - 1 by omega])
  · refine ok_jn1 (fun v : Int32 => v = nI (bsC q fi la fe le (m + 1))) (fun v hv => ?_) (fun j8 hj8 => ?_)
    · refine ok_lt ?_
      exact hs (k - 1) _ _ (by omega) ⟨m + 1, by omega, hv, nI_1 _⟩
    · have ebs : bsC q fi la fe le (m + 1) = @ite Nat (okC q fi la le (m + 1).testBit ∧ btC q fe (m + 1) (bsC q fi la fe le m) = true) (Classical.propDecidable _) (m + 1) (bsC q fi la fe le m) := rfl
      have hno : ¬ (okC q fi la le (m + 1).testBit ∧ btC q fe (m + 1) (bsC q fi la fe le m) = true) → Ok (j8 (nI (bsC q fi la fe le m))) (fun r => r = nI (bsC q fi la fe le (2 ^ q - 1))) := fun hn => hj8 _ (by rw [ebs, if_neg hn])
      rw [and2 (by omega) (by omega)]
      have hHz : (m + 1 &&& H = 0) ↔ ∀ i, i < q → (m + 1).testBit i = true → freeL fi la le i := by
        constructor
        · intro e i hi hb
          refine Classical.byContradiction fun hnf => ?_
          have : ((m + 1) &&& H).testBit i = true := by rw [Nat.testBit_and, hb, (hHb i).mpr ⟨hi, hnf⟩]; rfl
          rw [e, Nat.zero_testBit] at this; cases this
        · intro hf
          apply Nat.eq_of_testBit_eq
          intro i
          rw [Nat.zero_testBit, Nat.testBit_and]
          cases h2 : H.testBit i
          · rw [Bool.and_false]
          · obtain ⟨h3, h4⟩ := (hHb i).mp h2
            cases h5 : (m + 1).testBit i
            · rfl
            · exact absurd (hf i h3 h5) h4
      have hand : (m + 1) &&& H < 2 ^ 31 := Nat.lt_of_le_of_lt Nat.and_le_left (by omega)
      refine ok_eqI ((m + 1) &&& H) 0 (ha := hand) (f := fun he => ?_) (g := fun he => ?_)
      · refine ok_bind (k_isApart (by omega) hl h (show m + 1 < 256 by omega)) ?_
        intro r hr
        refine ok_cd (fun hx => ?_) (fun hx => ?_)
        · have hok : okC q fi la le (m + 1).testBit := ⟨hHz.mp he, hr.mp hx⟩
          refine ok_bind (k_isBetter (by omega) hl h (show m + 1 < 256 by omega) (show bsC q fi la fe le m < 256 by omega)) ?_
          rintro _ rfl
          refine ok_cd (fun hb => ?_) (fun hb => ?_)
          · exact hj8 _ (by rw [ebs, if_pos ⟨hok, hb⟩])
          · exact hno (fun z => by rw [z.2] at hb; cases hb)
        · exact hno (fun z => by rw [hr.mpr z.1.2] at hx; cases hx)
      · exact hno (fun z => he (hHz.mpr z.1.1))
end LC
