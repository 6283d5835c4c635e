/-! Pure layer, 19: the reference's loans. -/
theorem sm_le1 {f : Nat → Nat} : ∀ n, (∀ i, i < n → f i ≤ 1) → (∀ i j, i < j → j < n → ¬ (f i = 1 ∧ f j = 1)) → sm n f ≤ 1
  | 0, _, _ => Nat.zero_le _
  | n + 1, h1, h2 => by
    have ih := sm_le1 n (fun i hi => h1 i (by omega)) (fun i j hij hj => h2 i j hij (by omega))
    show sm n f + f n ≤ 1
    have hn := h1 n (by omega)
    by_cases e : f n = 1
    · have hz : sm n f = 0 := by
        rw [sm_cg n (g := fun _ => 0) (fun i hi => by
          have a1 := h1 i (by omega)
          have a2 := h2 i n hi (by omega)
          refine Classical.byContradiction fun z => a2 ⟨?_, e⟩
          omega), sm_z]
      omega
    · omega
def cvr (C : Nat) (fi la : Nat → Nat) (d k : Nat) : Bool := C.testBit k && (decide (fi k ≤ d) && decide (d ≤ la k))
def cov (q C : Nat) (fi la : Nat → Nat) (d : Nat) : Nat := sm q (fun k => (cvr C fi la d k).toNat)
theorem cvr_iff {C d k : Nat} {fi la : Nat → Nat} : cvr C fi la d k = true ↔ C.testBit k = true ∧ fi k ≤ d ∧ d ≤ la k := by
  unfold cvr
  rw [Bool.and_eq_true, Bool.and_eq_true, decide_eq_true_iff, decide_eq_true_iff]
theorem choice_iff {q C : Nat} {fi la fe le : Nat → Nat} (hl : lnOK q fi la fe le) : okC q fi la le C.testBit ↔ ∀ d, d < 100 → cov q C fi la d = 0 ∨ (decide (0 < le d)).toNat + cov q C fi la d ≤ 1 := by
  constructor
  · intro h d hd
    by_cases h0 : cov q C fi la d = 0
    · exact Or.inl h0
    · right
      have hex : ∃ k, k < q ∧ cvr C fi la d k = true := by
        refine Classical.byContradiction fun hno => h0 ?_
        unfold cov
        rw [sm_cg q (g := fun _ => 0) (fun k hk => by
          cases hc : cvr C fi la d k
          · rfl
          · exact absurd ⟨k, hk, hc⟩ hno), sm_z]
      obtain ⟨k, hk, hc⟩ := hex
      obtain ⟨c1, c2, c3⟩ := cvr_iff.mp hc
      have hz := h.1 k hk c1 d c2 c3
      rw [hz, decide_eq_false (Nat.lt_irrefl 0)]
      show 0 + cov q C fi la d ≤ 1
      rw [Nat.zero_add]
      refine sm_le1 q (fun i _ => toNat_le1 _) (fun i j hij hj hb => ?_)
      have b1 : cvr C fi la d i = true := by
        cases hx : cvr C fi la d i
        · rw [hx] at hb; exact absurd hb.1 (by decide)
        · rfl
      have b2 : cvr C fi la d j = true := by
        cases hx : cvr C fi la d j
        · rw [hx] at hb; exact absurd hb.2 (by decide)
        · rfl
      obtain ⟨p1, p2, p3⟩ := cvr_iff.mp b1
      obtain ⟨q1, q2, q3⟩ := cvr_iff.mp b2
      have := h.2 i j hij hj p1 q1
      omega
  · intro h
    refine ⟨fun i hi hb d h1 h2 => ?_, fun i j hij hj hbi hbj => ?_⟩
    · obtain ⟨-, l2, -⟩ := hl.2.1 i hi
      have hm := sm_mem (f := fun k => (cvr C fi la d k).toNat) (k := i) q hi
      have hc : cvr C fi la d i = true := cvr_iff.mpr ⟨hb, h1, h2⟩
      simp only [hc] at hm
      have e1 : true.toNat = 1 := rfl
      have hd := h d (by omega)
      refine Classical.byContradiction fun hne => ?_
      rw [decide_eq_true (show 0 < le d by omega)] at hd
      have hm2 : 1 ≤ cov q C fi la d := hm
      omega
    · obtain ⟨i1, i2, -⟩ := hl.2.1 i (by omega)
      obtain ⟨j1, j2, -⟩ := hl.2.1 j hj
      refine Classical.byContradiction fun hno => ?_
      have hd := h (max (fi i) (fi j)) (by omega)
      have hm := sm_two (f := fun k => (cvr C fi la (max (fi i) (fi j)) k).toNat) (i := i) (j := j) q hij hj
      have c1 : cvr C fi la (max (fi i) (fi j)) i = true := cvr_iff.mpr ⟨hbi, by omega, by omega⟩
      have c2 : cvr C fi la (max (fi i) (fi j)) j = true := cvr_iff.mpr ⟨hbj, by omega, by omega⟩
      simp only [c1, c2] at hm
      have e1 : true.toNat = 1 := rfl
      have hm2 : 1 + 1 ≤ cov q C fi la (max (fi i) (fi j)) := hm
      omega
/-- an exhibit of the reference has these loans -/
def mL (μ : Mem) (a0 e q : Nat) (fi la fe le : Nat → Nat) : Prop := μ (a0 + 1) (82 + 147 * e + 5) = nI q ∧ (∀ k, k < q → μ (a0 + 1) (82 + 147 * e + (23 + 3 * k + 0)) = nI (fi k) ∧ μ (a0 + 1) (82 + 147 * e + (23 + 3 * k + 1)) = nI (la k) ∧ μ (a0 + 1) (82 + 147 * e + (23 + 3 * k + 2)) = nI (fe k)) ∧ ∀ d, d < 100 → μ (a0 + 1) (82 + 147 * e + (47 + d)) = nI (le d)
section LM
variable {N : Nat} {μ : Mem} {a0 e q : Nat} {fi la fe le : Nat → Nat}
theorem m_loan {x y z : Int32} (k w : Nat) (he : e < 5) (hk : k < 8) (hw : w < 3) (hx : x = nI e) (hy : y = nI k) (hz : z = nI w) : fX11_loan N μ a0 x y z = some (μ (a0 + 1) (82 + 147 * e + (23 + 3 * k + w))) := by
  unfold fX11_loan
  rw [m_of e (23 + 3 * k + w) he (by omega) hx (by
    rw [hy, hz, show (23 : Int32) = nI 23 from rfl, show (3 : Int32) = nI 3 from rfl, pk_mul, nI_add, nI_add])]
  rfl
theorem k_lent {x : Int32} (he : e < 5) (hle : ∀ d, d < 100 → le d ≤ 100) (h : ∀ d, d < 100 → μ (a0 + 1) (82 + 147 * e + (47 + d)) = nI (le d)) : Ok (fX11_lent N μ a0 (nI e) x) (fun r => r = true ↔ ∃ d, d < 100 ∧ x = nI d ∧ 0 < le d) := by
  unfold fX11_lent
  refine ok_bind k_in ?_
  rintro _ rfl
  refine ok_jn ?_
  refine ok_jn1 (fun _ : Unit => ¬ ∃ d, d < 100 ∧ x = nI d ∧ 0 < le d) (fun _ hz => ok_some ⟨fun z => (by cases z), fun z => absurd z hz⟩) (fun j7 hj => ?_)
  refine ok_cd (fun hc => ?_) (fun hc => ?_)
  · obtain ⟨h1, h2⟩ := of_decide_eq_true hc
    obtain ⟨d, hd, rfl⟩ : ∃ d, d < 100 ∧ x = nI d := by
      rcases pk_ix x (show 100 < 2 ^ 31 by decide) with h3 | h3 | h3
      · have a1 := Int32.lt_iff_toInt_lt.mp h3
        have a2 := Int32.le_iff_toInt_le.mp h1
        omega
      · have a1 := Int32.le_iff_toInt_le.mp h3
        have a2 := Int32.le_iff_toInt_le.mp h2
        have e1 : (nI 100).toInt = 100 := rfl
        have e2 : (99 : Int32).toInt = 99 := rfl
        omega
      · exact h3
    refine ok_bindE (m_of e (47 + d) he (by omega) rfl (nI_add 47 d)) ?_
    rw [h d hd]
    have := hle d hd
    refine ok_le (le d) 0 (f := fun hz => hj () (fun z => ?_)) (g := fun hz => ok_some ⟨fun _ => ⟨d, hd, rfl, hz⟩, fun _ => rfl⟩)
    obtain ⟨d', hd', e1, h3⟩ := z
    have := (nI_eq (a := d) (b := d') (by omega) (by omega)).mp e1
    subst this
    omega
  · refine hj () (fun z => ?_)
    obtain ⟨d, hd, rfl, -⟩ := z
    refine of_decide_eq_false hc ⟨nI_pos' (by omega), nI_le (show d ≤ 99 by omega) (by decide)⟩
theorem in_nI {a b c : Nat} (ha : a < 2 ^ 31) (hb : b < 2 ^ 31) (hc : c < 2 ^ 31) : decide (nI b ≤ nI a ∧ nI a ≤ nI c) = (decide (b ≤ a) && decide (a ≤ c)) := by
  rw [← Bool.decide_and]
  exact decide_eq_decide.mpr (and_congr (nI_leI hb ha) (nI_leI ha hc))
theorem k_isChoice {C : Nat} (hN : 200 ≤ N) (he : e < 5) (hl : lnOK q fi la fe le) (h : mL μ a0 e q fi la fe le) (hC : C < 256) : Ok (fX11_isChoice N μ a0 (nI e) (nI C)) (fun r => r = true ↔ okC q fi la le C.testBit) := by
  have hq := hl.1
  unfold fX11_isChoice
  refine ok_fix1 (fun k x => ∃ d, d + k = 100 ∧ x = nI d ∧ ∀ j, j < d → cov q C fi la j = 0 ∨ (decide (0 < le j)).toNat + cov q C fi la j ≤ 1) ?_ N 100 _ (by omega) ⟨0, rfl, rfl, fun j hj => absurd hj (Nat.not_lt_zero _)⟩
  rintro k self x ⟨d, hd, rfl, hall⟩ hs
  refine ok_le 100 d (f := fun hc => ?_) (g := fun hc => ?_)
  · exact ok_some ⟨fun _ => (choice_iff hl).mpr (fun j hj => hall j (by omega)), fun _ => rfl⟩
  · refine ok_bind (k_lent he hl.2.2 h.2.2) ?_
    intro r hr
    have hr2 : r = decide (0 < le d) := by
      cases hb : r
      · refine (decide_eq_false fun z => ?_).symm
        have := hr.mpr ⟨d, hc, rfl, z⟩
        rw [hb] at this; cases this
      · obtain ⟨d', hd', e1, h3⟩ := hr.mp hb
        have := (nI_eq (a := d) (b := d') (by omega) (by omega)).mp e1
        subst this
        exact (decide_eq_true h3).symm
    refine ok_jn1 (fun y : Bool => y = decide (0 < le d)) (fun y hy => ?_) (fun j7 hj7 => ?_)
    · have hcl : ∀ i, i ≤ q → sm i (fun k => (cvr C fi la d k).toNat) ≤ i := fun i hi => by
        have := sm_b (c := 1) i (fun k _ => toNat_le1 (cvr C fi la d k))
        omega
      refine ok_fix2 (fun k2 x10 x11 => ∃ i, i + k2 = q ∧ x10 = nI (sm i (fun k => (cvr C fi la d k).toNat)) ∧ x11 = nI i) ?_ N q _ _ (by omega) ⟨0, by omega, rfl, rfl⟩
      rintro k2 self2 x10 x11 ⟨i, hi, rfl, rfl⟩ hs2
      have hci := hcl i (by omega)
      refine ok_bindE (m_of e 5 he (by decide) rfl rfl) ?_
      rw [h.1]
      refine ok_le q i (f := fun hz => ?_) (g := fun hz => ?_)
      · have : i = q := by omega
        subst this
        refine ok_jn1 (fun _ : Unit => cov i C fi la d = 0 ∨ (decide (0 < le d)).toNat + cov i C fi la d ≤ 1) (fun _ hz => ?_) (fun j17 hj17 => ?_)
        · refine ok_lt ?_
          refine hs (k - 1) _ (by omega) ⟨d + 1, by omega, nI_1 _, fun j hj => ?_⟩
          by_cases ej : j = d
          · subst ej; exact hz
          · exact hall j (by omega)
        · refine ok_le (sm i (fun k => (cvr C fi la d k).toNat)) 0 (f := fun hz => hj17 () (Or.inl (by show sm i _ = 0; omega))) (g := fun hz => ?_)
          subst hy
          rw [b2i_nI, nI_add]
          have := toNat_le1 (decide (0 < le d))
          refine ok_le ((decide (0 < le d)).toNat + sm i (fun k => (cvr C fi la d k).toNat)) 1 (f := fun hz2 => hj17 () (Or.inr hz2)) (g := fun hz2 => ?_)
          refine ok_some ⟨fun z => (by cases z), fun z => ?_⟩
          have hcd := (choice_iff hl).mp z d hc
          have e1 : cov i C fi la d = sm i (fun k => (cvr C fi la d k).toNat) := rfl
          omega
      · have e1 : sm (i + 1) (fun k => (cvr C fi la d k).toNat) = sm i (fun k => (cvr C fi la d k).toNat) + (cvr C fi la d i).toNat := rfl
        refine ok_jn1 (fun y : Bool => y = cvr C fi la d i) (fun y hy => ?_) (fun j25 hj25 => ?_)
        · subst hy
          refine ok_lt (ok_lt ?_)
          exact hs2 (k2 - 1) _ _ (by omega) ⟨i + 1, by omega, by rw [b2i_nI, nI_add, e1], nI_1 _⟩
        · refine ok_jn1 (fun _ : Unit => cvr C fi la d i = false) (fun _ hz => hj25 false hz.symm) (fun j33 hj33 => ?_)
          refine ok_if (fun hb => ?_) (fun hb => ?_)
          · have hb := (bitI1 (by omega) (by omega)).mp hb
            obtain ⟨l1, l2, -⟩ := h.2.1 i hz
            obtain ⟨q1, q2, -⟩ := hl.2.1 i hz
            refine ok_bindE (m_loan i 0 he (by omega) (by decide) rfl rfl rfl) ?_
            refine ok_bindE (m_loan i 1 he (by omega) (by decide) rfl rfl rfl) ?_
            rw [l1, l2]
            refine ok_bind k_in ?_
            rintro _ rfl
            rw [in_nI (by omega) (by omega) (by omega)]
            have ec : cvr C fi la d i = (decide (fi i ≤ d) && decide (d ≤ la i)) := by unfold cvr; rw [hb, Bool.true_and]
            refine ok_cd (fun hx => ?_) (fun hx => ?_)
            · exact hj25 true (by rw [ec, hx])
            · exact hj33 () (by rw [ec, hx])
          · refine hj33 () ?_
            unfold cvr
            cases hbb : C.testBit i
            · rfl
            · exact absurd ((bitI1 (by omega) (by omega)).mpr hbb) hb
    · refine ok_cd (fun hx => hj7 true (by rw [← hr2, hx])) (fun hx => hj7 false (by rw [← hr2, hx]))
theorem k_feesM {C : Nat} (hN : 20 ≤ N) (he : e < 5) (hl : lnOK q fi la fe le) (h : mL μ a0 e q fi la fe le) (hC : C < 256) : Ok (fX11_fees N μ a0 (nI e) (nI C)) (fun r => r = nI (fees q fe C.testBit)) := by
  have hq := hl.1
  unfold fX11_fees
  refine ok_fix2 (fun k x y => ∃ i, i + k = q ∧ x = nI (sm i (fun k => (C.testBit k).toNat * fe k)) ∧ y = nI i) ?_ N q _ _ (by omega) ⟨0, by omega, rfl, rfl⟩
  rintro k self x y ⟨i, hi, rfl, rfl⟩ hs
  refine ok_bindE (m_of e 5 he (by decide) rfl rfl) ?_
  rw [h.1]
  refine ok_le q i (f := fun hc => ?_) (g := fun hc => ?_)
  · have : i = q := by omega
    subst this
    exact ok_some rfl
  · have e1 : sm (i + 1) (fun k => (C.testBit k).toNat * fe k) = sm i (fun k => (C.testBit k).toNat * fe k) + (C.testBit i).toNat * fe i := rfl
    refine ok_jn1 (fun v : Int32 => v = nI ((C.testBit i).toNat * fe i)) (fun v hv => ?_) (fun j8 hj8 => ?_)
    · subst hv
      refine ok_lt (ok_lt ?_)
      exact hs (k - 1) _ _ (by omega) ⟨i + 1, by omega, by rw [nI_add, e1], nI_1 _⟩
    · refine ok_if (fun hb => ?_) (fun hb => ?_)
      · have hb := (bitI1 (by omega) (by omega)).mp hb
        refine ok_bindE (m_loan i 2 he (by omega) (by decide) rfl rfl rfl) ?_
        rw [(h.2.1 i hc).2.2]
        exact hj8 _ (by rw [hb]; show nI (fe i) = nI (1 * fe i); rw [Nat.one_mul])
      · have hb : C.testBit i = false := by
          cases hbb : C.testBit i
          · rfl
          · exact absurd ((bitI1 (by omega) (by omega)).mpr hbb) hb
        exact hj8 _ (by rw [hb]; show (0 : Int32) = nI (0 * fe i); rw [Nat.zero_mul]; rfl)
theorem k_bits {C : Nat} (hN : 20 ≤ N) (hC : C < 256) : Ok (fX11_bits N μ (nI C)) (fun r => r = nI (pc C)) := by
  unfold fX11_bits
  refine ok_fix2 (fun k x y => ∃ i, i + k = 8 ∧ x = nI (sm i (fun i => (C.testBit i).toNat)) ∧ y = nI (C / 2 ^ i)) ?_ N 8 _ _ (by omega) ⟨0, rfl, rfl, by rw [Nat.pow_zero, Nat.div_one]⟩
  rintro k self x y ⟨i, hi, rfl, rfl⟩ hs
  have hd := Nat.div_le_self C (2 ^ i)
  refine ok_le (C / 2 ^ i) 0 (f := fun hc => ?_) (g := fun hc => ?_)
  · have h2 : C < 2 ^ i := by
      refine Classical.byContradiction fun hno => ?_
      have := Nat.div_pos (Nat.not_lt.mp hno) (Nat.two_pow_pos i)
      omega
    exact ok_some (by rw [pc_q (by omega) h2])
  · refine ok_lt (ok_lt ?_)
    have e1 : sm (i + 1) (fun i => (C.testBit i).toNat) = sm i (fun i => (C.testBit i).toNat) + (C.testBit i).toNat := rfl
    have e2 : nI (C / 2 ^ i) &&& 1 = nI (C.testBit i).toNat := by
      rw [pk_andN (by omega) 1 (by decide), Nat.testBit_eq_decide_div_mod_eq]
      refine congrArg nI ?_
      rcases Nat.mod_two_eq_zero_or_one (C / 2 ^ i) with h | h
      · rw [show (2 : Nat) ^ 1 = 2 from rfl, h]; rfl
      · rw [show (2 : Nat) ^ 1 = 2 from rfl, h]; rfl
    have e3 : nI (C / 2 ^ i) >>> ((1 : Int32) &&& 31) = nI (C / 2 ^ (i + 1)) := by
      rw [pk_shrN (by omega) _ 1 (by decide), Nat.div_div_eq_div_mul]; rfl
    rw [e2, e3, nI_add]
    have hlt : i < 8 := by
      refine Classical.byContradiction fun hno => ?_
      have : i = 8 := by omega
      subst this
      have : C / 2 ^ 8 = 0 := Nat.div_eq_of_lt (by omega)
      omega
    exact hs (k - 1) _ _ (by omega) ⟨i + 1, by omega, by rw [e1], rfl⟩
theorem k_best (hN : 1000 ≤ N) (he : e < 5) (hl : lnOK q fi la fe le) (h : mL μ a0 e q fi la fe le) : Ok (fX11_best N μ a0 (nI e)) (fun r => r = nI (bsC q fi la fe le (2 ^ q - 1))) := by
  have hq := hl.1
  have h8 : 2 ^ q ≤ 2 ^ 8 := Nat.pow_le_pow_right (by decide) hq
  have h1 : 0 < 2 ^ q := Nat.two_pow_pos q
  unfold fX11_best
  refine ok_fix2 (fun k x y => ∃ m, m + k = 2 ^ q - 1 ∧ x = nI (bsC q fi la fe le m) ∧ y = nI (m + 1)) ?_ N (2 ^ q - 1) _ _ (by omega) ⟨0, by omega, rfl, rfl⟩
  rintro k self x y ⟨m, hm, rfl, rfl⟩ hs
  have hbs := bsC_le (q := q) (fi := fi) (la := la) (fe := fe) (le := le) m
  refine ok_bindE (m_of e 5 he (by decide) rfl rfl) ?_
  rw [h.1, shl1 (by omega)]
  refine ok_le (2 ^ q) (m + 1) (f := fun hc => ?_) (g := fun hc => ?_)
  · exact ok_some (by rw [show m = 2 ^ q - 1 by omega])
  · have ebs : bsC q fi la fe le (m + 1) = @ite Nat (okC q fi la le (m + 1).testBit ∧ btC q fe (m + 1) (bsC q fi la fe le m) = true) (Classical.propDecidable _) (m + 1) (bsC q fi la fe le m) := rfl
    have hm1 : m + 1 < 256 := by omega
    have hb1 : bsC q fi la fe le m < 256 := by omega
    refine ok_bind (k_isChoice (by omega) he hl h hm1) ?_
    intro r hr
    refine ok_jn1 (fun v : Int32 => v = nI (bsC q fi la fe le (m + 1))) (fun v hv => ?_) (fun j9 hj9 => ?_)
    · refine ok_lt ?_
      exact hs (k - 1) _ _ (by omega) ⟨m + 1, by omega, hv, nI_1 _⟩
    · refine ok_cd (fun hx => ?_) (fun hx => ?_)
      · have hok := hr.mp hx
        have f1 : fees q fe (m + 1).testBit ≤ 800 := fees_le hl _ (Nat.le_refl q)
        have f2 : fees q fe (bsC q fi la fe le m).testBit ≤ 800 := fees_le hl _ (Nat.le_refl q)
        have p1 := pc_le (m + 1)
        have p2 := pc_le (bsC q fi la fe le m)
        have hyes : btC q fe (m + 1) (bsC q fi la fe le m) = true → Ok (j9 (nI (m + 1))) (fun r => r = nI (bsC q fi la fe le (2 ^ q - 1))) := fun hb => hj9 _ (by rw [ebs, if_pos ⟨hok, hb⟩])
        have hno : btC q fe (m + 1) (bsC q fi la fe le m) = false → Ok (j9 (nI (bsC q fi la fe le m))) (fun r => r = nI (bsC q fi la fe le (2 ^ q - 1))) := fun hb => hj9 _ (by rw [ebs, if_neg (fun z => by rw [z.2] at hb; cases hb)])
        refine ok_bind (k_feesM (by omega) he hl h hm1) ?_
        rintro _ rfl
        refine ok_bind (k_feesM (by omega) he hl h hb1) ?_
        rintro _ rfl
        refine ok_lt ?_
        refine ok_jn1 (fun v : Int32 => (0 < v ∨ (v = 0 ∧ fd (m + 1) (bsC q fi la fe le m) = true)) ↔ btC q fe (m + 1) (bsC q fi la fe le m) = true) (fun v hv => ?_) (fun j20 hj20 => ?_)
        · refine ok_lt ?_
          refine ok_jn1 (fun y : Bool => y = fd (m + 1) (bsC q fi la fe le m)) (fun y hy => ?_) (fun j26 hj26 => ?_)
          · refine ok_jn1 (fun w : Int32 => w = nI (bsC q fi la fe le (m + 1))) (fun w hw => hj9 w hw) (fun j30 hj30 => ?_)
            have ey : btC q fe (m + 1) (bsC q fi la fe le m) = true → bsC q fi la fe le (m + 1) = m + 1 := fun hb => by rw [ebs, if_pos ⟨hok, hb⟩]
            have en : ¬ btC q fe (m + 1) (bsC q fi la fe le m) = true → bsC q fi la fe le (m + 1) = bsC q fi la fe le m := fun hb => by rw [ebs, if_neg (fun z => hb z.2)]
            refine ok_jn1 (fun _ : Unit => btC q fe (m + 1) (bsC q fi la fe le m) = true) (fun _ hz => hj30 _ (by rw [ey hz])) (fun j34 hj34 => ?_)
            refine ok_if (fun h0 => hj34 () (hv.mp (Or.inl h0))) (fun h0 => ?_)
            refine ok_jn1 (fun _ : Unit => ¬ btC q fe (m + 1) (bsC q fi la fe le m) = true) (fun _ hz => hj30 _ (by rw [en hz])) (fun j39 hj39 => ?_)
            refine ok_if (fun hz => ?_) (fun hz => hj39 () (fun z => ?_))
            · refine ok_cd (fun hyy => hj34 () (hv.mp (Or.inr ⟨hz, by rw [← hy, hyy]⟩))) (fun hyy => hj39 () (fun z => ?_))
              rcases hv.mpr z with h2 | h2
              · exact h0 h2
              · rw [hy, h2.2] at hyy; cases hyy
            · rcases hv.mpr z with h2 | h2
              · exact h0 h2
              · exact hz h2.1
          · have ef : fd (m + 1) (bsC q fi la fe le m) = !decide (((nI (m + 1) ^^^ nI (bsC q fi la fe le m)) &&& -(nI (m + 1) ^^^ nI (bsC q fi la fe le m))) &&& nI (m + 1) = 0) := by
              unfold fd; rw [Int32.and_comm]
            refine ok_if (fun h2 => hj26 _ ?_) (fun h2 => hj26 _ ?_)
            · rw [ef, decide_eq_true h2]; rfl
            · rw [ef, decide_eq_false h2]; rfl
        · refine ok_if (fun h0 => ?_) (fun h0 => ?_)
          · have h0 := (sub_eq0 (by omega) (by omega)).mp h0
            refine ok_bind (k_bits (by omega) hb1) ?_
            rintro _ rfl
            refine ok_bind (k_bits (by omega) hm1) ?_
            rintro _ rfl
            refine hj20 _ ?_
            rw [sub_gt0 (by omega) (by omega), sub_eq0 (by omega) (by omega)]
            unfold btC
            rw [if_pos h0]
            by_cases hp : pc (m + 1) = pc (bsC q fi la fe le m)
            · rw [if_pos hp]
              exact ⟨fun z => by rcases z with z | z; omega; exact z.2, fun z => Or.inr ⟨hp.symm, z⟩⟩
            · rw [if_neg hp, decide_eq_true_iff]
              exact ⟨fun z => by rcases z with z | z; exact z; exact absurd z.1.symm hp, fun z => Or.inl z⟩
          · have h0' : fees q fe (m + 1).testBit ≠ fees q fe (bsC q fi la fe le m).testBit := fun z => h0 ((sub_eq0 (by omega) (by omega)).mpr z)
            refine hj20 _ ?_
            rw [sub_gt0 (by omega) (by omega), sub_eq0 (by omega) (by omega)]
            unfold btC
            rw [if_neg h0', decide_eq_true_iff]
            exact ⟨fun z => by rcases z with z | z; exact z; exact absurd z.1 h0', fun z => Or.inl z⟩
      · exact hj9 _ (by rw [ebs, if_neg (fun z => by rw [hr.mpr z.1] at hx; cases hx)])
end LM
