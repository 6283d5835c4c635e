/-! Pure layer, 5: the class's piles: rounds, drops, burning, toppling once each, slopes. -/
theorem nar_bool (b : Bool) : vp_nar .boolean (b2i b) = nI b.toNat := by cases b <;> rfl
theorem b2i_nI (b : Bool) : b2i b = nI b.toNat := by cases b <;> rfl
theorem toNat_le1 (b : Bool) : b.toNat ≤ 1 := by cases b <;> decide
def mx : Nat → (Nat → Nat) → Nat
  | 0, _ => 0
  | n + 1, f => max (mx n f) (f n)
theorem mx_cg {f g : Nat → Nat} : ∀ n, (∀ a, a < n → f a = g a) → mx n f = mx n g
  | 0, _ => rfl
  | n + 1, h => by
    show max (mx n f) (f n) = max (mx n g) (g n)
    rw [mx_cg n (fun a ha => h a (by omega)), h n (by omega)]
theorem mx_le {f : Nat → Nat} {c : Nat} : ∀ n, (∀ a, a < n → f a ≤ c) → mx n f ≤ c
  | 0, _ => Nat.zero_le _
  | n + 1, h => Nat.max_le.mpr ⟨mx_le n (fun a ha => h a (by omega)), h n (by omega)⟩
theorem le_mx {f : Nat → Nat} {k : Nat} : ∀ n, k < n → f k ≤ mx n f
  | 0, h => absurd h (Nat.not_lt_zero _)
  | n + 1, h => by
    show f k ≤ max (mx n f) (f n)
    by_cases e : k = n
    · subst e; exact Nat.le_max_right _ _
    · exact Nat.le_trans (le_mx n (by omega)) (Nat.le_max_left _ _)
/-- sums and greatest values over the first d neighbours -/
def cl (nb : Nat → Nat → Nat) (f : Nat → Nat) (a : Nat) : Nat → Nat
  | 0 => 0
  | d + 1 => cl nb f a d + if nb a d = 16 then 0 else f (nb a d)
def ml (nb : Nat → Nat → Nat) (f : Nat → Nat) (a : Nat) : Nat → Nat
  | 0 => 0
  | d + 1 => max (ml nb f a d) (if nb a d = 16 then 0 else f (nb a d))
theorem cl_sum {nb : Nat → Nat → Nat} (h : nbOK nb) {f : Nat → Nat} {a : Nat} (ha : a < 16) : ∀ d, d ≤ 4 → cl nb f a d = sm 16 (fun b => cn nb a d b * f b)
  | 0, _ => by
    show 0 = sm 16 (fun b => 0 * f b)
    rw [sm_cg 16 (g := fun _ => 0) (fun b _ => Nat.zero_mul _), sm_z]
  | d + 1, hd => by
    have ih := cl_sum h (f := f) ha d (by omega)
    have e : sm 16 (fun b => cn nb a (d + 1) b * f b) = sm 16 (fun b => cn nb a d b * f b) + sm 16 (fun b => (if nb a d = b then 1 else 0) * f b) := by
      rw [← sm_add]; exact sm_cg 16 (fun b _ => Nat.add_mul _ _ _)
    show cl nb f a d + (if nb a d = 16 then 0 else f (nb a d)) = _
    rw [e, ih]
    congr 1
    by_cases h16 : nb a d = 16
    · rw [if_pos h16, sm_cg 16 (g := fun _ => 0) (fun b hb => by rw [if_neg (by omega), Nat.zero_mul]), sm_z]
    · have hlt : nb a d < 16 := by have := h.1 a ha d (by omega); omega
      rw [if_neg h16, sm_sgl (k := nb a d) 16 hlt (fun b _ hn => by rw [if_neg (fun z => hn z.symm), Nat.zero_mul]), if_pos rfl, Nat.one_mul]
theorem clC {f : Nat → Nat} {a : Nat} (ha : a < 16) : cl nbC f a 4 = sm 16 (fun b => adj b a * f b) := by
  rw [cl_sum nbC_ok ha 4 (Nat.le_refl _)]
  exact sm_cg 16 (fun b hb => by rw [cnC a ha b hb, adj_sym a ha b hb])
theorem clM {f : Nat → Nat} {a : Nat} (ha : a < 16) : cl nbM f a 4 = sm 16 (fun b => adj b a * f b) := by
  rw [cl_sum nbM_ok ha 4 (Nat.le_refl _)]
  exact sm_cg 16 (fun b hb => by rw [cnM a ha b hb, adj_sym a ha b hb])
def mxn (f : Nat → Nat) (a : Nat) : Nat := mx 16 (fun b => if adj a b = 1 then f b else 0)
theorem ml_mono {nb : Nat → Nat → Nat} {f : Nat → Nat} {a d : Nat} (e : Nat) (h : d < e) : (if nb a d = 16 then 0 else f (nb a d)) ≤ ml nb f a e := by
  induction e with
  | zero => omega
  | succ e ih =>
    show _ ≤ max (ml nb f a e) (if nb a e = 16 then 0 else f (nb a e))
    by_cases hd : d = e
    · subst hd; exact Nat.le_max_right _ _
    · exact Nat.le_trans (ih (by omega)) (Nat.le_max_left _ _)
theorem ml_le {nb : Nat → Nat → Nat} {f : Nat → Nat} {a c : Nat} : ∀ d, (∀ e, e < d → (if nb a e = 16 then 0 else f (nb a e)) ≤ c) → ml nb f a d ≤ c
  | 0, _ => Nat.zero_le _
  | d + 1, h => Nat.max_le.mpr ⟨ml_le d (fun e he => h e (by omega)), h d (by omega)⟩
theorem ml_mxn {nb : Nat → Nat → Nat} (h : nbOK nb) {f : Nat → Nat} {a : Nat} (ha : a < 16) : ml nb f a 4 = mxn f a := by
  apply Nat.le_antisymm
  · refine ml_le 4 (fun d hd => ?_)
    have h1 := h.1 a ha d hd
    by_cases e : nb a d = 16
    · rw [if_pos e]; exact Nat.zero_le _
    · rw [if_neg e]
      have h2 := h.2.1 a ha d hd e
      have := le_mx (f := fun b => if adj a b = 1 then f b else 0) (k := nb a d) 16 (by omega)
      simp only [if_pos h2] at this
      exact this
  · refine mx_le 16 (fun b hb => ?_)
    by_cases e : adj a b = 1
    · rw [if_pos e]
      have hn : ∀ d, d < 4 → nb a d = b → f b ≤ ml nb f a 4 := fun d hd hb2 => by
        have := ml_mono (nb := nb) (f := f) (a := a) (d := d) 4 hd
        rw [hb2, if_neg (by omega)] at this
        exact this
      rcases h.2.2 a ha b hb e with h1 | h1 | h1 | h1
      · exact hn 0 (by omega) h1
      · exact hn 1 (by omega) h1
      · exact hn 2 (by omega) h1
      · exact hn 3 (by omega) h1
    · rw [if_neg e]; exact Nat.zero_le _
/-- the length of the longest slope from a place -/
def sl (p : Nat → Nat) : Nat → Nat → Nat
  | 0, _ => 0
  | n + 1, a => mxn (fun b => if p b < p a then sl p n b else 0) a + 1
def slo (p : Nat → Nat) (a : Nat) : Nat := sl p (p a + 1) a
theorem mxn_cg {f g : Nat → Nat} {a : Nat} (h : ∀ b, b < 16 → f b = g b) : mxn f a = mxn g a := mx_cg 16 (fun b hb => by rw [h b hb])
theorem sl_slo {p : Nat → Nat} : ∀ n a, p a < n → sl p n a = slo p a
  | 0, _, h => absurd h (Nat.not_lt_zero _)
  | n + 1, a, h => by
    have key : ∀ m, p a ≤ m → m ≤ n → mxn (fun b => if p b < p a then sl p m b else 0) a = mxn (fun b => if p b < p a then slo p b else 0) a := fun m h1 h2 => mxn_cg (fun b _ => by
      by_cases hb : p b < p a
      · rw [if_pos hb, if_pos hb]
        by_cases hm : m = n
        · subst hm; exact sl_slo m b (by omega)
        · exact sl_slo m b (by omega)
      · rw [if_neg hb, if_neg hb])
    show mxn (fun b => if p b < p a then sl p n b else 0) a + 1 = mxn (fun b => if p b < p a then sl p (p a) b else 0) a + 1
    rw [key n (by omega) (Nat.le_refl _), key (p a) (Nat.le_refl _) (by omega)]
termination_by n => n
theorem slo_eq (p : Nat → Nat) (a : Nat) : slo p a = mxn (fun b => if p b < p a then slo p b else 0) a + 1 := by
  show mxn (fun b => if p b < p a then sl p (p a) b else 0) a + 1 = _
  exact congrArg (fun z => z + 1) (mxn_cg (fun b _ => by
    by_cases hb : p b < p a
    · rw [if_pos hb, if_pos hb, sl_slo _ _ hb]
    · rw [if_neg hb, if_neg hb]))
theorem sl_le {p : Nat → Nat} : ∀ n a, sl p n a ≤ n
  | 0, _ => Nat.le_refl _
  | n + 1, a => Nat.succ_le_succ (mx_le 16 (fun b _ => by
    have := sl_le (p := p) n b
    show (if adj a b = 1 then (if p b < p a then sl p n b else 0) else 0) ≤ n
    split
    · split <;> omega
    · omega))
theorem slo_le {p : Nat → Nat} (hp : stab p) {a : Nat} (ha : a < 16) : slo p a ≤ 4 := by
  have h1 := sl_le (p := p) (p a + 1) a
  have h2 := hp a ha
  unfold slo
  omega
def slP (p : Nat → Nat) : Nat := mx 16 (slo p)
section SD
variable {N : Nat} {μ : Mem} {a0 a1 a : Nat} {p : Nat → Nat}
theorem stab_s (hp : stab p) : ∀ i, i < 16 → p i < 2 ^ 20 := fun i hi => by have := hp i hi; omega
theorem k_markReady (hN : 17 ≤ N) (hne : a1 ≠ a0 + 3) (h : ArN μ a1 16 p) (hp : ∀ i, i < 16 → p i < 2 ^ 20) : Ok (fX6_markReady N μ a0 a1) (fun r => ArN r.1 (a0 + 3) 16 (fun j => (decide (4 ≤ p j)).toNat) ∧ frm (fun q => q = a0 + 3) μ r.1 ∧ r.2 = nI (sm 16 (fun j => (decide (4 ≤ p j)).toNat))) := by
  unfold fX6_markReady
  refine ok_fix3 (fun k x1 x2 m => ∃ i, i + k = 16 ∧ x1 = nI (sm i (fun j => (decide (4 ≤ p j)).toNat)) ∧ x2 = nI i ∧ frm (fun q => q = a0 + 3) μ m ∧ ArN m (a0 + 3) i (fun j => (decide (4 ≤ p j)).toNat)) ?_ N 16 _ _ _ (by omega) ⟨0, rfl, rfl, rfl, frm.rf, fun i hi => absurd hi (Nat.not_lt_zero _)⟩
  rintro k self x1 x2 m ⟨i, hi, rfl, rfl, hf, hm⟩ hs
  refine ok_le 16 i (f := fun hc => ?_) (g := fun hc => ?_)
  · have : i = 16 := by omega
    subst this
    exact ok_some ⟨hm, hf, rfl⟩
  · refine ok_ag i rfl hc (by decide) ?_
    rw [h.mv (hf a1 hne) i hc]
    have hpi := hp i hc
    have go : Ok (aw m (a0 + 3) 16 (nI i) (vp_nar .boolean (b2i (decide (4 ≤ p i)))) fun μ14 => ag (μ14 (a0 + 3)) 16 (nI i) fun v17 => jn (fun (y20 : Int32) => lt (nI i + 1) fun v24 => self y20 v24 μ14) fun j21 => if v17 = 0 then j21 (nI (sm i (fun j => (decide (4 ≤ p j)).toNat))) else (lt (nI (sm i (fun j => (decide (4 ≤ p j)).toNat)) + 1) fun v27 => j21 v27)) (fun r : Mem × Int32 => ArN r.1 (a0 + 3) 16 (fun j => (decide (4 ≤ p j)).toNat) ∧ frm (fun q => q = a0 + 3) μ r.1 ∧ r.2 = nI (sm 16 (fun j => (decide (4 ≤ p j)).toNat))) := by
      refine ok_aw i rfl hc (by decide) ?_
      refine ok_ag i rfl hc (by decide) ?_
      rw [mset_at, nar_bool]
      refine ok_jn ?_
      have e : sm (i + 1) (fun j => (decide (4 ≤ p j)).toNat) = sm i (fun j => (decide (4 ≤ p j)).toNat) + (decide (4 ≤ p i)).toNat := rfl
      have hm' : ArN (mset m (a0 + 3) i (nI (decide (4 ≤ p i)).toNat)) (a0 + 3) (i + 1) (fun j => (decide (4 ≤ p j)).toNat) := fun j hj => by
        rw [mset_if]
        by_cases ej : j = i
        · subst ej; rw [if_pos rfl]
        · rw [if_neg ej]; exact hm j (by omega)
      refine ok_eqI (decide (4 ≤ p i)).toNat 0 (ha := by have := toNat_le1 (decide (4 ≤ p i)); omega) (f := fun hz => ?_) (g := fun hz => ?_)
      · refine ok_lt ?_
        exact hs (k - 1) _ _ _ (by omega) ⟨i + 1, by omega, by rw [e, hz]; rfl, nI_1 _, hf.set rfl _ _, hm'⟩
      · refine ok_lt (ok_lt ?_)
        have h1 := toNat_le1 (decide (4 ≤ p i))
        exact hs (k - 1) _ _ _ (by omega) ⟨i + 1, by omega, by rw [e, show (decide (4 ≤ p i)).toNat = 1 by omega]; exact nI_1 _, nI_1 _, hf.set rfl _ _, hm'⟩
    refine ok_jn ?_
    refine ok_ltI (p i) 4 (f := fun hd => ?_) (g := fun hd => ?_)
    · rw [decide_eq_false (by omega)] at go
      exact go
    · rw [decide_eq_true hd] at go
      exact go
theorem topl_ge {q : Nat → Nat} {b i : Nat} (h : i ≠ b) : q i ≤ topl q b i := by unfold topl; rw [if_neg h]; exact Nat.le_add_right _ _
/-- the toppling of the class, round by round -/
theorem k_toppleByRounds (hN : 20000 ≤ N) (hne : a1 ≠ a0 + 3) (h : ArN μ a1 16 p) (hg : pot p ≤ 1000) : Ok (fX6_toppleByRounds N μ a0 a1) (fun r => ∃ l, legal l p ∧ stab (runT l p) ∧ frm (fun q => q = a1 ∨ q = a0 + 3) μ r.1 ∧ r.2 = nI l.length ∧ l.length ≤ 500) := by
  unfold fX6_toppleByRounds
  refine ok_fix3 (fun k x1 x2 m => ∃ l rd, x1 = nI l.length ∧ x2 = nI rd ∧ legal l p ∧ ArN m a1 16 (runT l p) ∧ frm (fun q => q = a1 ∨ q = a0 + 3) μ m ∧ k = pot (runT l p) ∧ rd + k ≤ 1000) ?_ N (pot p) _ _ _ (by omega) ⟨[], 0, rfl, rfl, True.intro, h, frm.rf, rfl, by omega⟩
  rintro k self x1 x2 m ⟨l, rd, rfl, rfl, hl, hm, hf, hk, hb⟩ hs
  have hpr := pot_run l p hl
  refine ok_jn ?_
  refine ok_le 1000000 rd (f := fun hc => by omega) (g := fun _ => ?_)
  refine ok_bind (k_markReady (by omega) hne hm (fun i hi => pot_s (c := 0) (by omega) hi)) ?_
  rintro ⟨m1, rdy⟩ ⟨hmk, hf1, hr⟩
  simp only at hmk hf1 hr
  subst hr
  have hsz : sm 16 (fun j => (decide (4 ≤ runT l p j)).toNat) ≤ 1 * 16 := sm_b 16 (fun a _ => toNat_le1 _)
  refine ok_eqI (sm 16 (fun j => (decide (4 ≤ runT l p j)).toNat)) 0 (f := fun hz => ?_) (g := fun hz => ?_)
  · refine ok_some ⟨l, hl, fun i hi => ?_, hf.tr (hf1.mono (fun q hq => Or.inr hq)), rfl, by omega⟩
    have h1 := sm_mem (f := fun j => (decide (4 ≤ runT l p j)).toNat) (k := i) 16 hi
    rw [hz] at h1
    by_cases h4 : 4 ≤ runT l p i
    · simp only [decide_eq_true h4] at h1
      exact absurd h1 (by decide)
    · omega
  · refine ok_fix2 (fun k2 x m2 => ∃ i l2, i + k2 = 16 ∧ x = nI i ∧ legal l2 p ∧ ArN m2 a1 16 (runT l2 p) ∧ ArN m2 (a0 + 3) 16 (fun j => (decide (4 ≤ runT l p j)).toNat) ∧ frm (fun q => q = a1 ∨ q = a0 + 3) μ m2 ∧ l2.length = l.length + sm i (fun j => (decide (4 ≤ runT l p j)).toNat) ∧ pot (runT l2 p) + 2 * sm i (fun j => (decide (4 ≤ runT l p j)).toNat) ≤ pot (runT l p) ∧ (∀ j, i ≤ j → j < 16 → runT l p j ≤ runT l2 p j)) ?_ N 16 _ _ (by omega) ⟨0, l, rfl, rfl, hl, hm.mv (hf1 a1 hne), hmk, hf.tr (hf1.mono (fun q hq => Or.inr hq)), rfl, Nat.le_refl _, fun j _ _ => Nat.le_refl _⟩
    rintro k2 self2 x m2 ⟨i, l2, hi, rfl, hl2, hm2, hmk2, hf2, hlen, hpo, hge⟩ hs2
    refine ok_le 16 i (f := fun hc => ?_) (g := fun hc => ?_)
    · have : i = 16 := by omega
      subst this
      refine ok_lt (ok_lt ?_)
      refine hs (pot (runT l2 p)) _ _ _ (by omega) ⟨l2, rd + 1, by rw [hlen]; exact nI_add _ _, nI_1 _, hl2, hm2, hf2, rfl, by omega⟩
    · refine ok_ag i rfl hc (by decide) ?_
      rw [hmk2 i hc]
      have e : sm (i + 1) (fun j => (decide (4 ≤ runT l p j)).toNat) = sm i (fun j => (decide (4 ≤ runT l p j)).toNat) + (decide (4 ≤ runT l p i)).toNat := rfl
      refine ok_jn ?_
      refine ok_eqI (decide (4 ≤ runT l p i)).toNat 0 (ha := by have := toNat_le1 (decide (4 ≤ runT l p i)); omega) (f := fun hz => ?_) (g := fun hz => ?_)
      · refine ok_lt ?_
        exact hs2 (k2 - 1) _ _ (by omega) ⟨i + 1, l2, by omega, nI_1 _, hl2, hm2, hmk2, hf2, by rw [e, hz]; exact hlen, by rw [e, hz]; exact hpo, fun j h1 h2 => hge j (by omega) h2⟩
      · have h4 : 4 ≤ runT l p i := by
          refine Classical.byContradiction fun hno => hz ?_
          rw [decide_eq_false hno]; rfl
        have h42 : 4 ≤ runT l2 p i := Nat.le_trans h4 (hge i (Nat.le_refl _) hc)
        refine ok_bind (k_toppleOnce (by omega) hc hm2 h42) ?_
        rintro m3 ⟨hm3, hf3⟩
        refine ok_lt ?_
        refine hs2 (k2 - 1) _ _ (by omega) ⟨i + 1, l2 ++ [i], by omega, nI_1 _, legal_one hl2 hc h42, by rw [runT_one]; exact hm3, hmk2.mv (hf3 (a0 + 3) (fun z => hne z.symm)), hf2.tr (hf3.mono (fun q hq => Or.inl hq)), ?_, ?_, fun j h1 h2 => ?_⟩
        · rw [List.length_append, e, hlen, decide_eq_true h4]; rfl
        · rw [runT_one, e, decide_eq_true h4]
          have := pot_topl hc h42
          show pot (topl (runT l2 p) i) + 2 * (sm i (fun j => (decide (4 ≤ runT l p j)).toNat) + 1) ≤ _
          omega
        · rw [runT_one]
          exact Nat.le_trans (hge j (by omega) h2) (topl_ge (by omega))
end SD
