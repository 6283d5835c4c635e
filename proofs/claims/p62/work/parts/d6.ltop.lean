/-! Pure layer: the law's toppling of a pile of its own, and its slopes. -/
def Pl (μ : Mem) (p : Nat → Nat) : Prop := ∀ y, y < 4 → ∀ x, x < 4 → μ (0 + 1 + 1 * y) x = nI (p (4 * y + x))
theorem Pl.cg {μ : Mem} {p q : Nat → Nat} (h : Pl μ p) (e : ∀ i, i < 16 → p i = q i) : Pl μ q := fun y hy x hx => by rw [h y hy x hx, e _ (by omega)]
theorem Pl.set {μ : Mem} {p : Nat → Nat} (h : Pl μ p) {x y n : Nat} (hx : x < 4) (hy : y < 4) {v : Int32} (hv : v = nI n) : Pl (mset μ (0 + 1 + 1 * y) x v) (updN p (4 * y + x) n) := fun b hb a ha => by
  rw [mset_el]
  by_cases e : b = y ∧ a = x
  · obtain ⟨rfl, rfl⟩ := e
    rw [if_pos ⟨rfl, rfl⟩, updN_at, hv]
  · rw [if_neg (fun z => e ⟨by omega, z.2⟩), updN_ne _ _ _ (by omega), h b hb a ha]
def byI (d : Nat) : Int32 := if d = 0 then -1 else if d = 1 then 1 else 3
def cxL (x d : Nat) : Nat := if d = 0 then (if x = 0 then 16 else x - 1) else if x = 3 then 16 else x + 1
def nbL (a d : Nat) : Nat := if d % 2 = 0 then (if cxL (a % 4) (d / 2) = 16 then 16 else 4 * (a / 4) + cxL (a % 4) (d / 2)) else if cxL (a / 4) (d / 2) = 16 then 16 else 4 * cxL (a / 4) (d / 2) + a % 4
theorem nbL_ok : nbOK nbL := ⟨by decide +kernel, by decide +kernel, by decide +kernel⟩
theorem cnL : ∀ a, a < 16 → ∀ i, i < 16 → cn nbL a 4 i = adj a i := by decide +kernel
theorem by_off : ∀ x, x < 4 → ∀ d, d < 2 → (cxL x d = 16 ∧ (nI x + byI d < 0 ∨ 4 ≤ nI x + byI d)) ∨ (cxL x d < 4 ∧ ¬ nI x + byI d < 0 ∧ ¬ 4 ≤ nI x + byI d ∧ nI x + byI d = nI (cxL x d)) := by decide +kernel
theorem by_two : ∀ d, d ≤ 2 → (2 ≤ byI d ↔ d = 2) := by decide +kernel
theorem by_next : ∀ d, d < 2 → byI d + 2 = byI (d + 1) := by decide +kernel
theorem nbL_x : ∀ x, x < 4 → ∀ y, y < 4 → ∀ d, d < 2 → nbL (4 * y + x) (2 * d) = if cxL x d = 16 then 16 else 4 * y + cxL x d := by decide +kernel
theorem nbL_y : ∀ x, x < 4 → ∀ y, y < 4 → ∀ d, d < 2 → nbL (4 * y + x) (2 * d + 1) = if cxL y d = 16 then 16 else 4 * cxL y d + x := by decide +kernel
theorem ok_off {O : Type} {P : O → Prop} {u v : Option O} {x d : Nat} (hx : x < 4) (hd : d < 2) (f : cxL x d = 16 → Ok u P) (g : cxL x d < 4 → nI x + byI d = nI (cxL x d) → Ok v P) : Ok (if nI x + byI d < 0 then u else if 4 ≤ nI x + byI d then u else v) P := by
  rcases by_off x hx d hd with ⟨h1, h2⟩ | ⟨h1, h2, h3, h4⟩
  · exact ok_if (fun _ => f h1) (fun h5 => ok_ifT (h2.resolve_left h5) (f h1))
  · exact ok_ifF h2 (ok_ifF h3 (g h1 h4))
theorem mid_off {nb : Nat → Nat → Nat} {p : Nat → Nat} {a c d : Nat} (h : nb a d = 16) : ∀ i, i < 16 → mid nb p a c d i = mid nb p a c (d + 1) i := fun i hi => by
  show (if i = a then p i - c else p i + cn nb a d i) = if i = a then p i - c else p i + (cn nb a d i + if nb a d = i then 1 else 0)
  rw [if_neg (fun z => by omega : ¬ nb a d = i)]; rfl
theorem mid_on {nb : Nat → Nat → Nat} {p : Nat → Nat} {a c d b : Nat} (h : nb a d = b) (hb : b ≠ a) : ∀ i, i < 16 → updN (mid nb p a c d) b (mid nb p a c d b + 1) i = mid nb p a c (d + 1) i := fun i hi => by
  unfold updN mid
  by_cases e : i = b
  · subst e
    rw [if_pos rfl, if_neg hb, if_neg hb]
    show _ = p i + (cn nb a d i + if nb a d = i then 1 else 0)
    rw [if_pos h]; omega
  · rw [if_neg e]
    show _ = if i = a then p i - c else p i + (cn nb a d i + if nb a d = i then 1 else 0)
    rw [if_neg (fun z => e (z.symm.trans h) : ¬ nb a d = i)]; rfl
/-- where a pile may still be full: at places that were full before, or at the neighbours from the e0-th on -/
def tpU (p : Nat → Nat) (a e0 : Nat) (q : Nat → Nat) : Prop := ∀ i, i < 16 → 4 ≤ q i → i ≠ a ∧ (4 ≤ p i ∨ ∃ e, e0 ≤ e ∧ e < 4 ∧ nbL a e = i)
theorem tpU.skip {p q : Nat → Nat} {a e0 : Nat} (h : tpU p a e0 q) (h16 : nbL a e0 = 16) : tpU p a (e0 + 1) q := fun i hi h4 => by
  obtain ⟨h1, h2 | ⟨e, e1, e2, e3⟩⟩ := h i hi h4
  · exact ⟨h1, Or.inl h2⟩
  · refine ⟨h1, Or.inr ⟨e, ?_, e2, e3⟩⟩
    by_cases ee : e = e0
    · subst ee; omega
    · omega
theorem tpU.call {p q q' : Nat → Nat} {a e0 b : Nat} (h : tpU p a e0 q) (hb : nbL a e0 = b) (hu : ∀ i, i < 16 → 4 ≤ q' i → i ≠ b ∧ 4 ≤ q i) : tpU p a (e0 + 1) q' := fun i hi h4 => by
  obtain ⟨g1, g2⟩ := hu i hi h4
  obtain ⟨h1, h2 | ⟨e, e1, e2, e3⟩⟩ := h i hi g2
  · exact ⟨h1, Or.inl h2⟩
  · refine ⟨h1, Or.inr ⟨e, ?_, e2, e3⟩⟩
    by_cases ee : e = e0
    · subst ee; omega
    · omega
section LTOP
variable {N : Nat}
/-- what toppling at a place comes to -/
def tpQ (p : Nat → Nat) (a : Nat) (r : Mem × Int32) : Prop := ∃ l, legal l p ∧ Pl r.1 (runT l p) ∧ r.2 = nI l.length ∧ ∀ i, i < 16 → 4 ≤ runT l p i → i ≠ a ∧ 4 ≤ p i
set_option maxHeartbeats 1000000 in
theorem k_topple (hN : 5000 ≤ N) : ∀ (n : Nat) {μ : Mem} {p : Nat → Nat} {x y : Nat}, pot p < 2 * n → pot p ≤ 1000 → x < 4 → y < 4 → Pl μ p → Ok (fL_topple N n μ 0 (nI x) (nI y)) (tpQ p (4 * y + x)) := by
  intro n
  induction n with
  | zero => intro μ p x y h; omega
  | succ n ih =>
  intro μ p x y hpn hp2 hx hy hP
  have hlen : ∀ l, legal l p → l.length ≤ 500 ∧ pot (runT l p) + 2 * l.length ≤ pot p := fun l hl => by have := pot_run l p hl; omega
  have hps : ∀ l, legal l p → ∀ i, i < 16 → runT l p i < 2 ^ 20 := fun l hl i hi => by
    have h1 := hlen l hl
    have h2 := pot_p (p := runT l p) hi
    omega
  have ha : 4 * y + x < 16 := by omega
  have hself1 : ∀ l, legal l p → l ≠ [] → pot (runT l p) < 2 * n ∧ pot (runT l p) ≤ 1000 := fun l hl hne => by
    have h1 := hlen l hl
    have h2 : 0 < l.length := List.length_pos_iff.mpr hne
    omega
  unfold fL_topple
  refine ok_fix2 (fun k x1 m => ∃ l, legal l p ∧ Pl m (runT l p) ∧ x1 = nI l.length ∧ (∀ i, i < 16 → adj (4 * y + x) i = 0 → i ≠ 4 * y + x → runT l p i = p i) ∧ k = pot (runT l p)) ?_ N (pot p) _ _ (by omega) ⟨[], True.intro, hP, rfl, fun _ _ _ _ => rfl, rfl⟩
  rintro k self3 x1 m ⟨l, hl, hm, rfl, hfar, rfl⟩ hself
  have hpa := hps l hl _ ha
  have hll := (hlen l hl).1
  refine ok_ar y rfl hy (by decide) ?_
  refine ok_ag x rfl hx (by decide) ?_
  rw [hm y hy x hx]
  refine ok_le (runT l p (4 * y + x)) 3 (f := fun hc => ?_) (g := fun hc => ?_)
  · refine ok_fix3 (fun k x13 x14 m2 => ∃ d l2, d + k = 2 ∧ x14 = byI d ∧ legal l2 p ∧ Pl m2 (runT l2 p) ∧ x13 = nI l2.length ∧ tpU p (4 * y + x) (2 * d) (runT l2 p)) ?_ N 2 _ _ _ (by omega) ⟨0, l, rfl, rfl, hl, hm, rfl, fun i hi h4 => ?_⟩
    · rintro k2 self16 x13 x14 m2 ⟨d, l2, hd, rfl, hl2, hm2, rfl, hu⟩ hself2
      have hl2l := (hlen l2 hl2).1
      have stop : (d = 2 ∨ l2 = []) → Ok (some (m2, nI l2.length)) (tpQ p (4 * y + x)) := fun hdl => ok_some ⟨l2, hl2, hm2, rfl, fun i hi h4 => by
        obtain ⟨h1, h2⟩ := hu i hi h4
        refine ⟨h1, ?_⟩
        rcases hdl with hdl | hdl
        · rcases h2 with h2 | ⟨e, e1, e2, e3⟩
          · exact h2
          · omega
        · subst hdl; exact h4⟩
      refine ok_jn ?_
      refine ok_if (fun hc2 => stop (Or.inl ((by_two d (by omega)).mp hc2))) (fun hc2 => ?_)
      have hd2 : d < 2 := by
        have : d ≠ 2 := fun z => hc2 ((by_two d (by omega)).mpr z)
        omega
      refine ok_le l2.length 0 (f := fun h0 => stop (Or.inr (List.length_eq_zero_iff.mp (by omega)))) (g := fun h0 => ?_)
      have hne2 : l2 ≠ [] := fun z => by rw [z] at h0; exact absurd h0 (Nat.lt_irrefl 0)
      refine ok_jn2 (fun y24 m25 => ∃ l3, l3 ≠ [] ∧ legal l3 p ∧ Pl m25 (runT l3 p) ∧ nI l2.length + y24 = nI l3.length ∧ tpU p (4 * y + x) (2 * d + 1) (runT l3 p)) ?_ ?_
      · rintro y24 m25 ⟨l3, hne3, hl3, hm3, he3, hu3⟩
        rw [he3]
        refine ok_lt ?_
        refine ok_jn2 (fun y31 m32 => ∃ l4, l4 ≠ [] ∧ legal l4 p ∧ Pl m32 (runT l4 p) ∧ nI l3.length + y31 = nI l4.length ∧ tpU p (4 * y + x) (2 * d + 2) (runT l4 p)) ?_ ?_
        · rintro y31 m32 ⟨l4, hne4, hl4, hm4, he4, hu4⟩
          rw [he4]
          refine ok_lt (ok_lt ?_)
          exact hself2 (k2 - 1) _ _ _ (by omega) ⟨d + 1, l4, by omega, by_next d hd2, hl4, hm4, rfl, hu4⟩
        · intro j33 hj
          refine ok_jn ?_
          refine ok_off hy hd2 (fun h16 => ?_) (fun h4 he => ?_)
          · exact hj _ _ ⟨l3, hne3, hl3, hm3, nI_add _ 0, hu3.skip (by rw [nbL_y x hx y hy d hd2, if_pos h16])⟩
          · rw [he]
            have hq := hself1 l3 hl3 hne3
            refine ok_bind (ih hq.1 hq.2 hx h4 hm3) ?_
            rintro ⟨m4, c4⟩ ⟨l5, hl5, hm5, rfl, hu5⟩
            refine hj _ _ ⟨l3 ++ l5, fun z => hne3 (List.append_eq_nil_iff.mp z).1, (legal_app _ _ _).mpr ⟨hl3, hl5⟩, ?_, ?_, ?_⟩
            · rw [runT_app]; exact hm5
            · rw [List.length_append]; exact nI_add _ _
            · rw [runT_app]
              exact hu3.call (by rw [nbL_y x hx y hy d hd2, if_neg (by omega)]) hu5
      · intro j26 hj
        refine ok_jn ?_
        refine ok_off hx hd2 (fun h16 => ?_) (fun h4 he => ?_)
        · exact hj _ _ ⟨l2, hne2, hl2, hm2, nI_add _ 0, hu.skip (by rw [nbL_x x hx y hy d hd2, if_pos h16])⟩
        · rw [he]
          have hq := hself1 l2 hl2 hne2
          refine ok_bind (ih hq.1 hq.2 h4 hy hm2) ?_
          rintro ⟨m4, c4⟩ ⟨l5, hl5, hm5, rfl, hu5⟩
          refine hj _ _ ⟨l2 ++ l5, fun z => hne2 (List.append_eq_nil_iff.mp z).1, (legal_app _ _ _).mpr ⟨hl2, hl5⟩, ?_, ?_, ?_⟩
          · rw [runT_app]; exact hm5
          · rw [List.length_append]; exact nI_add _ _
          · rw [runT_app]
            exact hu.call (by rw [nbL_x x hx y hy d hd2, if_neg (by omega)]) hu5
    · have hia : i ≠ 4 * y + x := fun e => by rw [e] at h4; omega
      refine ⟨hia, ?_⟩
      rcases Nat.lt_or_ge 0 (adj (4 * y + x) i) with hz | hz
      · have h1 : adj (4 * y + x) i = 1 := by have := adj_le (4 * y + x) i; omega
        rcases nbL_ok.2.2 _ ha i hi h1 with h | h | h | h
        · exact Or.inr ⟨0, by omega, by omega, h⟩
        · exact Or.inr ⟨1, by omega, by omega, h⟩
        · exact Or.inr ⟨2, by omega, by omega, h⟩
        · exact Or.inr ⟨3, by omega, by omega, h⟩
      · rw [hfar i hi (by omega) hia] at h4
        exact Or.inl h4
  · have h4a : 4 ≤ runT l p (4 * y + x) := hc
    have hla := legal_one hl ha h4a
    refine ok_ar y rfl hy (by decide) ?_
    refine ok_ag x rfl hx (by decide) ?_
    refine ok_aw x rfl hx (by decide) ?_
    rw [hm y hy x hx]
    refine ok_lt ?_
    refine ok_fix2 (fun k x66 m2 => ∃ d, d + k = 2 ∧ x66 = byI d ∧ Pl m2 (mid nbL (runT l p) (4 * y + x) 4 (2 * d))) ?_ N 2 _ _ (by omega) ⟨0, rfl, rfl, ?_⟩
    · rintro k2 self68 x66 m2 ⟨d, hd, rfl, hm2⟩ hself2
      refine ok_if (fun hc2 => ?_) (fun hc2 => ?_)
      · have hd2 : d = 2 := (by_two d (by omega)).mp hc2
        subst hd2
        have hpt := pot_topl ha h4a
        refine hself (pot (runT (l ++ [4 * y + x]) p)) _ _ (by rw [runT_one]; omega) ⟨l ++ [4 * y + x], hla, ?_, ?_, fun i hi hz hia => ?_, rfl⟩
        · rw [runT_one]
          exact hm2.cg (mid_end (cnL _ ha))
        · rw [List.length_append]; exact nI_1 _
        · rw [runT_one]
          show (if i = 4 * y + x then _ else runT l p i + adj (4 * y + x) i) = _
          rw [if_neg hia, hz, Nat.add_zero, hfar i hi hz hia]
      · have hd2 : d < 2 := by
          have : d ≠ 2 := fun z => hc2 ((by_two d (by omega)).mpr z)
          omega
        refine ok_jn1 (fun m => Pl m (mid nbL (runT l p) (4 * y + x) 4 (2 * d + 1))) ?_ ?_
        · intro m71 h71
          refine ok_jn1 (fun m => Pl m (mid nbL (runT l p) (4 * y + x) 4 (2 * d + 2))) ?_ ?_
          · intro m75 h75
            exact ok_lt (hself2 (k2 - 1) _ _ (by omega) ⟨d + 1, by omega, by_next d hd2, h75⟩)
          · intro j76 hj
            refine ok_off hy hd2 (fun h16 => ?_) (fun h4 he => ?_)
            · exact hj _ (h71.cg (mid_off (by rw [nbL_y x hx y hy d hd2, if_pos h16])))
            · rw [he]
              have hnb : nbL (4 * y + x) (2 * d + 1) = 4 * cxL y d + x := by rw [nbL_y x hx y hy d hd2, if_neg (by omega)]
              have hnn := (nbL_ok.1 _ ha (2 * d + 1) (by omega)).2
              refine ok_ar (cxL y d) rfl h4 (by decide) ?_
              refine ok_ag x rfl hx (by decide) ?_
              refine ok_aw x rfl hx (by decide) ?_
              rw [h71 _ h4 x hx]
              exact hj _ ((h71.set hx h4 (nI_1 _)).cg (mid_on hnb (hnb ▸ hnn)))
        · intro j72 hj
          refine ok_off hx hd2 (fun h16 => ?_) (fun h4 he => ?_)
          · exact hj _ (hm2.cg (mid_off (by rw [nbL_x x hx y hy d hd2, if_pos h16])))
          · rw [he]
            have hnb : nbL (4 * y + x) (2 * d) = 4 * y + cxL x d := by rw [nbL_x x hx y hy d hd2, if_neg (by omega)]
            have hnn := (nbL_ok.1 _ ha (2 * d) (by omega)).2
            refine ok_ar y rfl hy (by decide) ?_
            refine ok_ag (cxL x d) rfl h4 (by decide) ?_
            refine ok_aw (cxL x d) rfl h4 (by decide) ?_
            rw [hm2 _ hy _ h4]
            exact hj _ ((hm2.set h4 hy (nI_1 _)).cg (mid_on hnb (hnb ▸ hnn)))
    · refine (hm.set hx hy (pk_sub h4a)).cg (fun i hi => ?_)
      show (if i = 4 * y + x then _ else runT l p i) = if i = 4 * y + x then runT l p i - 4 else runT l p i + 0
      by_cases e : i = 4 * y + x
      · rw [if_pos e, if_pos e, e]
      · rw [if_neg e, if_neg e]; rfl
set_option maxHeartbeats 1000000 in
theorem k_slopeFromL {μ : Mem} {p : Nat → Nat} (hN : 5 ≤ N) (hP : Pl μ p) (hp : stab p) : ∀ (n : Nat) {x y : Nat}, x < 4 → y < 4 → p (4 * y + x) < n → Ok (fL_slopeFrom N n μ 0 (nI x) (nI y)) (fun r => r = nI (slo p (4 * y + x))) := by
  intro n
  induction n with
  | zero => intro x y _ _ h; omega
  | succ n ih =>
  intro x y hx hy hn
  have ha : 4 * y + x < 16 := by omega
  have hpa := hp _ ha
  unfold fL_slopeFrom
  refine ok_fix2 (fun k x1 x2 => ∃ d, d + k = 2 ∧ x1 = nI (ml nbL (lowf p (4 * y + x)) (4 * y + x) (2 * d)) ∧ x2 = byI d) ?_ N 2 _ _ (by omega) ⟨0, rfl, rfl, rfl⟩
  rintro k self x1 x2 ⟨d, hd, rfl, rfl⟩ hself
  have hml : ∀ e, e ≤ 4 → ml nbL (lowf p (4 * y + x)) (4 * y + x) e ≤ 4 := fun e he => ml_le4 nbL_ok hp ha he
  have mlS : ∀ e, ml nbL (lowf p (4 * y + x)) (4 * y + x) (e + 1) = max (ml nbL (lowf p (4 * y + x)) (4 * y + x) e) (if nbL (4 * y + x) e = 16 then 0 else if p (nbL (4 * y + x) e) < p (4 * y + x) then slo p (nbL (4 * y + x) e) else 0) := fun e => rfl
  refine ok_if (fun hc2 => ?_) (fun hc2 => ?_)
  · have hd2 : d = 2 := (by_two d (by omega)).mp hc2
    subst hd2
    refine ok_some ?_
    rw [slo_ml nbL_ok ha]
    exact (nI_add 1 _).trans (congrArg nI (Nat.add_comm 1 _))
  · have hd2 : d < 2 := by
      have : d ≠ 2 := fun z => hc2 ((by_two d (by omega)).mpr z)
      omega
    have h0 := hml (2 * d) (by omega)
    have h1 := hml (2 * d + 1) (by omega)
    refine ok_jn1 (fun y6 => y6 = decide (cxL x d < 4 ∧ p (4 * y + cxL x d) < p (4 * y + x))) ?_ ?_
    · rintro _ rfl
      refine ok_jn1 (fun y10 => y10 = decide (cxL y d < 4 ∧ p (4 * cxL y d + x) < p (4 * y + x))) ?_ ?_
      · rintro _ rfl
        refine ok_jn1 (fun y14 => y14 = nI (ml nbL (lowf p (4 * y + x)) (4 * y + x) (2 * d + 1))) ?_ ?_
        · rintro _ rfl
          refine ok_jn1 (fun y18 => y18 = nI (ml nbL (lowf p (4 * y + x)) (4 * y + x) (2 * d + 2))) ?_ ?_
          · rintro _ rfl
            exact ok_lt (hself (k - 1) _ _ (by omega) ⟨d + 1, by omega, rfl, by_next d hd2⟩)
          · intro j19 hj
            refine ok_cd (fun ht => ?_) (fun hf => ?_)
            · obtain ⟨t1, t2⟩ := of_decide_eq_true ht
              have he : nI y + byI d = nI (cxL y d) := by
                rcases by_off y hy d hd2 with ⟨z, _⟩ | ⟨_, _, _, z⟩
                · omega
                · exact z
              rw [he]
              refine ok_bind (ih hx t1 (by omega)) ?_
              rintro _ rfl
              refine hj _ ?_
              have hsl := slo_le hp (a := 4 * cxL y d + x) (by omega)
              rw [imax_nI (by omega) (by omega), show 2 * d + 2 = (2 * d + 1) + 1 from rfl, mlS (2 * d + 1), nbL_y x hx y hy d hd2, if_neg (by omega : ¬ cxL y d = 16), if_neg (by omega), if_pos t2]
            · refine hj _ ?_
              rw [show 2 * d + 2 = (2 * d + 1) + 1 from rfl, mlS (2 * d + 1), nbL_y x hx y hy d hd2]
              have hf := of_decide_eq_false hf
              by_cases h16 : cxL y d = 16
              · rw [if_pos h16, if_pos rfl, Nat.max_eq_left (Nat.zero_le _)]
              · rw [if_neg h16]
                have : cxL y d < 4 := by
                  rcases by_off y hy d hd2 with ⟨z, _⟩ | ⟨z, _⟩ <;> omega
                rw [if_neg (by omega), if_neg (fun z => hf ⟨this, z⟩), Nat.max_eq_left (Nat.zero_le _)]
        · intro j15 hj
          refine ok_cd (fun ht => ?_) (fun hf => ?_)
          · obtain ⟨t1, t2⟩ := of_decide_eq_true ht
            have he : nI x + byI d = nI (cxL x d) := by
              rcases by_off x hx d hd2 with ⟨z, _⟩ | ⟨_, _, _, z⟩
              · omega
              · exact z
            rw [he]
            refine ok_bind (ih t1 hy (by omega)) ?_
            rintro _ rfl
            refine hj _ ?_
            have hsl := slo_le hp (a := 4 * y + cxL x d) (by omega)
            rw [imax_nI (by omega) (by omega), mlS (2 * d), nbL_x x hx y hy d hd2, if_neg (by omega : ¬ cxL x d = 16), if_neg (by omega), if_pos t2]
          · refine hj _ ?_
            rw [mlS (2 * d), nbL_x x hx y hy d hd2]
            have hf := of_decide_eq_false hf
            by_cases h16 : cxL x d = 16
            · rw [if_pos h16, if_pos rfl, Nat.max_eq_left (Nat.zero_le _)]
            · rw [if_neg h16]
              have : cxL x d < 4 := by
                rcases by_off x hx d hd2 with ⟨z, _⟩ | ⟨z, _⟩ <;> omega
              rw [if_neg (by omega), if_neg (fun z => hf ⟨this, z⟩), Nat.max_eq_left (Nat.zero_le _)]
      · intro j11 hj
        refine ok_jn ?_
        refine ok_off hy hd2 (fun h16 => ?_) (fun h4 he => ?_)
        · exact hj _ (decide_eq_false (fun z => by omega)).symm
        · rw [he]
          refine ok_ar (cxL y d) rfl h4 (by decide) ?_
          refine ok_ag x rfl hx (by decide) ?_
          refine ok_ar y rfl hy (by decide) ?_
          refine ok_ag x rfl hx (by decide) ?_
          rw [hP _ h4 x hx, hP y hy x hx]
          have hp3 := hp (4 * cxL y d + x) (by omega)
          refine ok_le (p (4 * y + x)) (p (4 * cxL y d + x)) (f := fun hq => ?_) (g := fun hq => ?_)
          · exact hj _ (decide_eq_false (fun z => by omega)).symm
          · exact hj _ (decide_eq_true ⟨h4, hq⟩).symm
    · intro j7 hj
      refine ok_jn ?_
      refine ok_off hx hd2 (fun h16 => ?_) (fun h4 he => ?_)
      · exact hj _ (decide_eq_false (fun z => by omega)).symm
      · rw [he]
        refine ok_ar y rfl hy (by decide) ?_
        refine ok_ag (cxL x d) rfl h4 (by decide) ?_
        refine ok_ar y rfl hy (by decide) ?_
        refine ok_ag x rfl hx (by decide) ?_
        rw [hP _ hy _ h4, hP y hy x hx]
        have hp3 := hp (4 * y + cxL x d) (by omega)
        refine ok_le (p (4 * y + x)) (p (4 * y + cxL x d)) (f := fun hq => ?_) (g := fun hq => ?_)
        · exact hj _ (decide_eq_false (fun z => by omega)).symm
        · exact hj _ (decide_eq_true ⟨h4, hq⟩).symm
theorem nbTab : ∀ x, x < 4 → ∀ y, y < 4 → (4 : Int32) - (b2i (decide (0 < x)) + b2i (decide (x < 3)) + b2i (decide (0 < y)) + b2i (decide (y < 3))) = nI (opn (4 * y + x)) := by decide +kernel
theorem k_neighbours {K x y : Nat} (hx : x < 4) (hy : y < 4) : Ok (fL_neighbours N K (nI x) (nI y)) (fun r => 4 - r = nI (opn (4 * y + x))) := by
  unfold fL_neighbours
  refine ok_jn2 (fun b k => b = decide (0 < x) ∧ k = 0) ?_ (fun j hj => ok_le x 0 (f := fun h => hj _ _ ⟨(decide_eq_false (by omega)).symm, rfl⟩) (g := fun h => hj _ _ ⟨(decide_eq_true (by omega)).symm, rfl⟩))
  rintro _ _ ⟨rfl, rfl⟩
  refine ok_jn2 (fun b k => b = decide (x < 3) ∧ k = 0) ?_ (fun j hj => ok_le 3 x (f := fun h => hj _ _ ⟨(decide_eq_false (by omega)).symm, rfl⟩) (g := fun h => hj _ _ ⟨(decide_eq_true (by omega)).symm, rfl⟩))
  rintro _ _ ⟨rfl, rfl⟩
  refine ok_jn2 (fun b k => b = decide (0 < y) ∧ k = 0) ?_ (fun j hj => ok_le y 0 (f := fun h => hj _ _ ⟨(decide_eq_false (by omega)).symm, rfl⟩) (g := fun h => hj _ _ ⟨(decide_eq_true (by omega)).symm, rfl⟩))
  rintro _ _ ⟨rfl, rfl⟩
  refine ok_jn2 (fun b k => b = decide (y < 3) ∧ k = 0) ?_ (fun j hj => ok_le 3 y (f := fun h => hj _ _ ⟨(decide_eq_false (by omega)).symm, rfl⟩) (g := fun h => hj _ _ ⟨(decide_eq_true (by omega)).symm, rfl⟩))
  rintro _ _ ⟨rfl, rfl⟩
  exact ok_gd (Nat.zero_le _) (ok_some (nbTab x hx y hy))
end LTOP
