/-! Pure layer, 4: the class's piles: counting, toppling by places and by rounds. -/
section SC
variable {N : Nat} {μ : Mem} {a0 a1 a : Nat} {p : Nat → Nat}
theorem p_small (hp : ∀ i, i < 16 → p i < 2 ^ 20) {i : Nat} (hi : i < 16) : p i < 2 ^ 31 := by have := hp i hi; omega
theorem sm_small (hp : ∀ i, i < 16 → p i < 2 ^ 20) {n : Nat} (hn : n ≤ 16) : sm n p < 2 ^ 24 + 1 := by
  have := sm_b (f := p) (c := 2 ^ 20) n (fun a ha => Nat.le_of_lt (hp a (by omega)))
  have h2 : 2 ^ 20 * n ≤ 2 ^ 20 * 16 := Nat.mul_le_mul_left _ hn
  omega
theorem k_countGrains (hN : 17 ≤ N) (h : ArN μ a0 16 p) : Ok (fX6_countGrains N μ a0) (fun r => r = nI (grs p)) := by
  unfold fX6_countGrains
  refine ok_fix2 (fun k x y => ∃ i, i + k = 16 ∧ x = nI (sm i p) ∧ y = nI i) ?_ N 16 _ _ (by omega) ⟨0, rfl, rfl, rfl⟩
  rintro k self x y ⟨i, hi, rfl, rfl⟩ hs
  refine ok_le 16 i (f := fun hc => ?_) (g := fun hc => ?_)
  · have : i = 16 := by omega
    subst this
    exact ok_some rfl
  · refine ok_ag i rfl hc (by decide) ?_
    rw [h i hc]
    refine ok_lt (ok_lt ?_)
    exact hs (k - 1) _ _ (by omega) ⟨i + 1, by omega, nI_add _ _, nI_1 _⟩
/-- the first place with the most grains among places 0 .. k -/
def hi (p : Nat → Nat) : Nat → Nat
  | 0 => 0
  | k + 1 => if p (hi p k) < p (k + 1) then k + 1 else hi p k
theorem hi_le : ∀ k, hi p k ≤ k
  | 0 => Nat.le_refl _
  | k + 1 => by
    have := hi_le k
    unfold hi
    split <;> omega
theorem hi_max : ∀ k j, j ≤ k → p j ≤ p (hi p k)
  | 0, j, h => by have : j = 0 := by omega
                  subst this; exact Nat.le_refl _
  | k + 1, j, h => by
    unfold hi
    by_cases hj : j = k + 1
    · subst hj
      split <;> omega
    · have := hi_max k j (by omega)
      split <;> omega
def hiP (p : Nat → Nat) : Nat := hi p 15
theorem hiP_lt : hiP p < 16 := by have := hi_le (p := p) 15; unfold hiP; omega
theorem k_highestPlace (hN : 17 ≤ N) (hp : ∀ i, i < 16 → p i < 2 ^ 20) (h : ArN μ a0 16 p) : Ok (fX6_highestPlace N μ a0) (fun r => r = nI (hiP p)) := by
  unfold fX6_highestPlace
  refine ok_fix2 (fun k x y => ∃ i, i + k = 15 ∧ x = nI (hi p i) ∧ y = nI (i + 1)) ?_ N 15 _ _ (by omega) ⟨0, rfl, rfl, rfl⟩
  rintro k self x y ⟨i, hi0, rfl, rfl⟩ hs
  refine ok_le 16 (i + 1) (f := fun hc => ?_) (g := fun hc => ?_)
  · have : i = 15 := by omega
    subst this
    exact ok_some rfl
  · have hle := hi_le (p := p) i
    refine ok_ag (i + 1) rfl hc (by decide) ?_
    refine ok_ag (hi p i) rfl (by omega) (by decide) ?_
    rw [h (i + 1) hc, h (hi p i) (by omega)]
    have h1 := hp (i + 1) hc
    have h2 := hp (hi p i) (by omega)
    refine ok_jn ?_
    refine ok_le (p (i + 1)) (p (hi p i)) (f := fun hd => ?_) (g := fun hd => ?_)
    · refine ok_lt ?_
      exact hs (k - 1) _ _ (by omega) ⟨i + 1, by omega, by show _ = nI (if p (hi p i) < p (i + 1) then i + 1 else hi p i); rw [if_neg (by omega)], nI_1 _⟩
    · refine ok_lt ?_
      exact hs (k - 1) _ _ (by omega) ⟨i + 1, by omega, by show _ = nI (if p (hi p i) < p (i + 1) then i + 1 else hi p i); rw [if_pos (by omega)], nI_1 _⟩
theorem k_toppleOnce (hN : 5 ≤ N) (ha : a < 16) (h : ArN μ a0 16 p) (h4 : 4 ≤ p a) : Ok (fX6_toppleOnce N μ a0 (nI a)) (fun m => ArN m a0 16 (topl p a) ∧ frm (fun q => q = a0) μ m) := by
  unfold fX6_toppleOnce
  refine ok_ag a rfl ha (by decide) ?_
  refine ok_aw a rfl ha (by decide) ?_
  rw [h a ha]
  refine ok_fix2 (fun k x m => ∃ d, d + k = 4 ∧ x = nI d ∧ frm (fun q => q = a0) μ m ∧ ArN m a0 16 (mid nbC p a 4 d)) ?_ N 4 _ _ (by omega) ⟨0, rfl, rfl, frm.set (X := fun q => q = a0) frm.rf rfl _ _, ?_⟩
  · rintro k self x m ⟨d, hd, rfl, hf, hm⟩ hs
    refine ok_le 4 d (f := fun hc => ?_) (g := fun hc => ?_)
    · have : d = 4 := by omega
      subst this
      exact ok_some ⟨hm.cg (mid_end (cnC a ha)), hf⟩
    · refine ok_bindE (beC ha hc) ?_
      have hb := nbC_ok.1 a ha d hc
      refine ok_jn ?_
      refine ok_if (fun he => ?_) (fun he => ?_)
      · have he := (bv_m1 hb.1).mp he
        refine ok_lt ?_
        refine hs (k - 1) _ _ (by omega) ⟨d + 1, by omega, nI_1 _, hf, hm.cg (fun i hi => ?_)⟩
        show (if i = a then p i - 4 else p i + cn nbC a d i) = if i = a then p i - 4 else p i + (cn nbC a d i + if nbC a d = i then 1 else 0)
        rw [if_neg (fun z => by omega : ¬ nbC a d = i)]
        rfl
      · have he : nbC a d ≠ 16 := fun z => he ((bv_m1 hb.1).mpr z)
        rw [bv_pl he]
        have hlt : nbC a d < 16 := by omega
        refine ok_ag (nbC a d) rfl hlt (by decide) ?_
        refine ok_aw (nbC a d) rfl hlt (by decide) ?_
        rw [hm _ hlt]
        refine ok_lt ?_
        refine hs (k - 1) _ _ (by omega) ⟨d + 1, by omega, nI_1 _, hf.set rfl _ _, ?_⟩
        refine (hm.set (nbC a d) (mid nbC p a 4 d (nbC a d) + 1) (nI_1 _)).cg (fun i hi => ?_)
        unfold updN mid
        by_cases e : i = nbC a d
        · subst e
          rw [if_pos rfl, if_neg hb.2, if_neg hb.2]
          show _ = p (nbC a d) + (cn nbC a d (nbC a d) + if nbC a d = nbC a d then 1 else 0)
          rw [if_pos rfl]; omega
        · rw [if_neg e]
          show _ = if i = a then p i - 4 else p i + (cn nbC a d i + if nbC a d = i then 1 else 0)
          rw [if_neg (fun z => e z.symm : ¬ nbC a d = i)]; rfl
  · refine (h.set a (p a - 4) (pk_sub h4)).cg (fun i hi => ?_)
    show (if i = a then p a - 4 else p i) = if i = a then p i - 4 else p i + 0
    by_cases e : i = a
    · subst e; rw [if_pos rfl, if_pos rfl]
    · rw [if_neg e, if_neg e]; rfl
theorem pot_p {i : Nat} (hi : i < 16) : 4 * p i ≤ pot p := by
  have h1 := sm_mem (f := fun i => wgt i * p i) (k := i) 16 hi
  have h2 : 4 * p i ≤ wgt i * p i := Nat.mul_le_mul_right _ (by unfold wgt; split <;> omega)
  exact Nat.le_trans h2 h1
theorem pot_s {c : Nat} (h : pot p ≤ 1000) {i : Nat} (hi : i < 16) : p i < 2 ^ 20 := by have := pot_p (p := p) hi; omega
theorem cnt_le_len (l : List Nat) (a : Nat) : cnt l a ≤ l.length := List.count_le_length
theorem legal_one {l : List Nat} (hl : legal l p) (ha : a < 16) (h4 : 4 ≤ runT l p a) : legal (l ++ [a]) p := (legal_app _ _ _).mpr ⟨hl, ha, h4, True.intro⟩
theorem runT_one (l : List Nat) : runT (l ++ [a]) p = topl (runT l p) a := runT_app l [a] p
theorem cnt_one (l : List Nat) (b : Nat) : cnt (l ++ [a]) b = cnt l b + if b = a then 1 else 0 := by rw [cnt_app, cnt_cons, cnt_nil, Nat.zero_add]
/-- the toppling of the class, place by place -/
theorem k_toppleByPlaces (hN : 20000 ≤ N) (hne : a1 ≠ a0 + 2) (h : ArN μ a1 16 p) (hg : pot p ≤ 1000) : Ok (fX6_toppleByPlaces N μ a0 a1) (fun r => ∃ l, legal l p ∧ stab (runT l p) ∧ ArN r.1 a1 16 (runT l p) ∧ ArN r.1 (a0 + 2) 16 (cnt l) ∧ frm (fun q => q = a1 ∨ q = a0 + 2) μ r.1 ∧ r.2 = nI l.length ∧ l.length ≤ 500) := by
  unfold fX6_toppleByPlaces
  refine ok_fix2 (fun k x m => ∃ i, i + k = 16 ∧ x = nI i ∧ frm (fun q => q = a1 ∨ q = a0 + 2) μ m ∧ ArN m a1 16 p ∧ ArN m (a0 + 2) i (fun _ => 0)) ?_ N 16 _ _ (by omega) ⟨0, rfl, rfl, frm.rf, h, fun i hi => absurd hi (Nat.not_lt_zero _)⟩
  rintro k self x m ⟨i, hi, rfl, hf, hm, hz⟩ hs
  refine ok_le 16 i (f := fun hc => ?_) (g := fun hc => ?_)
  · have : i = 16 := by omega
    subst this
    clear hs
    refine ok_fix4 (fun k x6 x7 x8 m => ∃ l pl st, x6 = nI l.length ∧ x7 = nI pl ∧ x8 = nI st ∧ pl ≤ 16 ∧ legal l p ∧ (∀ i, i < pl → runT l p i ≤ 3) ∧ ArN m a1 16 (runT l p) ∧ ArN m (a0 + 2) 16 (cnt l) ∧ frm (fun q => q = a1 ∨ q = a0 + 2) μ m ∧ k = 17 * pot (runT l p) + (16 - pl) ∧ st + k ≤ 17 * 1000 + 16) ?_ N (17 * pot p + 16) _ _ _ _ (by omega) ⟨[], 0, 0, rfl, rfl, rfl, by omega, True.intro, fun i hi => absurd hi (Nat.not_lt_zero _), hm, hz.cg (fun i _ => (cnt_nil i).symm), hf, rfl, by omega⟩
    rintro k self x6 x7 x8 m ⟨l, pl, st, rfl, rfl, rfl, hpl, hl, hst, hm, ht, hf, hk, hb⟩ hs
    have hpr := pot_run l p hl
    have hend : 16 ≤ pl → Ok (some (m, nI l.length)) (fun r : Mem × Int32 => ∃ l, legal l p ∧ stab (runT l p) ∧ ArN r.1 a1 16 (runT l p) ∧ ArN r.1 (a0 + 2) 16 (cnt l) ∧ frm (fun q => q = a1 ∨ q = a0 + 2) μ r.1 ∧ r.2 = nI l.length ∧ l.length ≤ 500) := fun hc => ok_some ⟨l, hl, fun i hi => hst i (by omega), hm, ht, hf, rfl, by omega⟩
    refine ok_jn ?_
    refine ok_le 1000000 st (f := fun hc => by omega) (g := fun _ => ?_)
    refine ok_le 16 pl (f := fun hc => hend hc) (g := fun hc => ?_)
    refine ok_ag pl rfl hc (by decide) ?_
    rw [hm pl hc]
    have hsm := pot_s (c := 0) (p := runT l p) (by omega) hc
    refine ok_jn ?_
    refine ok_ltI (runT l p pl) 4 (f := fun h3 => ?_) (g := fun h4 => ?_)
    · refine ok_lt (ok_lt ?_)
      exact hs (k - 1) _ _ _ _ (by omega) ⟨l, pl + 1, st + 1, rfl, nI_1 _, nI_1 _, by omega, hl, fun i hi => by
        by_cases e : i = pl
        · subst e; omega
        · exact hst i (by omega), hm, ht, hf, by omega, by omega⟩
    · refine ok_bind (k_toppleOnce (by omega) hc hm h4) ?_
      rintro m1 ⟨hm1, hf1⟩
      have ht1 : ArN m1 (a0 + 2) 16 (cnt l) := ht.mv (hf1 (a0 + 2) (fun z => hne z.symm))
      refine ok_ag pl rfl hc (by decide) ?_
      refine ok_aw pl rfl hc (by decide) ?_
      rw [ht1 pl hc]
      refine ok_lt (ok_lt ?_)
      have hp1 := pot_topl hc h4
      refine hs (17 * pot (topl (runT l p) pl) + 16) _ _ _ _ (by omega) ⟨l ++ [pl], 0, st + 1, by rw [List.length_append]; exact nI_1 _, rfl, nI_1 _, by omega, legal_one hl hc h4, fun i hi => absurd hi (Nat.not_lt_zero _), ?_, ?_, ?_, by rw [runT_one], by omega⟩
      · rw [runT_one]
        exact hm1.mv (mset_ne _ _ _ _ hne)
      · refine (ht1.set pl (cnt l pl + 1) (nI_1 _)).cg (fun i hi => ?_)
        rw [cnt_one]
        unfold updN
        by_cases e : i = pl
        · subst e; rw [if_pos rfl, if_pos rfl]
        · rw [if_neg e, if_neg e]; rfl
      · exact (hf.tr (hf1.mono (fun q hq => Or.inl hq))).set (Or.inr rfl) _ _
  · refine ok_aw i rfl hc (by decide) ?_
    refine ok_lt ?_
    refine hs (k - 1) _ _ (by omega) ⟨i + 1, by omega, nI_1 _, hf.set (Or.inr rfl) _ _, hm.mv (mset_ne _ _ _ _ hne), fun j hj => ?_⟩
    rw [mset_if]
    by_cases e : j = i
    · rw [if_pos e]; rfl
    · rw [if_neg e]; exact hz j (by omega)
end SC
