/-! Pure layer, 15: the reference's next room and least sums. -/
section WN
variable {N : Nat} {μ : Mem} {a0 n s t : Nat} {mn ht : Nat → Nat → Nat} {d F S : Nat → Nat}
/-- class and reference agree on the least pairs -/
theorem ag_of (hg : gOK n mn ht) (ht1 : t < n) (h8 : d8 n mn t d) (hW : mW n mn t F S) {b : Nat} (hb : b < 6) : (b < n ∧ d b < cFA ∧ F b = d b / 8 ∧ S b = d b % 8 ∧ F b < 100000) ∨ ((b < n → d b = cFA) ∧ F b = 100000) := by
  rcases hW b hb with ⟨h1, h2⟩ | ⟨h1, h2⟩
  · have hbn := wk_lt ht1 _ _ _ h2.1
    rcases lex8 ht1 h8.1 h8.2.1 hbn with ⟨h3, h4, -⟩ | ⟨h3, h4⟩
    · have := isL_eq h2 h4
      have hle := (h8.2.2 b hbn).1
      exact Or.inl ⟨hbn, by omega, this.1, this.2, h1⟩
    · exact absurd h2.1 (h4 _ _)
  · refine Or.inr ⟨fun hbn => ?_, h1⟩
    rcases lex8 ht1 h8.1 h8.2.1 hbn with ⟨h3, h4, -⟩ | ⟨h3, h4⟩
    · exact absurd h4.1 (h2 _ _)
    · exact h3
theorem k_next {room : Nat} (hN : 20 ≤ N) (hg : gOK n mn ht) (h : mG μ a0 n mn ht) (ht1 : t < n) (h8 : d8 n mn t d) (hW : mW n mn t F S) (hF : ArN μ (a0 + 5) 6 F) (hS : ArN μ (a0 + 6) 6 S) (hb : ∀ b, b < 6 → S b ≤ 100000 ∧ F b ≤ 100000) (hr : room < n) (hne : d room < cFA) (hrt : room ≠ t) : Ok (fX11_next N μ a0 (nI room)) (fun r => r = nI (nx n mn d room)) := by
  have hn := hg.1
  have hr6 : room < 6 := by omega
  have hnx := nx_ok hg h8 ht1 hr hne hrt
  have hQ : ∀ i, i < 6 → ((0 < mn room i ∧ F i + mn room i = F room ∧ S i + 1 = S room) ↔ (i < n ∧ nxP mn d room i = true)) := fun i hi => by
    have hroom := ag_of hg ht1 h8 hW hr6
    have hmm := hg.2 room i
    rcases hroom with ⟨-, -, r1, r2, r3⟩ | ⟨r1, -⟩
    · constructor
      · rintro ⟨q1, q2, q3⟩
        have hin := (hmm.2.2.2.2 q1).2.1
        refine ⟨hin, decide_eq_true ⟨q1, ?_⟩⟩
        rcases ag_of hg ht1 h8 hW hi with ⟨-, -, i1, i2, -⟩ | ⟨-, i2⟩
        · omega
        · omega
      · rintro ⟨hin, q⟩
        have q := of_decide_eq_true q
        obtain ⟨q1, q2⟩ := q
        refine ⟨q1, ?_⟩
        have hdi : d i < cFA := by omega
        have h6 := (d8_lex h8 ht1 hin hdi).2
        rcases ag_of hg ht1 h8 hW hi with ⟨-, -, i1, i2, -⟩ | ⟨i1, -⟩
        · omega
        · have := i1 hin; omega
    · have := r1 hr; omega
  unfold fX11_next
  refine ok_fix2 (fun k x1 x2 => ∃ i, i = k ∧ i ≤ 6 ∧ x2 = nI i + (-1) ∧ ((x1 = -1 ∧ ∀ j, i ≤ j → j < 6 → ¬ (j < n ∧ nxP mn d room j = true)) ∨ ∃ j, i ≤ j ∧ j < 6 ∧ (j < n ∧ nxP mn d room j = true) ∧ x1 = nI j ∧ ∀ j', i ≤ j' → j' < j → ¬ (j' < n ∧ nxP mn d room j' = true))) ?_ N 6 _ _ (by omega) ⟨6, rfl, by omega, by decide, Or.inl ⟨rfl, fun j h1 h2 => by omega⟩⟩
  rintro k self x1 x2 ⟨i, rfl, hi, rfl, hor⟩ hs1
  by_cases h0 : i = 0
  · subst h0
    refine ok_ifT (by decide) ?_
    refine ok_some ?_
    rcases hor with ⟨-, hno⟩ | ⟨j, -, hj6, hj, rfl, hlo⟩
    · exfalso
      exact hno (nx n mn d room) (by omega) (by omega) ⟨hnx.1, (fs_spec (P := nxP mn d room) n).1 hnx.1⟩
    · have : nx n mn d room = j := fs_eq hj.1 hj.2 (fun i hi => by
        have := hlo i (Nat.zero_le _) hi
        cases hp : nxP mn d room i
        · rfl
        · exact absurd ⟨by omega, hp⟩ this)
      rw [this]
  · obtain ⟨i', rfl⟩ : ∃ i', i = i' + 1 := ⟨i - 1, by omega⟩
    have e1 : nI (i' + 1) + (-1) = nI i' := pk_m1 i'
    rw [e1]
    refine ok_ifF (nI_pos (by omega)) ?_
    refine ok_bindE (m_leg h room i' hr6 (by omega) rfl rfl) ?_
    have hmr := (hg.2 room i').1
    obtain ⟨b1, b2⟩ := hb i' (by omega)
    obtain ⟨b3, b4⟩ := hb room hr6
    refine ok_jn1 (fun y : Bool => y = true ↔ (i' < n ∧ nxP mn d room i' = true)) (fun y hy => ?_) (fun j8 hj8 => ?_)
    · refine ok_jn1 (fun v : Int32 => v = if y = true then nI i' else x1) (fun v hv => ?_) (fun j12 hj12 => ?_)
      · subst hv
        refine ok_lt ?_
        refine hs1 i' _ _ (by omega) ⟨i', rfl, by omega, rfl, ?_⟩
        by_cases hyy : y = true
        · rw [if_pos hyy]
          exact Or.inr ⟨i', Nat.le_refl _, by omega, hy.mp hyy, rfl, fun j' h1 h2 => by omega⟩
        · rw [if_neg hyy]
          have hni : ¬ (i' < n ∧ nxP mn d room i' = true) := fun z => hyy (hy.mpr z)
          rcases hor with ⟨hx, hno⟩ | ⟨j, h1, h2, h3, h4, h5⟩
          · exact Or.inl ⟨hx, fun j h1 h2 => by
              by_cases e : j = i'
              · subst e; exact hni
              · exact hno j (by omega) h2⟩
          · exact Or.inr ⟨j, by omega, h2, h3, h4, fun j' h6 h7 => by
              by_cases e : j' = i'
              · subst e; exact hni
              · exact h5 j' (by omega) h7⟩
      · refine ok_cd (fun hyy => hj12 _ (by rw [if_pos hyy])) (fun hyy => hj12 _ (by rw [if_neg (by rw [hyy]; decide)]))
    · refine ok_jn1 (fun _ : Unit => ¬ (i' < n ∧ nxP mn d room i' = true)) (fun _ hz => hj8 false ⟨fun z => (by cases z), fun z => absurd z hz⟩) (fun j19 hj19 => ?_)
      have hQ1 := hQ i' (by omega)
      refine ok_le (mn room i') 0 (f := fun hq => hj19 () (fun z => by have := hQ1.mpr z; omega)) (g := fun hq => ?_)
      refine ok_ag i' rfl (by omega) (by decide) ?_
      refine ok_bindE (m_leg h room i' hr6 (by omega) rfl rfl) ?_
      refine ok_ag room rfl (by omega) (by decide) ?_
      rw [hF i' (by omega), hF room hr6, nI_add]
      refine ok_eqI (F i' + mn room i') (F room) (f := fun hq2 => ?_) (g := fun hq2 => hj19 () (fun z => by have := hQ1.mpr z; omega))
      refine ok_ag i' rfl (by omega) (by decide) ?_
      refine ok_ag room rfl (by omega) (by decide) ?_
      rw [hS i' (by omega), hS room hr6, nI_1]
      exact ok_eqI (S i' + 1) (S room) (f := fun hq3 => hj8 true ⟨fun _ => hQ1.mp ⟨hq, hq2, hq3⟩, fun _ => rfl⟩) (g := fun hq3 => hj19 () (fun z => by have := hQ1.mpr z; omega))
/-- least sums in rounds, from the end -/
def bfM (n : Nat) (mn f : Nat → Nat → Nat) (t B : Nat) (d : Nat → Nat) : Prop := d t = 0 ∧ ∀ b, b < 6 → d b ≤ 100000 ∧ (d b < 100000 → d b ≤ B ∧ ∃ k, wk (eg n mn f) k t b (d b))
theorem bfM_up {f : Nat → Nat → Nat} {B B' : Nat} (h : bfM n mn f t B d) (hB : B ≤ B') : bfM n mn f t B' d := ⟨h.1, fun b hb => ⟨(h.2 b hb).1, fun hlt => by
  obtain ⟨h1, h2⟩ := (h.2 b hb).2 hlt
  exact ⟨by omega, h2⟩⟩⟩
theorem bfM_end {f : Nat → Nat → Nat} (hn : n ≤ 6) (ht1 : t < n) (hf8 : ∀ a b, f a b ≤ 800) (hI : bfM n mn f t 6000 d) (hk : ∀ k, k ≤ 6 → ∀ b w, wk (eg n mn f) k t b w → d b ≤ w) : isD (eg n mn f) n t 100000 d := by
  obtain ⟨D, hD, hD6, hDb⟩ := dij_ex (mn := mn) hn ht1 hf8
  have hFA : cFA = 1000000 := rfl
  intro b hb
  have hb1 := (hI.2 b (by omega)).1
  have hDb1 := hDb b hb
  rcases hD b hb with ⟨n1, ⟨k1, w1⟩, l1⟩ | ⟨n1, l1⟩
  · obtain ⟨k6, hk6, w6⟩ := hD6 b hb n1
    have h2 := hk k6 (by omega) b _ w6
    have h3 : d b < 100000 := by omega
    exact Or.inl ⟨by omega, ((hI.2 b (by omega)).2 h3).2, fun k w hw => Nat.le_trans h2 (l1 k w hw)⟩
  · refine Or.inr ⟨?_, l1⟩
    refine Classical.byContradiction fun hne => ?_
    obtain ⟨-, k, w⟩ := (hI.2 b (by omega)).2 (by omega)
    exact l1 _ _ w
/-- what a question's answer is: r, or -1 with the second exception -/
def Rt (μ : Mem) (a0 : Nat) (ans r : Int32) : Prop := (r = -1 ∧ μ a0 6 = 2 ∧ ans = 0) ∨ (r ≠ -1 ∧ μ a0 6 = 0 ∧ ans = r)
theorem k_isThere {b : Bool} : Ok (fX11_isThere N μ a0 b) (fun r => r = (mset μ a0 6 (nI (!b).toNat), b)) := by
  unfold fX11_isThere
  refine ok_jn1 (fun y : Bool => y = !b) (fun y hy => ?_) (fun j hj => ?_)
  · subst hy
    refine ok_lt (ok_some ?_)
    rw [b2i_nI]
  · cases b
    · exact hj true rfl
    · exact hj false rfl
theorem k_in {x : Int32} {lo hi : Int32} : Ok (fX11_in N μ x lo hi) (fun r => r = decide (lo ≤ x ∧ x ≤ hi)) := by
  unfold fX11_in
  refine ok_jn1 (fun y : Bool => y = decide (lo ≤ x ∧ x ≤ hi)) (fun y hy => ok_some hy) (fun j2 hj2 => ?_)
  refine ok_jn1 (fun _ : Unit => ¬ (lo ≤ x ∧ x ≤ hi)) (fun _ hz => hj2 false (decide_eq_false hz).symm) (fun j6 hj6 => ?_)
  refine ok_if (fun h1 => hj6 () (fun z => ?_)) (fun h1 => ?_)
  · have a1 := Int32.lt_iff_toInt_lt.mp h1
    have a2 := Int32.le_iff_toInt_le.mp z.1
    omega
  · refine ok_if (fun h2 => hj6 () (fun z => ?_)) (fun h2 => hj2 true (decide_eq_true ⟨?_, ?_⟩).symm)
    · have a1 := Int32.lt_iff_toInt_lt.mp h2
      have a2 := Int32.le_iff_toInt_le.mp z.2
      omega
    · exact Int32.le_iff_toInt_le.mpr (Int.not_lt.mp fun z => h1 (Int32.lt_iff_toInt_lt.mpr z))
    · exact Int32.le_iff_toInt_le.mpr (Int.not_lt.mp fun z => h2 (Int32.lt_iff_toInt_lt.mpr z))
end WN
