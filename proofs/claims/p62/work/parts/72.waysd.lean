/-! Pure layer, 12: the class's ways: answers, the table, rounds. -/
/-- r answers the least sum of a walk from s to t, or -1 -/
def Rm (E : Nat → Nat → Nat → Prop) (s t : Nat) (r : Int32) : Prop := (∃ F, (∃ k, wk E k s t F) ∧ (∀ k w, wk E k s t w → F ≤ w) ∧ F ≤ 7000 ∧ r = nI F) ∨ ((∀ k w, ¬ wk E k s t w) ∧ r = -1)
theorem Rm_eq {E : Nat → Nat → Nat → Prop} {s t : Nat} {r r' : Int32} (h : Rm E s t r) (h' : Rm E s t r') : r = r' := by
  rcases h with ⟨F, ⟨k, w⟩, l, -, rfl⟩ | ⟨l, rfl⟩ <;> rcases h' with ⟨F', ⟨k', w'⟩, l', -, rfl⟩ | ⟨l', rfl⟩
  · rw [Nat.le_antisymm (l _ _ w') (l' _ _ w)]
  · exact absurd w (l' _ _)
  · exact absurd w' (l _ _)
  · rfl
theorem Rm_of {E : Nat → Nat → Nat → Prop} {n s t FB : Nat} {d : Nat → Nat} (h : isD E n s FB d) (ht : t < n) (hb : d t ≠ FB → d t ≤ 7000) : (d t ≠ FB ∧ Rm E s t (nI (d t))) ∨ (d t = FB ∧ Rm E s t (-1)) := by
  rcases h t ht with ⟨h1, h2, h3⟩ | ⟨h1, h2⟩
  · exact Or.inl ⟨h1, Or.inl ⟨_, h2, h3, hb h1, rfl⟩⟩
  · exact Or.inr ⟨h1, Or.inr ⟨h2, rfl⟩⟩
theorem eg_sym {n : Nat} {mn f : Nat → Nat → Nat} (hm : ∀ a b, mn a b = mn b a) (hf : ∀ a b, f a b = f b a) : ∀ a b u, eg n mn f a b u → eg n mn f b a u := fun a b u h => ⟨h.2.1, h.1, by rw [hm]; exact h.2.2.1, by rw [h.2.2.2, hf]⟩
theorem Rm_rev {E : Nat → Nat → Nat → Prop} (hs : ∀ a b u, E a b u → E b a u) {s t : Nat} {r : Int32} (h : Rm E s t r) : Rm E t s r := by
  rcases h with ⟨F, ⟨k, w⟩, l, hb, rfl⟩ | ⟨l, rfl⟩
  · exact Or.inl ⟨F, ⟨k, wk_rev hs _ _ _ w⟩, fun k w hw => l k w (wk_rev hs _ _ _ hw), hb, rfl⟩
  · exact Or.inr ⟨fun k w hw => l k w (wk_rev hs _ _ _ hw), rfl⟩
/-- there are least sums -/
theorem dij_ex {n s : Nat} {mn f : Nat → Nat → Nat} (hn : n ≤ 6) (hs : s < n) (hf : ∀ a b, f a b ≤ 800) : ∃ d, isD (eg n mn f) n s cFA d ∧ (∀ b, b < n → d b ≠ cFA → ∃ k, k ≤ 5 ∧ wk (eg n mn f) k s b (d b)) ∧ ∀ b, b < n → d b ≤ cFA ∧ (d b < cFA → d b ≤ 4800) := by
  have := k_settleFrom (N := 10) (μ := fun o b => nI (cst mn f (o - 3) b)) (a0 := 0) (s := s) (n := n) (mn := mn) (f := f) (Nat.le_refl _) hn hs hf (fun a _ b _ => by
    show nI (cst mn f (0 + 2 + 1 + 1 * a - 3) b) = _
    rw [show 0 + 2 + 1 + 1 * a - 3 = a by omega])
  obtain ⟨_, -, d, h1, h2, h3, -⟩ := this
  exact ⟨d, h1, h2, h3⟩
section WD
variable {N : Nat} {μ : Mem} {a0 a1 a2 n s t : Nat} {mn ht : Nat → Nat → Nat}
abbrev wFr (a0 : Nat) : Nat → Prop := fun q => a0 ≤ q ∧ q < a0 + 18
theorem g800 (hg : gOK n mn ht) : ∀ a b, mn a b * 8 + 1 ≤ 800 := fun a b => by have := (hg.2 a b).1; omega
theorem k_minutesBySettling (hN : 10 ≤ N) (hg : gOK n mn ht) (h : cG μ a1 n mn ht) (hsep : a1 + 17 ≤ a0) (hs : s < n) (ht1 : t < n) : Ok (fX9_minutesBySettling N μ a0 a1 (nI s) (nI t)) (fun r => Rm (eg n mn mn) s t r.2 ∧ frm (wFr a0) μ r.1) := by
  have hn := hg.1
  have hFA : cFA = 1000000 := rfl
  unfold fX9_minutesBySettling
  refine ok_bind (k_weighMinutes hN hg h hsep) ?_
  rintro m1 ⟨hr, hf1⟩
  have hgm : cG m1 a1 n mn ht := h.mv (fun q h1 h2 => hf1 q (by omega))
  rw [hgm.1]
  refine ok_bind (k_settleFrom hN hn hs (g800 hg) hr) ?_
  rintro m2 ⟨d, hd, h6, hb, hm2, hf2⟩
  have hF : frm (wFr a0) μ m2 := (hf1.mono (fun q hq => by show a0 ≤ q ∧ q < a0 + 18; omega)).tr (hf2.mono (fun q hq => by show a0 ≤ q ∧ q < a0 + 18; omega))
  refine ok_ag t rfl (by omega) (by decide) ?_
  rw [hm2 t ht1]
  have hbt := hb t ht1
  refine ok_jn ?_
  refine ok_ltI (d t) cFA (f := fun hc => ?_) (g := fun hc => ?_)
  · refine ok_ag t rfl (by omega) (by decide) ?_
    rw [hm2 t ht1, show (8 : Int32) = nI 8 from rfl, pk_div (by omega) (by decide) (by decide)]
    refine ok_some ⟨?_, hF⟩
    rcases lex8 hs hd h6 ht1 with ⟨-, hl, -⟩ | ⟨h1, -⟩
    · exact Or.inl ⟨d t / 8, ⟨_, hl.1⟩, fun k w hw => by have := hl.2 k w hw; omega, by omega, rfl⟩
    · omega
  · refine ok_some ⟨?_, hF⟩
    rcases lex8 hs hd h6 ht1 with ⟨h1, -, -⟩ | ⟨h1, h2⟩
    · omega
    · exact Or.inr ⟨h2, rfl⟩
theorem k_passedBySettling {lim : Nat} (hN : 10 ≤ N) (hl : lim < 2 ^ 30) (hg : gOK n mn ht) (h : cG μ a1 n mn ht) (hsep : a1 + 17 ≤ a0) (hex : μ a2 0 = nI s ∧ μ a2 1 = nI lim) (hsep2 : a2 < a0) (hs : s < n) (ht1 : t < n) : Ok (fX9_passedBySettling N μ a0 a1 a2 (nI t)) (fun r => Rm (eg n mn (fun a b => ht a b - lim)) s t r.2 ∧ frm (wFr a0) μ r.1) := by
  have hn := hg.1
  have hFA : cFA = 1000000 := rfl
  unfold fX9_passedBySettling
  rw [hex.2]
  refine ok_bind (k_weighPassed hN hl hg h hsep) ?_
  rintro m1 ⟨hr, hf1⟩
  have hgm : cG m1 a1 n mn ht := h.mv (fun q h1 h2 => hf1 q (by omega))
  rw [hgm.1, hf1 a2 (by omega), hex.1]
  refine ok_bind (k_settleFrom hN hn hs (fun a b => by have := (hg.2 a b).2.1; omega) hr) ?_
  rintro m2 ⟨d, hd, h6, hb, hm2, hf2⟩
  have hF : frm (wFr a0) μ m2 := (hf1.mono (fun q hq => by show a0 ≤ q ∧ q < a0 + 18; omega)).tr (hf2.mono (fun q hq => by show a0 ≤ q ∧ q < a0 + 18; omega))
  refine ok_ag t rfl (by omega) (by decide) ?_
  rw [hm2 t ht1]
  have hbt := hb t ht1
  refine ok_jn ?_
  have hR := Rm_of hd ht1 (by omega)
  refine ok_ltI (d t) cFA (f := fun hc => ?_) (g := fun hc => ?_)
  · refine ok_ag t rfl (by omega) (by decide) ?_
    rw [hm2 t ht1]
    refine ok_some ⟨?_, hF⟩
    rcases hR with ⟨-, h1⟩ | ⟨h1, -⟩
    · exact h1
    · omega
  · refine ok_some ⟨?_, hF⟩
    rcases hR with ⟨h1, -⟩ | ⟨-, h1⟩
    · omega
    · exact h1
/-! The table. -/
def fwI (n : Nat) (mn : Nat → Nat → Nat) (k : Nat) (T : Nat → Nat → Nat) : Prop := (∀ a, a < n → T a a = 0) ∧ (∀ a, a < n → ∀ b, b < n → T a b ≤ cFA) ∧ (∀ a, a < n → ∀ b, b < n → 0 < mn a b → T a b ≤ mn a b) ∧ (∀ a, a < n → ∀ b, b < n → T a b < cFA → T a b ≤ 99 * 2 ^ k ∧ ∃ j, wk (eg n mn mn) j a b (T a b)) ∧ ∀ a, a < n → ∀ b, b < n → ∀ c, c < k → T a b ≤ T a c + T c b
def fwS (k : Nat) (T : Nat → Nat → Nat) : Nat → Nat → Nat := fun a b => min (T a b) (T a k + T k b)
theorem fw_step {k : Nat} {T : Nat → Nat → Nat} (h : fwI n mn k T) (hk : k < n) : fwI n mn (k + 1) (fwS k T) := by
  obtain ⟨h0, hle, he, hat, htr⟩ := h
  refine ⟨fun a ha => ?_, fun a ha b hb => ?_, fun a ha b hb hm => ?_, fun a ha b hb hlt => ?_, fun a ha b hb c hc => ?_⟩
  · unfold fwS; rw [h0 a ha]; exact Nat.zero_min _
  · unfold fwS; have := hle a ha b hb; omega
  · unfold fwS; have := he a ha b hb hm; omega
  · unfold fwS at hlt ⊢
    by_cases c : T a b ≤ T a k + T k b
    · rw [Nat.min_eq_left c] at hlt ⊢
      obtain ⟨h1, h2⟩ := hat a ha b hb hlt
      exact ⟨by rw [Nat.pow_succ]; omega, h2⟩
    · rw [Nat.min_eq_right (by omega)] at hlt ⊢
      obtain ⟨h1, j1, w1⟩ := hat a ha k hk (by omega)
      obtain ⟨h2, j2, w2⟩ := hat k hk b hb (by omega)
      exact ⟨by rw [Nat.pow_succ]; omega, j1 + j2, wk_app w1 _ _ _ w2⟩
  · unfold fwS
    by_cases e : c = k
    · subst e
      have hcc := h0 c hk
      omega
    · have t1 := htr a ha b hb c (by omega)
      have t2 := htr a ha k hk c (by omega)
      have t3 := htr k hk b hb c (by omega)
      omega
theorem fw_end {T : Nat → Nat → Nat} (h : fwI n mn n T) (hn : n ≤ 6) (hm : ∀ a b, mn a b ≤ 99) (hs : s < n) : isD (eg n mn mn) n s cFA (T s) ∧ ∀ b, b < n → T s b ≤ cFA ∧ (T s b ≠ cFA → T s b ≤ 7000) := by
  obtain ⟨h0, hle, he, hat, htr⟩ := h
  have hFA : cFA = 1000000 := rfl
  have hp : 99 * 2 ^ n ≤ 99 * 2 ^ 6 := Nat.mul_le_mul_left _ (Nat.pow_le_pow_right (by decide) hn)
  refine ⟨isD_of (BD := 7000) hs (h0 s hs) (fun b hb => hle s hs b hb) (fun b hb hlt => ?_) (fun a b ha hb hmm _ => ?_) (fun a b => by have := hm a b; omega) (by decide), fun b hb => ⟨hle s hs b hb, fun hne => ?_⟩⟩
  · obtain ⟨h1, h2⟩ := hat s hs b hb hlt
    exact ⟨by omega, h2⟩
  · have := htr s hs b hb a ha
    have := he a ha b hb hmm
    omega
  · have h1 := hle s hs b hb
    have := (hat s hs b hb (by omega)).1
    omega
theorem k_shortenOver {k : Nat} {T : Nat → Nat → Nat} (hN : 10 ≤ N) (hn : n ≤ 6) (hk : k < n) (h0 : T k k = 0) (hle : ∀ a, a < n → ∀ b, b < n → T a b ≤ cFA) (h : RowsN μ (a0 + 9) n T) : Ok (fX9_shortenOver N μ a0 (nI k) (nI n)) (fun m => RowsN m (a0 + 9) n (fwS k T) ∧ frm (fun q => a0 + 9 < q ∧ q < a0 + 16) μ m) := by
  have hFA : cFA = 1000000 := rfl
  have hSk : ∀ a, fwS k T a k = T a k := fun a => by unfold fwS; rw [h0]; omega
  have hSk2 : ∀ b, fwS k T k b = T k b := fun b => by unfold fwS; rw [h0]; omega
  unfold fX9_shortenOver
  refine ok_fix2 (fun kk x m => ∃ i, i + kk = n ∧ x = nI i ∧ frm (fun q => a0 + 9 < q ∧ q < a0 + 16) μ m ∧ ∀ a, a < n → ∀ b, b < n → m (a0 + 9 + 1 + 1 * a) b = nI (if a < i then fwS k T a b else T a b)) ?_ N n _ _ (by omega) ⟨0, by omega, rfl, frm.rf, h⟩
  rintro kk self x m ⟨i, hi, rfl, hf, hm⟩ hs
  refine ok_le n i (f := fun hc => ?_) (g := fun hc => ?_)
  · exact ok_some ⟨fun a ha b hb => by rw [hm a ha b hb, if_pos (by omega)], hf⟩
  · refine ok_fix2 (fun k2 y m => ∃ j, j + k2 = n ∧ y = nI j ∧ frm (fun q => a0 + 9 < q ∧ q < a0 + 16) μ m ∧ ∀ a, a < n → ∀ b, b < n → m (a0 + 9 + 1 + 1 * a) b = nI (if a < i ∨ (a = i ∧ b < j) then fwS k T a b else T a b)) ?_ N n _ _ (by omega) ⟨0, by omega, rfl, hf, fun a ha b hb => ?_⟩
    · rintro k2 self2 y m ⟨j, hj, rfl, hf, hm⟩ hs2
      refine ok_le n j (f := fun hd => ?_) (g := fun hd => ?_)
      · refine ok_lt ?_
        refine hs (kk - 1) _ _ (by omega) ⟨i + 1, by omega, nI_1 _, hf, fun a ha b hb => ?_⟩
        rw [hm a ha b hb]
        by_cases c : a < i + 1
        · rw [if_pos c, if_pos (by omega)]
        · rw [if_neg c, if_neg (by omega)]
      · refine ok_ar i rfl (by omega) (by decide) ?_
        refine ok_ar i rfl (by omega) (by decide) ?_
        refine ok_ag j rfl (by omega) (by decide) ?_
        refine ok_ar i rfl (by omega) (by decide) ?_
        refine ok_ag k rfl (by omega) (by decide) ?_
        refine ok_ar k rfl (by omega) (by decide) ?_
        refine ok_ag j rfl (by omega) (by decide) ?_
        rw [hm i hc j hd, hm i hc k hk, hm k hk j hd, if_neg (show ¬ (i < i ∨ (i = i ∧ j < j)) by omega)]
        have e1 : (if i < i ∨ (i = i ∧ k < j) then fwS k T i k else T i k) = T i k := by split; exact hSk i; rfl
        have e2 : (if k < i ∨ (k = i ∧ j < j) then fwS k T k j else T k j) = T k j := by split; exact hSk2 j; rfl
        have b1 := hle i hc j hd
        have b2 := hle i hc k hk
        have b3 := hle k hk j hd
        rw [e1, e2, nI_add, imin_nI (by omega) (by omega)]
        refine ok_aw j rfl (by omega) (by decide) ?_
        refine ok_lt ?_
        refine hs2 (k2 - 1) _ _ (by omega) ⟨j + 1, by omega, nI_1 _, frm.set (X := fun q => a0 + 9 < q ∧ q < a0 + 16) hf (by omega) _ _, fun a ha b hb => ?_⟩
        rw [mset_el]
        by_cases e : a = i ∧ b = j
        · rw [if_pos (by omega), if_pos (by omega), e.1, e.2]; rfl
        · rw [if_neg (by omega), hm a ha b hb]
          by_cases c : a < i ∨ (a = i ∧ b < j)
          · rw [if_pos c, if_pos (by omega)]
          · rw [if_neg c, if_neg (by omega)]
    · rw [hm a ha b hb]
      by_cases c : a < i
      · rw [if_pos c, if_pos (by omega)]
      · rw [if_neg c, if_neg (by omega)]
theorem k_fillTable (hN : 10 ≤ N) (hg : gOK n mn ht) (h : cG μ a1 n mn ht) (hsep : a1 + 17 ≤ a0) : Ok (fX9_fillTable N μ a0 a1) (fun m => ∃ T, RowsN m (a0 + 9) n T ∧ (∀ s, s < n → isD (eg n mn mn) n s cFA (T s) ∧ ∀ b, b < n → T s b ≤ cFA ∧ (T s b ≠ cFA → T s b ≤ 7000)) ∧ frm (wFr a0) μ m ∧ frm (fun q => a0 + 9 < q ∧ q < a0 + 16) μ m) := by
  have hn := hg.1
  have hFA : cFA = 1000000 := rfl
  unfold fX9_fillTable
  refine ok_fix2 (fun k x m => ∃ i, i + k = n ∧ x = nI i ∧ frm (fun q => a0 + 9 < q ∧ q < a0 + 16) μ m ∧ ∀ a, a < i → ∀ b, b < n → m (a0 + 9 + 1 + 1 * a) b = nI (if a = b then 0 else cst mn mn a b)) ?_ N n _ _ (by omega) ⟨0, by omega, rfl, frm.rf, fun a ha => absurd ha (Nat.not_lt_zero _)⟩
  rintro k self x m ⟨i, hi, rfl, hf, hm⟩ hs
  have hgm : cG m a1 n mn ht := h.mv (fun q h1 h2 => hf q (by omega))
  rw [hgm.1]
  refine ok_le n i (f := fun hc => ?_) (g := fun hc => ?_)
  · have : i = n := by omega
    subst this
    have hI0 : fwI i mn 0 (fun a b => if a = b then 0 else cst mn mn a b) := by
      refine ⟨fun a _ => if_pos rfl, fun a _ b _ => ?_, fun a _ b _ hmm => ?_, fun a ha b hb hlt => ?_, fun a _ b _ c hc => absurd hc (Nat.not_lt_zero _)⟩
      · dsimp only
        have := (hg.2 a b).1
        unfold cst
        split
        · omega
        · split <;> omega
      · have := (hg.2 a b).2.2.2.2 hmm
        dsimp only
        rw [if_neg this.2.2]
        unfold cst
        rw [if_pos hmm]; exact Nat.le_refl _
      · dsimp only at hlt ⊢
        by_cases e : a = b
        · subst e; rw [if_pos rfl]; exact ⟨by omega, 0, rfl, rfl⟩
        · rw [if_neg e] at hlt ⊢
          unfold cst at hlt ⊢
          by_cases hmm : 0 < mn a b
          · rw [if_pos hmm]
            have := (hg.2 a b).1
            exact ⟨by omega, 1, a, 0, mn a b, ⟨rfl, rfl⟩, ⟨ha, hb, hmm, rfl⟩, by omega⟩
          · rw [if_neg hmm] at hlt; omega
    refine ok_fix2 (fun k2 y m => ∃ j T, j + k2 = i ∧ y = nI j ∧ fwI i mn j T ∧ RowsN m (a0 + 9) i T ∧ frm (fun q => a0 + 9 < q ∧ q < a0 + 16) μ m) ?_ N i _ _ (by omega) ⟨0, _, by omega, rfl, hI0, fun a ha b hb => hm a ha b hb, hf⟩
    rintro k2 self2 y m ⟨j, T, hj, rfl, hI, hT, hf⟩ hs2
    have hgm : cG m a1 i mn ht := h.mv (fun q h1 h2 => hf q (by omega))
    rw [hgm.1]
    refine ok_le i j (f := fun hd => ?_) (g := fun hd => ?_)
    · have : j = i := by omega
      subst this
      exact ok_some ⟨T, hT, fun s hs => fw_end hI hn (fun a b => (hg.2 a b).1) hs, hf.mono (fun q hq => by show a0 ≤ q ∧ q < a0 + 18; omega), hf⟩
    · refine ok_bind (k_shortenOver hN hn hd (hI.1 j hd) hI.2.1 hT) ?_
      rintro m2 ⟨hT2, hf2⟩
      refine ok_lt ?_
      exact hs2 (k2 - 1) _ _ (by omega) ⟨j + 1, fwS j T, by omega, nI_1 _, fw_step hI hd, hT2, hf.tr hf2⟩
  · refine ok_fix2 (fun k2 y m => ∃ j, j + k2 = n ∧ y = nI j ∧ frm (fun q => a0 + 9 < q ∧ q < a0 + 16) μ m ∧ (∀ a, a < i → ∀ b, b < n → m (a0 + 9 + 1 + 1 * a) b = nI (if a = b then 0 else cst mn mn a b)) ∧ ∀ b, b < j → m (a0 + 9 + 1 + 1 * i) b = nI (cst mn mn i b)) ?_ N n _ _ (by omega) ⟨0, by omega, rfl, hf, hm, fun b hb => absurd hb (Nat.not_lt_zero _)⟩
    rintro k2 self2 y m ⟨j, hj, rfl, hf, hm, hrow⟩ hs2
    have hgm : cG m a1 n mn ht := h.mv (fun q h1 h2 => hf q (by omega))
    rw [hgm.1]
    refine ok_le n j (f := fun hd => ?_) (g := fun hd => ?_)
    · have : j = n := by omega
      subst this
      refine ok_ar i rfl (by omega) (by decide) ?_
      refine ok_aw i rfl (by omega) (by decide) ?_
      refine ok_lt ?_
      refine hs (k - 1) _ _ (by omega) ⟨i + 1, by omega, nI_1 _, frm.set (X := fun q => a0 + 9 < q ∧ q < a0 + 16) hf (by omega) _ _, fun a ha b hb => ?_⟩
      rw [mset_el]
      by_cases e : a = i
      · subst e
        by_cases e2 : a = b
        · rw [if_pos (by omega), if_pos e2]; rfl
        · rw [if_neg (by omega), if_neg e2]; exact hrow b hb
      · rw [if_neg (by omega)]; exact hm a (by omega) b hb
    · refine ok_ar i rfl (by omega) (by decide) ?_
      refine ok_bindE (k_joins hg hgm (by omega) (by omega)) ?_
      have fin : ∀ v : Int32, v = nI (cst mn mn i j) → Ok (aw m (a0 + 9 + 1 + 1 * i) 6 (nI j) v fun μ37 => lt (nI j + 1) fun v40 => self2 v40 μ37) (fun m => ∃ T, RowsN m (a0 + 9) n T ∧ (∀ s, s < n → isD (eg n mn mn) n s cFA (T s) ∧ ∀ b, b < n → T s b ≤ cFA ∧ (T s b ≠ cFA → T s b ≤ 7000)) ∧ frm (wFr a0) μ m ∧ frm (fun q => a0 + 9 < q ∧ q < a0 + 16) μ m) := by
        rintro _ rfl
        refine ok_aw j rfl (by omega) (by decide) ?_
        refine ok_lt ?_
        refine hs2 (k2 - 1) _ _ (by omega) ⟨j + 1, by omega, nI_1 _, frm.set (X := fun q => a0 + 9 < q ∧ q < a0 + 16) hf (by omega) _ _, fun a ha b hb => ?_, fun b hb => ?_⟩
        · rw [mset_ne _ _ _ _ (by omega)]; exact hm a ha b hb
        · rw [mset_if]
          by_cases e : b = j
          · subst e; rw [if_pos rfl]
          · rw [if_neg e]; exact hrow b (by omega)
      refine ok_jn ?_
      refine ok_cd (fun hp => ?_) (fun hp => ?_)
      · have hp := of_decide_eq_true hp
        refine ok_ar i rfl (by omega) (by decide) ?_
        refine ok_ag j rfl (by omega) (by decide) ?_
        rw [hgm.2.1 i (by omega) j (by omega)]
        exact fin _ (by unfold cst; rw [if_pos hp])
      · have hp := of_decide_eq_false hp
        exact fin _ (by unfold cst; rw [if_neg hp]; rfl)
theorem k_minutesInTable {T : Nat → Nat → Nat} (hn : n ≤ 6) (h : RowsN μ (a0 + 9) n T) (hT : isD (eg n mn mn) n s cFA (T s) ∧ ∀ b, b < n → T s b ≤ cFA ∧ (T s b ≠ cFA → T s b ≤ 7000)) (hs : s < n) (ht1 : t < n) : Ok (fX9_minutesInTable N μ a0 (nI s) (nI t)) (fun r => Rm (eg n mn mn) s t r) := by
  have hFA : cFA = 1000000 := rfl
  have hR := Rm_of hT.1 ht1 (hT.2 t ht1).2
  have hb := (hT.2 t ht1).1
  unfold fX9_minutesInTable
  refine ok_ar s rfl (by omega) (by decide) ?_
  refine ok_ag t rfl (by omega) (by decide) ?_
  rw [h s hs t ht1]
  refine ok_jn ?_
  refine ok_ltI (T s t) cFA (f := fun hc => ?_) (g := fun hc => ?_)
  · refine ok_ar s rfl (by omega) (by decide) ?_
    refine ok_ag t rfl (by omega) (by decide) ?_
    rw [h s hs t ht1]
    refine ok_some ?_
    rcases hR with ⟨-, h1⟩ | ⟨h1, -⟩
    · exact h1
    · omega
  · refine ok_some ?_
    rcases hR with ⟨h1, -⟩ | ⟨-, h1⟩
    · omega
    · exact h1
/-! Rounds. -/
def bfI (n : Nat) (mn f : Nat → Nat → Nat) (s B : Nat) (d : Nat → Nat) : Prop := d s = 0 ∧ ∀ b, b < n → d b ≤ cFA ∧ (d b < cFA → d b ≤ B ∧ ∃ k, wk (eg n mn f) k s b (d b))
theorem k_lookAtLegs {lim B : Nat} {d : Nat → Nat} (hN : 10 ≤ N) (hl : lim < 2 ^ 30) (hg : gOK n mn ht) (h : cG μ a1 n mn ht) (hsep : a1 + 17 ≤ a0) (hs : s < n) (hB : B ≤ 100000) (hI : bfI n mn (fun a b => ht a b - lim) s B d) (hd : ArN μ (a0 + 16) n d) : Ok (fX9_lookAtLegs N μ a0 a1 (nI lim)) (fun r => ∃ d', bfI n mn (fun a b => ht a b - lim) s (B + 400) d' ∧ ArN r.1 (a0 + 16) n d' ∧ frm (fun q => q = a0 + 16) μ r.1 ∧ (∀ b, b < n → d' b ≤ d b) ∧ (∀ a b, a < n → b < n → 0 < mn a b → d' b ≤ d a + (ht a b - lim)) ∧ (r.2 = false → ∀ b, b < n → d' b = d b)) := by
  have hn := hg.1
  have hFA : cFA = 1000000 := rfl
  unfold fX9_lookAtLegs
  refine ok_fix3 (fun k x1 x m => ∃ i d', i + k = n ∧ x = nI i ∧ frm (fun q => q = a0 + 16) μ m ∧ ArN m (a0 + 16) n d' ∧ bfI n mn (fun a b => ht a b - lim) s (B + 60 * i) d' ∧ (∀ b, b < n → d' b ≤ d b) ∧ (∀ a b, a < i → b < n → 0 < mn a b → d' b ≤ d a + (ht a b - lim)) ∧ (x1 = false → ∀ b, b < n → d' b = d b)) ?_ N n _ _ _ (by omega) ⟨0, d, by omega, rfl, frm.rf, hd, by rw [Nat.mul_zero]; exact hI, fun b _ => Nat.le_refl _, fun a b ha => absurd ha (Nat.not_lt_zero _), fun _ b _ => rfl⟩
  rintro k self x1 x m ⟨i, d', hi, rfl, hf, hm, hI', hle, hdone, hsame⟩ hs1
  have hgm : cG m a1 n mn ht := h.mv (fun q h1 h2 => hf q (by omega))
  rw [hgm.1]
  refine ok_le n i (f := fun hc => ?_) (g := fun hc => ?_)
  · have : i = n := by omega
    subst this
    refine ok_some ⟨d', ⟨hI'.1, fun b hb => ⟨(hI'.2 b hb).1, fun hlt => ?_⟩⟩, hm, hf, hle, hdone, hsame⟩
    obtain ⟨h1, h2⟩ := (hI'.2 b hb).2 hlt
    exact ⟨by omega, h2⟩
  · refine ok_fix3 (fun k2 x7 y m => ∃ j e, j + k2 = n ∧ y = nI j ∧ frm (fun q => q = a0 + 16) μ m ∧ ArN m (a0 + 16) n e ∧ bfI n mn (fun a b => ht a b - lim) s (B + 60 * i + 10 * j) e ∧ (∀ b, b < n → e b ≤ d b) ∧ (∀ a b, b < n → (a < i ∨ (a = i ∧ b < j)) → 0 < mn a b → e b ≤ d a + (ht a b - lim)) ∧ (x7 = false → ∀ b, b < n → e b = d b)) ?_ N n _ _ _ (by omega) ⟨0, d', by omega, rfl, hf, hm, hI', hle, fun a b hb hx hmm => hdone a b (by omega) hb hmm, hsame⟩
    rintro k2 self2 x7 y m ⟨j, e, hj, rfl, hf, hm, hI', hle, hdone, hsame⟩ hs2
    have hgm : cG m a1 n mn ht := h.mv (fun q h1 h2 => hf q (by omega))
    rw [hgm.1]
    refine ok_le n j (f := fun hd2 => ?_) (g := fun hd2 => ?_)
    · have : j = n := by omega
      subst this
      refine ok_lt ?_
      refine hs1 (k - 1) _ _ _ (by omega) ⟨i + 1, e, by omega, nI_1 _, hf, hm, ⟨hI'.1, fun b hb => ⟨(hI'.2 b hb).1, fun hlt => ?_⟩⟩, hle, fun a b ha hb hmm => hdone a b hb (by omega) hmm, hsame⟩
      obtain ⟨h1, h2⟩ := (hI'.2 b hb).2 hlt
      exact ⟨by omega, h2⟩
    · have hei := (hI'.2 i hc).1
      have hej := (hI'.2 j hd2).1
      have hhw := (hg.2 i j).2.1
      refine ok_ag i rfl (by omega) (by decide) ?_
      refine ok_ar i rfl (by omega) (by decide) ?_
      refine ok_ag j rfl (by omega) (by decide) ?_
      rw [hm i hc, hgm.2.2 i (by omega) j (by omega)]
      refine ok_bindE (show fX10_passedBy N m (nI (ht i j)) (nI lim) = some (nI (ht i j - lim)) from congrArg some (passedI (by omega) hl)) ?_
      refine ok_lt ?_
      rw [nI_add]
      refine ok_bindE (k_joins hg hgm (by omega) (by omega)) ?_
      refine ok_jn ?_
      have keep : ∀ (hno : ¬ 0 < mn i j ∨ e j ≤ e i + (ht i j - lim)), Ok (self2 x7 (nI j + 1) m) (fun r => ∃ d', bfI n mn (fun a b => ht a b - lim) s (B + 400) d' ∧ ArN r.1 (a0 + 16) n d' ∧ frm (fun q => q = a0 + 16) μ r.1 ∧ (∀ b, b < n → d' b ≤ d b) ∧ (∀ a b, a < n → b < n → 0 < mn a b → d' b ≤ d a + (ht a b - lim)) ∧ (r.2 = false → ∀ b, b < n → d' b = d b)) := fun hno => by
        refine hs2 (k2 - 1) _ _ _ (by omega) ⟨j + 1, e, by omega, nI_1 _, hf, hm, ⟨hI'.1, fun b hb => ⟨(hI'.2 b hb).1, fun hlt => ?_⟩⟩, hle, fun a b hb hx hmm => ?_, hsame⟩
        · obtain ⟨h1, h2⟩ := (hI'.2 b hb).2 hlt
          exact ⟨by omega, h2⟩
        · by_cases c : a = i ∧ b = j
          · obtain ⟨rfl, rfl⟩ := c
            have := hle a hc
            rcases hno with h1 | h1
            · exact absurd hmm h1
            · omega
          · exact hdone a b hb (by omega) hmm
      refine ok_cd (fun hp => ?_) (fun hp => ?_)
      · have hp := of_decide_eq_true hp
        refine ok_ag j rfl (by omega) (by decide) ?_
        rw [hm j hd2]
        refine ok_le (e j) (e i + (ht i j - lim)) (f := fun hq => ?_) (g := fun hq => ?_)
        · exact ok_lt (keep (Or.inr hq))
        · refine ok_aw j rfl (by omega) (by decide) ?_
          refine ok_lt ?_
          have hil : e i < cFA := by omega
          obtain ⟨hiB, ki, wi⟩ := (hI'.2 i hc).2 hil
          refine hs2 (k2 - 1) _ _ _ (by omega) ⟨j + 1, updN e j (e i + (ht i j - lim)), by omega, nI_1 _, frm.set (X := fun q => q = a0 + 16) hf rfl _ _, hm.set j _ rfl, ⟨?_, fun b hb => ?_⟩, fun b hb => ?_, fun a b hb hx hmm => ?_, fun z => (by cases z)⟩
          · unfold updN
            by_cases ej : s = j
            · subst ej
              rw [hI'.1] at hq; omega
            · rw [if_neg ej]; exact hI'.1
          · unfold updN
            by_cases ej : b = j
            · subst ej
              rw [if_pos rfl]
              exact ⟨by omega, fun _ => ⟨by omega, ki + 1, i, e i, _, wi, ⟨hc, hb, hp, rfl⟩, rfl⟩⟩
            · rw [if_neg ej]
              refine ⟨(hI'.2 b hb).1, fun hlt => ?_⟩
              obtain ⟨h1, h2⟩ := (hI'.2 b hb).2 hlt
              exact ⟨by omega, h2⟩
          · unfold updN
            have := hle b hb
            split
            · rename_i ej; subst ej; omega
            · exact this
          · unfold updN
            by_cases ej : b = j
            · subst ej
              rw [if_pos rfl]
              by_cases ea : a = i
              · subst ea; have := hle a hc; omega
              · have := hdone a b hb (by omega) hmm; omega
            · rw [if_neg ej]; exact hdone a b hb (by omega) hmm
      · have hp := of_decide_eq_false hp
        exact ok_lt (keep (Or.inl hp))
theorem k_passedByRounds {lim : Nat} (hN : 10 ≤ N) (hl : lim < 2 ^ 30) (hg : gOK n mn ht) (h : cG μ a1 n mn ht) (hsep : a1 + 17 ≤ a0) (hex : μ a2 0 = nI s ∧ μ a2 1 = nI lim) (hsep2 : a2 < a0) (hs : s < n) (ht1 : t < n) : Ok (fX9_passedByRounds N μ a0 a1 a2 (nI t)) (fun r => Rm (eg n mn (fun a b => ht a b - lim)) s t r.2 ∧ frm (wFr a0) μ r.1) := by
  have hn := hg.1
  have hFA : cFA = 1000000 := rfl
  have hf8 : ∀ a b, ht a b - lim ≤ 800 := fun a b => by have := (hg.2 a b).2.1; omega
  obtain ⟨D, hD, hD6, hDb⟩ := dij_ex (mn := mn) hn hs hf8
  unfold fX9_passedByRounds
  rw [hex.1]
  refine ok_bind (k_startAt hN (show s < 6 by omega)) ?_
  rintro m0 ⟨hd0, -, hf0⟩
  refine ok_fix3 (fun k x2 x m => ∃ r d, r + k = 6 ∧ x = nI r ∧ frm (fun q => q = a0 + 16 ∨ q = a0 + 17) μ m ∧ ArN m (a0 + 16) n d ∧ bfI n mn (fun a b => ht a b - lim) s (400 * r) d ∧ (x2 = false → ∀ a b, a < n → b < n → 0 < mn a b → d b ≤ d a + (ht a b - lim)) ∧ (∀ k, k ≤ r → ∀ b w, wk (eg n mn (fun a b => ht a b - lim)) k s b w → d b ≤ w)) ?_ N 6 _ _ _ (by omega) ⟨0, fun b => if b = s then 0 else cFA, rfl, rfl, hf0, fun b hb => hd0 b (by omega), ⟨if_pos rfl, fun b hb => ?_⟩, fun z => (by cases z), fun k hk b w hw => ?_⟩
  · rintro k x2' x2 x m ⟨r, d, hr, rfl, hf, hm, hI, hfe, hk⟩ hs1
    have hgm : cG m a1 n mn ht := h.mv (fun q h1 h2 => hf q (by omega))
    have hFr : frm (wFr a0) μ m := hf.mono (fun q hq => by show a0 ≤ q ∧ q < a0 + 18; omega)
    have hfin : (x2 = false ∨ 6 ≤ r) → Ok (ag (m (a0 + 16)) 6 (nI t) fun v11 => jn (fun (y14 : Int32) => some (m, y14)) fun j15 => if v11 < 1000000 then (ag (m (a0 + 16)) 6 (nI t) fun v19 => j15 v19) else (j15 (-1))) (fun r => Rm (eg n mn (fun a b => ht a b - lim)) s t r.2 ∧ frm (wFr a0) μ r.1) := fun hor => by
      have hdD : isD (eg n mn (fun a b => ht a b - lim)) n s cFA d := by
        rcases hor with h1 | h1
        · exact isD_of (BD := 2400) hs hI.1 (fun b hb => (hI.2 b hb).1) (fun b hb hlt => by
            obtain ⟨p1, p2⟩ := (hI.2 b hb).2 hlt
            exact ⟨by omega, p2⟩) (fun a b ha hb hmm _ => hfe h1 a b ha hb hmm) hf8 (by decide)
        · intro b hb
          have hb1 := (hI.2 b hb).1
          have hDb1 := hDb b hb
          rcases hD b hb with ⟨n1, ⟨k1, w1⟩, l1⟩ | ⟨n1, l1⟩
          · obtain ⟨k6, hk6, w6⟩ := hD6 b hb n1
            have h2 := hk k6 (by omega) b _ w6
            have h3 : d b < cFA := by omega
            exact Or.inl ⟨by omega, ((hI.2 b hb).2 h3).2, fun k w hw => Nat.le_trans h2 (l1 k w hw)⟩
          · refine Or.inr ⟨?_, l1⟩
            refine Classical.byContradiction fun hne => ?_
            obtain ⟨-, k, w⟩ := (hI.2 b hb).2 (by omega)
            exact l1 _ _ w
      have hbt := hI.2 t ht1
      have hR := Rm_of hdD ht1 (fun hne => by have := (hbt.2 (by omega)).1; omega)
      refine ok_ag t rfl (by omega) (by decide) ?_
      rw [hm t ht1]
      refine ok_jn ?_
      refine ok_ltI (d t) cFA (f := fun hc => ?_) (g := fun hc => ?_)
      · refine ok_ag t rfl (by omega) (by decide) ?_
        rw [hm t ht1]
        refine ok_some ⟨?_, hFr⟩
        rcases hR with ⟨-, h1⟩ | ⟨h1, -⟩
        · exact h1
        · omega
      · refine ok_some ⟨?_, hFr⟩
        rcases hR with ⟨h1, -⟩ | ⟨-, h1⟩
        · omega
        · exact h1
    refine ok_jn ?_
    refine ok_le 6 r (f := fun hc => hfin (Or.inr hc)) (g := fun hc => ?_)
    refine ok_cd (fun hx => ?_) (fun hx => hfin (Or.inl hx))
    rw [hf a2 (by omega), hex.2]
    refine ok_bind (k_lookAtLegs (a0 := a0) (a1 := a1) hN hl hg hgm hsep hs (by omega) hI hm) ?_
    rintro ⟨m2, sm2⟩ ⟨d', hI', hm', hf', hle, hdone, hsame⟩
    refine ok_lt ?_
    refine hs1 (k - 1) _ _ _ (by omega) ⟨r + 1, d', by omega, nI_1 _, hf.tr (hf'.mono (fun q hq => Or.inl hq)), hm', ?_, fun hz a b ha hb hmm => ?_, fun k hk2 b w hw => ?_⟩
    · rw [show 400 * (r + 1) = 400 * r + 400 by omega]; exact hI'
    · rw [hsame hz a ha]; exact hdone a b ha hb hmm
    · cases k with
      | zero =>
        obtain ⟨rfl, rfl⟩ := hw
        rw [hI'.1]; exact Nat.le_refl _
      | succ k =>
        obtain ⟨y, v, u, h1, ⟨p1, p2, p3, rfl⟩, rfl⟩ := hw
        have h2 := hk k (by omega) y v h1
        have h3 := hdone y b p1 p2 p3
        dsimp only
        omega
  · dsimp only
    by_cases e : b = s
    · subst e; rw [if_pos rfl]; exact ⟨Nat.zero_le _, fun _ => ⟨Nat.zero_le _, 0, rfl, rfl⟩⟩
    · rw [if_neg e]; exact ⟨Nat.le_refl _, fun z => absurd z (Nat.lt_irrefl _)⟩
  · have : k = 0 := by omega
    subst this
    rw [← hw.1, hw.2]
    dsimp only
    rw [if_pos rfl]; exact Nat.le_refl _
end WD
