/-! Pure layer: the least sums of the law. -/
/-- c is the sum of a way of k legs from a to b that comes into no room of G -/
def ps (n : Nat) (mn f : Nat → Nat → Nat) : Nat → Nat → Nat → Nat → Nat → Prop
  | 0, a, b, _, c => a = b ∧ c = 0
  | k + 1, a, b, G, c => a ≠ b ∧ ∃ x c', x < n ∧ 0 < mn a x ∧ G.testBit x = false ∧ ps n mn f k x b (G ||| 2 ^ a) c' ∧ c = f a x + c'
/-- r is the least number with P, or 9999 -/
def MinN (P : Nat → Prop) (r : Nat) : Prop := ((∀ c, ¬ P c) ∧ r = 9999) ∨ (P r ∧ ∀ c', P c' → r ≤ c')
theorem MinN.cg {P Q : Nat → Prop} {r : Nat} (h : MinN P r) (e : ∀ c, P c ↔ Q c) : MinN Q r := by
  rcases h with ⟨h1, h2⟩ | ⟨h1, h2⟩
  · exact Or.inl ⟨fun c z => h1 c ((e c).mpr z), h2⟩
  · exact Or.inr ⟨(e _).mp h1, fun c' z => h2 c' ((e c').mpr z)⟩
theorem MinN.eq {P : Nat → Prop} {r r' : Nat} (h : MinN P r) (h' : MinN P r') : r = r' := by
  rcases h with ⟨h1, h2⟩ | ⟨h1, h2⟩ <;> rcases h' with ⟨g1, g2⟩ | ⟨g1, g2⟩
  · omega
  · exact absurd g1 (h1 _)
  · exact absurd h1 (g1 _)
  · exact Nat.le_antisymm (h2 _ g1) (g2 _ h1)
section LST
variable {n : Nat} {mn ht f : Nat → Nat → Nat}
theorem ps_len (hg : gOK n mn ht) : ∀ (k a b G c : Nat), ps n mn f k a b G c → k ≤ rem (G ||| 2 ^ a)
  | 0, _, _, _, _, _ => Nat.zero_le _
  | k + 1, a, b, G, c, h => by
    obtain ⟨-, x, c', hx, hm, hG, h1, -⟩ := h
    have h2 := ps_len hg k _ _ _ _ h1
    have hne : a ≠ x := ((hg.2 a x).2.2.2.2 hm).2.2
    have h3 := rem_s (G := G ||| 2 ^ a) (x := x) (by have := hg.1; omega) (by rw [tb_or, hG, decide_eq_false hne]; rfl)
    omega
theorem ps_bd (hf : ∀ a b, f a b ≤ 9) : ∀ (k a b G c : Nat), ps n mn f k a b G c → c ≤ 9 * k
  | 0, _, _, _, _, h => by have := h.2; omega
  | k + 1, a, b, G, c, h => by
    obtain ⟨-, x, c', -, -, -, h1, rfl⟩ := h
    have h2 := ps_bd hf k _ _ _ _ h1
    have h3 := hf a x
    omega
theorem ps_wk (hg : gOK n mn ht) (hs : ∀ a b, f a b = f b a) {b : Nat} : ∀ (k a G c : Nat), a < n → ps n mn f k a b G c → wk (eg n mn f) k b a c
  | 0, a, _, c, ha, h => ⟨h.1.symm, h.2⟩
  | k + 1, a, G, c, ha, h => by
    obtain ⟨-, x, c', hx, hm, -, h1, rfl⟩ := h
    exact ⟨x, c', f x a, ps_wk hg hs k x _ c' hx h1, ⟨hx, ha, by rw [(hg.2 x a).2.2.1]; exact hm, rfl⟩, by rw [hs x a, Nat.add_comm]⟩
/-- eight times the sum and one a leg -/
theorem wkf8 {a : Nat} : ∀ (k b w : Nat), wk (eg n mn (fun a b => f a b * 8 + 1)) k a b w → ∃ F, w = F * 8 + k ∧ wk (eg n mn f) k a b F
  | 0, b, w, h => ⟨0, by rw [h.2], h.1, rfl⟩
  | k + 1, b, w, h => by
    obtain ⟨y, v, t, h1, ⟨p1, p2, p3, rfl⟩, rfl⟩ := h
    obtain ⟨F, rfl, h2⟩ := wkf8 k y v h1
    exact ⟨F + f y b, by dsimp only; omega, y, F, _, h2, ⟨p1, p2, p3, rfl⟩, rfl⟩
theorem wkf8' {a : Nat} : ∀ (k b F : Nat), wk (eg n mn f) k a b F → wk (eg n mn (fun a b => f a b * 8 + 1)) k a b (F * 8 + k)
  | 0, b, w, h => ⟨h.1, by rw [h.2]⟩
  | k + 1, b, w, h => by
    obtain ⟨y, v, t, h1, ⟨p1, p2, p3, rfl⟩, rfl⟩ := h
    exact ⟨y, v * 8 + k, _, wkf8' k y v h1, ⟨p1, p2, p3, rfl⟩, by dsimp only; omega⟩
/-- along falling numbers there is a way without a room twice -/
theorem ps_of {b : Nat} {d : Nat → Nat} (hg : gOK n mn ht) (hs : ∀ a b, f a b = f b a) (hb : b < n) (hd : isD (eg n mn (fun a b => f a b * 8 + 1)) n b cFA d) : ∀ (m a G : Nat), a < n → d a < m → d a ≠ cFA → (∀ i, G.testBit i = true → d a < d i) → ∃ k c, ps n mn f k a b G c ∧ c * 8 + k = d a
  | 0, _, _, _, h, _, _ => absurd h (Nat.not_lt_zero _)
  | m + 1, a, G, ha, hm, hne, hG => by
    rcases hd a ha with ⟨-, ⟨k, w⟩, l⟩ | ⟨z, -⟩
    · by_cases hab : a = b
      · subst hab
        have := l 0 0 ⟨rfl, rfl⟩
        exact ⟨0, 0, ⟨rfl, rfl⟩, by omega⟩
      · cases k with
        | zero => exact absurd w.1.symm hab
        | succ k =>
          obtain ⟨x, v, t, w1, ⟨p1, p2, p3, rfl⟩, e⟩ := w
          dsimp only at e
          rcases hd x p1 with ⟨hx, ⟨k2, w2⟩, l2⟩ | ⟨-, l2⟩
          · have h1 := l2 _ _ w1
            have h2 := l (k2 + 1) (d x + (f x a * 8 + 1)) ⟨x, d x, _, w2, ⟨p1, p2, p3, rfl⟩, rfl⟩
            have hlt : d x < d a := by omega
            obtain ⟨k3, c3, g1, g2⟩ := ps_of hg hs hb hd m x (G ||| 2 ^ a) p1 (by omega) hx (fun i hi => by
              rw [tb_or] at hi
              cases hz : G.testBit i
              · rw [hz, Bool.false_or] at hi
                have := of_decide_eq_true hi
                subst this; exact hlt
              · have := hG i hz; omega)
            refine ⟨k3 + 1, f a x + c3, ⟨hab, x, c3, p1, by rw [(hg.2 a x).2.2.1]; exact p3, ?_, g1, rfl⟩, by rw [hs a x]; omega⟩
            cases hz : G.testBit x
            · rfl
            · have := hG x hz; omega
          · exact absurd w1 (l2 _ _)
    · exact absurd z hne
/-- the least sum over all walks is the least over those without a room twice -/
theorem least_rm (hg : gOK n mn ht) (hs : ∀ a b, f a b = f b a) (hf : ∀ a b, f a b ≤ 9) {a b : Nat} (ha : a < n) (hb : b < n) {r : Nat} (hr : MinN (fun c => ∃ k, ps n mn f k a b 0 c) r) : (r = 9999 ∧ rmV (eg n mn f) a b = -1) ∨ (r ≤ 54 ∧ rmV (eg n mn f) a b = nI r) := by
  have hsy : ∀ x y u, eg n mn f x y u → eg n mn f y x u := eg_sym (fun x y => (hg.2 x y).2.2.1) hs
  obtain ⟨d1, hd1, hk1, -⟩ := dij_ex (n := n) (mn := mn) (f := f) (s := b) hg.1 hb (fun x y => by have := hf x y; omega)
  obtain ⟨d2, hd2, -, -⟩ := dij_ex (n := n) (mn := mn) (f := fun x y => f x y * 8 + 1) (s := b) hg.1 hb (fun x y => by have := hf x y; omega)
  rcases hr with ⟨h1, h2⟩ | ⟨⟨k, hk⟩, h2⟩
  · refine Or.inl ⟨h2, rmV_eq (Or.inr ⟨fun k w hw => ?_, rfl⟩)⟩
    rcases hd2 a ha with ⟨hne, -⟩ | ⟨-, l⟩
    · obtain ⟨k3, c3, g1, -⟩ := ps_of hg hs hb hd2 (d2 a + 1) a 0 ha (Nat.lt_succ_self _) hne (fun i hi => by rw [Nat.zero_testBit] at hi; cases hi)
      exact h1 c3 ⟨k3, g1⟩
    · exact absurd (wkf8' k a w (wk_rev hsy _ _ _ hw)) (l _ _)
  · have hb54 := ps_bd hf _ _ _ _ _ hk
    have hl6 := ps_len hg _ _ _ _ _ hk
    have hr6 := rem_le (0 ||| 2 ^ a)
    have hw0 := ps_wk hg hs k a 0 r ha hk
    refine Or.inr ⟨by omega, rmV_eq (Or.inl ⟨r, ⟨k, wk_rev hsy _ _ _ hw0⟩, fun k' w hw => ?_, by omega, rfl⟩)⟩
    rcases hd1 a ha with ⟨hne, -, l⟩ | ⟨-, l⟩
    · obtain ⟨k5, hk5, w5⟩ := hk1 a ha hne
      have h3 := l _ _ (wk_rev hsy _ _ _ hw)
      rcases hd2 a ha with ⟨hne2, -, l2⟩ | ⟨-, l2⟩
      · obtain ⟨k3, c3, g1, g2⟩ := ps_of hg hs hb hd2 (d2 a + 1) a 0 ha (Nat.lt_succ_self _) hne2 (fun i hi => by rw [Nat.zero_testBit] at hi; cases hi)
        have h4 := l2 _ _ (wkf8' k5 a _ w5)
        have h5 := h2 c3 ⟨k3, g1⟩
        omega
      · exact absurd (wkf8' k5 a _ w5) (l2 _ _)
    · exact absurd hw0 (l _ _)
end LST
theorem k_passedBy {N : Nat} {Z : Nat → Int32} {w l : Nat} (hw : w ≤ 9) (hl : l ≤ 9) : fL_passedBy N Z 0 (nI w) (nI l) = some (nI (w - l)) := by
  have key : Ok (fL_passedBy N Z 0 (nI w) (nI l)) (fun r => r = nI (w - l)) := by
    unfold fL_passedBy
    refine ok_jn ?_
    refine ok_le w l (f := fun h => ok_gd (Nat.le_refl _) (ok_some ?_)) (g := fun h => ok_gd (Nat.le_refl _) (ok_some ?_))
    · rw [show w - l = 0 by omega]; rfl
    · exact pk_sub (by omega)
  obtain ⟨r, e, h⟩ := key
  rw [e, h]
theorem k_least {N : Nat} {Z : Nat → Int32} {l : Nat} (hN : 10 ≤ N) (hl : l ≤ 9) (hs : SIp Z (nZ Z) (eZ Z) (mZ Z) (hZ Z)) : ∀ (lv a b G : Nat), a < nZ Z → b < nZ Z → G < 64 → rem (G ||| 2 ^ a) < lv → Ok (fL_least N lv Z (nI a) (nI b) (nI l) (nI G)) (fun r => ∃ v, r = nI v ∧ MinN (fun c => ∃ k, ps (nZ Z) (mZ Z) (fun a b => hZ Z a b - l) k a b G c) v)
  | 0, _, _, _, _, _, _, h => absurd h (Nat.not_lt_zero _)
  | lv + 1, a, b, G, ha, hb, hG, hlv => by
    have hg := hs.2.1
    have hn := hg.1
    have hH := or_64 hG (show a < 6 by omega)
    have hck := ckW_nI (c := 14) hG (show a < 6 by omega)
    have hf9 : ∀ x y, (fun a b => hZ Z a b - l) x y ≤ 9 := fun x y => by have := (hg.2 x y).2.1; dsimp only; omega
    unfold fL_least
    rw [hck]
    by_cases hab : a = b
    · refine ok_jn ?_
      refine ok_ifT (congrArg nI hab) ?_
      refine ok_fix3 (fun k x8 x9 κ => x8 = (0 : Int32) ∧ x9 = 0 ∧ κ = 0) ?_ N 0 _ _ _ (by omega) ⟨rfl, rfl, rfl⟩
      rintro k self x8 x9 κ ⟨rfl, rfl, rfl⟩ -
      refine ok_gd (Nat.zero_le _) ?_
      have fin : Ok (gd (0 ≤ ckF 14 (rem (G ||| 2 ^ a))) (some (0 : Int32))) (fun r => ∃ v, r = nI v ∧ MinN (fun c => ∃ k, ps (nZ Z) (mZ Z) (fun a b => hZ Z a b - l) k a b G c) v) := ok_gd (Nat.zero_le _) (ok_some ⟨0, rfl, Or.inr ⟨⟨0, hab, rfl⟩, fun _ _ => Nat.zero_le _⟩⟩)
      refine ok_jn ?_
      exact ok_if (fun _ => fin) (fun _ => ok_ifT (congrArg nI hab) fin)
    · have hne : ¬ nI a = nI b := fun z => hab ((nI_eq (by omega) (by omega)).mp z)
      refine ok_jn ?_
      refine ok_ifF hne ?_
      refine ok_fix3 (fun k x8 x9 κ => ∃ j v, j + k = nZ Z ∧ x9 = nI j ∧ x8 = nI v ∧ v ≤ 9999 ∧ MinN (fun c => ∃ x k c', x < j ∧ 0 < mZ Z a x ∧ G.testBit x = false ∧ ps (nZ Z) (mZ Z) (fun a b => hZ Z a b - l) k x b (G ||| 2 ^ a) c' ∧ c = hZ Z a x - l + c') v ∧ κ ≤ 2 * j + fre (G ||| 2 ^ a) j * ckF 14 (rem (G ||| 2 ^ a) - 1)) ?_ N (nZ Z) _ _ _ (by omega) ⟨0, 9999, by omega, rfl, rfl, Nat.le_refl _, Or.inl ⟨fun c z => (by obtain ⟨x, k, c', h, -⟩ := z; omega), rfl⟩, by omega⟩
      rintro kk self x8 x9 κ ⟨j, v, hj, rfl, rfl, hv9, hM, hκ⟩ hself
      have hce := ck_end (c := 14) (u := 2) (H := G ||| 2 ^ a) (j := j) (by decide) (by omega)
      refine ok_gd (by omega) ?_
      refine ok_jn ?_
      refine ok_le (nZ Z) j (f := fun hc => ?_) (g := fun hc => ?_)
      · have hjn : j = nZ Z := by omega
        subst hjn
        refine ok_gd (by omega) (ok_some ⟨v, rfl, hM.cg (fun c => ?_)⟩)
        constructor
        · rintro ⟨x, k, c', h1, h2, h3, h4, h5⟩
          exact ⟨k + 1, hab, x, c', h1, h2, h3, h4, h5⟩
        · rintro ⟨k, hk⟩
          cases k with
          | zero => exact absurd hk.1 hab
          | succ k =>
            obtain ⟨-, x, c', h1, h2, h3, h4, h5⟩ := hk
            exact ⟨x, k, c', h1, h2, h3, h4, h5⟩
      · refine ok_ifF hne ?_
        have hsk := ck_skip (c := 14) (u := 2) (H := G ||| 2 ^ a) (j := j)
        have hce1 := ck_end (c := 14) (u := 2) (H := G ||| 2 ^ a) (j := j + 1) (by decide) (by omega)
        refine ok_gd (by omega) ?_
        have skip : (∀ k c', 0 < mZ Z a j → G.testBit j = false → ¬ ps (nZ Z) (mZ Z) (fun a b => hZ Z a b - l) k j b (G ||| 2 ^ a) c') → ∀ κ', κ' ≤ 2 * (j + 1) + fre (G ||| 2 ^ a) (j + 1) * ckF 14 (rem (G ||| 2 ^ a) - 1) → Ok (self (nI v) (nI j + 1) κ') (fun r => ∃ v, r = nI v ∧ MinN (fun c => ∃ k, ps (nZ Z) (mZ Z) (fun a b => hZ Z a b - l) k a b G c) v) := fun hno κ' hκ' => hself (kk - 1) _ _ _ (by omega) ⟨j + 1, v, by omega, nI_1 _, rfl, hv9, hM.cg (fun c => by
          constructor
          · rintro ⟨x, k, c', h1, h2⟩
            exact ⟨x, k, c', by omega, h2⟩
          · rintro ⟨x, k, c', h1, h2, h3, h4, h5⟩
            by_cases hx : x = j
            · subst hx; exact absurd h4 (hno k c' h2 h3)
            · exact ⟨x, k, c', by omega, h2, h3, h4, h5⟩), hκ'⟩
        refine ok_jn (ok_jn ?_)
        rw [wl_lm hn ha hc]
        by_cases hm : 0 < mZ Z a j
        · rw [if_pos hm]
          have hm99 := (hg.2 a j).1
          have hht := (hg.2 a j).2.1
          have hne' : a ≠ j := ((hg.2 a j).2.2.2.2 hm).2.2
          refine ok_ifF (nI_npos (by omega) hm) ?_
          by_cases hGj : G.testBit j = false
          · refine ok_ifT ((gone_bit hG (by omega)).mpr hGj) ?_
            refine ok_jn (ok_cdT rfl ?_)
            have hHj : (G ||| 2 ^ a).testBit j = false := by rw [tb_or, hGj, decide_eq_false hne']; rfl
            rw [gone_or hG (by omega), ckW_nI hH (by omega), wl_lw hn ha hc, if_pos hm]
            have hst := ck_step (c := 14) (u := 2) (by omega) hHj
            have hrem := rem_s (by omega) hHj
            refine ok_gd (by omega) (ok_gd (by omega) ?_)
            refine ok_bindE (k_passedBy hht hl) ?_
            refine ok_gd (by omega) ?_
            refine ok_bind (k_least hN hl hs lv j b (G ||| 2 ^ a) hc hb hH (by omega)) ?_
            rintro _ ⟨u, rfl, hu⟩
            refine ok_gd (by omega) ?_
            have hu9 : u ≤ 9999 := by
              rcases hu with ⟨-, h⟩ | ⟨⟨k, hk⟩, -⟩
              · omega
              · have h1 := ps_bd hf9 _ _ _ _ _ hk
                have h2 := ps_len hg _ _ _ _ _ hk
                have h3 := rem_le ((G ||| 2 ^ a) ||| 2 ^ j)
                omega
            rw [nI_add, imin_nI (by omega) (by omega)]
            refine ok_lt (hself (kk - 1) _ _ _ (by omega) ⟨j + 1, _, by omega, nI_1 _, rfl, by omega, ?_, by omega⟩)
            -- the new least
            have split : ∀ c, (∃ x k c', x < j + 1 ∧ 0 < mZ Z a x ∧ G.testBit x = false ∧ ps (nZ Z) (mZ Z) (fun a b => hZ Z a b - l) k x b (G ||| 2 ^ a) c' ∧ c = hZ Z a x - l + c') → (∃ x k c', x < j ∧ 0 < mZ Z a x ∧ G.testBit x = false ∧ ps (nZ Z) (mZ Z) (fun a b => hZ Z a b - l) k x b (G ||| 2 ^ a) c' ∧ c = hZ Z a x - l + c') ∨ ∃ c', (∃ k, ps (nZ Z) (mZ Z) (fun a b => hZ Z a b - l) k j b (G ||| 2 ^ a) c') ∧ c = hZ Z a j - l + c' := by
              rintro c ⟨x, k, c', h1, h2, h3, h4, h5⟩
              by_cases hx : x = j
              · subst hx; exact Or.inr ⟨c', ⟨k, h4⟩, h5⟩
              · exact Or.inl ⟨x, k, c', by omega, h2, h3, h4, h5⟩
            rcases hu with ⟨hu1, hu2⟩ | ⟨⟨ku, hku⟩, hu2⟩
            · subst hu2
              rw [Nat.min_eq_left (by omega)]
              refine hM.cg (fun c => ⟨?_, fun h => ?_⟩)
              · rintro ⟨x, k, c', h1, h2⟩
                exact ⟨x, k, c', by omega, h2⟩
              · rcases split c h with h | ⟨c', h, -⟩
                · exact h
                · exact absurd h (hu1 c')
            · have hub := ps_bd hf9 _ _ _ _ _ hku
              have hul := ps_len hg _ _ _ _ _ hku
              have hur := rem_le ((G ||| 2 ^ a) ||| 2 ^ j)
              rcases hM with ⟨hM1, hM2⟩ | ⟨⟨x, k, c', h1, h2⟩, hM2⟩
              · subst hM2
                rw [Nat.min_eq_right (by omega)]
                refine Or.inr ⟨⟨j, ku, u, by omega, hm, hGj, hku, rfl⟩, fun c' hc' => ?_⟩
                rcases split c' hc' with h | ⟨c2, h, rfl⟩
                · exact absurd h (hM1 c')
                · have := hu2 c2 h; omega
              · have both : ∀ c', (∃ x k c2, x < j + 1 ∧ 0 < mZ Z a x ∧ G.testBit x = false ∧ ps (nZ Z) (mZ Z) (fun a b => hZ Z a b - l) k x b (G ||| 2 ^ a) c2 ∧ c' = hZ Z a x - l + c2) → min v (hZ Z a j - l + u) ≤ c' := fun c' hc' => by
                  rcases split c' hc' with h | ⟨c2, h, rfl⟩
                  · have := hM2 c' h; omega
                  · have := hu2 c2 h; omega
                by_cases hle : v ≤ hZ Z a j - l + u
                · rw [Nat.min_eq_left hle] at both ⊢
                  exact Or.inr ⟨⟨x, k, c', by omega, h2⟩, both⟩
                · rw [Nat.min_eq_right (by omega)] at both ⊢
                  exact Or.inr ⟨⟨j, ku, u, by omega, hm, hGj, hku, rfl⟩, both⟩
          · have hGj' : G.testBit j = true := by
              cases h9 : G.testBit j
              · exact absurd h9 hGj
              · rfl
            refine ok_ifF (gone_bit' hG (by omega) hGj') (ok_jn (ok_cdF rfl ?_))
            exact ok_lt (skip (fun _ _ _ z _ => by rw [hGj'] at z; cases z) _ (by omega))
        · rw [if_neg hm]
          refine ok_ifT (by decide) (ok_jn (ok_cdF rfl ?_))
          exact ok_lt (skip (fun _ _ z => absurd z hm) _ (by omega))
