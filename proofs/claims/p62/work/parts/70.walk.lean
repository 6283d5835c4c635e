/-! Pure layer, 10: walks, least sums, least pairs (minutes, legs). -/
def wk (E : Nat → Nat → Nat → Prop) : Nat → Nat → Nat → Nat → Prop
  | 0, a, b, w => a = b ∧ w = 0
  | k + 1, a, b, w => ∃ x v u, wk E k a x v ∧ E x b u ∧ w = v + u
/-- legs between rooms below n, by minutes (0: none), with weight f -/
def eg (n : Nat) (mn f : Nat → Nat → Nat) : Nat → Nat → Nat → Prop := fun a b w => a < n ∧ b < n ∧ 0 < mn a b ∧ w = f a b
theorem wk_lt {n : Nat} {mn f : Nat → Nat → Nat} {a : Nat} (ha : a < n) : ∀ (k b w : Nat), wk (eg n mn f) k a b w → b < n
  | 0, b, _, h => h.1 ▸ ha
  | _ + 1, _, _, h => by
    obtain ⟨x, v, u, -, he, -⟩ := h
    exact he.2.1
theorem wk_cons {E : Nat → Nat → Nat → Prop} {a x u : Nat} (he : E a x u) : ∀ (k b w : Nat), wk E k x b w → wk E (k + 1) a b (u + w)
  | 0, b, w, h => by
    obtain ⟨rfl, rfl⟩ := h
    exact ⟨a, 0, u, ⟨rfl, rfl⟩, he, by omega⟩
  | k + 1, b, w, h => by
    obtain ⟨y, v, t, h1, h2, rfl⟩ := h
    exact ⟨y, u + v, t, wk_cons he k y v h1, h2, by omega⟩
theorem wk_app {E : Nat → Nat → Nat → Prop} {a b v : Nat} {k : Nat} (h : wk E k a b v) : ∀ (j c w : Nat), wk E j b c w → wk E (k + j) a c (v + w)
  | 0, c, w, h2 => by
    obtain ⟨rfl, rfl⟩ := h2
    exact h
  | j + 1, c, w, h2 => by
    obtain ⟨y, v2, t, h3, h4, rfl⟩ := h2
    exact ⟨y, v + v2, t, wk_app h j y v2 h3, h4, by omega⟩
theorem wk_rev {E : Nat → Nat → Nat → Prop} (hs : ∀ a b u, E a b u → E b a u) {a : Nat} : ∀ (k b w : Nat), wk E k a b w → wk E k b a w
  | 0, b, w, h => ⟨h.1.symm, h.2⟩
  | k + 1, b, w, h => by
    obtain ⟨y, v, t, h1, h2, rfl⟩ := h
    have := wk_cons (hs _ _ _ h2) k a v (wk_rev hs k y v h1)
    rw [Nat.add_comm v t]; exact this
theorem wk_bd {E : Nat → Nat → Nat → Prop} {c : Nat} (hc : ∀ a b u, E a b u → u ≤ c) {a : Nat} : ∀ (k b w : Nat), wk E k a b w → w ≤ c * k
  | 0, b, w, h => by rw [h.2]; exact Nat.zero_le _
  | k + 1, b, w, h => by
    obtain ⟨y, v, t, h1, h2, rfl⟩ := h
    have h3 := wk_bd hc k y v h1
    have h4 := hc _ _ _ h2
    rw [Nat.mul_succ]; omega
theorem wk_ge {E : Nat → Nat → Nat → Prop} (hc : ∀ a b u, E a b u → 1 ≤ u) {a : Nat} : ∀ (k b w : Nat), wk E k a b w → k ≤ w
  | 0, _, _, _ => Nat.zero_le _
  | k + 1, b, w, h => by
    obtain ⟨y, v, t, h1, h2, rfl⟩ := h
    have h3 := wk_ge hc k y v h1
    have h4 := hc _ _ _ h2
    omega
theorem wk_mono {E E' : Nat → Nat → Nat → Prop} (h : ∀ a b u, E a b u → E' a b u) {a : Nat} : ∀ (k b w : Nat), wk E k a b w → wk E' k a b w
  | 0, _, _, h => h
  | k + 1, b, w, hw => by
    obtain ⟨y, v, t, h1, h2, rfl⟩ := hw
    exact ⟨y, v, t, wk_mono h k y v h1, h _ _ _ h2, rfl⟩
/-- d tells the least sum of a walk from s, or FA where there is none -/
def isD (E : Nat → Nat → Nat → Prop) (n s FA : Nat) (d : Nat → Nat) : Prop := ∀ b, b < n → (d b ≠ FA ∧ (∃ k, wk E k s b (d b)) ∧ ∀ k w, wk E k s b w → d b ≤ w) ∨ (d b = FA ∧ ∀ k w, ¬ wk E k s b w)
theorem isD_of {n : Nat} {mn f : Nat → Nat → Nat} {s FA BD : Nat} {d : Nat → Nat} (hs : s < n) (h0 : d s = 0) (hle : ∀ b, b < n → d b ≤ FA) (hat : ∀ b, b < n → d b < FA → d b ≤ BD ∧ ∃ k, wk (eg n mn f) k s b (d b)) (hfe : ∀ a b, a < n → b < n → 0 < mn a b → d a < FA → d b ≤ d a + f a b) (hf : ∀ a b, f a b ≤ 800) (hFA : BD + 800 < FA) : isD (eg n mn f) n s FA d := by
  have hr : ∀ (k b w : Nat), wk (eg n mn f) k s b w → d b < FA ∧ d b ≤ w := by
    intro k
    induction k with
    | zero => intro b w h; rw [← h.1, h0]; omega
    | succ k ih =>
      rintro b w ⟨x, v, u, h1, ⟨hx, hb, hm, rfl⟩, rfl⟩
      obtain ⟨i1, i2⟩ := ih x v h1
      have h2 := hfe x b hx hb hm i1
      have h3 := (hat x hx i1).1
      have h4 := hf x b
      omega
  intro b hb
  by_cases hlt : d b < FA
  · exact Or.inl ⟨by omega, (hat b hb hlt).2, fun k w hw => (hr k b w hw).2⟩
  · exact Or.inr ⟨by have := hle b hb; omega, fun k w hw => absurd (hr k b w hw).1 hlt⟩
theorem isD_eq {E : Nat → Nat → Nat → Prop} {n s FA FB : Nat} {d e : Nat → Nat} (hd : isD E n s FA d) (he : isD E n s FB e) {b : Nat} (hb : b < n) : (d b ≠ FA ∧ e b ≠ FB ∧ d b = e b) ∨ (d b = FA ∧ e b = FB) := by
  rcases hd b hb with ⟨n1, ⟨k1, w1⟩, l1⟩ | ⟨n1, w1⟩ <;> rcases he b hb with ⟨n2, ⟨k2, w2⟩, l2⟩ | ⟨n2, w2⟩
  · exact Or.inl ⟨n1, n2, Nat.le_antisymm (l1 _ _ w2) (l2 _ _ w1)⟩
  · exact absurd w1 (w2 _ _)
  · exact absurd w2 (w1 _ _)
  · exact Or.inr ⟨n1, n2⟩
/-- the least pair (minutes, legs) of the walks from s to b -/
def isL (E : Nat → Nat → Nat → Prop) (s b F S : Nat) : Prop := wk E S s b F ∧ ∀ k w, wk E k s b w → F < w ∨ (F = w ∧ S ≤ k)
theorem isL_eq {E : Nat → Nat → Nat → Prop} {s b F S F' S' : Nat} (h : isL E s b F S) (h' : isL E s b F' S') : F = F' ∧ S = S' := by
  have h1 := h.2 _ _ h'.1
  have h2 := h'.2 _ _ h.1
  omega
theorem wk8 {n : Nat} {mn : Nat → Nat → Nat} {a : Nat} : ∀ (k b w : Nat), wk (eg n mn (fun a b => mn a b * 8 + 1)) k a b w → ∃ F, w = F * 8 + k ∧ wk (eg n mn mn) k a b F
  | 0, b, w, h => ⟨0, by rw [h.2], h.1, rfl⟩
  | k + 1, b, w, h => by
    obtain ⟨y, v, t, h1, ⟨p1, p2, p3, rfl⟩, rfl⟩ := h
    obtain ⟨F, rfl, h2⟩ := wk8 k y v h1
    exact ⟨F + mn y b, by dsimp only; omega, y, F, _, h2, ⟨p1, p2, p3, rfl⟩, rfl⟩
theorem wk8' {n : Nat} {mn : Nat → Nat → Nat} {a : Nat} : ∀ (k b F : Nat), wk (eg n mn mn) k a b F → wk (eg n mn (fun a b => mn a b * 8 + 1)) k a b (F * 8 + k)
  | 0, b, w, h => ⟨h.1, by rw [h.2]⟩
  | k + 1, b, w, h => by
    obtain ⟨y, v, t, h1, ⟨p1, p2, p3, rfl⟩, rfl⟩ := h
    exact ⟨y, v * 8 + k, _, wk8' k y v h1, ⟨p1, p2, p3, rfl⟩, by dsimp only; omega⟩
/-- the class's sums of 8 times the minutes and 1 a leg hold the least pair -/
theorem lex8 {n : Nat} {mn : Nat → Nat → Nat} {s FA : Nat} {d : Nat → Nat} (hs : s < n) (hd : isD (eg n mn (fun a b => mn a b * 8 + 1)) n s FA d) (h6 : ∀ b, b < n → d b ≠ FA → ∃ k, k ≤ 5 ∧ wk (eg n mn (fun a b => mn a b * 8 + 1)) k s b (d b)) {b : Nat} (hb : b < n) : (d b ≠ FA ∧ isL (eg n mn mn) s b (d b / 8) (d b % 8) ∧ d b % 8 ≤ 5) ∨ (d b = FA ∧ ∀ k w, ¬ wk (eg n mn mn) k s b w) := by
  have key : ∀ c, c < n → d c ≠ FA → d c % 8 ≤ 5 ∧ wk (eg n mn mn) (d c % 8) s c (d c / 8) := fun c hc hn => by
    obtain ⟨k, hk, hw⟩ := h6 c hc hn
    obtain ⟨F, e, hF⟩ := wk8 k c _ hw
    rw [show d c % 8 = k by omega, show d c / 8 = F by omega]
    exact ⟨hk, hF⟩
  have low : ∀ (k c w : Nat), wk (eg n mn mn) k s c w → d c ≠ FA ∧ (d c / 8 < w ∨ (d c / 8 = w ∧ d c % 8 ≤ k)) := by
    intro k
    induction k with
    | zero =>
      rintro c w ⟨rfl, rfl⟩
      rcases hd s hs with ⟨h1, h2, h3⟩ | ⟨h1, h2⟩
      · have := h3 0 0 ⟨rfl, rfl⟩
        exact ⟨h1, by omega⟩
      · exact absurd ⟨rfl, rfl⟩ (h2 0 0)
    | succ k ih =>
      rintro c w ⟨x, v, u, h1, ⟨hx, hc, hm, rfl⟩, rfl⟩
      obtain ⟨i1, i2⟩ := ih x v h1
      obtain ⟨k6, hw6⟩ := key x hx i1
      have hw8 := wk8' _ _ _ hw6
      have hst : wk (eg n mn (fun a b => mn a b * 8 + 1)) (d x % 8 + 1) s c (d x / 8 * 8 + d x % 8 + (mn x c * 8 + 1)) := ⟨x, _, _, hw8, ⟨hx, hc, hm, rfl⟩, rfl⟩
      rcases hd c hc with ⟨h2, -, h3⟩ | ⟨h2, h3⟩
      · have := h3 _ _ hst
        exact ⟨h2, by omega⟩
      · exact absurd hst (h3 _ _)
  by_cases hn : d b = FA
  · exact Or.inr ⟨hn, fun k w hw => (low k b w hw).1 hn⟩
  · obtain ⟨k6, hw6⟩ := key b hb hn
    exact Or.inl ⟨hn, ⟨hw6, fun k w hw => (low k b w hw).2⟩, k6⟩
/-! Settling the nearest room again and again: one round, in words. -/
def dijI (n : Nat) (mn f : Nat → Nat → Nat) (s FA r : Nat) (d : Nat → Nat) (st : Nat → Bool) : Prop :=
  d s = 0 ∧ (∀ b, b < n → d b ≤ FA) ∧ (∀ b, b < n → d b < FA → ∃ k, k ≤ r ∧ (st b = true → k + 1 ≤ r) ∧ wk (eg n mn f) k s b (d b)) ∧ (∀ a, a < n → st a = true → d a < FA ∧ (∀ b, b < n → 0 < mn a b → d b ≤ d a + f a b) ∧ ∀ b, b < n → st b = false → d a ≤ d b) ∧ sm n (fun a => (st a).toNat) = r
theorem dij_step {n : Nat} {mn f c : Nat → Nat → Nat} {s FA r x : Nat} {d d' : Nat → Nat} {st : Nat → Bool} (h : dijI n mn f s FA r d st) (hx : x < n) (hst : st x = false) (hxl : d x < FA) (hnear : ∀ b, b < n → st b = false → d x ≤ d b) (hc : ∀ b, b < n → (0 < mn x b ∧ c x b = f x b) ∨ (mn x b = 0 ∧ c x b = FA)) (hd' : ∀ b, b < n → d' b = min (d b) (d x + c x b)) (hs : s < n) : dijI n mn f s FA (r + 1) d' (fun a => if a = x then true else st a) := by
  obtain ⟨h0, hle, hat, hse, hcn⟩ := h
  have hxx : d' x = d x := by rw [hd' x hx]; omega
  have hsame : ∀ b, b < n → st b = true → d' b = d b := fun b hb hbs => by
    have := (hse b hb hbs).2.2 x hx hst
    rw [hd' b hb]; omega
  refine ⟨by rw [hd' s hs, h0]; omega, fun b hb => by have := hle b hb; rw [hd' b hb]; omega, fun b hb hlt => ?_, fun a ha hsa => ?_, ?_⟩
  · rw [hd' b hb] at hlt ⊢
    by_cases hc1 : d b ≤ d x + c x b
    · rw [Nat.min_eq_left hc1] at hlt ⊢
      obtain ⟨k, hk, hk2, hw⟩ := hat b hb hlt
      exact ⟨k, by omega, fun _ => by omega, hw⟩
    · have hne : b ≠ x := fun e => by subst e; omega
      have hns : st b ≠ true := fun e => by
        have := hsame b hb e
        rw [hd' b hb] at this
        omega
      rw [Nat.min_eq_right (by omega)] at hlt ⊢
      rcases hc b hb with ⟨hm, e⟩ | ⟨hm, e⟩
      · obtain ⟨k, hk, -, hw⟩ := hat x hx hxl
        exact ⟨k + 1, by omega, fun z => by dsimp only at z; rw [if_neg hne] at z; exact absurd z hns, x, d x, f x b, hw, ⟨hx, hb, hm, rfl⟩, by rw [e]⟩
      · omega
  · dsimp only at hsa
    by_cases hax : a = x
    · subst hax
      rw [hxx]
      refine ⟨hxl, fun b hb hm => ?_, fun b hb hsb => ?_⟩
      · rw [hd' b hb]
        rcases hc b hb with ⟨-, e⟩ | ⟨e, -⟩
        · rw [e]; exact Nat.min_le_right _ _
        · omega
      · dsimp only at hsb
        have hba : b ≠ a := fun e => by subst e; rw [if_pos rfl] at hsb; cases hsb
        rw [if_neg hba] at hsb
        have := hnear b hb hsb
        rw [hd' b hb]; omega
    · rw [if_neg hax] at hsa
      obtain ⟨i1, i2, i3⟩ := hse a ha hsa
      rw [hsame a ha hsa]
      refine ⟨i1, fun b hb hm => by have := i2 b hb hm; rw [hd' b hb]; omega, fun b hb hsb => ?_⟩
      dsimp only at hsb
      have hbx : b ≠ x := fun e => by subst e; rw [if_pos rfl] at hsb; cases hsb
      rw [if_neg hbx] at hsb
      have h1 := i3 b hb hsb
      have h2 := i3 x hx hst
      rw [hd' b hb]; omega
  · have h1 := sm_one (f := fun a => (if a = x then true else st a).toNat) (g := fun a => (st a).toNat) (k := x) n hx (fun a _ hn => by rw [if_neg hn])
    simp only [if_pos, hst] at h1
    have e1 : true.toNat = 1 := rfl
    have e2 : false.toNat = 0 := rfl
    show sm n (fun a => (if a = x then true else st a).toNat) = r + 1
    omega
theorem sm_full {st : Nat → Bool} : ∀ n, sm n (fun a => (st a).toNat) = n → ∀ a, a < n → st a = true
  | 0, _, a, h => absurd h (Nat.not_lt_zero _)
  | n + 1, h, a, ha => by
    have h1 : sm n (fun a => (st a).toNat) ≤ 1 * n := sm_b n (fun a _ => toNat_le1 (st a))
    have h2 := toNat_le1 (st n)
    have h3 : sm n (fun a => (st a).toNat) + (st n).toNat = n + 1 := h
    by_cases e : a = n
    · subst e
      cases hs : st a
      · rw [hs] at h3
        have e2 : false.toNat = 0 := rfl
        omega
      · rfl
    · exact sm_full n (by omega) a (by omega)
/-- the end of the settling -/
theorem dij_end {n : Nat} {mn f : Nat → Nat → Nat} {s FA r : Nat} {d : Nat → Nat} {st : Nat → Bool} (h : dijI n mn f s FA r d st) (hs : s < n) (hn : n ≤ 6) (hr : r ≤ n) (hend : r = n ∨ ∀ b, b < n → st b = false → FA ≤ d b) (hf : ∀ a b, f a b ≤ 800) (hFA : 6000 < FA) : isD (eg n mn f) n s FA d ∧ (∀ b, b < n → d b ≠ FA → ∃ k, k ≤ 5 ∧ wk (eg n mn f) k s b (d b)) ∧ ∀ b, b < n → d b ≤ FA ∧ (d b < FA → d b ≤ 4800) := by
  obtain ⟨h0, hle, hat, hse, hcn⟩ := h
  have hb : ∀ b, b < n → d b < FA → d b ≤ 4800 := fun b hb hlt => by
    obtain ⟨k, hk, -, hw⟩ := hat b hb hlt
    have := wk_bd (c := 800) (fun a b u he => by rw [he.2.2.2]; exact hf a b) k b _ hw
    have : 800 * k ≤ 800 * 6 := Nat.mul_le_mul_left _ (by omega)
    omega
  refine ⟨isD_of hs h0 hle (fun b hb' hlt => ⟨hb b hb' hlt, ?_⟩) (fun a b ha hb' hm hlt => ?_) hf (by omega), fun b hb' hne => ?_, fun b hb' => ⟨hle b hb', hb b hb'⟩⟩
  · obtain ⟨k, -, -, hw⟩ := hat b hb' hlt
    exact ⟨k, hw⟩
  · have hsa : st a = true := by
      rcases hend with h1 | h1
      · exact sm_full n (by omega) a ha
      · cases hsa : st a
        · have := h1 a ha hsa; omega
        · rfl
    exact (hse a ha hsa).2.1 b hb' hm
  · obtain ⟨k, hk, hk2, hw⟩ := hat b hb' (by have := hle b hb'; omega)
    have hsb : st b = true := by
      rcases hend with h1 | h1
      · exact sm_full n (by omega) b hb'
      · cases hsb : st b
        · have := h1 b hb' hsb; have := hle b hb'; omega
        · rfl
    have := hk2 hsb
    exact ⟨k, by omega, hw⟩
