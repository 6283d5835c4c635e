/-! Pure layer: the class's way is the least that bestWay may find. -/
section BEST
variable {n : Nat} {mn ht : Nat → Nat → Nat} {b : Nat} {d : Nat → Nat}
theorem pt_wk (hg : gOK n mn ht) : ∀ (k a G c : Nat), a < n → pt n mn k a b G c → ∃ M R, wk (eg n mn mn) k b a M ∧ c = M * 10000000 + k * 1000000 + R ∧ R < 117649
  | 0, a, _, c, ha, h => ⟨0, 0, ⟨h.1.symm, rfl⟩, by rw [h.2], by decide⟩
  | k + 1, a, G, c, ha, h => by
    obtain ⟨-, x, c', hx, hm, -, h1, rfl⟩ := h
    obtain ⟨M, R, hw, rfl, hR⟩ := pt_wk hg k x _ c' hx h1
    refine ⟨M + mn x a, R / 7 + (x + 1) * 16807, ⟨x, M, mn x a, hw, ⟨hx, ha, by rw [(hg.2 x a).2.2.1]; exact hm, rfl⟩, rfl⟩, ?_, ?_⟩
    · rw [(hg.2 x a).2.2.1]
      unfold stW
      omega
    · have := hg.1
      omega
/-- rooms of the class's way in one number; the way in one number -/
def rcw (n : Nat) (mn : Nat → Nat → Nat) (d : Nat → Nat) : Nat → Nat → Nat
  | 0, _ => 0
  | k + 1, a => rcw n mn d k (nx n mn d a) / 7 + (nx n mn d a + 1) * 16807
def cwk (n : Nat) (mn : Nat → Nat → Nat) (d : Nat → Nat) : Nat → Nat → Nat
  | 0, _ => 0
  | k + 1, a => stW (cwk n mn d k (nx n mn d a)) (mn a (nx n mn d a)) (nx n mn d a)
theorem rcw_7 : ∀ a, rcw n mn d 0 a = 0 ∧ rcw n mn d 1 a % 16807 = 0 ∧ rcw n mn d 2 a % 2401 = 0 ∧ rcw n mn d 3 a % 343 = 0 ∧ rcw n mn d 4 a % 49 = 0 := by
  have h1 : ∀ a, rcw n mn d 1 a % 16807 = 0 := fun a => by
    show (0 / 7 + (nx n mn d a + 1) * 16807) % 16807 = 0
    omega
  have h2 : ∀ a, rcw n mn d 2 a % 2401 = 0 := fun a => by
    have := h1 (nx n mn d a)
    show (rcw n mn d 1 (nx n mn d a) / 7 + (nx n mn d a + 1) * 16807) % 2401 = 0
    omega
  have h3 : ∀ a, rcw n mn d 3 a % 343 = 0 := fun a => by
    have := h2 (nx n mn d a)
    show (rcw n mn d 2 (nx n mn d a) / 7 + (nx n mn d a + 1) * 16807) % 343 = 0
    omega
  have h4 : ∀ a, rcw n mn d 4 a % 49 = 0 := fun a => by
    have := h3 (nx n mn d a)
    show (rcw n mn d 3 (nx n mn d a) / 7 + (nx n mn d a + 1) * 16807) % 49 = 0
    omega
  exact fun a => ⟨rfl, h1 a, h2 a, h3 a, h4 a⟩
theorem rcw_m7 {k : Nat} (hk : k ≤ 4) (a : Nat) : rcw n mn d k a % 7 = 0 := by
  obtain ⟨h0, h1, h2, h3, h4⟩ := rcw_7 (n := n) (mn := mn) (d := d) a
  rcases (show k = 0 ∨ k = 1 ∨ k = 2 ∨ k = 3 ∨ k = 4 by omega) with rfl | rfl | rfl | rfl | rfl <;> omega
/-- the class's way in one number -/
theorem cwk_eq (hg : gOK n mn ht) (h8 : d8 n mn b d) (hb : b < n) : ∀ (k a : Nat), a < n → d a < cFA → d a % 8 = k → cwk n mn d k a = d a / 8 * 10000000 + k * 1000000 + rcw n mn d k a ∧ rcw n mn d k a < 117649
  | 0, a, ha, hne, hk => by
    have hl := (d8_lex h8 hb ha hne).1.1
    rw [hk] at hl
    have : d a / 8 = 0 := hl.2
    exact ⟨by show 0 = _; rw [this]; rfl, (by show 0 < 117649; decide)⟩
  | k + 1, a, ha, hne, hk => by
    have hab : a ≠ b := fun z => by
      subst z
      rw [d8_t h8 hb] at hk; omega
    obtain ⟨q1, q2, q3, q4, q5⟩ := nx_ok hg h8 hb ha hne hab
    obtain ⟨e1, e2⟩ := cwk_eq hg h8 hb k (nx n mn d a) q1 q3 (by omega)
    have hn := hg.1
    constructor
    · show stW (cwk n mn d k (nx n mn d a)) (mn a (nx n mn d a)) (nx n mn d a) = _ + (rcw n mn d k (nx n mn d a) / 7 + (nx n mn d a + 1) * 16807)
      rw [e1, q4]
      unfold stW
      omega
    · show rcw n mn d k (nx n mn d a) / 7 + (nx n mn d a + 1) * 16807 < 117649
      omega
/-- the class's way is one that comes into no room twice -/
theorem cwk_pt (hg : gOK n mn ht) (h8 : d8 n mn b d) (hb : b < n) : ∀ (k a G : Nat), a < n → d a < cFA → d a % 8 = k → (∀ i, G.testBit i = true → d a < d i) → pt n mn k a b G (cwk n mn d k a)
  | 0, a, G, ha, hne, hk, _ => by
    have hl := (d8_lex h8 hb ha hne).1.1
    rw [hk] at hl
    exact ⟨hl.1.symm, rfl⟩
  | k + 1, a, G, ha, hne, hk, hG => by
    have hab : a ≠ b := fun z => by
      subst z
      rw [d8_t h8 hb] at hk; omega
    obtain ⟨q1, q2, q3, q4, q5⟩ := nx_ok hg h8 hb ha hne hab
    have hlt : d (nx n mn d a) < d a := by omega
    refine ⟨hab, nx n mn d a, _, q1, q2, ?_, cwk_pt hg h8 hb k (nx n mn d a) (G ||| 2 ^ a) q1 q3 (by omega) (fun i hi => ?_), rfl⟩
    · cases hz : G.testBit (nx n mn d a)
      · rfl
      · have := hG _ hz; omega
    · rw [tb_or] at hi
      cases hz : G.testBit i
      · rw [hz, Bool.false_or] at hi
        have := of_decide_eq_true hi
        subst this; exact hlt
      · have := hG i hz; omega
/-- and the least -/
theorem cwk_min (hg : gOK n mn ht) (h8 : d8 n mn b d) (hb : b < n) : ∀ (k a : Nat), a < n → d a < cFA → d a % 8 = k → ∀ G k' c, k' ≤ 8 → pt n mn k' a b G c → cwk n mn d k a ≤ c
  | 0, _, _, _, _, _, _, _, _, _ => Nat.zero_le _
  | k + 1, a, ha, hne, hk, G, k', c, hk8, hp => by
    obtain ⟨M, R, hw, hc, hR⟩ := pt_wk hg k' a G c ha hp
    obtain ⟨e1, e2⟩ := cwk_eq hg h8 hb (k + 1) a ha hne hk
    have hL := d8_lex h8 hb ha hne
    have hl := hL.1.2 k' M hw
    have hn := hg.1
    rcases hl with hl | ⟨hl1, hl2⟩
    · omega
    by_cases hkk : k' = k + 1
    · subst hkk
      obtain ⟨-, x, c', hx, hm, hGx, h1, rfl⟩ := hp
      obtain ⟨M', R', hw', hc', hR'⟩ := pt_wk hg k x _ c' hx h1
      have hab : a ≠ b := fun z => by
        subst z
        rw [d8_t h8 hb] at hk; omega
      obtain ⟨q1, q2, q3, q4, q5⟩ := nx_ok hg h8 hb ha hne hab
      -- x is on a fastest way
      have hM : M = M' + mn a x := by
        subst hc'
        unfold stW at hc
        omega
      have w8 := wk8' k x M' hw'
      have hE : eg n mn (fun a b => mn a b * 8 + 1) x a (mn a x * 8 + 1) := ⟨hx, ha, by rw [(hg.2 x a).2.2.1]; exact hm, by dsimp only; rw [(hg.2 x a).2.2.1]⟩
      have hdx : d x ≤ M' * 8 + k := by
        rcases h8.1 x hx with ⟨-, -, l⟩ | ⟨-, l⟩
        · exact l _ _ w8
        · exact absurd w8 (l _ _)
      have hda : d a ≤ d x + (mn a x * 8 + 1) := by
        rcases h8.1 x hx with ⟨-, ⟨k2, w2⟩, -⟩ | ⟨-, l⟩
        · rcases h8.1 a ha with ⟨-, -, l2⟩ | ⟨z, -⟩
          · exact l2 (k2 + 1) _ ⟨x, d x, _, w2, hE, rfl⟩
          · omega
        · exact absurd w8 (l _ _)
      have heq : mn a x * 8 + 1 + d x = d a := by omega
      have hnx : nx n mn d a ≤ x := by
        refine Nat.not_lt.mp fun z => ?_
        have h9 := (fs_spec (P := nxP mn d a) n).2 x z
        have h10 : nxP mn d a x = true := decide_eq_true ⟨hm, heq⟩
        rw [h10] at h9; cases h9
      by_cases hxe : nx n mn d a = x
      · show stW (cwk n mn d k (nx n mn d a)) (mn a (nx n mn d a)) (nx n mn d a) ≤ _
        rw [hxe]
        exact stW_mono (cwk_min hg h8 hb k x hx (by omega) (by omega) _ _ _ (by omega) h1)
      · obtain ⟨f1, f2⟩ := cwk_eq hg h8 hb k (nx n mn d a) q1 q3 (by omega)
        rw [e1]
        have e3 : rcw n mn d (k + 1) a = rcw n mn d k (nx n mn d a) / 7 + (nx n mn d a + 1) * 16807 := rfl
        rw [e3]
        subst hc'
        unfold stW
        omega
    · omega
/-- bestWay's answer: the class's way -/
theorem best_cwk (hg : gOK n mn ht) (h8 : d8 n mn b d) (hb : b < n) {a : Nat} (ha : a < n) {r : Int} (hr : MinI (fun c => ∃ k, pt n mn k a b 0 c) r) : (d a = cFA ∧ r = -1) ∨ (d a < cFA ∧ r = ((cwk n mn d (d a % 8) a : Nat) : Int)) := by
  by_cases hne : d a < cFA
  · refine Or.inr ⟨hne, hr.eq (Or.inr ⟨_, rfl, ⟨_, cwk_pt hg h8 hb _ a 0 ha hne rfl (fun i hi => by rw [Nat.zero_testBit] at hi; cases hi)⟩, fun c' hc' => ?_⟩)⟩
    obtain ⟨k, hk⟩ := hc'
    have := pt_len hg _ _ _ _ _ hk
    have := rem_le (0 ||| 2 ^ a)
    exact cwk_min hg h8 hb _ a ha hne rfl 0 k c' (by omega) hk
  · have hda : d a = cFA := by have := (h8.2.2 a ha).1; omega
    refine Or.inl ⟨hda, ?_⟩
    rcases hr with ⟨h, -⟩ | ⟨c, -, ⟨k, hk⟩, -⟩
    · exact h
    · obtain ⟨M, R, hw, -, -⟩ := pt_wk hg k a 0 c ha hk
      rcases h8.1 a ha with ⟨z, -⟩ | ⟨-, l⟩
      · exact absurd hda z
      · exact absurd (wk8' k a M hw) (l _ _)
/-- what the two sums of minutes answer -/
theorem best_rm (hg : gOK n mn ht) (h8 : d8 n mn b d) (hb : b < n) {a : Nat} (ha : a < n) : (d a = cFA ∧ rmV (eg n mn mn) a b = -1) ∨ (d a < cFA ∧ rmV (eg n mn mn) a b = nI (d a / 8) ∧ d a / 8 ≤ 600) := by
  have hsy : ∀ x y u, eg n mn mn x y u → eg n mn mn y x u := eg_sym (fun x y => (hg.2 x y).2.2.1) (fun x y => (hg.2 x y).2.2.1)
  have hbd := h8.2.2 a ha
  by_cases hne : d a < cFA
  · have hL := (d8_lex h8 hb ha hne).1
    refine Or.inr ⟨hne, rmV_eq (Or.inl ⟨d a / 8, ⟨_, wk_rev hsy _ _ _ hL.1⟩, fun k w hw => ?_, by omega, rfl⟩), by omega⟩
    have := hL.2 k w (wk_rev hsy _ _ _ hw)
    omega
  · have hda : d a = cFA := by omega
    refine Or.inl ⟨hda, rmV_eq (Or.inr ⟨fun k w hw => ?_, rfl⟩)⟩
    rcases h8.1 a ha with ⟨z, -⟩ | ⟨-, l⟩
    · exact absurd hda z
    · exact absurd (wk8' k a w (wk_rev hsy _ _ _ hw)) (l _ _)
end BEST
