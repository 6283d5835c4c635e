/-! Pure layer, 14: join points with what they ask; the sum on the way; the reference's ways. -/
theorem ok_jn1 {A O : Type} {P : O → Prop} {k : A → Option O} {b : (A → Option O) → Option O} (R : A → Prop) (hk : ∀ a, R a → Ok (k a) P) (hb : ∀ j : A → Option O, (∀ a, R a → Ok (j a) P) → Ok (b j) P) : Ok (jn k b) P := hb k hk
theorem ok_jn2 {A B O : Type} {P : O → Prop} {k : A → B → Option O} {b : (A → B → Option O) → Option O} (R : A → B → Prop) (hk : ∀ a c, R a c → Ok (k a c) P) (hb : ∀ j : A → B → Option O, (∀ a c, R a c → Ok (j a c) P) → Ok (b j) P) : Ok (jn k b) P := hb k hk
theorem ok_jn3 {A B C O : Type} {P : O → Prop} {k : A → B → C → Option O} {b : (A → B → C → Option O) → Option O} (R : A → B → C → Prop) (hk : ∀ a c e, R a c e → Ok (k a c e) P) (hb : ∀ j : A → B → C → Option O, (∀ a c e, R a c e → Ok (j a c e) P) → Ok (b j) P) : Ok (jn k b) P := hb k hk
section WM
variable {N : Nat} {μ : Mem} {a0 n s t : Nat} {mn ht : Nat → Nat → Nat} {d : Nat → Nat}
/-- what the legs of the way pass a limit by -/
def pw (n : Nat) (mn ht : Nat → Nat → Nat) (d : Nat → Nat) (s lim i : Nat) : Nat := sm i (fun j => ht (wy n mn d s j) (wy n mn d s (j + 1)) - lim)
theorem pw_le (hg : gOK n mn ht) (lim i : Nat) : pw n mn ht d s lim i ≤ 9 * i := sm_b i (fun a _ => by have := (hg.2 (wy n mn d s a) (wy n mn d s (a + 1))).2.1; omega)
theorem k_passedOnWay {lim : Nat} (hN : 20 ≤ N) (hl : lim < 2 ^ 30) (hg : gOK n mn ht) (h : cG μ 1 n mn ht) (h8 : d8 n mn t d) (hs : s < n) (ht1 : t < n) (hlt : d s < cFA) (hw : wayR μ 520 n mn d s) : Ok (fX10_passedOnWay N μ a0 (nI lim)) (fun r => r = nI (pw n mn ht d s lim (d s % 8))) := by
  have hn := hg.1
  have hS5 := (d8_lex h8 ht1 hs hlt).2
  have hwy := wy_ok hg h8 ht1 hs hlt
  unfold fX10_passedOnWay
  refine ok_fix2 (fun k x y => ∃ i, i + k = d s % 8 ∧ x = nI (pw n mn ht d s lim i) ∧ y = nI (i + 1)) ?_ N (d s % 8) _ _ (by omega) ⟨0, by omega, rfl, rfl⟩
  rintro k self x y ⟨i, hi, rfl, rfl⟩ hs1
  rw [hw.1]
  refine ok_le (d s % 8 + 1) (i + 1) (f := fun hc => ?_) (g := fun hc => ?_)
  · exact ok_some (by rw [show i = d s % 8 by omega])
  · have e1 : nI (i + 1) - 1 = nI i := nI_pred i
    rw [e1]
    obtain ⟨w1, -⟩ := hwy i (by omega)
    obtain ⟨w2, -⟩ := hwy (i + 1) (by omega)
    refine ok_ag i rfl (by omega) (by decide) ?_
    rw [hw.2.2 i (by omega)]
    refine ok_ar (wy n mn d s i) rfl (by omega) (by decide) ?_
    refine ok_ag (i + 1) rfl (by omega) (by decide) ?_
    rw [hw.2.2 (i + 1) (by omega)]
    refine ok_ag (wy n mn d s (i + 1)) rfl (by omega) (by decide) ?_
    have hh := h.2.2 (wy n mn d s i) (by omega) (wy n mn d s (i + 1)) (by omega)
    rw [hh]
    have hb := (hg.2 (wy n mn d s i) (wy n mn d s (i + 1))).2.1
    refine ok_bindE (show fX10_passedBy N μ (nI (ht (wy n mn d s i) (wy n mn d s (i + 1)))) (nI lim) = some (nI (ht (wy n mn d s i) (wy n mn d s (i + 1)) - lim)) from congrArg some (passedI (by omega) hl)) ?_
    refine ok_lt (ok_lt ?_)
    exact hs1 (k - 1) _ _ (by omega) ⟨i + 1, by omega, nI_add _ _, nI_1 _⟩
/-- the reference's state has these rooms and legs -/
def mG (μ : Mem) (a0 n : Nat) (mn ht : Nat → Nat → Nat) : Prop := μ (a0 + 1) 0 = nI n ∧ (∀ a, a < 6 → ∀ b, b < 6 → μ (a0 + 1) (10 + 6 * a + b) = nI (mn a b)) ∧ ∀ a, a < 6 → ∀ b, b < 6 → μ (a0 + 1) (46 + 6 * a + b) = nI (ht a b)
theorem mG.mv {μ' : Mem} (h : mG μ a0 n mn ht) (e : ∀ j, j < 82 → μ' (a0 + 1) j = μ (a0 + 1) j) : mG μ' a0 n mn ht :=
  ⟨by rw [e _ (by decide)]; exact h.1, fun a ha b hb => by rw [e _ (by omega)]; exact h.2.1 a ha b hb, fun a ha b hb => by rw [e _ (by omega)]; exact h.2.2 a ha b hb⟩
theorem m_leg {x y : Int32} (h : mG μ a0 n mn ht) (a b : Nat) (ha : a < 6) (hb : b < 6) (hx : x = nI a) (hy : y = nI b) : fX11_leg N μ a0 x y = some (nI (mn a b)) := by
  subst hx; subst hy
  unfold fX11_leg ag
  have e : (10 : Int32) + 6 * nI a + nI b = nI (10 + 6 * a + b) := by
    rw [show (10 : Int32) = nI 10 from rfl, show (6 : Int32) = nI 6 from rfl, pk_mul, nI_add, nI_add]
  rw [e, if_neg (vp_in_nI (by omega) (by decide)), nI_clamp (by omega), h.2.1 a ha b hb]
theorem m_heat {x y : Int32} (h : mG μ a0 n mn ht) (a b : Nat) (ha : a < 6) (hb : b < 6) (hx : x = nI a) (hy : y = nI b) : fX11_heat N μ a0 x y = some (nI (ht a b)) := by
  subst hx; subst hy
  unfold fX11_heat ag
  have e : (46 : Int32) + 6 * nI a + nI b = nI (46 + 6 * a + b) := by
    rw [show (46 : Int32) = nI 46 from rfl, show (6 : Int32) = nI 6 from rfl, pk_mul, nI_add, nI_add]
  rw [e, if_neg (vp_in_nI (by omega) (by decide)), nI_clamp (by omega), h.2.2 a ha b hb]
/-- least pairs, as the reference keeps them -/
def mW (n : Nat) (mn : Nat → Nat → Nat) (t : Nat) (F S : Nat → Nat) : Prop := ∀ b, b < 6 → (F b < 100000 ∧ isL (eg n mn mn) t b (F b) (S b)) ∨ (F b = 100000 ∧ ∀ k w, ¬ wk (eg n mn mn) k t b w)
def nobet (mn : Nat → Nat → Nat) (F S : Nat → Nat) (a b : Nat) : Prop := 0 < mn a b → F b < 100000 → (F a < F b + mn a b ∨ (F a = F b + mn a b ∧ S a ≤ S b + 1))
def pot6 (F S : Nat → Nat) : Nat := sm 6 (fun b => F b * 200000 + S b)
def mwI (n : Nat) (mn : Nat → Nat → Nat) (t : Nat) (F S : Nat → Nat) : Prop := F t = 0 ∧ S t = 0 ∧ ∀ b, b < 6 → F b ≤ 100000 ∧ S b ≤ 100000 ∧ (F b < 100000 → wk (eg n mn mn) (S b) t b (F b))
theorem mw_end {F S : Nat → Nat} (hg : gOK n mn ht) (ht1 : t < n) (h : mwI n mn t F S) (hnb : ∀ a, a < 6 → ∀ b, b < 6 → nobet mn F S a b) : mW n mn t F S := by
  have hn := hg.1
  have low : ∀ (k b w : Nat), wk (eg n mn mn) k t b w → w < 100000 → F b < w ∨ (F b = w ∧ S b ≤ k) := by
    intro k
    induction k with
    | zero => rintro b w ⟨rfl, rfl⟩ _; exact Or.inr ⟨h.1, by rw [h.2.1]; exact Nat.le_refl _⟩
    | succ k ih =>
      rintro b w ⟨x, v, u, h1, ⟨p1, p2, p3, rfl⟩, rfl⟩ hw
      have i1 := ih x v h1 (by omega)
      have h2 := hnb b (by omega) x (by omega) (by rw [(hg.2 b x).2.2.1]; exact p3) (by omega)
      rw [(hg.2 b x).2.2.1] at h2
      omega
  have hex : ∀ b k w, wk (eg n mn mn) k t b w → ∃ k' w', wk (eg n mn mn) k' t b w' ∧ w' ≤ 600 := fun b k w hw => by
    obtain ⟨D, hD, -, hDb⟩ := dij_ex (f := mn) (mn := mn) hn ht1 (fun a b => by have := (hg.2 a b).1; omega)
    obtain ⟨D8, hD8, h5, hDb8⟩ := dij_ex (f := fun a b => mn a b * 8 + 1) (mn := mn) hn ht1 (fun a b => by have := (hg.2 a b).1; omega)
    have hb := wk_lt ht1 k b w hw
    rcases lex8 ht1 hD8 h5 hb with ⟨h1, h2, h3⟩ | ⟨h1, h2⟩
    · refine ⟨_, _, h2.1, ?_⟩
      have := hDb8 b hb
      have hFA : cFA = 1000000 := rfl
      omega
    · exact absurd hw (h2 _ _)
  intro b hb
  obtain ⟨b1, b2, b3⟩ := h.2.2 b hb
  by_cases hlt : F b < 100000
  · refine Or.inl ⟨hlt, b3 hlt, fun k w hw => ?_⟩
    by_cases hw2 : w < 100000
    · exact low k b w hw hw2
    · omega
  · refine Or.inr ⟨by omega, fun k w hw => ?_⟩
    obtain ⟨k', w', hw', hle⟩ := hex b k w hw
    have := low k' b w' hw' (by omega)
    omega
theorem k_findsWays (hN : 1200000000000 ≤ N) (hg : gOK n mn ht) (h : mG μ a0 n mn ht) (ht1 : t < n) : Ok (fX11_findsWays N μ a0 (nI t)) (fun m => ∃ F S, mW n mn t F S ∧ ArN m (a0 + 5) 6 F ∧ ArN m (a0 + 6) 6 S ∧ (∀ b, b < 6 → S b ≤ 100000 ∧ F b ≤ 100000) ∧ frm (fun q => q = a0 + 5 ∨ q = a0 + 6) μ m) := by
  have hn := hg.1
  unfold fX11_findsWays
  refine ok_fix2 (fun k x m => ∃ i, i + k = 6 ∧ x = nI i ∧ frm (fun q => q = a0 + 5 ∨ q = a0 + 6) μ m ∧ ArN m (a0 + 5) i (fun b => if b = t then 0 else 100000) ∧ ArN m (a0 + 6) i (fun _ => 0)) ?_ N 6 _ _ (by omega) ⟨0, rfl, rfl, frm.rf, fun i hi => absurd hi (Nat.not_lt_zero _), fun i hi => absurd hi (Nat.not_lt_zero _)⟩
  rintro k self x m ⟨i, hi, rfl, hf, hF0, hS0⟩ hs0
  refine ok_le 6 i (f := fun hc => ?_) (g := fun hc => ?_)
  · have : i = 6 := by omega
    subst this
    clear hs0
    refine ok_fix2 (fun k x6 m => ∃ F S, mwI n mn t F S ∧ ArN m (a0 + 5) 6 F ∧ ArN m (a0 + 6) 6 S ∧ frm (fun q => q = a0 + 5 ∨ q = a0 + 6) μ m ∧ (x6 = false → ∀ a, a < 6 → ∀ b, b < 6 → nobet mn F S a b) ∧ k = pot6 F S + x6.toNat) ?_ N (pot6 (fun b => if b = t then 0 else 100000) (fun _ => 0) + 1) _ _ ?_ ⟨fun b => if b = t then 0 else 100000, fun _ => 0, ⟨if_pos rfl, rfl, fun b hb => ?_⟩, hF0, hS0, hf, fun z => (by cases z), rfl⟩
    · rintro k self x6 m ⟨F, S, hI, hF, hS, hf, hnb, hk⟩ hs1
      refine ok_cd (fun hx => ?_) (fun hx => ?_)
      · subst hx
        refine ok_fix3 (fun k2 x11 x12 m => ∃ i F' S', i + k2 = 6 ∧ x12 = nI i ∧ mwI n mn t F' S' ∧ ArN m (a0 + 5) 6 F' ∧ ArN m (a0 + 6) 6 S' ∧ frm (fun q => q = a0 + 5 ∨ q = a0 + 6) μ m ∧ pot6 F' S' + x11.toNat ≤ pot6 F S ∧ (x11 = false → ∀ a, a < i → ∀ b, b < 6 → nobet mn F' S' a b)) ?_ N 6 _ _ _ (by omega) ⟨0, F, S, rfl, rfl, hI, hF, hS, hf, Nat.le_refl _, fun _ a ha => absurd ha (Nat.not_lt_zero _)⟩
        rintro k2 self2 x11 x12 m ⟨i, F', S', hi, rfl, hI', hF', hS', hf', hpot, hnb'⟩ hs2
        refine ok_le 6 i (f := fun hc => ?_) (g := fun hc => ?_)
        · have h1 : true.toNat = 1 := rfl
          exact hs1 (pot6 F' S' + x11.toNat) _ _ (by omega) ⟨F', S', hI', hF', hS', hf', fun hz a ha b hb => hnb' hz a (by omega) b hb, rfl⟩
        · refine ok_fix3 (fun k3 x17 x18 m => ∃ j F' S', j + k3 = 6 ∧ x18 = nI j ∧ mwI n mn t F' S' ∧ ArN m (a0 + 5) 6 F' ∧ ArN m (a0 + 6) 6 S' ∧ frm (fun q => q = a0 + 5 ∨ q = a0 + 6) μ m ∧ pot6 F' S' + x17.toNat ≤ pot6 F S ∧ (x17 = false → ∀ a b, b < 6 → (a < i ∨ (a = i ∧ b < j)) → nobet mn F' S' a b)) ?_ N 6 _ _ _ (by omega) ⟨0, F', S', rfl, rfl, hI', hF', hS', hf', hpot, fun hz a b hb hx => hnb' hz a (by omega) b hb⟩
          clear hI' hF' hS' hf' hpot hnb' F' S'
          rintro k3 self3 x17 x18 m ⟨j, F', S', hj, rfl, hI', hF', hS', hf', hpot, hnb'⟩ hs3
          refine ok_le 6 j (f := fun hd => ?_) (g := fun hd => ?_)
          · refine ok_lt ?_
            exact hs2 (k2 - 1) _ _ _ (by omega) ⟨i + 1, F', S', by omega, nI_1 _, hI', hF', hS', hf', hpot, fun hz a ha b hb => hnb' hz a b hb (by omega)⟩
          · have hgm : mG m a0 n mn ht := h.mv (fun q _ => by rw [hf' (a0 + 1) (by omega)])
            obtain ⟨bi1, bi2, bi3⟩ := hI'.2.2 i hc
            obtain ⟨bj1, bj2, bj3⟩ := hI'.2.2 j hd
            have hmij := (hg.2 i j).1
            refine ok_ag j rfl hd (by decide) ?_
            refine ok_bindE (m_leg hgm i j hc hd rfl rfl) ?_
            refine ok_lt ?_
            refine ok_bindE (m_leg hgm i j hc hd rfl rfl) ?_
            rw [hF' j hd, nI_add]
            refine ok_jn1 (fun y : Bool => (y = true → 0 < mn i j ∧ F' j < 100000 ∧ (F' j + mn i j < F' i ∨ (F' j + mn i j = F' i ∧ S' j + 1 < S' i))) ∧ (y = false → nobet mn F' S' i j)) (fun y hy => ?_) (fun j33 hj33 => ?_)
            · refine ok_jn1 (fun v : Int32 => v = nI (if y = true then F' j + mn i j else F' i)) (fun v hv => ?_) (fun j37 hj37 => ?_)
              · refine ok_aw i rfl hc (by decide) ?_
                have hF2 : ArN (mset m (a0 + 5) i v) (a0 + 5) 6 (updN F' i (if y = true then F' j + mn i j else F' i)) := hF'.set i _ hv
                have hS2 : ArN (mset m (a0 + 5) i v) (a0 + 6) 6 S' := hS'.mv (mset_ne _ _ _ _ (by omega))
                refine ok_jn1 (fun w : Int32 => w = nI (if y = true then S' j + 1 else S' i)) (fun w hw => ?_) (fun j44 hj44 => ?_)
                · refine ok_aw i rfl hc (by decide) ?_
                  have hF3 : ArN (mset (mset m (a0 + 5) i v) (a0 + 6) i w) (a0 + 5) 6 (updN F' i (if y = true then F' j + mn i j else F' i)) := hF2.mv (mset_ne _ _ _ _ (by omega))
                  have hS3 : ArN (mset (mset m (a0 + 5) i v) (a0 + 6) i w) (a0 + 6) 6 (updN S' i (if y = true then S' j + 1 else S' i)) := hS2.set i _ hw
                  have hf3 : frm (fun q => q = a0 + 5 ∨ q = a0 + 6) μ (mset (mset m (a0 + 5) i v) (a0 + 6) i w) := frm.set (X := fun q => q = a0 + 5 ∨ q = a0 + 6) (frm.set (X := fun q => q = a0 + 5 ∨ q = a0 + 6) hf' (Or.inl rfl) _ _) (Or.inr rfl) _ _
                  refine ok_jn1 (fun z : Bool => z = (x17 || y)) (fun z hz => ?_) (fun j51 hj51 => ?_)
                  · refine ok_lt ?_
                    subst hz
                    cases y with
                    | false =>
                      have hn0 := hy.2 rfl
                      refine hs3 (k3 - 1) _ _ _ (by omega) ⟨j + 1, F', S', by omega, nI_1 _, hI', hF3.cg (fun b _ => ?_), hS3.cg (fun b _ => ?_), hf3, by rw [Bool.or_false]; exact hpot, fun hz a b hb hx => ?_⟩
                      · unfold updN
                        by_cases e : b = i
                        · subst e; rw [if_pos rfl]; rfl
                        · rw [if_neg e]
                      · unfold updN
                        by_cases e : b = i
                        · subst e; rw [if_pos rfl]; rfl
                        · rw [if_neg e]
                      · by_cases e : a = i ∧ b = j
                        · rw [e.1, e.2]; exact hn0
                        · exact hnb' (by rw [Bool.or_false] at hz; exact hz) a b hb (by omega)
                    | true =>
                      obtain ⟨q1, q2, q3⟩ := hy.1 rfl
                      have wj := bj3 q2
                      have hwi : wk (eg n mn mn) (S' j + 1) t i (F' j + mn i j) := ⟨j, F' j, mn i j, wj, by
                        rw [(hg.2 i j).2.2.1] at q1 ⊢
                        have := (hg.2 j i).2.2.2.2 q1
                        exact ⟨this.1, this.2.1, q1, rfl⟩, rfl⟩
                      have hge := wk_ge (fun a b u (he : eg n mn mn a b u) => by rw [he.2.2.2]; exact he.2.2.1) _ _ _ hwi
                      have hsm := sm_one (f := fun b => updN F' i (F' j + mn i j) b * 200000 + updN S' i (S' j + 1) b) (g := fun b => F' b * 200000 + S' b) (k := i) 6 hc (fun b _ hne => by rw [updN_ne _ _ _ hne, updN_ne _ _ _ hne])
                      simp only [updN_at] at hsm
                      have hti : i ≠ t := fun e => by
                        subst e
                        rw [hI'.1] at q3; omega
                      refine hs3 (k3 - 1) _ _ _ (by omega) ⟨j + 1, updN F' i (F' j + mn i j), updN S' i (S' j + 1), by omega, nI_1 _, ⟨by rw [updN_ne _ _ _ (fun e => hti e.symm)]; exact hI'.1, by rw [updN_ne _ _ _ (fun e => hti e.symm)]; exact hI'.2.1, fun b hb => ?_⟩, hF3, hS3, hf3, ?_, fun hz => ?_⟩
                      · by_cases e : b = i
                        · subst e
                          rw [updN_at, updN_at]
                          exact ⟨by omega, by omega, fun _ => hwi⟩
                        · rw [updN_ne _ _ _ e, updN_ne _ _ _ e]; exact hI'.2.2 b hb
                      · rw [Bool.or_true]
                        have h1 : true.toNat = 1 := rfl
                        have hsm2 : pot6 (updN F' i (F' j + mn i j)) (updN S' i (S' j + 1)) + (F' i * 200000 + S' i) = pot6 F' S' + ((F' j + mn i j) * 200000 + (S' j + 1)) := hsm
                        clear hsm
                        generalize pot6 (updN F' i (F' j + mn i j)) (updN S' i (S' j + 1)) = zA at hsm2 ⊢
                        generalize pot6 F' S' = zB at hsm2 hpot
                        generalize pot6 F S = zC at hpot ⊢
                        omega
                      · rw [Bool.or_true] at hz; cases hz
                  · refine ok_jn1 (fun _ : Unit => (x17 || y) = true) (fun _ hz => hj51 true hz.symm) (fun j57 hj57 => ?_)
                    refine ok_cd (fun hx => hj57 () (by rw [hx]; rfl)) (fun hx => ?_)
                    refine ok_cd (fun hyy => hj57 () (by rw [hyy, Bool.or_true])) (fun hyy => hj51 false (by rw [hx, hyy]; rfl))
                · refine ok_cd (fun hyy => ?_) (fun hyy => ?_)
                  · refine ok_ag j rfl hd (by decide) ?_
                    rw [hS2 j hd]
                    exact hj44 _ (by rw [if_pos hyy]; exact nI_1 _)
                  · refine ok_ag i rfl hc (by decide) ?_
                    rw [hS2 i hc]
                    exact hj44 _ (by rw [if_neg (by rw [hyy]; decide)])
              · refine ok_cd (fun hyy => ?_) (fun hyy => ?_)
                · exact hj37 _ (by rw [if_pos hyy])
                · refine ok_ag i rfl hc (by decide) ?_
                  rw [hF' i hc]
                  exact hj37 _ (by rw [if_neg (by rw [hyy]; decide)])
            · refine ok_jn1 (fun _ : Unit => nobet mn F' S' i j) (fun _ hz => hj33 false ⟨fun z => (by cases z), fun _ => hz⟩) (fun j74 hj74 => ?_)
              refine ok_le (mn i j) 0 (f := fun hq => hj74 () (fun z => by omega)) (g := fun hq => ?_)
              refine ok_ag j rfl hd (by decide) ?_
              rw [hF' j hd]
              refine ok_le 100000 (F' j) (f := fun hq2 => hj74 () (fun _ z => by omega)) (g := fun hq2 => ?_)
              refine ok_ag i rfl hc (by decide) ?_
              rw [hF' i hc]
              refine ok_jn1 (fun _ : Unit => F' j + mn i j < F' i ∨ (F' j + mn i j = F' i ∧ S' j + 1 < S' i)) (fun _ hz => hj33 true ⟨fun _ => ⟨hq, hq2, hz⟩, fun z => (by cases z)⟩) (fun j86 hj86 => ?_)
              refine ok_ltI (F' j + mn i j) (F' i) (f := fun hq3 => hj86 () (Or.inl hq3)) (g := fun hq3 => ?_)
              refine ok_ag i rfl hc (by decide) ?_
              rw [hF' i hc]
              refine ok_eqI (F' j + mn i j) (F' i) (f := fun hq4 => ?_) (g := fun hq4 => hj74 () (fun _ _ => by omega))
              refine ok_ag j rfl hd (by decide) ?_
              refine ok_ag i rfl hc (by decide) ?_
              rw [hS' j hd, hS' i hc, nI_1]
              exact ok_le (S' i) (S' j + 1) (f := fun hq5 => hj74 () (fun _ _ => by omega)) (g := fun hq5 => hj86 () (Or.inr ⟨hq4, hq5⟩))
      · exact ok_some ⟨F, S, mw_end hg ht1 hI (hnb hx), hF, hS, fun b hb => ⟨(hI.2.2 b hb).2.1, (hI.2.2 b hb).1⟩, hf⟩
    · have hp : pot6 (fun b => if b = t then 0 else 100000) (fun _ => 0) ≤ 20000000000 * 6 := by
        unfold pot6
        refine sm_b (c := 20000000000) 6 (fun b _ => ?_)
        show (if b = t then 0 else 100000) * 200000 + 0 ≤ 20000000000
        by_cases e : b = t
        · rw [if_pos e]; exact Nat.le_of_ble_eq_true rfl
        · rw [if_neg e]; exact Nat.le_of_ble_eq_true rfl
      generalize pot6 (fun b => if b = t then 0 else 100000) (fun _ => 0) = z at hp ⊢
      omega
    · dsimp only
      by_cases e : b = t
      · subst e; rw [if_pos rfl]; exact ⟨by omega, by omega, fun _ => ⟨rfl, rfl⟩⟩
      · rw [if_neg e]; exact ⟨by omega, by omega, fun z => by omega⟩
  · refine ok_jn1 (fun v : Int32 => v = nI (if i = t then 0 else 100000)) (fun v hv => ?_) (fun j102 hj => ?_)
    · refine ok_aw i rfl hc (by decide) ?_
      refine ok_aw i rfl hc (by decide) ?_
      refine ok_lt ?_
      refine hs0 (k - 1) _ _ (by omega) ⟨i + 1, by omega, nI_1 _, frm.set (X := fun q => q = a0 + 5 ∨ q = a0 + 6) (frm.set (X := fun q => q = a0 + 5 ∨ q = a0 + 6) hf (Or.inl rfl) _ _) (Or.inr rfl) _ _, fun b hb => ?_, fun b hb => ?_⟩
      · rw [mset_ne _ _ _ _ (by omega), mset_if]
        by_cases e : b = i
        · subst e; rw [if_pos rfl, hv]
        · rw [if_neg e]; exact hF0 b (by omega)
      · rw [mset_if]
        by_cases e : b = i
        · rw [if_pos e]; rfl
        · rw [if_neg e, mset_ne _ _ _ _ (by omega)]; exact hS0 b (by omega)
    · refine ok_eqI i t (f := fun he => hj _ (by rw [if_pos he]; rfl)) (g := fun he => hj _ (by rw [if_neg he]; rfl))
end WM
