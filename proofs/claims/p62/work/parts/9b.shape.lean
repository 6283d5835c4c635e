/-! Pure layer, 41: shapes of commands; the class reads a shape. -/
section SH
variable (T : Nat → Nat) (L : Nat)
/-- a digit stands there -/
def dgt (e : Nat) : Bool := decide (e < L ∧ 48 ≤ T e ∧ T e ≤ 57)
/-- how many digits are read of at most w -/
def ndG (w e : Nat) : Nat := if w = 0 then 0 else if dgt T L e = true then (if w = 2 ∧ dgt T L (e + 1) = true then 2 else 1) else 0
/-- and the number -/
def nvG (w e : Nat) : Nat := if w = 0 then 0 else if dgt T L e = true then (if w = 2 ∧ dgt T L (e + 1) = true then (T e - 48) * 10 + (T (e + 1) - 48) else T e - 48) else 0
def wid (g : Nat) : Nat := if g = 35 then 1 else if g = 37 then 2 else 0
/-- one sign of a shape is read: stuck, where, numbers so far -/
def stp (g : Nat) (x : Bool × Nat × List Nat) : Bool × Nat × List Nat := if x.1 = true then x else if wid g ≠ 0 then (if dgt T L x.2.1 = true then (false, x.2.1 + ndG T L (wid g) x.2.1, x.2.2 ++ [nvG T L (wid g) x.2.1]) else (true, x.2.1, x.2.2)) else if x.2.1 < L ∧ T x.2.1 = g then (false, x.2.1 + 1, x.2.2) else (true, x.2.1, x.2.2)
def sgn (c s : Nat) : Nat → Bool × Nat × List Nat
  | 0 => (false, s, [])
  | i + 1 => stp T L ((sTx c).getD i 0) (sgn c s i)
def fin (c s : Nat) : Bool × Nat × List Nat := sgn T L c s (sTx c).length
end SH
/-- how many numbers the first i signs have -/
def nC (c : Nat) : Nat → Nat
  | 0 => 0
  | i + 1 => nC c i + if wid ((sTx c).getD i 0) ≠ 0 then 1 else 0
theorem gd_last (l : List Nat) (x : Nat) : (l ++ [x]).getD l.length 0 = x := by
  induction l with
  | nil => rfl
  | cons a l ih => exact ih
theorem gd_front (l t : List Nat) : ∀ j, j < l.length → (l ++ t).getD j 0 = l.getD j 0 := by
  induction l with
  | nil => intro j h; exact absurd h (Nat.not_lt_zero _)
  | cons a l ih =>
    intro j h
    cases j with
    | zero => rfl
    | succ j => exact ih j (Nat.lt_of_succ_lt_succ h)
section SI2
variable {N : Nat} {μ ν : Mem} {a0 L : Nat} {T : Nat → Nat}
theorem ndG_le {w e : Nat} : ndG T L w e ≤ 2 := by
  unfold ndG
  repeat' split
  all_goals omega
theorem dgt_t {e : Nat} (h : dgt T L e = true) : e < L ∧ 48 ≤ T e ∧ T e ≤ 57 := of_decide_eq_true h
theorem ndG_d {w e : Nat} (hw : w ≠ 0) (h : dgt T L e = true) : 1 ≤ ndG T L w e ∧ e + ndG T L w e ≤ L := by
  have h1 := dgt_t h
  unfold ndG
  rw [if_neg hw, if_pos h]
  split
  · rename_i h2
    have := dgt_t h2.2
    omega
  · omega
theorem ndG_n {w e : Nat} (h : dgt T L e = false) : ndG T L w e = 0 := by
  unfold ndG
  split
  · rfl
  · rw [if_neg (by rw [h]; decide)]
theorem nvG_le {w e : Nat} : nvG T L w e ≤ 99 := by
  unfold nvG
  split
  · omega
  · split
    · rename_i h
      have := dgt_t h
      split
      · rename_i h2
        have := dgt_t h2.2
        omega
      · omega
    · omega
theorem stp_t {g : Nat} {x : Bool × Nat × List Nat} (h : x.1 = true) : stp T L g x = x := by unfold stp; rw [if_pos h]
theorem stp_n {g e : Nat} {vs : List Nat} (hw : wid g ≠ 0) (h : dgt T L e = true) : stp T L g (false, e, vs) = (false, e + ndG T L (wid g) e, vs ++ [nvG T L (wid g) e]) := by
  unfold stp; rw [if_neg (fun z => by cases z), if_pos hw, if_pos h]
theorem stp_m {g e : Nat} {vs : List Nat} (hw : wid g ≠ 0) (h : dgt T L e = false) : stp T L g (false, e, vs) = (true, e, vs) := by
  unfold stp; rw [if_neg (fun z => by cases z), if_pos hw, if_neg (by rw [h]; decide)]
theorem stp_c {g e : Nat} {vs : List Nat} (hw : wid g = 0) (h : e < L ∧ T e = g) : stp T L g (false, e, vs) = (false, e + 1, vs) := by
  unfold stp; rw [if_neg (fun z => by cases z), if_neg (fun z => z hw), if_pos h]
theorem stp_d {g e : Nat} {vs : List Nat} (hw : wid g = 0) (h : ¬ (e < L ∧ T e = g)) : stp T L g (false, e, vs) = (true, e, vs) := by
  unfold stp; rw [if_neg (fun z => by cases z), if_neg (fun z => z hw), if_neg h]
/-- the cases of a step that is not stuck -/
theorem stp_cases (g e : Nat) (vs : List Nat) : (stp T L g (false, e, vs) = (true, e, vs)) ∨ (wid g ≠ 0 ∧ dgt T L e = true ∧ stp T L g (false, e, vs) = (false, e + ndG T L (wid g) e, vs ++ [nvG T L (wid g) e])) ∨ (wid g = 0 ∧ (e < L ∧ T e = g) ∧ stp T L g (false, e, vs) = (false, e + 1, vs)) := by
  by_cases hw : wid g = 0
  · by_cases h : e < L ∧ T e = g
    · exact Or.inr (Or.inr ⟨hw, h, stp_c hw h⟩)
    · exact Or.inl (stp_d hw h)
  · cases h : dgt T L e
    · exact Or.inl (stp_m hw h)
    · exact Or.inr (Or.inl ⟨hw, rfl, stp_n hw h⟩)
theorem sgn_s {c s i : Nat} : sgn T L c s (i + 1) = stp T L ((sTx c).getD i 0) (sgn T L c s i) := rfl
theorem sgn_stuck {c s i : Nat} (h : (sgn T L c s i).1 = true) : ∀ m, sgn T L c s (i + m) = sgn T L c s i
  | 0 => rfl
  | m + 1 => by
    show stp T L _ (sgn T L c s (i + m)) = _
    rw [sgn_stuck h m, stp_t h]
theorem sgn_up {c s i : Nat} (h : (sgn T L c s i).1 = true) {n : Nat} (hn : i ≤ n) : sgn T L c s n = sgn T L c s i := by
  rw [show n = i + (n - i) by omega]; exact sgn_stuck h _
/-- what stands after i signs -/
theorem sgn_ok {c s : Nat} : ∀ i, s ≤ (sgn T L c s i).2.1 ∧ (sgn T L c s i).2.1 ≤ max s L ∧ ((sgn T L c s i).1 = false → s + i ≤ (sgn T L c s i).2.1 ∧ (sgn T L c s i).2.2.length = nC c i ∧ (0 < i → (sgn T L c s i).2.1 ≤ L))
  | 0 => ⟨Nat.le_refl _, Nat.le_max_left _ _, fun _ => ⟨Nat.le_refl _, rfl, fun z => absurd z (Nat.lt_irrefl _)⟩⟩
  | i + 1 => by
    obtain ⟨h1, h2, h3⟩ := sgn_ok (c := c) (s := s) i
    rw [sgn_s]
    generalize hx : sgn T L c s i = x at h1 h2 h3
    obtain ⟨b, e, vs⟩ := x
    cases b
    · dsimp only at h1 h2 h3
      obtain ⟨h4, h5, h6⟩ := h3 rfl
      rcases stp_cases (T := T) (L := L) ((sTx c).getD i 0) e vs with hc | ⟨hw, hd, hc⟩ | ⟨hw, hd, hc⟩
      · rw [hc]
        exact ⟨h1, h2, fun z => (by cases z)⟩
      · have hd2 := ndG_d hw hd
        rw [hc]
        dsimp only
        refine ⟨by omega, by omega, fun _ => ⟨by omega, ?_, fun _ => hd2.2⟩⟩
        rw [List.length_append, h5]
        show _ = nC c i + if wid ((sTx c).getD i 0) ≠ 0 then 1 else 0
        rw [if_pos hw]; rfl
      · rw [hc]
        dsimp only
        refine ⟨by omega, by omega, fun _ => ⟨by omega, ?_, fun _ => by omega⟩⟩
        rw [h5]
        show _ = nC c i + if wid ((sTx c).getD i 0) ≠ 0 then 1 else 0
        rw [if_neg (fun z => z hw)]; rfl
    · rw [stp_t rfl]
      exact ⟨h1, h2, fun z => (by cases z)⟩
theorem sgn_up1 {c s i n : Nat} (hn : i ≤ n) : (sgn T L c s i).2.1 ≤ (sgn T L c s n).2.1 := by
  induction n with
  | zero => rw [show i = 0 by omega]; exact Nat.le_refl _
  | succ n ih =>
    by_cases e : i = n + 1
    · rw [e]; exact Nat.le_refl _
    · refine Nat.le_trans (ih (by omega)) ?_
      rw [sgn_s]
      generalize sgn T L c s n = x
      obtain ⟨b, e', vs⟩ := x
      cases b
      · rcases stp_cases (T := T) (L := L) ((sTx c).getD n 0) e' vs with hc | ⟨hw, hd, hc⟩ | ⟨hw, hd, hc⟩ <;> rw [hc] <;> dsimp only <;> omega
      · rw [stp_t rfl]; exact Nat.le_refl _
theorem shp_fin : ∀ c, c < 9 → ∀ i, i < (sTx c).length → (sTx c).getD i 0 < 256 ∧ (wid ((sTx c).getD i 0) ≠ 0 → nC c i < 4) := by decide +kernel
theorem shp_len : ∀ c, c < 9 → (sTx c).length ≤ 12 ∧ (1 ≤ c → 5 ≤ (sTx c).length) := by decide +kernel
theorem ok_sat {O : Type} {P : O → Prop} {c i : Nat} {x : Int32} {k : Int32 → Option O} (hx : x = nI i) (hi : i < (sTx c).length) (hl : (sTx c).length < 2 ^ 31) (h : Ok (k (nI ((sTx c).getD i 0))) P) : Ok (sat c x k) P := by
  subst hx
  unfold sat
  rw [if_neg (vp_in_nI hi hl), nI_clamp (by omega)]; exact h
/-- the text that the class reads -/
def TXc (μ : Mem) (L : Nat) (T : Nat → Nat) : Prop := L ≤ 60 ∧ μ 546 1 = nI L ∧ ∀ i, i < L → T i < 65536 ∧ μ (546 + 1) i = nI (T i)
theorem TXc.mv {μ' : Mem} (h : TXc μ L T) (h1 : μ' 546 1 = μ 546 1) (h2 : μ' (546 + 1) = μ (546 + 1)) : TXc μ' L T := ⟨h.1, by rw [h1]; exact h.2.1, fun i hi => by rw [h2]; exact h.2.2 i hi⟩
theorem dig_step {x e : Nat} (h : 48 ≤ T e) (hT : T e ≤ 57) (hx : x ≤ 9) : nI x * 10 + nI (T e) - 48 = nI (x * 10 + (T e - 48)) := by
  rw [show (10 : Int32) = nI 10 from rfl, show (48 : Int32) = nI 48 from rfl, pk_mul, nI_add, pk_sub (by omega)]
  exact congrArg nI (by omega)
/-- one more digit -/
theorem dg_step {i e : Nat} (hi : i ≤ 1) : ∀ b : Bool, dgt T L (e + ndG T L i e) = b → (b = false → ndG T L (i + 1) e = ndG T L i e ∧ nvG T L (i + 1) e = nvG T L i e) ∧ (b = true → ndG T L (i + 1) e = ndG T L i e + 1 ∧ nvG T L (i + 1) e = nvG T L i e * 10 + (T (e + ndG T L i e) - 48) ∧ nvG T L i e ≤ 9) := by
  intro b hb
  rcases (show i = 0 ∨ i = 1 by omega) with rfl | rfl
  · have e0 : ndG T L 0 e = 0 := rfl
    have v0 : nvG T L 0 e = 0 := rfl
    rw [e0, Nat.add_zero] at hb
    unfold ndG nvG
    rw [hb]
    refine ⟨fun z => ?_, fun z => ?_⟩
    · subst z
      simp
    · subst z
      simp
  · cases hd : dgt T L e
    · have e1 : ndG T L 1 e = 0 := ndG_n hd
      rw [e1, Nat.add_zero, hd] at hb
      subst hb
      refine ⟨fun _ => ⟨?_, ?_⟩, fun z => by cases z⟩
      · rw [e1]; exact ndG_n hd
      · unfold nvG; simp [hd]
    · have e1 : ndG T L 1 e = 1 := by unfold ndG; simp [hd]
      have v1 : nvG T L 1 e = T e - 48 := by unfold nvG; simp [hd]
      rw [e1] at hb
      have ht := dgt_t hd
      refine ⟨fun z => ?_, fun z => ?_⟩
      · subst z
        rw [e1, v1]
        unfold ndG nvG
        simp [hd, hb]
      · subst z
        rw [e1, v1]
        unfold ndG nvG
        simp [hd, hb]
        omega
theorem k_readNumber {w v k e : Nat} (hN : 10 ≤ N) (hT : TXc μ L T) (hw : 1 ≤ w ∧ w ≤ 2) (hv : v < 4) (hk : k < 10) (hcm : μ 546 4 = nI k) (he : μ 546 5 = nI e) (heL : e ≤ 61) : Ok (fX7_readNumber N μ 546 (nI v) (nI w)) (fun m => m 546 5 = nI (e + ndG T L w e) ∧ m (546 + 3 + 1 + 1 * k) v = nI (nvG T L w e) ∧ (∀ j, j ≠ v → m (546 + 3 + 1 + 1 * k) j = μ (546 + 3 + 1 + 1 * k) j) ∧ (∀ j, j ≠ 5 → m 546 j = μ 546 j) ∧ frm (fun q => q = 546 ∨ q = 546 + 3 + 1 + 1 * k) μ m) := by
  have hL := hT.1
  unfold fX7_readNumber
  refine ok_fix3 (fun kk x1 x2 m => ∃ i, i + kk = w ∧ x2 = nI i ∧ x1 = nI (nvG T L i e) ∧ m 546 5 = nI (e + ndG T L i e) ∧ (∀ j, j ≠ 5 → m 546 j = μ 546 j) ∧ frm (fun q => q = 546) μ m) ?_ N w _ _ _ (by omega) ⟨0, by omega, rfl, rfl, by rw [he]; rfl, fun _ _ => rfl, frm.rf⟩
  rintro kk self x1 x2 m ⟨i, hi, rfl, rfl, h5, ho, hf⟩ hs
  have hn2 := ndG_le (T := T) (L := L) (w := i) (e := e)
  refine ok_le w i (f := fun hc => ?_) (g := fun hc => ?_)
  · have : i = w := by omega
    subst this
    refine ok_jn ?_
    refine ok_le 4 v (f := fun z => by omega) (g := fun _ => ?_)
    rw [ho 4 (by decide), hcm]
    refine ok_ar k rfl hk (by decide) ?_
    refine ok_aw v rfl hv (by decide) ?_
    refine ok_some ⟨?_, mset_at _ _ _ _, fun j hj => ?_, fun j hj => ?_, frm.set (X := fun q => q = 546 ∨ q = 546 + 3 + 1 + 1 * k) (hf.mono (fun q hq => Or.inl hq)) (Or.inr rfl) _ _⟩
    · rw [mset_ne _ _ _ _ (by omega)]; exact h5
    · rw [mset_sl _ _ _ _ hj, hf _ (by omega)]
    · rw [mset_ne _ _ _ _ (by omega)]; exact ho j hj
  · have hdg := dg_step (T := T) (L := L) (e := e) (show i ≤ 1 by omega)
    refine ok_jn2 (fun (y : Int32) (m' : Mem) => y = nI (nvG T L (i + 1) e) ∧ m' 546 5 = nI (e + ndG T L (i + 1) e) ∧ (∀ j, j ≠ 5 → m' 546 j = μ 546 j) ∧ frm (fun q => q = 546) μ m') ?_ ?_
    · rintro y m' ⟨rfl, q1, q2, q3⟩
      exact ok_lt (hs (kk - 1) _ _ _ (by omega) ⟨i + 1, by omega, nI_1 _, rfl, q1, q2, q3⟩)
    · intro j hj
      rw [ho 1 (by decide), hT.2.1, h5]
      refine ok_le L (e + ndG T L i e) (f := fun hz => ?_) (g := fun hz => ?_)
      · have hb : dgt T L (e + ndG T L i e) = false := decide_eq_false (fun z => by omega)
        obtain ⟨q1, q2⟩ := (hdg _ hb).1 rfl
        exact hj _ _ ⟨by rw [q2], by rw [q1]; exact h5, ho, hf⟩
      · obtain ⟨t1, t2⟩ := hT.2.2 _ hz
        refine ok_ag (e + ndG T L i e) rfl (by omega) (by decide) ?_
        rw [hf _ (by omega), t2, k_isFrom, bS]
        have hin : decide ((48 : Int32) ≤ nI (T (e + ndG T L i e)) ∧ nI (T (e + ndG T L i e)) ≤ 57) = dgt T L (e + ndG T L i e) := by
          unfold dgt
          rw [show (48 : Int32) = nI 48 from rfl, show (57 : Int32) = nI 57 from rfl]
          exact decide_eq_decide.mpr ⟨fun z => ⟨hz, (nI_leI (by decide) (by omega)).mp z.1, (nI_leI (by omega) (by decide)).mp z.2⟩, fun z => ⟨(nI_leI (by decide) (by omega)).mpr z.2.1, (nI_leI (by omega) (by decide)).mpr z.2.2⟩⟩
        rw [hin]
        refine ok_cd (fun hb => ?_) (fun hb => ?_)
        · obtain ⟨q1, q2, q3⟩ := (hdg _ hb).2 rfl
          have hd := dgt_t hb
          refine ok_ag (e + ndG T L i e) rfl (by omega) (by decide) ?_
          rw [t2, dig_step hd.2.1 hd.2.2 q3]
          refine ok_lt (ok_lt ?_)
          rw [nI_1]
          refine hj _ _ ⟨by rw [q2], ?_, fun j hj => ?_, frm.set (X := fun q => q = 546) hf rfl _ _⟩
          · rw [mset_at, q1]; rfl
          · rw [mset_sl _ _ _ _ hj]; exact ho j hj
        · obtain ⟨q1, q2⟩ := (hdg _ hb).1 rfl
          exact hj _ _ ⟨by rw [q2], by rw [q1]; exact h5, ho, hf⟩
end SI2
