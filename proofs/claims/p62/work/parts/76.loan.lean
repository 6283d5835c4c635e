/-! Pure layer, 16: loans. q asked for; first, last day, fee; le: for each day 0, or a lent mark. -/
def lnOK (q : Nat) (fi la fe le : Nat → Nat) : Prop := q ≤ 8 ∧ (∀ i, i < q → fi i ≤ la i ∧ la i ≤ 99 ∧ fe i ≤ 99) ∧ ∀ d, d < 100 → le d ≤ 100
def freeL (fi la le : Nat → Nat) (i : Nat) : Prop := ∀ d, fi i ≤ d → d ≤ la i → le d = 0
/-- a choice: free loans, no two on one day -/
def okC (q : Nat) (fi la le : Nat → Nat) (C : Nat → Bool) : Prop := (∀ i, i < q → C i = true → freeL fi la le i) ∧ ∀ i j, i < j → j < q → C i = true → C j = true → la i < fi j ∨ la j < fi i
def fees (q : Nat) (fe : Nat → Nat) (C : Nat → Bool) : Nat := sm q (fun i => (C i).toNat * fe i)
theorem okC_cg {q : Nat} {fi la le : Nat → Nat} {C D : Nat → Bool} (h : okC q fi la le C) (e : ∀ i, i < q → C i = D i) : okC q fi la le D :=
  ⟨fun i hi hD => h.1 i hi (by rw [e i hi]; exact hD), fun i j hij hj h1 h2 => h.2 i j hij hj (by rw [e i (by omega)]; exact h1) (by rw [e j hj]; exact h2)⟩
theorem okC_sym {q : Nat} {fi la le : Nat → Nat} {C : Nat → Bool} (h : okC q fi la le C) {i j : Nat} (hne : i ≠ j) (hi : i < q) (hj : j < q) (h1 : C i = true) (h2 : C j = true) : la i < fi j ∨ la j < fi i := by
  rcases Nat.lt_or_gt_of_ne hne with h3 | h3
  · exact h.2 i j h3 hj h1 h2
  · exact (h.2 j i h3 hi h2 h1).symm
/-! A row of loans in the order of their last days. -/
def ordI (m : Nat) (la : Nat → Nat) (od : Nat → Nat) : Prop := (∀ f : Nat → Nat, sm m (fun i => f (od i)) = sm m f) ∧ ∀ i j, i < j → j < m → la (od i) ≤ la (od j)
theorem ord_lt {m : Nat} {la od : Nat → Nat} (h : ordI m la od) {i : Nat} (hi : i < m) : od i < m := by
  refine Classical.byContradiction fun hno => ?_
  have h1 := h.1 (fun k => if m ≤ k then 1 else 0)
  have h2 : sm m (fun k => if m ≤ k then 1 else 0) = 0 := by
    rw [sm_cg m (g := fun _ => 0) (fun k hk => by rw [if_neg (by omega)]), sm_z]
  have h3 := sm_mem (f := fun i => if m ≤ od i then 1 else 0) (k := i) m hi
  rw [if_pos (by omega)] at h3
  omega
theorem sm_two {f : Nat → Nat} {i j : Nat} : ∀ n, i < j → j < n → f i + f j ≤ sm n f
  | 0, _, h => absurd h (Nat.not_lt_zero _)
  | n + 1, hij, hj => by
    show f i + f j ≤ sm n f + f n
    by_cases e : j = n
    · subst e
      have := sm_mem (f := f) (k := i) j hij
      omega
    · have := sm_two (f := f) (i := i) (j := j) n hij (by omega)
      omega
theorem ord_inj {m : Nat} {la od : Nat → Nat} (h : ordI m la od) {i j : Nat} (hij : i < j) (hj : j < m) : od i ≠ od j := fun e => by
  have h1 := h.1 (fun k => if k = od i then 1 else 0)
  have h2 := sm_two (f := fun k => if od k = od i then 1 else 0) (i := i) (j := j) m hij hj
  simp only [e, if_pos] at h2
  have h3 := sm_sgl (f := fun k => if k = od i then 1 else 0) (k := od i) m (ord_lt h (by omega)) (fun a _ hn => if_neg hn)
  simp only [if_pos] at h3
  rw [h3] at h1
  rw [e] at h1
  omega
theorem ins_sum {g : Nat → Nat} {x o : Nat} : ∀ m, o ≤ m → sm (m + 1) (fun i => if i < o then g i else if i = o then x else g (i - 1)) = sm m g + x
  | 0, h => by
    have : o = 0 := by omega
    subst this
    show 0 + (if 0 < 0 then g 0 else if 0 = 0 then x else g (0 - 1)) = 0 + x
    rw [if_neg (by omega), if_pos rfl]
  | m + 1, h => by
    show sm (m + 1) (fun i => if i < o then g i else if i = o then x else g (i - 1)) + (if m + 1 < o then g (m + 1) else if m + 1 = o then x else g (m + 1 - 1)) = sm m g + g m + x
    by_cases e : o = m + 1
    · subst e
      rw [if_neg (by omega), if_pos rfl, sm_cg (m + 1) (g := g) (fun i hi => if_pos hi)]
      rfl
    · rw [ins_sum m (by omega), if_neg (by omega), if_neg (by omega)]
      show sm m g + x + g m = _
      omega
theorem ord_ins {m o : Nat} {la od : Nat → Nat} (h : ordI m la od) (ho : o ≤ m) (hlo : ∀ i, i < o → la (od i) ≤ la m) (hhi : ∀ i, o ≤ i → i < m → la m ≤ la (od i)) : ordI (m + 1) la (fun i => if i < o then od i else if i = o then m else od (i - 1)) := by
  refine ⟨fun f => ?_, fun i j hij hj => ?_⟩
  · rw [sm_cg (m + 1) (g := fun i => if i < o then f (od i) else if i = o then f m else f (od (i - 1))) (fun i _ => by
      dsimp only
      by_cases c : i < o
      · rw [if_pos c, if_pos c]
      · rw [if_neg c, if_neg c]
        by_cases c2 : i = o
        · rw [if_pos c2, if_pos c2]
        · rw [if_neg c2, if_neg c2]), ins_sum (g := fun i => f (od i)) m ho, h.1 f]
    rfl
  · dsimp only
    by_cases c : i < o
    · rw [if_pos c]
      by_cases c2 : j < o
      · rw [if_pos c2]; exact h.2 i j hij (by omega)
      · rw [if_neg c2]
        by_cases c3 : j = o
        · rw [if_pos c3]; exact hlo i c
        · rw [if_neg c3]; exact h.2 i (j - 1) (by omega) (by omega)
    · rw [if_neg c, if_neg (show ¬ j < o by omega)]
      by_cases c2 : i = o
      · rw [if_pos c2, if_neg (show ¬ j = o by omega)]; exact hhi (j - 1) (by omega) (by omega)
      · rw [if_neg c2, if_neg (show ¬ j = o by omega)]; exact h.2 (i - 1) (j - 1) (by omega) (by omega)
/-- how many of a falling row of truths hold -/
theorem cut_at {P : Nat → Bool} : ∀ q, (∀ i j, i < j → j < q → P j = true → P i = true) → sm q (fun i => (P i).toNat) ≤ q ∧ ∀ i, i < q → (i < sm q (fun i => (P i).toNat) ↔ P i = true)
  | 0, _ => ⟨Nat.le_refl _, fun i hi => absurd hi (Nat.not_lt_zero _)⟩
  | q + 1, h => by
    obtain ⟨h1, h2⟩ := cut_at (P := P) q (fun i j hij hj => h i j hij (by omega))
    have e : sm (q + 1) (fun i => (P i).toNat) = sm q (fun i => (P i).toNat) + (P q).toNat := rfl
    rw [e]
    cases hp : P q
    · have e0 : false.toNat = 0 := rfl
      rw [e0]
      refine ⟨by omega, fun i hi => ?_⟩
      by_cases c : i = q
      · subst c; rw [hp]
        exact ⟨fun z => by omega, fun z => by cases z⟩
      · exact h2 i (by omega)
    · have e1 : true.toNat = 1 := rfl
      rw [e1]
      have hall : sm q (fun i => (P i).toNat) = q := by
        refine Classical.byContradiction fun hne => ?_
        have hlt : sm q (fun i => (P i).toNat) < q := by omega
        have := (h2 _ hlt).mpr (h _ q hlt (by omega) hp)
        omega
      rw [hall]
      refine ⟨Nat.le_refl _, fun i hi => ⟨fun _ => ?_, fun _ => hi⟩⟩
      by_cases c : i = q
      · subst c; exact hp
      · exact h i q (by omega) (by omega) hp
/-- the loans that end before a day -/
def bef (q : Nat) (la : Nat → Nat) (day : Nat) : Nat := sm q (fun k => (decide (la k < day)).toNat)
theorem bef_ord {q day : Nat} {la od : Nat → Nat} (h : ordI q la od) : bef q la day ≤ q ∧ ∀ i, i < q → (i < bef q la day ↔ la (od i) < day) := by
  have e : bef q la day = sm q (fun i => (decide (la (od i) < day)).toNat) := (h.1 (fun k => (decide (la k < day)).toNat)).symm
  have := cut_at (P := fun i => decide (la (od i) < day)) q (fun i j hij hj hp => by
    have := h.2 i j hij hj
    have := of_decide_eq_true hp
    exact decide_eq_true (by omega))
  rw [e]
  exact ⟨this.1, fun i hi => (this.2 i hi).trans ⟨of_decide_eq_true, decide_eq_true⟩⟩
/-- the best fees of the first c loans in that order, as the table has them -/
def tabI (q : Nat) (fi la fe le od : Nat → Nat) (B : Nat → Nat) (c : Nat) : Prop := B 0 = 0 ∧ ∀ k, k < c → (freeL fi la le (od k) → B (k + 1) = max (B k) (B (bef q la (fi (od k))) + fe (od k))) ∧ (¬ freeL fi la le (od k) → B (k + 1) = B k)
def valO (fe od : Nat → Nat) (C : Nat → Bool) (c : Nat) : Nat := sm c (fun i => (C (od i)).toNat * fe (od i))
section TAB
variable {q : Nat} {fi la fe le od B : Nat → Nat}
theorem tab_mono (h : tabI q fi la fe le od B q) {k : Nat} (hk : k < q) : B k ≤ B (k + 1) := by
  by_cases hf : freeL fi la le (od k)
  · rw [(h.2 k hk).1 hf]; exact Nat.le_max_left _ _
  · rw [(h.2 k hk).2 hf]; exact Nat.le_refl _
theorem bef_le (hl : lnOK q fi la fe le) (ho : ordI q la od) {k : Nat} (hk : k < q) : bef q la (fi (od k)) ≤ k := by
  have h1 := (bef_ord (day := fi (od k)) ho).2 k hk
  have h2 := (hl.2.1 (od k) (ord_lt ho hk)).1
  refine Classical.byContradiction fun hno => ?_
  have := h1.mp (by omega)
  omega
theorem valO_cut {C : Nat → Bool} {b : Nat} : ∀ c, b ≤ c → (∀ i, b ≤ i → i < c → C (od i) = false) → valO fe od C c = valO fe od C b
  | 0, h, _ => by rw [show b = 0 by omega]
  | c + 1, h, hz => by
    by_cases e : b = c + 1
    · rw [e]
    · have h1 := valO_cut (C := C) c (by omega) (fun i h1 h2 => hz i h1 (by omega))
      show valO fe od C c + (C (od c)).toNat * fe (od c) = _
      rw [h1, hz c (by omega) (by omega)]
      show _ + 0 * _ = _
      omega
/-- no choice brings more than the table -/
theorem tab_up (hl : lnOK q fi la fe le) (ho : ordI q la od) (h : tabI q fi la fe le od B q) {C : Nat → Bool} (hC : okC q fi la le C) : ∀ c, c ≤ q → valO fe od C c ≤ B c := by
  intro c
  induction c using Nat.strongRecOn with
  | ind c ih =>
    intro hc
    cases c with
    | zero => rw [h.1]; exact Nat.le_refl _
    | succ c =>
      have hcq : c < q := by omega
      have e : valO fe od C (c + 1) = valO fe od C c + (C (od c)).toNat * fe (od c) := rfl
      rw [e]
      cases hCc : C (od c)
      · have := ih c (by omega) (by omega)
        have := tab_mono h hcq
        show valO fe od C c + 0 * fe (od c) ≤ _
        omega
      · have hlt := ord_lt ho hcq
        have hf := hC.1 (od c) hlt hCc
        have hb := bef_le hl ho hcq
        have hcut : valO fe od C c = valO fe od C (bef q la (fi (od c))) := valO_cut c hb (fun i h1 h2 => by
          cases hCi : C (od i)
          · rfl
          · exfalso
            have h3 := (bef_ord (day := fi (od c)) ho).2 i (by omega)
            have h4 := ho.2 i c h2 hcq
            have h5 := okC_sym hC (ord_inj ho h2 hcq) (ord_lt ho (by omega)) hlt hCi hCc
            have h6 := (hl.2.1 (od i) (ord_lt ho (by omega))).1
            have h7 : ¬ la (od i) < fi (od c) := fun z => by have := h3.mpr z; omega
            omega)
        have := ih (bef q la (fi (od c))) (by omega) (by omega)
        rw [(h.2 c hcq).1 hf, hcut]
        show _ + 1 * fe (od c) ≤ _
        omega
/-- the table's numbers are reached by choices -/
theorem tab_at (hl : lnOK q fi la fe le) (ho : ordI q la od) (h : tabI q fi la fe le od B q) : ∀ c, c ≤ q → ∃ C : Nat → Bool, okC q fi la le C ∧ (∀ i, c ≤ i → i < q → C (od i) = false) ∧ valO fe od C c = B c := by
  intro c
  induction c using Nat.strongRecOn with
  | ind c ih =>
    intro hc
    cases c with
    | zero => exact ⟨fun _ => false, ⟨fun i _ hz => (by cases hz), fun i j _ _ hz => (by cases hz)⟩, fun i _ _ => rfl, h.1.symm⟩
    | succ c =>
      have hcq : c < q := by omega
      by_cases hnew : freeL fi la le (od c) ∧ B c < B (bef q la (fi (od c))) + fe (od c)
      · obtain ⟨hf, hlt⟩ := hnew
        have hb := bef_le hl ho hcq
        obtain ⟨C, hC, hz, hv⟩ := ih (bef q la (fi (od c))) (by omega) (by omega)
        have hlo := ord_lt ho hcq
        have hCc : C (od c) = false := hz c hb hcq
        refine ⟨fun k => if k = od c then true else C k, ⟨fun i hi hi1 => ?_, fun i j hij hj h1 h2 => ?_⟩, fun i h1 h2 => ?_, ?_⟩
        · dsimp only at hi1
          by_cases e : i = od c
          · subst e; exact hf
          · rw [if_neg e] at hi1; exact hC.1 i hi hi1
        · have key : ∀ k, k < q → k ≠ od c → C k = true → la k < fi (od c) := fun k hk hne hCk => by
            have hex : ∃ i, i < q ∧ od i = k := by
              refine Classical.byContradiction fun hno => ?_
              have h1 := ho.1 (fun z => if z = k then 1 else 0)
              rw [sm_cg q (g := fun _ => 0) (fun i hi => by rw [if_neg (fun z => hno ⟨i, hi, z⟩)]), sm_z] at h1
              have h3 := sm_mem (f := fun z => if z = k then 1 else 0) (k := k) q hk
              rw [if_pos rfl] at h3
              omega
            obtain ⟨i, hi, rfl⟩ := hex
            have h3 := (bef_ord (day := fi (od c)) ho).2 i hi
            refine h3.mp (Classical.byContradiction fun hno => ?_)
            have := hz i (by omega) hi
            rw [hCk] at this; cases this
          dsimp only at h1 h2
          by_cases e : i = od c
          · rw [if_neg (show j ≠ od c by omega)] at h2
            have := key j hj (by omega) h2
            rw [e]; exact Or.inr this
          · rw [if_neg e] at h1
            by_cases e2 : j = od c
            · have := key i (by omega) e h1
              rw [e2]; exact Or.inl this
            · rw [if_neg e2] at h2; exact hC.2 i j hij hj h1 h2
        · have hne : od i ≠ od c := fun e => ord_inj ho (show c < i by omega) h2 e.symm
          show (if od i = od c then true else C (od i)) = false
          rw [if_neg hne]; exact hz i (by omega) h2
        · show sm c (fun i => (if od i = od c then true else C (od i)).toNat * fe (od i)) + (if od c = od c then true else C (od c)).toNat * fe (od c) = B (c + 1)
          rw [if_pos rfl, sm_cg c (g := fun i => (C (od i)).toNat * fe (od i)) (fun i hi => by rw [if_neg (ord_inj ho hi hcq)]), (h.2 c hcq).1 hf, Nat.max_eq_right (by omega), ← hv]
          show valO fe od C c + 1 * fe (od c) = _
          rw [valO_cut (C := C) c hb (fun i h1 h2 => hz i h1 (by omega)), Nat.one_mul]
      · obtain ⟨C, hC, hz, hv⟩ := ih c (by omega) (by omega)
        refine ⟨C, hC, fun i h1 h2 => hz i (by omega) h2, ?_⟩
        have hBc : B (c + 1) = B c := by
          by_cases hf : freeL fi la le (od c)
          · rw [(h.2 c hcq).1 hf, Nat.max_eq_left]
            refine Classical.byContradiction fun hno => hnew ⟨hf, by omega⟩
          · exact (h.2 c hcq).2 hf
        show valO fe od C c + (C (od c)).toNat * fe (od c) = _
        rw [hz c (Nat.le_refl _) hcq, hv, hBc]
        show _ + 0 * _ = _
        omega
theorem valO_fees (ho : ordI q la od) (C : Nat → Bool) : valO fe od C q = fees q fe C := ho.1 (fun k => (C k).toNat * fe k)
/-- the table's last number is the greatest sum of fees -/
theorem tab_best (hl : lnOK q fi la fe le) (ho : ordI q la od) (h : tabI q fi la fe le od B q) {C : Nat → Bool} (hC : okC q fi la le C) (hmax : ∀ D : Nat → Bool, okC q fi la le D → fees q fe D ≤ fees q fe C) : B q = fees q fe C := by
  obtain ⟨D, hD, -, hv⟩ := tab_at hl ho h q (Nat.le_refl _)
  have h1 := tab_up hl ho h hC q (Nat.le_refl _)
  have h2 := hmax D hD
  rw [valO_fees ho] at h1 hv
  omega
end TAB
