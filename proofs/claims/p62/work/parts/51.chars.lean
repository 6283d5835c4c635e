/-! Without the machine: the letters the JDK gives a number. -/
theorem dg_in {O : Type} {f : Nat → Int32} {i : Int32} {k : Int32 → Option O} (h : vp_in i 100) : dg f i k = k (f i.toNatClampNeg) := if_neg h
theorem aw_in {O : Type} {μ : Mem} {o n : Nat} {i x : Int32} {k : Mem → Option O} (h : vp_in i n) : aw μ o n i x k = k (mset μ o i.toNatClampNeg x) := if_neg h
theorem dg_tab : ∀ k, k < 100 → vp_nar .byte (dgO k) = sb_b (48 + k % 10) ∧ vp_nar .byte (dgT k) = sb_b (48 + k / 10) := by decide +kernel
def gcB (cap : Nat) (self12 : Int32 → Int32 → Mem → Option (Mem × Int32)) (x9 x10 : Int32) (μ11 : Mem) : Option (Mem × Int32) :=
  if (-100) < x9 then
  (lt (x10 + (-1)) fun v15 =>
  dg dgO (-x9) fun v20 =>
  aw μ11 0 cap v15 (vp_nar .byte v20) fun μ23 =>
  jn (fun (y26 : Int32) (μ27 : Mem) =>
  jn (fun (y31 : Int32) (μ32 : Mem) =>
  some (μ32, y31)) fun j33 =>
  cond false
  (lt (y26 + (-1)) fun v37 =>
  aw μ27 0 cap v37 (vp_nar .byte 45) fun μ39 =>
  j33 v37 μ39)
  (j33 y26 μ27)) fun j28 =>
  if (-9) ≤ x9 then
  (j28 v15 μ23)
  else (lt (v15 + (-1)) fun v43 =>
  dg dgT (-x9) fun v48 =>
  aw μ23 0 cap v43 (vp_nar .byte v48) fun μ51 =>
  j28 v43 μ51))
  else (lt (x9 / 100) fun v54 =>
  lt ((v54 * 100) - x9) fun v56 =>
  lt (x10 + (-1)) fun v58 =>
  dg dgO v56 fun v63 =>
  aw μ11 0 cap v58 (vp_nar .byte v63) fun μ66 =>
  lt (v58 + (-1)) fun v69 =>
  dg dgT v56 fun v74 =>
  aw μ66 0 cap v69 (vp_nar .byte v74) fun μ77 =>
  self12 v54 v69 μ77)
theorem ms0 {μ : Mem} {k : Nat} {x : Int32} : mset μ 0 k x 0 = upd (μ 0) k x := mset_same μ 0 k x
theorem gc_base {cap n f w p : Nat} {μ : Mem} (hm : cap ≤ 65536) (h100 : w < 100) (hw : w < 2 ^ 31) (hp : p = n + sb_dg w) (hpm : p ≤ cap) :
    ∃ r, fix3 (gcB cap) (f + 1) (-nI w) (nI p) μ = some r ∧ (∀ j, j < n ∨ p ≤ j → r.1 0 j = μ 0 j) ∧ (∀ i, i < sb_dg w → r.1 0 (p - 1 - i) = sb_b (48 + w / 10 ^ i % 10)) ∧ (sb_Fit (μ 0) → sb_Fit (r.1 0)) := by
  have hd1 := (sb_dg_in w).1
  have e1 : -(-nI w) = nI w := Int32.neg_neg
  have ew : (nI w).toNatClampNeg = w := nI_clamp hw
  obtain ⟨t1, t2⟩ := dg_tab w h100
  have h1 : (-100 : Int32) < -nI w := (sb_nlt (a := 100) (by decide) hw).mpr h100
  show ∃ r, gcB cap (fix3 (gcB cap) f) (-nI w) (nI p) μ = some r ∧ _
  generalize fix3 (gcB cap) f = S
  unfold gcB
  rw [if_pos h1]
  simp only [lt, jn, cond, e1]
  rw [dg_in (vp_in_nI h100 (by decide)), ew, sb_m1 (by omega), aw_in (vp_in_nI (by omega) (by omega)), nI_clamp (by omega), t1]
  by_cases h9 : w < 10
  · have hd : sb_dg w = 1 := if_pos h9
    have h2 : (-9 : Int32) ≤ -nI w := (sb_nle (a := 9) (by decide) hw).mpr (by omega)
    rw [if_pos h2]
    refine ⟨_, rfl, fun j hj => ?_, fun i hi => ?_, fun hf => ?_⟩
    · dsimp only; rw [ms0, pk_un (by omega)]
    · obtain rfl : i = 0 := by omega
      dsimp only; rw [ms0, Nat.sub_zero, pk_us, Nat.pow_zero, Nat.div_one]
    · dsimp only; rw [ms0]; exact sb_fitU hf (sb_fitB _)
  · have hd : sb_dg w = 2 := by rw [sb_dg, if_neg h9, if_pos h100]
    have d2 : w / 10 % 10 = w / 10 := by omega
    have h2 : ¬ (-9 : Int32) ≤ -nI w := fun z => by
      have := (sb_nle (a := 9) (by decide) hw).mp z
      omega
    rw [if_neg h2]
    rw [dg_in (vp_in_nI h100 (by decide)), ew, sb_m1 (by omega), aw_in (vp_in_nI (by omega) (by omega)), nI_clamp (by omega), t2]
    refine ⟨_, rfl, fun j hj => ?_, fun i hi => ?_, fun hf => ?_⟩
    · dsimp only; rw [ms0, pk_un (by omega), ms0, pk_un (by omega)]
    · obtain rfl | rfl : i = 0 ∨ i = 1 := by omega
      · dsimp only; rw [ms0, Nat.sub_zero, pk_un (by omega), ms0, pk_us, Nat.pow_zero, Nat.div_one]
      · dsimp only; rw [ms0, pk_us, Nat.pow_one, d2]
    · dsimp only; rw [ms0, ms0]; exact sb_fitU (sb_fitU hf (sb_fitB _)) (sb_fitB _)
theorem gc_loop {cap n : Nat} (hm : cap ≤ 65536) : ∀ (f w p : Nat) (μ : Mem), w < 100 ^ (f + 1) → w < 2 ^ 31 → p = n + sb_dg w → p ≤ cap →
    ∃ r, fix3 (gcB cap) (f + 1) (-nI w) (nI p) μ = some r ∧ (∀ j, j < n ∨ p ≤ j → r.1 0 j = μ 0 j) ∧ (∀ i, i < sb_dg w → r.1 0 (p - 1 - i) = sb_b (48 + w / 10 ^ i % 10)) ∧ (sb_Fit (μ 0) → sb_Fit (r.1 0)) := by
  intro f
  induction f with
  | zero =>
    intro w p μ h100 hw hp hpm
    exact gc_base hm h100 hw hp hpm
  | succ f ih =>
    intro w p μ hwf hw hp hpm
    by_cases h100 : w < 100
    · exact gc_base hm h100 hw hp hpm
    · have hd1 := (sb_dg_in w).1
      obtain ⟨t1, t2⟩ := dg_tab (w % 100) (Nat.mod_lt _ (by decide))
      have hd := sb_dg100 (w := w) (by omega) hw
      have hd2 := (sb_dg_in (w / 100)).1
      have er : (nI (w % 100)).toNatClampNeg = w % 100 := nI_clamp (by omega)
      rw [show w % 100 % 10 = w % 10 by omega] at t1
      rw [show w % 100 / 10 = w / 10 % 10 by omega] at t2
      have hlt : w / 100 < 100 ^ (f + 1) := Nat.div_lt_of_lt_mul (by rw [Nat.mul_comm, ← Nat.pow_succ]; exact hwf)
      obtain ⟨r, g0, g1, g2, g3⟩ := ih (w / 100) (p - 1 - 1) (mset (mset μ 0 (p - 1) (sb_b (48 + w % 10))) 0 (p - 1 - 1) (sb_b (48 + w / 10 % 10))) hlt (by omega) (by omega) (by omega)
      refine ⟨r, ?_, fun j hj => ?_, fun i hi => ?_, fun hf => ?_⟩
      · have h1 : ¬ (-100 : Int32) < -nI w := fun z => h100 ((sb_nlt (a := 100) (by decide) hw).mp z)
        show gcB cap (fix3 (gcB cap) (f + 1)) (-nI w) (nI p) μ = some r
        generalize fix3 (gcB cap) (f + 1) = S at g0 ⊢
        unfold gcB
        rw [if_neg h1]
        simp only [lt]
        rw [sb_ndiv hw, sb_nrem hw, dg_in (vp_in_nI (by omega) (by decide)), er, sb_m1 (by omega), aw_in (vp_in_nI (by omega) (by omega)), nI_clamp (by omega), t1, dg_in (vp_in_nI (by omega) (by decide)), er, sb_m1 (by omega), aw_in (vp_in_nI (by omega) (by omega)), nI_clamp (by omega), t2]
        exact g0
      · rw [g1 j (by omega), ms0, pk_un (by omega), ms0, pk_un (by omega)]
      · match i, hi with
        | 0, _ => rw [Nat.sub_zero, g1 _ (by omega), ms0, pk_un (by omega), ms0, pk_us, Nat.pow_zero, Nat.div_one]
        | 1, _ => rw [g1 _ (by omega), ms0, pk_us, Nat.pow_one]
        | k + 2, hi =>
          rw [show p - 1 - (k + 2) = p - 1 - 1 - 1 - k by omega, g2 k (by omega), Nat.div_div_eq_div_mul, show 100 * 10 ^ k = 10 ^ (k + 2) by rw [show k + 2 = k + 1 + 1 from rfl, Nat.pow_succ, Nat.pow_succ]; omega]
      · exact g3 (by rw [ms0, ms0]; exact sb_fitU (sb_fitU hf (sb_fitB _)) (sb_fitB _))
