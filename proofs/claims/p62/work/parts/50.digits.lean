/-! Without the machine: how many letters the JDK gives a number. -/
theorem ss_loop {v : Nat} (hv : v < 2 ^ 31) : ∀ (d k n : Nat) (x6 : Int32), k + d = 10 → 1 ≤ k → (k = 1 ∨ 10 ^ (k - 1) ≤ v) → d < n → (k ≤ 9 → x6 = -nI (10 ^ k)) →
    fix2 (fun (self8 : Int32 → Int32 → Option Int32) (x6 : Int32) (x7 : Int32) =>
      if 10 ≤ x7 then (some (10 + (b2i false)))
      else (if -nI v ≤ x6 then (lt (10 * x6) fun v12 => lt (x7 + 1) fun v14 => self8 v12 v14)
      else (some (x7 + (b2i false))))) n x6 (nI k) = some (nI (sb_dg v)) := by
  intro d
  induction d with
  | zero =>
    intro k n x6 hk h1 hp hn hx
    obtain ⟨m, rfl⟩ : ∃ m, n = m + 1 := ⟨n - 1, by omega⟩
    obtain rfl : k = 10 := by omega
    have hv9 : 10 ^ 9 ≤ v := hp.resolve_left (by decide)
    have hd : sb_dg v = 10 := by
      unfold sb_dg
      (repeat' split) <;> omega
    rw [hd]
    rfl
  | succ d ih =>
    intro k n x6 hk h1 hp hn hx
    obtain ⟨m, rfl⟩ : ∃ m, n = m + 1 := ⟨n - 1, by omega⟩
    have hx6 := hx (by omega)
    subst hx6
    show (if 10 ≤ nI k then (some (10 + (b2i false))) else (if -nI v ≤ -nI (10 ^ k) then _ else (some (nI k + (b2i false))))) = _
    rw [if_neg (show ¬ (10 : Int32) ≤ nI k from nI_ge (a := k) (b := 10) (by omega) (by decide))]
    have hk9 : k = 1 ∨ k = 2 ∨ k = 3 ∨ k = 4 ∨ k = 5 ∨ k = 6 ∨ k = 7 ∨ k = 8 ∨ k = 9 := by omega
    have hpw : 10 ^ k < 2 ^ 31 := by rcases hk9 with rfl | rfl | rfl | rfl | rfl | rfl | rfl | rfl | rfl <;> decide
    by_cases hc : 10 ^ k ≤ v
    · rw [if_pos ((sb_nle hv hpw).mpr hc)]
      show fix2 _ m (10 * -nI (10 ^ k)) (nI k + 1) = _
      rw [nI_1]
      refine ih (k + 1) m _ (by omega) (by omega) (Or.inr hc) (by omega) (fun h9 => ?_)
      rcases (show k = 1 ∨ k = 2 ∨ k = 3 ∨ k = 4 ∨ k = 5 ∨ k = 6 ∨ k = 7 ∨ k = 8 by omega) with rfl | rfl | rfl | rfl | rfl | rfl | rfl | rfl <;> decide
    · rw [if_neg (fun h => hc ((sb_nle hv hpw).mp h))]
      have hd : sb_dg v = k := by
        rcases hk9 with rfl | rfl | rfl | rfl | rfl | rfl | rfl | rfl | rfl <;> (unfold sb_dg; (repeat' split) <;> omega)
      rw [hd]
      show some (nI k + 0) = _
      rw [Int32.add_zero]
theorem fSS {N v : Nat} {μ : Mem} (hN : 11 ≤ N) (hv : v < 2 ^ 31) : fJ6_stringSize_0f7a4 N μ (nI v) = some (nI (sb_dg v)) := by
  unfold fJ6_stringSize_0f7a4
  show (if nI v < 0 then _ else _) = _
  rw [if_neg (nI_pos hv)]
  exact ss_loop hv 9 1 N (-10) rfl (by decide) (Or.inl rfl) (by omega) (fun _ => by decide)
