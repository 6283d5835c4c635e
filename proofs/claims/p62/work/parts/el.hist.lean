/-! Pure layer: the history's end behind one more change. -/
theorem hsP_app {pre ss : List (Nat → Int32)} {Z : Nat → Int32} (h8 : (pre ++ ss).length ≤ 8) (hs7 : ss.length ≤ 7) : ∃ pre2, hsP (pre ++ ss) Z = pre2 ++ (ss ++ [Z]) := by
  unfold hsP
  by_cases h : (pre ++ ss).length = 8
  · rw [if_pos h]
    cases pre with
    | nil =>
      rw [List.length_append, List.length_nil] at h
      omega
    | cons p q => exact ⟨q, List.append_assoc _ _ _⟩
  · rw [if_neg h]
    exact ⟨pre, List.append_assoc _ _ _⟩
/-- undoing takes the last of them -/
theorem hs_last {pre ss hs2 : List (Nat → Int32)} {Z Z2 : Nat → Int32} (h : pre ++ (ss ++ [Z]) = hs2 ++ [Z2]) : Z = Z2 ∧ pre ++ ss = hs2 := by
  rw [← List.append_assoc] at h
  have h2 := List.append_inj' h rfl
  exact ⟨by have h3 := h2.2; exact (List.cons.inj h3).1, h2.1⟩
/-- k_sum at the same state gives the same sum -/
theorem sum_same {N K : Nat} {Z : Nat → Int32} {a b : Int64} (h1 : fL_sum N Z K = some a) (h2 : fL_sum N Z K = some b) : a = b := Option.some.inj (h1.symm.trans h2)
