/-! Without the machine: a number that is not negative is written as its decimal letters. -/
theorem dcN_ok {N : Nat} (hN : 11 ≤ N) : ∀ x ds, dcN x = some ds → NumP N x ds := by
  intro x ds h
  unfold dcN at h
  by_cases hx : x < 0
  · rw [if_pos hx] at h; cases h
  rw [if_neg hx] at h
  have hv : x.toNatClampNeg < 2 ^ 31 := by
    have h8 : x.toInt < 2 ^ 31 := Int32.toInt_lt x
    have h7 : x.toNatClampNeg = x.toInt.toNat := rfl
    omega
  have ex : nI x.toNatClampNeg = x := nI_tn hx
  generalize x.toNatClampNeg = v at h hv ex
  subst ex
  have hl : ds.length = sb_dg v := by
    rw [← Option.some.inj h, List.length_map, List.length_range]
  have hg : ∀ j, j < sb_dg v → ds.getD j 0 = sb_dec v j := fun j hj => by
    rw [← Option.some.inj h, List.getD_eq_getElem?_getD, List.getElem?_map, List.getElem?_range hj]
    rfl
  refine ⟨fun μ => by rw [hl]; exact fSS hN hv, fun cap n row hf hle hcap => ?_⟩
  rw [hl] at hle ⊢
  obtain ⟨m, rfl⟩ : ∃ m, N = m + 1 := ⟨N - 1, by omega⟩
  have hw : v < 100 ^ (m + 1) := Nat.lt_of_lt_of_le (Nat.lt_of_lt_of_le hv (by decide : 2 ^ 31 ≤ 100 ^ 5)) (Nat.pow_le_pow_right (by decide) (by omega))
  obtain ⟨r, g0, g1, g2, g3⟩ := gc_loop (cap := cap) (n := n) (by omega) m v (n + sb_dg v) (fun _ => row) hw hv rfl hle
  refine ⟨r, ?_, g3 hf, fun j hj => g1 j (Or.inl hj), fun j hj => ?_⟩
  · unfold fJ6_getChars_ba4f3
    show (if 0 ≤ nI v then fix3 (gcB cap) (m + 1) (-nI v) (nI (n + sb_dg v)) (fun _ => row) else _) = some r
    rw [if_pos (nI_pos' hv)]
    exact g0
  · rw [hg j hj]
    have h5 := g2 (sb_dg v - 1 - j) (by omega)
    rw [show n + sb_dg v - 1 - (sb_dg v - 1 - j) = n + j by omega] at h5
    refine ⟨?_, h5⟩
    show 48 + v / 10 ^ (sb_dg v - 1 - j) % 10 < 256
    omega
