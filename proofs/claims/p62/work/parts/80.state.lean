/-! Pure layer, 20: a state of the class beside a row of 817 numbers of the reference. -/
def RE (μ : Mem) (x : Nat) (Y : Nat → Int32) : Prop := (μ x 0 = Y 0 ∧ μ x 1 = Y 1 ∧ μ x 3 = Y 2 ∧ μ x 4 = Y 3 ∧ μ x 5 = Y 4 ∧ μ x 6 = Y 5 ∧ μ x 10 = Y 6) ∧ (∀ i, i < 16 → μ (x + 1) i = Y (7 + i)) ∧ (∀ k, k < 8 → μ (x + 2) k = Y (23 + 3 * k + 0) ∧ μ (x + 3) k = Y (23 + 3 * k + 1) ∧ μ (x + 4) k = Y (23 + 3 * k + 2)) ∧ ∀ d, d < 100 → μ (x + 5) d = Y (47 + d)
def RB (μ : Mem) (o : Nat) (Z : Nat → Int32) : Prop := (μ o 0 = Z 0 ∧ μ o 4 = Z 1 ∧ μ o 6 = Z 2 ∧ μ o 7 = Z 3) ∧ (∀ r, r < 6 → μ (o + 1) r = Z (4 + r)) ∧ (∀ a, a < 6 → ∀ b, b < 6 → μ (o + 2 + 1 + 1 * a) b = Z (10 + 6 * a + b)) ∧ ∀ a, a < 6 → ∀ b, b < 6 → μ (o + 9 + 1 + 1 * a) b = Z (46 + 6 * a + b)
abbrev exY (Z : Nat → Int32) (e : Nat) : Nat → Int32 := fun w => Z (82 + 147 * e + w)
def RC (μ : Mem) (o : Nat) (Z : Nat → Int32) : Prop := RB μ o Z ∧ ∀ e, e < 5 → RE μ (o + 16 + 1 + 6 * e) (exY Z e)
theorem RE.mv {μ μ' : Mem} {x : Nat} {Y Y' : Nat → Int32} (h : RE μ x Y) (e : ∀ q, x ≤ q → q < x + 6 → μ' q = μ q) (ey : ∀ w, w < 147 → Y' w = Y w) : RE μ' x Y' := by
  obtain ⟨⟨a0, a1, a2, a3, a4, a5, a6⟩, b, c, d⟩ := h
  have e0 := e x (by omega) (by omega)
  refine ⟨⟨?_, ?_, ?_, ?_, ?_, ?_, ?_⟩, fun i hi => ?_, fun k hk => ⟨?_, ?_, ?_⟩, fun i hi => ?_⟩
  · rw [e0, ey _ (by decide), a0]
  · rw [e0, ey _ (by decide), a1]
  · rw [e0, ey _ (by decide), a2]
  · rw [e0, ey _ (by decide), a3]
  · rw [e0, ey _ (by decide), a4]
  · rw [e0, ey _ (by decide), a5]
  · rw [e0, ey _ (by decide), a6]
  · rw [e _ (by omega) (by omega), ey _ (by omega), b i hi]
  · rw [e _ (by omega) (by omega), ey _ (by omega), (c k hk).1]
  · rw [e _ (by omega) (by omega), ey _ (by omega), (c k hk).2.1]
  · rw [e _ (by omega) (by omega), ey _ (by omega), (c k hk).2.2]
  · rw [e _ (by omega) (by omega), ey _ (by omega), d i hi]
theorem RB.mv {μ μ' : Mem} {o : Nat} {Z Z' : Nat → Int32} (h : RB μ o Z) (e : ∀ q, o ≤ q → q < o + 16 → μ' q = μ q) (ez : ∀ j, j < 82 → Z' j = Z j) : RB μ' o Z' := by
  obtain ⟨⟨a0, a1, a2, a3⟩, b, c, d⟩ := h
  have e0 := e o (by omega) (by omega)
  refine ⟨⟨?_, ?_, ?_, ?_⟩, fun i hi => ?_, fun a ha i hi => ?_, fun a ha i hi => ?_⟩
  · rw [e0, ez _ (by decide), a0]
  · rw [e0, ez _ (by decide), a1]
  · rw [e0, ez _ (by decide), a2]
  · rw [e0, ez _ (by decide), a3]
  · rw [e _ (by omega) (by omega), ez _ (by omega), b i hi]
  · rw [e _ (by omega) (by omega), ez _ (by omega), c a ha i hi]
  · rw [e _ (by omega) (by omega), ez _ (by omega), d a ha i hi]
theorem RC.mv {μ μ' : Mem} {o : Nat} {Z Z' : Nat → Int32} (h : RC μ o Z) (e : ∀ q, o ≤ q → q < o + 47 → μ' q = μ q) (ez : ∀ j, j < 817 → Z' j = Z j) : RC μ' o Z' :=
  ⟨h.1.mv (fun q h1 h2 => e q h1 (by omega)) (fun j hj => ez j (by omega)), fun x hx => (h.2 x hx).mv (fun q h1 h2 => e q (by omega) (by omega)) (fun w hw => ez _ (by omega))⟩
theorem mcp_el (μ : Mem) (o q s d c i j : Nat) : mcp μ o q s d c i j = if i = q ∧ (d ≤ j ∧ j < d + c) then μ o (s + (j - d)) else μ i j := by
  by_cases h : i = q
  · subst h
    rw [mcp_at]
    by_cases h2 : d ≤ j ∧ j < d + c
    · rw [if_pos h2, if_pos ⟨rfl, h2⟩]
    · rw [if_neg h2, if_neg (fun z => h2 z.2)]
  · rw [mcp_ne h, if_neg (fun z => h z.1)]
section ST
variable {N : Nat} {μ : Mem}
/-- copying an exhibit -/
theorem k_copyEx {o x : Nat} {Y : Nat → Int32} (hsep : o + 6 ≤ x ∨ x + 6 ≤ o) (h : RE μ x Y) : Ok (fX1_copyFrom N μ o x) (fun m => RE m o Y ∧ frm (fun q => o ≤ q ∧ q < o + 6) μ m) := by
  obtain ⟨⟨a0, a1, a2, a3, a4, a5, a6⟩, b, c, d⟩ := h
  have X : ∀ k, k < 6 → (fun q => o ≤ q ∧ q < o + 6) (o + k) := fun k hk => ⟨by omega, by omega⟩
  have X0 : (fun q => o ≤ q ∧ q < o + 6) o := ⟨by omega, by omega⟩
  unfold fX1_copyFrom
  refine ok_lt (ok_lt ?_)
  refine ok_acp 0 0 16 rfl rfl rfl (by decide) (by decide) (by decide) (by decide) ?_
  refine ok_lt (ok_lt (ok_lt (ok_lt ?_)))
  refine ok_acp 0 0 8 rfl rfl rfl (by decide) (by decide) (by decide) (by decide) ?_
  refine ok_acp 0 0 8 rfl rfl rfl (by decide) (by decide) (by decide) (by decide) ?_
  refine ok_acp 0 0 8 rfl rfl rfl (by decide) (by decide) (by decide) (by decide) ?_
  refine ok_lt ?_
  refine ok_acp 0 0 100 rfl rfl rfl (by decide) (by decide) (by decide) (by decide) ?_
  refine ok_some ⟨⟨⟨?_, ?_, ?_, ?_, ?_, ?_, ?_⟩, fun i hi => ?_, fun k hk => ⟨?_, ?_, ?_⟩, fun i hi => ?_⟩, ?_⟩
  · repeat first | rw [mset_at] | rw [mset_sl _ _ _ _ (by omega)] | rw [mset_ne _ _ _ _ (by omega)] | rw [mcp_ne (by omega)] | rw [mcp_in (by omega) (by omega)] | rw [mcp_out (by omega)]
    exact a0
  · repeat first | rw [mset_at] | rw [mset_sl _ _ _ _ (by omega)] | rw [mset_ne _ _ _ _ (by omega)] | rw [mcp_ne (by omega)] | rw [mcp_in (by omega) (by omega)] | rw [mcp_out (by omega)]
    exact a1
  · repeat first | rw [mset_at] | rw [mset_sl _ _ _ _ (by omega)] | rw [mset_ne _ _ _ _ (by omega)] | rw [mcp_ne (by omega)] | rw [mcp_in (by omega) (by omega)] | rw [mcp_out (by omega)]
    exact a2
  · repeat first | rw [mset_at] | rw [mset_sl _ _ _ _ (by omega)] | rw [mset_ne _ _ _ _ (by omega)] | rw [mcp_ne (by omega)] | rw [mcp_in (by omega) (by omega)] | rw [mcp_out (by omega)]
    exact a3
  · repeat first | rw [mset_at] | rw [mset_sl _ _ _ _ (by omega)] | rw [mset_ne _ _ _ _ (by omega)] | rw [mcp_ne (by omega)] | rw [mcp_in (by omega) (by omega)] | rw [mcp_out (by omega)]
    exact a4
  · repeat first | rw [mset_at] | rw [mset_sl _ _ _ _ (by omega)] | rw [mset_ne _ _ _ _ (by omega)] | rw [mcp_ne (by omega)] | rw [mcp_in (by omega) (by omega)] | rw [mcp_out (by omega)]
    exact a5
  · repeat first | rw [mset_at] | rw [mset_sl _ _ _ _ (by omega)] | rw [mset_ne _ _ _ _ (by omega)] | rw [mcp_ne (by omega)] | rw [mcp_in (by omega) (by omega)] | rw [mcp_out (by omega)]
    exact a6
  · repeat first | rw [mset_at] | rw [mset_sl _ _ _ _ (by omega)] | rw [mset_ne _ _ _ _ (by omega)] | rw [mcp_ne (by omega)] | rw [mcp_in (by omega) (by omega)] | rw [mcp_out (by omega)]
    rw [Nat.zero_add, Nat.sub_zero]; exact b i hi
  · repeat first | rw [mset_at] | rw [mset_sl _ _ _ _ (by omega)] | rw [mset_ne _ _ _ _ (by omega)] | rw [mcp_ne (by omega)] | rw [mcp_in (by omega) (by omega)] | rw [mcp_out (by omega)]
    rw [Nat.zero_add, Nat.sub_zero]; exact (c k hk).1
  · repeat first | rw [mset_at] | rw [mset_sl _ _ _ _ (by omega)] | rw [mset_ne _ _ _ _ (by omega)] | rw [mcp_ne (by omega)] | rw [mcp_in (by omega) (by omega)] | rw [mcp_out (by omega)]
    rw [Nat.zero_add, Nat.sub_zero]; exact (c k hk).2.1
  · repeat first | rw [mset_at] | rw [mset_sl _ _ _ _ (by omega)] | rw [mset_ne _ _ _ _ (by omega)] | rw [mcp_ne (by omega)] | rw [mcp_in (by omega) (by omega)] | rw [mcp_out (by omega)]
    rw [Nat.zero_add, Nat.sub_zero]; exact (c k hk).2.2
  · repeat first | rw [mset_at] | rw [mset_sl _ _ _ _ (by omega)] | rw [mset_ne _ _ _ _ (by omega)] | rw [mcp_ne (by omega)] | rw [mcp_in (by omega) (by omega)] | rw [mcp_out (by omega)]
    rw [Nat.zero_add, Nat.sub_zero]; exact d i hi
  · intro q hq
    funext j
    repeat first | rw [mset_at] | rw [mset_sl _ _ _ _ (by omega)] | rw [mset_ne _ _ _ _ (by omega)] | rw [mcp_ne (by omega)] | rw [mcp_in (by omega) (by omega)] | rw [mcp_out (by omega)]
/-- copying a state -/
theorem k_copy {o x : Nat} {Z : Nat → Int32} (hN : 10 ≤ N) (hsep : o + 47 ≤ x ∨ x + 47 ≤ o) (h : RC μ x Z) : Ok (fX8_copyFrom N μ o x) (fun m => RC m o Z ∧ frm (fun q => o ≤ q ∧ q < o + 47) μ m) := by
  obtain ⟨⟨⟨a0, a1, a2, a3⟩, b, c, d⟩, he⟩ := h
  unfold fX8_copyFrom
  refine ok_lt ?_
  refine ok_acp 0 0 6 rfl rfl rfl (by decide) (by decide) (by decide) (by decide) ?_
  refine ok_fix2 (fun k v m => ∃ i, i + k = 6 ∧ v = nI i ∧ frm (fun q => o ≤ q ∧ q < o + 47) μ m ∧ m o 0 = Z 0 ∧ (∀ r, r < 6 → m (o + 1) r = Z (4 + r)) ∧ (∀ a, a < i → ∀ b, b < 6 → m (o + 2 + 1 + 1 * a) b = Z (10 + 6 * a + b)) ∧ (∀ a, a < i → ∀ b, b < 6 → m (o + 9 + 1 + 1 * a) b = Z (46 + 6 * a + b))) ?_ N 6 _ _ (by omega) ⟨0, rfl, rfl, ?_, ?_, fun r hr => ?_, fun a ha => absurd ha (Nat.not_lt_zero _), fun a ha => absurd ha (Nat.not_lt_zero _)⟩
  · rintro k self v m ⟨i, hi, rfl, hf, m0, mw, mm, mh⟩ hs
    refine ok_le 6 i (f := fun hc => ?_) (g := fun hc => ?_)
    · have : i = 6 := by omega
      subst this
      clear hs
      refine ok_lt ?_
      have hf1 : frm (fun q => o ≤ q ∧ q < o + 47) μ (mset m o 4 (m x 4)) := frm.set (X := fun q => o ≤ q ∧ q < o + 47) hf (by omega) _ _
      refine ok_fix2 (fun k v m2 => ∃ i, i + k = 5 ∧ v = nI i ∧ frm (fun q => o ≤ q ∧ q < o + 47) μ m2 ∧ (∀ q, o ≤ q → q < o + 17 → m2 q = mset m o 4 (m x 4) q) ∧ (∀ e, e < i → RE m2 (o + 16 + 1 + 6 * e) (exY Z e))) ?_ N 5 _ _ (by omega) ⟨0, rfl, rfl, hf1, fun _ _ _ => rfl, fun e he => absurd he (Nat.not_lt_zero _)⟩
      rintro k self v m2 ⟨i, hi, rfl, hf2, hsame, hex⟩ hs
      refine ok_le 5 i (f := fun hd => ?_) (g := fun hd => ?_)
      · refine ok_lt (ok_lt (ok_some ⟨⟨⟨⟨?_, ?_, ?_, ?_⟩, fun r hr => ?_, fun a ha b hb => ?_, fun a ha b hb => ?_⟩, fun e he2 => ?_⟩, ?_⟩))
        · repeat first | rw [mset_at] | rw [mset_sl _ _ _ _ (by omega)] | rw [mset_ne _ _ _ _ (by omega)] | rw [mcp_ne (by omega)] | rw [mcp_in (by omega) (by omega)] | rw [mcp_out (by omega)]
          rw [hsame o (by omega) (by omega), mset_sl _ _ _ _ (by decide)]; exact m0
        · repeat first | rw [mset_at] | rw [mset_sl _ _ _ _ (by omega)] | rw [mset_ne _ _ _ _ (by omega)] | rw [mcp_ne (by omega)] | rw [mcp_in (by omega) (by omega)] | rw [mcp_out (by omega)]
          rw [hsame o (by omega) (by omega), mset_at, hf x (by omega)]; exact a1
        · repeat first | rw [mset_at] | rw [mset_sl _ _ _ _ (by omega)] | rw [mset_ne _ _ _ _ (by omega)] | rw [mcp_ne (by omega)] | rw [mcp_in (by omega) (by omega)] | rw [mcp_out (by omega)]
          rw [hf2 x (by omega)]; exact a2
        · repeat first | rw [mset_at] | rw [mset_sl _ _ _ _ (by omega)] | rw [mset_ne _ _ _ _ (by omega)] | rw [mcp_ne (by omega)] | rw [mcp_in (by omega) (by omega)] | rw [mcp_out (by omega)]
          rw [hf2 x (by omega)]; exact a3
        · repeat first | rw [mset_at] | rw [mset_sl _ _ _ _ (by omega)] | rw [mset_ne _ _ _ _ (by omega)] | rw [mcp_ne (by omega)] | rw [mcp_in (by omega) (by omega)] | rw [mcp_out (by omega)]
          rw [hsame _ (by omega) (by omega), mset_ne _ _ _ _ (by omega)]; exact mw r hr
        · repeat first | rw [mset_at] | rw [mset_sl _ _ _ _ (by omega)] | rw [mset_ne _ _ _ _ (by omega)] | rw [mcp_ne (by omega)] | rw [mcp_in (by omega) (by omega)] | rw [mcp_out (by omega)]
          rw [hsame _ (by omega) (by omega), mset_ne _ _ _ _ (by omega)]; exact mm a ha b hb
        · repeat first | rw [mset_at] | rw [mset_sl _ _ _ _ (by omega)] | rw [mset_ne _ _ _ _ (by omega)] | rw [mcp_ne (by omega)] | rw [mcp_in (by omega) (by omega)] | rw [mcp_out (by omega)]
          rw [hsame _ (by omega) (by omega), mset_ne _ _ _ _ (by omega)]; exact mh a ha b hb
        · exact (hex e (by omega)).mv (fun q h1 h2 => by rw [mset_ne _ _ _ _ (by omega), mset_ne _ _ _ _ (by omega)]) (fun _ _ => rfl)
        · exact frm.set (X := fun q => o ≤ q ∧ q < o + 47) (frm.set (X := fun q => o ≤ q ∧ q < o + 47) hf2 (by omega) _ _) (by omega) _ _
      · refine ok_ar i rfl hd (by decide) ?_
        refine ok_ar i rfl hd (by decide) ?_
        refine ok_bind (k_copyEx (Y := exY Z i) (by omega) ((he i hd).mv (fun q h1 h2 => hf2 q (by omega)) (fun _ _ => rfl))) ?_
        rintro m3 ⟨hE, hf3⟩
        refine ok_lt ?_
        refine hs (k - 1) _ _ (by omega) ⟨i + 1, by omega, nI_1 _, hf2.tr (hf3.mono (fun q hq => by omega)), fun q h1 h2 => by rw [hf3 q (by omega)]; exact hsame q h1 h2, fun e he2 => ?_⟩
        by_cases ee : e = i
        · subst ee; exact hE
        · exact (hex e (by omega)).mv (fun q h1 h2 => hf3 q (by omega)) (fun _ _ => rfl)
    · refine ok_ar i rfl hc (by decide) ?_
      refine ok_ar i rfl hc (by decide) ?_
      refine ok_acp 0 0 6 rfl rfl rfl (by decide) (by decide) (by decide) (by decide) ?_
      refine ok_ar i rfl hc (by decide) ?_
      refine ok_ar i rfl hc (by decide) ?_
      refine ok_acp 0 0 6 rfl rfl rfl (by decide) (by decide) (by decide) (by decide) ?_
      refine ok_lt ?_
      have hF : frm (fun q => o ≤ q ∧ q < o + 47) μ (mcp (mcp m (x + 2 + 1 + 1 * i) (o + 2 + 1 + 1 * i) 0 0 6) (x + 9 + 1 + 1 * i) (o + 9 + 1 + 1 * i) 0 0 6) := frm.cpy (X := fun q => o ≤ q ∧ q < o + 47) (frm.cpy (X := fun q => o ≤ q ∧ q < o + 47) hf (by omega) _ _ _) (by omega) _ _ _
      refine hs (k - 1) _ _ (by omega) ⟨i + 1, by omega, nI_1 _, hF, ?_, fun r hr => ?_, fun a ha b' hb => ?_, fun a ha b' hb => ?_⟩
      · repeat first | rw [mset_at] | rw [mset_sl _ _ _ _ (by omega)] | rw [mset_ne _ _ _ _ (by omega)] | rw [mcp_ne (by omega)] | rw [mcp_in (by omega) (by omega)] | rw [mcp_out (by omega)]
        exact m0
      · repeat first | rw [mset_at] | rw [mset_sl _ _ _ _ (by omega)] | rw [mset_ne _ _ _ _ (by omega)] | rw [mcp_ne (by omega)] | rw [mcp_in (by omega) (by omega)] | rw [mcp_out (by omega)]
        exact mw r hr
      · by_cases e : a = i
        · subst e
          repeat first | rw [mset_at] | rw [mset_sl _ _ _ _ (by omega)] | rw [mset_ne _ _ _ _ (by omega)] | rw [mcp_ne (by omega)] | rw [mcp_in (by omega) (by omega)] | rw [mcp_out (by omega)]
          rw [Nat.zero_add, Nat.sub_zero, hf _ (by omega)]; exact c a hc b' hb
        · repeat first | rw [mset_at] | rw [mset_sl _ _ _ _ (by omega)] | rw [mset_ne _ _ _ _ (by omega)] | rw [mcp_ne (by omega)] | rw [mcp_in (by omega) (by omega)] | rw [mcp_out (by omega)]
          exact mm a (by omega) b' hb
      · by_cases e : a = i
        · subst e
          repeat first | rw [mset_at] | rw [mset_sl _ _ _ _ (by omega)] | rw [mset_ne _ _ _ _ (by omega)] | rw [mcp_ne (by omega)] | rw [mcp_in (by omega) (by omega)] | rw [mcp_out (by omega)]
          rw [Nat.zero_add, Nat.sub_zero, hf _ (by omega)]; exact d a hc b' hb
        · repeat first | rw [mset_at] | rw [mset_sl _ _ _ _ (by omega)] | rw [mset_ne _ _ _ _ (by omega)] | rw [mcp_ne (by omega)] | rw [mcp_in (by omega) (by omega)] | rw [mcp_out (by omega)]
          exact mh a (by omega) b' hb
  · exact frm.cpy (X := fun q => o ≤ q ∧ q < o + 47) (frm.set (X := fun q => o ≤ q ∧ q < o + 47) frm.rf (by omega) _ _) (by omega) _ _ _
  · repeat first | rw [mset_at] | rw [mset_sl _ _ _ _ (by omega)] | rw [mset_ne _ _ _ _ (by omega)] | rw [mcp_ne (by omega)] | rw [mcp_in (by omega) (by omega)] | rw [mcp_out (by omega)]
    exact a0
  · repeat first | rw [mset_at] | rw [mset_sl _ _ _ _ (by omega)] | rw [mset_ne _ _ _ _ (by omega)] | rw [mcp_ne (by omega)] | rw [mcp_in (by omega) (by omega)] | rw [mcp_out (by omega)]
    rw [Nat.zero_add, Nat.sub_zero]; exact b r hr
end ST
