/-! Pure layer, 21: what stands between class and reference. -/
def EXq (n : Nat) (Y : Nat → Int32) (r l : Nat) (p : Nat → Nat) (q : Nat) (fi la fe le : Nat → Nat) : Prop :=
  Y 0 = nI r ∧ r < n ∧ Y 1 = nI l ∧ l ≤ 9 ∧ (∀ i, i < 16 → Y (7 + i) = nI (p i)) ∧ stab p ∧ Y 5 = nI q ∧ lnOK q fi la fe le ∧ (∀ k, k < q → Y (23 + 3 * k + 0) = nI (fi k) ∧ Y (23 + 3 * k + 1) = nI (la k) ∧ Y (23 + 3 * k + 2) = nI (fe k)) ∧ (∀ d, d < 100 → Y (47 + d) = nI (le d)) ∧ Y 2 = nI (grs p) + Y 3 + Y 4
def SIp (Z : Nat → Int32) (n ec : Nat) (mn ht : Nat → Nat → Nat) : Prop :=
  Z 0 = nI n ∧ gOK n mn ht ∧ (∀ a, a < 6 → ∀ b, b < 6 → Z (10 + 6 * a + b) = nI (mn a b) ∧ Z (46 + 6 * a + b) = nI (ht a b)) ∧ (∀ r, r < 6 → ∃ w, w ≤ 9 ∧ Z (4 + r) = nI w) ∧ Z 1 = nI ec ∧ ec ≤ 5 ∧ (∀ e, e < ec → ∃ r l p q fi la fe le, EXq n (exY Z e) r l p q fi la fe le) ∧ ∀ e, ec ≤ e → e < 5 → ∀ w, w < 147 → Z (82 + 147 * e + w) = 0
def SI (Z : Nat → Int32) : Prop := ∃ n ec mn ht, SIp Z n ec mn ht
theorem EXq.cg {n r l q : Nat} {Y Y' : Nat → Int32} {p fi la fe le : Nat → Nat} (h : EXq n Y r l p q fi la fe le) (e : ∀ w, w < 147 → Y' w = Y w) : EXq n Y' r l p q fi la fe le := by
  obtain ⟨h1, h2, h3, h4, h5, h6, h7, h8, h9, h10, h11⟩ := h
  have hq := h8.1
  refine ⟨by rw [e _ (by decide), h1], h2, by rw [e _ (by decide), h3], h4, fun i hi => by rw [e _ (by omega), h5 i hi], h6, by rw [e _ (by decide), h7], h8, fun k hk => ⟨by rw [e _ (by omega), (h9 k hk).1], by rw [e _ (by omega), (h9 k hk).2.1], by rw [e _ (by omega), (h9 k hk).2.2]⟩, fun d hd => by rw [e _ (by omega), h10 d hd], by rw [e _ (by decide), e _ (by decide), e _ (by decide), h11]⟩
theorem SIp.cg {Z Z' : Nat → Int32} {n ec : Nat} {mn ht : Nat → Nat → Nat} (h : SIp Z n ec mn ht) (e : ∀ j, j < 817 → Z' j = Z j) : SIp Z' n ec mn ht := by
  obtain ⟨h1, h2, h3, h4, h5, h6, h7, h8⟩ := h
  refine ⟨by rw [e _ (by decide), h1], h2, fun a ha b hb => ⟨by rw [e _ (by omega), (h3 a ha b hb).1], by rw [e _ (by omega), (h3 a ha b hb).2]⟩, fun r hr => ?_, by rw [e _ (by decide), h5], h6, fun x hx => ?_, fun x h1 h2 w hw => by rw [e _ (by omega), h8 x h1 h2 w hw]⟩
  · obtain ⟨w, hw, e1⟩ := h4 r hr
    exact ⟨w, hw, by rw [e _ (by omega), e1]⟩
  · obtain ⟨r, l, p, q, fi, la, fe, le, hE⟩ := h7 x hx
    exact ⟨r, l, p, q, fi, la, fe, le, hE.cg (fun w hw => e _ (by omega))⟩
theorem SI.cg {Z Z' : Nat → Int32} (h : SI Z) (e : ∀ j, j < 817 → Z' j = Z j) : SI Z' := by
  obtain ⟨n, ec, mn, ht, h⟩ := h
  exact ⟨n, ec, mn, ht, h.cg e⟩
/-- the history: a ring of states beside a row that is shifted -/
def HI (μ ν : Mem) (a0 f c : Nat) : Prop := f < 9 ∧ c ≤ 8 ∧ μ 95 1 = nI f ∧ μ 95 2 = nI c ∧ ν a0 5 = nI c ∧ ∀ i, i < c → RC μ (95 + 1 + 1 + 47 * ((f + 9 - c + i) % 9)) (fun j => ν (a0 + 4) (817 * i + j)) ∧ SI (fun j => ν (a0 + 4) (817 * i + j))
def posOK (x : Int32) : Prop := x = -1 ∨ ∃ k, k < 100 ∧ x = nI k
/-- all that changes do not touch -/
def MIr (μ ν : Mem) (a0 : Nat) (t : List Nat) : Prop :=
  (μ 0 2 = ν a0 3 ∧ (μ 0 2 = 0 ∨ μ 0 2 = 1) ∧ RC μ 48 (ν (a0 + 3)) ∧ SI (ν (a0 + 3))) ∧ (∃ r, r ≤ 2 ∧ μ 0 9 = nI r ∧ ν a0 7 = nI r ∧ μ 0 10 = ν a0 8) ∧ (μ 0 11 = ν a0 20 ∧ μ 0 12 = ν a0 21 ∧ posOK (μ 0 11) ∧ posOK (μ 0 12)) ∧ (∃ L, L ≤ 60 ∧ μ 546 1 = nI L ∧ ν a0 17 = nI L ∧ ∀ i, i < L → ∃ ch, ch < 65536 ∧ μ (546 + 1) i = nI ch ∧ ν (a0 + 10) i = nI ch) ∧ μ (543 + 2) 0 = 0 ∧ (ν a0 15 = nI t.length ∧ t.length ≤ 40 ∧ ∀ i, i < t.length → ν (a0 + 9) i = nI (t.getD i 0) ∧ t.getD i 0 < 256)
def RR (μ ν : Mem) (a0 : Nat) (t : List Nat) : Prop := RC μ 1 (ν (a0 + 1)) ∧ SI (ν (a0 + 1)) ∧ (∃ f c, HI μ ν a0 f c) ∧ MIr μ ν a0 t
section RL
variable {N : Nat} {μ μ' ν ν' : Mem} {a0 : Nat} {t : List Nat}
theorem HI.mv {f c : Nat} (h : HI μ ν a0 f c) (e : ∀ q, 95 ≤ q → q < 520 → μ' q = μ q) (e5 : ν' a0 5 = ν a0 5) (e4 : ν' (a0 + 4) = ν (a0 + 4)) : HI μ' ν' a0 f c := by
  obtain ⟨h1, h2, h3, h4, h5, h6⟩ := h
  refine ⟨h1, h2, by rw [e _ (by decide) (by decide), h3], by rw [e _ (by decide) (by decide), h4], by rw [e5, h5], fun i hi => ⟨(h6 i hi).1.mv (fun q h1 h2 => e q (by omega) ?_) (fun j hj => by rw [e4]), ?_⟩⟩
  · have : (f + 9 - c + i) % 9 < 9 := Nat.mod_lt _ (by decide)
    omega
  · rw [e4]; exact (h6 i hi).2
theorem MIr.mv (h : MIr μ ν a0 t) (e0 : ∀ j, j = 2 ∨ j = 9 ∨ j = 10 ∨ j = 11 ∨ j = 12 → μ' 0 j = μ 0 j) (e1 : ∀ q, (48 ≤ q ∧ q < 95) ∨ q = 546 ∨ q = 546 + 1 → μ' q = μ q) (e2 : μ' (543 + 2) 0 = 0) (e3 : ∀ j, j = 3 ∨ j = 7 ∨ j = 8 ∨ j = 20 ∨ j = 21 ∨ j = 17 ∨ j = 15 → ν' a0 j = ν a0 j) (e4 : ν' (a0 + 3) = ν (a0 + 3)) (e5 : ν' (a0 + 10) = ν (a0 + 10)) (e6 : ν' (a0 + 9) = ν (a0 + 9)) : MIr μ' ν' a0 t := by
  obtain ⟨⟨s1, s2, s3, s4⟩, ⟨r, r1, r2, r3, r4⟩, ⟨p1, p2, p3, p4⟩, ⟨L, l1, l2, l3, l4⟩, g, ⟨o1, o2, o3⟩⟩ := h
  refine ⟨⟨?_, ?_, ?_, ?_⟩, ⟨r, r1, ?_, ?_, ?_⟩, ⟨?_, ?_, ?_, ?_⟩, ⟨L, l1, ?_, ?_, fun i hi => ?_⟩, e2, ⟨?_, o2, fun i hi => ?_⟩⟩
  · rw [e0 _ (by omega), e3 _ (by omega), s1]
  · rw [e0 _ (by omega)]; exact s2
  · rw [e4]; exact s3.mv (fun q h1 h2 => e1 q (by omega)) (fun _ _ => rfl)
  · rw [e4]; exact s4
  · rw [e0 _ (by omega), r2]
  · rw [e3 _ (by omega), r3]
  · rw [e0 _ (by omega), e3 _ (by omega), r4]
  · rw [e0 _ (by omega), e3 _ (by omega), p1]
  · rw [e0 _ (by omega), e3 _ (by omega), p2]
  · rw [e0 _ (by omega)]; exact p3
  · rw [e0 _ (by omega)]; exact p4
  · rw [e1 _ (by omega), l2]
  · rw [e3 _ (by omega), l3]
  · obtain ⟨ch, c1, c2, c3⟩ := l4 i hi
    exact ⟨ch, c1, by rw [e1 _ (by omega), c2], by rw [e5, c3]⟩
  · rw [e3 _ (by omega), o1]
  · rw [e6]; exact o3 i hi
/-- a question leaves what stands between them -/
theorem RR.ask (h : RR μ ν a0 t) (hf : frm (fun q => 520 ≤ q ∧ q < 546) μ μ') (h0 : μ' (543 + 2) 0 = 0) (hs : ∀ j, j ≠ 6 → j ≠ 13 → ν' a0 j = ν a0 j) (hn : frm (fun q => q = a0 ∨ (a0 + 5 ≤ q ∧ q ≤ a0 + 8)) ν ν') : RR μ' ν' a0 t := by
  obtain ⟨h1, h2, ⟨f, c, h3⟩, h4⟩ := h
  have n1 : ν' (a0 + 1) = ν (a0 + 1) := hn _ (by omega)
  refine ⟨?_, by rw [n1]; exact h2, ⟨f, c, h3.mv (fun q h1 h2 => hf q (by omega)) (hs _ (by decide) (by decide)) (hn _ (by omega))⟩, h4.mv (fun j hj => by rw [hf 0 (by omega)]) (fun q hq => hf q (by omega)) h0 (fun j hj => hs j (by omega) (by omega)) (hn _ (by omega)) (hn _ (by omega)) (hn _ (by omega))⟩
  rw [n1]
  exact h1.mv (fun q h1 h2 => hf q (by omega)) (fun _ _ => rfl)
/-- class views of a sound state -/
theorem cG_of {o n ec : Nat} {mn ht : Nat → Nat → Nat} {Z : Nat → Int32} (h : RC μ o Z) (hs : SIp Z n ec mn ht) : cG μ o n mn ht :=
  ⟨by rw [h.1.1.1, hs.1], fun a ha b hb => by rw [h.1.2.2.1 a ha b hb, (hs.2.2.1 a ha b hb).1], fun a ha b hb => by rw [h.1.2.2.2 a ha b hb, (hs.2.2.1 a ha b hb).2]⟩
theorem mG_of {n ec : Nat} {mn ht : Nat → Nat → Nat} (hs : SIp (ν (a0 + 1)) n ec mn ht) : mG ν a0 n mn ht :=
  ⟨hs.1, fun a ha b hb => (hs.2.2.1 a ha b hb).1, fun a ha b hb => (hs.2.2.1 a ha b hb).2⟩
theorem cL_of {x n r l q : Nat} {p fi la fe le : Nat → Nat} {Y : Nat → Int32} (h : RE μ x Y) (he : EXq n Y r l p q fi la fe le) : cL μ x q fi la fe le := by
  obtain ⟨h1, h2, h3, h4, h5, h6, h7, h8, h9, h10, h11⟩ := he
  have hq := h8.1
  exact ⟨by rw [h.1.2.2.2.2.2.1, h7], fun k hk => by rw [(h.2.2.1 k (by omega)).1, (h9 k hk).1], fun k hk => by rw [(h.2.2.1 k (by omega)).2.1, (h9 k hk).2.1], fun k hk => by rw [(h.2.2.1 k (by omega)).2.2, (h9 k hk).2.2], fun d hd => by rw [h.2.2.2 d hd, h10 d hd]⟩
theorem cP_of {x n r l q : Nat} {p fi la fe le : Nat → Nat} {Y : Nat → Int32} (h : RE μ x Y) (he : EXq n Y r l p q fi la fe le) : ArN μ (x + 1) 16 p := fun i hi => by rw [h.2.1 i hi, he.2.2.2.2.1 i hi]
theorem mL_of {e n r l q : Nat} {p fi la fe le : Nat → Nat} (he : EXq n (exY (ν (a0 + 1)) e) r l p q fi la fe le) : mL ν a0 e q fi la fe le := ⟨he.2.2.2.2.2.2.1, he.2.2.2.2.2.2.2.2.1, he.2.2.2.2.2.2.2.2.2.1⟩
theorem mP_of {e n r l q : Nat} {p fi la fe le : Nat → Nat} (he : EXq n (exY (ν (a0 + 1)) e) r l p q fi la fe le) : mP ν a0 e p := he.2.2.2.2.1
/-! Room and exhibit tests. -/
theorem k_isFrom {x lo hi : Int32} : fX10_isFrom N μ lo x hi = some (decide (lo ≤ x ∧ x ≤ hi)) := by
  have key : Ok (fX10_isFrom N μ lo x hi) (fun r => r = decide (lo ≤ x ∧ x ≤ hi)) := by
    unfold fX10_isFrom
    refine ok_jn1 (fun y : Bool => y = decide (lo ≤ x ∧ x ≤ hi)) (fun y hy => ok_some hy) (fun j2 hj2 => ?_)
    refine ok_jn1 (fun _ : Unit => ¬ (lo ≤ x ∧ x ≤ hi)) (fun _ hz => hj2 false (decide_eq_false hz).symm) (fun j6 hj6 => ?_)
    refine ok_if (fun h1 => hj6 () (fun z => ?_)) (fun h1 => ?_)
    · have a1 := Int32.lt_iff_toInt_lt.mp h1
      have a2 := Int32.le_iff_toInt_le.mp z.1
      omega
    · refine ok_if (fun h2 => hj6 () (fun z => ?_)) (fun h2 => hj2 true (decide_eq_true ⟨?_, ?_⟩).symm)
      · have a1 := Int32.lt_iff_toInt_lt.mp h2
        have a2 := Int32.le_iff_toInt_le.mp z.2
        omega
      · exact Int32.le_iff_toInt_le.mpr (Int.not_lt.mp fun z => h1 (Int32.lt_iff_toInt_lt.mpr z))
      · exact Int32.le_iff_toInt_le.mpr (Int.not_lt.mp fun z => h2 (Int32.lt_iff_toInt_lt.mpr z))
  obtain ⟨r, e, h⟩ := key
  rw [e, h]
theorem k_inE {x lo hi : Int32} : fX11_in N μ x lo hi = some (decide (lo ≤ x ∧ x ≤ hi)) := by
  obtain ⟨r, e, h⟩ := k_in (N := N) (μ := μ) (x := x) (lo := lo) (hi := hi)
  rw [e, h]
/-- x is the index of one of n -/
def idx (n : Nat) (x : Int32) : Bool := decide (∃ j, j < n ∧ x = nI j)
theorem idx_t {n : Nat} {x : Int32} : idx n x = true ↔ ∃ j, j < n ∧ x = nI j := decide_eq_true_iff
end RL
