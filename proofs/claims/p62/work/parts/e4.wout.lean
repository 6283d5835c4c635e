/-! Pure layer: the letters that writePile and writeWay leave. -/
def SqT (Z : Nat → Int32) (hs : List (Nat → Int32)) (A : List Nat × (Nat ⊕ Int32)) : RSt := fun Z2 hs2 t2 out => Z = Z2 ∧ hs = hs2 ∧ A.1 = t2 ∧ A.2 = out
def ok256 (t : List Nat) : Prop := ∀ x ∈ t, x < 256
theorem ok256_d {t : List Nat} (h : ok256 t) : ∀ j, j < t.length → t.getD j 0 < 256 := fun j hj => by
  rw [List.getD_eq_getElem?_getD, List.getElem?_eq_getElem hj]
  exact h _ (List.getElem_mem hj)
theorem ok256_app {t u : List Nat} (h : ok256 t) (h2 : ok256 u) : ok256 (t ++ u) := fun x hx => (List.mem_append.mp hx).elim (h x) (h2 x)
theorem dsN_256 : ∀ v, v < 1000 → ∀ x ∈ dsN v, x < 256 := by decide +kernel
theorem pL_256 {p : Nat → Nat} (hp : stab p) : ∀ i, i ≤ 16 → ok256 (pL p i)
  | 0, _ => fun x hx => by cases hx
  | i + 1, hi => by
    have ih := pL_256 hp i (by omega)
    have h1 := hp i (by omega)
    have h47 : ok256 [47] := fun x hx => by
      have := List.mem_singleton.mp hx
      omega
    show ok256 ((if 0 < i ∧ i % 4 = 0 then pL p i ++ [47] else pL p i) ++ dsN (p i))
    refine ok256_app ?_ (dsN_256 _ (by omega))
    split
    · exact ok256_app ih h47
    · exact ih
theorem wL_256 {W : Nat → Nat} : ∀ i, (∀ j, j < i → W j < 10) → ok256 (wL W i)
  | 0, _ => fun x hx => by cases hx
  | i + 1, hW => by
    have ih := wL_256 (W := W) i (fun j hj => hW j (by omega))
    have h1 := hW i (by omega)
    have h62 : ok256 [62] := fun x hx => by
      have := List.mem_singleton.mp hx
      omega
    show ok256 ((if 0 < i then wL W i ++ [62] else wL W i) ++ dsN (W i))
    refine ok256_app ?_ (dsN_256 _ (by omega))
    split
    · exact ok256_app ih h62
    · exact ih
section WOUT
variable {N : Nat} {μ : Mem} {t t' : List Nat} {Z : Nat → Int32} {hs : List (Nat → Int32)}
/-- other letters are written: the rest stands -/
theorem z_out (h : PZ μ t Z hs) (hl : t'.length ≤ 40) (hb : ok256 t') : PZ μ t' Z hs := by
  obtain ⟨ν, hR, hZ, h1, h2, h3⟩ := h
  have hg : ∀ q, q ≠ 0 → q ≠ 9 → (fun q => if q = 0 then (fun j => if j = 15 then nI t'.length else ν 0 j) else if q = 9 then (fun i => nI (t'.getD i 0)) else ν q : Mem) q = ν q := fun q h0 h9 => by
    show (if q = 0 then _ else if q = 9 then _ else ν q) = ν q
    rw [if_neg h0, if_neg h9]
  refine ⟨fun q => if q = 0 then (fun j => if j = 15 then nI t'.length else ν 0 j) else if q = 9 then (fun i => nI (t'.getD i 0)) else ν q, hR.out (fun q hq => hg q (fun e => hq (Or.inl e)) (fun e => hq (Or.inr e))) (fun j hj => if_neg hj) ⟨rfl, hl, fun i hi => ⟨rfl, ok256_d hb i hi⟩⟩, fun j hj => ?_, ?_, h2, fun i hi j hj => ?_⟩
  · rw [hg 1 (by decide) (by decide)]
    exact hZ j hj
  · exact h1
  · rw [hg 4 (by decide) (by decide)]
    exact h3 i hi j hj
theorem z_writePile {cap : Nat} {x : Int32} (hN : 20 ≤ N) (hcap : cap ≤ 70) (h : PZ μ t Z hs) : Ok (fX10_writePile N cap t μ 0 x) (fun r => PZ r.1.1 r.1.2.2 Z hs ∧ r.1.2.1 ≤ 70 ∧ SqT Z hs (wpA Z t x) Z hs r.1.2.2 r.2) := by
  have hs9 := SIp_z h.si
  have h5 := hs9.2.2.2.2.2.1
  have h1 := hs9.2.2.2.2.1
  unfold fX10_writePile
  rcases k_existing (N := N) (x := x) (h.rc.1.1.2.1.trans h1) h5 with ⟨hx, e1⟩ | ⟨e, he, rfl, hx, e1⟩
  · refine ok_tbSL e1 ⟨h, hcap, rfl, rfl, ?_, ?_⟩
    · unfold wpA; rw [if_neg (by rw [hx]; decide)]
    · unfold wpA; rw [if_neg (by rw [hx]; decide)]
  · have hX := SI_ex_z h.si he
    have hp := hX.2.2.2.2.2.1
    refine ok_tbSR e1 ?_
    refine (k_pileC hN hp (cP_of (h.rc.2 e (by omega)) hX) hcap).mono ?_
    rintro _ ⟨c', hc', rfl⟩
    have hl := pL_len hp 16 (by omega)
    refine ⟨z_out (t' := pL (pZ Z e) 16) h (by omega) (pL_256 hp 16 (by omega)), hc', rfl, rfl, ?_, ?_⟩
    · unfold wpA; rw [if_pos hx, tn_nI (by omega)]
    · unfold wpA; rw [if_pos hx, tn_nI (by omega)]
noncomputable def wwL (Z : Nat → Int32) (a b : Nat) : List Nat := (wL (wy (nZ Z) (mZ Z) (dZ Z b) a) (dZ Z b a % 8 + 1) ++ [61]) ++ dsN (dZ Z b a / 8)
/-- what writeWay leaves and answers -/
noncomputable def wwA (Z : Nat → Int32) (t : List Nat) (x y : Int32) : List Nat × (Nat ⊕ Int32) := if (idx (nZ Z) x && idx (nZ Z) y) = true then (if dZ Z (tn y) (tn x) = cFA then (t, .inl 3) else (wwL Z (tn x) (tn y), .inr (nI (wwL Z (tn x) (tn y)).length))) else (t, .inl 0)
theorem z_writeWay {cap : Nat} {x y : Int32} (hN : 1200000000000 ≤ N) (hcap : cap ≤ 70) (h : PZ μ t Z hs) : Ok (fX10_writeWay N cap t μ 0 x y) (fun r => PZ r.1.1 r.1.2.2 Z hs ∧ r.1.2.1 ≤ 70 ∧ SqT Z hs (wwA Z t x y) Z hs r.1.2.2 r.2) := by
  have hs9 := SIp_z h.si
  have hn := hs9.2.1.1
  unfold fX10_writeWay
  rw [k_pairFault (h.rc.1.1.1.trans hs9.1) hn, bS]
  cases hxy : (idx (nZ Z) x && idx (nZ Z) y)
  · refine ok_tbSL (e := 0) (μ := μ) rfl ⟨h, hcap, rfl, rfl, ?_, ?_⟩
    · unfold wwA; rw [if_neg (by rw [hxy]; decide)]
    · unfold wwA; rw [if_neg (by rw [hxy]; decide)]
  · have hxy2 := hxy
    rw [Bool.and_eq_true] at hxy2
    obtain ⟨a, ha, rfl⟩ := idx_t.mp hxy2.1
    obtain ⟨b, hb, rfl⟩ := idx_t.mp hxy2.2
    refine ok_tbSR (a := ()) (μ := μ) rfl ?_
    refine ok_bind (way_z hN h ha hb) ?_
    rintro ⟨m, f⟩ ⟨hR, hC, hor⟩
    dsimp only at hR hor
    rcases hor with ⟨c1, rfl⟩ | ⟨c1, rfl, hw⟩
    · refine ok_tbSL (e := 3) (μ := m) rfl ⟨hR, hcap, rfl, rfl, ?_, ?_⟩
      · unfold wwA; rw [if_pos hxy, tn_nI (by omega), tn_nI (by omega), if_pos c1]
      · unfold wwA; rw [if_pos hxy, tn_nI (by omega), tn_nI (by omega), if_pos c1]
    · have h8 := dZ_8 hs9 hb
      have hS5 := (d8_lex h8 hb ha c1).2
      have hwy := wy_ok hs9.2.1 h8 hb ha c1
      have hd48 := (h8.2.2 a ha).2 c1
      have hW10 : ∀ i, i ≤ dZ Z b a % 8 → wy (nZ Z) (mZ Z) (dZ Z b) a i < 10 := fun i hi => by have := (hwy i hi).1; omega
      refine ok_tbSR (a := ()) (μ := m) rfl ?_
      refine (k_wayC (k := dZ Z b a % 8) (v := dZ Z b a / 8) (W := wy (nZ Z) (mZ Z) (dZ Z b) a) (by omega) hS5 (by omega) hW10 hw.1 hw.2.1 hw.2.2 hcap).mono ?_
      rintro _ ⟨c', hc', rfl⟩
      have hl := wL_len (W := wy (nZ Z) (mZ Z) (dZ Z b) a) (dZ Z b a % 8 + 1) (fun j hj => hW10 j (by omega))
      have hd := dsN_len (dZ Z b a / 8) (by omega)
      have h61 : ([61] : List Nat).length = 1 := rfl
      have h61b : ok256 [61] := fun x hx => by
        have := List.mem_singleton.mp hx
        omega
      refine ⟨z_out (t' := (wL (wy (nZ Z) (mZ Z) (dZ Z b) a) (dZ Z b a % 8 + 1) ++ [61]) ++ dsN (dZ Z b a / 8)) hR (by rw [List.length_append, List.length_append]; omega) (ok256_app (ok256_app (wL_256 _ (fun j hj => hW10 j (by omega))) h61b) (dsN_256 _ (by omega))), hc', rfl, rfl, ?_, ?_⟩
      · unfold wwA; rw [if_pos hxy, tn_nI (by omega), tn_nI (by omega), if_neg (by omega)]; rfl
      · unfold wwA; rw [if_pos hxy, tn_nI (by omega), tn_nI (by omega), if_neg (by omega)]; rfl
theorem wpA_l {x : Int32} {k : Nat} (h : (wpA Z t x).2 = .inl k) : k = 0 := by
  unfold wpA at h; split at h <;> cases h; rfl
theorem wwA_l {x y : Int32} {k : Nat} (h : (wwA Z t x y).2 = .inl k) : k = 0 ∨ k = 3 := by
  unfold wwA at h
  split at h
  · split at h <;> cases h
    exact Or.inr rfl
  · cases h; exact Or.inl rfl
end WOUT
noncomputable def wL_writePile (Z : Nat → Int32) (t : List Nat) (x : Int32) : Int32 := wr [(0, (-11))] (wpA Z t x).2
noncomputable def wL_writeWay (Z : Nat → Int32) (t : List Nat) (x y : Int32) : Int32 := wr [(0, (-11)), (3, (-13))] (wwA Z t x y).2
theorem mq_writePile {l : Launch} {s0 : State} {b B : Nat} {D : va_G} {T : Nat → ClassId} (F : FX l s0 b D T B) {X : Nat → Prop} (hX : ∀ o, o < 561 → ¬ X (B + o)) {N : Nat} (hN : 1200000000000 ≤ N) {Z : Nat → Int32} {hs : List (Nat → Int32)} {t : List Nat} {x1 : Int32} : gMetR l yL_writePile cL_writePile 3 hhL_writePile rmL_writePile [.ref (B + 0), .int x1] (gZ s0 D T B X Z hs t) (KC s0 X) (gRS s0 D T B X (SqT Z hs (wpA Z t x1)) (wr [(0, (-11))])) (gA B X) 36 10506 :=
  metL_writePile (N := N) F hX (S := SqT Z hs (wpA Z t x1)) (dcN_ok (by omega)) (fun μ cap hc hP => z_writePile (by omega) hc hP) (fun Z2 hs2 t2 k h9 => wpA_l h9.2.2.2)
theorem mq_writeWay {l : Launch} {s0 : State} {b B : Nat} {D : va_G} {T : Nat → ClassId} (F : FX l s0 b D T B) {X : Nat → Prop} (hX : ∀ o, o < 561 → ¬ X (B + o)) {N : Nat} (hN : 1200000000000 ≤ N) {Z : Nat → Int32} {hs : List (Nat → Int32)} {t : List Nat} {x1 x2 : Int32} : gMetR l yL_writeWay cL_writeWay 4 hhL_writeWay rmL_writeWay [.ref (B + 0), .int x1, .int x2] (gZ s0 D T B X Z hs t) (KC s0 X) (gRS s0 D T B X (SqT Z hs (wwA Z t x1 x2)) (wr [(0, (-11)), (3, (-13))])) (gA B X) 21 5712 :=
  metL_writeWay (N := N) F hX (S := SqT Z hs (wwA Z t x1 x2)) (dcN_ok (by omega)) (fun μ cap hc hP => z_writeWay hN hc hP) (fun Z2 hs2 t2 k h9 => wwA_l h9.2.2.2)
