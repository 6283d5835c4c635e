/-! Pure layer, 48: what is written, on both sides. -/
def dsN (v : Nat) : List Nat := (List.range (sb_dg v)).map (sb_dec v)
theorem dsN_1 : ∀ v, v < 10 → dsN v = [48 + v] := by decide +kernel
theorem dsN_s : ∀ v, v < 1000 → 10 ≤ v → dsN v = dsN (v / 10) ++ [48 + v % 10] := by decide +kernel
theorem dsN_len : ∀ v, v < 1000 → (dsN v).length ≤ 3 := by decide +kernel
theorem dsN_len1 : ∀ v, v < 10 → (dsN v).length = 1 := by decide +kernel
theorem dcN_nI {v : Nat} (hv : v < 2 ^ 31) : dcN (nI v) = some (dsN v) := by
  unfold dcN dsN
  rw [if_neg (nI_pos hv), nI_clamp hv]
theorem nar_C9 : ∀ c, c < 256 → vp_nar .char (((nI c).toUInt32 % 65536).toInt32) = nI c := by decide +kernel
section OU
variable {N : Nat} {μ ν : Mem} {a0 n ec : Nat} {t : List Nat}
def OUT (ν : Mem) (a0 : Nat) (t : List Nat) : Prop := ν a0 15 = nI t.length ∧ t.length ≤ 40 ∧ ∀ i, i < t.length → ν (a0 + 9) i = nI (t.getD i 0) ∧ t.getD i 0 < 256
theorem RR.out {t' : List Nat} {w : Mem} (h : RR μ ν a0 t) (hf : frm (fun q => q = a0 ∨ q = a0 + 9) ν w) (hs : ∀ j, j ≠ 15 → w a0 j = ν a0 j) (ho : OUT w a0 t') : RR μ w a0 t' := by
  obtain ⟨h1, h2, ⟨f, c, h3⟩, ⟨⟨s1, s2, s3, s4⟩, ⟨r, r1, r2, r3, r4⟩, ⟨p1, p2, p3, p4⟩, ⟨L, l1, l2, l3, l4⟩, g, -⟩⟩ := h
  refine ⟨by rw [hf _ (by omega)]; exact h1, by rw [hf _ (by omega)]; exact h2, ⟨f, c, h3.mv (fun _ _ _ => rfl) (hs _ (by decide)) (hf _ (by omega))⟩, ⟨?_, s2, ?_, ?_⟩, ⟨r, r1, r2, ?_, ?_⟩, ⟨?_, ?_, p3, p4⟩, ⟨L, l1, l2, ?_, fun i hi => ?_⟩, g, ho⟩
  · rw [hs _ (by decide)]; exact s1
  · rw [hf _ (by omega)]; exact s3
  · rw [hf _ (by omega)]; exact s4
  · rw [hs _ (by decide)]; exact r3
  · rw [hs _ (by decide)]; exact r4
  · rw [hs _ (by decide)]; exact p1
  · rw [hs _ (by decide)]; exact p2
  · rw [hs _ (by decide)]; exact l3
  · obtain ⟨ch, c1, c2, c3⟩ := l4 i hi
    exact ⟨ch, c1, c2, by rw [hf _ (by omega)]; exact c3⟩
/-- while the reference says something -/
def SY (ν w : Mem) (a0 : Nat) (t : List Nat) : Prop := OUT w a0 t ∧ frm (fun q => q = a0 ∨ q = a0 + 9) ν w ∧ ∀ j, j ≠ 15 → w a0 j = ν a0 j
theorem k_says {w : Mem} {x : Int32} {c : Nat} (h : SY ν w a0 t) (hl : t.length < 40) (hc : c < 256) (hx : x = nI c) : Ok (fX11_says N w a0 x) (fun m => SY ν m a0 (t ++ [c])) := by
  subst hx
  obtain ⟨⟨o1, o2, o3⟩, hf, hs⟩ := h
  unfold fX11_says
  rw [o1, nar_C9 c hc]
  refine ok_aw t.length rfl hl (by decide) ?_
  refine ok_lt (ok_some ?_)
  have hla : (t ++ [c]).length = t.length + 1 := by rw [List.length_append]; rfl
  refine ⟨⟨?_, by omega, fun i hi => ?_⟩, frm.set (X := fun q => q = a0 ∨ q = a0 + 9) (frm.set (X := fun q => q = a0 ∨ q = a0 + 9) hf (Or.inr rfl) _ _) (Or.inl rfl) _ _, fun j hj => ?_⟩
  · rw [mset_at, mset_ne _ _ _ _ (by omega), o1, hla, nI_1]
  · rw [mset_ne _ _ _ _ (by omega)]
    by_cases e : i = t.length
    · subst e
      rw [mset_at, gd_last]
      exact ⟨rfl, hc⟩
    · rw [mset_sl _ _ _ _ e, gd_front _ _ _ (by omega)]
      exact o3 i (by omega)
  · rw [mset_sl _ _ _ _ hj, mset_ne _ _ _ _ (by omega)]; exact hs j hj
theorem k_saysNumber : ∀ (d v : Nat) (w : Mem) (t : List Nat), 1 ≤ d → v < 1000 → v < 10 ^ d → t.length ≤ 37 → SY ν w a0 t → Ok (fX11_saysNumber N d w a0 (nI v)) (fun m => SY ν m a0 (t ++ dsN v))
  | 0, _, _, _, h0, _, _, _, _ => absurd h0 (by decide)
  | d + 1, v, w, t, _, h1, h2, h3, hS => by
    unfold fX11_saysNumber
    have hrem : (48 : Int32) + (nI v - nI v / 10 * 10) = nI (48 + v % 10) := by
      rw [show (48 : Int32) = nI 48 from rfl, ← nI_add]
      exact congrArg _ (pk_rem (d := 10) (by omega) (by decide) (by decide))
    refine ok_jn1 (fun m : Mem => ∃ t', SY ν m a0 t' ∧ t'.length < 40 ∧ t' ++ [48 + v % 10] = t ++ dsN v) (fun m hm => ?_) (fun j2 hj2 => ?_)
    · obtain ⟨t', hm1, hm2, hm3⟩ := hm
      refine ok_bind (k_says hm1 hm2 (show 48 + v % 10 < 256 by omega) hrem) ?_
      intro m2 h2
      rw [hm3] at h2
      exact ok_some h2
    · refine ok_le v 9 (f := fun hc => hj2 w ⟨t, hS, by omega, ?_⟩) (g := fun hc => ?_)
      · rw [dsN_1 v (by omega), Nat.mod_eq_of_lt (by omega)]
      · have hdiv : nI v / 10 = nI (v / 10) := pk_div (d := 10) (by omega) (by decide) (by decide)
        rw [hdiv]
        have hlt : v / 10 < 10 ^ d := by
          have : v < 10 ^ d * 10 := h2
          omega
        refine ok_bind (k_saysNumber d (v / 10) w t ?_ (by omega) hlt h3 hS) ?_
        · cases d with
          | zero => exact absurd h2 (by omega)
          | succ d => omega
        intro m hm
        have hle : (dsN (v / 10)).length ≤ 2 := by
          have e := dsN_s v h1 (by omega)
          have := dsN_len v h1
          rw [e, List.length_append] at this
          have h1' : ([48 + v % 10] : List Nat).length = 1 := rfl
          omega
        refine hj2 m ⟨_, hm, by rw [List.length_append]; omega, ?_⟩
        rw [List.append_assoc, ← dsN_s v h1 (by omega)]
theorem sb_cap70 {q m : Nat} (hq : q ≤ 35) (hm : m ≤ 70) : sb_cap q m ≤ 70 := by
  unfold sb_cap
  repeat' split
  all_goals omega
/-- the letters of a pile -/
def pL (p : Nat → Nat) : Nat → List Nat
  | 0 => []
  | i + 1 => (if 0 < i ∧ i % 4 = 0 then pL p i ++ [47] else pL p i) ++ dsN (p i)
theorem pL_len {p : Nat → Nat} (hp : stab p) : ∀ i, i ≤ 16 → (pL p i).length ≤ 2 * i
  | 0, _ => Nat.le_refl _
  | i + 1, hi => by
    have ih := pL_len hp i (by omega)
    have h1 := dsN_len1 (p i) (by have := hp i (by omega); omega)
    have h47 : ([47] : List Nat).length = 1 := rfl
    show ((if 0 < i ∧ i % 4 = 0 then pL p i ++ [47] else pL p i) ++ dsN (p i)).length ≤ _
    rw [List.length_append]
    split
    · rw [List.length_append]; omega
    · omega
theorem ok_tbSL {A O : Type} {cap : Nat} {t : List Nat} {μ : Mem} {e : Nat} {x : Option (Mem × (Nat ⊕ A))} {k : Mem → A → Option ((Mem × Nat × List Nat) × (Nat ⊕ O))} {P : (Mem × Nat × List Nat) × (Nat ⊕ O) → Prop} (hx : x = some (μ, .inl e)) (h : P ((μ, cap, t), .inl e)) : Ok (tbS cap t x k) P := by subst hx; exact ⟨_, rfl, h⟩
theorem ok_tbSR {A O : Type} {cap : Nat} {t : List Nat} {μ : Mem} {a : A} {x : Option (Mem × (Nat ⊕ A))} {k : Mem → A → Option ((Mem × Nat × List Nat) × (Nat ⊕ O))} {P : (Mem × Nat × List Nat) × (Nat ⊕ O) → Prop} (hx : x = some (μ, .inr a)) (h : Ok (k μ a) P) : Ok (tbS cap t x k) P := by subst hx; exact h
theorem k_pileC {cap : Nat} {o : Nat} {p : Nat → Nat} (hN : 20 ≤ N) (hp : stab p) (h : ArN μ (o + 1) 16 p) (hcap : cap ≤ 70) : Ok (fix4 (fun self10 (x6 : Int32) (κ7 : Nat) (cap8 : Nat) (t9 : List Nat) =>
  gd (κ7 < 17) <|
  (if 16 ≤ x6 then
  (some ((μ, cap8, t9), (.inr (nI t9.length) : Nat ⊕ Int32)))
  else (jn (fun (cap14 : Nat) (t15 : List Nat) =>
  ag (μ (o + 1)) 16 x6 fun v19 =>
  (dcN v19).bind fun ds23 =>
  gd ((sb_cap (t15.length + ds23.length) cap14) ≤ 300) <|
  lt (x6 + 1) fun v25 =>
  self10 v25 (κ7 + 1) (sb_cap (t15.length + ds23.length) cap14) (t15 ++ ds23)) fun j16 =>
  if x6 ≤ 0 then
  (j16 cap8 t9)
  else (if (x6 - x6 / 4 * 4) = 0 then
  (gd ((sb_cap (t9.length + 1) cap8) ≤ 300) <|
  j16 (sb_cap (t9.length + 1) cap8) (t9 ++ [47]))
  else (j16 cap8 t9))))) N 0 0 cap ([])) (fun r => ∃ c', c' ≤ 70 ∧ r = ((μ, c', pL p 16), .inr (nI (pL p 16).length))) := by
  refine ok_fix4 (fun kk x κ c tt => ∃ i, i + kk = 16 ∧ x = nI i ∧ κ = i ∧ c ≤ 70 ∧ tt = pL p i) ?_ N 16 _ _ _ _ (by omega) ⟨0, rfl, rfl, rfl, hcap, rfl⟩
  rintro kk self x κ c tt ⟨i, hi, rfl, rfl, hc, rfl⟩ hs
  refine ok_gd (by omega) ?_
  refine ok_le 16 κ (f := fun hz => ?_) (g := fun hz => ?_)
  · have : κ = 16 := by omega
    subst this
    exact ok_some ⟨c, hc, rfl⟩
  · have hl := pL_len hp κ (by omega)
    have hp3 := hp κ hz
    have h1 := dsN_len1 (p κ) (by omega)
    have h47 : ([47] : List Nat).length = 1 := rfl
    refine ok_jn2 (fun (c14 : Nat) (t15 : List Nat) => c14 ≤ 70 ∧ t15 = (if 0 < κ ∧ κ % 4 = 0 then pL p κ ++ [47] else pL p κ)) ?_ ?_
    · rintro c14 t15 ⟨hc14, ht⟩
      have hlt : t15.length ≤ 33 := by
        rw [ht]
        split
        · rw [List.length_append]; omega
        · omega
      refine ok_ag κ rfl hz (by decide) ?_
      rw [h κ hz, dcN_nI (by omega), bS]
      have h70 := sb_cap70 (q := t15.length + (dsN (p κ)).length) (m := c14) (by omega) hc14
      refine ok_gd (by omega) ?_
      refine ok_lt ?_
      exact hs (kk - 1) _ _ _ _ (by omega) ⟨κ + 1, by omega, nI_1 _, rfl, h70, by rw [ht]; rfl⟩
    · intro j hj
      refine ok_le κ 0 (f := fun h0 => hj _ _ ⟨hc, by rw [if_neg (by omega)]⟩) (g := fun h0 => ?_)
      have hrem : nI κ - nI κ / 4 * 4 = nI (κ % 4) := pk_rem (d := 4) (by omega) (by decide) (by decide)
      rw [hrem]
      refine ok_eqI (κ % 4) 0 (f := fun h4 => ?_) (g := fun h4 => hj _ _ ⟨hc, by rw [if_neg (fun z => h4 z.2)]⟩)
      have h70 := sb_cap70 (q := (pL p κ).length + 1) (m := c) (by omega) hc
      refine ok_gd (by omega) ?_
      exact hj _ _ ⟨h70, by rw [if_pos ⟨h0, h4⟩]⟩
theorem q_writePile {cap : Nat} {x : Int32} (hN : 20 ≤ N) (hcap : cap ≤ 70) (h : RR μ ν a0 t) : Ok (fX10_writePile N cap t μ 0 x) (fun r => Ok (fX11_writePile N ν a0 x) (fun r' => RR r.1.1 r'.1 a0 r.1.2.2 ∧ r.1.2.1 ≤ 70 ∧ Sm [0] r.2 r'.1 a0 r'.2)) := by
  have hh := h
  obtain ⟨n, ec, mn, ht, hs⟩ := h.2.1
  have h5 := hs.2.2.2.2.2.1
  have h1 := hs.2.2.2.2.1
  unfold fX10_writePile
  rcases k_existing (N := N) (x := x) (h.1.1.1.2.1.trans h1) h5 with ⟨hx, e1⟩ | ⟨e, he, rfl, hx, e1⟩
  · refine ok_tbSL e1 ?_
    unfold fX11_writePile
    rw [m_isExhibit h1 h5, bS, hx, m_isThere, bS]
    exact ok_some ⟨h.th _, hcap, Or.inr ⟨0, 0, rfl, rfl, mset_at _ _ _ _⟩⟩
  · obtain ⟨r, l, p, q, fi, la, fe, le, hX⟩ := hs.2.2.2.2.2.2.1 e he
    have hp := hX.2.2.2.2.2.1
    refine ok_tbSR e1 ?_
    refine (k_pileC hN hp (cP_of (h.1.2 e (by omega)) hX) hcap).mono ?_
    rintro _ ⟨c', hc', rfl⟩
    unfold fX11_writePile
    rw [m_isExhibit h1 h5, bS, hx, m_isThere, bS]
    refine ok_cdT rfl ?_
    refine ok_lt ?_
    dsimp only
    have hR := h.th (nI (!true).toNat)
    have hpm : mP (mset ν a0 6 (nI (!true).toNat)) a0 e p := fun i hi => by rw [mset_ne _ _ _ _ (by omega)]; exact mP_of hX i hi
    have h6 : mset ν a0 6 (nI (!true).toNat) a0 6 = 0 := mset_at _ _ _ _
    generalize hν : mset ν a0 6 (nI (!true).toNat) = ν1 at *
    have hS0 : SY ν1 (mset ν1 a0 15 0) a0 [] := ⟨⟨mset_at _ _ _ _, by decide, fun i hi => absurd hi (Nat.not_lt_zero _)⟩, frm.set (X := fun q => q = a0 ∨ q = a0 + 9) frm.rf (Or.inl rfl) _ _, fun j hj => mset_sl _ _ _ _ hj⟩
    refine ok_fix2 (fun kk x6 m7 => ∃ i, i + kk = 16 ∧ x6 = nI i ∧ SY ν1 m7 a0 (pL p i)) ?_ N 16 _ _ (by omega) ⟨0, rfl, rfl, hS0⟩
    rintro kk self x6 m7 ⟨i, hi, rfl, hS⟩ hs1
    refine ok_le 16 i (f := fun hz => ?_) (g := fun hz => ?_)
    · have : i = 16 := by omega
      subst this
      refine ok_some ⟨hR.out hS.2.1 hS.2.2 hS.1, hc', Or.inl ⟨_, rfl, ?_, hS.1.1⟩⟩
      dsimp only
      rw [hS.2.2 6 (by decide)]; exact h6
    · have hl := pL_len hp i (by omega)
      have hp3 := hp i hz
      have h1' := dsN_len1 (p i) (by omega)
      have h47 : ([47] : List Nat).length = 1 := rfl
      refine ok_jn1 (fun m11 : Mem => SY ν1 m11 a0 (if 0 < i ∧ i % 4 = 0 then pL p i ++ [47] else pL p i)) (fun m11 h11 => ?_) (fun j hj => ?_)
      · refine ok_bindE (m_of e (7 + i) (by omega) (by omega) rfl (l7 i)) ?_
        rw [h11.2.1 _ (by omega), hpm i hz]
        refine ok_bind (k_saysNumber 12 (p i) m11 _ (by decide) (by omega) (Nat.lt_of_le_of_lt hp3 (by decide)) ?_ h11) ?_
        · split
          · rw [List.length_append]; omega
          · omega
        · intro m hm
          exact ok_lt (hs1 (kk - 1) _ _ (by omega) ⟨i + 1, by omega, nI_1 _, hm⟩)
      · refine ok_le i 0 (f := fun h0 => hj _ (by rw [if_neg (by omega)]; exact hS)) (g := fun h0 => ?_)
        have hrem : nI i - nI i / 4 * 4 = nI (i % 4) := pk_rem (d := 4) (by omega) (by decide) (by decide)
        rw [hrem]
        refine ok_eqI (i % 4) 0 (f := fun h4 => ?_) (g := fun h4 => hj _ (by rw [if_neg (fun z => h4 z.2)]; exact hS))
        refine ok_bind (k_says (c := 47) hS (by omega) (by decide) rfl) ?_
        intro m hm
        exact hj _ (by rw [if_pos ⟨h0, h4⟩]; exact hm)
/-- the letters of a way -/
def wL (W : Nat → Nat) : Nat → List Nat
  | 0 => []
  | i + 1 => (if 0 < i then wL W i ++ [62] else wL W i) ++ dsN (W i)
theorem wL_len {W : Nat → Nat} : ∀ i, (∀ j, j < i → W j < 10) → (wL W i).length ≤ 2 * i
  | 0, _ => Nat.le_refl _
  | i + 1, hW => by
    have ih := wL_len (W := W) i (fun j hj => hW j (by omega))
    have h1 := dsN_len1 (W i) (hW i (by omega))
    have h62 : ([62] : List Nat).length = 1 := rfl
    show ((if 0 < i then wL W i ++ [62] else wL W i) ++ dsN (W i)).length ≤ _
    rw [List.length_append]
    split
    · rw [List.length_append]; omega
    · omega
theorem k_wayC {cap k v : Nat} {W : Nat → Nat} (hN : 20 ≤ N) (hk : k ≤ 5) (hv : v < 1000) (hW : ∀ i, i ≤ k → W i < 10) (h1 : μ 520 1 = nI (k + 1)) (h2 : μ 520 2 = nI v) (hw : ∀ i, i ≤ k → μ (520 + 1) i = nI (W i)) (hcap : cap ≤ 70) : Ok (fix4 (fun self15 (x11 : Int32) (κ12 : Nat) (cap13 : Nat) (t14 : List Nat) =>
  gd (κ12 < 8) <|
  (if (μ 520 1) ≤ x11 then
  (gd ((sb_cap (t14.length + 1) cap13) ≤ 300) <|
  (dcN (μ 520 2)).bind fun ds21 =>
  gd ((sb_cap ((t14 ++ [61]).length + ds21.length) (sb_cap (t14.length + 1) cap13)) ≤ 300) <|
  some ((μ, (sb_cap ((t14 ++ [61]).length + ds21.length) (sb_cap (t14.length + 1) cap13)), ((t14 ++ [61]) ++ ds21)), (.inr (nI ((t14 ++ [61]) ++ ds21).length) : Nat ⊕ Int32)))
  else (jn (fun (cap23 : Nat) (t24 : List Nat) =>
  ag (μ (520 + 1)) 6 x11 fun v28 =>
  (dcN v28).bind fun ds32 =>
  gd ((sb_cap (t24.length + ds32.length) cap23) ≤ 300) <|
  lt (x11 + 1) fun v34 =>
  self15 v34 (κ12 + 1) (sb_cap (t24.length + ds32.length) cap23) (t24 ++ ds32)) fun j25 =>
  if x11 ≤ 0 then
  (j25 cap13 t14)
  else (gd ((sb_cap (t14.length + 1) cap13) ≤ 300) <|
  j25 (sb_cap (t14.length + 1) cap13) (t14 ++ [62]))))) N 0 0 cap ([])) (fun r => ∃ c', c' ≤ 70 ∧ r = ((μ, c', (wL W (k + 1) ++ [61]) ++ dsN v), .inr (nI ((wL W (k + 1) ++ [61]) ++ dsN v).length))) := by
  refine ok_fix4 (fun kk x κ c tt => ∃ i, i + kk = k + 1 ∧ x = nI i ∧ κ = i ∧ c ≤ 70 ∧ tt = wL W i) ?_ N (k + 1) _ _ _ _ (by omega) ⟨0, by omega, rfl, rfl, hcap, rfl⟩
  rintro kk self x κ c tt ⟨i, hi, rfl, rfl, hc, rfl⟩ hs
  have hl := wL_len (W := W) κ (fun j hj => hW j (by omega))
  have h61 : ([61] : List Nat).length = 1 := rfl
  have h62 : ([62] : List Nat).length = 1 := rfl
  have h70 := sb_cap70 (q := (wL W κ).length + 1) (m := c) (by omega) hc
  refine ok_gd (by omega) ?_
  rw [h1]
  refine ok_le (k + 1) κ (f := fun hz => ?_) (g := fun hz => ?_)
  · have : κ = k + 1 := by omega
    subst this
    refine ok_gd (by omega) ?_
    rw [h2, dcN_nI (by omega), bS]
    have h3 := dsN_len v hv
    have hq : (wL W (k + 1) ++ [61]).length + (dsN v).length ≤ 35 := by
      rw [List.length_append]; omega
    have h71 := sb_cap70 (m := sb_cap ((wL W (k + 1)).length + 1) c) hq h70
    refine ok_gd (by omega) ?_
    exact ok_some ⟨_, h71, rfl⟩
  · have hWk := hW κ (by omega)
    have hd1 := dsN_len1 (W κ) hWk
    refine ok_jn2 (fun (c14 : Nat) (t15 : List Nat) => c14 ≤ 70 ∧ t15 = (if 0 < κ then wL W κ ++ [62] else wL W κ)) ?_ ?_
    · rintro c14 t15 ⟨hc14, ht⟩
      have hlt : t15.length ≤ 33 := by
        rw [ht]
        split
        · rw [List.length_append]; omega
        · omega
      refine ok_ag κ rfl (by omega) (by decide) ?_
      rw [hw κ (by omega), dcN_nI (by omega), bS]
      have h72 := sb_cap70 (q := t15.length + (dsN (W κ)).length) (m := c14) (by omega) hc14
      refine ok_gd (by omega) ?_
      refine ok_lt ?_
      exact hs (kk - 1) _ _ _ _ (by omega) ⟨κ + 1, by omega, nI_1 _, rfl, h72, by rw [ht]; rfl⟩
    · intro j hj
      refine ok_le κ 0 (f := fun h0 => hj _ _ ⟨hc, by rw [if_neg (by omega)]⟩) (g := fun h0 => ?_)
      refine ok_gd (by omega) ?_
      exact hj _ _ ⟨h70, by rw [if_pos h0]⟩
theorem q_writeWay {cap : Nat} {x y : Int32} (hN : 1200000000000 ≤ N) (hcap : cap ≤ 70) (h : RR μ ν a0 t) : Ok (fX10_writeWay N cap t μ 0 x y) (fun r => Ok (fX11_writeWay N ν a0 x y) (fun r' => RR r.1.1 r'.1 a0 r.1.2.2 ∧ r.1.2.1 ≤ 70 ∧ Sm [0, 3] r.2 r'.1 a0 r'.2)) := by
  obtain ⟨n, ec, mn, ht, hs⟩ := h.2.1
  have hn := hs.2.1.1
  unfold fX10_writeWay
  rw [k_pairFault (h.1.1.1.1.trans hs.1) hn, bS]
  cases hxy : (idx n x && idx n y)
  · refine ok_tbSL (e := 0) (μ := μ) rfl ?_
    unfold fX11_writeWay
    refine ok_bind (asksWayM (x := x) (y := y) hN hs) ?_
    rintro r (⟨-, rfl⟩ | ⟨a, b, F, S, ha, hb, rfl, rfl, -⟩)
    · exact ok_some ⟨h.th _, hcap, Or.inr ⟨0, 0, rfl, rfl, mset_at _ _ _ _⟩⟩
    · rw [(idx_nI (by omega) (by omega)).mpr ha, (idx_nI (by omega) (by omega)).mpr hb] at hxy; cases hxy
  · rw [Bool.and_eq_true] at hxy
    obtain ⟨a, ha, rfl⟩ := idx_t.mp hxy.1
    obtain ⟨b, hb, rfl⟩ := idx_t.mp hxy.2
    refine ok_tbSR (a := ()) (μ := μ) rfl ?_
    refine ok_bind (wayBoth hN h hs ha hb rfl rfl) ?_
    rintro ⟨m, f⟩ ⟨⟨m', g⟩, ew, hR, hV, hC, hor⟩
    dsimp only at hR hV hC hor
    rcases hor with ⟨rfl, rfl, h6⟩ | ⟨rfl, rfl, h6, d, F, S, h8, hlt, hw, hW, hF, hS, hbd, q1, q2⟩
    · refine ok_tbSL (e := 3) (μ := m) rfl ?_
      unfold fX11_writeWay
      refine ok_bindE ew ?_
      exact ok_some ⟨hR, hcap, Or.inr ⟨1, 3, rfl, rfl, h6⟩⟩
    · have hS5 := (d8_lex h8 hb ha hlt).2
      have hwy := wy_ok hs.2.1 h8 hb ha hlt
      have hd48 := (h8.2.2 a ha).2 hlt
      refine ok_tbSR (a := ()) (μ := m) rfl ?_
      refine (k_wayC (k := d a % 8) (v := d a / 8) (W := wy n mn d a) (by omega) hS5 (by omega) (fun i hi => by have := (hwy i hi).1; omega) hw.1 hw.2.1 hw.2.2 hcap).mono ?_
      rintro _ ⟨c', hc', rfl⟩
      have hs2 : SIp (m' (a0 + 1)) n ec mn ht := by rw [hV]; exact hs
      unfold fX11_writeWay
      refine ok_bindE ew ?_
      refine ok_cdT rfl ?_
      refine ok_lt ?_
      dsimp only
      have hS0 : SY m' (mset m' a0 15 0) a0 [] := ⟨⟨mset_at _ _ _ _, by decide, fun i hi => absurd hi (Nat.not_lt_zero _)⟩, frm.set (X := fun q => q = a0 ∨ q = a0 + 9) frm.rf (Or.inl rfl) _ _, fun j hj => mset_sl _ _ _ _ hj⟩
      have hW10 : ∀ i, i ≤ d a % 8 → wy n mn d a i < 10 := fun i hi => by have := (hwy i hi).1; omega
      refine ok_bind (k_saysNumber 12 a _ _ (by decide) (by omega) (Nat.lt_of_lt_of_le (show a < 6 by omega) (by decide)) (by decide) hS0) ?_
      intro m5 hm5
      refine ok_fix2 (fun kk x6 m7 => ∃ i, i + kk = d a % 8 ∧ x6 = nI (wy n mn d a i) ∧ SY m' m7 a0 (wL (wy n mn d a) (i + 1))) ?_ N (d a % 8) _ _ (by omega) ⟨0, by omega, rfl, hm5⟩
      rintro kk self x6 m7 ⟨i, hi, rfl, hSy⟩ hs1
      obtain ⟨w1, w2, -, w4⟩ := hwy i (by omega)
      have hl := wL_len (W := wy n mn d a) (i + 1) (fun j hj => hW10 j (by omega))
      have h61 : ([61] : List Nat).length = 1 := rfl
      have h62 : ([62] : List Nat).length = 1 := rfl
      refine ok_eqI (wy n mn d a i) b (f := fun hz => ?_) (g := fun hz => ?_)
      · have hi2 := w4.mp hz
        rw [hi2] at hSy hl
        refine ok_bind (k_says (c := 61) hSy (by omega) (by decide) rfl) ?_
        intro m11 h11
        refine ok_ag a rfl (by omega) (by decide) ?_
        rw [h11.2.1 _ (by omega), hF a (by omega), q1]
        refine ok_bind (k_saysNumber 12 (d a / 8) m11 _ (by decide) (by omega) (Nat.lt_of_le_of_lt (show d a / 8 ≤ 600 by omega) (by decide)) (by rw [List.length_append]; omega) h11) ?_
        intro m15 h15
        refine ok_some ⟨hR.out h15.2.1 h15.2.2 h15.1, hc', Or.inl ⟨_, rfl, ?_, h15.1.1⟩⟩
        dsimp only
        rw [h15.2.2 6 (by decide)]; exact h6
      · have hi2 : i ≠ d a % 8 := fun zz => hz (w4.mpr zz)
        obtain ⟨w5, -⟩ := hwy (i + 1) (by omega)
        have mgo : ∀ w t', SY m' w a0 t' → mG w a0 n mn ht ∧ ArN w (a0 + 5) 6 F ∧ ArN w (a0 + 6) 6 S := fun w t' hSw => by
          refine ⟨(mG_of hs2).mv (fun j _ => by rw [hSw.2.1 _ (by omega)]), hF.mv (hSw.2.1 _ (by omega)), hS.mv (hSw.2.1 _ (by omega))⟩
        refine ok_bind (k_says (c := 62) hSy (by omega) (by decide) rfl) ?_
        intro m16 h16
        obtain ⟨g1, g2, g3⟩ := mgo _ _ h16
        refine ok_bind (k_next (by omega) hs.2.1 g1 hb h8 hW g2 g3 hbd w1 w2 hz) ?_
        rintro _ rfl
        have ewy : wy n mn d a (i + 1) = nx n mn d (wy n mn d a i) := rfl
        rw [← ewy]
        refine ok_bind (k_saysNumber 12 (wy n mn d a (i + 1)) m16 _ (by decide) (by omega) (Nat.lt_of_lt_of_le (show wy n mn d a (i + 1) < 6 by omega) (by decide)) (by rw [List.length_append]; omega) h16) ?_
        intro m18 h18
        obtain ⟨g4, g5, g6⟩ := mgo _ _ h18
        refine ok_bind (k_next (by omega) hs.2.1 g4 hb h8 hW g5 g6 hbd w1 w2 hz) ?_
        rintro _ rfl
        rw [← ewy]
        refine hs1 (kk - 1) _ _ (by omega) ⟨i + 1, by omega, rfl, ?_⟩
        show SY m' m18 a0 ((if 0 < i + 1 then wL (wy n mn d a) (i + 1) ++ [62] else wL (wy n mn d a) (i + 1)) ++ dsN (wy n mn d a (i + 1)))
        rw [if_pos (Nat.succ_pos _)]; exact h18
theorem q_outputCharacter {i : Int32} (h : RR μ ν a0 t) : Ok (fX11_outputCharacter N ν a0 i) (fun r' => RR μ r'.1 a0 t ∧ Sm [0] (if i < 0 ∨ t.length ≤ i.toNatClampNeg then .inl 0 else .inr (nI (t.getD i.toNatClampNeg 0)) : Nat ⊕ Int32) r'.1 a0 r'.2) := by
  obtain ⟨o1, o2, o3⟩ := h.2.2.2.2.2.2.2.2
  unfold fX11_outputCharacter
  rw [o1, k_inE, bS, m_isThere, bS]
  have hrg : decide (0 ≤ i ∧ i ≤ nI t.length - 1) = true ↔ ¬ (i < 0 ∨ t.length ≤ i.toNatClampNeg) := by
    have hsub : (nI t.length - 1).toInt = (t.length : Int) - 1 := pk_sub_toInt (b := 1) (by omega) (by decide)
    have h7 : i.toNatClampNeg = i.toInt.toNat := rfl
    rw [decide_eq_true_iff, Int32.le_iff_toInt_le, Int32.le_iff_toInt_le, Int32.lt_iff_toInt_lt, hsub, h7, show (0 : Int32).toInt = 0 from rfl]
    omega
  cases hb : decide (0 ≤ i ∧ i ≤ nI t.length - 1)
  · rw [hb] at hrg
    have hno : i < 0 ∨ t.length ≤ i.toNatClampNeg := Classical.byContradiction fun z => by have := hrg.mpr z; cases this
    rw [if_pos hno]
    refine ok_jn ?_
    refine ok_cdF rfl ?_
    refine ok_gd (by decide) ?_
    exact ok_some ⟨h.th _, Or.inr ⟨0, 0, rfl, rfl, mset_at _ _ _ _⟩⟩
  · rw [hb] at hrg
    have hyes := hrg.mp rfl
    rw [if_neg hyes]
    have hi0 : ¬ i < 0 := fun z => hyes (Or.inl z)
    have hil : i.toNatClampNeg < t.length := Nat.not_le.mp fun z => hyes (Or.inr z)
    obtain ⟨u1, u2⟩ := o3 _ hil
    refine ok_jn1 (fun y : Int32 => y = nI (t.getD i.toNatClampNeg 0)) (fun y hy => ?_) (fun j4 hj4 => ?_)
    · subst hy
      refine ok_gd (vp_char (by omega)) ?_
      exact ok_some ⟨h.th _, Or.inl ⟨_, rfl, mset_at _ _ _ _, rfl⟩⟩
    · refine ok_cdT rfl ?_
      refine ok_ag i.toNatClampNeg (nI_tn hi0).symm (by omega) (by decide) ?_
      dsimp only
      rw [mset_ne _ _ _ _ (by omega)]
      exact hj4 _ u1
end OU
