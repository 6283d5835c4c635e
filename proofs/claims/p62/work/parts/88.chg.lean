/-! Pure layer, 28: consistency; what a change does to the history. -/
section CH
variable {N : Nat} {μ ν : Mem} {a0 n ec : Nat} {mn ht : Nat → Nat → Nat} {t : List Nat}
theorem k_pileAgrees {r l q e : Nat} {p fi la fe le : Nat → Nat} {Y : Nat → Int32} (hN : 20000 ≤ N) (he : e < 5) (hE : RE μ (1 + 16 + 1 + 6 * e) Y) (hX : EXq n Y r l p q fi la fe le) : Ok (fX10_pileAgrees N μ 0 (1 + 16 + 1 + 6 * e)) (fun s => s.2 = true ∧ frm (fun q => 538 ≤ q ∧ q < 543) μ s.1) := by
  have hp := hX.2.2.2.2.2.1
  have hP := cP_of hE hX
  unfold fX10_pileAgrees
  refine ok_bind (k_countGrains (by omega) hP) ?_
  rintro _ rfl
  refine ok_lt (ok_jn (ok_jn ?_))
  refine ok_ifT ?_ ?_
  · rw [hE.1.2.2.1, hE.1.2.2.2.1, hE.1.2.2.2.2.1]
    exact hX.2.2.2.2.2.2.2.2.2.2
  · refine ok_bind (k_burnsWhole (a0 := 538) (by omega) (by omega) hP hp) ?_
    rintro ⟨m1, b1⟩ ⟨hb1, hf1⟩
    dsimp only at hb1 hf1
    have hP1 : ArN m1 (1 + 16 + 1 + 6 * e + 1) 16 p := hP.mv (hf1 _ (by omega))
    refine ok_bind (k_topplesOnceEach (a0 := 538) (by omega) (by omega) hP1 hp) ?_
    rintro ⟨m2, b2⟩ ⟨hb2, hf2⟩
    dsimp only at hb2 hf2
    have hP2 : ArN m2 (1 + 16 + 1 + 6 * e + 1) 16 p := hP1.mv (hf2 _ (by omega))
    refine ok_ifT (by dsimp only; rw [bool_iff hb1 hb2]) ?_
    refine ok_bind (k_slopeByRecursion (by omega) hP2 hp) ?_
    rintro _ rfl
    refine ok_bind (k_slopeFromFewest (a0 := 538) (by omega) (by omega) hP2 hp) ?_
    rintro ⟨m3, v3⟩ ⟨hv3, hf3⟩
    dsimp only at hv3 hf3
    refine ok_ifT hv3.symm ?_
    exact ok_some ⟨rfl, ((hf1.mono (fun q hq => by omega)).tr (hf2.mono (fun q hq => by omega))).tr (hf3.mono (fun q hq => by omega))⟩
theorem q_isConsistent (hN : 1200000000000 ≤ N) (h : RR μ ν a0 t) : Ok (fX10_isConsistent N μ 0) (fun r => Ok (fX11_isConsistent N ν a0) (fun r' => RR r.1 r'.1 a0 t ∧ r'.2 = r.2)) := by
  obtain ⟨n, ec, mn, ht, hs⟩ := h.2.1
  have h5 := hs.2.2.2.2.2.1
  have h0 := h.2.2.2.2.2.2.2.1
  unfold fX10_isConsistent
  refine ok_fix3 (fun k x1 x m => ∃ i, i + k = ec ∧ x1 = true ∧ x = nI i ∧ frm (fun q => 520 ≤ q ∧ q < 546) μ m ∧ m (543 + 2) 0 = 0) ?_ N ec _ _ _ (by omega) ⟨0, by omega, rfl, rfl, frm.rf, h0⟩
  rintro k self x1 x m ⟨i, hi, rfl, rfl, hf, hm0⟩ hs1
  have hRC : RC m 1 (ν (a0 + 1)) := h.1.mv (fun q h1 h2 => hf q (by omega)) (fun _ _ => rfl)
  rw [hRC.1.1.2.1, hs.2.2.2.2.1]
  refine ok_le ec i (f := fun hc => ?_) (g := fun hc => ?_)
  · refine ok_jn (ok_jn ?_)
    refine ok_cdT rfl ?_
    refine ok_bind (k_minutesAgree hN hs.2.1 (cG_of hRC hs)) ?_
    rintro ⟨m2, b2⟩ ⟨hb2, hf2⟩
    dsimp only at hb2 hf2
    subst hb2
    have hf2' : frm (fun q => 520 ≤ q ∧ q < 538) m m2 := hf2
    refine ok_cdT rfl ?_
    refine ok_some ?_
    unfold fX11_isConsistent
    refine ok_lt (ok_some ⟨(h.th 0).ask (hf.tr (hf2'.mono (fun q hq => by omega))) ?_ (fun _ _ _ => rfl) frm.rf, rfl⟩)
    show m2 (543 + 2) 0 = 0
    rw [hf2' _ (by omega)]; exact hm0
  · obtain ⟨r, l, p, q, fi, la, fe, le, hX⟩ := hs.2.2.2.2.2.2.1 i hc
    have hl := hX.2.2.2.2.2.2.2.1
    refine ok_ar i rfl (by omega) (by decide) ?_
    refine ok_jn (ok_jn ?_)
    refine ok_cdT rfl ?_
    refine ok_bind (k_pileAgrees (by omega) (by omega) (hRC.2 i (by omega)) hX) ?_
    rintro ⟨m2, b2⟩ ⟨hb2, hf2⟩
    dsimp only at hb2 hf2
    subst hb2
    refine ok_cdT rfl ?_
    have hRC2 : RC m2 1 (ν (a0 + 1)) := hRC.mv (fun q h1 h2 => hf2 q (by omega)) (fun _ _ => rfl)
    refine ok_bind (k_leastAgrees hN hs.2.1 (cG_of hRC2 hs) (by omega) (hRC2.2 i (by omega)) hX) ?_
    rintro ⟨m3, b3⟩ ⟨hb3, hf3⟩
    dsimp only at hb3 hf3
    subst hb3
    have hf3' : frm (fun q => 520 ≤ q ∧ q < 538) m2 m3 := hf3
    refine ok_cdT rfl ?_
    have hRC3 : RC m3 1 (ν (a0 + 1)) := hRC2.mv (fun q h1 h2 => hf3' q (by omega)) (fun _ _ => rfl)
    have hc3 := cL_of (hRC3.2 i (by omega)) hX
    have hm3 : m3 (543 + 2) 0 = 0 := by rw [hf3' _ (by omega), hf2 _ (by omega)]; exact hm0
    refine ok_bind (k_feesByLastDays (a0 := 543) (by omega) hl hc3 (by omega) hm3) ?_
    rintro ⟨m4, v4⟩ ⟨hv4, h40, hf4⟩
    dsimp only at hv4 h40 hf4
    subst hv4
    have hRC4 : RC m4 1 (ν (a0 + 1)) := hRC3.mv (fun q h1 h2 => hf4 q (by omega)) (fun _ _ => rfl)
    have hc4 := cL_of (hRC4.2 i (by omega)) hX
    refine ok_bind (k_bestChoice (by omega) hl hc4) ?_
    rintro _ rfl
    have hb := bsC_le (q := q) (fi := fi) (la := la) (fe := fe) (le := le) (2 ^ q - 1)
    have h8 : 2 ^ q ≤ 2 ^ 8 := Nat.pow_le_pow_right (by decide) hl.1
    refine ok_bind (k_feesOf (by omega) hl hc4 (show _ < 256 by omega)) ?_
    rintro _ rfl
    refine ok_ifT rfl ?_
    refine ok_lt ?_
    exact hs1 (k - 1) _ _ _ (by omega) ⟨i + 1, by omega, rfl, nI_1 _, ((hf.tr (hf2.mono (fun q hq => by omega))).tr (hf3'.mono (fun q hq => by omega))).tr (hf4.mono (fun q hq => by omega)), h40⟩
/-! The history. -/
theorem k_note {f : Nat} {Z : Nat → Int32} (hN : 20 ≤ N) (hf : f < 9) (h1 : μ 95 1 = nI f) (h : RC μ 1 Z) : Ok (fX4_note N μ 95 1) (fun m => RC m (95 + 1 + 1 + 47 * f) Z ∧ frm (fun q => 95 + 1 + 1 + 47 * f ≤ q ∧ q < 95 + 1 + 1 + 47 * f + 47) μ m) := by
  unfold fX4_note
  rw [h1]
  refine ok_ar f rfl hf (by decide) ?_
  refine ok_bind (k_copy (by omega) (by omega) h) ?_
  rintro m ⟨h2, h3⟩
  exact ok_some ⟨h2, h3⟩
theorem k_keepC {f c : Nat} (hf : f < 9) (hc : c ≤ 8) (h1 : μ 95 1 = nI f) (h2 : μ 95 2 = nI c) : Ok (fX4_keep N μ 95) (fun m => m = mset (mset μ 95 1 (nI ((f + 1) % 9))) 95 2 (nI (min (c + 1) 8))) := by
  unfold fX4_keep
  rw [h1]
  refine ok_lt (ok_lt (ok_some ?_))
  have e1 : nI f + 1 - (nI f + 1) / 9 * 9 = nI ((f + 1) % 9) := by
    rw [nI_1]
    exact pk_rem (d := 9) (by omega) (by decide) (by decide)
  rw [e1, mset_sl _ _ _ _ (by decide), h2, nI_1, show (8 : Int32) = nI 8 from rfl, imin_nI (by omega) (by decide)]
theorem k_remember {f c : Nat} {Z : Nat → Int32} (hN : 20 ≤ N) (hf : f < 9) (hc : c ≤ 8) (h1 : μ 95 1 = nI f) (h2 : μ 95 2 = nI c) (h : RC μ 1 Z) : Ok (fX10_remember N μ 0) (fun m => RC m (95 + 1 + 1 + 47 * f) Z ∧ m 95 1 = nI ((f + 1) % 9) ∧ m 95 2 = nI (min (c + 1) 8) ∧ frm (fun q => q = 95 ∨ (95 + 1 + 1 + 47 * f ≤ q ∧ q < 95 + 1 + 1 + 47 * f + 47)) μ m) := by
  unfold fX10_remember
  refine ok_bind (k_note hN hf h1 h) ?_
  rintro m ⟨g1, g2⟩
  have e95 : m 95 = μ 95 := g2 _ (by omega)
  refine ok_bind (k_keepC hf hc (by rw [e95]; exact h1) (by rw [e95]; exact h2)) ?_
  rintro _ rfl
  refine ok_some ⟨g1.mv (fun q h1 h2 => by rw [mset_ne _ _ _ _ (by omega), mset_ne _ _ _ _ (by omega)]) (fun _ _ => rfl), ?_, mset_at _ _ _ _, ?_⟩
  · rw [mset_sl _ _ _ _ (by decide), mset_at]
  · exact frm.set (X := fun q => q = 95 ∨ (95 + 1 + 1 + 47 * f ≤ q ∧ q < 95 + 1 + 1 + 47 * f + 47)) (frm.set (X := fun q => q = 95 ∨ (95 + 1 + 1 + 47 * f ≤ q ∧ q < 95 + 1 + 1 + 47 * f + 47)) (g2.mono (fun q hq => Or.inr hq)) (Or.inl rfl) _ _) (Or.inl rfl) _ _
/-- the reference's keep -/
def kpM (ν : Mem) (a0 : Nat) : Mem := mcp (mset ν a0 6 0) (a0 + 1) (a0 + 2) 0 0 817
theorem m_keep : fX11_keep N ν a0 = some (kpM ν a0) := by
  have key : Ok (fX11_keep N ν a0) (fun m => m = kpM ν a0) := by
    unfold fX11_keep
    refine ok_lt ?_
    exact ok_acp 0 0 817 rfl rfl rfl (by decide) (by decide) (by decide) (by decide) (ok_some rfl)
  obtain ⟨r, e, h⟩ := key
  rw [e, h]
theorem kp_s : kpM ν a0 (a0 + 1) = ν (a0 + 1) := by unfold kpM; rw [mcp_ne (by omega), mset_ne _ _ _ _ (by omega)]
theorem kp_b {j : Nat} (hj : j < 817) : kpM ν a0 (a0 + 2) j = ν (a0 + 1) j := by
  unfold kpM
  rw [mcp_in (by omega) (by omega), mset_ne _ _ _ _ (by omega), Nat.zero_add, Nat.sub_zero]
theorem kp_o {q : Nat} (h1 : q ≠ a0) (h2 : q ≠ a0 + 2) : kpM ν a0 q = ν q := by unfold kpM; rw [mcp_ne h2, mset_ne _ _ _ _ h1]
theorem kp_f {j : Nat} (h : j ≠ 6) : kpM ν a0 a0 j = ν a0 j := by unfold kpM; rw [mcp_ne (by omega), mset_sl _ _ _ _ h]
theorem kp_6 : kpM ν a0 a0 6 = 0 := by unfold kpM; rw [mcp_ne (by omega), mset_at]
/-- the reference's end of a call that failed -/
theorem m_endsF {k : Nat} {v : Int32} (hk : 1 ≤ k) (hk2 : k < 100) (h : ν a0 6 = nI k) : fX11_ends N ν a0 v = some (mcp ν (a0 + 2) (a0 + 1) 0 0 817, 0) := by
  have key : Ok (fX11_ends N ν a0 v) (fun m => m = (mcp ν (a0 + 2) (a0 + 1) 0 0 817, 0)) := by
    unfold fX11_ends
    rw [h]
    refine ok_ifF (nI_nle (by omega) (by omega)) ?_
    exact ok_acp 0 0 817 rfl rfl rfl (by decide) (by decide) (by decide) (by decide) (ok_some rfl)
  obtain ⟨r, e, h⟩ := key
  rw [e, h]
/-- and of one that did not -/
def psM (ν : Mem) (a0 c : Nat) : Mem := if c = 8 then mset (mcp (mset (mcp ν (a0 + 4) (a0 + 4) 817 0 5719) a0 5 (nI 7)) (a0 + 2) (a0 + 4) 0 (817 * 7) 817) a0 5 (nI 8) else mset (mcp ν (a0 + 2) (a0 + 4) 0 (817 * c) 817) a0 5 (nI (c + 1))
theorem m_endsT {c : Nat} {v : Int32} (hc : c ≤ 8) (h6 : ν a0 6 = 0) (h5 : ν a0 5 = nI c) : fX11_ends N ν a0 v = some (psM ν a0 c, v) := by
  have key : Ok (fX11_ends N ν a0 v) (fun m => m = (psM ν a0 c, v)) := by
    unfold fX11_ends psM
    rw [h6, h5]
    refine ok_ifT (by decide) ?_
    refine ok_jn ?_
    refine ok_eqI c 8 (f := fun h8 => ?_) (g := fun h8 => ?_)
    · subst h8
      rw [if_pos rfl]
      refine ok_acp 817 0 5719 rfl rfl rfl (by decide) (by decide) (by decide) (by decide) ?_
      refine ok_lt ?_
      dsimp only
      rw [mcp_ne (by omega), h5]
      have e7 : nI 8 - 1 = nI 7 := nI_pred 7
      rw [e7, mset_at]
      refine ok_acp 0 (817 * 7) 817 rfl (by rw [show (817 : Int32) = nI 817 from rfl, pk_mul]) rfl (by decide) (by decide) (by decide) (by decide) ?_
      refine ok_lt (ok_some ?_)
      rw [mcp_ne (by omega), mset_at]
      rfl
    · rw [if_neg h8]
      dsimp only
      rw [h5]
      refine ok_acp 0 (817 * c) 817 rfl (by rw [show (817 : Int32) = nI 817 from rfl, pk_mul]) rfl (by decide) (by omega) (by decide) (by decide) ?_
      refine ok_lt (ok_some ?_)
      rw [mcp_ne (by omega), h5, nI_1]
  obtain ⟨r, e, h⟩ := key
  rw [e, h]
theorem ps_o {c q : Nat} (h1 : q ≠ a0) (h2 : q ≠ a0 + 4) : psM ν a0 c q = ν q := by
  unfold psM
  split
  · rw [mset_ne _ _ _ _ h1, mcp_ne h2, mset_ne _ _ _ _ h1, mcp_ne h2]
  · rw [mset_ne _ _ _ _ h1, mcp_ne h2]
theorem ps_f {c j : Nat} (h : j ≠ 5) : psM ν a0 c a0 j = ν a0 j := by
  unfold psM
  split
  · rw [mset_sl _ _ _ _ h, mcp_ne (by omega), mset_sl _ _ _ _ h, mcp_ne (by omega)]
  · rw [mset_sl _ _ _ _ h, mcp_ne (by omega)]
theorem ps_5 {c : Nat} (hc : c ≤ 8) : psM ν a0 c a0 5 = nI (min (c + 1) 8) := by
  unfold psM
  split
  · rename_i h; subst h; rw [mset_at]; rfl
  · rw [mset_at]; exact congrArg nI (by omega)
/-- the row of the past behind it -/
theorem ps_p {c i j : Nat} (hc : c ≤ 8) (hi : i < min (c + 1) 8) (hj : j < 817) : psM ν a0 c (a0 + 4) (817 * i + j) = if i + 1 = min (c + 1) 8 then ν (a0 + 2) j else if c = 8 then ν (a0 + 4) (817 * (i + 1) + j) else ν (a0 + 4) (817 * i + j) := by
  unfold psM
  by_cases h8 : c = 8
  · rw [if_pos h8, if_pos h8, mset_ne _ _ _ _ (by omega)]
    by_cases hl : i + 1 = min (c + 1) 8
    · rw [if_pos hl, mcp_in (by omega) (by omega), mset_ne _ _ _ _ (by omega), mcp_ne (by omega)]
      exact congrArg _ (by omega)
    · rw [if_neg hl, mcp_out (by omega), mset_ne _ _ _ _ (by omega), mcp_in (by omega) (by omega)]
      exact congrArg _ (by omega)
  · rw [if_neg h8, if_neg h8, mset_ne _ _ _ _ (by omega)]
    by_cases hl : i + 1 = min (c + 1) 8
    · rw [if_pos hl, mcp_in (by omega) (by omega)]
      exact congrArg _ (by omega)
    · rw [if_neg hl, mcp_out (by omega)]
/-- the history after a change: μ0, ν0 before it; m behind the class's note, m2 behind its deed; w behind the reference's deed -/
theorem hist_up {f c : Nat} {μ2 w : Mem} (hH : HI μ ν a0 f c) (hSI : SI (ν (a0 + 1))) (hslot : RC μ2 (95 + 1 + 1 + 47 * f) (ν (a0 + 1))) (h1 : μ2 95 1 = nI ((f + 1) % 9)) (h2 : μ2 95 2 = nI (min (c + 1) 8)) (hfr : ∀ q, 97 ≤ q → q < 520 → ¬ (95 + 1 + 1 + 47 * f ≤ q ∧ q < 95 + 1 + 1 + 47 * f + 47) → μ2 q = μ q) (hb : ∀ j, j < 817 → w (a0 + 2) j = ν (a0 + 1) j) (hp : w (a0 + 4) = ν (a0 + 4)) : HI μ2 (psM w a0 c) a0 ((f + 1) % 9) (min (c + 1) 8) := by
  obtain ⟨g1, g2, g3, g4, g5, g6⟩ := hH
  refine ⟨Nat.mod_lt _ (by decide), by omega, h1, h2, ps_5 g2, fun i hi => ?_⟩
  by_cases hl : i + 1 = min (c + 1) 8
  · have ei : ((f + 1) % 9 + 9 - min (c + 1) 8 + i) % 9 = f := by omega
    have ej : ∀ j, j < 817 → psM w a0 c (a0 + 4) (817 * i + j) = ν (a0 + 1) j := fun j hj => by
      rw [ps_p g2 hi hj, if_pos hl, hb j hj]
    rw [ei]
    exact ⟨hslot.mv (fun _ _ _ => rfl) ej, hSI.cg ej⟩
  · by_cases h8 : c = 8
    · have ei : ((f + 1) % 9 + 9 - min (c + 1) 8 + i) % 9 = (f + 9 - c + (i + 1)) % 9 := by omega
      have ej : ∀ j, j < 817 → psM w a0 c (a0 + 4) (817 * i + j) = ν (a0 + 4) (817 * (i + 1) + j) := fun j hj => by
        rw [ps_p g2 hi hj, if_neg hl, if_pos h8, hp]
      obtain ⟨k1, k2⟩ := g6 (i + 1) (by omega)
      have hlt : (f + 9 - c + (i + 1)) % 9 < 9 := Nat.mod_lt _ (by decide)
      have hne : (f + 9 - c + (i + 1)) % 9 ≠ f := by omega
      rw [ei]
      exact ⟨k1.mv (fun q h1 h2 => hfr q (by omega) (by omega) (by omega)) ej, k2.cg ej⟩
    · have ei : ((f + 1) % 9 + 9 - min (c + 1) 8 + i) % 9 = (f + 9 - c + i) % 9 := by omega
      have ej : ∀ j, j < 817 → psM w a0 c (a0 + 4) (817 * i + j) = ν (a0 + 4) (817 * i + j) := fun j hj => by
        rw [ps_p g2 hi hj, if_neg hl, if_neg h8, hp]
      obtain ⟨k1, k2⟩ := g6 i (by omega)
      have hlt : (f + 9 - c + i) % 9 < 9 := Nat.mod_lt _ (by decide)
      have hne : (f + 9 - c + i) % 9 ≠ f := by omega
      rw [ei]
      exact ⟨k1.mv (fun q h1 h2 => hfr q (by omega) (by omega) (by omega)) ej, k2.cg ej⟩
/-- a call that failed, on both sides -/
theorem RR.fail {w : Mem} (h : RR μ ν a0 t) (hb : ∀ j, j < 817 → w (a0 + 2) j = ν (a0 + 1) j) (ho : ∀ q, q = a0 + 3 ∨ q = a0 + 4 ∨ q = a0 + 9 ∨ q = a0 + 10 → w q = ν q) (hf : ∀ j, j ≠ 6 → j ≠ 13 → w a0 j = ν a0 j) : RR μ (mcp w (a0 + 2) (a0 + 1) 0 0 817) a0 t := by
  have e1 : ∀ j, j < 817 → mcp w (a0 + 2) (a0 + 1) 0 0 817 (a0 + 1) j = ν (a0 + 1) j := fun j hj => by
    rw [mcp_in (by omega) (by omega), Nat.zero_add, Nat.sub_zero, hb j hj]
  have e2 : ∀ q, q ≠ a0 + 1 → mcp w (a0 + 2) (a0 + 1) 0 0 817 q = w q := fun q hq => mcp_ne hq
  obtain ⟨h1, h2, ⟨f, c, h3⟩, h4⟩ := h
  refine ⟨h1.mv (fun _ _ _ => rfl) e1, h2.cg e1, ⟨f, c, h3.mv (fun _ _ _ => rfl) ?_ ?_⟩, h4.mv (fun _ _ => rfl) (fun _ _ => rfl) h4.2.2.2.2.1 (fun j hj => ?_) ?_ ?_ ?_⟩
  · rw [e2 _ (by omega), hf _ (by decide) (by decide)]
  · rw [e2 _ (by omega), ho _ (by omega)]
  · rw [e2 _ (by omega), hf _ (by omega) (by omega)]
  · rw [e2 _ (by omega), ho _ (by omega)]
  · rw [e2 _ (by omega), ho _ (by omega)]
  · rw [e2 _ (by omega), ho _ (by omega)]
/-- a change done, on both sides -/
theorem RR.chg {f c : Nat} {m μ2 w : Mem} (h : RR μ ν a0 t) (hH : HI μ ν a0 f c) (hm : RC m (95 + 1 + 1 + 47 * f) (ν (a0 + 1)) ∧ m 95 1 = nI ((f + 1) % 9) ∧ m 95 2 = nI (min (c + 1) 8) ∧ frm (fun q => q = 95 ∨ (95 + 1 + 1 + 47 * f ≤ q ∧ q < 95 + 1 + 1 + 47 * f + 47)) μ m) (hd : frm (fun q => (1 ≤ q ∧ q < 48) ∨ (520 ≤ q ∧ q < 546)) m μ2) (h0 : μ2 (543 + 2) 0 = 0) (hRC : RC μ2 1 (w (a0 + 1))) (hSI : SI (w (a0 + 1))) (hb : ∀ j, j < 817 → w (a0 + 2) j = ν (a0 + 1) j) (ho : ∀ q, q = a0 + 3 ∨ q = a0 + 4 ∨ q = a0 + 9 ∨ q = a0 + 10 → w q = ν q) (hf : ∀ j, j ≠ 6 → j ≠ 13 → w a0 j = ν a0 j) : RR μ2 (psM w a0 c) a0 t := by
  obtain ⟨m1, m2, m3, m4⟩ := hm
  have hf9 := hH.1
  have hmm : ∀ q, q < 95 ∨ 520 ≤ q → m q = μ q := fun q hq => m4 q (by omega)
  obtain ⟨h1, h2, -, h4⟩ := h
  have w1 : psM w a0 c (a0 + 1) = w (a0 + 1) := ps_o (by omega) (by omega)
  refine ⟨by rw [w1]; exact hRC, by rw [w1]; exact hSI, ⟨_, _, hist_up hH h2 (m1.mv (fun q g1 g2 => hd q (by omega)) (fun _ _ => rfl)) (by rw [hd _ (by omega)]; exact m2) (by rw [hd _ (by omega)]; exact m3) (fun q g1 g2 g3 => by rw [hd q (by omega), m4 q (by omega)]) hb (ho _ (by omega))⟩, h4.mv (fun j hj => by rw [hd 0 (by omega), hmm 0 (by omega)]) (fun q hq => by rw [hd q (by omega), hmm q (by omega)]) h0 (fun j hj => by rw [ps_f (by omega), hf j (by omega) (by omega)]) ?_ ?_ ?_⟩
  · rw [ps_o (by omega) (by omega), ho _ (by omega)]
  · rw [ps_o (by omega) (by omega), ho _ (by omega)]
  · rw [ps_o (by omega) (by omega), ho _ (by omega)]
end CH
