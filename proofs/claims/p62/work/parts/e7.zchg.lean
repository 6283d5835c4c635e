/-! Pure layer: what a change does to the state and to its history. -/
/-- the states that can be undone to, behind one more change from Z -/
def hsP (hs : List (Nat → Int32)) (Z : Nat → Int32) : List (Nat → Int32) := if hs.length = 8 then hs.drop 1 ++ [Z] else hs ++ [Z]
theorem hsP_len {hs : List (Nat → Int32)} {Z : Nat → Int32} (h : hs.length ≤ 8) : (hsP hs Z).length = min (hs.length + 1) 8 := by
  unfold hsP
  split
  · rw [List.length_append, List.length_drop]
    show hs.length - 1 + 1 = _
    omega
  · rw [List.length_append]
    show hs.length + 1 = _
    omega
/-- a call that changes: refused, or done -/
def CHG (L : List Nat) (t : List Nat) (Z : Nat → Int32) (hs : List (Nat → Int32)) (Fp : Nat → Prop) (E : (Nat → Int32) → Int32 → Prop) (r : Mem × (Nat ⊕ Int32)) : Prop := (∃ k, k ∈ L ∧ r.2 = .inl k ∧ PZ r.1 t Z hs ∧ Fp k) ∨ ∃ v Z', r.2 = .inr v ∧ PZ r.1 t Z' (hsP hs Z) ∧ E Z' v
/-- no exhibit has more than n loans taken -/
def TK (Z : Nat → Int32) (n : Nat) : Prop := ∀ e, e < 5 → ∃ k, k ≤ n ∧ exY Z e 6 = nI k
/-- counts kept, few loans more, an answer that is none of the refusals -/
def EK (Z : Nat → Int32) : (Nat → Int32) → Int32 → Prop := fun Z' v => nZ Z' = nZ Z ∧ eZ Z' = eZ Z ∧ (∀ n, TK Z n → TK Z' (n + 8)) ∧ ¬ v < 0
theorem EK_chg {p : Nat} {w ν Z : Nat → Int32} {v : Int32} (h0 : p ≠ 0) (h1 : p ≠ 1) (h6 : ∀ e, e < 5 → p ≠ 82 + 147 * e + 6) (hw : ∀ i, i ≠ p → w i = ν i) (hZ : ∀ j, j < 817 → ν j = Z j) (hv : ¬ v < 0) : EK Z w v := by
  refine ⟨?_, ?_, fun n hT e he => ?_, hv⟩
  · unfold nZ; rw [hw 0 (fun z => h0 z.symm), hZ 0 (by decide)]
  · unfold eZ; rw [hw 1 (fun z => h1 z.symm), hZ 1 (by decide)]
  · obtain ⟨k, hk, e0⟩ := hT e he
    refine ⟨k, by omega, ?_⟩
    rw [← e0]
    show w (82 + 147 * e + 6) = Z (82 + 147 * e + 6)
    rw [hw _ (fun z => h6 e he z.symm), hZ _ (by omega)]
section ZCH
variable {N : Nat} {μ ν w : Mem} {t : List Nat} {Z : Nat → Int32} {hs : List (Nat → Int32)} {c : Nat} {x y : Int32}
theorem HS_push (hH : HS ν hs) (hc : c = hs.length) (hb : ∀ j, j < 817 → w (0 + 2) j = Z j) (h4 : w (0 + 4) = ν (0 + 4)) : HS (psM w 0 c) (hsP hs Z) := by
  obtain ⟨h1, h2, h3⟩ := hH
  have hl := hsP_len (Z := Z) h2
  refine ⟨?_, by omega, fun i hi j hj => ?_⟩
  · rw [hl]
    show psM w 0 c 0 5 = _
    rw [ps_5 (by omega), hc]
  · have e := ps_p (ν := w) (a0 := 0) (c := c) (i := i) (j := j) (by omega) (by omega) hj
    have e0 : psM w 0 c 4 (817 * i + j) = psM w 0 c (0 + 4) (817 * i + j) := rfl
    rw [e0, e, h4]
    have e4 : ∀ q, ν (0 + 4) q = ν 4 q := fun q => rfl
    unfold hsP
    by_cases h8 : hs.length = 8
    · rw [if_pos h8]
      by_cases hi7 : i + 1 = min (c + 1) 8
      · rw [if_pos hi7, hb j hj, List.getD_eq_getElem?_getD, List.getElem?_append_right (by rw [List.length_drop]; omega), List.length_drop, show i - (hs.length - 1) = 0 by omega]
        rfl
      · rw [if_neg hi7, if_pos (by omega), e4, h3 (i + 1) (by omega) j hj, List.getD_eq_getElem?_getD, List.getD_eq_getElem?_getD, List.getElem?_append_left (by rw [List.length_drop]; omega), List.getElem?_drop, Nat.add_comm 1 i]
    · rw [if_neg h8]
      by_cases hi7 : i + 1 = min (c + 1) 8
      · rw [if_pos hi7, hb j hj, List.getD_eq_getElem?_getD, List.getElem?_append_right (by omega), show i - hs.length = 0 by omega]
        rfl
      · rw [if_neg hi7, if_neg (by omega), e4, h3 i (by omega) j hj, List.getD_eq_getElem?_getD, List.getD_eq_getElem?_getD, List.getElem?_append_left (by omega)]
theorem HS_c {f : Nat} (hH : HS ν hs) (hI : HI μ ν 0 f c) : c = hs.length := by
  have h1 := hI.2.2.2.2.1
  have h2 := hI.2.1
  rw [hH.1] at h1
  have := hH.2.1
  exact ((nI_eq (by omega) (by omega)).mp h1).symm
/-- a change, out of its fault and its deed -/
theorem op_z {L : List Nat} {Fp : Nat → Prop} {E : (Nat → Int32) → Int32 → Prop} {fault : Mem → Option Nat} {deed dom : Mem → Option (Mem × Int32)} (hN : 20 ≤ N) (h : PZ μ t Z hs) (hc : ∀ ν m, ST m (kpM ν 0) 0 → CMD L 0 fault deed dom m (kpM ν 0)) (hF : ∀ k, RC μ 1 Z → fault μ = some (k + 1) → Fp k) (hE : ∀ (m : Mem) (r : Mem × Int32) (Z' : Nat → Int32), RC m 1 Z → fault m = some 0 → deed m = some r → RC r.1 1 Z' → SI Z' → E Z' r.2) : Ok ((fault μ).bind fun r1 => tb (fX10_stopIf N μ r1) fun μ3 _ => (fX10_remember N μ3 0).bind fun r6 => (deed r6).bind fun r7 => some (r7.1, (.inr r7.2 : Nat ⊕ Int32))) (CHG L t Z hs Fp E) := by
  have hPZ := h
  obtain ⟨ν, h, hZ, hHS⟩ := h
  rcases hc ν μ (ST_kp h) with ⟨F, i, e1, hF1, hF5, hi, hL, e2⟩ | ⟨e1, hdeed⟩
  · rw [e1, bS]
    exact ok_tbL (e := F - 1) (μ := μ) (stop_k hF1 hF5) (Or.inl ⟨F - 1, List.mem_of_getElem? hL, rfl, hPZ, hF _ (h.1.mv (fun _ _ _ => rfl) (fun j hj => (hZ j hj).symm)) (by rw [Nat.sub_add_cancel hF1]; exact e1)⟩)
  · obtain ⟨f, c, hH⟩ := h.2.2.1
    rw [e1, bS]
    refine ok_tbR (a := ()) (μ := μ) rfl ?_
    refine ok_bind (k_remember hN hH.1 hH.2.1 hH.2.2.1 hH.2.2.2.1 h.1) ?_
    intro m hm
    have hf9 := hH.1
    have hSTm : ST m (kpM ν 0) 0 := by
      obtain ⟨s1, s2, s3⟩ := ST_kp h
      exact ⟨s1.mv (fun q g1 g2 => hm.2.2.2 q (by omega)) (fun _ _ => rfl), s2, by rw [hm.2.2.2 _ (by omega)]; exact s3⟩
    rcases hc ν m hSTm with ⟨F, i, -, -, -, hi, -, e2⟩ | ⟨em, hd⟩
    · exfalso
      obtain ⟨r, -, r', er', hDP⟩ := hdeed
      rw [e2] at er'
      have er' := Option.some.inj er'
      have h6 := hDP.2.2.2.2.2.2 6 (by decide)
      rw [← er'] at h6
      dsimp only at h6
      rw [mset_at, kp_6] at h6
      exact nI_ne0 (n := i + 1) (by omega) (by omega) h6
    · obtain ⟨r, edr, hd⟩ := hd
      refine ok_bindE edr ?_
      obtain ⟨⟨w, v'⟩, ew, d1, d2, d3, d4, d5, d6, d7⟩ := hd
      dsimp only at d1 d2 d3 d4 d5 d6 d7
      have hRZ : RC m 1 Z := hSTm.1.mv (fun _ _ _ => rfl) (fun j hj => by rw [kp_s]; exact (hZ j hj).symm)
      refine ok_some (Or.inr ⟨r.2, w (0 + 1), rfl, ⟨psM w 0 c, h.chg hH hm d4 d5 d1 d2 (fun j hj => by rw [d6 _ (by omega), kp_b hj]) (fun q hq => by rw [d6 _ (by omega), kp_o (by omega) (by omega)]) (fun j h6 h13 => by rw [d7 j h13, kp_f h6]), fun j hj => ?_, HS_push hHS (HS_c hHS hH) (fun j hj => ?_) ?_⟩, hE m r _ hRZ em edr d1 d2⟩)
      · show psM w 0 c (0 + 1) j = w (0 + 1) j
        rw [ps_o (by omega) (by omega)]
      · rw [d6 _ (by omega), kp_b hj]
        exact hZ j hj
      · rw [d6 _ (by omega), kp_o (by omega) (by omega)]
/-- the same where the fault may write -/
theorem op_zx {L : List Nat} {Fp : Nat → Prop} {E : (Nat → Int32) → Int32 → Prop} {fault : Mem → Option (Mem × Nat)} {deed dom : Mem → Option (Mem × Int32)} (hN : 20 ≤ N) (h : PZ μ t Z hs) (hc : ∀ ν, RR μ ν 0 t → CMDx L 0 fault deed dom μ (kpM ν 0)) (hF : ∀ k m0, RC μ 1 Z → fault μ = some (m0, k + 1) → Fp k) (hE : ∀ (m : Mem) (r : Mem × Int32) (Z' : Nat → Int32), RC m 1 Z → (RC μ 1 Z ∧ ∃ m0, fault μ = some (m0, 0)) → deed m = some r → RC r.1 1 Z' → SI Z' → E Z' r.2) : Ok ((fault μ).bind fun r1 => tb (fX10_stopIf N r1.1 r1.2) fun μ3 _ => (fX10_remember N μ3 0).bind fun r6 => (deed r6).bind fun r7 => some (r7.1, (.inr r7.2 : Nat ⊕ Int32))) (CHG L t Z hs Fp E) := by
  have hPZ := h
  obtain ⟨ν, h, hZ, hHS⟩ := h
  rcases hc ν h with ⟨F, i, m, w, v, e1, hF1, hF5, hi, hL, e2, h6, hFL⟩ | ⟨⟨m, e1, hfm, hm0⟩, hdeed⟩
  · rw [e1, bS]
    refine ok_tbL (e := F - 1) (μ := m) (stop_k hF1 hF5) (Or.inl ⟨F - 1, List.mem_of_getElem? hL, rfl, ⟨mcp w (0 + 2) (0 + 1) 0 0 817, h.failx hFL, fun j hj => ?_, ?_, hHS.2.1, fun i hi j hj => ?_⟩, hF _ _ (h.1.mv (fun _ _ _ => rfl) (fun j hj => (hZ j hj).symm)) (by rw [Nat.sub_add_cancel hF1]; exact e1)⟩)
    · show mcp w (0 + 2) (0 + 1) 0 0 817 (0 + 1) j = Z j
      rw [mcp_in (by omega) (by omega), hFL.2.2.2.1 (0 + 2) (by omega), show 0 + (j - 0) = j by omega]
      exact (kp_b hj).trans (hZ j hj)
    · show mcp w (0 + 2) (0 + 1) 0 0 817 0 5 = _
      rw [mcp_ne (by omega), hFL.2.2.2.2.1 5 (by decide) (by decide) (by decide) (by decide), kp_f (by decide)]
      exact hHS.1
    · show mcp w (0 + 2) (0 + 1) 0 0 817 4 (817 * i + j) = _
      rw [mcp_ne (by omega), hFL.2.2.2.1 _ (by omega), kp_o (by omega) (by omega)]
      exact hHS.2.2 i hi j hj
  · have hRm : RR m ν 0 t := h.ask hfm hm0 (fun _ _ _ => rfl) frm.rf
    obtain ⟨f, c, hH⟩ := hRm.2.2.1
    rw [e1, bS]
    refine ok_tbR (a := ()) (μ := m) rfl ?_
    refine ok_bind (k_remember hN hH.1 hH.2.1 hH.2.2.1 hH.2.2.2.1 hRm.1) ?_
    intro m1 hm
    have hf9 := hH.1
    have hSTm : ST m1 (kpM ν 0) 0 := by
      obtain ⟨s1, s2, s3⟩ := ST_kp hRm
      exact ⟨s1.mv (fun q g1 g2 => hm.2.2.2 q (by omega)) (fun _ _ => rfl), s2, by rw [hm.2.2.2 _ (by omega)]; exact s3⟩
    obtain ⟨r, edr, hd⟩ := hdeed m1 hSTm
    refine ok_bindE edr ?_
    obtain ⟨⟨w, v'⟩, ew, d1, d2, d3, d4, d5, d6, d7⟩ := hd
    dsimp only at d1 d2 d3 d4 d5 d6 d7
    have hRZ : RC m1 1 Z := hSTm.1.mv (fun _ _ _ => rfl) (fun j hj => by rw [kp_s]; exact (hZ j hj).symm)
    refine ok_some (Or.inr ⟨r.2, w (0 + 1), rfl, ⟨psM w 0 c, hRm.chg hH hm d4 d5 d1 d2 (fun j hj => by rw [d6 _ (by omega), kp_b hj]) (fun q hq => by rw [d6 _ (by omega), kp_o (by omega) (by omega)]) (fun j h6 h13 => by rw [d7 j h13, kp_f h6]), fun j hj => ?_, HS_push hHS (HS_c hHS hH) (fun j hj => ?_) ?_⟩, hE m1 r _ hRZ ⟨h.1.mv (fun _ _ _ => rfl) (fun j hj => (hZ j hj).symm), m, e1⟩ edr d1 d2⟩)
    · show psM w 0 c (0 + 1) j = w (0 + 1) j
      rw [ps_o (by omega) (by omega)]
    · rw [d6 _ (by omega), kp_b hj]
      exact hZ j hj
    · rw [d6 _ (by omega), kp_o (by omega) (by omega)]

theorem c_setWarmth {hz : List (Nat → Int32)} (hN : 20 ≤ N) (h : PZ μ t Z hz) : Ok (fX10_setWarmth N μ 0 x y) (CHG [0, 1] t Z hz (fun _ => True) (EK Z)) := by
  have hPZ := h
  obtain ⟨ν, h, hZ, hHS⟩ := h
  obtain ⟨n, ec, mn, ht, hs⟩ := h.2.1
  have hn := hs.2.1.1
  unfold fX10_setWarmth
  rw [k_roomIndexFault (h.1.1.1.1.trans hs.1) hn, bS]
  cases hx : idx n x
  · exact ok_tbL (e := 0) (μ := μ) rfl (Or.inl ⟨0, List.mem_cons_self, rfl, hPZ, True.intro⟩)
  · obtain ⟨j, hj, rfl⟩ := idx_t.mp hx
    refine ok_tbR (a := ()) (μ := μ) rfl ?_
    refine ok_bindE digF ?_
    cases hd : decide (0 ≤ y ∧ y ≤ 9)
    · exact ok_tbL (e := 1) (μ := μ) rfl (Or.inl ⟨1, List.mem_cons_of_mem _ List.mem_cons_self, rfl, hPZ, True.intro⟩)
    · obtain ⟨w, hw, rfl⟩ := dig_of hd
      obtain ⟨f, c, hH⟩ := h.2.2.1
      have hf9 := hH.1
      refine ok_tbR (a := ()) (μ := μ) rfl ?_
      refine ok_bind (k_remember hN hH.1 hH.2.1 hH.2.2.1 hH.2.2.2.1 h.1) ?_
      intro m hm
      have hRm : RC m 1 (ν (0 + 1)) := h.1.mv (fun q g1 g2 => hm.2.2.2 q (by omega)) (fun _ _ => rfl)
      refine ok_ag j rfl (by omega) (by decide) ?_
      refine ok_aw j rfl (by omega) (by decide) ?_
      have wz : ∀ i, i ≠ 4 + j → mset (kpM ν 0) (0 + 1) (4 + j) (nI w) (0 + 1) i = ν (0 + 1) i := fun i hi => by rw [mset_sl _ _ _ _ hi, kp_s]
      suffices hP9 : PZ (mset m (1 + 1) j (nI w)) t (mset (kpM ν 0) (0 + 1) (4 + j) (nI w) (0 + 1)) (hsP hz Z) from ok_some (Or.inr ⟨_, _, rfl, hP9, EK_chg (p := 4 + j) (by omega) (by omega) (fun e he => by omega) wz hZ (by obtain ⟨v9, hv9, e9⟩ := hs.2.2.2.1 j (by omega); have b9 : m (1 + 1) j = ν (0 + 1) (4 + j) := hRm.1.2.1 j (by omega); rw [b9, e9]; exact nI_pos (by omega))⟩)
      refine ⟨psM (mset (kpM ν 0) (0 + 1) (4 + j) (nI w)) 0 c, h.chg hH hm (frm.set (X := fun q => (1 ≤ q ∧ q < 48) ∨ (520 ≤ q ∧ q < 546)) frm.rf (by omega) _ _) ?_ ?_ ?_ (fun i hi => by rw [mset_ne _ _ _ _ (by omega), kp_b hi]) (fun q hq => by rw [mset_ne _ _ _ _ (by omega), kp_o (by omega) (by omega)]) (fun i h6 h13 => by rw [mset_ne _ _ _ _ (by omega), kp_f h6]), fun j9 hj9 => ?_, HS_push hHS (HS_c hHS hH) (fun j9 hj9 => ?_) ?_⟩
      · show mset m (1 + 1) j (nI w) (543 + 2) 0 = 0
        rw [mset_ne _ _ _ _ (by decide), hm.2.2.2 _ (by omega)]; exact h.2.2.2.2.2.2.2.1
      · obtain ⟨⟨⟨a1, a2, a3, a4⟩, bw, cm, ch⟩, eE⟩ := hRm
        refine ⟨⟨⟨?_, ?_, ?_, ?_⟩, fun r hr => ?_, fun a ha b hb => ?_, fun a ha b hb => ?_⟩, fun e he => (eE e he).mv (fun q g1 g2 => mset_ne _ _ _ _ (by omega)) (fun v hv => wz _ (by omega))⟩
        · rw [wz _ (by omega), mset_ne _ _ _ _ (by decide)]; exact a1
        · rw [wz _ (by omega), mset_ne _ _ _ _ (by decide)]; exact a2
        · rw [wz _ (by omega), mset_ne _ _ _ _ (by decide)]; exact a3
        · rw [wz _ (by omega), mset_ne _ _ _ _ (by decide)]; exact a4
        · by_cases er : r = j
          · subst er
            show mset m (1 + 1) r (nI w) (1 + 1) r = _
            rw [mset_at, mset_at]
          · rw [wz _ (by omega)]
            show mset m (1 + 1) j (nI w) (1 + 1) r = _
            rw [mset_sl _ _ _ _ er]; exact bw r hr
        · rw [wz _ (by omega), mset_ne _ _ _ _ (by omega)]; exact cm a ha b hb
        · rw [wz _ (by omega), mset_ne _ _ _ _ (by omega)]; exact ch a ha b hb
      · obtain ⟨s1, s2, s3, s4, s5, s6, s7, s8⟩ := hs
        refine ⟨n, ec, mn, ht, by rw [wz _ (by omega)]; exact s1, s2, fun a ha b hb => ⟨by rw [wz _ (by omega)]; exact (s3 a ha b hb).1, by rw [wz _ (by omega)]; exact (s3 a ha b hb).2⟩, fun r hr => ?_, by rw [wz _ (by omega)]; exact s5, s6, fun e he => ?_, fun e g1 g2 v hv => by rw [wz _ (by omega)]; exact s8 e g1 g2 v hv⟩
        · by_cases er : r = j
          · subst er; exact ⟨w, hw, mset_at _ _ _ _⟩
          · obtain ⟨v, hv, e4⟩ := s4 r hr
            exact ⟨v, hv, by rw [wz _ (by omega)]; exact e4⟩
        · obtain ⟨r, l, p, q, fi, la, fe, le, hX⟩ := s7 e he
          exact ⟨r, l, p, q, fi, la, fe, le, hX.cg (fun v hv => wz _ (by omega))⟩
      · show psM _ 0 c (0 + 1) j9 = _
        rw [ps_o (by omega) (by omega)]
      · rw [mset_ne _ _ _ _ (by omega), kp_b hj9]
        exact hZ j9 hj9
      · rw [mset_ne _ _ _ _ (by omega), kp_o (by omega) (by omega)]
theorem c_setLimit {hz : List (Nat → Int32)} (hN : 20 ≤ N) (h : PZ μ t Z hz) : Ok (fX10_setLimit N μ 0 x y) (CHG [0, 1] t Z hz (fun _ => True) (EK Z)) := by
  have hPZ := h
  obtain ⟨ν, h, hZ, hHS⟩ := h
  obtain ⟨n, ec, mn, ht, hs⟩ := h.2.1
  have h1 := hs.2.2.2.2.1
  have h5 := hs.2.2.2.2.2.1
  unfold fX10_setLimit
  rcases k_existing (N := N) (x := x) (h.1.1.1.2.1.trans h1) h5 with ⟨hx, e1⟩ | ⟨e, he, rfl, hx, e1⟩ <;> rw [e1]
  · exact ok_tbL (e := 0) (μ := μ) rfl (Or.inl ⟨0, List.mem_cons_self, rfl, hPZ, True.intro⟩)
  · refine ok_tbR (a := 1 + 16 + 1 + 6 * e) (μ := μ) rfl ?_
    refine ok_bindE digF ?_
    cases hd : decide (0 ≤ y ∧ y ≤ 9)
    · exact ok_tbL (e := 1) (μ := μ) rfl (Or.inl ⟨1, List.mem_cons_of_mem _ List.mem_cons_self, rfl, hPZ, True.intro⟩)
    · obtain ⟨w, hw, rfl⟩ := dig_of hd
      obtain ⟨f, c, hH⟩ := h.2.2.1
      have hf9 := hH.1
      refine ok_tbR (a := ()) (μ := μ) rfl ?_
      refine ok_bind (k_remember hN hH.1 hH.2.1 hH.2.2.1 hH.2.2.2.1 h.1) ?_
      intro m hm
      have hRm : RC m 1 (ν (0 + 1)) := h.1.mv (fun q g1 g2 => hm.2.2.2 q (by omega)) (fun _ _ => rfl)
      refine ok_lt (ok_lt ?_)
      have wz : ∀ i, i ≠ 82 + 147 * e + 1 → mset (kpM ν 0) (0 + 1) (82 + 147 * e + 1) (nI w) (0 + 1) i = ν (0 + 1) i := fun i hi => by rw [mset_sl _ _ _ _ hi, kp_s]
      have hE := hRm.2 e (by omega)
      suffices hP9 : PZ (mset m (1 + 16 + 1 + 6 * e) 1 (nI w)) t (mset (kpM ν 0) (0 + 1) (82 + 147 * e + 1) (nI w) (0 + 1)) (hsP hz Z) from ok_some (Or.inr ⟨_, _, rfl, hP9, EK_chg (p := 82 + 147 * e + 1) (by omega) (by omega) (fun e he => by omega) wz hZ (by obtain ⟨r, l, p, q, fi, la, fe, le, x1, x2, x3, x4, x5, x6, x7, x8, x9, x10, x11⟩ := hs.2.2.2.2.2.2.1 e he; have b9 : m (1 + 16 + 1 + 6 * e) 1 = exY (ν (0 + 1)) e 1 := hE.1.2.1; rw [b9, x3]; exact nI_pos (by omega))⟩)
      refine ⟨psM (mset (kpM ν 0) (0 + 1) (82 + 147 * e + 1) (nI w)) 0 c, h.chg hH hm (frm.set (X := fun q => (1 ≤ q ∧ q < 48) ∨ (520 ≤ q ∧ q < 546)) frm.rf (by omega) _ _) ?_ ?_ ?_ (fun i hi => by rw [mset_ne _ _ _ _ (by omega), kp_b hi]) (fun q hq => by rw [mset_ne _ _ _ _ (by omega), kp_o (by omega) (by omega)]) (fun i h6 h13 => by rw [mset_ne _ _ _ _ (by omega), kp_f h6]), fun j9 hj9 => ?_, HS_push hHS (HS_c hHS hH) (fun j9 hj9 => ?_) ?_⟩
      · show mset m _ 1 (nI w) (543 + 2) 0 = 0
        rw [mset_ne _ _ _ _ (by omega), hm.2.2.2 _ (by omega)]; exact h.2.2.2.2.2.2.2.1
      · refine RC_ex (e := e) hRm (by omega) (fun q g1 g2 => mset_ne _ _ _ _ (by omega)) (fun j hj => wz _ (by omega)) (fun x hx hne q g1 g2 => mset_ne _ _ _ _ (by omega)) (fun x hx hne w hw => wz _ (by omega)) ?_
        obtain ⟨⟨b0, b1, b2, b3, b4, b5, b6⟩, c1, c2, c3⟩ := hE
        refine ⟨⟨?_, ?_, ?_, ?_, ?_, ?_, ?_⟩, fun i hi => ?_, fun k hk => ⟨?_, ?_, ?_⟩, fun d hd => ?_⟩
        · rw [mset_sl _ _ _ _ (by decide)]; dsimp only [exY]; rw [wz _ (by omega)]; exact b0
        · rw [mset_at]; dsimp only [exY]; rw [mset_at]
        · rw [mset_sl _ _ _ _ (by decide)]; dsimp only [exY]; rw [wz _ (by omega)]; exact b2
        · rw [mset_sl _ _ _ _ (by decide)]; dsimp only [exY]; rw [wz _ (by omega)]; exact b3
        · rw [mset_sl _ _ _ _ (by decide)]; dsimp only [exY]; rw [wz _ (by omega)]; exact b4
        · rw [mset_sl _ _ _ _ (by decide)]; dsimp only [exY]; rw [wz _ (by omega)]; exact b5
        · rw [mset_sl _ _ _ _ (by decide)]; dsimp only [exY]; rw [wz _ (by omega)]; exact b6
        · rw [mset_ne _ _ _ _ (by omega)]; dsimp only [exY]; rw [wz _ (by omega)]; exact c1 i hi
        · rw [mset_ne _ _ _ _ (by omega)]; dsimp only [exY]; rw [wz _ (by omega)]; exact (c2 k hk).1
        · rw [mset_ne _ _ _ _ (by omega)]; dsimp only [exY]; rw [wz _ (by omega)]; exact (c2 k hk).2.1
        · rw [mset_ne _ _ _ _ (by omega)]; dsimp only [exY]; rw [wz _ (by omega)]; exact (c2 k hk).2.2
        · rw [mset_ne _ _ _ _ (by omega)]; dsimp only [exY]; rw [wz _ (by omega)]; exact c3 d hd
      · refine SI_ex (e := e) hs he (fun j hj => wz _ (by omega)) (fun x hx hne w hw => wz _ (by omega)) ?_
        obtain ⟨r, l, p, q, fi, la, fe, le, x1, x2, x3, x4, x5, x6, x7, x8, x9, x10, x11⟩ := hs.2.2.2.2.2.2.1 e he
        have hq8 := x8.1
        refine ⟨r, w, p, q, fi, la, fe, le, ?_, x2, mset_at _ _ _ _, hw, fun i hi => ?_, x6, ?_, x8, fun k hk => ⟨?_, ?_, ?_⟩, fun d hd => ?_, ?_⟩
        · dsimp only [exY]; rw [wz _ (by omega)]; exact x1
        · dsimp only [exY]; rw [wz _ (by omega)]; exact x5 i hi
        · dsimp only [exY]; rw [wz _ (by omega)]; exact x7
        · dsimp only [exY]; rw [wz _ (by omega)]; exact (x9 k hk).1
        · dsimp only [exY]; rw [wz _ (by omega)]; exact (x9 k hk).2.1
        · dsimp only [exY]; rw [wz _ (by omega)]; exact (x9 k hk).2.2
        · dsimp only [exY]; rw [wz _ (by omega)]; exact x10 d hd
        · dsimp only [exY]; rw [wz _ (by omega), wz _ (by omega), wz _ (by omega)]; exact x11
      · show psM _ 0 c (0 + 1) j9 = _
        rw [ps_o (by omega) (by omega)]
      · rw [mset_ne _ _ _ _ (by omega), kp_b hj9]
        exact hZ j9 hj9
      · rw [mset_ne _ _ _ _ (by omega), kp_o (by omega) (by omega)]
/-- undoing: the last state of the history, or a refusal -/
theorem c_undo (hN : 20 ≤ N) (h : PZ μ t Z hs) : Ok (fX10_undo N μ 0) (fun r => (hs = [] ∧ r.2 = .inl 2 ∧ PZ r.1 t Z hs) ∨ ∃ v Z' hs', hs = hs' ++ [Z'] ∧ r.2 = .inr (nI v) ∧ v ≤ 8 ∧ PZ r.1 t Z' hs') := by
  have hPZ := h
  obtain ⟨ν, h, hZ, hHS⟩ := h
  have hR := h
  obtain ⟨hRC, hSI, ⟨f, c, hf9, hc8, g1, g2, g3, g4⟩, hM⟩ := h
  have hcl : c = hs.length := HS_c hHS ⟨hf9, hc8, g1, g2, g3, g4⟩
  have h0 := hM.2.2.2.2.1
  unfold fX10_undo
  rw [g2]
  refine ok_eqI c 0 (f := fun hz => ?_) (g := fun hz => ?_)
  · exact ok_some (Or.inl ⟨List.length_eq_zero_iff.mp (by omega), rfl, hPZ⟩)
  · have hlt : (f + 8) % 9 < 9 := Nat.mod_lt _ (by decide)
    refine ok_bind (k_stepBack hf9 (by omega) hc8 g1 g2) ?_
    rintro _ rfl
    have eN : fX4_noted N (mset (mset μ 95 1 (nI ((f + 8) % 9))) 95 2 (nI (c - 1))) 95 = some (95 + 1 + 1 + 47 * ((f + 8) % 9)) := by
      have key : Ok (fX4_noted N (mset (mset μ 95 1 (nI ((f + 8) % 9))) 95 2 (nI (c - 1))) 95) (fun r => r = 95 + 1 + 1 + 47 * ((f + 8) % 9)) := by
        unfold fX4_noted
        rw [mset_sl _ _ _ _ (by decide), mset_at]
        exact ok_ar ((f + 8) % 9) rfl hlt (by decide) (ok_some rfl)
      obtain ⟨r, e, hh⟩ := key
      rw [e, hh]
    refine ok_bindE eN ?_
    obtain ⟨k1, k2⟩ := g4 (c - 1) (by omega)
    rw [show (f + 9 - c + (c - 1)) % 9 = (f + 8) % 9 by omega] at k1
    refine ok_bind (k_copy (o := 1) (by omega) (by omega) (k1.mv (fun q g1 g2 => by rw [mset_ne _ _ _ _ (by omega), mset_ne _ _ _ _ (by omega)]) (fun _ _ => rfl))) ?_
    rintro m ⟨hm, hfm⟩
    have mm : ∀ q, q ≠ 95 → ¬ (1 ≤ q ∧ q < 48) → m q = μ q := fun q q1 q2 => by
      rw [hfm q (by omega), mset_ne _ _ _ _ q1, mset_ne _ _ _ _ q1]
    have m95 : m 95 = mset (mset μ 95 1 (nI ((f + 8) % 9))) 95 2 (nI (c - 1)) 95 := hfm _ (by omega)
    have w1 : ∀ j, j < 817 → mcp (mset (mset ν 0 6 (b2i false)) 0 5 (nI (c - 1))) (0 + 4) (0 + 1) (817 * (c - 1)) 0 817 (0 + 1) j = ν (0 + 4) (817 * (c - 1) + j) := fun j hj => by
      rw [mcp_in (by omega) (by omega), mset_ne _ _ _ _ (by omega), mset_ne _ _ _ _ (by omega), Nat.sub_zero]
    have wo : ∀ q, q ≠ 0 + 1 → q ≠ 0 → mcp (mset (mset ν 0 6 (b2i false)) 0 5 (nI (c - 1))) (0 + 4) (0 + 1) (817 * (c - 1)) 0 817 q = ν q := fun q q1 q2 => by
      rw [mcp_ne q1, mset_ne _ _ _ _ q2, mset_ne _ _ _ _ q2]
    have wf : ∀ j, j ≠ 5 → j ≠ 6 → mcp (mset (mset ν 0 6 (b2i false)) 0 5 (nI (c - 1))) (0 + 4) (0 + 1) (817 * (c - 1)) 0 817 0 j = ν 0 j := fun j j1 j2 => by
      rw [mcp_ne (by omega), mset_sl _ _ _ _ j1, mset_sl _ _ _ _ j2]
    have w5 : mcp (mset (mset ν 0 6 (b2i false)) 0 5 (nI (c - 1))) (0 + 4) (0 + 1) (817 * (c - 1)) 0 817 0 5 = nI (c - 1) := by
      rw [mcp_ne (by omega), mset_at]
    have hsplit : hs = hs.take (c - 1) ++ [hs.getD (c - 1) z0] := by
      apply List.ext_getElem?
      intro i
      by_cases hi : i < c - 1
      · rw [List.getElem?_append_left (by rw [List.length_take]; omega), List.getElem?_take, if_pos hi]
      · by_cases hi2 : i = c - 1
        · subst hi2
          rw [List.getElem?_append_right (by rw [List.length_take]; omega), List.length_take, show c - 1 - min (c - 1) hs.length = 0 by omega, List.getD_eq_getElem?_getD, List.getElem?_eq_getElem (by omega)]
          rfl
        · rw [List.getElem?_eq_none (by omega), List.getElem?_eq_none (by rw [List.length_append, List.length_take]; show _ + 1 ≤ i; omega)]
    have e95 : m 95 2 = nI (c - 1) := by rw [m95, mset_at]
    suffices hP9 : PZ m t (hs.getD (c - 1) z0) (hs.take (c - 1)) from ok_some (Or.inr ⟨c - 1, hs.getD (c - 1) z0, hs.take (c - 1), hsplit, congrArg Sum.inr e95, by omega, hP9⟩)
    refine ⟨mcp (mset (mset ν 0 6 (b2i false)) 0 5 (nI (c - 1))) (0 + 4) (0 + 1) (817 * (c - 1)) 0 817, ⟨hm.mv (fun _ _ _ => rfl) w1, k2.cg w1, ⟨(f + 8) % 9, c - 1, hlt, by omega, ?_, ?_, w5, fun i hi => ?_⟩, hM.mv (fun j hj => by (try dsimp only); rw [mm 0 (by omega) (by omega)]) (fun q hq => mm q (by omega) (by omega)) ?_ (fun j hj => wf j (by omega) (by omega)) (wo _ (by omega) (by omega)) (wo _ (by omega) (by omega)) (wo _ (by omega) (by omega))⟩, fun j hj => ?_, ?_, ?_, fun i hi j hj => ?_⟩
    · try dsimp only
      rw [m95, mset_sl _ _ _ _ (by decide), mset_at]
    · try dsimp only
      rw [m95, mset_at]
    · obtain ⟨r1, r2⟩ := g4 i (by omega)
      rw [show ((f + 8) % 9 + 9 - (c - 1) + i) % 9 = (f + 9 - c + i) % 9 by omega]
      have : (f + 9 - c + i) % 9 < 9 := Nat.mod_lt _ (by decide)
      try dsimp only
      rw [wo (0 + 4) (by omega) (by omega)]
      exact ⟨r1.mv (fun q q1 q2 => mm q (by omega) (by omega)) (fun _ _ => rfl), r2⟩
    · try dsimp only
      rw [mm _ (by decide) (by decide)]; exact h0
    · show mcp (mset (mset ν 0 6 (b2i false)) 0 5 (nI (c - 1))) (0 + 4) (0 + 1) (817 * (c - 1)) 0 817 (0 + 1) j = _
      rw [w1 j hj]
      exact hHS.2.2 (c - 1) (by omega) j hj
    · show mcp (mset (mset ν 0 6 (b2i false)) 0 5 (nI (c - 1))) (0 + 4) (0 + 1) (817 * (c - 1)) 0 817 0 5 = _
      rw [w5, List.length_take]
      exact congrArg nI (by omega)
    · rw [List.length_take]; omega
    · rw [List.length_take] at hi
      show mcp (mset (mset ν 0 6 (b2i false)) 0 5 (nI (c - 1))) (0 + 4) (0 + 1) (817 * (c - 1)) 0 817 (0 + 4) (817 * i + j) = _
      rw [wo (0 + 4) (by omega) (by omega)]
      have h9 := hHS.2.2 i (by omega) j hj
      rw [List.getD_eq_getElem?_getD, List.getElem?_take, if_pos (by omega), ← List.getD_eq_getElem?_getD]
      exact h9
end ZCH
