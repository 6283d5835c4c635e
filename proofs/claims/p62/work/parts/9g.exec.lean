/-! Pure layer, 46: one command, on both sides. -/
section EX
variable {N : Nat} {μ ν m w : Mem} {a0 : Nat} {t : List Nat}
theorem ag_eq {O : Type} {row : Nat → Int32} {n j : Nat} {i : Int32} {k : Int32 → Option O} (hi : i = nI j) (hj : j < n) (hn : n < 2 ^ 31) : ag row n i k = k (row j) := by
  subst hi
  unfold ag
  rw [if_neg (vp_in_nI hj hn), nI_clamp (Nat.lt_trans hj hn)]
theorem i5 {k c : Nat} : (5 : Int32) * nI k + nI c = nI (5 * k + c) := by
  rw [show (5 : Int32) = nI 5 from rfl, pk_mul, nI_add]
theorem i50 {k : Nat} : (5 : Int32) * nI k = nI (5 * k) := by
  rw [show (5 : Int32) = nI 5 from rfl, pk_mul]
/-- what a command leaves, on both sides -/
def DQ (μ ν μ' ν' : Mem) (a0 : Nat) : Prop := RC μ' 1 (ν' (a0 + 1)) ∧ SI (ν' (a0 + 1)) ∧ frm (fun q => (1 ≤ q ∧ q < 48) ∨ (520 ≤ q ∧ q < 546)) μ μ' ∧ μ' (543 + 2) 0 = 0 ∧ frm (fun q => q = a0 ∨ q = a0 + 1 ∨ (a0 + 5 ≤ q ∧ q ≤ a0 + 8)) ν ν' ∧ ∀ j, j ≠ 13 → ν' a0 j = ν a0 j
def CMDe (N a0 f row k : Nat) (m w : Mem) : Prop := (∃ F i m' w', fX10_commandFault N m 0 f row = some (m', F) ∧ F ≠ 0 ∧ i < 5 ∧ fX11_does N w a0 (nI k) = some w' ∧ w' a0 6 = nI (i + 1) ∧ FL m w m' w' a0) ∨ ∃ m1, fX10_commandFault N m 0 f row = some (m1, 0) ∧ Ok (fX10_runCommand N m1 0 f row) (fun m2 => Ok (fX11_does N w a0 (nI k)) (fun w2 => DQ m w m2 w2 a0))
theorem CMDx.e {L : List Nat} {f row k : Nat} {fault : Mem → Option (Mem × Nat)} {deed dom : Mem → Option (Mem × Int32)} (hST : ST m w a0) (h : CMDx L a0 fault deed dom m w) (hf : fX10_commandFault N m 0 f row = fault m) (hr : ∀ m1, frm (fun q => 520 ≤ q ∧ q < 546) m m1 → fX10_runCommand N m1 0 f row = (deed m1).bind fun r => some r.1) (hd : fX11_does N w a0 (nI k) = (dom w).bind fun r => some r.1) : CMDe N a0 f row k m w := by
  rcases h with ⟨F, i, m', w', v, e1, hF1, hF5, hi, hL, e2, h6, hFL⟩ | ⟨⟨m1, e1, hfm, hm0⟩, hdeed⟩
  · refine Or.inl ⟨F, i, m', w', by rw [hf, e1], by omega, hi, ?_, h6, hFL⟩
    rw [hd, e2]; rfl
  · refine Or.inr ⟨m1, by rw [hf, e1], ?_⟩
    rw [hr m1 hfm]
    refine ok_bind (hdeed m1 ⟨hST.1.mv (fun q g1 g2 => hfm q (by omega)) (fun _ _ => rfl), hST.2.1, hm0⟩) ?_
    rintro ⟨m2, v⟩ ⟨⟨w2, v'⟩, ew, d1, d2, d3, d4, d5, d6, d7⟩
    dsimp only at d1 d2 d3 d4 d5 d6 d7
    refine ok_some ?_
    rw [hd, ew]
    exact ok_some ⟨d1, d2, (hfm.mono (fun q hq => Or.inr hq)).tr d4, d5, d6, d7⟩
/-- one command -/
theorem cmdE {f k : Nat} {v : Nat → Int32} (hN : 1200000000000 ≤ N) (h : ST m w a0) (h6 : w a0 6 = 0) (f1 : 1 ≤ f) (f8 : f ≤ 8) (hk : k < 10) (hc : ∀ j, j < nC f (sTx f).length → m (546 + 3 + 1 + 1 * k) j = v j) (hkd : w (a0 + 11) (5 * k) = nI (kdF f)) (hm : ∀ j, j < nC f (sTx f).length → w (a0 + 11) (5 * k + 1 + j) = v j) : CMDe N a0 f (546 + 3 + 1 + 1 * k) k m w := by
  have fr : ∀ m1, frm (fun q => 520 ≤ q ∧ q < 546) m m1 → m1 (546 + 3 + 1 + 1 * k) = m (546 + 3 + 1 + 1 * k) := fun m1 h1 => h1 _ (by omega)
  have hdo : ∀ r : Option Mem, (∀ z, z = nI (kdF f) → (jn (fun (μ16 : Mem) => some μ16) fun j17 =>
  jn (fun (_ : Unit) =>
  (fX11_doDrop N w a0 (w (a0 + 11) (5 * k + 1)) (w (a0 + 11) (5 * k + 2)) (w (a0 + 11) (5 * k + 3)) (w (a0 + 11) (5 * k + 4))).bind fun r24 =>
  j17 r24.1) fun j21 =>
  (if z = 97 then
  ((fX11_doAsk N w a0 (w (a0 + 11) (5 * k + 1)) (w (a0 + 11) (5 * k + 2)) (w (a0 + 11) (5 * k + 3)) (w (a0 + 11) (5 * k + 4))).bind fun r26 =>
  j17 r26.1)
  else if z = 98 then
  (j21 ())
  else if z = 99 then
  (j21 ())
  else if z = 100 then
  (j21 ())
  else if z = 101 then
  (j21 ())
  else if z = 102 then
  (j21 ())
  else if z = 103 then
  (j21 ())
  else if z = 104 then
  (j21 ())
  else if z = 105 then
  (j21 ())
  else if z = 106 then
  (j21 ())
  else if z = 107 then
  (j21 ())
  else if z = 108 then
  ((fX11_doSetLeg N w a0 (w (a0 + 11) (5 * k + 1)) (w (a0 + 11) (5 * k + 2)) (w (a0 + 11) (5 * k + 3)) (w (a0 + 11) (5 * k + 4))).bind fun r38 =>
  j17 r38.1)
  else if z = 109 then
  (j21 ())
  else if z = 110 then
  (j21 ())
  else if z = 111 then
  (j21 ())
  else if z = 112 then
  ((fX11_doAddExhibit N w a0 (w (a0 + 11) (5 * k + 1)) (w (a0 + 11) (5 * k + 2))).bind fun r43 =>
  j17 r43.1)
  else if z = 113 then
  (j21 ())
  else if z = 114 then
  ((fX11_doAddRoom N w a0 (w (a0 + 11) (5 * k + 1))).bind fun r46 =>
  j17 r46.1)
  else if z = 115 then
  ((fX11_doSend N w a0 (w (a0 + 11) (5 * k + 1)) (w (a0 + 11) (5 * k + 2))).bind fun r48 =>
  j17 r48.1)
  else if z = 116 then
  ((fX11_doTakeBest N w a0 (w (a0 + 11) (5 * k + 1))).bind fun r50 =>
  j17 r50.1)
  else if z = 117 then
  (j21 ())
  else if z = 118 then
  (j21 ())
  else if z = 119 then
  (j21 ())
  else if z = 120 then
  (j21 ())
  else if z = 121 then
  ((fX11_doPassDays N w a0 (w (a0 + 11) (5 * k + 1))).bind fun r56 =>
  j17 r56.1)
  else (j21 ()))) = r) → fX11_does N w a0 (nI k) = r := by
    intro r hr
    unfold fX11_does
    refine (ag_eq (n := 300) (j := 5 * k + 1) i5 (by omega) (by decide)).trans ?_
    refine (ag_eq (n := 300) (j := 5 * k + 2) i5 (by omega) (by decide)).trans ?_
    refine (ag_eq (n := 300) (j := 5 * k + 3) i5 (by omega) (by decide)).trans ?_
    refine (ag_eq (n := 300) (j := 5 * k + 4) i5 (by omega) (by decide)).trans ?_
    refine (ag_eq (n := 300) (j := 5 * k) i50 (by omega) (by decide)).trans ?_
    exact hr _ hkd
  have v0 : 0 < nC f (sTx f).length → m (546 + 3 + 1 + 1 * k) 0 = v 0 ∧ w (a0 + 11) (5 * k + 1) = v 0 := fun z => ⟨hc 0 z, hm 0 z⟩
  have v1 : 1 < nC f (sTx f).length → m (546 + 3 + 1 + 1 * k) 1 = v 1 ∧ w (a0 + 11) (5 * k + 2) = v 1 := fun z => ⟨hc 1 z, hm 1 z⟩
  have v2 : 2 < nC f (sTx f).length → m (546 + 3 + 1 + 1 * k) 2 = v 2 ∧ w (a0 + 11) (5 * k + 3) = v 2 := fun z => ⟨hc 2 z, hm 2 z⟩
  have v3 : 3 < nC f (sTx f).length → m (546 + 3 + 1 + 1 * k) 3 = v 3 ∧ w (a0 + 11) (5 * k + 4) = v 3 := fun z => ⟨hc 3 z, hm 3 z⟩
  rcases (show f = 1 ∨ f = 2 ∨ f = 3 ∨ f = 4 ∨ f = 5 ∨ f = 6 ∨ f = 7 ∨ f = 8 by omega) with rfl | rfl | rfl | rfl | rfl | rfl | rfl | rfl
  · obtain ⟨a1, b1⟩ := v0 (by decide)
    refine CMDx.e h (CMD.x h6 h (fun q hq => cmd_room (N := N) (x := v 0) hq)) ?_ (fun m1 h1 => ?_) (hdo _ fun z hz => ?_)
    · show (fX10_roomFault N m 0 (m (546 + 3 + 1 + 1 * k) 0)).bind (fun r => some (m, r)) = _
      rw [a1]
    · show (fX8_putRoom N m1 1 (m1 (546 + 3 + 1 + 1 * k) 0)).bind (fun r => some r.1) = _
      rw [fr m1 h1, a1]
    · subst hz; rw [b1]; rfl
  · obtain ⟨a1, b1⟩ := v0 (by decide)
    obtain ⟨a2, b2⟩ := v1 (by decide)
    obtain ⟨a3, b3⟩ := v2 (by decide)
    obtain ⟨a4, b4⟩ := v3 (by decide)
    refine CMDx.e h (CMD.x h6 h (fun q hq => cmd_leg (N := N) (x := v 0) (y := v 1) (m := v 2) (w := v 3) (by omega) hq)) ?_ (fun m1 h1 => ?_) (hdo _ fun z hz => ?_)
    · show (fX10_legFault N m 0 (m (546 + 3 + 1 + 1 * k) 0) (m (546 + 3 + 1 + 1 * k) 1) (m (546 + 3 + 1 + 1 * k) 2) (m (546 + 3 + 1 + 1 * k) 3)).bind (fun r => some (m, r)) = _
      rw [a1, a2, a3, a4]
    · show (fX8_putLeg N m1 1 (m1 (546 + 3 + 1 + 1 * k) 0) (m1 (546 + 3 + 1 + 1 * k) 1) (m1 (546 + 3 + 1 + 1 * k) 2) (m1 (546 + 3 + 1 + 1 * k) 3)).bind (fun r => some r.1) = _
      rw [fr m1 h1, a1, a2, a3, a4]
    · subst hz; rw [b1, b2, b3, b4]; rfl
  · obtain ⟨a1, b1⟩ := v0 (by decide)
    obtain ⟨a2, b2⟩ := v1 (by decide)
    refine CMDx.e h (CMD.x h6 h (fun q hq => cmd_pile (N := N) (x := v 0) (y := v 1) (by omega) hq)) ?_ (fun m1 h1 => ?_) (hdo _ fun z hz => ?_)
    · show (fX10_pileFault N m 0 (m (546 + 3 + 1 + 1 * k) 0) (m (546 + 3 + 1 + 1 * k) 1)).bind (fun r => some (m, r)) = _
      rw [a1, a2]
    · show (fX8_putExhibit N m1 1 (m1 (546 + 3 + 1 + 1 * k) 0) (m1 (546 + 3 + 1 + 1 * k) 1)).bind (fun r => some r.1) = _
      rw [fr m1 h1, a1, a2]
    · subst hz; rw [b1, b2]; rfl
  · obtain ⟨a1, b1⟩ := v0 (by decide)
    obtain ⟨a2, b2⟩ := v1 (by decide)
    obtain ⟨a3, b3⟩ := v2 (by decide)
    obtain ⟨a4, b4⟩ := v3 (by decide)
    refine CMDx.e h (CMD.x h6 h (fun q hq => cmd_drop (N := N) (x := v 0) (px := v 1) (py := v 2) (g := v 3) (by omega) hq)) ?_ (fun m1 h1 => ?_) (hdo _ fun z hz => ?_)
    · show (fX10_dropFault N m 0 (m (546 + 3 + 1 + 1 * k) 0) (m (546 + 3 + 1 + 1 * k) 1) (m (546 + 3 + 1 + 1 * k) 2) (m (546 + 3 + 1 + 1 * k) 3)).bind (fun r => some (m, r)) = _
      rw [a1, a2, a3, a4]
    · show (ar 5 (m1 (546 + 3 + 1 + 1 * k) 0) fun q42 => (fX6_fallOn N m1 538 ((1 + 16) + 1 + 6 * q42) (m1 (546 + 3 + 1 + 1 * k) 2 * 4 + m1 (546 + 3 + 1 + 1 * k) 1) (m1 (546 + 3 + 1 + 1 * k) 3)).bind fun r56 => some r56.1) = _
      rw [fr m1 h1, a1, a2, a3, a4, ar_bind]; rfl
    · subst hz; rw [b1, b2, b3, b4]; rfl
  · obtain ⟨a1, b1⟩ := v0 (by decide)
    obtain ⟨a2, b2⟩ := v1 (by decide)
    refine CMDx.e h (cmd_send (N := N) (x := v 0) (y := v 1) hN h) ?_ (fun m1 h1 => ?_) (hdo _ fun z hz => ?_)
    · show (fX10_sendFault N m 0 (m (546 + 3 + 1 + 1 * k) 0) (m (546 + 3 + 1 + 1 * k) 1)).bind (fun r => some (r.1, r.2)) = _
      rw [a1, a2]
      cases fX10_sendFault N m 0 (v 0) (v 1) <;> rfl
    · show (ar 5 (m1 (546 + 3 + 1 + 1 * k) 0) fun q61 => (fX10_carry N m1 0 ((1 + 16) + 1 + 6 * q61) (m1 (546 + 3 + 1 + 1 * k) 1)).bind fun r => some r.1) = _
      rw [fr m1 h1, a1, a2, ar_bind]
    · subst hz; rw [b1, b2]; rfl
  · obtain ⟨a1, b1⟩ := v0 (by decide)
    obtain ⟨a2, b2⟩ := v1 (by decide)
    obtain ⟨a3, b3⟩ := v2 (by decide)
    obtain ⟨a4, b4⟩ := v3 (by decide)
    refine CMDx.e h (CMD.x h6 h (fun q hq => cmd_ask (N := N) (x := v 0) (a := v 1) (b := v 2) (c := v 3) (by omega) hq)) ?_ (fun m1 h1 => ?_) (hdo _ fun z hz => ?_)
    · show (fX10_askFault N m 0 (m (546 + 3 + 1 + 1 * k) 0) (m (546 + 3 + 1 + 1 * k) 1) (m (546 + 3 + 1 + 1 * k) 2) (m (546 + 3 + 1 + 1 * k) 3)).bind (fun r => some (m, r)) = _
      rw [a1, a2, a3, a4]
    · show (ar 5 (m1 (546 + 3 + 1 + 1 * k) 0) fun q73 => (fX1_noteLoan N m1 ((1 + 16) + 1 + 6 * q73) (m1 (546 + 3 + 1 + 1 * k) 1) (m1 (546 + 3 + 1 + 1 * k) 2) (m1 (546 + 3 + 1 + 1 * k) 3)).bind fun r => some r.1) = _
      rw [fr m1 h1, a1, a2, a3, a4, ar_bind]
    · subst hz; rw [b1, b2, b3, b4]; rfl
  · obtain ⟨a1, b1⟩ := v0 (by decide)
    refine CMDx.e h (CMD.x h6 h (fun q hq => cmd_take (N := N) (x := v 0) (by omega) hq)) ?_ (fun m1 h1 => ?_) (hdo _ fun z hz => ?_)
    · show (fX10_takeFault N m 0 (m (546 + 3 + 1 + 1 * k) 0)).bind (fun r => some (m, r)) = _
      rw [a1]
    · show (fX8_lend N m1 1 (m1 (546 + 3 + 1 + 1 * k) 0)).bind (fun r => some r.1) = _
      rw [fr m1 h1, a1]
    · subst hz; rw [b1]; rfl
  · obtain ⟨a1, b1⟩ := v0 (by decide)
    refine CMDx.e h (CMD.x h6 h (fun q hq => cmd_days (N := N) (x := v 0) (by omega) hq)) ?_ (fun m1 h1 => ?_) (hdo _ fun z hz => ?_)
    · show (fX10_daysFault N m (m (546 + 3 + 1 + 1 * k) 0)).bind (fun r => some (m, r)) = _
      rw [a1]
    · show (fX8_letDaysPass N m1 1 (m1 (546 + 3 + 1 + 1 * k) 0)).bind (fun r => some r.1) = _
      rw [fr m1 h1, a1]
    · subst hz; rw [b1]; rfl
end EX
