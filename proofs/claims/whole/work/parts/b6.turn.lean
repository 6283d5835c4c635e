/-! Printed by program: the law's loop. -/
theorem lp_in {L j : Nat} (hL : L ≤ 2560) (hj : 5 * j ≤ L) (h : ¬ (Int32.ofNat L - 5 < nI (5 * j))) : 5 * j + 5 ≤ L := by
  refine Classical.byContradiction fun hn => h (Int32.lt_iff_toInt_lt.mpr ?_)
  have h1 := pk_sub_toInt (a := L) (b := 5) (by omega) (by decide)
  have h2 := nI_toInt (n := 5 * j) (by omega)
  have h3 : (Int32.ofNat L - 5).toInt = (L : Int) - 5 := h1
  rw [h3, h2]
  omega
set_option maxHeartbeats 4000000 in
set_option maxRecDepth 100000 in
theorem law_loop {p : Program} {l : Launch} {e : Env} {s : State} {m : MethodId} {below : List Frame} {meth : Method} {c : Code} {b L : Nat} {xs : Nat → Int32} {D : va_G} {T : Nat → ClassId} {B N : Nat} (F : FX l s b D T B) (hN : 1200000000000 ≤ N) (hNP : ∀ x ds, dcN x = some ds → NumP N x ds) (C0 : lw_At p s m meth c b L xs) (hL : L ≤ 2560) :
    ∀ (n j : Nat), j + n = 513 → 5 * j ≤ L → ∀ (μ : Mem) (cap : Nat) (t : List Nat) (ν : Mem) (f : Nat → Int64) (g : Nat → UInt64) (H : Heap) (locs : List Loc) (ls : Array Slot), RR μ ν 0 t → cap ≤ 70 → LI s D T B μ cap t ν f g H → va_S (AL B) s.heap H locs → lv_has ls 9 (LV b B (nI (5 * j))) → W p l e room_1 s m #[.ref b] below meth c H locs (576 + 1450 * j) (19317 + 13186 * j) (lw_Z below #[Value.ref b] s) (F0 m 28 ls []) := by
  obtain ⟨hx, hb, hr, hml, hown, hts, hX, hbl, hlocks, hgv⟩ := id C0
  have hbA : ¬ AL B b := Nat.not_le.mpr (Nat.lt_of_lt_of_le hbl F.2.2.2.2)
  intro n
  induction n with
  | zero =>
    intro j h1 h2
    exact absurd h2 (by omega)
  | succ n ih =>
    intro j h1 h2 μ cap t ν f g H locs ls hR hcap hI hS hl
    refine lv_iload hx hb dL_law_28 (lv_at hl 0 rfl) ?_
    refine lv_aload_n hx hb dL_law_30 rfl (lv_at hl 5 rfl) ?_
    refine va_slen hx hb hX hbl hbA hS dL_law_31 ?_
    refine lv_iconst (v := 5) hx hb dL_law_32 (by decide) ?_
    refine lv_isub hx hb dL_law_33 ?_
    refine lv_icmp_gt (tgt := 3671) hx hb dL_law_34 (by decide) (fun _ => ?_) (fun z => ?_)
    · refine lv_iconst (v := 1) hx hb dL_law_3671 (by decide) ?_
      refine va_forget (fun q hq => Nat.le_trans F.2.2.2.2 (hS.2.2 q hq)) ?_
      refine W.widen (k := 743063) (n := 6770660) (by omega) (by omega) ?_
      exact lw_ret (d0 := s.drawn) (Drawn.sameBut.refl s.drawn lw_cs) hx hb hr hlocks dL_law_3672
    · have hj : 5 * j + 5 ≤ L := lp_in hL h2 z
      have h512 : j ≤ 511 := by omega
      have hce : (576 + 1450 * j) + 1450 ≤ room_1.cells := by
        show (576 + 1450 * j) + 1450 ≤ 743063
        omega
      have hsl : (19317 + 13186 * j) + 13186 ≤ room_1.slots := by
        show (19317 + 13186 * j) + 13186 ≤ 6770660
        omega
      have kk : LK p l e s m b below meth c D T B j (576 + 1450 * j) (19317 + 13186 * j) (lw_Z below #[Value.ref b] s) := by
        intro μ cap t ν f g H locs ls hR hcap hI hS hl
        refine lv_iinc (v := nI (5 * (j + 1))) (lv' := LV b B (nI (5 * (j + 1)))) hx hb dL_law_3665 hl (k := 0) rfl ?_ (by decide) rfl (fun ls hl => ?_)
        · exact nI_add (5 * j) 5
        · refine lv_goto (tgt := 28) hx hb dL_law_3668 (by decide) ?_
          have h := ih (j + 1) (by omega) (by omega) μ cap t ν f g H locs ls hR hcap hI hS hl
          rw [show 576 + 1450 * (j + 1) = 576 + 1450 * j + 1450 by omega, show 19317 + 13186 * (j + 1) = 19317 + 13186 * j + 13186 by omega] at h
          exact h
      refine lv_aload_n hx hb dL_law_37 rfl (lv_at hl 5 rfl) ?_
      refine lv_iload hx hb dL_law_38 (lv_at hl 0 rfl) ?_
      refine va_sld hx hb hX hbl hbA hS (vp_in_nI (by omega) (by omega)) dL_law_40 ?_
      refine lv_bipush (v := 63) hx hb dL_law_41 (by decide) ?_
      refine lv_iand hx hb dL_law_43 ?_
      generalize xs (nI (5 * j)).toNatClampNeg &&& 63 = v
      by_cases c0 : v = 0
      · refine lv_tableIn (tgt := 296) (off := 252) hx hb dL_law_44 (by rw [c0]; decide) (by rw [c0]; decide) (by rw [c0]; rfl) (by decide) ?_
        exact op_0 F hN hNP C0 hL hj hR hcap hI hS hl hce hsl kk
      by_cases c1 : v = 1
      · refine lv_tableIn (tgt := 352) (off := 308) hx hb dL_law_44 (by rw [c1]; decide) (by rw [c1]; decide) (by rw [c1]; rfl) (by decide) ?_
        exact op_1 F hN hNP C0 hL hj hR hcap hI hS hl hce hsl kk
      by_cases c2 : v = 2
      · refine lv_tableIn (tgt := 420) (off := 376) hx hb dL_law_44 (by rw [c2]; decide) (by rw [c2]; decide) (by rw [c2]; rfl) (by decide) ?_
        exact op_2 F hN hNP C0 hL hj hR hcap hI hS hl hce hsl kk
      by_cases c3 : v = 3
      · refine lv_tableIn (tgt := 512) (off := 468) hx hb dL_law_44 (by rw [c3]; decide) (by rw [c3]; decide) (by rw [c3]; rfl) (by decide) ?_
        exact op_3 F hN hNP C0 hL hj hR hcap hI hS hl hce hsl kk
      by_cases c4 : v = 4
      · refine lv_tableIn (tgt := 580) (off := 536) hx hb dL_law_44 (by rw [c4]; decide) (by rw [c4]; decide) (by rw [c4]; rfl) (by decide) ?_
        exact op_4 F hN hNP C0 hL hj hR hcap hI hS hl hce hsl kk
      by_cases c5 : v = 5
      · refine lv_tableIn (tgt := 593) (off := 549) hx hb dL_law_44 (by rw [c5]; decide) (by rw [c5]; decide) (by rw [c5]; rfl) (by decide) ?_
        exact op_5 F hN hNP C0 hL hj hR hcap hI hS hl hce hsl kk
      by_cases c6 : v = 6
      · refine lv_tableIn (tgt := 649) (off := 605) hx hb dL_law_44 (by rw [c6]; decide) (by rw [c6]; decide) (by rw [c6]; rfl) (by decide) ?_
        exact op_6 F hN hNP C0 hL hj hR hcap hI hS hl hce hsl kk
      by_cases c7 : v = 7
      · refine lv_tableIn (tgt := 717) (off := 673) hx hb dL_law_44 (by rw [c7]; decide) (by rw [c7]; decide) (by rw [c7]; rfl) (by decide) ?_
        exact op_7 F hN hNP C0 hL hj hR hcap hI hS hl hce hsl kk
      by_cases c8 : v = 8
      · refine lv_tableIn (tgt := 785) (off := 741) hx hb dL_law_44 (by rw [c8]; decide) (by rw [c8]; decide) (by rw [c8]; rfl) (by decide) ?_
        exact op_8 F hN hNP C0 hL hj hR hcap hI hS hl hce hsl kk
      by_cases c9 : v = 9
      · refine lv_tableIn (tgt := 853) (off := 809) hx hb dL_law_44 (by rw [c9]; decide) (by rw [c9]; decide) (by rw [c9]; rfl) (by decide) ?_
        exact op_9 F hN hNP C0 hL hj hR hcap hI hS hl hce hsl kk
      by_cases c10 : v = 10
      · refine lv_tableIn (tgt := 921) (off := 877) hx hb dL_law_44 (by rw [c10]; decide) (by rw [c10]; decide) (by rw [c10]; rfl) (by decide) ?_
        exact op_10 F hN hNP C0 hL hj hR hcap hI hS hl hce hsl kk
      by_cases c11 : v = 11
      · refine lv_tableIn (tgt := 989) (off := 945) hx hb dL_law_44 (by rw [c11]; decide) (by rw [c11]; decide) (by rw [c11]; rfl) (by decide) ?_
        exact op_11 F hN hNP C0 hL hj hR hcap hI hS hl hce hsl kk
      by_cases c12 : v = 12
      · refine lv_tableIn (tgt := 1069) (off := 1025) hx hb dL_law_44 (by rw [c12]; decide) (by rw [c12]; decide) (by rw [c12]; rfl) (by decide) ?_
        exact op_12 F hN hNP C0 hL hj hR hcap hI hS hl hce hsl kk
      by_cases c13 : v = 13
      · refine lv_tableIn (tgt := 1137) (off := 1093) hx hb dL_law_44 (by rw [c13]; decide) (by rw [c13]; decide) (by rw [c13]; rfl) (by decide) ?_
        exact op_13 F hN hNP C0 hL hj hR hcap hI hS hl hce hsl kk
      by_cases c14 : v = 14
      · refine lv_tableIn (tgt := 1205) (off := 1161) hx hb dL_law_44 (by rw [c14]; decide) (by rw [c14]; decide) (by rw [c14]; rfl) (by decide) ?_
        exact op_14 F hN hNP C0 hL hj hR hcap hI hS hl hce hsl kk
      by_cases c15 : v = 15
      · refine lv_tableIn (tgt := 1297) (off := 1253) hx hb dL_law_44 (by rw [c15]; decide) (by rw [c15]; decide) (by rw [c15]; rfl) (by decide) ?_
        exact op_15 F hN hNP C0 hL hj hR hcap hI hS hl hce hsl kk
      by_cases c16 : v = 16
      · refine lv_tableIn (tgt := 1389) (off := 1345) hx hb dL_law_44 (by rw [c16]; decide) (by rw [c16]; decide) (by rw [c16]; rfl) (by decide) ?_
        exact op_16 F hN hNP C0 hL hj hR hcap hI hS hl hce hsl kk
      by_cases c17 : v = 17
      · refine lv_tableIn (tgt := 1481) (off := 1437) hx hb dL_law_44 (by rw [c17]; decide) (by rw [c17]; decide) (by rw [c17]; rfl) (by decide) ?_
        exact op_17 F hN hNP C0 hL hj hR hcap hI hS hl hce hsl kk
      by_cases c18 : v = 18
      · refine lv_tableIn (tgt := 1494) (off := 1450) hx hb dL_law_44 (by rw [c18]; decide) (by rw [c18]; decide) (by rw [c18]; rfl) (by decide) ?_
        exact op_18 F hN hNP C0 hL hj hR hcap hI hS hl hce hsl kk
      by_cases c19 : v = 19
      · refine lv_tableIn (tgt := 1550) (off := 1506) hx hb dL_law_44 (by rw [c19]; decide) (by rw [c19]; decide) (by rw [c19]; rfl) (by decide) ?_
        exact op_19 F hN hNP C0 hL hj hR hcap hI hS hl hce hsl kk
      by_cases c20 : v = 20
      · refine lv_tableIn (tgt := 1606) (off := 1562) hx hb dL_law_44 (by rw [c20]; decide) (by rw [c20]; decide) (by rw [c20]; rfl) (by decide) ?_
        exact op_20 F hN hNP C0 hL hj hR hcap hI hS hl hce hsl kk
      by_cases c21 : v = 21
      · refine lv_tableIn (tgt := 1686) (off := 1642) hx hb dL_law_44 (by rw [c21]; decide) (by rw [c21]; decide) (by rw [c21]; rfl) (by decide) ?_
        exact op_21 F hN hNP C0 hL hj hR hcap hI hS hl hce hsl kk
      by_cases c22 : v = 22
      · refine lv_tableIn (tgt := 1742) (off := 1698) hx hb dL_law_44 (by rw [c22]; decide) (by rw [c22]; decide) (by rw [c22]; rfl) (by decide) ?_
        exact op_22 F hN hNP C0 hL hj hR hcap hI hS hl hce hsl kk
      by_cases c23 : v = 23
      · refine lv_tableIn (tgt := 1805) (off := 1761) hx hb dL_law_44 (by rw [c23]; decide) (by rw [c23]; decide) (by rw [c23]; rfl) (by decide) ?_
        exact op_23 F hN hNP C0 hL hj hR hcap hI hS hl hce hsl kk
      by_cases c24 : v = 24
      · refine lv_tableIn (tgt := 1868) (off := 1824) hx hb dL_law_44 (by rw [c24]; decide) (by rw [c24]; decide) (by rw [c24]; rfl) (by decide) ?_
        exact op_24 F hN hNP C0 hL hj hR hcap hI hS hl hce hsl kk
      by_cases c25 : v = 25
      · refine lv_tableIn (tgt := 1924) (off := 1880) hx hb dL_law_44 (by rw [c25]; decide) (by rw [c25]; decide) (by rw [c25]; rfl) (by decide) ?_
        exact op_25 F hN hNP C0 hL hj hR hcap hI hS hl hce hsl kk
      by_cases c26 : v = 26
      · refine lv_tableIn (tgt := 1980) (off := 1936) hx hb dL_law_44 (by rw [c26]; decide) (by rw [c26]; decide) (by rw [c26]; rfl) (by decide) ?_
        exact op_26 F hN hNP C0 hL hj hR hcap hI hS hl hce hsl kk
      by_cases c27 : v = 27
      · refine lv_tableIn (tgt := 2036) (off := 1992) hx hb dL_law_44 (by rw [c27]; decide) (by rw [c27]; decide) (by rw [c27]; rfl) (by decide) ?_
        exact op_27 F hN hNP C0 hL hj hR hcap hI hS hl hce hsl kk
      by_cases c28 : v = 28
      · refine lv_tableIn (tgt := 2092) (off := 2048) hx hb dL_law_44 (by rw [c28]; decide) (by rw [c28]; decide) (by rw [c28]; rfl) (by decide) ?_
        exact op_28 F hN hNP C0 hL hj hR hcap hI hS hl hce hsl kk
      by_cases c29 : v = 29
      · refine lv_tableIn (tgt := 2148) (off := 2104) hx hb dL_law_44 (by rw [c29]; decide) (by rw [c29]; decide) (by rw [c29]; rfl) (by decide) ?_
        exact op_29 F hN hNP C0 hL hj hR hcap hI hS hl hce hsl kk
      by_cases c30 : v = 30
      · refine lv_tableIn (tgt := 2216) (off := 2172) hx hb dL_law_44 (by rw [c30]; decide) (by rw [c30]; decide) (by rw [c30]; rfl) (by decide) ?_
        exact op_30 F hN hNP C0 hL hj hR hcap hI hS hl hce hsl kk
      by_cases c31 : v = 31
      · refine lv_tableIn (tgt := 2284) (off := 2240) hx hb dL_law_44 (by rw [c31]; decide) (by rw [c31]; decide) (by rw [c31]; rfl) (by decide) ?_
        exact op_31 F hN hNP C0 hL hj hR hcap hI hS hl hce hsl kk
      by_cases c32 : v = 32
      · refine lv_tableIn (tgt := 2352) (off := 2308) hx hb dL_law_44 (by rw [c32]; decide) (by rw [c32]; decide) (by rw [c32]; rfl) (by decide) ?_
        exact op_32 F hN hNP C0 hL hj hR hcap hI hS hl hce hsl kk
      by_cases c33 : v = 33
      · refine lv_tableIn (tgt := 2420) (off := 2376) hx hb dL_law_44 (by rw [c33]; decide) (by rw [c33]; decide) (by rw [c33]; rfl) (by decide) ?_
        exact op_33 F hN hNP C0 hL hj hR hcap hI hS hl hce hsl kk
      by_cases c34 : v = 34
      · refine lv_tableIn (tgt := 2476) (off := 2432) hx hb dL_law_44 (by rw [c34]; decide) (by rw [c34]; decide) (by rw [c34]; rfl) (by decide) ?_
        exact op_34 F hN hNP C0 hL hj hR hcap hI hS hl hce hsl kk
      by_cases c35 : v = 35
      · refine lv_tableIn (tgt := 2489) (off := 2445) hx hb dL_law_44 (by rw [c35]; decide) (by rw [c35]; decide) (by rw [c35]; rfl) (by decide) ?_
        exact op_35 F hN hNP C0 hL hj hR hcap hI hS hl hce hsl kk
      by_cases c36 : v = 36
      · refine lv_tableIn (tgt := 2581) (off := 2537) hx hb dL_law_44 (by rw [c36]; decide) (by rw [c36]; decide) (by rw [c36]; rfl) (by decide) ?_
        exact op_36 F hN hNP C0 hL hj hR hcap hI hS hl hce hsl kk
      by_cases c37 : v = 37
      · refine lv_tableIn (tgt := 2637) (off := 2593) hx hb dL_law_44 (by rw [c37]; decide) (by rw [c37]; decide) (by rw [c37]; rfl) (by decide) ?_
        exact op_37 F hN hNP C0 hL hj hR hcap hI hS hl hce hsl kk
      by_cases c38 : v = 38
      · refine lv_tableIn (tgt := 2693) (off := 2649) hx hb dL_law_44 (by rw [c38]; decide) (by rw [c38]; decide) (by rw [c38]; rfl) (by decide) ?_
        exact op_38 F hN hNP C0 hL hj hR hcap hI hS hl hce hsl kk
      by_cases c39 : v = 39
      · refine lv_tableIn (tgt := 2749) (off := 2705) hx hb dL_law_44 (by rw [c39]; decide) (by rw [c39]; decide) (by rw [c39]; rfl) (by decide) ?_
        exact op_39 F hN hNP C0 hL hj hR hcap hI hS hl hce hsl kk
      by_cases c40 : v = 40
      · refine lv_tableIn (tgt := 2805) (off := 2761) hx hb dL_law_44 (by rw [c40]; decide) (by rw [c40]; decide) (by rw [c40]; rfl) (by decide) ?_
        exact op_40 F hN hNP C0 hL hj hR hcap hI hS hl hce hsl kk
      by_cases c41 : v = 41
      · refine lv_tableIn (tgt := 2861) (off := 2817) hx hb dL_law_44 (by rw [c41]; decide) (by rw [c41]; decide) (by rw [c41]; rfl) (by decide) ?_
        exact op_41 F hN hNP C0 hL hj hR hcap hI hS hl hce hsl kk
      by_cases c42 : v = 42
      · refine lv_tableIn (tgt := 2936) (off := 2892) hx hb dL_law_44 (by rw [c42]; decide) (by rw [c42]; decide) (by rw [c42]; rfl) (by decide) ?_
        exact op_42 F hN hNP C0 hL hj hR hcap hI hS hl hce hsl kk
      by_cases c43 : v = 43
      · refine lv_tableIn (tgt := 2949) (off := 2905) hx hb dL_law_44 (by rw [c43]; decide) (by rw [c43]; decide) (by rw [c43]; rfl) (by decide) ?_
        exact op_43 F hN hNP C0 hL hj hR hcap hI hS hl hce hsl kk
      by_cases c44 : v = 44
      · refine lv_tableIn (tgt := 2993) (off := 2949) hx hb dL_law_44 (by rw [c44]; decide) (by rw [c44]; decide) (by rw [c44]; rfl) (by decide) ?_
        exact op_44 F hN hNP C0 hL hj hR hcap hI hS hl hce hsl kk
      by_cases c45 : v = 45
      · refine lv_tableIn (tgt := 3037) (off := 2993) hx hb dL_law_44 (by rw [c45]; decide) (by rw [c45]; decide) (by rw [c45]; rfl) (by decide) ?_
        exact op_45 F hN hNP C0 hL hj hR hcap hI hS hl hce hsl kk
      by_cases c46 : v = 46
      · refine lv_tableIn (tgt := 3102) (off := 3058) hx hb dL_law_44 (by rw [c46]; decide) (by rw [c46]; decide) (by rw [c46]; rfl) (by decide) ?_
        exact op_46 F hN hNP C0 hL hj hR hcap hI hS hl hce hsl kk
      by_cases c47 : v = 47
      · refine lv_tableIn (tgt := 3168) (off := 3124) hx hb dL_law_44 (by rw [c47]; decide) (by rw [c47]; decide) (by rw [c47]; rfl) (by decide) ?_
        exact op_47 F hN hNP C0 hL hj hR hcap hI hS hl hce hsl kk
      by_cases c48 : v = 48
      · refine lv_tableIn (tgt := 3224) (off := 3180) hx hb dL_law_44 (by rw [c48]; decide) (by rw [c48]; decide) (by rw [c48]; rfl) (by decide) ?_
        exact op_48 F hN hNP C0 hL hj hR hcap hI hS hl hce hsl kk
      by_cases c49 : v = 49
      · refine lv_tableIn (tgt := 3292) (off := 3248) hx hb dL_law_44 (by rw [c49]; decide) (by rw [c49]; decide) (by rw [c49]; rfl) (by decide) ?_
        exact op_49 F hN hNP C0 hL hj hR hcap hI hS hl hce hsl kk
      by_cases c50 : v = 50
      · refine lv_tableIn (tgt := 3348) (off := 3304) hx hb dL_law_44 (by rw [c50]; decide) (by rw [c50]; decide) (by rw [c50]; rfl) (by decide) ?_
        exact op_50 F hN hNP C0 hL hj hR hcap hI hS hl hce hsl kk
      by_cases c51 : v = 51
      · refine lv_tableIn (tgt := 3361) (off := 3317) hx hb dL_law_44 (by rw [c51]; decide) (by rw [c51]; decide) (by rw [c51]; rfl) (by decide) ?_
        exact op_51 F hN hNP C0 hL hj hR hcap hI hS hl hce hsl kk
      by_cases c52 : v = 52
      · refine lv_tableIn (tgt := 3419) (off := 3375) hx hb dL_law_44 (by rw [c52]; decide) (by rw [c52]; decide) (by rw [c52]; rfl) (by decide) ?_
        exact op_52 F hN hNP C0 hL hj hR hcap hI hS hl hce hsl kk
      by_cases c53 : v = 53
      · refine lv_tableIn (tgt := 3463) (off := 3419) hx hb dL_law_44 (by rw [c53]; decide) (by rw [c53]; decide) (by rw [c53]; rfl) (by decide) ?_
        exact op_53 F hN hNP C0 hL hj hR hcap hI hS hl hce hsl kk
      by_cases c54 : v = 54
      · refine lv_tableIn (tgt := 3507) (off := 3463) hx hb dL_law_44 (by rw [c54]; decide) (by rw [c54]; decide) (by rw [c54]; rfl) (by decide) ?_
        exact op_54 F hN hNP C0 hL hj hR hcap hI hS hl hce hsl kk
      by_cases c55 : v = 55
      · refine lv_tableIn (tgt := 3551) (off := 3507) hx hb dL_law_44 (by rw [c55]; decide) (by rw [c55]; decide) (by rw [c55]; rfl) (by decide) ?_
        exact op_55 F hN hNP C0 hL hj hR hcap hI hS hl hce hsl kk
      by_cases c56 : v = 56
      · refine lv_tableIn (tgt := 3595) (off := 3551) hx hb dL_law_44 (by rw [c56]; decide) (by rw [c56]; decide) (by rw [c56]; rfl) (by decide) ?_
        exact op_56 F hN hNP C0 hL hj hR hcap hI hS hl hce hsl kk
      by_cases c57 : v = 57
      · refine lv_tableIn (tgt := 3608) (off := 3564) hx hb dL_law_44 (by rw [c57]; decide) (by rw [c57]; decide) (by rw [c57]; rfl) (by decide) ?_
        exact op_57 F hN hNP C0 hL hj hR hcap hI hS hl hce hsl kk
      by_cases c58 : v = 58
      · refine lv_tableIn (tgt := 3621) (off := 3577) hx hb dL_law_44 (by rw [c58]; decide) (by rw [c58]; decide) (by rw [c58]; rfl) (by decide) ?_
        exact op_58 F hN hNP C0 hL hj hR hcap hI hS hl hce hsl kk
      refine lv_tableOut (tgt := 3665) hx hb dL_law_44 (sw_out (lo := 0) (hi := 58) (fun k h1 h2 => by rcases (show k = 0 ∨ k = 1 ∨ k = 2 ∨ k = 3 ∨ k = 4 ∨ k = 5 ∨ k = 6 ∨ k = 7 ∨ k = 8 ∨ k = 9 ∨ k = 10 ∨ k = 11 ∨ k = 12 ∨ k = 13 ∨ k = 14 ∨ k = 15 ∨ k = 16 ∨ k = 17 ∨ k = 18 ∨ k = 19 ∨ k = 20 ∨ k = 21 ∨ k = 22 ∨ k = 23 ∨ k = 24 ∨ k = 25 ∨ k = 26 ∨ k = 27 ∨ k = 28 ∨ k = 29 ∨ k = 30 ∨ k = 31 ∨ k = 32 ∨ k = 33 ∨ k = 34 ∨ k = 35 ∨ k = 36 ∨ k = 37 ∨ k = 38 ∨ k = 39 ∨ k = 40 ∨ k = 41 ∨ k = 42 ∨ k = 43 ∨ k = 44 ∨ k = 45 ∨ k = 46 ∨ k = 47 ∨ k = 48 ∨ k = 49 ∨ k = 50 ∨ k = 51 ∨ k = 52 ∨ k = 53 ∨ k = 54 ∨ k = 55 ∨ k = 56 ∨ k = 57 ∨ k = 58 by omega) with rfl | rfl | rfl | rfl | rfl | rfl | rfl | rfl | rfl | rfl | rfl | rfl | rfl | rfl | rfl | rfl | rfl | rfl | rfl | rfl | rfl | rfl | rfl | rfl | rfl | rfl | rfl | rfl | rfl | rfl | rfl | rfl | rfl | rfl | rfl | rfl | rfl | rfl | rfl | rfl | rfl | rfl | rfl | rfl | rfl | rfl | rfl | rfl | rfl | rfl | rfl | rfl | rfl | rfl | rfl | rfl | rfl | rfl | rfl <;> assumption)) (by decide) ?_
      exact lk_end kk (by omega) (by omega) hR hcap hI hS hl
