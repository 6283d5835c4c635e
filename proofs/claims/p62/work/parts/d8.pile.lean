/-! Printed by program: the law's script, and its piles. -/
theorem dL_cell_0 : decode cL_cell 0 = .ok (.iload_n 1, 1) := by decide +kernel
theorem dL_cell_1 : decode cL_cell 1 = .ok (.aload_n 0, 1) := by decide +kernel
theorem dL_cell_2 : decode cL_cell 2 = .ok (.arraylength, 1) := by decide +kernel
theorem dL_cell_3 : decode cL_cell 3 = .ok (.if_icmp .ge 9, 3) := by decide +kernel
theorem dL_cell_6 : decode cL_cell 6 = .ok (.aload_n 0, 1) := by decide +kernel
theorem dL_cell_7 : decode cL_cell 7 = .ok (.iload_n 1, 1) := by decide +kernel
theorem dL_cell_8 : decode cL_cell 8 = .ok (.iaload, 1) := by decide +kernel
theorem dL_cell_9 : decode cL_cell 9 = .ok (.goto 7, 3) := by decide +kernel
theorem dL_cell_12 : decode cL_cell 12 = .ok (.ldc 7, 2) := by decide +kernel
theorem dL_cell_14 : decode cL_cell 14 = .ok (.iload_n 1, 1) := by decide +kernel
theorem dL_cell_15 : decode cL_cell 15 = .ok (.imul, 1) := by decide +kernel
theorem dL_cell_16 : decode cL_cell 16 = .ok (.ireturn, 1) := by decide +kernel
/-- what the script says at a place, or what stands for it behind the script's end -/
def cellL (L : Nat) (xs : Nat → Int32) (k : Int32) : Int32 := if nI L ≤ k then 40503 * k else xs k.toNatClampNeg
theorem vp_in_L {L : Nat} (hL : L ≤ 260) {k : Int32} (h0 : ¬ k < 0) (h1 : ¬ nI L ≤ k) : vp_in k L := by
  have e0 : ¬ k.toInt < 0 := fun z => h0 (Int32.lt_iff_toInt_lt.mpr z)
  rintro (h | h)
  · exact h0 h
  · apply h1
    rw [Int32.le_iff_toInt_le]
    have e1 : (nI L).toInt = (L : Int) := Int32.toInt_ofNat_of_lt (by omega)
    have e2 : k.toNatClampNeg = k.toInt.toNat := rfl
    rw [e1]
    omega
abbrev rmL_cell : Room := { frames := 2, cells := 0, slots := 0, locals := 60 }
theorem metL_cell {l : Launch} {s0 : State} {b B : Nat} {D : va_G} {T : Nat → ClassId} (F : FX l s0 b D T B) {X : Nat → Prop} {L : Nat} {xs : Nat → Int32} (hXs : va_X b L xs s0 s0.heap) (hbl : b < s0.heap.size) (hL : L ≤ 260) {Wp : Heap → Prop} {a1 : Int32} (h0 : ¬ a1 < 0) : gMet l yL_cell cL_cell 2 (some .int) rmL_cell [.ref b, .int a1] Wp (KC s0 X) (some (.int (cellL L xs a1))) Wp (gA B X) 0 0 := by
  refine gI_of RL (by decide +kernel) rfl (Nat.le_of_ble_eq_true rfl) ?_
  intro p e s m args below meth c ls Q hx hb hlocks hml hown hts hW hk hl hS hend
  have hl : lv_has ls 2 [(0, .ref b), (1, .int a1)] := hl
  have hXb : va_X b L xs s s.heap := (hXs.moved hk.1.alike).kept (hk.2.2.1 b hbl)
  have hlb : b < s.heap.size := Nat.lt_of_lt_of_le hbl hk.2.1
  have hbA : ¬ gA B X b := fun z => by
    have h1 := F.2.2.2.2
    have h2 : B ≤ b := z.1
    omega
  refine lv_iload_n hx hb dL_cell_0 rfl (lv_at hl 1 rfl) ?_
  refine lv_aload_n hx hb dL_cell_1 rfl (lv_at hl 0 rfl) ?_
  refine va_slen hx hb hXb hlb hbA hS dL_cell_2 ?_
  refine lv_icmp_ge (tgt := 12) hx hb dL_cell_3 (by decide) (fun hc => ?_) (fun hc => ?_)
  · refine lv_ldc (v := 40503) hx hb hown (hts _ kc_L_7) dL_cell_12 ?_
    refine lv_iload_n hx hb dL_cell_14 rfl (lv_at hl 1 rfl) ?_
    refine lv_imul hx hb dL_cell_15 ?_
    have hend := @hend
    have e9 : cellL L xs a1 = 40503 * a1 := if_pos hc
    rw [e9] at hend
    exact hend dL_cell_16 hW hS (Nat.le_refl _) (Nat.le_refl _)
  · refine lv_aload_n hx hb dL_cell_6 rfl (lv_at hl 0 rfl) ?_
    refine lv_iload_n hx hb dL_cell_7 rfl (lv_at hl 1 rfl) ?_
    refine va_sld hx hb hXb hlb hbA hS (vp_in_L hL h0 hc) dL_cell_8 ?_
    refine lv_goto (tgt := 16) hx hb dL_cell_9 (by decide) ?_
    have hend := @hend
    have e9 : cellL L xs a1 = xs a1.toNatClampNeg := if_neg hc
    rw [e9] at hend
    exact hend dL_cell_16 hW hS (Nat.le_refl _) (Nat.le_refl _)
theorem dL_pile_0 : decode cL_pile 0 = .ok (.iconst 4, 1) := by decide +kernel
theorem dL_pile_1 : decode cL_pile 1 = .ok (.iconst 4, 1) := by decide +kernel
theorem dL_pile_2 : decode cL_pile 2 = .ok (.multianewarray 286 2, 4) := by decide +kernel
theorem dL_pile_6 : decode cL_pile 6 = .ok (.astore_n 2, 1) := by decide +kernel
theorem dL_pile_7 : decode cL_pile 7 = .ok (.iconst 0, 1) := by decide +kernel
theorem dL_pile_8 : decode cL_pile 8 = .ok (.istore_n 3, 1) := by decide +kernel
theorem dL_pile_9 : decode cL_pile 9 = .ok (.iload_n 3, 1) := by decide +kernel
theorem dL_pile_10 : decode cL_pile 10 = .ok (.iconst 4, 1) := by decide +kernel
theorem dL_pile_11 : decode cL_pile 11 = .ok (.if_icmp .ge 38, 3) := by decide +kernel
theorem dL_pile_14 : decode cL_pile 14 = .ok (.iconst 0, 1) := by decide +kernel
theorem dL_pile_15 : decode cL_pile 15 = .ok (.istore 4, 2) := by decide +kernel
theorem dL_pile_17 : decode cL_pile 17 = .ok (.iload 4, 2) := by decide +kernel
theorem dL_pile_19 : decode cL_pile 19 = .ok (.iconst 4, 1) := by decide +kernel
theorem dL_pile_20 : decode cL_pile 20 = .ok (.if_icmp .ge 23, 3) := by decide +kernel
theorem dL_pile_23 : decode cL_pile 23 = .ok (.aload_n 2, 1) := by decide +kernel
theorem dL_pile_24 : decode cL_pile 24 = .ok (.iload_n 3, 1) := by decide +kernel
theorem dL_pile_25 : decode cL_pile 25 = .ok (.aaload, 1) := by decide +kernel
theorem dL_pile_26 : decode cL_pile 26 = .ok (.iload 4, 2) := by decide +kernel
theorem dL_pile_28 : decode cL_pile 28 = .ok (.aload_n 0, 1) := by decide +kernel
theorem dL_pile_29 : decode cL_pile 29 = .ok (.iload_n 1, 1) := by decide +kernel
theorem dL_pile_30 : decode cL_pile 30 = .ok (.iload 4, 2) := by decide +kernel
theorem dL_pile_32 : decode cL_pile 32 = .ok (.iload_n 3, 1) := by decide +kernel
theorem dL_pile_33 : decode cL_pile 33 = .ok (.invokevirtual 76, 3) := by decide +kernel
theorem dL_pile_36 : decode cL_pile 36 = .ok (.iastore, 1) := by decide +kernel
theorem dL_pile_37 : decode cL_pile 37 = .ok (.iinc 4 1, 3) := by decide +kernel
theorem dL_pile_40 : decode cL_pile 40 = .ok (.goto (-23), 3) := by decide +kernel
theorem dL_pile_43 : decode cL_pile 43 = .ok (.iinc 3 1, 3) := by decide +kernel
theorem dL_pile_46 : decode cL_pile 46 = .ok (.goto (-37), 3) := by decide +kernel
theorem dL_pile_49 : decode cL_pile 49 = .ok (.aload_n 2, 1) := by decide +kernel
theorem dL_pile_50 : decode cL_pile 50 = .ok (.areturn, 1) := by decide +kernel
noncomputable def fL_pile (N : Nat) (Z : Nat → Int32) (K : Nat) (a1 : Int32) : Option Mem :=
  gd (5 ≤ K) <|
  fix3 (fun self5 (x2 : Int32) (m3 : Mem) (κ4 : Nat) =>
  if 4 ≤ x2 then
  (gd (κ4 ≤ K) <|
  some m3)
  else (fix3 (fun self12 (x9 : Int32) (m10 : Mem) (κ11 : Nat) =>
  if 4 ≤ x9 then
  (lt (x2 + 1) fun v15 =>
  self5 v15 m10 κ11)
  else (ar 4 x2 fun q17 =>
  gd ((κ11 + 2) ≤ K) <|
  (gR (aGrainsAt Z a1 x9 x2)).bind fun v22 =>
  aw m10 (0 + 1 + 1 * q17) 4 x9 v22 fun μ24 =>
  lt (x9 + 1) fun v27 =>
  self12 v27 μ24 (κ11 + 2))) N 0 m3 κ4)) N 0 m0L 5
abbrev rmL_pile (K : Nat) : Room := { frames := 8, cells := K, slots := 6 * K, locals := 165 }
set_option maxHeartbeats 4000000 in
set_option maxRecDepth 100000 in
theorem metL_pile {l : Launch} {s0 : State} {b B : Nat} {D : va_G} {T : Nat → ClassId} (F : FX l s0 b D T B) {X : Nat → Prop} (hX : ∀ o, o < 561 → ¬ X (B + o)) {N : Nat} (hN : 1200000000000 ≤ N) {Z : Nat → Int32} {hs : List (Nat → Int32)} {t : List Nat} {K h0 : Nat} {a1 : Int32} {r : Mem} (h : fL_pile N Z K a1 = some r) : gMetQ l yL_pile cL_pile 5 (some (.array (.array .int))) (rmL_pile K) [.ref (B + 0), .int a1] (fun H9 => gZ s0 D T B X Z hs t H9 ∧ H9.size = h0) (KC s0 X) (gQP s0 D T B X Z hs t h0 r) (gA B X) K (6 * K) := by
  refine gQA_of RL (by decide +kernel) rfl (Nat.le_of_ble_eq_true rfl) ?_
  intro p e s m args below meth c ls Q hx hb hlocks hml hown hts hW hk hl hS hend
  have hC := FX_C F hk hx hb hown hts
  have hl : lv_has ls 5 [(0, .ref (B + 0)), (1, .int a1)] := hl
  unfold fL_pile at h
  obtain ⟨hW, hh0⟩ := hW
  replace hW := gZL_nil hW
  refine lv_iconst (v := 4) hx hb dL_pile_0 (by decide) ?_
  refine lv_iconst (v := 4) hx hb dL_pile_1 (by decide) ?_
  obtain ⟨g1, h⟩ := gd_out h
  refine gk_mna hk hC cl_L_286 (FX_AOA F hk ao_int) lac_int hS (gZL_out hW) (by show _ ≤ K; omega) (by show _ ≤ 6 * K; omega) dL_pile_2 (fun H _ hW hS => ?_)
  refine W.widen (k := 5) (n := 6 * 5) (by omega) (by omega) ?_
  refine lv_astore_n (lv' := [(2, .ref (s.heap.size + 0)), (0, .ref (B + 0)), (1, .int a1)]) hx hb dL_pile_6 rfl hl (by decide) rfl (fun ls hl => ?_)
  refine lv_iconst (v := 0) hx hb dL_pile_7 (by decide) ?_
  refine lv_istore_n (lv' := [(3, .int 0), (2, .ref (s.heap.size + 0)), (0, .ref (B + 0)), (1, .int a1)]) hx hb dL_pile_8 rfl hl (by decide) rfl (fun ls hl => ?_)
  refine W.widen (k := 5) (n := 6 * 5) (by omega) (by omega) ?_
  refine fix3_ind (fun (x2 : Int32) (m3 : Mem) (κ4 : Nat) => ∀ (H : Heap) (locs : List Loc) (ls : Array Slot), gZL s0 D T B X Z hs t [s.heap.size] [m3] H → va_S (gA B X) s.heap H locs → lv_has ls 5 [(0, .ref (B + 0)), (1, .int a1), (2, .ref (s.heap.size + 0)), (3, .int x2)] → W p l e (rmL_pile K) s m args below meth c H locs κ4 (6 * κ4) Q (F0 m 9 ls [])) ?_ N _ _ _ h _ _ _ hW hS (lv_sub hl [2, 3, 1, 0] rfl)
  clear h hW hS hl
  intro self5 IH6 x2 m3 κ4 h H locs ls hW hS hl
  refine lv_iload_n hx hb dL_pile_9 rfl (lv_at hl 3 rfl) ?_
  refine lv_iconst (v := 4) hx hb dL_pile_10 (by decide) ?_
  refine lv_icmp_ge (tgt := 49) hx hb dL_pile_11 (by decide) (fun c7 => ?_) (fun c7 => ?_)
  · replace h := ite_t c7 h
    refine lv_aload_n hx hb dL_pile_49 rfl (lv_at hl 2 rfl) ?_
    obtain ⟨g8, h⟩ := gd_out h
    cases h
    exact hend dL_pile_50 ⟨s.heap.size, rfl, Nat.le_of_eq hh0.symm, hW⟩ hS (by omega) (by omega)
  · replace h := ite_f c7 h
    refine lv_iconst (v := 0) hx hb dL_pile_14 (by decide) ?_
    refine lv_istore (lv' := [(4, .int 0), (0, .ref (B + 0)), (1, .int a1), (2, .ref (s.heap.size + 0)), (3, .int x2)]) hx hb dL_pile_15 hl (by decide) rfl (fun ls hl => ?_)
    refine W.widen (k := κ4) (n := 6 * κ4) (by omega) (by omega) ?_
    refine fix3_ind (fun (x9 : Int32) (m10 : Mem) (κ11 : Nat) => ∀ (H : Heap) (locs : List Loc) (ls : Array Slot), gZL s0 D T B X Z hs t [s.heap.size] [m10] H → va_S (gA B X) s.heap H locs → lv_has ls 5 [(0, .ref (B + 0)), (1, .int a1), (2, .ref (s.heap.size + 0)), (3, .int x2), (4, .int x9)] → W p l e (rmL_pile K) s m args below meth c H locs κ11 (6 * κ11) Q (F0 m 17 ls [])) ?_ N _ _ _ h _ _ _ hW hS (lv_sub hl [1, 2, 3, 4, 0] rfl)
    clear h hW hS hl
    intro self12 IH13 x9 m10 κ11 h H locs ls hW hS hl
    refine lv_iload hx hb dL_pile_17 (lv_at hl 4 rfl) ?_
    refine lv_iconst (v := 4) hx hb dL_pile_19 (by decide) ?_
    refine lv_icmp_ge (tgt := 43) hx hb dL_pile_20 (by decide) (fun c14 => ?_) (fun c14 => ?_)
    · replace h := ite_t c14 h
      obtain ⟨v15, e16, h⟩ := lt_out h
      refine lv_iinc (v := v15) (lv' := [(3, .int v15), (0, .ref (B + 0)), (1, .int a1), (2, .ref (s.heap.size + 0)), (4, .int x9)]) hx hb dL_pile_43 hl (k := 3) rfl (by rw [e16]; rfl) (by decide) rfl (fun ls hl => ?_)
      refine lv_goto (tgt := 9) hx hb dL_pile_46 (by decide) ?_
      refine W.widen (k := κ11) (n := 6 * κ11) (by omega) (by omega) ?_
      exact IH6 _ _ _ h _ _ _ hW hS (lv_sub hl [1, 2, 3, 0] rfl)
    · replace h := ite_f c14 h
      refine lv_aload_n hx hb dL_pile_23 rfl (lv_at hl 2 rfl) ?_
      refine lv_iload_n hx hb dL_pile_24 rfl (lv_at hl 3 rfl) ?_
      obtain ⟨q17, e18, hq19, hi20, h⟩ := ar_o h
      refine gq_aald hC (show gWP D T s.heap.size m10 H from gZL_p 0 s.heap.size hW rfl) is_PG.1 (is_PG.2.1 T s.heap.size (m10 0)) (t0 := 3) rfl rfl e18 hi20 dL_pile_25 ?_
      refine lv_iload hx hb dL_pile_26 (lv_at hl 4 rfl) ?_
      refine lv_aload_n hx hb dL_pile_28 rfl (lv_at hl 0 rfl) ?_
      refine lv_iload_n hx hb dL_pile_29 rfl (lv_at hl 1 rfl) ?_
      refine lv_iload hx hb dL_pile_30 (lv_at hl 4 rfl) ?_
      refine lv_iload_n hx hb dL_pile_32 rfl (lv_at hl 3 rfl) ?_
      obtain ⟨g21, h⟩ := gd_out h
      obtain ⟨v22, hv23, h⟩ := bd_out h
      refine gk_dx (As := [.int a1, .int x9, .int x2]) (o := oI) (w := .int v22) F hX hk hC hml hS hW (fun μ hP => z_grainsAt (N := N) hP) (fun μ r h9 X9 hX9 => metX10_grainsAt F hX9 is_Ga h9) (gR_o hv23) rfl ml_L_76 rfl ⟨rfl, rfl, (by first | exact Nat.le_of_ble_eq_true rfl | (simp only [rmL_pile]; omega) | (simp only [rmL_pile]; omega)), (by first | exact Nat.le_of_ble_eq_true rfl | (simp only [rmL_pile]; omega) | (simp only [rmL_pile]; omega))⟩ rfl hl.1 rfl (by first | exact Nat.le_of_ble_eq_true rfl | (simp only [rmL_pile]; omega) | (simp only [rmL_pile]; omega)) dL_pile_33 ⟨(by show _ ≤ K; omega), (by show _ ≤ 6 * K; omega)⟩ (fun H locs hW hS => ?_)
      refine W.widen (k := (κ11 + 2)) (n := 6 * (κ11 + 2)) (by omega) (by omega) ?_
      obtain ⟨μ24, e25, hi26, h⟩ := aw_o h
      refine gk_iast (i := 0) (q := s.heap.size) (o := 0 + 1 + 1 * q17) rfl hC hS hW (is_PG.2.2 q17 hq19) e25 hi26 dL_pile_36 (fun H locs hW hS => ?_)
      replace hW : gZL s0 D T B X Z hs t [s.heap.size] [μ24] H := hW
      obtain ⟨v27, e28, h⟩ := lt_out h
      refine lv_iinc (v := v27) (lv' := [(4, .int v27), (0, .ref (B + 0)), (1, .int a1), (2, .ref (s.heap.size + 0)), (3, .int x2)]) hx hb dL_pile_37 hl (k := 4) rfl (by rw [e28]; rfl) (by decide) rfl (fun ls hl => ?_)
      refine lv_goto (tgt := 17) hx hb dL_pile_40 (by decide) ?_
      refine W.widen (k := (κ11 + 2)) (n := 6 * (κ11 + 2)) (by omega) (by omega) ?_
      exact IH13 _ _ _ h _ _ _ hW hS (lv_sub hl [1, 2, 3, 4, 0] rfl)

