/-! Printed by program: the reference: slopes, numbers as text, what is written. -/
theorem dX11_slope_0 : decode cX11_slope 0 = .ok (.iconst 0, 1) := by decide +kernel
theorem dX11_slope_1 : decode cX11_slope 1 = .ok (.istore_n 3, 1) := by decide +kernel
theorem dX11_slope_2 : decode cX11_slope 2 = .ok (.iconst 0, 1) := by decide +kernel
theorem dX11_slope_3 : decode cX11_slope 3 = .ok (.istore 4, 2) := by decide +kernel
theorem dX11_slope_5 : decode cX11_slope 5 = .ok (.iload 4, 2) := by decide +kernel
theorem dX11_slope_7 : decode cX11_slope 7 = .ok (.iconst 4, 1) := by decide +kernel
theorem dX11_slope_8 : decode cX11_slope 8 = .ok (.if_icmp .ge 72, 3) := by decide +kernel
theorem dX11_slope_11 : decode cX11_slope 11 = .ok (.iload_n 2, 1) := by decide +kernel
theorem dX11_slope_12 : decode cX11_slope 12 = .ok (.iload 4, 2) := by decide +kernel
theorem dX11_slope_14 : decode cX11_slope 14 = .ok (.invokestatic 153, 3) := by decide +kernel
theorem dX11_slope_17 : decode cX11_slope 17 = .ok (.istore 5, 2) := by decide +kernel
theorem dX11_slope_19 : decode cX11_slope 19 = .ok (.iload 5, 2) := by decide +kernel
theorem dX11_slope_21 : decode cX11_slope 21 = .ok (.ifCond .lt 29, 3) := by decide +kernel
theorem dX11_slope_24 : decode cX11_slope 24 = .ok (.aload_n 0, 1) := by decide +kernel
theorem dX11_slope_25 : decode cX11_slope 25 = .ok (.iload_n 1, 1) := by decide +kernel
theorem dX11_slope_26 : decode cX11_slope 26 = .ok (.bipush 7, 2) := by decide +kernel
theorem dX11_slope_28 : decode cX11_slope 28 = .ok (.iload 5, 2) := by decide +kernel
theorem dX11_slope_30 : decode cX11_slope 30 = .ok (.iadd, 1) := by decide +kernel
theorem dX11_slope_31 : decode cX11_slope 31 = .ok (.invokevirtual 144, 3) := by decide +kernel
theorem dX11_slope_34 : decode cX11_slope 34 = .ok (.aload_n 0, 1) := by decide +kernel
theorem dX11_slope_35 : decode cX11_slope 35 = .ok (.iload_n 1, 1) := by decide +kernel
theorem dX11_slope_36 : decode cX11_slope 36 = .ok (.bipush 7, 2) := by decide +kernel
theorem dX11_slope_38 : decode cX11_slope 38 = .ok (.iload_n 2, 1) := by decide +kernel
theorem dX11_slope_39 : decode cX11_slope 39 = .ok (.iadd, 1) := by decide +kernel
theorem dX11_slope_40 : decode cX11_slope 40 = .ok (.invokevirtual 144, 3) := by decide +kernel
theorem dX11_slope_43 : decode cX11_slope 43 = .ok (.if_icmp .ge 7, 3) := by decide +kernel
theorem dX11_slope_46 : decode cX11_slope 46 = .ok (.iconst 1, 1) := by decide +kernel
theorem dX11_slope_47 : decode cX11_slope 47 = .ok (.goto 4, 3) := by decide +kernel
theorem dX11_slope_50 : decode cX11_slope 50 = .ok (.iconst 0, 1) := by decide +kernel
theorem dX11_slope_51 : decode cX11_slope 51 = .ok (.istore 6, 2) := by decide +kernel
theorem dX11_slope_53 : decode cX11_slope 53 = .ok (.iload 6, 2) := by decide +kernel
theorem dX11_slope_55 : decode cX11_slope 55 = .ok (.ifCond .eq 17, 3) := by decide +kernel
theorem dX11_slope_58 : decode cX11_slope 58 = .ok (.iload_n 3, 1) := by decide +kernel
theorem dX11_slope_59 : decode cX11_slope 59 = .ok (.aload_n 0, 1) := by decide +kernel
theorem dX11_slope_60 : decode cX11_slope 60 = .ok (.iload_n 1, 1) := by decide +kernel
theorem dX11_slope_61 : decode cX11_slope 61 = .ok (.iload 5, 2) := by decide +kernel
theorem dX11_slope_63 : decode cX11_slope 63 = .ok (.invokevirtual 185, 3) := by decide +kernel
theorem dX11_slope_66 : decode cX11_slope 66 = .ok (.invokestatic 77, 3) := by decide +kernel
theorem dX11_slope_69 : decode cX11_slope 69 = .ok (.goto 4, 3) := by decide +kernel
theorem dX11_slope_72 : decode cX11_slope 72 = .ok (.iload_n 3, 1) := by decide +kernel
theorem dX11_slope_73 : decode cX11_slope 73 = .ok (.istore_n 3, 1) := by decide +kernel
theorem dX11_slope_74 : decode cX11_slope 74 = .ok (.iinc 4 1, 3) := by decide +kernel
theorem dX11_slope_77 : decode cX11_slope 77 = .ok (.goto (-72), 3) := by decide +kernel
theorem dX11_slope_80 : decode cX11_slope 80 = .ok (.iconst 1, 1) := by decide +kernel
theorem dX11_slope_81 : decode cX11_slope 81 = .ok (.iload_n 3, 1) := by decide +kernel
theorem dX11_slope_82 : decode cX11_slope 82 = .ok (.iadd, 1) := by decide +kernel
theorem dX11_slope_83 : decode cX11_slope 83 = .ok (.ireturn, 1) := by decide +kernel
abbrev rmX11_slope (n : Nat) : Room := { frames := n + 4, cells := 0, slots := 0, locals := 60 * n + 105 }
set_option maxHeartbeats 4000000 in
set_option maxRecDepth 100000 in
theorem metX11_slope {l : Launch} {s0 : State} {b B : Nat} {D : va_G} {T : Nat → ClassId} (F : FX l s0 b D T B) {X : Nat → Prop} (hX : ∀ o, o < 12 → ¬ X (B + o)) {N : Nat} : ∀ (n : Nat) {μ : Mem} {a0 : Nat} {a1 : Int32} {a2 : Int32} {r : Int32} (k0 : IsMo a0) (h : fX11_slope N n μ a0 a1 a2 = some r), gMet l yX11_slope cX11_slope 7 (some .int) (rmX11_slope n) [.ref (B + a0), .int a1, .int a2] (gWM D T B μ) (KC s0 X) (some (.int r)) (gWM D T B μ) (gA B X) 0 0 := by
  intro n
  induction n with
  | zero =>
    intro μ a0 a1 a2 r k0 h
    cases h
  | succ n ih =>
    intro μ a0 a1 a2 r k0 h
    refine gI_of RX11 (by decide +kernel) rfl (by first | exact Nat.le_of_ble_eq_true rfl | (simp only [rmX11_slope, rmX11_beside, rmX11_of]; omega) | (simp only [rmX11_slope]; omega)) ?_
    intro p e s m args below meth c ls Q hx hb hlocks hml hown hts hW hk hl hS hend
    have hC := FX_C F hk hx hb hown hts
    have hA := gA_allM hX
    have hl : lv_has ls 7 [(0, .ref (B + a0)), (1, .int a1), (2, .int a2)] := hl
    unfold fX11_slope at h
    refine lv_iconst (v := 0) hx hb dX11_slope_0 (by decide) ?_
    refine lv_istore_n (lv' := [(3, .int 0), (0, .ref (B + a0)), (1, .int a1), (2, .int a2)]) hx hb dX11_slope_1 rfl hl (by decide) rfl (fun ls hl => ?_)
    refine lv_iconst (v := 0) hx hb dX11_slope_2 (by decide) ?_
    refine lv_istore (lv' := [(4, .int 0), (3, .int 0), (0, .ref (B + a0)), (1, .int a1), (2, .int a2)]) hx hb dX11_slope_3 hl (by decide) rfl (fun ls hl => ?_)
    refine fix2_ind (fun (x1 : Int32) (x2 : Int32) => ∀ (H : Heap) (locs : List Loc) (ls : Array Slot), gWM D T B μ H → va_S (gA B X) s.heap H locs → lv_has ls 7 [(0, .ref (B + a0)), (1, .int a1), (2, .int a2), (3, .int x1), (4, .int x2)] → W p l e (rmX11_slope (n + 1)) s m args below meth c H locs 0 0 Q (F0 m 5 ls [])) ?_ N _ _ h _ _ _ hW hS (lv_sub hl [2, 3, 4, 1, 0] rfl)
    clear h hW hS hl
    intro self3 IH4 x1 x2 h H locs ls hW hS hl
    refine lv_iload hx hb dX11_slope_5 (lv_at hl 4 rfl) ?_
    refine lv_iconst (v := 4) hx hb dX11_slope_7 (by decide) ?_
    refine lv_icmp_ge (tgt := 80) hx hb dX11_slope_8 (by decide) (fun c5 => ?_) (fun c5 => ?_)
    · replace h := ite_t c5 h
      refine lv_iconst (v := 1) hx hb dX11_slope_80 (by decide) ?_
      refine lv_iload_n hx hb dX11_slope_81 rfl (lv_at hl 3 rfl) ?_
      refine lv_iadd hx hb dX11_slope_82 ?_
      cases h
      exact hend dX11_slope_83 hW hS (by first | exact Nat.le_of_ble_eq_true rfl | (simp only [rmX11_slope, rmX11_beside, rmX11_of]; omega) | (simp only [rmX11_slope]; omega)) (by first | exact Nat.le_of_ble_eq_true rfl | (simp only [rmX11_slope, rmX11_beside, rmX11_of]; omega) | (simp only [rmX11_slope]; omega))
    · replace h := ite_f c5 h
      refine lv_iload_n hx hb dX11_slope_11 rfl (lv_at hl 2 rfl) ?_
      refine lv_iload hx hb dX11_slope_12 (lv_at hl 4 rfl) ?_
      obtain ⟨r6, hcall, h⟩ := bd_out h
      refine g0_callS (As := [.int a2, .int x2]) hC hml hS hW (KC_at hk hS F.2.2.2.2) KC_blind (metX11_beside F hX  hcall) ml_X11_153 ⟨rfl, rfl, (by first | exact Nat.le_of_ble_eq_true rfl | (simp only [rmX11_slope, rmX11_beside, rmX11_of]; omega) | (simp only [rmX11_slope]; omega)), (by first | exact Nat.le_of_ble_eq_true rfl | (simp only [rmX11_slope, rmX11_beside, rmX11_of]; omega) | (simp only [rmX11_slope]; omega))⟩ rfl hl.1 rfl (by first | exact Nat.le_of_ble_eq_true rfl | (simp only [rmX11_slope, rmX11_beside, rmX11_of]; omega) | (simp only [rmX11_slope]; omega)) dX11_slope_14 ⟨(by first | exact Nat.le_of_ble_eq_true rfl | (simp only [rmX11_slope, rmX11_beside, rmX11_of]; omega) | (simp only [rmX11_slope]; omega)), (by first | exact Nat.le_of_ble_eq_true rfl | (simp only [rmX11_slope, rmX11_beside, rmX11_of]; omega) | (simp only [rmX11_slope]; omega))⟩ (fun H locs hW hS => ?_)
      refine lv_istore (lv' := [(5, .int r6), (0, .ref (B + a0)), (1, .int a1), (2, .int a2), (3, .int x1), (4, .int x2)]) hx hb dX11_slope_17 hl (by decide) rfl (fun ls hl => ?_)
      refine lv_iload hx hb dX11_slope_19 (lv_at hl 0 rfl) ?_
      obtain ⟨j8, hj10, h⟩ := jn1_o h
      have J9 : ∀ (y7 : Bool), j8 y7 = some r → ∀ (H : Heap) (locs : List Loc) (ls : Array Slot), gWM D T B μ H → va_S (gA B X) s.heap H locs → lv_has ls 7 [(0, .ref (B + a0)), (1, .int a1), (2, .int a2), (3, .int x1), (4, .int x2), (5, .int r6)] → W p l e (rmX11_slope (n + 1)) s m args below meth c H locs 0 0 Q (F0 m 51 ls [.int (b2i y7)]) := by
        clear h hW hS hl
        intro y7 h H locs ls hW hS hl
        replace h := (hj10 y7).symm.trans h
        refine lv_istore (lv' := [(6, .int (b2i y7)), (0, .ref (B + a0)), (1, .int a1), (2, .int a2), (3, .int x1), (4, .int x2), (5, .int r6)]) hx hb dX11_slope_51 hl (by decide) rfl (fun ls hl => ?_)
        refine lv_iload hx hb dX11_slope_53 (lv_at hl 0 rfl) ?_
        obtain ⟨j12, hj14, h⟩ := jn1_o h
        have J13 : ∀ (y11 : Int32), j12 y11 = some r → ∀ (H : Heap) (locs : List Loc) (ls : Array Slot), gWM D T B μ H → va_S (gA B X) s.heap H locs → lv_has ls 7 [(0, .ref (B + a0)), (1, .int a1), (2, .int a2), (4, .int x2)] → W p l e (rmX11_slope (n + 1)) s m args below meth c H locs 0 0 Q (F0 m 73 ls [.int y11]) := by
          clear h hW hS hl
          intro y11 h H locs ls hW hS hl
          replace h := (hj14 y11).symm.trans h
          refine lv_istore_n (lv' := [(3, .int y11), (0, .ref (B + a0)), (1, .int a1), (2, .int a2), (4, .int x2)]) hx hb dX11_slope_73 rfl hl (by decide) rfl (fun ls hl => ?_)
          obtain ⟨v15, e16, h⟩ := lt_out h
          refine lv_iinc (v := v15) (lv' := [(4, .int v15), (3, .int y11), (0, .ref (B + a0)), (1, .int a1), (2, .int a2)]) hx hb dX11_slope_74 hl (k := 4) rfl (by rw [e16]; rfl) (by decide) rfl (fun ls hl => ?_)
          refine lv_goto (tgt := 5) hx hb dX11_slope_77 (by decide) ?_
          exact IH4 _ _ h _ _ _ hW hS (lv_sub hl [2, 3, 4, 1, 0] rfl)
        refine gw_if_eqZ (tgt := 72) hx hb dX11_slope_55 (by decide) (fun c17 => ?_) (fun c17 => ?_)
        · replace h := cond_f c17 h
          refine lv_iload_n hx hb dX11_slope_72 rfl (lv_at hl 4 rfl) ?_
          exact J13 _ h _ _ _ hW hS (lv_sub hl [1, 2, 3, 5] rfl)
        · replace h := cond_t c17 h
          refine lv_iload_n hx hb dX11_slope_58 rfl (lv_at hl 4 rfl) ?_
          refine lv_aload_n hx hb dX11_slope_59 rfl (lv_at hl 1 rfl) ?_
          refine lv_iload_n hx hb dX11_slope_60 rfl (lv_at hl 2 rfl) ?_
          refine lv_iload hx hb dX11_slope_61 (lv_at hl 6 rfl) ?_
          obtain ⟨r18, hcall, h⟩ := bd_out h
          refine g0_callV (As := [.int a1, .int r6]) hC hml hS hW (KC_at hk hS F.2.2.2.2) KC_blind (ih k0 hcall) ml_X11_185 (gw_recv hC hW k0.1 (k0.2.1 T B (μ a0)) rfl) ⟨rfl, rfl, (by first | exact Nat.le_of_ble_eq_true rfl | (simp only [rmX11_slope, rmX11_beside, rmX11_of]; omega) | (simp only [rmX11_slope]; omega)), (by first | exact Nat.le_of_ble_eq_true rfl | (simp only [rmX11_slope, rmX11_beside, rmX11_of]; omega) | (simp only [rmX11_slope]; omega))⟩ rfl hl.1 rfl (by first | exact Nat.le_of_ble_eq_true rfl | (simp only [rmX11_slope, rmX11_beside, rmX11_of]; omega) | (simp only [rmX11_slope]; omega)) dX11_slope_63 ⟨(by first | exact Nat.le_of_ble_eq_true rfl | (simp only [rmX11_slope, rmX11_beside, rmX11_of]; omega) | (simp only [rmX11_slope]; omega)), (by first | exact Nat.le_of_ble_eq_true rfl | (simp only [rmX11_slope, rmX11_beside, rmX11_of]; omega) | (simp only [rmX11_slope]; omega))⟩ (fun H locs hW hS => ?_)
          refine gw_max hC (hml.trans hl.1.symm) lm_X11_77 lb_max.1 lb_max.2.1 lb_max.2.2 (by first | exact Nat.le_of_ble_eq_true rfl | (simp only [rmX11_slope, rmX11_beside, rmX11_of]; omega) | (simp only [rmX11_slope]; omega)) (by first | exact Nat.le_of_ble_eq_true rfl | (simp only [rmX11_slope, rmX11_beside, rmX11_of]; omega) | (simp only [rmX11_slope]; omega)) (by first | exact Nat.le_of_ble_eq_true rfl | (simp only [rmX11_slope, rmX11_beside, rmX11_of]; omega) | (simp only [rmX11_slope]; omega)) (by first | exact Nat.le_of_ble_eq_true rfl | (simp only [rmX11_slope, rmX11_beside, rmX11_of]; omega) | (simp only [rmX11_slope]; omega)) dX11_slope_66 ?_
          refine lv_goto (tgt := 73) hx hb dX11_slope_69 (by decide) ?_
          exact J13 _ h _ _ _ hW hS (lv_sub hl [1, 2, 3, 5] rfl)
      obtain ⟨j20, hj22, h⟩ := jn1_o h
      have J21 : ∀ (u19 : Unit), j20 u19 = some r → ∀ (H : Heap) (locs : List Loc) (ls : Array Slot), gWM D T B μ H → va_S (gA B X) s.heap H locs → lv_has ls 7 [(0, .ref (B + a0)), (1, .int a1), (2, .int a2), (3, .int x1), (4, .int x2), (5, .int r6)] → W p l e (rmX11_slope (n + 1)) s m args below meth c H locs 0 0 Q (F0 m 50 ls []) := by
        clear h hW hS hl
        intro u19 h H locs ls hW hS hl
        replace h := (hj22 u19).symm.trans h
        refine lv_iconst (v := 0) hx hb dX11_slope_50 (by decide) ?_
        exact J9 _ h _ _ _ hW hS (lv_sub hl [0, 1, 2, 3, 4, 5] rfl)
      refine lv_if_lt (tgt := 50) hx hb dX11_slope_21 (by decide) (fun c23 => ?_) (fun c23 => ?_)
      · replace h := ite_t c23 h
        exact J21 _ h _ _ _ hW hS (lv_sub hl [1, 2, 3, 4, 5, 0] rfl)
      · replace h := ite_f c23 h
        refine lv_aload_n hx hb dX11_slope_24 rfl (lv_at hl 1 rfl) ?_
        refine lv_iload_n hx hb dX11_slope_25 rfl (lv_at hl 2 rfl) ?_
        refine lv_bipush (v := 7) hx hb dX11_slope_26 (by decide) ?_
        refine lv_iload hx hb dX11_slope_28 (lv_at hl 0 rfl) ?_
        refine lv_iadd hx hb dX11_slope_30 ?_
        obtain ⟨r24, hcall, h⟩ := bd_out h
        refine g0_callV (As := [.int a1, .int (7 + r6)]) hC hml hS hW (KC_at hk hS F.2.2.2.2) KC_blind (metX11_of F hX k0 hcall) ml_X11_144 (gw_recv hC hW k0.1 (k0.2.1 T B (μ a0)) rfl) ⟨rfl, rfl, (by first | exact Nat.le_of_ble_eq_true rfl | (simp only [rmX11_slope, rmX11_beside, rmX11_of]; omega) | (simp only [rmX11_slope]; omega)), (by first | exact Nat.le_of_ble_eq_true rfl | (simp only [rmX11_slope, rmX11_beside, rmX11_of]; omega) | (simp only [rmX11_slope]; omega))⟩ rfl hl.1 rfl (by first | exact Nat.le_of_ble_eq_true rfl | (simp only [rmX11_slope, rmX11_beside, rmX11_of]; omega) | (simp only [rmX11_slope]; omega)) dX11_slope_31 ⟨(by first | exact Nat.le_of_ble_eq_true rfl | (simp only [rmX11_slope, rmX11_beside, rmX11_of]; omega) | (simp only [rmX11_slope]; omega)), (by first | exact Nat.le_of_ble_eq_true rfl | (simp only [rmX11_slope, rmX11_beside, rmX11_of]; omega) | (simp only [rmX11_slope]; omega))⟩ (fun H locs hW hS => ?_)
        refine lv_aload_n hx hb dX11_slope_34 rfl (lv_at hl 1 rfl) ?_
        refine lv_iload_n hx hb dX11_slope_35 rfl (lv_at hl 2 rfl) ?_
        refine lv_bipush (v := 7) hx hb dX11_slope_36 (by decide) ?_
        refine lv_iload_n hx hb dX11_slope_38 rfl (lv_at hl 3 rfl) ?_
        refine lv_iadd hx hb dX11_slope_39 ?_
        obtain ⟨r25, hcall, h⟩ := bd_out h
        refine g0_callV (As := [.int a1, .int (7 + a2)]) hC hml hS hW (KC_at hk hS F.2.2.2.2) KC_blind (metX11_of F hX k0 hcall) ml_X11_144 (gw_recv hC hW k0.1 (k0.2.1 T B (μ a0)) rfl) ⟨rfl, rfl, (by first | exact Nat.le_of_ble_eq_true rfl | (simp only [rmX11_slope, rmX11_beside, rmX11_of]; omega) | (simp only [rmX11_slope]; omega)), (by first | exact Nat.le_of_ble_eq_true rfl | (simp only [rmX11_slope, rmX11_beside, rmX11_of]; omega) | (simp only [rmX11_slope]; omega))⟩ rfl hl.1 rfl (by first | exact Nat.le_of_ble_eq_true rfl | (simp only [rmX11_slope, rmX11_beside, rmX11_of]; omega) | (simp only [rmX11_slope]; omega)) dX11_slope_40 ⟨(by first | exact Nat.le_of_ble_eq_true rfl | (simp only [rmX11_slope, rmX11_beside, rmX11_of]; omega) | (simp only [rmX11_slope]; omega)), (by first | exact Nat.le_of_ble_eq_true rfl | (simp only [rmX11_slope, rmX11_beside, rmX11_of]; omega) | (simp only [rmX11_slope]; omega))⟩ (fun H locs hW hS => ?_)
        refine lv_icmp_ge (tgt := 50) hx hb dX11_slope_43 (by decide) (fun c26 => ?_) (fun c26 => ?_)
        · replace h := ite_t c26 h
          exact J21 _ h _ _ _ hW hS (lv_sub hl [1, 2, 3, 4, 5, 0] rfl)
        · replace h := ite_f c26 h
          refine lv_iconst (v := 1) hx hb dX11_slope_46 (by decide) ?_
          refine lv_goto (tgt := 51) hx hb dX11_slope_47 (by decide) ?_
          exact J9 _ h _ _ _ hW hS (lv_sub hl [1, 2, 3, 4, 5, 0] rfl)

theorem dX11_longestSlope_0 : decode cX11_longestSlope 0 = .ok (.iconst 0, 1) := by decide +kernel
theorem dX11_longestSlope_1 : decode cX11_longestSlope 1 = .ok (.istore_n 2, 1) := by decide +kernel
theorem dX11_longestSlope_2 : decode cX11_longestSlope 2 = .ok (.aload_n 0, 1) := by decide +kernel
theorem dX11_longestSlope_3 : decode cX11_longestSlope 3 = .ok (.aload_n 0, 1) := by decide +kernel
theorem dX11_longestSlope_4 : decode cX11_longestSlope 4 = .ok (.iload_n 1, 1) := by decide +kernel
theorem dX11_longestSlope_5 : decode cX11_longestSlope 5 = .ok (.invokevirtual 141, 3) := by decide +kernel
theorem dX11_longestSlope_8 : decode cX11_longestSlope 8 = .ok (.invokevirtual 113, 3) := by decide +kernel
theorem dX11_longestSlope_11 : decode cX11_longestSlope 11 = .ok (.istore_n 3, 1) := by decide +kernel
theorem dX11_longestSlope_12 : decode cX11_longestSlope 12 = .ok (.iconst 0, 1) := by decide +kernel
theorem dX11_longestSlope_13 : decode cX11_longestSlope 13 = .ok (.istore 4, 2) := by decide +kernel
theorem dX11_longestSlope_15 : decode cX11_longestSlope 15 = .ok (.iload 4, 2) := by decide +kernel
theorem dX11_longestSlope_17 : decode cX11_longestSlope 17 = .ok (.bipush 16, 2) := by decide +kernel
theorem dX11_longestSlope_19 : decode cX11_longestSlope 19 = .ok (.if_icmp .ge 25, 3) := by decide +kernel
theorem dX11_longestSlope_22 : decode cX11_longestSlope 22 = .ok (.iload_n 3, 1) := by decide +kernel
theorem dX11_longestSlope_23 : decode cX11_longestSlope 23 = .ok (.ifCond .eq 21, 3) := by decide +kernel
theorem dX11_longestSlope_26 : decode cX11_longestSlope 26 = .ok (.iload_n 2, 1) := by decide +kernel
theorem dX11_longestSlope_27 : decode cX11_longestSlope 27 = .ok (.aload_n 0, 1) := by decide +kernel
theorem dX11_longestSlope_28 : decode cX11_longestSlope 28 = .ok (.iload_n 1, 1) := by decide +kernel
theorem dX11_longestSlope_29 : decode cX11_longestSlope 29 = .ok (.iload 4, 2) := by decide +kernel
theorem dX11_longestSlope_31 : decode cX11_longestSlope 31 = .ok (.invokevirtual 185, 3) := by decide +kernel
theorem dX11_longestSlope_34 : decode cX11_longestSlope 34 = .ok (.invokestatic 77, 3) := by decide +kernel
theorem dX11_longestSlope_37 : decode cX11_longestSlope 37 = .ok (.istore_n 2, 1) := by decide +kernel
theorem dX11_longestSlope_38 : decode cX11_longestSlope 38 = .ok (.iinc 4 1, 3) := by decide +kernel
theorem dX11_longestSlope_41 : decode cX11_longestSlope 41 = .ok (.goto (-26), 3) := by decide +kernel
theorem dX11_longestSlope_44 : decode cX11_longestSlope 44 = .ok (.iload_n 2, 1) := by decide +kernel
theorem dX11_longestSlope_45 : decode cX11_longestSlope 45 = .ok (.ireturn, 1) := by decide +kernel
abbrev rmX11_longestSlope : Room := { frames := 22, cells := 0, slots := 0, locals := 1151 }
set_option maxHeartbeats 4000000 in
set_option maxRecDepth 100000 in
theorem metX11_longestSlope {l : Launch} {s0 : State} {b B : Nat} {D : va_G} {T : Nat → ClassId} (F : FX l s0 b D T B) {X : Nat → Prop} (hX : ∀ o, o < 12 → ¬ X (B + o)) {N : Nat} {μ : Mem} {a0 : Nat} {a1 : Int32} {r : Mem × Int32} (k0 : IsMo a0) (h : fX11_longestSlope N μ a0 a1 = some r) : gMet l yX11_longestSlope cX11_longestSlope 5 (some .int) rmX11_longestSlope [.ref (B + a0), .int a1] (gWM D T B μ) (KC s0 X) (some (.int r.2)) (gWM D T B r.1) (gA B X) 0 0 := by
  refine gI_of RX11 (by decide +kernel) rfl (Nat.le_of_ble_eq_true rfl) ?_
  intro p e s m args below meth c ls Q hx hb hlocks hml hown hts hW hk hl hS hend
  have hC := FX_C F hk hx hb hown hts
  have hA := gA_allM hX
  have hl : lv_has ls 5 [(0, .ref (B + a0)), (1, .int a1)] := hl
  unfold fX11_longestSlope at h
  refine lv_iconst (v := 0) hx hb dX11_longestSlope_0 (by decide) ?_
  refine lv_istore_n (lv' := [(2, .int 0), (0, .ref (B + a0)), (1, .int a1)]) hx hb dX11_longestSlope_1 rfl hl (by decide) rfl (fun ls hl => ?_)
  refine lv_aload_n hx hb dX11_longestSlope_2 rfl (lv_at hl 1 rfl) ?_
  refine lv_aload_n hx hb dX11_longestSlope_3 rfl (lv_at hl 1 rfl) ?_
  refine lv_iload_n hx hb dX11_longestSlope_4 rfl (lv_at hl 2 rfl) ?_
  obtain ⟨r1, hcall, h⟩ := bd_out h
  refine g0_callV (As := [.int a1]) hC hml hS hW (KC_at hk hS F.2.2.2.2) KC_blind (metX11_isExhibit F hX k0 hcall) ml_X11_141 (gw_recv hC hW k0.1 (k0.2.1 T B (μ a0)) rfl) ⟨rfl, rfl, (Nat.le_of_ble_eq_true rfl), (Nat.le_of_ble_eq_true rfl)⟩ rfl hl.1 rfl (Nat.le_of_ble_eq_true rfl) dX11_longestSlope_5 ⟨(Nat.le_of_ble_eq_true rfl), (Nat.le_of_ble_eq_true rfl)⟩ (fun H locs hW hS => ?_)
  obtain ⟨r2, hcall, h⟩ := bd_out h
  refine g0_callV (As := [.int (b2i r1)]) hC hml hS hW (KC_at hk hS F.2.2.2.2) KC_blind (metX11_isThere F hX k0 hcall) ml_X11_113 (gw_recv hC hW k0.1 (k0.2.1 T B (μ a0)) rfl) ⟨rfl, rfl, (Nat.le_of_ble_eq_true rfl), (Nat.le_of_ble_eq_true rfl)⟩ rfl hl.1 rfl (Nat.le_of_ble_eq_true rfl) dX11_longestSlope_8 ⟨(Nat.le_of_ble_eq_true rfl), (Nat.le_of_ble_eq_true rfl)⟩ (fun H locs hW hS => ?_)
  refine lv_istore_n (lv' := [(3, .int (b2i r2.2)), (2, .int 0), (0, .ref (B + a0)), (1, .int a1)]) hx hb dX11_longestSlope_11 rfl hl (by decide) rfl (fun ls hl => ?_)
  refine lv_iconst (v := 0) hx hb dX11_longestSlope_12 (by decide) ?_
  refine lv_istore (lv' := [(4, .int 0), (3, .int (b2i r2.2)), (2, .int 0), (0, .ref (B + a0)), (1, .int a1)]) hx hb dX11_longestSlope_13 hl (by decide) rfl (fun ls hl => ?_)
  refine fix2_ind (fun (x3 : Int32) (x4 : Int32) => ∀ (H : Heap) (locs : List Loc) (ls : Array Slot), gWM D T B r2.1 H → va_S (gA B X) s.heap H locs → lv_has ls 5 [(0, .ref (B + a0)), (1, .int a1), (2, .int x3), (3, .int (b2i r2.2)), (4, .int x4)] → W p l e rmX11_longestSlope s m args below meth c H locs 0 0 Q (F0 m 15 ls [])) ?_ N _ _ h _ _ _ hW hS (lv_sub hl [3, 4, 2, 1, 0] rfl)
  clear h hW hS hl
  intro self5 IH6 x3 x4 h H locs ls hW hS hl
  refine lv_iload hx hb dX11_longestSlope_15 (lv_at hl 4 rfl) ?_
  refine lv_bipush (v := 16) hx hb dX11_longestSlope_17 (by decide) ?_
  obtain ⟨j8, hj10, h⟩ := jn1_o h
  have J9 : ∀ (u7 : Unit), j8 u7 = some r → ∀ (H : Heap) (locs : List Loc) (ls : Array Slot), gWM D T B r2.1 H → va_S (gA B X) s.heap H locs → lv_has ls 5 [(2, .int x3)] → W p l e rmX11_longestSlope s m args below meth c H locs 0 0 Q (F0 m 44 ls []) := by
    clear h hW hS hl
    intro u7 h H locs ls hW hS hl
    replace h := (hj10 u7).symm.trans h
    refine lv_iload_n hx hb dX11_longestSlope_44 rfl (lv_at hl 0 rfl) ?_
    cases h
    exact hend dX11_longestSlope_45 hW hS (Nat.le_of_ble_eq_true rfl) (Nat.le_of_ble_eq_true rfl)
  refine lv_icmp_ge (tgt := 44) hx hb dX11_longestSlope_19 (by decide) (fun c11 => ?_) (fun c11 => ?_)
  · replace h := ite_t c11 h
    exact J9 _ h _ _ _ hW hS (lv_sub hl [2] rfl)
  · replace h := ite_f c11 h
    refine lv_iload_n hx hb dX11_longestSlope_22 rfl (lv_at hl 3 rfl) ?_
    refine gw_if_eqZ (tgt := 44) hx hb dX11_longestSlope_23 (by decide) (fun c12 => ?_) (fun c12 => ?_)
    · replace h := cond_f c12 h
      exact J9 _ h _ _ _ hW hS (lv_sub hl [2] rfl)
    · replace h := cond_t c12 h
      refine lv_iload_n hx hb dX11_longestSlope_26 rfl (lv_at hl 2 rfl) ?_
      refine lv_aload_n hx hb dX11_longestSlope_27 rfl (lv_at hl 0 rfl) ?_
      refine lv_iload_n hx hb dX11_longestSlope_28 rfl (lv_at hl 1 rfl) ?_
      refine lv_iload hx hb dX11_longestSlope_29 (lv_at hl 4 rfl) ?_
      obtain ⟨r13, hcall, h⟩ := bd_out h
      refine g0_callV (As := [.int a1, .int x4]) hC hml hS hW (KC_at hk hS F.2.2.2.2) KC_blind (metX11_slope F hX 17 k0 hcall) ml_X11_185 (gw_recv hC hW k0.1 (k0.2.1 T B (r2.1 a0)) rfl) ⟨rfl, rfl, (Nat.le_of_ble_eq_true rfl), (Nat.le_of_ble_eq_true rfl)⟩ rfl hl.1 rfl (Nat.le_of_ble_eq_true rfl) dX11_longestSlope_31 ⟨(Nat.le_of_ble_eq_true rfl), (Nat.le_of_ble_eq_true rfl)⟩ (fun H locs hW hS => ?_)
      refine gw_max hC (hml.trans hl.1.symm) lm_X11_77 lb_max.1 lb_max.2.1 lb_max.2.2 (Nat.le_of_ble_eq_true rfl) (Nat.le_of_ble_eq_true rfl) (Nat.le_of_ble_eq_true rfl) (Nat.le_of_ble_eq_true rfl) dX11_longestSlope_34 ?_
      obtain ⟨v14, e15, h⟩ := lt_out h
      rw [← e15]
      refine lv_istore_n (lv' := [(2, .int v14), (0, .ref (B + a0)), (1, .int a1), (3, .int (b2i r2.2)), (4, .int x4)]) hx hb dX11_longestSlope_37 rfl hl (by decide) rfl (fun ls hl => ?_)
      obtain ⟨v16, e17, h⟩ := lt_out h
      refine lv_iinc (v := v16) (lv' := [(4, .int v16), (2, .int v14), (0, .ref (B + a0)), (1, .int a1), (3, .int (b2i r2.2))]) hx hb dX11_longestSlope_38 hl (k := 4) rfl (by rw [e17]; rfl) (by decide) rfl (fun ls hl => ?_)
      refine lv_goto (tgt := 15) hx hb dX11_longestSlope_41 (by decide) ?_
      exact IH6 _ _ h _ _ _ hW hS (lv_sub hl [2, 3, 1, 4, 0] rfl)

theorem dX11_longestSlopeByGrains_0 : decode cX11_longestSlopeByGrains 0 = .ok (.aload_n 0, 1) := by decide +kernel
theorem dX11_longestSlopeByGrains_1 : decode cX11_longestSlopeByGrains 1 = .ok (.iload_n 1, 1) := by decide +kernel
theorem dX11_longestSlopeByGrains_2 : decode cX11_longestSlopeByGrains 2 = .ok (.invokevirtual 188, 3) := by decide +kernel
theorem dX11_longestSlopeByGrains_5 : decode cX11_longestSlopeByGrains 5 = .ok (.ireturn, 1) := by decide +kernel
abbrev rmX11_longestSlopeByGrains : Room := { frames := 23, cells := 0, slots := 0, locals := 1175 }
set_option maxHeartbeats 4000000 in
set_option maxRecDepth 100000 in
theorem metX11_longestSlopeByGrains {l : Launch} {s0 : State} {b B : Nat} {D : va_G} {T : Nat → ClassId} (F : FX l s0 b D T B) {X : Nat → Prop} (hX : ∀ o, o < 12 → ¬ X (B + o)) {N : Nat} {μ : Mem} {a0 : Nat} {a1 : Int32} {r : Mem × Int32} (k0 : IsMo a0) (h : fX11_longestSlopeByGrains N μ a0 a1 = some r) : gMet l yX11_longestSlopeByGrains cX11_longestSlopeByGrains 2 (some .int) rmX11_longestSlopeByGrains [.ref (B + a0), .int a1] (gWM D T B μ) (KC s0 X) (some (.int r.2)) (gWM D T B r.1) (gA B X) 0 0 := by
  refine gI_of RX11 (by decide +kernel) rfl (Nat.le_of_ble_eq_true rfl) ?_
  intro p e s m args below meth c ls Q hx hb hlocks hml hown hts hW hk hl hS hend
  have hC := FX_C F hk hx hb hown hts
  have hA := gA_allM hX
  have hl : lv_has ls 2 [(0, .ref (B + a0)), (1, .int a1)] := hl
  unfold fX11_longestSlopeByGrains at h
  refine lv_aload_n hx hb dX11_longestSlopeByGrains_0 rfl (lv_at hl 0 rfl) ?_
  refine lv_iload_n hx hb dX11_longestSlopeByGrains_1 rfl (lv_at hl 1 rfl) ?_
  obtain ⟨r1, hcall, h⟩ := bd_out h
  refine g0_callV (As := [.int a1]) hC hml hS hW (KC_at hk hS F.2.2.2.2) KC_blind (metX11_longestSlope F hX k0 hcall) ml_X11_188 (gw_recv hC hW k0.1 (k0.2.1 T B (μ a0)) rfl) ⟨rfl, rfl, (Nat.le_of_ble_eq_true rfl), (Nat.le_of_ble_eq_true rfl)⟩ rfl hl.1 rfl (Nat.le_of_ble_eq_true rfl) dX11_longestSlopeByGrains_2 ⟨(Nat.le_of_ble_eq_true rfl), (Nat.le_of_ble_eq_true rfl)⟩ (fun H locs hW hS => ?_)
  cases h
  exact hend dX11_longestSlopeByGrains_5 hW hS (Nat.le_of_ble_eq_true rfl) (Nat.le_of_ble_eq_true rfl)

theorem dX11_saysNumber_0 : decode cX11_saysNumber 0 = .ok (.iload_n 1, 1) := by decide +kernel
theorem dX11_saysNumber_1 : decode cX11_saysNumber 1 = .ok (.bipush 9, 2) := by decide +kernel
theorem dX11_saysNumber_3 : decode cX11_saysNumber 3 = .ok (.if_icmp .le 11, 3) := by decide +kernel
theorem dX11_saysNumber_6 : decode cX11_saysNumber 6 = .ok (.aload_n 0, 1) := by decide +kernel
theorem dX11_saysNumber_7 : decode cX11_saysNumber 7 = .ok (.iload_n 1, 1) := by decide +kernel
theorem dX11_saysNumber_8 : decode cX11_saysNumber 8 = .ok (.bipush 10, 2) := by decide +kernel
theorem dX11_saysNumber_10 : decode cX11_saysNumber 10 = .ok (.idiv, 1) := by decide +kernel
theorem dX11_saysNumber_11 : decode cX11_saysNumber 11 = .ok (.invokevirtual 243, 3) := by decide +kernel
theorem dX11_saysNumber_14 : decode cX11_saysNumber 14 = .ok (.aload_n 0, 1) := by decide +kernel
theorem dX11_saysNumber_15 : decode cX11_saysNumber 15 = .ok (.bipush 48, 2) := by decide +kernel
theorem dX11_saysNumber_17 : decode cX11_saysNumber 17 = .ok (.iload_n 1, 1) := by decide +kernel
theorem dX11_saysNumber_18 : decode cX11_saysNumber 18 = .ok (.bipush 10, 2) := by decide +kernel
theorem dX11_saysNumber_20 : decode cX11_saysNumber 20 = .ok (.irem, 1) := by decide +kernel
theorem dX11_saysNumber_21 : decode cX11_saysNumber 21 = .ok (.iadd, 1) := by decide +kernel
theorem dX11_saysNumber_22 : decode cX11_saysNumber 22 = .ok (.invokevirtual 246, 3) := by decide +kernel
theorem dX11_saysNumber_25 : decode cX11_saysNumber 25 = .ok (.return_, 1) := by decide +kernel
abbrev rmX11_saysNumber (n : Nat) : Room := { frames := n + 3, cells := 0, slots := 0, locals := 60 * n + 81 }
set_option maxHeartbeats 4000000 in
set_option maxRecDepth 100000 in
theorem metX11_saysNumber {l : Launch} {s0 : State} {b B : Nat} {D : va_G} {T : Nat → ClassId} (F : FX l s0 b D T B) {X : Nat → Prop} (hX : ∀ o, o < 12 → ¬ X (B + o)) {N : Nat} : ∀ (n : Nat) {μ : Mem} {a0 : Nat} {a1 : Int32} {r : Mem} (k0 : IsMo a0) (h : fX11_saysNumber N n μ a0 a1 = some r), gMet l yX11_saysNumber cX11_saysNumber 2 none (rmX11_saysNumber n) [.ref (B + a0), .int a1] (gWM D T B μ) (KC s0 X) none (gWM D T B r) (gA B X) 0 0 := by
  intro n
  induction n with
  | zero =>
    intro μ a0 a1 r k0 h
    cases h
  | succ n ih =>
    intro μ a0 a1 r k0 h
    refine gV_of RX11 (by decide +kernel) rfl (by first | exact Nat.le_of_ble_eq_true rfl | (simp only [rmX11_saysNumber, rmX11_says]; omega) | (simp only [rmX11_saysNumber]; omega)) ?_
    intro p e s m args below meth c ls Q hx hb hlocks hml hown hts hW hk hl hS hend
    have hC := FX_C F hk hx hb hown hts
    have hA := gA_allM hX
    have hl : lv_has ls 2 [(0, .ref (B + a0)), (1, .int a1)] := hl
    unfold fX11_saysNumber at h
    refine lv_iload_n hx hb dX11_saysNumber_0 rfl (lv_at hl 1 rfl) ?_
    refine lv_bipush (v := 9) hx hb dX11_saysNumber_1 (by decide) ?_
    obtain ⟨j2, hj4, h⟩ := jn1_o h
    have J3 : ∀ (μ1 : Mem), j2 μ1 = some r → ∀ (H : Heap) (locs : List Loc) (ls : Array Slot), gWM D T B μ1 H → va_S (gA B X) s.heap H locs → lv_has ls 2 [(0, .ref (B + a0)), (1, .int a1)] → W p l e (rmX11_saysNumber (n + 1)) s m args below meth c H locs 0 0 Q (F0 m 14 ls []) := by
      clear h hW hS hl
      intro μ1 h H locs ls hW hS hl
      replace h := (hj4 μ1).symm.trans h
      refine lv_aload_n hx hb dX11_saysNumber_14 rfl (lv_at hl 0 rfl) ?_
      refine lv_bipush (v := 48) hx hb dX11_saysNumber_15 (by decide) ?_
      refine lv_iload_n hx hb dX11_saysNumber_17 rfl (lv_at hl 1 rfl) ?_
      refine lv_bipush (v := 10) hx hb dX11_saysNumber_18 (by decide) ?_
      refine lv_irem hx hb dX11_saysNumber_20 (by decide) ?_
      refine lv_iadd hx hb dX11_saysNumber_21 ?_
      obtain ⟨r5, hcall, h⟩ := bd_out h
      refine g0_callV (As := [.int (48 + (a1 - a1 / 10 * 10))]) hC hml hS hW (KC_at hk hS F.2.2.2.2) KC_blind (metX11_says F hX k0 hcall) ml_X11_246 (gw_recv hC hW k0.1 (k0.2.1 T B (μ1 a0)) rfl) ⟨rfl, rfl, (by first | exact Nat.le_of_ble_eq_true rfl | (simp only [rmX11_saysNumber, rmX11_says]; omega) | (simp only [rmX11_saysNumber]; omega)), (by first | exact Nat.le_of_ble_eq_true rfl | (simp only [rmX11_saysNumber, rmX11_says]; omega) | (simp only [rmX11_saysNumber]; omega))⟩ rfl hl.1 rfl (by first | exact Nat.le_of_ble_eq_true rfl | (simp only [rmX11_saysNumber, rmX11_says]; omega) | (simp only [rmX11_saysNumber]; omega)) dX11_saysNumber_22 ⟨(by first | exact Nat.le_of_ble_eq_true rfl | (simp only [rmX11_saysNumber, rmX11_says]; omega) | (simp only [rmX11_saysNumber]; omega)), (by first | exact Nat.le_of_ble_eq_true rfl | (simp only [rmX11_saysNumber, rmX11_says]; omega) | (simp only [rmX11_saysNumber]; omega))⟩ (fun H locs hW hS => ?_)
      cases h
      exact hend dX11_saysNumber_25 hW hS (by first | exact Nat.le_of_ble_eq_true rfl | (simp only [rmX11_saysNumber, rmX11_says]; omega) | (simp only [rmX11_saysNumber]; omega)) (by first | exact Nat.le_of_ble_eq_true rfl | (simp only [rmX11_saysNumber, rmX11_says]; omega) | (simp only [rmX11_saysNumber]; omega))
    refine lv_icmp_le (tgt := 14) hx hb dX11_saysNumber_3 (by decide) (fun c6 => ?_) (fun c6 => ?_)
    · replace h := ite_t c6 h
      exact J3 _ h _ _ _ hW hS (lv_sub hl [0, 1] rfl)
    · replace h := ite_f c6 h
      refine lv_aload_n hx hb dX11_saysNumber_6 rfl (lv_at hl 0 rfl) ?_
      refine lv_iload_n hx hb dX11_saysNumber_7 rfl (lv_at hl 1 rfl) ?_
      refine lv_bipush (v := 10) hx hb dX11_saysNumber_8 (by decide) ?_
      refine lv_idiv hx hb dX11_saysNumber_10 (by decide) ?_
      obtain ⟨r7, hcall, h⟩ := bd_out h
      refine g0_callV (As := [.int (a1 / 10)]) hC hml hS hW (KC_at hk hS F.2.2.2.2) KC_blind (ih k0 hcall) ml_X11_243 (gw_recv hC hW k0.1 (k0.2.1 T B (μ a0)) rfl) ⟨rfl, rfl, (by first | exact Nat.le_of_ble_eq_true rfl | (simp only [rmX11_saysNumber, rmX11_says]; omega) | (simp only [rmX11_saysNumber]; omega)), (by first | exact Nat.le_of_ble_eq_true rfl | (simp only [rmX11_saysNumber, rmX11_says]; omega) | (simp only [rmX11_saysNumber]; omega))⟩ rfl hl.1 rfl (by first | exact Nat.le_of_ble_eq_true rfl | (simp only [rmX11_saysNumber, rmX11_says]; omega) | (simp only [rmX11_saysNumber]; omega)) dX11_saysNumber_11 ⟨(by first | exact Nat.le_of_ble_eq_true rfl | (simp only [rmX11_saysNumber, rmX11_says]; omega) | (simp only [rmX11_saysNumber]; omega)), (by first | exact Nat.le_of_ble_eq_true rfl | (simp only [rmX11_saysNumber, rmX11_says]; omega) | (simp only [rmX11_saysNumber]; omega))⟩ (fun H locs hW hS => ?_)
      exact J3 _ h _ _ _ hW hS (lv_sub hl [0, 1] rfl)

theorem dX11_writePile_0 : decode cX11_writePile 0 = .ok (.aload_n 0, 1) := by decide +kernel
theorem dX11_writePile_1 : decode cX11_writePile 1 = .ok (.aload_n 0, 1) := by decide +kernel
theorem dX11_writePile_2 : decode cX11_writePile 2 = .ok (.iload_n 1, 1) := by decide +kernel
theorem dX11_writePile_3 : decode cX11_writePile 3 = .ok (.invokevirtual 141, 3) := by decide +kernel
theorem dX11_writePile_6 : decode cX11_writePile 6 = .ok (.invokevirtual 113, 3) := by decide +kernel
theorem dX11_writePile_9 : decode cX11_writePile 9 = .ok (.ifCond .ne 5, 3) := by decide +kernel
theorem dX11_writePile_12 : decode cX11_writePile 12 = .ok (.iconst 0, 1) := by decide +kernel
theorem dX11_writePile_13 : decode cX11_writePile 13 = .ok (.ireturn, 1) := by decide +kernel
theorem dX11_writePile_14 : decode cX11_writePile 14 = .ok (.aload_n 0, 1) := by decide +kernel
theorem dX11_writePile_15 : decode cX11_writePile 15 = .ok (.iconst 0, 1) := by decide +kernel
theorem dX11_writePile_16 : decode cX11_writePile 16 = .ok (.putfield 240, 3) := by decide +kernel
theorem dX11_writePile_19 : decode cX11_writePile 19 = .ok (.iconst 0, 1) := by decide +kernel
theorem dX11_writePile_20 : decode cX11_writePile 20 = .ok (.istore_n 2, 1) := by decide +kernel
theorem dX11_writePile_21 : decode cX11_writePile 21 = .ok (.iload_n 2, 1) := by decide +kernel
theorem dX11_writePile_22 : decode cX11_writePile 22 = .ok (.bipush 16, 2) := by decide +kernel
theorem dX11_writePile_24 : decode cX11_writePile 24 = .ok (.if_icmp .ge 38, 3) := by decide +kernel
theorem dX11_writePile_27 : decode cX11_writePile 27 = .ok (.iload_n 2, 1) := by decide +kernel
theorem dX11_writePile_28 : decode cX11_writePile 28 = .ok (.ifCond .le 15, 3) := by decide +kernel
theorem dX11_writePile_31 : decode cX11_writePile 31 = .ok (.iload_n 2, 1) := by decide +kernel
theorem dX11_writePile_32 : decode cX11_writePile 32 = .ok (.iconst 4, 1) := by decide +kernel
theorem dX11_writePile_33 : decode cX11_writePile 33 = .ok (.irem, 1) := by decide +kernel
theorem dX11_writePile_34 : decode cX11_writePile 34 = .ok (.ifCond .ne 9, 3) := by decide +kernel
theorem dX11_writePile_37 : decode cX11_writePile 37 = .ok (.aload_n 0, 1) := by decide +kernel
theorem dX11_writePile_38 : decode cX11_writePile 38 = .ok (.bipush 47, 2) := by decide +kernel
theorem dX11_writePile_40 : decode cX11_writePile 40 = .ok (.invokevirtual 246, 3) := by decide +kernel
theorem dX11_writePile_43 : decode cX11_writePile 43 = .ok (.aload_n 0, 1) := by decide +kernel
theorem dX11_writePile_44 : decode cX11_writePile 44 = .ok (.aload_n 0, 1) := by decide +kernel
theorem dX11_writePile_45 : decode cX11_writePile 45 = .ok (.iload_n 1, 1) := by decide +kernel
theorem dX11_writePile_46 : decode cX11_writePile 46 = .ok (.bipush 7, 2) := by decide +kernel
theorem dX11_writePile_48 : decode cX11_writePile 48 = .ok (.iload_n 2, 1) := by decide +kernel
theorem dX11_writePile_49 : decode cX11_writePile 49 = .ok (.iadd, 1) := by decide +kernel
theorem dX11_writePile_50 : decode cX11_writePile 50 = .ok (.invokevirtual 144, 3) := by decide +kernel
theorem dX11_writePile_53 : decode cX11_writePile 53 = .ok (.invokevirtual 243, 3) := by decide +kernel
theorem dX11_writePile_56 : decode cX11_writePile 56 = .ok (.iinc 2 1, 3) := by decide +kernel
theorem dX11_writePile_59 : decode cX11_writePile 59 = .ok (.goto (-38), 3) := by decide +kernel
theorem dX11_writePile_62 : decode cX11_writePile 62 = .ok (.aload_n 0, 1) := by decide +kernel
theorem dX11_writePile_63 : decode cX11_writePile 63 = .ok (.getfield 240, 3) := by decide +kernel
theorem dX11_writePile_66 : decode cX11_writePile 66 = .ok (.ireturn, 1) := by decide +kernel
abbrev rmX11_writePile : Room := { frames := 16, cells := 0, slots := 0, locals := 822 }
set_option maxHeartbeats 4000000 in
set_option maxRecDepth 100000 in
theorem metX11_writePile {l : Launch} {s0 : State} {b B : Nat} {D : va_G} {T : Nat → ClassId} (F : FX l s0 b D T B) {X : Nat → Prop} (hX : ∀ o, o < 12 → ¬ X (B + o)) {N : Nat} {μ : Mem} {a0 : Nat} {a1 : Int32} {r : Mem × Int32} (k0 : IsMo a0) (h : fX11_writePile N μ a0 a1 = some r) : gMet l yX11_writePile cX11_writePile 3 (some .int) rmX11_writePile [.ref (B + a0), .int a1] (gWM D T B μ) (KC s0 X) (some (.int r.2)) (gWM D T B r.1) (gA B X) 0 0 := by
  refine gI_of RX11 (by decide +kernel) rfl (Nat.le_of_ble_eq_true rfl) ?_
  intro p e s m args below meth c ls Q hx hb hlocks hml hown hts hW hk hl hS hend
  have hC := FX_C F hk hx hb hown hts
  have hA := gA_allM hX
  have hl : lv_has ls 3 [(0, .ref (B + a0)), (1, .int a1)] := hl
  unfold fX11_writePile at h
  refine lv_aload_n hx hb dX11_writePile_0 rfl (lv_at hl 0 rfl) ?_
  refine lv_aload_n hx hb dX11_writePile_1 rfl (lv_at hl 0 rfl) ?_
  refine lv_iload_n hx hb dX11_writePile_2 rfl (lv_at hl 1 rfl) ?_
  obtain ⟨r1, hcall, h⟩ := bd_out h
  refine g0_callV (As := [.int a1]) hC hml hS hW (KC_at hk hS F.2.2.2.2) KC_blind (metX11_isExhibit F hX k0 hcall) ml_X11_141 (gw_recv hC hW k0.1 (k0.2.1 T B (μ a0)) rfl) ⟨rfl, rfl, (Nat.le_of_ble_eq_true rfl), (Nat.le_of_ble_eq_true rfl)⟩ rfl hl.1 rfl (Nat.le_of_ble_eq_true rfl) dX11_writePile_3 ⟨(Nat.le_of_ble_eq_true rfl), (Nat.le_of_ble_eq_true rfl)⟩ (fun H locs hW hS => ?_)
  obtain ⟨r2, hcall, h⟩ := bd_out h
  refine g0_callV (As := [.int (b2i r1)]) hC hml hS hW (KC_at hk hS F.2.2.2.2) KC_blind (metX11_isThere F hX k0 hcall) ml_X11_113 (gw_recv hC hW k0.1 (k0.2.1 T B (μ a0)) rfl) ⟨rfl, rfl, (Nat.le_of_ble_eq_true rfl), (Nat.le_of_ble_eq_true rfl)⟩ rfl hl.1 rfl (Nat.le_of_ble_eq_true rfl) dX11_writePile_6 ⟨(Nat.le_of_ble_eq_true rfl), (Nat.le_of_ble_eq_true rfl)⟩ (fun H locs hW hS => ?_)
  refine gw_if_neZ (tgt := 14) hx hb dX11_writePile_9 (by decide) (fun c3 => ?_) (fun c3 => ?_)
  · replace h := cond_t c3 h
    refine lv_aload_n hx hb dX11_writePile_14 rfl (lv_at hl 0 rfl) ?_
    refine lv_iconst (v := 0) hx hb dX11_writePile_15 (by decide) ?_
    obtain ⟨μ4, e5, h⟩ := lt_out h
    refine gq_put hC hS hW hA fl_X11_240 k0.1 (k0.2.1 T B) (Nat.le_of_ble_eq_true rfl) rfl rfl rfl e5 dX11_writePile_16 (fun H locs hW hS => ?_)
    refine lv_iconst (v := 0) hx hb dX11_writePile_19 (by decide) ?_
    refine lv_istore_n (lv' := [(2, .int 0), (0, .ref (B + a0)), (1, .int a1)]) hx hb dX11_writePile_20 rfl hl (by decide) rfl (fun ls hl => ?_)
    refine fix2_ind (fun (x6 : Int32) (μ7 : Mem) => ∀ (H : Heap) (locs : List Loc) (ls : Array Slot), gWM D T B μ7 H → va_S (gA B X) s.heap H locs → lv_has ls 3 [(0, .ref (B + a0)), (1, .int a1), (2, .int x6)] → W p l e rmX11_writePile s m args below meth c H locs 0 0 Q (F0 m 21 ls [])) ?_ N _ _ h _ _ _ hW hS (lv_sub hl [1, 2, 0] rfl)
    clear h hW hS hl
    intro self8 IH9 x6 μ7 h H locs ls hW hS hl
    refine lv_iload_n hx hb dX11_writePile_21 rfl (lv_at hl 2 rfl) ?_
    refine lv_bipush (v := 16) hx hb dX11_writePile_22 (by decide) ?_
    refine lv_icmp_ge (tgt := 62) hx hb dX11_writePile_24 (by decide) (fun c10 => ?_) (fun c10 => ?_)
    · replace h := ite_t c10 h
      refine lv_aload_n hx hb dX11_writePile_62 rfl (lv_at hl 0 rfl) ?_
      refine gw_get (v := .int (μ7 a0 15)) hC hW fl_X11_240.1 k0.1 (k0.2.1 T B (μ7 a0)) rfl dX11_writePile_63 ?_
      cases h
      exact hend dX11_writePile_66 hW hS (Nat.le_of_ble_eq_true rfl) (Nat.le_of_ble_eq_true rfl)
    · replace h := ite_f c10 h
      refine lv_iload_n hx hb dX11_writePile_27 rfl (lv_at hl 2 rfl) ?_
      obtain ⟨j12, hj14, h⟩ := jn1_o h
      have J13 : ∀ (μ11 : Mem), j12 μ11 = some r → ∀ (H : Heap) (locs : List Loc) (ls : Array Slot), gWM D T B μ11 H → va_S (gA B X) s.heap H locs → lv_has ls 3 [(0, .ref (B + a0)), (1, .int a1), (2, .int x6)] → W p l e rmX11_writePile s m args below meth c H locs 0 0 Q (F0 m 43 ls []) := by
        clear h hW hS hl
        intro μ11 h H locs ls hW hS hl
        replace h := (hj14 μ11).symm.trans h
        refine lv_aload_n hx hb dX11_writePile_43 rfl (lv_at hl 0 rfl) ?_
        refine lv_aload_n hx hb dX11_writePile_44 rfl (lv_at hl 0 rfl) ?_
        refine lv_iload_n hx hb dX11_writePile_45 rfl (lv_at hl 1 rfl) ?_
        refine lv_bipush (v := 7) hx hb dX11_writePile_46 (by decide) ?_
        refine lv_iload_n hx hb dX11_writePile_48 rfl (lv_at hl 2 rfl) ?_
        refine lv_iadd hx hb dX11_writePile_49 ?_
        obtain ⟨r15, hcall, h⟩ := bd_out h
        refine g0_callV (As := [.int a1, .int (7 + x6)]) hC hml hS hW (KC_at hk hS F.2.2.2.2) KC_blind (metX11_of F hX k0 hcall) ml_X11_144 (gw_recv hC hW k0.1 (k0.2.1 T B (μ11 a0)) rfl) ⟨rfl, rfl, (Nat.le_of_ble_eq_true rfl), (Nat.le_of_ble_eq_true rfl)⟩ rfl hl.1 rfl (Nat.le_of_ble_eq_true rfl) dX11_writePile_50 ⟨(Nat.le_of_ble_eq_true rfl), (Nat.le_of_ble_eq_true rfl)⟩ (fun H locs hW hS => ?_)
        obtain ⟨r16, hcall, h⟩ := bd_out h
        refine g0_callV (As := [.int r15]) hC hml hS hW (KC_at hk hS F.2.2.2.2) KC_blind (metX11_saysNumber F hX 12 k0 hcall) ml_X11_243 (gw_recv hC hW k0.1 (k0.2.1 T B (μ11 a0)) rfl) ⟨rfl, rfl, (Nat.le_of_ble_eq_true rfl), (Nat.le_of_ble_eq_true rfl)⟩ rfl hl.1 rfl (Nat.le_of_ble_eq_true rfl) dX11_writePile_53 ⟨(Nat.le_of_ble_eq_true rfl), (Nat.le_of_ble_eq_true rfl)⟩ (fun H locs hW hS => ?_)
        obtain ⟨v17, e18, h⟩ := lt_out h
        refine lv_iinc (v := v17) (lv' := [(2, .int v17), (0, .ref (B + a0)), (1, .int a1)]) hx hb dX11_writePile_56 hl (k := 2) rfl (by rw [e18]; rfl) (by decide) rfl (fun ls hl => ?_)
        refine lv_goto (tgt := 21) hx hb dX11_writePile_59 (by decide) ?_
        exact IH9 _ _ h _ _ _ hW hS (lv_sub hl [1, 2, 0] rfl)
      refine lv_if_le (tgt := 43) hx hb dX11_writePile_28 (by decide) (fun c19 => ?_) (fun c19 => ?_)
      · replace h := ite_t c19 h
        exact J13 _ h _ _ _ hW hS (lv_sub hl [0, 1, 2] rfl)
      · replace h := ite_f c19 h
        refine lv_iload_n hx hb dX11_writePile_31 rfl (lv_at hl 2 rfl) ?_
        refine lv_iconst (v := 4) hx hb dX11_writePile_32 (by decide) ?_
        refine lv_irem hx hb dX11_writePile_33 (by decide) ?_
        refine lv_if_ne (tgt := 43) hx hb dX11_writePile_34 (by decide) (fun c20 => ?_) (fun c20 => ?_)
        · replace h := ite_f c20 h
          exact J13 _ h _ _ _ hW hS (lv_sub hl [0, 1, 2] rfl)
        · replace h := ite_t c20 h
          refine lv_aload_n hx hb dX11_writePile_37 rfl (lv_at hl 0 rfl) ?_
          refine lv_bipush (v := 47) hx hb dX11_writePile_38 (by decide) ?_
          obtain ⟨r21, hcall, h⟩ := bd_out h
          refine g0_callV (As := [.int 47]) hC hml hS hW (KC_at hk hS F.2.2.2.2) KC_blind (metX11_says F hX k0 hcall) ml_X11_246 (gw_recv hC hW k0.1 (k0.2.1 T B (μ7 a0)) rfl) ⟨rfl, rfl, (Nat.le_of_ble_eq_true rfl), (Nat.le_of_ble_eq_true rfl)⟩ rfl hl.1 rfl (Nat.le_of_ble_eq_true rfl) dX11_writePile_40 ⟨(Nat.le_of_ble_eq_true rfl), (Nat.le_of_ble_eq_true rfl)⟩ (fun H locs hW hS => ?_)
          exact J13 _ h _ _ _ hW hS (lv_sub hl [0, 1, 2] rfl)
  · replace h := cond_f c3 h
    refine lv_iconst (v := 0) hx hb dX11_writePile_12 (by decide) ?_
    cases h
    exact hend dX11_writePile_13 hW hS (Nat.le_of_ble_eq_true rfl) (Nat.le_of_ble_eq_true rfl)

theorem dX11_writeWay_0 : decode cX11_writeWay 0 = .ok (.aload_n 0, 1) := by decide +kernel
theorem dX11_writeWay_1 : decode cX11_writeWay 1 = .ok (.iload_n 1, 1) := by decide +kernel
theorem dX11_writeWay_2 : decode cX11_writeWay 2 = .ok (.iload_n 2, 1) := by decide +kernel
theorem dX11_writeWay_3 : decode cX11_writeWay 3 = .ok (.invokevirtual 125, 3) := by decide +kernel
theorem dX11_writeWay_6 : decode cX11_writeWay 6 = .ok (.ifCond .ne 5, 3) := by decide +kernel
theorem dX11_writeWay_9 : decode cX11_writeWay 9 = .ok (.iconst 0, 1) := by decide +kernel
theorem dX11_writeWay_10 : decode cX11_writeWay 10 = .ok (.ireturn, 1) := by decide +kernel
theorem dX11_writeWay_11 : decode cX11_writeWay 11 = .ok (.aload_n 0, 1) := by decide +kernel
theorem dX11_writeWay_12 : decode cX11_writeWay 12 = .ok (.iconst 0, 1) := by decide +kernel
theorem dX11_writeWay_13 : decode cX11_writeWay 13 = .ok (.putfield 240, 3) := by decide +kernel
theorem dX11_writeWay_16 : decode cX11_writeWay 16 = .ok (.aload_n 0, 1) := by decide +kernel
theorem dX11_writeWay_17 : decode cX11_writeWay 17 = .ok (.iload_n 1, 1) := by decide +kernel
theorem dX11_writeWay_18 : decode cX11_writeWay 18 = .ok (.invokevirtual 243, 3) := by decide +kernel
theorem dX11_writeWay_21 : decode cX11_writeWay 21 = .ok (.iload_n 1, 1) := by decide +kernel
theorem dX11_writeWay_22 : decode cX11_writeWay 22 = .ok (.istore_n 3, 1) := by decide +kernel
theorem dX11_writeWay_23 : decode cX11_writeWay 23 = .ok (.iload_n 3, 1) := by decide +kernel
theorem dX11_writeWay_24 : decode cX11_writeWay 24 = .ok (.iload_n 2, 1) := by decide +kernel
theorem dX11_writeWay_25 : decode cX11_writeWay 25 = .ok (.if_icmp .eq 27, 3) := by decide +kernel
theorem dX11_writeWay_28 : decode cX11_writeWay 28 = .ok (.aload_n 0, 1) := by decide +kernel
theorem dX11_writeWay_29 : decode cX11_writeWay 29 = .ok (.bipush 62, 2) := by decide +kernel
theorem dX11_writeWay_31 : decode cX11_writeWay 31 = .ok (.invokevirtual 246, 3) := by decide +kernel
theorem dX11_writeWay_34 : decode cX11_writeWay 34 = .ok (.aload_n 0, 1) := by decide +kernel
theorem dX11_writeWay_35 : decode cX11_writeWay 35 = .ok (.aload_n 0, 1) := by decide +kernel
theorem dX11_writeWay_36 : decode cX11_writeWay 36 = .ok (.iload_n 3, 1) := by decide +kernel
theorem dX11_writeWay_37 : decode cX11_writeWay 37 = .ok (.invokevirtual 131, 3) := by decide +kernel
theorem dX11_writeWay_40 : decode cX11_writeWay 40 = .ok (.invokevirtual 243, 3) := by decide +kernel
theorem dX11_writeWay_43 : decode cX11_writeWay 43 = .ok (.aload_n 0, 1) := by decide +kernel
theorem dX11_writeWay_44 : decode cX11_writeWay 44 = .ok (.iload_n 3, 1) := by decide +kernel
theorem dX11_writeWay_45 : decode cX11_writeWay 45 = .ok (.invokevirtual 131, 3) := by decide +kernel
theorem dX11_writeWay_48 : decode cX11_writeWay 48 = .ok (.istore_n 3, 1) := by decide +kernel
theorem dX11_writeWay_49 : decode cX11_writeWay 49 = .ok (.goto (-26), 3) := by decide +kernel
theorem dX11_writeWay_52 : decode cX11_writeWay 52 = .ok (.aload_n 0, 1) := by decide +kernel
theorem dX11_writeWay_53 : decode cX11_writeWay 53 = .ok (.bipush 61, 2) := by decide +kernel
theorem dX11_writeWay_55 : decode cX11_writeWay 55 = .ok (.invokevirtual 246, 3) := by decide +kernel
theorem dX11_writeWay_58 : decode cX11_writeWay 58 = .ok (.aload_n 0, 1) := by decide +kernel
theorem dX11_writeWay_59 : decode cX11_writeWay 59 = .ok (.aload_n 0, 1) := by decide +kernel
theorem dX11_writeWay_60 : decode cX11_writeWay 60 = .ok (.getfield 22, 3) := by decide +kernel
theorem dX11_writeWay_63 : decode cX11_writeWay 63 = .ok (.iload_n 1, 1) := by decide +kernel
theorem dX11_writeWay_64 : decode cX11_writeWay 64 = .ok (.iaload, 1) := by decide +kernel
theorem dX11_writeWay_65 : decode cX11_writeWay 65 = .ok (.invokevirtual 243, 3) := by decide +kernel
theorem dX11_writeWay_68 : decode cX11_writeWay 68 = .ok (.aload_n 0, 1) := by decide +kernel
theorem dX11_writeWay_69 : decode cX11_writeWay 69 = .ok (.getfield 240, 3) := by decide +kernel
theorem dX11_writeWay_72 : decode cX11_writeWay 72 = .ok (.ireturn, 1) := by decide +kernel
abbrev rmX11_writeWay : Room := { frames := 16, cells := 0, slots := 0, locals := 822 }
set_option maxHeartbeats 4000000 in
set_option maxRecDepth 100000 in
theorem metX11_writeWay {l : Launch} {s0 : State} {b B : Nat} {D : va_G} {T : Nat → ClassId} (F : FX l s0 b D T B) {X : Nat → Prop} (hX : ∀ o, o < 12 → ¬ X (B + o)) {N : Nat} {μ : Mem} {a0 : Nat} {a1 : Int32} {a2 : Int32} {r : Mem × Int32} (k0 : IsMo a0) (h : fX11_writeWay N μ a0 a1 a2 = some r) : gMet l yX11_writeWay cX11_writeWay 4 (some .int) rmX11_writeWay [.ref (B + a0), .int a1, .int a2] (gWM D T B μ) (KC s0 X) (some (.int r.2)) (gWM D T B r.1) (gA B X) 0 0 := by
  refine gI_of RX11 (by decide +kernel) rfl (Nat.le_of_ble_eq_true rfl) ?_
  intro p e s m args below meth c ls Q hx hb hlocks hml hown hts hW hk hl hS hend
  have hC := FX_C F hk hx hb hown hts
  have hA := gA_allM hX
  have hl : lv_has ls 4 [(0, .ref (B + a0)), (1, .int a1), (2, .int a2)] := hl
  unfold fX11_writeWay at h
  refine lv_aload_n hx hb dX11_writeWay_0 rfl (lv_at hl 0 rfl) ?_
  refine lv_iload_n hx hb dX11_writeWay_1 rfl (lv_at hl 1 rfl) ?_
  refine lv_iload_n hx hb dX11_writeWay_2 rfl (lv_at hl 2 rfl) ?_
  obtain ⟨r1, hcall, h⟩ := bd_out h
  refine g0_callV (As := [.int a1, .int a2]) hC hml hS hW (KC_at hk hS F.2.2.2.2) KC_blind (metX11_asksWay F hX k0 hcall) ml_X11_125 (gw_recv hC hW k0.1 (k0.2.1 T B (μ a0)) rfl) ⟨rfl, rfl, (Nat.le_of_ble_eq_true rfl), (Nat.le_of_ble_eq_true rfl)⟩ rfl hl.1 rfl (Nat.le_of_ble_eq_true rfl) dX11_writeWay_3 ⟨(Nat.le_of_ble_eq_true rfl), (Nat.le_of_ble_eq_true rfl)⟩ (fun H locs hW hS => ?_)
  refine gw_if_neZ (tgt := 11) hx hb dX11_writeWay_6 (by decide) (fun c2 => ?_) (fun c2 => ?_)
  · replace h := cond_t c2 h
    refine lv_aload_n hx hb dX11_writeWay_11 rfl (lv_at hl 0 rfl) ?_
    refine lv_iconst (v := 0) hx hb dX11_writeWay_12 (by decide) ?_
    obtain ⟨μ3, e4, h⟩ := lt_out h
    refine gq_put hC hS hW hA fl_X11_240 k0.1 (k0.2.1 T B) (Nat.le_of_ble_eq_true rfl) rfl rfl rfl e4 dX11_writeWay_13 (fun H locs hW hS => ?_)
    refine lv_aload_n hx hb dX11_writeWay_16 rfl (lv_at hl 0 rfl) ?_
    refine lv_iload_n hx hb dX11_writeWay_17 rfl (lv_at hl 1 rfl) ?_
    obtain ⟨r5, hcall, h⟩ := bd_out h
    refine g0_callV (As := [.int a1]) hC hml hS hW (KC_at hk hS F.2.2.2.2) KC_blind (metX11_saysNumber F hX 12 k0 hcall) ml_X11_243 (gw_recv hC hW k0.1 (k0.2.1 T B (μ3 a0)) rfl) ⟨rfl, rfl, (Nat.le_of_ble_eq_true rfl), (Nat.le_of_ble_eq_true rfl)⟩ rfl hl.1 rfl (Nat.le_of_ble_eq_true rfl) dX11_writeWay_18 ⟨(Nat.le_of_ble_eq_true rfl), (Nat.le_of_ble_eq_true rfl)⟩ (fun H locs hW hS => ?_)
    refine lv_iload_n hx hb dX11_writeWay_21 rfl (lv_at hl 1 rfl) ?_
    refine lv_istore_n (lv' := [(3, .int a1), (0, .ref (B + a0)), (1, .int a1), (2, .int a2)]) hx hb dX11_writeWay_22 rfl hl (by decide) rfl (fun ls hl => ?_)
    refine fix2_ind (fun (x6 : Int32) (μ7 : Mem) => ∀ (H : Heap) (locs : List Loc) (ls : Array Slot), gWM D T B μ7 H → va_S (gA B X) s.heap H locs → lv_has ls 4 [(0, .ref (B + a0)), (1, .int a1), (2, .int a2), (3, .int x6)] → W p l e rmX11_writeWay s m args below meth c H locs 0 0 Q (F0 m 23 ls [])) ?_ N _ _ h _ _ _ hW hS (lv_sub hl [1, 2, 3, 0] rfl)
    clear h hW hS hl
    intro self8 IH9 x6 μ7 h H locs ls hW hS hl
    refine lv_iload_n hx hb dX11_writeWay_23 rfl (lv_at hl 3 rfl) ?_
    refine lv_iload_n hx hb dX11_writeWay_24 rfl (lv_at hl 2 rfl) ?_
    refine lv_icmp_eq (tgt := 52) hx hb dX11_writeWay_25 (by decide) (fun c10 => ?_) (fun c10 => ?_)
    · replace h := ite_t c10 h
      refine lv_aload_n hx hb dX11_writeWay_52 rfl (lv_at hl 0 rfl) ?_
      refine lv_bipush (v := 61) hx hb dX11_writeWay_53 (by decide) ?_
      obtain ⟨r11, hcall, h⟩ := bd_out h
      refine g0_callV (As := [.int 61]) hC hml hS hW (KC_at hk hS F.2.2.2.2) KC_blind (metX11_says F hX k0 hcall) ml_X11_246 (gw_recv hC hW k0.1 (k0.2.1 T B (μ7 a0)) rfl) ⟨rfl, rfl, (Nat.le_of_ble_eq_true rfl), (Nat.le_of_ble_eq_true rfl)⟩ rfl hl.1 rfl (Nat.le_of_ble_eq_true rfl) dX11_writeWay_55 ⟨(Nat.le_of_ble_eq_true rfl), (Nat.le_of_ble_eq_true rfl)⟩ (fun H locs hW hS => ?_)
      refine lv_aload_n hx hb dX11_writeWay_58 rfl (lv_at hl 0 rfl) ?_
      refine lv_aload_n hx hb dX11_writeWay_59 rfl (lv_at hl 0 rfl) ?_
      refine gw_get (v := .ref (B + (a0 + 5))) hC hW fl_X11_22 k0.1 (k0.2.1 T B (r11 a0)) rfl dX11_writeWay_60 ?_
      refine lv_iload_n hx hb dX11_writeWay_63 rfl (lv_at hl 1 rfl) ?_
      obtain ⟨v12, e13, hi14, h⟩ := ag_o h
      refine gq_iald hC hW k0.2.2.2.2.2.2.1.1 (k0.2.2.2.2.2.2.1.2 T B (r11 (a0 + 5))) (t0 := 0) rfl e13 hi14 dX11_writeWay_64 ?_
      obtain ⟨r15, hcall, h⟩ := bd_out h
      refine g0_callV (As := [.int v12]) hC hml hS hW (KC_at hk hS F.2.2.2.2) KC_blind (metX11_saysNumber F hX 12 k0 hcall) ml_X11_243 (gw_recv hC hW k0.1 (k0.2.1 T B (r11 a0)) rfl) ⟨rfl, rfl, (Nat.le_of_ble_eq_true rfl), (Nat.le_of_ble_eq_true rfl)⟩ rfl hl.1 rfl (Nat.le_of_ble_eq_true rfl) dX11_writeWay_65 ⟨(Nat.le_of_ble_eq_true rfl), (Nat.le_of_ble_eq_true rfl)⟩ (fun H locs hW hS => ?_)
      refine lv_aload_n hx hb dX11_writeWay_68 rfl (lv_at hl 0 rfl) ?_
      refine gw_get (v := .int (r15 a0 15)) hC hW fl_X11_240.1 k0.1 (k0.2.1 T B (r15 a0)) rfl dX11_writeWay_69 ?_
      cases h
      exact hend dX11_writeWay_72 hW hS (Nat.le_of_ble_eq_true rfl) (Nat.le_of_ble_eq_true rfl)
    · replace h := ite_f c10 h
      refine lv_aload_n hx hb dX11_writeWay_28 rfl (lv_at hl 0 rfl) ?_
      refine lv_bipush (v := 62) hx hb dX11_writeWay_29 (by decide) ?_
      obtain ⟨r16, hcall, h⟩ := bd_out h
      refine g0_callV (As := [.int 62]) hC hml hS hW (KC_at hk hS F.2.2.2.2) KC_blind (metX11_says F hX k0 hcall) ml_X11_246 (gw_recv hC hW k0.1 (k0.2.1 T B (μ7 a0)) rfl) ⟨rfl, rfl, (Nat.le_of_ble_eq_true rfl), (Nat.le_of_ble_eq_true rfl)⟩ rfl hl.1 rfl (Nat.le_of_ble_eq_true rfl) dX11_writeWay_31 ⟨(Nat.le_of_ble_eq_true rfl), (Nat.le_of_ble_eq_true rfl)⟩ (fun H locs hW hS => ?_)
      refine lv_aload_n hx hb dX11_writeWay_34 rfl (lv_at hl 0 rfl) ?_
      refine lv_aload_n hx hb dX11_writeWay_35 rfl (lv_at hl 0 rfl) ?_
      refine lv_iload_n hx hb dX11_writeWay_36 rfl (lv_at hl 3 rfl) ?_
      obtain ⟨r17, hcall, h⟩ := bd_out h
      refine g0_callV (As := [.int x6]) hC hml hS hW (KC_at hk hS F.2.2.2.2) KC_blind (metX11_next F hX k0 hcall) ml_X11_131 (gw_recv hC hW k0.1 (k0.2.1 T B (r16 a0)) rfl) ⟨rfl, rfl, (Nat.le_of_ble_eq_true rfl), (Nat.le_of_ble_eq_true rfl)⟩ rfl hl.1 rfl (Nat.le_of_ble_eq_true rfl) dX11_writeWay_37 ⟨(Nat.le_of_ble_eq_true rfl), (Nat.le_of_ble_eq_true rfl)⟩ (fun H locs hW hS => ?_)
      obtain ⟨r18, hcall, h⟩ := bd_out h
      refine g0_callV (As := [.int r17]) hC hml hS hW (KC_at hk hS F.2.2.2.2) KC_blind (metX11_saysNumber F hX 12 k0 hcall) ml_X11_243 (gw_recv hC hW k0.1 (k0.2.1 T B (r16 a0)) rfl) ⟨rfl, rfl, (Nat.le_of_ble_eq_true rfl), (Nat.le_of_ble_eq_true rfl)⟩ rfl hl.1 rfl (Nat.le_of_ble_eq_true rfl) dX11_writeWay_40 ⟨(Nat.le_of_ble_eq_true rfl), (Nat.le_of_ble_eq_true rfl)⟩ (fun H locs hW hS => ?_)
      refine lv_aload_n hx hb dX11_writeWay_43 rfl (lv_at hl 0 rfl) ?_
      refine lv_iload_n hx hb dX11_writeWay_44 rfl (lv_at hl 3 rfl) ?_
      obtain ⟨r19, hcall, h⟩ := bd_out h
      refine g0_callV (As := [.int x6]) hC hml hS hW (KC_at hk hS F.2.2.2.2) KC_blind (metX11_next F hX k0 hcall) ml_X11_131 (gw_recv hC hW k0.1 (k0.2.1 T B (r18 a0)) rfl) ⟨rfl, rfl, (Nat.le_of_ble_eq_true rfl), (Nat.le_of_ble_eq_true rfl)⟩ rfl hl.1 rfl (Nat.le_of_ble_eq_true rfl) dX11_writeWay_45 ⟨(Nat.le_of_ble_eq_true rfl), (Nat.le_of_ble_eq_true rfl)⟩ (fun H locs hW hS => ?_)
      refine lv_istore_n (lv' := [(3, .int r19), (0, .ref (B + a0)), (1, .int a1), (2, .int a2)]) hx hb dX11_writeWay_48 rfl hl (by decide) rfl (fun ls hl => ?_)
      refine lv_goto (tgt := 23) hx hb dX11_writeWay_49 (by decide) ?_
      exact IH9 _ _ h _ _ _ hW hS (lv_sub hl [1, 2, 3, 0] rfl)
  · replace h := cond_f c2 h
    refine lv_iconst (v := 0) hx hb dX11_writeWay_9 (by decide) ?_
    cases h
    exact hend dX11_writeWay_10 hW hS (Nat.le_of_ble_eq_true rfl) (Nat.le_of_ble_eq_true rfl)

