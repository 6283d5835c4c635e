/-! Printed by program: the script read and run. -/
theorem dX7_readShape_0 : decode cX7_readShape 0 = .ok (.iconst 0, 1) := by decide +kernel
theorem dX7_readShape_1 : decode cX7_readShape 1 = .ok (.istore_n 3, 1) := by decide +kernel
theorem dX7_readShape_2 : decode cX7_readShape 2 = .ok (.aload_n 0, 1) := by decide +kernel
theorem dX7_readShape_3 : decode cX7_readShape 3 = .ok (.iload_n 2, 1) := by decide +kernel
theorem dX7_readShape_4 : decode cX7_readShape 4 = .ok (.putfield 34, 3) := by decide +kernel
theorem dX7_readShape_7 : decode cX7_readShape 7 = .ok (.iconst 0, 1) := by decide +kernel
theorem dX7_readShape_8 : decode cX7_readShape 8 = .ok (.istore 4, 2) := by decide +kernel
theorem dX7_readShape_10 : decode cX7_readShape 10 = .ok (.iload 4, 2) := by decide +kernel
theorem dX7_readShape_12 : decode cX7_readShape 12 = .ok (.aload_n 1, 1) := by decide +kernel
theorem dX7_readShape_13 : decode cX7_readShape 13 = .ok (.invokevirtual 57, 3) := by decide +kernel
theorem dX7_readShape_16 : decode cX7_readShape 16 = .ok (.if_icmp .ge 106, 3) := by decide +kernel
theorem dX7_readShape_19 : decode cX7_readShape 19 = .ok (.aload_n 1, 1) := by decide +kernel
theorem dX7_readShape_20 : decode cX7_readShape 20 = .ok (.iload 4, 2) := by decide +kernel
theorem dX7_readShape_22 : decode cX7_readShape 22 = .ok (.invokevirtual 62, 3) := by decide +kernel
theorem dX7_readShape_25 : decode cX7_readShape 25 = .ok (.istore 5, 2) := by decide +kernel
theorem dX7_readShape_27 : decode cX7_readShape 27 = .ok (.aload_n 0, 1) := by decide +kernel
theorem dX7_readShape_28 : decode cX7_readShape 28 = .ok (.getfield 34, 3) := by decide +kernel
theorem dX7_readShape_31 : decode cX7_readShape 31 = .ok (.istore 6, 2) := by decide +kernel
theorem dX7_readShape_33 : decode cX7_readShape 33 = .ok (.iload 5, 2) := by decide +kernel
theorem dX7_readShape_35 : decode cX7_readShape 35 = .ok (.bipush 35, 2) := by decide +kernel
theorem dX7_readShape_37 : decode cX7_readShape 37 = .ok (.if_icmp .eq 10, 3) := by decide +kernel
theorem dX7_readShape_40 : decode cX7_readShape 40 = .ok (.iload 5, 2) := by decide +kernel
theorem dX7_readShape_42 : decode cX7_readShape 42 = .ok (.bipush 37, 2) := by decide +kernel
theorem dX7_readShape_44 : decode cX7_readShape 44 = .ok (.if_icmp .ne 26, 3) := by decide +kernel
theorem dX7_readShape_47 : decode cX7_readShape 47 = .ok (.aload_n 0, 1) := by decide +kernel
theorem dX7_readShape_48 : decode cX7_readShape 48 = .ok (.iload_n 3, 1) := by decide +kernel
theorem dX7_readShape_49 : decode cX7_readShape 49 = .ok (.iload 5, 2) := by decide +kernel
theorem dX7_readShape_51 : decode cX7_readShape 51 = .ok (.bipush 35, 2) := by decide +kernel
theorem dX7_readShape_53 : decode cX7_readShape 53 = .ok (.if_icmp .ne 7, 3) := by decide +kernel
theorem dX7_readShape_56 : decode cX7_readShape 56 = .ok (.iconst 1, 1) := by decide +kernel
theorem dX7_readShape_57 : decode cX7_readShape 57 = .ok (.goto 4, 3) := by decide +kernel
theorem dX7_readShape_60 : decode cX7_readShape 60 = .ok (.iconst 2, 1) := by decide +kernel
theorem dX7_readShape_61 : decode cX7_readShape 61 = .ok (.invokevirtual 66, 3) := by decide +kernel
theorem dX7_readShape_64 : decode cX7_readShape 64 = .ok (.iinc 3 1, 3) := by decide +kernel
theorem dX7_readShape_67 : decode cX7_readShape 67 = .ok (.goto 38, 3) := by decide +kernel
theorem dX7_readShape_70 : decode cX7_readShape 70 = .ok (.aload_n 0, 1) := by decide +kernel
theorem dX7_readShape_71 : decode cX7_readShape 71 = .ok (.getfield 34, 3) := by decide +kernel
theorem dX7_readShape_74 : decode cX7_readShape 74 = .ok (.aload_n 0, 1) := by decide +kernel
theorem dX7_readShape_75 : decode cX7_readShape 75 = .ok (.getfield 37, 3) := by decide +kernel
theorem dX7_readShape_78 : decode cX7_readShape 78 = .ok (.if_icmp .ge 27, 3) := by decide +kernel
theorem dX7_readShape_81 : decode cX7_readShape 81 = .ok (.aload_n 0, 1) := by decide +kernel
theorem dX7_readShape_82 : decode cX7_readShape 82 = .ok (.getfield 9, 3) := by decide +kernel
theorem dX7_readShape_85 : decode cX7_readShape 85 = .ok (.aload_n 0, 1) := by decide +kernel
theorem dX7_readShape_86 : decode cX7_readShape 86 = .ok (.getfield 34, 3) := by decide +kernel
theorem dX7_readShape_89 : decode cX7_readShape 89 = .ok (.caload, 1) := by decide +kernel
theorem dX7_readShape_90 : decode cX7_readShape 90 = .ok (.iload 5, 2) := by decide +kernel
theorem dX7_readShape_92 : decode cX7_readShape 92 = .ok (.if_icmp .ne 13, 3) := by decide +kernel
theorem dX7_readShape_95 : decode cX7_readShape 95 = .ok (.aload_n 0, 1) := by decide +kernel
theorem dX7_readShape_96 : decode cX7_readShape 96 = .ok (.dup, 1) := by decide +kernel
theorem dX7_readShape_97 : decode cX7_readShape 97 = .ok (.getfield 34, 3) := by decide +kernel
theorem dX7_readShape_100 : decode cX7_readShape 100 = .ok (.iconst 1, 1) := by decide +kernel
theorem dX7_readShape_101 : decode cX7_readShape 101 = .ok (.iadd, 1) := by decide +kernel
theorem dX7_readShape_102 : decode cX7_readShape 102 = .ok (.putfield 34, 3) := by decide +kernel
theorem dX7_readShape_105 : decode cX7_readShape 105 = .ok (.aload_n 0, 1) := by decide +kernel
theorem dX7_readShape_106 : decode cX7_readShape 106 = .ok (.getfield 34, 3) := by decide +kernel
theorem dX7_readShape_109 : decode cX7_readShape 109 = .ok (.iload 6, 2) := by decide +kernel
theorem dX7_readShape_111 : decode cX7_readShape 111 = .ok (.if_icmp .ne 5, 3) := by decide +kernel
theorem dX7_readShape_114 : decode cX7_readShape 114 = .ok (.iconst 0, 1) := by decide +kernel
theorem dX7_readShape_115 : decode cX7_readShape 115 = .ok (.ireturn, 1) := by decide +kernel
theorem dX7_readShape_116 : decode cX7_readShape 116 = .ok (.iinc 4 1, 3) := by decide +kernel
theorem dX7_readShape_119 : decode cX7_readShape 119 = .ok (.goto (-109), 3) := by decide +kernel
theorem dX7_readShape_122 : decode cX7_readShape 122 = .ok (.iconst 1, 1) := by decide +kernel
theorem dX7_readShape_123 : decode cX7_readShape 123 = .ok (.ireturn, 1) := by decide +kernel
abbrev rmX7_readShape : Room := { frames := 6, cells := 0, slots := 0, locals := 200 }
set_option maxHeartbeats 4000000 in
set_option maxRecDepth 100000 in
theorem metX7_readShape {l : Launch} {s0 : State} {b B : Nat} {D : va_G} {T : Nat → ClassId} (F : FX l s0 b D T B) {X : Nat → Prop} (hX : ∀ o, o < 560 → ¬ X (B + o)) {N : Nat} {μ : Mem} {a0 : Nat} {a1 : Nat} {a2 : Int32} {r : Mem × Bool} (k0 : IsSc a0) (k1 : sOK a1) (h : fX7_readShape N μ a0 a1 a2 = some r) : gMet l yX7_readShape cX7_readShape 7 (some .boolean) rmX7_readShape [.ref (B + a0), .ref (gsa s0 a1), .int a2] (gWC s0 D T B μ) (KC s0 X) (some (.int (b2i r.2))) (gWC s0 D T B r.1) (gA B X) 0 0 := by
  refine gZ_of RX7 (by decide +kernel) rfl (Nat.le_of_ble_eq_true rfl) ?_
  intro p e s m args below meth c ls Q hx hb hlocks hml hown hts hW hk hl hS hend
  have hC := FX_C F hk hx hb hown hts
  have hA := gA_all hX
  have hl : lv_has ls 7 [(0, .ref (B + a0)), (1, .ref (gsa s0 a1)), (2, .int a2)] := hl
  unfold fX7_readShape at h
  refine lv_iconst (v := 0) hx hb dX7_readShape_0 (by decide) ?_
  refine lv_istore_n (lv' := [(3, .int 0), (0, .ref (B + a0)), (1, .ref (gsa s0 a1)), (2, .int a2)]) hx hb dX7_readShape_1 rfl hl (by decide) rfl (fun ls hl => ?_)
  refine lv_aload_n hx hb dX7_readShape_2 rfl (lv_at hl 1 rfl) ?_
  refine lv_iload_n hx hb dX7_readShape_3 rfl (lv_at hl 3 rfl) ?_
  obtain ⟨μ1, e2, h⟩ := lt_out h
  refine gq_put hC hS hW hA fl_X7_34 k0.1 (k0.2.1 (gfm s0) T B) (Nat.le_of_ble_eq_true rfl) rfl rfl rfl e2 dX7_readShape_4 (fun H locs hW hS => ?_)
  refine lv_iconst (v := 0) hx hb dX7_readShape_7 (by decide) ?_
  refine lv_istore (lv' := [(4, .int 0), (3, .int 0), (0, .ref (B + a0)), (1, .ref (gsa s0 a1)), (2, .int a2)]) hx hb dX7_readShape_8 hl (by decide) rfl (fun ls hl => ?_)
  refine fix3_ind (fun (x3 : Int32) (x4 : Int32) (μ5 : Mem) => ∀ (H : Heap) (locs : List Loc) (ls : Array Slot), gWC s0 D T B μ5 H → va_S (gA B X) s.heap H locs → lv_has ls 7 [(0, .ref (B + a0)), (1, .ref (gsa s0 a1)), (3, .int x3), (4, .int x4)] → W p l e rmX7_readShape s m args below meth c H locs 0 0 Q (F0 m 10 ls [])) ?_ N _ _ _ h _ _ _ hW hS (lv_sub hl [2, 3, 1, 0] rfl)
  clear h hW hS hl
  intro self6 IH7 x3 x4 μ5 h H locs ls hW hS hl
  refine lv_iload hx hb dX7_readShape_10 (lv_at hl 3 rfl) ?_
  refine lv_aload_n hx hb dX7_readShape_12 rfl (lv_at hl 1 rfl) ?_
  refine g_slen F hk hC hml hS k1 ml_X7_57 ⟨rfl, rfl, (Nat.le_of_ble_eq_true rfl), (Nat.le_of_ble_eq_true rfl)⟩ hl.1 (Nat.le_of_ble_eq_true rfl) dX7_readShape_13 ⟨(Nat.le_of_ble_eq_true rfl), (Nat.le_of_ble_eq_true rfl)⟩ (fun locs hS => ?_)
  refine lv_icmp_ge (tgt := 122) hx hb dX7_readShape_16 (by decide) (fun c8 => ?_) (fun c8 => ?_)
  · replace h := ite_t c8 h
    refine lv_iconst (v := 1) hx hb dX7_readShape_122 (by decide) ?_
    cases h
    exact hend dX7_readShape_123 hW hS (Nat.le_of_ble_eq_true rfl) (Nat.le_of_ble_eq_true rfl)
  · replace h := ite_f c8 h
    refine lv_aload_n hx hb dX7_readShape_19 rfl (lv_at hl 1 rfl) ?_
    refine lv_iload hx hb dX7_readShape_20 (lv_at hl 3 rfl) ?_
    obtain ⟨v9, e10, hi11, h⟩ := sat_o h
    refine g_schar F hk hC hml hS k1 e10 hi11 ml_X7_62 ⟨rfl, rfl, (Nat.le_of_ble_eq_true rfl), (Nat.le_of_ble_eq_true rfl)⟩ hl.1 (Nat.le_of_ble_eq_true rfl) dX7_readShape_22 ⟨(Nat.le_of_ble_eq_true rfl), (Nat.le_of_ble_eq_true rfl)⟩ (fun locs hS => ?_)
    refine lv_istore (lv' := [(5, .int v9), (0, .ref (B + a0)), (1, .ref (gsa s0 a1)), (3, .int x3), (4, .int x4)]) hx hb dX7_readShape_25 hl (by decide) rfl (fun ls hl => ?_)
    refine lv_aload_n hx hb dX7_readShape_27 rfl (lv_at hl 1 rfl) ?_
    refine gw_get (v := .int (μ5 a0 5)) hC hW fl_X7_34.1 k0.1 (k0.2.1 (gfm s0) T B (μ5 a0)) rfl dX7_readShape_28 ?_
    obtain ⟨v12, e13, h⟩ := lt_out h
    rw [← e13]
    refine lv_istore (lv' := [(6, .int v12), (5, .int v9), (0, .ref (B + a0)), (1, .ref (gsa s0 a1)), (3, .int x3), (4, .int x4)]) hx hb dX7_readShape_31 hl (by decide) rfl (fun ls hl => ?_)
    refine lv_iload hx hb dX7_readShape_33 (lv_at hl 1 rfl) ?_
    refine lv_bipush (v := 35) hx hb dX7_readShape_35 (by decide) ?_
    obtain ⟨j16, hj18, h⟩ := jn2_o h
    have J17 : ∀ (y14 : Int32) (μ15 : Mem), j16 y14 μ15 = some r → ∀ (H : Heap) (locs : List Loc) (ls : Array Slot), gWC s0 D T B μ15 H → va_S (gA B X) s.heap H locs → lv_has ls 7 [(0, .ref (B + a0)), (1, .ref (gsa s0 a1)), (3, .int y14), (4, .int x4), (6, .int v12)] → W p l e rmX7_readShape s m args below meth c H locs 0 0 Q (F0 m 105 ls []) := by
      clear h hW hS hl
      intro y14 μ15 h H locs ls hW hS hl
      replace h := (hj18 y14 μ15).symm.trans h
      refine lv_aload_n hx hb dX7_readShape_105 rfl (lv_at hl 0 rfl) ?_
      refine gw_get (v := .int (μ15 a0 5)) hC hW fl_X7_34.1 k0.1 (k0.2.1 (gfm s0) T B (μ15 a0)) rfl dX7_readShape_106 ?_
      refine lv_iload hx hb dX7_readShape_109 (lv_at hl 4 rfl) ?_
      refine lv_icmp_ne (tgt := 116) hx hb dX7_readShape_111 (by decide) (fun c19 => ?_) (fun c19 => ?_)
      · replace h := ite_f c19 h
        obtain ⟨v20, e21, h⟩ := lt_out h
        refine lv_iinc (v := v20) (lv' := [(4, .int v20), (0, .ref (B + a0)), (1, .ref (gsa s0 a1)), (3, .int y14), (6, .int v12)]) hx hb dX7_readShape_116 hl (k := 3) rfl (by rw [e21]; rfl) (by decide) rfl (fun ls hl => ?_)
        refine lv_goto (tgt := 10) hx hb dX7_readShape_119 (by decide) ?_
        exact IH7 _ _ _ h _ _ _ hW hS (lv_sub hl [1, 2, 3, 0] rfl)
      · replace h := ite_t c19 h
        refine lv_iconst (v := 0) hx hb dX7_readShape_114 (by decide) ?_
        cases h
        exact hend dX7_readShape_115 hW hS (Nat.le_of_ble_eq_true rfl) (Nat.le_of_ble_eq_true rfl)
    obtain ⟨j23, hj25, h⟩ := jn1_o h
    have J24 : ∀ (u22 : Unit), j23 u22 = some r → ∀ (H : Heap) (locs : List Loc) (ls : Array Slot), gWC s0 D T B μ5 H → va_S (gA B X) s.heap H locs → lv_has ls 7 [(0, .ref (B + a0)), (1, .ref (gsa s0 a1)), (3, .int x3), (4, .int x4), (5, .int v9), (6, .int v12)] → W p l e rmX7_readShape s m args below meth c H locs 0 0 Q (F0 m 47 ls []) := by
      clear h hW hS hl
      intro u22 h H locs ls hW hS hl
      replace h := (hj25 u22).symm.trans h
      refine lv_aload_n hx hb dX7_readShape_47 rfl (lv_at hl 0 rfl) ?_
      refine lv_iload_n hx hb dX7_readShape_48 rfl (lv_at hl 2 rfl) ?_
      refine lv_iload hx hb dX7_readShape_49 (lv_at hl 4 rfl) ?_
      refine lv_bipush (v := 35) hx hb dX7_readShape_51 (by decide) ?_
      obtain ⟨j27, hj29, h⟩ := jn1_o h
      have J28 : ∀ (y26 : Int32), j27 y26 = some r → ∀ (H : Heap) (locs : List Loc) (ls : Array Slot), gWC s0 D T B μ5 H → va_S (gA B X) s.heap H locs → lv_has ls 7 [(0, .ref (B + a0)), (1, .ref (gsa s0 a1)), (3, .int x3), (4, .int x4), (6, .int v12)] → W p l e rmX7_readShape s m args below meth c H locs 0 0 Q (F0 m 61 ls [.int y26, .int x3, .ref (B + a0)]) := by
        clear h hW hS hl
        intro y26 h H locs ls hW hS hl
        replace h := (hj29 y26).symm.trans h
        obtain ⟨r30, hcall, h⟩ := bd_out h
        refine g0_callV (As := [.int x3, .int y26]) hC hml hS hW (KC_at hk hS F.2.2.2.2) KC_blind (metX7_readNumber F hX k0 hcall) ml_X7_66 (gw_recv hC hW k0.1 (k0.2.1 (gfm s0) T B (μ5 a0)) rfl) ⟨rfl, rfl, (Nat.le_of_ble_eq_true rfl), (Nat.le_of_ble_eq_true rfl)⟩ rfl hl.1 rfl (Nat.le_of_ble_eq_true rfl) dX7_readShape_61 ⟨(Nat.le_of_ble_eq_true rfl), (Nat.le_of_ble_eq_true rfl)⟩ (fun H locs hW hS => ?_)
        obtain ⟨v31, e32, h⟩ := lt_out h
        refine lv_iinc (v := v31) (lv' := [(3, .int v31), (0, .ref (B + a0)), (1, .ref (gsa s0 a1)), (4, .int x4), (6, .int v12)]) hx hb dX7_readShape_64 hl (k := 2) rfl (by rw [e32]; rfl) (by decide) rfl (fun ls hl => ?_)
        refine lv_goto (tgt := 105) hx hb dX7_readShape_67 (by decide) ?_
        exact J17 _ _ h _ _ _ hW hS (lv_sub hl [1, 2, 0, 3, 4] rfl)
      refine lv_icmp_ne (tgt := 60) hx hb dX7_readShape_53 (by decide) (fun c33 => ?_) (fun c33 => ?_)
      · replace h := ite_f c33 h
        refine lv_iconst (v := 2) hx hb dX7_readShape_60 (by decide) ?_
        exact J28 _ h _ _ _ hW hS (lv_sub hl [0, 1, 2, 3, 5] rfl)
      · replace h := ite_t c33 h
        refine lv_iconst (v := 1) hx hb dX7_readShape_56 (by decide) ?_
        refine lv_goto (tgt := 61) hx hb dX7_readShape_57 (by decide) ?_
        exact J28 _ h _ _ _ hW hS (lv_sub hl [0, 1, 2, 3, 5] rfl)
    refine lv_icmp_eq (tgt := 47) hx hb dX7_readShape_37 (by decide) (fun c34 => ?_) (fun c34 => ?_)
    · replace h := ite_t c34 h
      exact J24 _ h _ _ _ hW hS (lv_sub hl [2, 3, 4, 5, 1, 0] rfl)
    · replace h := ite_f c34 h
      refine lv_iload hx hb dX7_readShape_40 (lv_at hl 1 rfl) ?_
      refine lv_bipush (v := 37) hx hb dX7_readShape_42 (by decide) ?_
      refine lv_icmp_ne (tgt := 70) hx hb dX7_readShape_44 (by decide) (fun c35 => ?_) (fun c35 => ?_)
      · replace h := ite_f c35 h
        refine lv_aload_n hx hb dX7_readShape_70 rfl (lv_at hl 2 rfl) ?_
        refine gw_get (v := .int (μ5 a0 5)) hC hW fl_X7_34.1 k0.1 (k0.2.1 (gfm s0) T B (μ5 a0)) rfl dX7_readShape_71 ?_
        refine lv_aload_n hx hb dX7_readShape_74 rfl (lv_at hl 2 rfl) ?_
        refine gw_get (v := .int (μ5 a0 1)) hC hW fl_X7_37.1 k0.1 (k0.2.1 (gfm s0) T B (μ5 a0)) rfl dX7_readShape_75 ?_
        refine lv_icmp_ge (tgt := 105) hx hb dX7_readShape_78 (by decide) (fun c36 => ?_) (fun c36 => ?_)
        · replace h := ite_t c36 h
          exact J17 _ _ h _ _ _ hW hS (lv_sub hl [2, 3, 4, 5, 0] rfl)
        · replace h := ite_f c36 h
          refine lv_aload_n hx hb dX7_readShape_81 rfl (lv_at hl 2 rfl) ?_
          refine gw_get (v := .ref (B + (a0 + 1))) hC hW fl_X7_9 k0.1 (k0.2.1 (gfm s0) T B (μ5 a0)) rfl dX7_readShape_82 ?_
          refine lv_aload_n hx hb dX7_readShape_85 rfl (lv_at hl 2 rfl) ?_
          refine gw_get (v := .int (μ5 a0 5)) hC hW fl_X7_34.1 k0.1 (k0.2.1 (gfm s0) T B (μ5 a0)) rfl dX7_readShape_86 ?_
          obtain ⟨v37, e38, hi39, h⟩ := ag_o h
          refine gq_cald hC hW k0.2.2.1.1 (k0.2.2.1.2 (gfm s0) T B (μ5 (a0 + 1))) (t0 := 2) rfl e38 hi39 dX7_readShape_89 ?_
          refine lv_iload hx hb dX7_readShape_90 (lv_at hl 1 rfl) ?_
          refine lv_icmp_ne (tgt := 105) hx hb dX7_readShape_92 (by decide) (fun c40 => ?_) (fun c40 => ?_)
          · replace h := ite_f c40 h
            exact J17 _ _ h _ _ _ hW hS (lv_sub hl [2, 3, 4, 5, 0] rfl)
          · replace h := ite_t c40 h
            refine lv_aload_n hx hb dX7_readShape_95 rfl (lv_at hl 2 rfl) ?_
            refine lv_dup hx hb dX7_readShape_96 rfl ?_
            refine gw_get (v := .int (μ5 a0 5)) hC hW fl_X7_34.1 k0.1 (k0.2.1 (gfm s0) T B (μ5 a0)) rfl dX7_readShape_97 ?_
            refine lv_iconst (v := 1) hx hb dX7_readShape_100 (by decide) ?_
            refine lv_iadd hx hb dX7_readShape_101 ?_
            obtain ⟨μ41, e42, h⟩ := lt_out h
            refine gq_put hC hS hW hA fl_X7_34 k0.1 (k0.2.1 (gfm s0) T B) (Nat.le_of_ble_eq_true rfl) rfl rfl rfl e42 dX7_readShape_102 (fun H locs hW hS => ?_)
            exact J17 _ _ h _ _ _ hW hS (lv_sub hl [2, 3, 4, 5, 0] rfl)
      · replace h := ite_t c35 h
        exact J24 _ h _ _ _ hW hS (lv_sub hl [2, 3, 4, 5, 1, 0] rfl)

theorem dX7_readCommand_0 : decode cX7_readCommand 0 = .ok (.iload_n 1, 1) := by decide +kernel
theorem dX7_readCommand_1 : decode cX7_readCommand 1 = .ok (.istore_n 2, 1) := by decide +kernel
theorem dX7_readCommand_2 : decode cX7_readCommand 2 = .ok (.getstatic 40, 3) := by decide +kernel
theorem dX7_readCommand_5 : decode cX7_readCommand 5 = .ok (.astore_n 3, 1) := by decide +kernel
theorem dX7_readCommand_6 : decode cX7_readCommand 6 = .ok (.aload_n 3, 1) := by decide +kernel
theorem dX7_readCommand_7 : decode cX7_readCommand 7 = .ok (.arraylength, 1) := by decide +kernel
theorem dX7_readCommand_8 : decode cX7_readCommand 8 = .ok (.istore 4, 2) := by decide +kernel
theorem dX7_readCommand_10 : decode cX7_readCommand 10 = .ok (.iconst 0, 1) := by decide +kernel
theorem dX7_readCommand_11 : decode cX7_readCommand 11 = .ok (.istore 5, 2) := by decide +kernel
theorem dX7_readCommand_13 : decode cX7_readCommand 13 = .ok (.iload 5, 2) := by decide +kernel
theorem dX7_readCommand_15 : decode cX7_readCommand 15 = .ok (.iload 4, 2) := by decide +kernel
theorem dX7_readCommand_17 : decode cX7_readCommand 17 = .ok (.if_icmp .ge 50, 3) := by decide +kernel
theorem dX7_readCommand_20 : decode cX7_readCommand 20 = .ok (.aload_n 3, 1) := by decide +kernel
theorem dX7_readCommand_21 : decode cX7_readCommand 21 = .ok (.iload 5, 2) := by decide +kernel
theorem dX7_readCommand_23 : decode cX7_readCommand 23 = .ok (.aaload, 1) := by decide +kernel
theorem dX7_readCommand_24 : decode cX7_readCommand 24 = .ok (.astore 6, 2) := by decide +kernel
theorem dX7_readCommand_26 : decode cX7_readCommand 26 = .ok (.aload_n 0, 1) := by decide +kernel
theorem dX7_readCommand_27 : decode cX7_readCommand 27 = .ok (.aload 6, 2) := by decide +kernel
theorem dX7_readCommand_29 : decode cX7_readCommand 29 = .ok (.getfield 43, 3) := by decide +kernel
theorem dX7_readCommand_32 : decode cX7_readCommand 32 = .ok (.iload_n 1, 1) := by decide +kernel
theorem dX7_readCommand_33 : decode cX7_readCommand 33 = .ok (.invokevirtual 47, 3) := by decide +kernel
theorem dX7_readCommand_36 : decode cX7_readCommand 36 = .ok (.ifCond .eq 16, 3) := by decide +kernel
theorem dX7_readCommand_39 : decode cX7_readCommand 39 = .ok (.aload_n 0, 1) := by decide +kernel
theorem dX7_readCommand_40 : decode cX7_readCommand 40 = .ok (.getfield 17, 3) := by decide +kernel
theorem dX7_readCommand_43 : decode cX7_readCommand 43 = .ok (.aload_n 0, 1) := by decide +kernel
theorem dX7_readCommand_44 : decode cX7_readCommand 44 = .ok (.getfield 26, 3) := by decide +kernel
theorem dX7_readCommand_47 : decode cX7_readCommand 47 = .ok (.aload 6, 2) := by decide +kernel
theorem dX7_readCommand_49 : decode cX7_readCommand 49 = .ok (.aastore, 1) := by decide +kernel
theorem dX7_readCommand_50 : decode cX7_readCommand 50 = .ok (.iconst 1, 1) := by decide +kernel
theorem dX7_readCommand_51 : decode cX7_readCommand 51 = .ok (.ireturn, 1) := by decide +kernel
theorem dX7_readCommand_52 : decode cX7_readCommand 52 = .ok (.iload_n 2, 1) := by decide +kernel
theorem dX7_readCommand_53 : decode cX7_readCommand 53 = .ok (.aload_n 0, 1) := by decide +kernel
theorem dX7_readCommand_54 : decode cX7_readCommand 54 = .ok (.getfield 34, 3) := by decide +kernel
theorem dX7_readCommand_57 : decode cX7_readCommand 57 = .ok (.invokestatic 51, 3) := by decide +kernel
theorem dX7_readCommand_60 : decode cX7_readCommand 60 = .ok (.istore_n 2, 1) := by decide +kernel
theorem dX7_readCommand_61 : decode cX7_readCommand 61 = .ok (.iinc 5 1, 3) := by decide +kernel
theorem dX7_readCommand_64 : decode cX7_readCommand 64 = .ok (.goto (-51), 3) := by decide +kernel
theorem dX7_readCommand_67 : decode cX7_readCommand 67 = .ok (.aload_n 0, 1) := by decide +kernel
theorem dX7_readCommand_68 : decode cX7_readCommand 68 = .ok (.iload_n 2, 1) := by decide +kernel
theorem dX7_readCommand_69 : decode cX7_readCommand 69 = .ok (.putfield 34, 3) := by decide +kernel
theorem dX7_readCommand_72 : decode cX7_readCommand 72 = .ok (.iconst 0, 1) := by decide +kernel
theorem dX7_readCommand_73 : decode cX7_readCommand 73 = .ok (.ireturn, 1) := by decide +kernel
abbrev rmX7_readCommand : Room := { frames := 7, cells := 0, slots := 0, locals := 226 }
set_option maxHeartbeats 4000000 in
set_option maxRecDepth 100000 in
theorem metX7_readCommand {l : Launch} {s0 : State} {b B : Nat} {D : va_G} {T : Nat → ClassId} (F : FX l s0 b D T B) {X : Nat → Prop} (hX : ∀ o, o < 560 → ¬ X (B + o)) {N : Nat} {μ : Mem} {a0 : Nat} {a1 : Int32} {r : Mem × Bool} (k0 : IsSc a0) (h : fX7_readCommand N μ a0 a1 = some r) : gMet l yX7_readCommand cX7_readCommand 7 (some .boolean) rmX7_readCommand [.ref (B + a0), .int a1] (gWC s0 D T B μ) (KC s0 X) (some (.int (b2i r.2))) (gWC s0 D T B r.1) (gA B X) 0 0 := by
  refine gZ_of RX7 (by decide +kernel) rfl (Nat.le_of_ble_eq_true rfl) ?_
  intro p e s m args below meth c ls Q hx hb hlocks hml hown hts hW hk hl hS hend
  have hC := FX_C F hk hx hb hown hts
  have hA := gA_all hX
  have hl : lv_has ls 7 [(0, .ref (B + a0)), (1, .int a1)] := hl
  unfold fX7_readCommand at h
  refine lv_iload_n hx hb dX7_readCommand_0 rfl (lv_at hl 1 rfl) ?_
  refine lv_istore_n (lv' := [(2, .int a1), (0, .ref (B + a0)), (1, .int a1)]) hx hb dX7_readCommand_1 rfl hl (by decide) rfl (fun ls hl => ?_)
  obtain ⟨t1, hz2, ht3⟩ := zFo F hk
  refine va_getsN hx hb hz2 hS hown (zNF F hk) (fun _ h => h) dX7_readCommand_2 ?_
  refine lv_astore_n (lv' := [(3, .ref t1), (2, .int a1), (0, .ref (B + a0)), (1, .int a1)]) hx hb dX7_readCommand_5 rfl hl (by decide) rfl (fun ls hl => ?_)
  refine lv_aload_n hx hb dX7_readCommand_6 rfl (lv_at hl 0 rfl) ?_
  refine va_tlen hx hb ht3 hS (v := 8) rfl dX7_readCommand_7 ?_
  refine lv_istore (lv' := [(4, .int 8), (3, .ref t1), (2, .int a1), (0, .ref (B + a0)), (1, .int a1)]) hx hb dX7_readCommand_8 hl (by decide) rfl (fun ls hl => ?_)
  refine lv_iconst (v := 0) hx hb dX7_readCommand_10 (by decide) ?_
  refine lv_istore (lv' := [(5, .int 0), (4, .int 8), (3, .ref t1), (2, .int a1), (0, .ref (B + a0)), (1, .int a1)]) hx hb dX7_readCommand_11 hl (by decide) rfl (fun ls hl => ?_)
  refine fix3_ind (fun (x4 : Int32) (x5 : Int32) (μ6 : Mem) => ∀ (H : Heap) (locs : List Loc) (ls : Array Slot), gWC s0 D T B μ6 H → va_S (gA B X) s.heap H locs → lv_has ls 7 [(0, .ref (B + a0)), (1, .int a1), (2, .int x4), (3, .ref t1), (4, .int 8), (5, .int x5)] → W p l e rmX7_readCommand s m args below meth c H locs 0 0 Q (F0 m 13 ls [])) ?_ N _ _ _ h _ _ _ hW hS (lv_sub hl [4, 5, 3, 2, 1, 0] rfl)
  clear h hW hS hl
  intro self7 IH8 x4 x5 μ6 h H locs ls hW hS hl
  refine lv_iload hx hb dX7_readCommand_13 (lv_at hl 5 rfl) ?_
  refine lv_iload hx hb dX7_readCommand_15 (lv_at hl 4 rfl) ?_
  refine lv_icmp_ge (tgt := 67) hx hb dX7_readCommand_17 (by decide) (fun c9 => ?_) (fun c9 => ?_)
  · replace h := ite_t c9 h
    refine lv_aload_n hx hb dX7_readCommand_67 rfl (lv_at hl 0 rfl) ?_
    refine lv_iload_n hx hb dX7_readCommand_68 rfl (lv_at hl 2 rfl) ?_
    obtain ⟨μ10, e11, h⟩ := lt_out h
    refine gq_put hC hS hW hA fl_X7_34 k0.1 (k0.2.1 (gfm s0) T B) (Nat.le_of_ble_eq_true rfl) rfl rfl rfl e11 dX7_readCommand_69 (fun H locs hW hS => ?_)
    refine lv_iconst (v := 0) hx hb dX7_readCommand_72 (by decide) ?_
    cases h
    exact hend dX7_readCommand_73 hW hS (Nat.le_of_ble_eq_true rfl) (Nat.le_of_ble_eq_true rfl)
  · replace h := ite_f c9 h
    refine lv_aload_n hx hb dX7_readCommand_20 rfl (lv_at hl 3 rfl) ?_
    refine lv_iload hx hb dX7_readCommand_21 (lv_at hl 5 rfl) ?_
    obtain ⟨c12, e13, hi14, fo15, h⟩ := fo_o h
    refine gw_tobj hx hb ht3 hS hi14 (v := .ref (gfm s0 c12)) (by rw [e13]) dX7_readCommand_23 ?_
    refine lv_astore (lv' := [(6, .ref (gfm s0 c12)), (0, .ref (B + a0)), (1, .int a1), (2, .int x4), (3, .ref t1), (4, .int 8), (5, .int x5)]) hx hb dX7_readCommand_24 hl (by decide) rfl (fun ls hl => ?_)
    refine lv_aload_n hx hb dX7_readCommand_26 rfl (lv_at hl 1 rfl) ?_
    refine lv_aload hx hb dX7_readCommand_27 (lv_at hl 0 rfl) ?_
    refine vk_getf hx hb (kM F hk fo15).2.2 hS hown (hts _ fj_X7_43) (fun _ h => h) dX7_readCommand_29 ?_
    refine lv_iload_n hx hb dX7_readCommand_32 rfl (lv_at hl 2 rfl) ?_
    obtain ⟨r16, hcall, h⟩ := bd_out h
    refine g0_callV (As := [.ref (gsa s0 c12), .int a1]) hC hml hS hW (KC_at hk hS F.2.2.2.2) KC_blind (metX7_readShape F hX k0 (fOK_s fo15) hcall) ml_X7_47 (gw_recv hC hW k0.1 (k0.2.1 (gfm s0) T B (μ6 a0)) rfl) ⟨rfl, rfl, (Nat.le_of_ble_eq_true rfl), (Nat.le_of_ble_eq_true rfl)⟩ rfl hl.1 rfl (Nat.le_of_ble_eq_true rfl) dX7_readCommand_33 ⟨(Nat.le_of_ble_eq_true rfl), (Nat.le_of_ble_eq_true rfl)⟩ (fun H locs hW hS => ?_)
    refine gw_if_eqZ (tgt := 52) hx hb dX7_readCommand_36 (by decide) (fun c17 => ?_) (fun c17 => ?_)
    · replace h := cond_f c17 h
      refine lv_iload_n hx hb dX7_readCommand_52 rfl (lv_at hl 3 rfl) ?_
      refine lv_aload_n hx hb dX7_readCommand_53 rfl (lv_at hl 1 rfl) ?_
      refine gw_get (v := .int (r16.1 a0 5)) hC hW fl_X7_34.1 k0.1 (k0.2.1 (gfm s0) T B (r16.1 a0)) rfl dX7_readCommand_54 ?_
      refine gw_max hC (hml.trans hl.1.symm) lm_X7_51 lb_max.1 lb_max.2.1 lb_max.2.2 (Nat.le_of_ble_eq_true rfl) (Nat.le_of_ble_eq_true rfl) (Nat.le_of_ble_eq_true rfl) (Nat.le_of_ble_eq_true rfl) dX7_readCommand_57 ?_
      obtain ⟨v18, e19, h⟩ := lt_out h
      rw [← e19]
      refine lv_istore_n (lv' := [(2, .int v18), (6, .ref (gfm s0 c12)), (0, .ref (B + a0)), (1, .int a1), (3, .ref t1), (4, .int 8), (5, .int x5)]) hx hb dX7_readCommand_60 rfl hl (by decide) rfl (fun ls hl => ?_)
      obtain ⟨v20, e21, h⟩ := lt_out h
      refine lv_iinc (v := v20) (lv' := [(5, .int v20), (2, .int v18), (6, .ref (gfm s0 c12)), (0, .ref (B + a0)), (1, .int a1), (3, .ref t1), (4, .int 8)]) hx hb dX7_readCommand_61 hl (k := 6) rfl (by rw [e21]; rfl) (by decide) rfl (fun ls hl => ?_)
      refine lv_goto (tgt := 13) hx hb dX7_readCommand_64 (by decide) ?_
      exact IH8 _ _ _ h _ _ _ hW hS (lv_sub hl [3, 4, 1, 5, 6, 0] rfl)
    · replace h := cond_t c17 h
      refine lv_aload_n hx hb dX7_readCommand_39 rfl (lv_at hl 1 rfl) ?_
      refine gw_get (v := .ref (B + (a0 + 2))) hC hW fl_X7_17 k0.1 (k0.2.1 (gfm s0) T B (r16.1 a0)) rfl dX7_readCommand_40 ?_
      refine lv_aload_n hx hb dX7_readCommand_43 rfl (lv_at hl 1 rfl) ?_
      refine gw_get (v := .int (r16.1 a0 4)) hC hW fl_X7_26.1 k0.1 (k0.2.1 (gfm s0) T B (r16.1 a0)) rfl dX7_readCommand_44 ?_
      refine lv_aload hx hb dX7_readCommand_47 (lv_at hl 0 rfl) ?_
      obtain ⟨μ22, e23, hi24, h⟩ := aw_o h
      refine gw_fast hC hS hW hA k0.2.2.2.1.1 (k0.2.2.2.1.2 (gfm s0) T B) (t0 := 6) rfl (kAny F hk hS fo15) fo15 rfl e23 hi24 dX7_readCommand_49 (fun H locs hW hS => ?_)
      refine lv_iconst (v := 1) hx hb dX7_readCommand_50 (by decide) ?_
      cases h
      exact hend dX7_readCommand_51 hW hS (Nat.le_of_ble_eq_true rfl) (Nat.le_of_ble_eq_true rfl)

theorem dX7_readAll_0 : decode cX7_readAll 0 = .ok (.aload_n 0, 1) := by decide +kernel
theorem dX7_readAll_1 : decode cX7_readAll 1 = .ok (.iconst 0, 1) := by decide +kernel
theorem dX7_readAll_2 : decode cX7_readAll 2 = .ok (.putfield 26, 3) := by decide +kernel
theorem dX7_readAll_5 : decode cX7_readAll 5 = .ok (.iconst 0, 1) := by decide +kernel
theorem dX7_readAll_6 : decode cX7_readAll 6 = .ok (.istore_n 1, 1) := by decide +kernel
theorem dX7_readAll_7 : decode cX7_readAll 7 = .ok (.iconst 1, 1) := by decide +kernel
theorem dX7_readAll_8 : decode cX7_readAll 8 = .ok (.istore_n 2, 1) := by decide +kernel
theorem dX7_readAll_9 : decode cX7_readAll 9 = .ok (.iload_n 2, 1) := by decide +kernel
theorem dX7_readAll_10 : decode cX7_readAll 10 = .ok (.bipush 10, 2) := by decide +kernel
theorem dX7_readAll_12 : decode cX7_readAll 12 = .ok (.if_icmp .gt 66, 3) := by decide +kernel
theorem dX7_readAll_15 : decode cX7_readAll 15 = .ok (.aload_n 0, 1) := by decide +kernel
theorem dX7_readAll_16 : decode cX7_readAll 16 = .ok (.iload_n 1, 1) := by decide +kernel
theorem dX7_readAll_17 : decode cX7_readAll 17 = .ok (.invokevirtual 30, 3) := by decide +kernel
theorem dX7_readAll_20 : decode cX7_readAll 20 = .ok (.ifCond .ne 8, 3) := by decide +kernel
theorem dX7_readAll_23 : decode cX7_readAll 23 = .ok (.aload_n 0, 1) := by decide +kernel
theorem dX7_readAll_24 : decode cX7_readAll 24 = .ok (.getfield 34, 3) := by decide +kernel
theorem dX7_readAll_27 : decode cX7_readAll 27 = .ok (.ireturn, 1) := by decide +kernel
theorem dX7_readAll_28 : decode cX7_readAll 28 = .ok (.aload_n 0, 1) := by decide +kernel
theorem dX7_readAll_29 : decode cX7_readAll 29 = .ok (.iload_n 2, 1) := by decide +kernel
theorem dX7_readAll_30 : decode cX7_readAll 30 = .ok (.putfield 26, 3) := by decide +kernel
theorem dX7_readAll_33 : decode cX7_readAll 33 = .ok (.aload_n 0, 1) := by decide +kernel
theorem dX7_readAll_34 : decode cX7_readAll 34 = .ok (.getfield 34, 3) := by decide +kernel
theorem dX7_readAll_37 : decode cX7_readAll 37 = .ok (.aload_n 0, 1) := by decide +kernel
theorem dX7_readAll_38 : decode cX7_readAll 38 = .ok (.getfield 37, 3) := by decide +kernel
theorem dX7_readAll_41 : decode cX7_readAll 41 = .ok (.if_icmp .ne 5, 3) := by decide +kernel
theorem dX7_readAll_44 : decode cX7_readAll 44 = .ok (.iconst (-1), 1) := by decide +kernel
theorem dX7_readAll_45 : decode cX7_readAll 45 = .ok (.ireturn, 1) := by decide +kernel
theorem dX7_readAll_46 : decode cX7_readAll 46 = .ok (.aload_n 0, 1) := by decide +kernel
theorem dX7_readAll_47 : decode cX7_readAll 47 = .ok (.getfield 9, 3) := by decide +kernel
theorem dX7_readAll_50 : decode cX7_readAll 50 = .ok (.aload_n 0, 1) := by decide +kernel
theorem dX7_readAll_51 : decode cX7_readAll 51 = .ok (.getfield 34, 3) := by decide +kernel
theorem dX7_readAll_54 : decode cX7_readAll 54 = .ok (.caload, 1) := by decide +kernel
theorem dX7_readAll_55 : decode cX7_readAll 55 = .ok (.bipush 59, 2) := by decide +kernel
theorem dX7_readAll_57 : decode cX7_readAll 57 = .ok (.if_icmp .eq 8, 3) := by decide +kernel
theorem dX7_readAll_60 : decode cX7_readAll 60 = .ok (.aload_n 0, 1) := by decide +kernel
theorem dX7_readAll_61 : decode cX7_readAll 61 = .ok (.getfield 34, 3) := by decide +kernel
theorem dX7_readAll_64 : decode cX7_readAll 64 = .ok (.ireturn, 1) := by decide +kernel
theorem dX7_readAll_65 : decode cX7_readAll 65 = .ok (.aload_n 0, 1) := by decide +kernel
theorem dX7_readAll_66 : decode cX7_readAll 66 = .ok (.getfield 34, 3) := by decide +kernel
theorem dX7_readAll_69 : decode cX7_readAll 69 = .ok (.iconst 1, 1) := by decide +kernel
theorem dX7_readAll_70 : decode cX7_readAll 70 = .ok (.iadd, 1) := by decide +kernel
theorem dX7_readAll_71 : decode cX7_readAll 71 = .ok (.istore_n 1, 1) := by decide +kernel
theorem dX7_readAll_72 : decode cX7_readAll 72 = .ok (.iinc 2 1, 3) := by decide +kernel
theorem dX7_readAll_75 : decode cX7_readAll 75 = .ok (.goto (-66), 3) := by decide +kernel
theorem dX7_readAll_78 : decode cX7_readAll 78 = .ok (.iload_n 1, 1) := by decide +kernel
theorem dX7_readAll_79 : decode cX7_readAll 79 = .ok (.ireturn, 1) := by decide +kernel
abbrev rmX7_readAll : Room := { frames := 8, cells := 0, slots := 0, locals := 252 }
set_option maxHeartbeats 4000000 in
set_option maxRecDepth 100000 in
theorem metX7_readAll {l : Launch} {s0 : State} {b B : Nat} {D : va_G} {T : Nat → ClassId} (F : FX l s0 b D T B) {X : Nat → Prop} (hX : ∀ o, o < 560 → ¬ X (B + o)) {N : Nat} {μ : Mem} {a0 : Nat} {r : Mem × Int32} (k0 : IsSc a0) (h : fX7_readAll N μ a0 = some r) : gMet l yX7_readAll cX7_readAll 3 (some .int) rmX7_readAll [.ref (B + a0)] (gWC s0 D T B μ) (KC s0 X) (some (.int r.2)) (gWC s0 D T B r.1) (gA B X) 0 0 := by
  refine gI_of RX7 (by decide +kernel) rfl (Nat.le_of_ble_eq_true rfl) ?_
  intro p e s m args below meth c ls Q hx hb hlocks hml hown hts hW hk hl hS hend
  have hC := FX_C F hk hx hb hown hts
  have hA := gA_all hX
  have hl : lv_has ls 3 [(0, .ref (B + a0))] := hl
  unfold fX7_readAll at h
  refine lv_aload_n hx hb dX7_readAll_0 rfl (lv_at hl 0 rfl) ?_
  refine lv_iconst (v := 0) hx hb dX7_readAll_1 (by decide) ?_
  obtain ⟨μ1, e2, h⟩ := lt_out h
  refine gq_put hC hS hW hA fl_X7_26 k0.1 (k0.2.1 (gfm s0) T B) (Nat.le_of_ble_eq_true rfl) rfl rfl rfl e2 dX7_readAll_2 (fun H locs hW hS => ?_)
  refine lv_iconst (v := 0) hx hb dX7_readAll_5 (by decide) ?_
  refine lv_istore_n (lv' := [(1, .int 0), (0, .ref (B + a0))]) hx hb dX7_readAll_6 rfl hl (by decide) rfl (fun ls hl => ?_)
  refine lv_iconst (v := 1) hx hb dX7_readAll_7 (by decide) ?_
  refine lv_istore_n (lv' := [(2, .int 1), (1, .int 0), (0, .ref (B + a0))]) hx hb dX7_readAll_8 rfl hl (by decide) rfl (fun ls hl => ?_)
  refine fix3_ind (fun (x3 : Int32) (x4 : Int32) (μ5 : Mem) => ∀ (H : Heap) (locs : List Loc) (ls : Array Slot), gWC s0 D T B μ5 H → va_S (gA B X) s.heap H locs → lv_has ls 3 [(0, .ref (B + a0)), (1, .int x3), (2, .int x4)] → W p l e rmX7_readAll s m args below meth c H locs 0 0 Q (F0 m 9 ls [])) ?_ N _ _ _ h _ _ _ hW hS (lv_sub hl [2, 1, 0] rfl)
  clear h hW hS hl
  intro self6 IH7 x3 x4 μ5 h H locs ls hW hS hl
  refine lv_iload_n hx hb dX7_readAll_9 rfl (lv_at hl 2 rfl) ?_
  refine lv_bipush (v := 10) hx hb dX7_readAll_10 (by decide) ?_
  refine lv_icmp_gt (tgt := 78) hx hb dX7_readAll_12 (by decide) (fun c8 => ?_) (fun c8 => ?_)
  · replace h := ite_t c8 h
    refine lv_iload_n hx hb dX7_readAll_78 rfl (lv_at hl 1 rfl) ?_
    cases h
    exact hend dX7_readAll_79 hW hS (Nat.le_of_ble_eq_true rfl) (Nat.le_of_ble_eq_true rfl)
  · replace h := ite_f c8 h
    refine lv_aload_n hx hb dX7_readAll_15 rfl (lv_at hl 0 rfl) ?_
    refine lv_iload_n hx hb dX7_readAll_16 rfl (lv_at hl 1 rfl) ?_
    obtain ⟨r9, hcall, h⟩ := bd_out h
    refine g0_callV (As := [.int x3]) hC hml hS hW (KC_at hk hS F.2.2.2.2) KC_blind (metX7_readCommand F hX k0 hcall) ml_X7_30 (gw_recv hC hW k0.1 (k0.2.1 (gfm s0) T B (μ5 a0)) rfl) ⟨rfl, rfl, (Nat.le_of_ble_eq_true rfl), (Nat.le_of_ble_eq_true rfl)⟩ rfl hl.1 rfl (Nat.le_of_ble_eq_true rfl) dX7_readAll_17 ⟨(Nat.le_of_ble_eq_true rfl), (Nat.le_of_ble_eq_true rfl)⟩ (fun H locs hW hS => ?_)
    refine gw_if_neZ (tgt := 28) hx hb dX7_readAll_20 (by decide) (fun c10 => ?_) (fun c10 => ?_)
    · replace h := cond_t c10 h
      refine lv_aload_n hx hb dX7_readAll_28 rfl (lv_at hl 0 rfl) ?_
      refine lv_iload_n hx hb dX7_readAll_29 rfl (lv_at hl 2 rfl) ?_
      obtain ⟨μ11, e12, h⟩ := lt_out h
      refine gq_put hC hS hW hA fl_X7_26 k0.1 (k0.2.1 (gfm s0) T B) (Nat.le_of_ble_eq_true rfl) rfl rfl rfl e12 dX7_readAll_30 (fun H locs hW hS => ?_)
      refine lv_aload_n hx hb dX7_readAll_33 rfl (lv_at hl 0 rfl) ?_
      refine gw_get (v := .int (μ11 a0 5)) hC hW fl_X7_34.1 k0.1 (k0.2.1 (gfm s0) T B (μ11 a0)) rfl dX7_readAll_34 ?_
      refine lv_aload_n hx hb dX7_readAll_37 rfl (lv_at hl 0 rfl) ?_
      refine gw_get (v := .int (μ11 a0 1)) hC hW fl_X7_37.1 k0.1 (k0.2.1 (gfm s0) T B (μ11 a0)) rfl dX7_readAll_38 ?_
      refine lv_icmp_ne (tgt := 46) hx hb dX7_readAll_41 (by decide) (fun c13 => ?_) (fun c13 => ?_)
      · replace h := ite_f c13 h
        refine lv_aload_n hx hb dX7_readAll_46 rfl (lv_at hl 0 rfl) ?_
        refine gw_get (v := .ref (B + (a0 + 1))) hC hW fl_X7_9 k0.1 (k0.2.1 (gfm s0) T B (μ11 a0)) rfl dX7_readAll_47 ?_
        refine lv_aload_n hx hb dX7_readAll_50 rfl (lv_at hl 0 rfl) ?_
        refine gw_get (v := .int (μ11 a0 5)) hC hW fl_X7_34.1 k0.1 (k0.2.1 (gfm s0) T B (μ11 a0)) rfl dX7_readAll_51 ?_
        obtain ⟨v14, e15, hi16, h⟩ := ag_o h
        refine gq_cald hC hW k0.2.2.1.1 (k0.2.2.1.2 (gfm s0) T B (μ11 (a0 + 1))) (t0 := 2) rfl e15 hi16 dX7_readAll_54 ?_
        refine lv_bipush (v := 59) hx hb dX7_readAll_55 (by decide) ?_
        refine lv_icmp_eq (tgt := 65) hx hb dX7_readAll_57 (by decide) (fun c17 => ?_) (fun c17 => ?_)
        · replace h := ite_t c17 h
          refine lv_aload_n hx hb dX7_readAll_65 rfl (lv_at hl 0 rfl) ?_
          refine gw_get (v := .int (μ11 a0 5)) hC hW fl_X7_34.1 k0.1 (k0.2.1 (gfm s0) T B (μ11 a0)) rfl dX7_readAll_66 ?_
          refine lv_iconst (v := 1) hx hb dX7_readAll_69 (by decide) ?_
          refine lv_iadd hx hb dX7_readAll_70 ?_
          obtain ⟨v18, e19, h⟩ := lt_out h
          rw [← e19]
          refine lv_istore_n (lv' := [(1, .int v18), (0, .ref (B + a0)), (2, .int x4)]) hx hb dX7_readAll_71 rfl hl (by decide) rfl (fun ls hl => ?_)
          obtain ⟨v20, e21, h⟩ := lt_out h
          refine lv_iinc (v := v20) (lv' := [(2, .int v20), (1, .int v18), (0, .ref (B + a0))]) hx hb dX7_readAll_72 hl (k := 2) rfl (by rw [e21]; rfl) (by decide) rfl (fun ls hl => ?_)
          refine lv_goto (tgt := 9) hx hb dX7_readAll_75 (by decide) ?_
          exact IH7 _ _ _ h _ _ _ hW hS (lv_sub hl [2, 1, 0] rfl)
        · replace h := ite_f c17 h
          refine lv_aload_n hx hb dX7_readAll_60 rfl (lv_at hl 0 rfl) ?_
          refine gw_get (v := .int (μ11 a0 5)) hC hW fl_X7_34.1 k0.1 (k0.2.1 (gfm s0) T B (μ11 a0)) rfl dX7_readAll_61 ?_
          cases h
          exact hend dX7_readAll_64 hW hS (Nat.le_of_ble_eq_true rfl) (Nat.le_of_ble_eq_true rfl)
      · replace h := ite_t c13 h
        refine lv_iconst (v := (-1)) hx hb dX7_readAll_44 (by decide) ?_
        cases h
        exact hend dX7_readAll_45 hW hS (Nat.le_of_ble_eq_true rfl) (Nat.le_of_ble_eq_true rfl)
    · replace h := cond_f c10 h
      refine lv_aload_n hx hb dX7_readAll_23 rfl (lv_at hl 0 rfl) ?_
      refine gw_get (v := .int (r9.1 a0 5)) hC hW fl_X7_34.1 k0.1 (k0.2.1 (gfm s0) T B (r9.1 a0)) rfl dX7_readAll_24 ?_
      cases h
      exact hend dX7_readAll_27 hW hS (Nat.le_of_ble_eq_true rfl) (Nat.le_of_ble_eq_true rfl)

theorem dX10_commandFault_0 : decode cX10_commandFault 0 = .ok (.getstatic 486, 3) := by decide +kernel
theorem dX10_commandFault_3 : decode cX10_commandFault 3 = .ok (.aload_n 1, 1) := by decide +kernel
theorem dX10_commandFault_4 : decode cX10_commandFault 4 = .ok (.invokevirtual 491, 3) := by decide +kernel
theorem dX10_commandFault_7 : decode cX10_commandFault 7 = .ok (.iaload, 1) := by decide +kernel
theorem dX10_commandFault_8 : decode cX10_commandFault 8 = .ok (.tableswitch 133 1 7 #[44, 52, 69, 80, 97, 108, 125], 44) := by decide +kernel
theorem dX10_commandFault_52 : decode cX10_commandFault 52 = .ok (.aload_n 0, 1) := by decide +kernel
theorem dX10_commandFault_53 : decode cX10_commandFault 53 = .ok (.aload_n 2, 1) := by decide +kernel
theorem dX10_commandFault_54 : decode cX10_commandFault 54 = .ok (.iconst 0, 1) := by decide +kernel
theorem dX10_commandFault_55 : decode cX10_commandFault 55 = .ok (.iaload, 1) := by decide +kernel
theorem dX10_commandFault_56 : decode cX10_commandFault 56 = .ok (.invokevirtual 68, 3) := by decide +kernel
theorem dX10_commandFault_59 : decode cX10_commandFault 59 = .ok (.areturn, 1) := by decide +kernel
theorem dX10_commandFault_60 : decode cX10_commandFault 60 = .ok (.aload_n 0, 1) := by decide +kernel
theorem dX10_commandFault_61 : decode cX10_commandFault 61 = .ok (.aload_n 2, 1) := by decide +kernel
theorem dX10_commandFault_62 : decode cX10_commandFault 62 = .ok (.iconst 0, 1) := by decide +kernel
theorem dX10_commandFault_63 : decode cX10_commandFault 63 = .ok (.iaload, 1) := by decide +kernel
theorem dX10_commandFault_64 : decode cX10_commandFault 64 = .ok (.aload_n 2, 1) := by decide +kernel
theorem dX10_commandFault_65 : decode cX10_commandFault 65 = .ok (.iconst 1, 1) := by decide +kernel
theorem dX10_commandFault_66 : decode cX10_commandFault 66 = .ok (.iaload, 1) := by decide +kernel
theorem dX10_commandFault_67 : decode cX10_commandFault 67 = .ok (.aload_n 2, 1) := by decide +kernel
theorem dX10_commandFault_68 : decode cX10_commandFault 68 = .ok (.iconst 2, 1) := by decide +kernel
theorem dX10_commandFault_69 : decode cX10_commandFault 69 = .ok (.iaload, 1) := by decide +kernel
theorem dX10_commandFault_70 : decode cX10_commandFault 70 = .ok (.aload_n 2, 1) := by decide +kernel
theorem dX10_commandFault_71 : decode cX10_commandFault 71 = .ok (.iconst 3, 1) := by decide +kernel
theorem dX10_commandFault_72 : decode cX10_commandFault 72 = .ok (.iaload, 1) := by decide +kernel
theorem dX10_commandFault_73 : decode cX10_commandFault 73 = .ok (.invokevirtual 93, 3) := by decide +kernel
theorem dX10_commandFault_76 : decode cX10_commandFault 76 = .ok (.areturn, 1) := by decide +kernel
theorem dX10_commandFault_77 : decode cX10_commandFault 77 = .ok (.aload_n 0, 1) := by decide +kernel
theorem dX10_commandFault_78 : decode cX10_commandFault 78 = .ok (.aload_n 2, 1) := by decide +kernel
theorem dX10_commandFault_79 : decode cX10_commandFault 79 = .ok (.iconst 0, 1) := by decide +kernel
theorem dX10_commandFault_80 : decode cX10_commandFault 80 = .ok (.iaload, 1) := by decide +kernel
theorem dX10_commandFault_81 : decode cX10_commandFault 81 = .ok (.aload_n 2, 1) := by decide +kernel
theorem dX10_commandFault_82 : decode cX10_commandFault 82 = .ok (.iconst 1, 1) := by decide +kernel
theorem dX10_commandFault_83 : decode cX10_commandFault 83 = .ok (.iaload, 1) := by decide +kernel
theorem dX10_commandFault_84 : decode cX10_commandFault 84 = .ok (.invokevirtual 149, 3) := by decide +kernel
theorem dX10_commandFault_87 : decode cX10_commandFault 87 = .ok (.areturn, 1) := by decide +kernel
theorem dX10_commandFault_88 : decode cX10_commandFault 88 = .ok (.aload_n 0, 1) := by decide +kernel
theorem dX10_commandFault_89 : decode cX10_commandFault 89 = .ok (.aload_n 2, 1) := by decide +kernel
theorem dX10_commandFault_90 : decode cX10_commandFault 90 = .ok (.iconst 0, 1) := by decide +kernel
theorem dX10_commandFault_91 : decode cX10_commandFault 91 = .ok (.iaload, 1) := by decide +kernel
theorem dX10_commandFault_92 : decode cX10_commandFault 92 = .ok (.aload_n 2, 1) := by decide +kernel
theorem dX10_commandFault_93 : decode cX10_commandFault 93 = .ok (.iconst 1, 1) := by decide +kernel
theorem dX10_commandFault_94 : decode cX10_commandFault 94 = .ok (.iaload, 1) := by decide +kernel
theorem dX10_commandFault_95 : decode cX10_commandFault 95 = .ok (.aload_n 2, 1) := by decide +kernel
theorem dX10_commandFault_96 : decode cX10_commandFault 96 = .ok (.iconst 2, 1) := by decide +kernel
theorem dX10_commandFault_97 : decode cX10_commandFault 97 = .ok (.iaload, 1) := by decide +kernel
theorem dX10_commandFault_98 : decode cX10_commandFault 98 = .ok (.aload_n 2, 1) := by decide +kernel
theorem dX10_commandFault_99 : decode cX10_commandFault 99 = .ok (.iconst 3, 1) := by decide +kernel
theorem dX10_commandFault_100 : decode cX10_commandFault 100 = .ok (.iaload, 1) := by decide +kernel
theorem dX10_commandFault_101 : decode cX10_commandFault 101 = .ok (.invokevirtual 164, 3) := by decide +kernel
theorem dX10_commandFault_104 : decode cX10_commandFault 104 = .ok (.areturn, 1) := by decide +kernel
theorem dX10_commandFault_105 : decode cX10_commandFault 105 = .ok (.aload_n 0, 1) := by decide +kernel
theorem dX10_commandFault_106 : decode cX10_commandFault 106 = .ok (.aload_n 2, 1) := by decide +kernel
theorem dX10_commandFault_107 : decode cX10_commandFault 107 = .ok (.iconst 0, 1) := by decide +kernel
theorem dX10_commandFault_108 : decode cX10_commandFault 108 = .ok (.iaload, 1) := by decide +kernel
theorem dX10_commandFault_109 : decode cX10_commandFault 109 = .ok (.aload_n 2, 1) := by decide +kernel
theorem dX10_commandFault_110 : decode cX10_commandFault 110 = .ok (.iconst 1, 1) := by decide +kernel
theorem dX10_commandFault_111 : decode cX10_commandFault 111 = .ok (.iaload, 1) := by decide +kernel
theorem dX10_commandFault_112 : decode cX10_commandFault 112 = .ok (.invokevirtual 229, 3) := by decide +kernel
theorem dX10_commandFault_115 : decode cX10_commandFault 115 = .ok (.areturn, 1) := by decide +kernel
theorem dX10_commandFault_116 : decode cX10_commandFault 116 = .ok (.aload_n 0, 1) := by decide +kernel
theorem dX10_commandFault_117 : decode cX10_commandFault 117 = .ok (.aload_n 2, 1) := by decide +kernel
theorem dX10_commandFault_118 : decode cX10_commandFault 118 = .ok (.iconst 0, 1) := by decide +kernel
theorem dX10_commandFault_119 : decode cX10_commandFault 119 = .ok (.iaload, 1) := by decide +kernel
theorem dX10_commandFault_120 : decode cX10_commandFault 120 = .ok (.aload_n 2, 1) := by decide +kernel
theorem dX10_commandFault_121 : decode cX10_commandFault 121 = .ok (.iconst 1, 1) := by decide +kernel
theorem dX10_commandFault_122 : decode cX10_commandFault 122 = .ok (.iaload, 1) := by decide +kernel
theorem dX10_commandFault_123 : decode cX10_commandFault 123 = .ok (.aload_n 2, 1) := by decide +kernel
theorem dX10_commandFault_124 : decode cX10_commandFault 124 = .ok (.iconst 2, 1) := by decide +kernel
theorem dX10_commandFault_125 : decode cX10_commandFault 125 = .ok (.iaload, 1) := by decide +kernel
theorem dX10_commandFault_126 : decode cX10_commandFault 126 = .ok (.aload_n 2, 1) := by decide +kernel
theorem dX10_commandFault_127 : decode cX10_commandFault 127 = .ok (.iconst 3, 1) := by decide +kernel
theorem dX10_commandFault_128 : decode cX10_commandFault 128 = .ok (.iaload, 1) := by decide +kernel
theorem dX10_commandFault_129 : decode cX10_commandFault 129 = .ok (.invokevirtual 263, 3) := by decide +kernel
theorem dX10_commandFault_132 : decode cX10_commandFault 132 = .ok (.areturn, 1) := by decide +kernel
theorem dX10_commandFault_133 : decode cX10_commandFault 133 = .ok (.aload_n 0, 1) := by decide +kernel
theorem dX10_commandFault_134 : decode cX10_commandFault 134 = .ok (.aload_n 2, 1) := by decide +kernel
theorem dX10_commandFault_135 : decode cX10_commandFault 135 = .ok (.iconst 0, 1) := by decide +kernel
theorem dX10_commandFault_136 : decode cX10_commandFault 136 = .ok (.iaload, 1) := by decide +kernel
theorem dX10_commandFault_137 : decode cX10_commandFault 137 = .ok (.invokevirtual 270, 3) := by decide +kernel
theorem dX10_commandFault_140 : decode cX10_commandFault 140 = .ok (.areturn, 1) := by decide +kernel
theorem dX10_commandFault_141 : decode cX10_commandFault 141 = .ok (.aload_n 2, 1) := by decide +kernel
theorem dX10_commandFault_142 : decode cX10_commandFault 142 = .ok (.iconst 0, 1) := by decide +kernel
theorem dX10_commandFault_143 : decode cX10_commandFault 143 = .ok (.iaload, 1) := by decide +kernel
theorem dX10_commandFault_144 : decode cX10_commandFault 144 = .ok (.invokestatic 254, 3) := by decide +kernel
theorem dX10_commandFault_147 : decode cX10_commandFault 147 = .ok (.areturn, 1) := by decide +kernel
abbrev rmX10_commandFault : Room := { frames := 6, cells := 0, slots := 0, locals := 158 }
set_option maxHeartbeats 4000000 in
set_option maxRecDepth 100000 in
theorem metX10_commandFault {l : Launch} {s0 : State} {b B : Nat} {D : va_G} {T : Nat → ClassId} (F : FX l s0 b D T B) {X : Nat → Prop} (hX : ∀ o, o < 560 → ¬ X (B + o)) {N : Nat} {μ : Mem} {a0 : Nat} {a1 : Nat} {a2 : Nat} {r : Mem × Nat} (k0 : IsGa a0) (k1 : fOK a1) (k2 : (IA 4) a2) (h : fX10_commandFault N μ a0 a1 a2 = some r) : gMet l yX10_commandFault cX10_commandFault 3 (some (.object "AvalancheGallery$Fault")) rmX10_commandFault [.ref (B + a0), .ref (gfm s0 a1), .ref (B + a2)] (gWC s0 D T B μ) (KC s0 X) (some (.ref (gfa s0 r.2))) (gWC s0 D T B r.1) (gA B X) 0 0 := by
  refine gR_of RX10 (by decide +kernel) rfl (Nat.le_of_ble_eq_true rfl) ?_
  intro p e s m args below meth c ls Q hx hb hlocks hml hown hts hW hk hl hS hend
  have hC := FX_C F hk hx hb hown hts
  have hA := gA_all hX
  have hl : lv_has ls 3 [(0, .ref (B + a0)), (1, .ref (gfm s0 a1)), (2, .ref (B + a2))] := hl
  unfold fX10_commandFault at h
  obtain ⟨t1, hz2, ht3⟩ := zSw F hk
  refine gw_gets hC hz2 hS fj_X10_486 dX10_commandFault_0 ?_
  refine lv_aload_n hx hb dX10_commandFault_3 rfl (lv_at hl 1 rfl) ?_
  refine gw_ord F hk hC hml hS k1 ⟨rfl, rfl, (Nat.le_of_ble_eq_true rfl), (Nat.le_of_ble_eq_true rfl)⟩ hl.1 (Nat.le_of_ble_eq_true rfl) dX10_commandFault_4 ⟨(Nat.le_of_ble_eq_true rfl), (Nat.le_of_ble_eq_true rfl)⟩ (fun locs hS => ?_)
  obtain ⟨v4, e5, hi6, h⟩ := swm_o h
  refine va_ti hx hb ht3 hS hi6 (v := .int v4) (by rw [e5]) dX10_commandFault_7 ?_
  by_cases c7 : v4 = 1
  · replace h := ite_t c7 h
    refine lv_tableIn (tgt := 52) (off := 44) hx hb dX10_commandFault_8 (by rw [c7]; decide) (by rw [c7]; decide) (by rw [c7]; rfl) (by decide) ?_
    refine lv_aload_n hx hb dX10_commandFault_52 rfl (lv_at hl 0 rfl) ?_
    refine lv_aload_n hx hb dX10_commandFault_53 rfl (lv_at hl 2 rfl) ?_
    refine lv_iconst (v := 0) hx hb dX10_commandFault_54 (by decide) ?_
    obtain ⟨v8, e9, hi10, h⟩ := ag_o h
    refine gq_iald hC hW k2.1 (k2.2 (gfm s0) T B (μ a2)) (t0 := 0) rfl e9 hi10 dX10_commandFault_55 ?_
    obtain ⟨r11, hcall, h⟩ := bd_out h
    refine g0_callV (As := [.int v8]) hC hml hS hW (KC_at hk hS F.2.2.2.2) KC_blind (metX10_roomFault F hX k0 hcall) ml_X10_68 (gw_recv hC hW k0.1 (k0.2.2.1 (gfm s0) T B (μ a0)) rfl) ⟨rfl, rfl, (Nat.le_of_ble_eq_true rfl), (Nat.le_of_ble_eq_true rfl)⟩ rfl hl.1 rfl (Nat.le_of_ble_eq_true rfl) dX10_commandFault_56 ⟨(Nat.le_of_ble_eq_true rfl), (Nat.le_of_ble_eq_true rfl)⟩ (fun H locs hW hS => ?_)
    cases h
    exact hend dX10_commandFault_59 hW hS (Nat.le_of_ble_eq_true rfl) (Nat.le_of_ble_eq_true rfl)
  replace h := ite_f c7 h
  by_cases c12 : v4 = 2
  · replace h := ite_t c12 h
    refine lv_tableIn (tgt := 60) (off := 52) hx hb dX10_commandFault_8 (by rw [c12]; decide) (by rw [c12]; decide) (by rw [c12]; rfl) (by decide) ?_
    refine lv_aload_n hx hb dX10_commandFault_60 rfl (lv_at hl 0 rfl) ?_
    refine lv_aload_n hx hb dX10_commandFault_61 rfl (lv_at hl 2 rfl) ?_
    refine lv_iconst (v := 0) hx hb dX10_commandFault_62 (by decide) ?_
    obtain ⟨v13, e14, hi15, h⟩ := ag_o h
    refine gq_iald hC hW k2.1 (k2.2 (gfm s0) T B (μ a2)) (t0 := 0) rfl e14 hi15 dX10_commandFault_63 ?_
    refine lv_aload_n hx hb dX10_commandFault_64 rfl (lv_at hl 2 rfl) ?_
    refine lv_iconst (v := 1) hx hb dX10_commandFault_65 (by decide) ?_
    obtain ⟨v16, e17, hi18, h⟩ := ag_o h
    refine gq_iald hC hW k2.1 (k2.2 (gfm s0) T B (μ a2)) (t0 := 0) rfl e17 hi18 dX10_commandFault_66 ?_
    refine lv_aload_n hx hb dX10_commandFault_67 rfl (lv_at hl 2 rfl) ?_
    refine lv_iconst (v := 2) hx hb dX10_commandFault_68 (by decide) ?_
    obtain ⟨v19, e20, hi21, h⟩ := ag_o h
    refine gq_iald hC hW k2.1 (k2.2 (gfm s0) T B (μ a2)) (t0 := 0) rfl e20 hi21 dX10_commandFault_69 ?_
    refine lv_aload_n hx hb dX10_commandFault_70 rfl (lv_at hl 2 rfl) ?_
    refine lv_iconst (v := 3) hx hb dX10_commandFault_71 (by decide) ?_
    obtain ⟨v22, e23, hi24, h⟩ := ag_o h
    refine gq_iald hC hW k2.1 (k2.2 (gfm s0) T B (μ a2)) (t0 := 0) rfl e23 hi24 dX10_commandFault_72 ?_
    obtain ⟨r25, hcall, h⟩ := bd_out h
    refine g0_callV (As := [.int v13, .int v16, .int v19, .int v22]) hC hml hS hW (KC_at hk hS F.2.2.2.2) KC_blind (metX10_legFault F hX k0 hcall) ml_X10_93 (gw_recv hC hW k0.1 (k0.2.2.1 (gfm s0) T B (μ a0)) rfl) ⟨rfl, rfl, (Nat.le_of_ble_eq_true rfl), (Nat.le_of_ble_eq_true rfl)⟩ rfl hl.1 rfl (Nat.le_of_ble_eq_true rfl) dX10_commandFault_73 ⟨(Nat.le_of_ble_eq_true rfl), (Nat.le_of_ble_eq_true rfl)⟩ (fun H locs hW hS => ?_)
    cases h
    exact hend dX10_commandFault_76 hW hS (Nat.le_of_ble_eq_true rfl) (Nat.le_of_ble_eq_true rfl)
  replace h := ite_f c12 h
  by_cases c26 : v4 = 3
  · replace h := ite_t c26 h
    refine lv_tableIn (tgt := 77) (off := 69) hx hb dX10_commandFault_8 (by rw [c26]; decide) (by rw [c26]; decide) (by rw [c26]; rfl) (by decide) ?_
    refine lv_aload_n hx hb dX10_commandFault_77 rfl (lv_at hl 0 rfl) ?_
    refine lv_aload_n hx hb dX10_commandFault_78 rfl (lv_at hl 2 rfl) ?_
    refine lv_iconst (v := 0) hx hb dX10_commandFault_79 (by decide) ?_
    obtain ⟨v27, e28, hi29, h⟩ := ag_o h
    refine gq_iald hC hW k2.1 (k2.2 (gfm s0) T B (μ a2)) (t0 := 0) rfl e28 hi29 dX10_commandFault_80 ?_
    refine lv_aload_n hx hb dX10_commandFault_81 rfl (lv_at hl 2 rfl) ?_
    refine lv_iconst (v := 1) hx hb dX10_commandFault_82 (by decide) ?_
    obtain ⟨v30, e31, hi32, h⟩ := ag_o h
    refine gq_iald hC hW k2.1 (k2.2 (gfm s0) T B (μ a2)) (t0 := 0) rfl e31 hi32 dX10_commandFault_83 ?_
    obtain ⟨r33, hcall, h⟩ := bd_out h
    refine g0_callV (As := [.int v27, .int v30]) hC hml hS hW (KC_at hk hS F.2.2.2.2) KC_blind (metX10_pileFault F hX k0 hcall) ml_X10_149 (gw_recv hC hW k0.1 (k0.2.2.1 (gfm s0) T B (μ a0)) rfl) ⟨rfl, rfl, (Nat.le_of_ble_eq_true rfl), (Nat.le_of_ble_eq_true rfl)⟩ rfl hl.1 rfl (Nat.le_of_ble_eq_true rfl) dX10_commandFault_84 ⟨(Nat.le_of_ble_eq_true rfl), (Nat.le_of_ble_eq_true rfl)⟩ (fun H locs hW hS => ?_)
    cases h
    exact hend dX10_commandFault_87 hW hS (Nat.le_of_ble_eq_true rfl) (Nat.le_of_ble_eq_true rfl)
  replace h := ite_f c26 h
  by_cases c34 : v4 = 4
  · replace h := ite_t c34 h
    refine lv_tableIn (tgt := 88) (off := 80) hx hb dX10_commandFault_8 (by rw [c34]; decide) (by rw [c34]; decide) (by rw [c34]; rfl) (by decide) ?_
    refine lv_aload_n hx hb dX10_commandFault_88 rfl (lv_at hl 0 rfl) ?_
    refine lv_aload_n hx hb dX10_commandFault_89 rfl (lv_at hl 2 rfl) ?_
    refine lv_iconst (v := 0) hx hb dX10_commandFault_90 (by decide) ?_
    obtain ⟨v35, e36, hi37, h⟩ := ag_o h
    refine gq_iald hC hW k2.1 (k2.2 (gfm s0) T B (μ a2)) (t0 := 0) rfl e36 hi37 dX10_commandFault_91 ?_
    refine lv_aload_n hx hb dX10_commandFault_92 rfl (lv_at hl 2 rfl) ?_
    refine lv_iconst (v := 1) hx hb dX10_commandFault_93 (by decide) ?_
    obtain ⟨v38, e39, hi40, h⟩ := ag_o h
    refine gq_iald hC hW k2.1 (k2.2 (gfm s0) T B (μ a2)) (t0 := 0) rfl e39 hi40 dX10_commandFault_94 ?_
    refine lv_aload_n hx hb dX10_commandFault_95 rfl (lv_at hl 2 rfl) ?_
    refine lv_iconst (v := 2) hx hb dX10_commandFault_96 (by decide) ?_
    obtain ⟨v41, e42, hi43, h⟩ := ag_o h
    refine gq_iald hC hW k2.1 (k2.2 (gfm s0) T B (μ a2)) (t0 := 0) rfl e42 hi43 dX10_commandFault_97 ?_
    refine lv_aload_n hx hb dX10_commandFault_98 rfl (lv_at hl 2 rfl) ?_
    refine lv_iconst (v := 3) hx hb dX10_commandFault_99 (by decide) ?_
    obtain ⟨v44, e45, hi46, h⟩ := ag_o h
    refine gq_iald hC hW k2.1 (k2.2 (gfm s0) T B (μ a2)) (t0 := 0) rfl e45 hi46 dX10_commandFault_100 ?_
    obtain ⟨r47, hcall, h⟩ := bd_out h
    refine g0_callV (As := [.int v35, .int v38, .int v41, .int v44]) hC hml hS hW (KC_at hk hS F.2.2.2.2) KC_blind (metX10_dropFault F hX k0 hcall) ml_X10_164 (gw_recv hC hW k0.1 (k0.2.2.1 (gfm s0) T B (μ a0)) rfl) ⟨rfl, rfl, (Nat.le_of_ble_eq_true rfl), (Nat.le_of_ble_eq_true rfl)⟩ rfl hl.1 rfl (Nat.le_of_ble_eq_true rfl) dX10_commandFault_101 ⟨(Nat.le_of_ble_eq_true rfl), (Nat.le_of_ble_eq_true rfl)⟩ (fun H locs hW hS => ?_)
    cases h
    exact hend dX10_commandFault_104 hW hS (Nat.le_of_ble_eq_true rfl) (Nat.le_of_ble_eq_true rfl)
  replace h := ite_f c34 h
  by_cases c48 : v4 = 5
  · replace h := ite_t c48 h
    refine lv_tableIn (tgt := 105) (off := 97) hx hb dX10_commandFault_8 (by rw [c48]; decide) (by rw [c48]; decide) (by rw [c48]; rfl) (by decide) ?_
    refine lv_aload_n hx hb dX10_commandFault_105 rfl (lv_at hl 0 rfl) ?_
    refine lv_aload_n hx hb dX10_commandFault_106 rfl (lv_at hl 2 rfl) ?_
    refine lv_iconst (v := 0) hx hb dX10_commandFault_107 (by decide) ?_
    obtain ⟨v49, e50, hi51, h⟩ := ag_o h
    refine gq_iald hC hW k2.1 (k2.2 (gfm s0) T B (μ a2)) (t0 := 0) rfl e50 hi51 dX10_commandFault_108 ?_
    refine lv_aload_n hx hb dX10_commandFault_109 rfl (lv_at hl 2 rfl) ?_
    refine lv_iconst (v := 1) hx hb dX10_commandFault_110 (by decide) ?_
    obtain ⟨v52, e53, hi54, h⟩ := ag_o h
    refine gq_iald hC hW k2.1 (k2.2 (gfm s0) T B (μ a2)) (t0 := 0) rfl e53 hi54 dX10_commandFault_111 ?_
    obtain ⟨r55, hcall, h⟩ := bd_out h
    refine g0_callV (As := [.int v49, .int v52]) hC hml hS hW (KC_at hk hS F.2.2.2.2) KC_blind (metX10_sendFault F hX k0 hcall) ml_X10_229 (gw_recv hC hW k0.1 (k0.2.2.1 (gfm s0) T B (μ a0)) rfl) ⟨rfl, rfl, (Nat.le_of_ble_eq_true rfl), (Nat.le_of_ble_eq_true rfl)⟩ rfl hl.1 rfl (Nat.le_of_ble_eq_true rfl) dX10_commandFault_112 ⟨(Nat.le_of_ble_eq_true rfl), (Nat.le_of_ble_eq_true rfl)⟩ (fun H locs hW hS => ?_)
    cases h
    exact hend dX10_commandFault_115 hW hS (Nat.le_of_ble_eq_true rfl) (Nat.le_of_ble_eq_true rfl)
  replace h := ite_f c48 h
  by_cases c56 : v4 = 6
  · replace h := ite_t c56 h
    refine lv_tableIn (tgt := 116) (off := 108) hx hb dX10_commandFault_8 (by rw [c56]; decide) (by rw [c56]; decide) (by rw [c56]; rfl) (by decide) ?_
    refine lv_aload_n hx hb dX10_commandFault_116 rfl (lv_at hl 0 rfl) ?_
    refine lv_aload_n hx hb dX10_commandFault_117 rfl (lv_at hl 2 rfl) ?_
    refine lv_iconst (v := 0) hx hb dX10_commandFault_118 (by decide) ?_
    obtain ⟨v57, e58, hi59, h⟩ := ag_o h
    refine gq_iald hC hW k2.1 (k2.2 (gfm s0) T B (μ a2)) (t0 := 0) rfl e58 hi59 dX10_commandFault_119 ?_
    refine lv_aload_n hx hb dX10_commandFault_120 rfl (lv_at hl 2 rfl) ?_
    refine lv_iconst (v := 1) hx hb dX10_commandFault_121 (by decide) ?_
    obtain ⟨v60, e61, hi62, h⟩ := ag_o h
    refine gq_iald hC hW k2.1 (k2.2 (gfm s0) T B (μ a2)) (t0 := 0) rfl e61 hi62 dX10_commandFault_122 ?_
    refine lv_aload_n hx hb dX10_commandFault_123 rfl (lv_at hl 2 rfl) ?_
    refine lv_iconst (v := 2) hx hb dX10_commandFault_124 (by decide) ?_
    obtain ⟨v63, e64, hi65, h⟩ := ag_o h
    refine gq_iald hC hW k2.1 (k2.2 (gfm s0) T B (μ a2)) (t0 := 0) rfl e64 hi65 dX10_commandFault_125 ?_
    refine lv_aload_n hx hb dX10_commandFault_126 rfl (lv_at hl 2 rfl) ?_
    refine lv_iconst (v := 3) hx hb dX10_commandFault_127 (by decide) ?_
    obtain ⟨v66, e67, hi68, h⟩ := ag_o h
    refine gq_iald hC hW k2.1 (k2.2 (gfm s0) T B (μ a2)) (t0 := 0) rfl e67 hi68 dX10_commandFault_128 ?_
    obtain ⟨r69, hcall, h⟩ := bd_out h
    refine g0_callV (As := [.int v57, .int v60, .int v63, .int v66]) hC hml hS hW (KC_at hk hS F.2.2.2.2) KC_blind (metX10_askFault F hX k0 hcall) ml_X10_263 (gw_recv hC hW k0.1 (k0.2.2.1 (gfm s0) T B (μ a0)) rfl) ⟨rfl, rfl, (Nat.le_of_ble_eq_true rfl), (Nat.le_of_ble_eq_true rfl)⟩ rfl hl.1 rfl (Nat.le_of_ble_eq_true rfl) dX10_commandFault_129 ⟨(Nat.le_of_ble_eq_true rfl), (Nat.le_of_ble_eq_true rfl)⟩ (fun H locs hW hS => ?_)
    cases h
    exact hend dX10_commandFault_132 hW hS (Nat.le_of_ble_eq_true rfl) (Nat.le_of_ble_eq_true rfl)
  replace h := ite_f c56 h
  by_cases c70 : v4 = 7
  · replace h := ite_t c70 h
    refine lv_tableIn (tgt := 133) (off := 125) hx hb dX10_commandFault_8 (by rw [c70]; decide) (by rw [c70]; decide) (by rw [c70]; rfl) (by decide) ?_
    refine lv_aload_n hx hb dX10_commandFault_133 rfl (lv_at hl 0 rfl) ?_
    refine lv_aload_n hx hb dX10_commandFault_134 rfl (lv_at hl 2 rfl) ?_
    refine lv_iconst (v := 0) hx hb dX10_commandFault_135 (by decide) ?_
    obtain ⟨v71, e72, hi73, h⟩ := ag_o h
    refine gq_iald hC hW k2.1 (k2.2 (gfm s0) T B (μ a2)) (t0 := 0) rfl e72 hi73 dX10_commandFault_136 ?_
    obtain ⟨r74, hcall, h⟩ := bd_out h
    refine g0_callV (As := [.int v71]) hC hml hS hW (KC_at hk hS F.2.2.2.2) KC_blind (metX10_takeFault F hX k0 hcall) ml_X10_270 (gw_recv hC hW k0.1 (k0.2.2.1 (gfm s0) T B (μ a0)) rfl) ⟨rfl, rfl, (Nat.le_of_ble_eq_true rfl), (Nat.le_of_ble_eq_true rfl)⟩ rfl hl.1 rfl (Nat.le_of_ble_eq_true rfl) dX10_commandFault_137 ⟨(Nat.le_of_ble_eq_true rfl), (Nat.le_of_ble_eq_true rfl)⟩ (fun H locs hW hS => ?_)
    cases h
    exact hend dX10_commandFault_140 hW hS (Nat.le_of_ble_eq_true rfl) (Nat.le_of_ble_eq_true rfl)
  replace h := ite_f c70 h
  refine lv_tableOut (tgt := 141) hx hb dX10_commandFault_8 (sw_out (lo := 1) (hi := 7) (fun k h1 h2 => by rcases (show k = 1 ∨ k = 2 ∨ k = 3 ∨ k = 4 ∨ k = 5 ∨ k = 6 ∨ k = 7 by omega) with rfl | rfl | rfl | rfl | rfl | rfl | rfl <;> assumption)) (by decide) ?_
  refine lv_aload_n hx hb dX10_commandFault_141 rfl (lv_at hl 2 rfl) ?_
  refine lv_iconst (v := 0) hx hb dX10_commandFault_142 (by decide) ?_
  obtain ⟨v75, e76, hi77, h⟩ := ag_o h
  refine gq_iald hC hW k2.1 (k2.2 (gfm s0) T B (μ a2)) (t0 := 0) rfl e76 hi77 dX10_commandFault_143 ?_
  obtain ⟨r78, hcall, h⟩ := bd_out h
  refine g0_callS (As := [.int v75]) hC hml hS hW (KC_at hk hS F.2.2.2.2) KC_blind (metX10_daysFault F hX  hcall) ml_X10_254 ⟨rfl, rfl, (Nat.le_of_ble_eq_true rfl), (Nat.le_of_ble_eq_true rfl)⟩ rfl hl.1 rfl (Nat.le_of_ble_eq_true rfl) dX10_commandFault_144 ⟨(Nat.le_of_ble_eq_true rfl), (Nat.le_of_ble_eq_true rfl)⟩ (fun H locs hW hS => ?_)
  cases h
  exact hend dX10_commandFault_147 hW hS (Nat.le_of_ble_eq_true rfl) (Nat.le_of_ble_eq_true rfl)

theorem dX10_runCommand_0 : decode cX10_runCommand 0 = .ok (.getstatic 486, 3) := by decide +kernel
theorem dX10_runCommand_3 : decode cX10_runCommand 3 = .ok (.aload_n 1, 1) := by decide +kernel
theorem dX10_runCommand_4 : decode cX10_runCommand 4 = .ok (.invokevirtual 491, 3) := by decide +kernel
theorem dX10_runCommand_7 : decode cX10_runCommand 7 = .ok (.iaload, 1) := by decide +kernel
theorem dX10_runCommand_8 : decode cX10_runCommand 8 = .ok (.tableswitch 195 1 7 #[44, 58, 81, 98, 132, 154, 181], 44) := by decide +kernel
theorem dX10_runCommand_52 : decode cX10_runCommand 52 = .ok (.aload_n 0, 1) := by decide +kernel
theorem dX10_runCommand_53 : decode cX10_runCommand 53 = .ok (.getfield 12, 3) := by decide +kernel
theorem dX10_runCommand_56 : decode cX10_runCommand 56 = .ok (.aload_n 2, 1) := by decide +kernel
theorem dX10_runCommand_57 : decode cX10_runCommand 57 = .ok (.iconst 0, 1) := by decide +kernel
theorem dX10_runCommand_58 : decode cX10_runCommand 58 = .ok (.iaload, 1) := by decide +kernel
theorem dX10_runCommand_59 : decode cX10_runCommand 59 = .ok (.invokevirtual 79, 3) := by decide +kernel
theorem dX10_runCommand_62 : decode cX10_runCommand 62 = .ok (.pop, 1) := by decide +kernel
theorem dX10_runCommand_63 : decode cX10_runCommand 63 = .ok (.goto 151, 3) := by decide +kernel
theorem dX10_runCommand_66 : decode cX10_runCommand 66 = .ok (.aload_n 0, 1) := by decide +kernel
theorem dX10_runCommand_67 : decode cX10_runCommand 67 = .ok (.getfield 12, 3) := by decide +kernel
theorem dX10_runCommand_70 : decode cX10_runCommand 70 = .ok (.aload_n 2, 1) := by decide +kernel
theorem dX10_runCommand_71 : decode cX10_runCommand 71 = .ok (.iconst 0, 1) := by decide +kernel
theorem dX10_runCommand_72 : decode cX10_runCommand 72 = .ok (.iaload, 1) := by decide +kernel
theorem dX10_runCommand_73 : decode cX10_runCommand 73 = .ok (.aload_n 2, 1) := by decide +kernel
theorem dX10_runCommand_74 : decode cX10_runCommand 74 = .ok (.iconst 1, 1) := by decide +kernel
theorem dX10_runCommand_75 : decode cX10_runCommand 75 = .ok (.iaload, 1) := by decide +kernel
theorem dX10_runCommand_76 : decode cX10_runCommand 76 = .ok (.aload_n 2, 1) := by decide +kernel
theorem dX10_runCommand_77 : decode cX10_runCommand 77 = .ok (.iconst 2, 1) := by decide +kernel
theorem dX10_runCommand_78 : decode cX10_runCommand 78 = .ok (.iaload, 1) := by decide +kernel
theorem dX10_runCommand_79 : decode cX10_runCommand 79 = .ok (.aload_n 2, 1) := by decide +kernel
theorem dX10_runCommand_80 : decode cX10_runCommand 80 = .ok (.iconst 3, 1) := by decide +kernel
theorem dX10_runCommand_81 : decode cX10_runCommand 81 = .ok (.iaload, 1) := by decide +kernel
theorem dX10_runCommand_82 : decode cX10_runCommand 82 = .ok (.invokevirtual 97, 3) := by decide +kernel
theorem dX10_runCommand_85 : decode cX10_runCommand 85 = .ok (.pop, 1) := by decide +kernel
theorem dX10_runCommand_86 : decode cX10_runCommand 86 = .ok (.goto 128, 3) := by decide +kernel
theorem dX10_runCommand_89 : decode cX10_runCommand 89 = .ok (.aload_n 0, 1) := by decide +kernel
theorem dX10_runCommand_90 : decode cX10_runCommand 90 = .ok (.getfield 12, 3) := by decide +kernel
theorem dX10_runCommand_93 : decode cX10_runCommand 93 = .ok (.aload_n 2, 1) := by decide +kernel
theorem dX10_runCommand_94 : decode cX10_runCommand 94 = .ok (.iconst 0, 1) := by decide +kernel
theorem dX10_runCommand_95 : decode cX10_runCommand 95 = .ok (.iaload, 1) := by decide +kernel
theorem dX10_runCommand_96 : decode cX10_runCommand 96 = .ok (.aload_n 2, 1) := by decide +kernel
theorem dX10_runCommand_97 : decode cX10_runCommand 97 = .ok (.iconst 1, 1) := by decide +kernel
theorem dX10_runCommand_98 : decode cX10_runCommand 98 = .ok (.iaload, 1) := by decide +kernel
theorem dX10_runCommand_99 : decode cX10_runCommand 99 = .ok (.invokevirtual 152, 3) := by decide +kernel
theorem dX10_runCommand_102 : decode cX10_runCommand 102 = .ok (.pop, 1) := by decide +kernel
theorem dX10_runCommand_103 : decode cX10_runCommand 103 = .ok (.goto 111, 3) := by decide +kernel
theorem dX10_runCommand_106 : decode cX10_runCommand 106 = .ok (.aload_n 0, 1) := by decide +kernel
theorem dX10_runCommand_107 : decode cX10_runCommand 107 = .ok (.getfield 36, 3) := by decide +kernel
theorem dX10_runCommand_110 : decode cX10_runCommand 110 = .ok (.aload_n 0, 1) := by decide +kernel
theorem dX10_runCommand_111 : decode cX10_runCommand 111 = .ok (.getfield 12, 3) := by decide +kernel
theorem dX10_runCommand_114 : decode cX10_runCommand 114 = .ok (.getfield 167, 3) := by decide +kernel
theorem dX10_runCommand_117 : decode cX10_runCommand 117 = .ok (.aload_n 2, 1) := by decide +kernel
theorem dX10_runCommand_118 : decode cX10_runCommand 118 = .ok (.iconst 0, 1) := by decide +kernel
theorem dX10_runCommand_119 : decode cX10_runCommand 119 = .ok (.iaload, 1) := by decide +kernel
theorem dX10_runCommand_120 : decode cX10_runCommand 120 = .ok (.aaload, 1) := by decide +kernel
theorem dX10_runCommand_121 : decode cX10_runCommand 121 = .ok (.aload_n 2, 1) := by decide +kernel
theorem dX10_runCommand_122 : decode cX10_runCommand 122 = .ok (.iconst 1, 1) := by decide +kernel
theorem dX10_runCommand_123 : decode cX10_runCommand 123 = .ok (.iaload, 1) := by decide +kernel
theorem dX10_runCommand_124 : decode cX10_runCommand 124 = .ok (.aload_n 2, 1) := by decide +kernel
theorem dX10_runCommand_125 : decode cX10_runCommand 125 = .ok (.iconst 2, 1) := by decide +kernel
theorem dX10_runCommand_126 : decode cX10_runCommand 126 = .ok (.iaload, 1) := by decide +kernel
theorem dX10_runCommand_127 : decode cX10_runCommand 127 = .ok (.invokestatic 171, 3) := by decide +kernel
theorem dX10_runCommand_130 : decode cX10_runCommand 130 = .ok (.aload_n 2, 1) := by decide +kernel
theorem dX10_runCommand_131 : decode cX10_runCommand 131 = .ok (.iconst 3, 1) := by decide +kernel
theorem dX10_runCommand_132 : decode cX10_runCommand 132 = .ok (.iaload, 1) := by decide +kernel
theorem dX10_runCommand_133 : decode cX10_runCommand 133 = .ok (.invokevirtual 174, 3) := by decide +kernel
theorem dX10_runCommand_136 : decode cX10_runCommand 136 = .ok (.pop, 1) := by decide +kernel
theorem dX10_runCommand_137 : decode cX10_runCommand 137 = .ok (.goto 77, 3) := by decide +kernel
theorem dX10_runCommand_140 : decode cX10_runCommand 140 = .ok (.aload_n 0, 1) := by decide +kernel
theorem dX10_runCommand_141 : decode cX10_runCommand 141 = .ok (.aload_n 0, 1) := by decide +kernel
theorem dX10_runCommand_142 : decode cX10_runCommand 142 = .ok (.getfield 12, 3) := by decide +kernel
theorem dX10_runCommand_145 : decode cX10_runCommand 145 = .ok (.getfield 167, 3) := by decide +kernel
theorem dX10_runCommand_148 : decode cX10_runCommand 148 = .ok (.aload_n 2, 1) := by decide +kernel
theorem dX10_runCommand_149 : decode cX10_runCommand 149 = .ok (.iconst 0, 1) := by decide +kernel
theorem dX10_runCommand_150 : decode cX10_runCommand 150 = .ok (.iaload, 1) := by decide +kernel
theorem dX10_runCommand_151 : decode cX10_runCommand 151 = .ok (.aaload, 1) := by decide +kernel
theorem dX10_runCommand_152 : decode cX10_runCommand 152 = .ok (.aload_n 2, 1) := by decide +kernel
theorem dX10_runCommand_153 : decode cX10_runCommand 153 = .ok (.iconst 1, 1) := by decide +kernel
theorem dX10_runCommand_154 : decode cX10_runCommand 154 = .ok (.iaload, 1) := by decide +kernel
theorem dX10_runCommand_155 : decode cX10_runCommand 155 = .ok (.invokevirtual 232, 3) := by decide +kernel
theorem dX10_runCommand_158 : decode cX10_runCommand 158 = .ok (.pop, 1) := by decide +kernel
theorem dX10_runCommand_159 : decode cX10_runCommand 159 = .ok (.goto 55, 3) := by decide +kernel
theorem dX10_runCommand_162 : decode cX10_runCommand 162 = .ok (.aload_n 0, 1) := by decide +kernel
theorem dX10_runCommand_163 : decode cX10_runCommand 163 = .ok (.getfield 12, 3) := by decide +kernel
theorem dX10_runCommand_166 : decode cX10_runCommand 166 = .ok (.getfield 167, 3) := by decide +kernel
theorem dX10_runCommand_169 : decode cX10_runCommand 169 = .ok (.aload_n 2, 1) := by decide +kernel
theorem dX10_runCommand_170 : decode cX10_runCommand 170 = .ok (.iconst 0, 1) := by decide +kernel
theorem dX10_runCommand_171 : decode cX10_runCommand 171 = .ok (.iaload, 1) := by decide +kernel
theorem dX10_runCommand_172 : decode cX10_runCommand 172 = .ok (.aaload, 1) := by decide +kernel
theorem dX10_runCommand_173 : decode cX10_runCommand 173 = .ok (.aload_n 2, 1) := by decide +kernel
theorem dX10_runCommand_174 : decode cX10_runCommand 174 = .ok (.iconst 1, 1) := by decide +kernel
theorem dX10_runCommand_175 : decode cX10_runCommand 175 = .ok (.iaload, 1) := by decide +kernel
theorem dX10_runCommand_176 : decode cX10_runCommand 176 = .ok (.aload_n 2, 1) := by decide +kernel
theorem dX10_runCommand_177 : decode cX10_runCommand 177 = .ok (.iconst 2, 1) := by decide +kernel
theorem dX10_runCommand_178 : decode cX10_runCommand 178 = .ok (.iaload, 1) := by decide +kernel
theorem dX10_runCommand_179 : decode cX10_runCommand 179 = .ok (.aload_n 2, 1) := by decide +kernel
theorem dX10_runCommand_180 : decode cX10_runCommand 180 = .ok (.iconst 3, 1) := by decide +kernel
theorem dX10_runCommand_181 : decode cX10_runCommand 181 = .ok (.iaload, 1) := by decide +kernel
theorem dX10_runCommand_182 : decode cX10_runCommand 182 = .ok (.invokevirtual 266, 3) := by decide +kernel
theorem dX10_runCommand_185 : decode cX10_runCommand 185 = .ok (.pop, 1) := by decide +kernel
theorem dX10_runCommand_186 : decode cX10_runCommand 186 = .ok (.goto 28, 3) := by decide +kernel
theorem dX10_runCommand_189 : decode cX10_runCommand 189 = .ok (.aload_n 0, 1) := by decide +kernel
theorem dX10_runCommand_190 : decode cX10_runCommand 190 = .ok (.getfield 12, 3) := by decide +kernel
theorem dX10_runCommand_193 : decode cX10_runCommand 193 = .ok (.aload_n 2, 1) := by decide +kernel
theorem dX10_runCommand_194 : decode cX10_runCommand 194 = .ok (.iconst 0, 1) := by decide +kernel
theorem dX10_runCommand_195 : decode cX10_runCommand 195 = .ok (.iaload, 1) := by decide +kernel
theorem dX10_runCommand_196 : decode cX10_runCommand 196 = .ok (.invokevirtual 273, 3) := by decide +kernel
theorem dX10_runCommand_199 : decode cX10_runCommand 199 = .ok (.pop, 1) := by decide +kernel
theorem dX10_runCommand_200 : decode cX10_runCommand 200 = .ok (.goto 14, 3) := by decide +kernel
theorem dX10_runCommand_203 : decode cX10_runCommand 203 = .ok (.aload_n 0, 1) := by decide +kernel
theorem dX10_runCommand_204 : decode cX10_runCommand 204 = .ok (.getfield 12, 3) := by decide +kernel
theorem dX10_runCommand_207 : decode cX10_runCommand 207 = .ok (.aload_n 2, 1) := by decide +kernel
theorem dX10_runCommand_208 : decode cX10_runCommand 208 = .ok (.iconst 0, 1) := by decide +kernel
theorem dX10_runCommand_209 : decode cX10_runCommand 209 = .ok (.iaload, 1) := by decide +kernel
theorem dX10_runCommand_210 : decode cX10_runCommand 210 = .ok (.invokevirtual 257, 3) := by decide +kernel
theorem dX10_runCommand_213 : decode cX10_runCommand 213 = .ok (.pop, 1) := by decide +kernel
theorem dX10_runCommand_214 : decode cX10_runCommand 214 = .ok (.return_, 1) := by decide +kernel
abbrev rmX10_runCommand : Room := { frames := 7, cells := 0, slots := 0, locals := 177 }
set_option maxHeartbeats 4000000 in
set_option maxRecDepth 100000 in
theorem metX10_runCommand {l : Launch} {s0 : State} {b B : Nat} {D : va_G} {T : Nat → ClassId} (F : FX l s0 b D T B) {X : Nat → Prop} (hX : ∀ o, o < 560 → ¬ X (B + o)) {N : Nat} {μ : Mem} {a0 : Nat} {a1 : Nat} {a2 : Nat} {r : Mem} (k0 : IsGa a0) (k1 : fOK a1) (k2 : (IA 4) a2) (h : fX10_runCommand N μ a0 a1 a2 = some r) : gMet l yX10_runCommand cX10_runCommand 3 none rmX10_runCommand [.ref (B + a0), .ref (gfm s0 a1), .ref (B + a2)] (gWC s0 D T B μ) (KC s0 X) none (gWC s0 D T B r) (gA B X) 0 0 := by
  refine gV_of RX10 (by decide +kernel) rfl (Nat.le_of_ble_eq_true rfl) ?_
  intro p e s m args below meth c ls Q hx hb hlocks hml hown hts hW hk hl hS hend
  have hC := FX_C F hk hx hb hown hts
  have hA := gA_all hX
  have hl : lv_has ls 3 [(0, .ref (B + a0)), (1, .ref (gfm s0 a1)), (2, .ref (B + a2))] := hl
  unfold fX10_runCommand at h
  obtain ⟨t1, hz2, ht3⟩ := zSw F hk
  refine gw_gets hC hz2 hS fj_X10_486 dX10_runCommand_0 ?_
  refine lv_aload_n hx hb dX10_runCommand_3 rfl (lv_at hl 1 rfl) ?_
  refine gw_ord F hk hC hml hS k1 ⟨rfl, rfl, (Nat.le_of_ble_eq_true rfl), (Nat.le_of_ble_eq_true rfl)⟩ hl.1 (Nat.le_of_ble_eq_true rfl) dX10_runCommand_4 ⟨(Nat.le_of_ble_eq_true rfl), (Nat.le_of_ble_eq_true rfl)⟩ (fun locs hS => ?_)
  obtain ⟨v4, e5, hi6, h⟩ := swm_o h
  refine va_ti hx hb ht3 hS hi6 (v := .int v4) (by rw [e5]) dX10_runCommand_7 ?_
  obtain ⟨j8, hj10, h⟩ := jn1_o h
  have J9 : ∀ (μ7 : Mem), j8 μ7 = some r → ∀ (H : Heap) (locs : List Loc) (ls : Array Slot), gWC s0 D T B μ7 H → va_S (gA B X) s.heap H locs → lv_has ls 3 [] → W p l e rmX10_runCommand s m args below meth c H locs 0 0 Q (F0 m 214 ls []) := by
    clear h hW hS hl
    intro μ7 h H locs ls hW hS hl
    replace h := (hj10 μ7).symm.trans h
    cases h
    exact hend dX10_runCommand_214 hW hS (Nat.le_of_ble_eq_true rfl) (Nat.le_of_ble_eq_true rfl)
  by_cases c11 : v4 = 1
  · replace h := ite_t c11 h
    refine lv_tableIn (tgt := 52) (off := 44) hx hb dX10_runCommand_8 (by rw [c11]; decide) (by rw [c11]; decide) (by rw [c11]; rfl) (by decide) ?_
    refine lv_aload_n hx hb dX10_runCommand_52 rfl (lv_at hl 0 rfl) ?_
    refine gw_get (v := .ref (B + 1)) hC hW fl_X10_12 k0.1 (k0.2.2.1 (gfm s0) T B (μ a0)) rfl dX10_runCommand_53 ?_
    refine lv_aload_n hx hb dX10_runCommand_56 rfl (lv_at hl 2 rfl) ?_
    refine lv_iconst (v := 0) hx hb dX10_runCommand_57 (by decide) ?_
    obtain ⟨v12, e13, hi14, h⟩ := ag_o h
    refine gq_iald hC hW k2.1 (k2.2 (gfm s0) T B (μ a2)) (t0 := 0) rfl e13 hi14 dX10_runCommand_58 ?_
    obtain ⟨r15, hcall, h⟩ := bd_out h
    refine g0_callV (As := [.int v12]) hC hml hS hW (KC_at hk hS F.2.2.2.2) KC_blind (metX8_putRoom F hX k0.2.2.2.1 hcall) ml_X10_79 (gw_recv hC hW k0.2.2.2.1.1 (k0.2.2.2.1.2.1 (gfm s0) T B (μ 1)) rfl) ⟨rfl, rfl, (Nat.le_of_ble_eq_true rfl), (Nat.le_of_ble_eq_true rfl)⟩ rfl hl.1 rfl (Nat.le_of_ble_eq_true rfl) dX10_runCommand_59 ⟨(Nat.le_of_ble_eq_true rfl), (Nat.le_of_ble_eq_true rfl)⟩ (fun H locs hW hS => ?_)
    refine lv_pop hx hb dX10_runCommand_62 rfl ?_
    refine lv_goto (tgt := 214) hx hb dX10_runCommand_63 (by decide) ?_
    exact J9 _ h _ _ _ hW hS (lv_sub hl [] rfl)
  replace h := ite_f c11 h
  by_cases c16 : v4 = 2
  · replace h := ite_t c16 h
    refine lv_tableIn (tgt := 66) (off := 58) hx hb dX10_runCommand_8 (by rw [c16]; decide) (by rw [c16]; decide) (by rw [c16]; rfl) (by decide) ?_
    refine lv_aload_n hx hb dX10_runCommand_66 rfl (lv_at hl 0 rfl) ?_
    refine gw_get (v := .ref (B + 1)) hC hW fl_X10_12 k0.1 (k0.2.2.1 (gfm s0) T B (μ a0)) rfl dX10_runCommand_67 ?_
    refine lv_aload_n hx hb dX10_runCommand_70 rfl (lv_at hl 2 rfl) ?_
    refine lv_iconst (v := 0) hx hb dX10_runCommand_71 (by decide) ?_
    obtain ⟨v17, e18, hi19, h⟩ := ag_o h
    refine gq_iald hC hW k2.1 (k2.2 (gfm s0) T B (μ a2)) (t0 := 0) rfl e18 hi19 dX10_runCommand_72 ?_
    refine lv_aload_n hx hb dX10_runCommand_73 rfl (lv_at hl 2 rfl) ?_
    refine lv_iconst (v := 1) hx hb dX10_runCommand_74 (by decide) ?_
    obtain ⟨v20, e21, hi22, h⟩ := ag_o h
    refine gq_iald hC hW k2.1 (k2.2 (gfm s0) T B (μ a2)) (t0 := 0) rfl e21 hi22 dX10_runCommand_75 ?_
    refine lv_aload_n hx hb dX10_runCommand_76 rfl (lv_at hl 2 rfl) ?_
    refine lv_iconst (v := 2) hx hb dX10_runCommand_77 (by decide) ?_
    obtain ⟨v23, e24, hi25, h⟩ := ag_o h
    refine gq_iald hC hW k2.1 (k2.2 (gfm s0) T B (μ a2)) (t0 := 0) rfl e24 hi25 dX10_runCommand_78 ?_
    refine lv_aload_n hx hb dX10_runCommand_79 rfl (lv_at hl 2 rfl) ?_
    refine lv_iconst (v := 3) hx hb dX10_runCommand_80 (by decide) ?_
    obtain ⟨v26, e27, hi28, h⟩ := ag_o h
    refine gq_iald hC hW k2.1 (k2.2 (gfm s0) T B (μ a2)) (t0 := 0) rfl e27 hi28 dX10_runCommand_81 ?_
    obtain ⟨r29, hcall, h⟩ := bd_out h
    refine g0_callV (As := [.int v17, .int v20, .int v23, .int v26]) hC hml hS hW (KC_at hk hS F.2.2.2.2) KC_blind (metX8_putLeg F hX k0.2.2.2.1 hcall) ml_X10_97 (gw_recv hC hW k0.2.2.2.1.1 (k0.2.2.2.1.2.1 (gfm s0) T B (μ 1)) rfl) ⟨rfl, rfl, (Nat.le_of_ble_eq_true rfl), (Nat.le_of_ble_eq_true rfl)⟩ rfl hl.1 rfl (Nat.le_of_ble_eq_true rfl) dX10_runCommand_82 ⟨(Nat.le_of_ble_eq_true rfl), (Nat.le_of_ble_eq_true rfl)⟩ (fun H locs hW hS => ?_)
    refine lv_pop hx hb dX10_runCommand_85 rfl ?_
    refine lv_goto (tgt := 214) hx hb dX10_runCommand_86 (by decide) ?_
    exact J9 _ h _ _ _ hW hS (lv_sub hl [] rfl)
  replace h := ite_f c16 h
  by_cases c30 : v4 = 3
  · replace h := ite_t c30 h
    refine lv_tableIn (tgt := 89) (off := 81) hx hb dX10_runCommand_8 (by rw [c30]; decide) (by rw [c30]; decide) (by rw [c30]; rfl) (by decide) ?_
    refine lv_aload_n hx hb dX10_runCommand_89 rfl (lv_at hl 0 rfl) ?_
    refine gw_get (v := .ref (B + 1)) hC hW fl_X10_12 k0.1 (k0.2.2.1 (gfm s0) T B (μ a0)) rfl dX10_runCommand_90 ?_
    refine lv_aload_n hx hb dX10_runCommand_93 rfl (lv_at hl 2 rfl) ?_
    refine lv_iconst (v := 0) hx hb dX10_runCommand_94 (by decide) ?_
    obtain ⟨v31, e32, hi33, h⟩ := ag_o h
    refine gq_iald hC hW k2.1 (k2.2 (gfm s0) T B (μ a2)) (t0 := 0) rfl e32 hi33 dX10_runCommand_95 ?_
    refine lv_aload_n hx hb dX10_runCommand_96 rfl (lv_at hl 2 rfl) ?_
    refine lv_iconst (v := 1) hx hb dX10_runCommand_97 (by decide) ?_
    obtain ⟨v34, e35, hi36, h⟩ := ag_o h
    refine gq_iald hC hW k2.1 (k2.2 (gfm s0) T B (μ a2)) (t0 := 0) rfl e35 hi36 dX10_runCommand_98 ?_
    obtain ⟨r37, hcall, h⟩ := bd_out h
    refine g0_callV (As := [.int v31, .int v34]) hC hml hS hW (KC_at hk hS F.2.2.2.2) KC_blind (metX8_putExhibit F hX k0.2.2.2.1 hcall) ml_X10_152 (gw_recv hC hW k0.2.2.2.1.1 (k0.2.2.2.1.2.1 (gfm s0) T B (μ 1)) rfl) ⟨rfl, rfl, (Nat.le_of_ble_eq_true rfl), (Nat.le_of_ble_eq_true rfl)⟩ rfl hl.1 rfl (Nat.le_of_ble_eq_true rfl) dX10_runCommand_99 ⟨(Nat.le_of_ble_eq_true rfl), (Nat.le_of_ble_eq_true rfl)⟩ (fun H locs hW hS => ?_)
    refine lv_pop hx hb dX10_runCommand_102 rfl ?_
    refine lv_goto (tgt := 214) hx hb dX10_runCommand_103 (by decide) ?_
    exact J9 _ h _ _ _ hW hS (lv_sub hl [] rfl)
  replace h := ite_f c30 h
  by_cases c38 : v4 = 4
  · replace h := ite_t c38 h
    refine lv_tableIn (tgt := 106) (off := 98) hx hb dX10_runCommand_8 (by rw [c38]; decide) (by rw [c38]; decide) (by rw [c38]; rfl) (by decide) ?_
    refine lv_aload_n hx hb dX10_runCommand_106 rfl (lv_at hl 0 rfl) ?_
    refine gw_get (v := .ref (B + 538)) hC hW fl_X10_36 k0.1 (k0.2.2.1 (gfm s0) T B (μ a0)) rfl dX10_runCommand_107 ?_
    refine lv_aload_n hx hb dX10_runCommand_110 rfl (lv_at hl 0 rfl) ?_
    refine gw_get (v := .ref (B + 1)) hC hW fl_X10_12 k0.1 (k0.2.2.1 (gfm s0) T B (μ a0)) rfl dX10_runCommand_111 ?_
    refine gw_get (v := .ref (B + (1 + 16))) hC hW fl_X10_167 k0.2.2.2.1.1 (k0.2.2.2.1.2.1 (gfm s0) T B (μ 1)) rfl dX10_runCommand_114 ?_
    refine lv_aload_n hx hb dX10_runCommand_117 rfl (lv_at hl 2 rfl) ?_
    refine lv_iconst (v := 0) hx hb dX10_runCommand_118 (by decide) ?_
    obtain ⟨v39, e40, hi41, h⟩ := ag_o h
    refine gq_iald hC hW k2.1 (k2.2 (gfm s0) T B (μ a2)) (t0 := 0) rfl e40 hi41 dX10_runCommand_119 ?_
    obtain ⟨q42, e43, hq44, hi45, h⟩ := ar_o h
    refine gq_aald hC hW k0.2.2.2.1.2.2.2.2.2.1 (k0.2.2.2.1.2.2.2.2.2.2.1 (gfm s0) T B (μ (1 + 16))) (t0 := 5) rfl rfl e43 hi45 dX10_runCommand_120 ?_
    refine lv_aload_n hx hb dX10_runCommand_121 rfl (lv_at hl 2 rfl) ?_
    refine lv_iconst (v := 1) hx hb dX10_runCommand_122 (by decide) ?_
    obtain ⟨v46, e47, hi48, h⟩ := ag_o h
    refine gq_iald hC hW k2.1 (k2.2 (gfm s0) T B (μ a2)) (t0 := 0) rfl e47 hi48 dX10_runCommand_123 ?_
    refine lv_aload_n hx hb dX10_runCommand_124 rfl (lv_at hl 2 rfl) ?_
    refine lv_iconst (v := 2) hx hb dX10_runCommand_125 (by decide) ?_
    obtain ⟨v49, e50, hi51, h⟩ := ag_o h
    refine gq_iald hC hW k2.1 (k2.2 (gfm s0) T B (μ a2)) (t0 := 0) rfl e50 hi51 dX10_runCommand_126 ?_
    obtain ⟨r52, hcall, h⟩ := bd_out h
    refine g0_callS (As := [.int v46, .int v49]) hC hml hS hW (KC_at hk hS F.2.2.2.2) KC_blind (metX10_placeAt F hX  hcall) ml_X10_171 ⟨rfl, rfl, (Nat.le_of_ble_eq_true rfl), (Nat.le_of_ble_eq_true rfl)⟩ rfl hl.1 rfl (Nat.le_of_ble_eq_true rfl) dX10_runCommand_127 ⟨(Nat.le_of_ble_eq_true rfl), (Nat.le_of_ble_eq_true rfl)⟩ (fun H locs hW hS => ?_)
    refine lv_aload_n hx hb dX10_runCommand_130 rfl (lv_at hl 2 rfl) ?_
    refine lv_iconst (v := 3) hx hb dX10_runCommand_131 (by decide) ?_
    obtain ⟨v53, e54, hi55, h⟩ := ag_o h
    refine gq_iald hC hW k2.1 (k2.2 (gfm s0) T B (μ a2)) (t0 := 0) rfl e54 hi55 dX10_runCommand_132 ?_
    obtain ⟨r56, hcall, h⟩ := bd_out h
    refine g0_callV (As := [.ref (B + ((1 + 16) + 1 + 6 * q42)), .int r52, .int v53]) hC hml hS hW (KC_at hk hS F.2.2.2.2) KC_blind (metX6_fallOn F hX k0.2.2.2.2.2.2.2.1 (k0.2.2.2.1.2.2.2.2.2.2.2 q42 hq44) hcall) ml_X10_174 (gw_recv hC hW k0.2.2.2.2.2.2.2.1.1 (k0.2.2.2.2.2.2.2.1.2.1 (gfm s0) T B (μ 538)) rfl) ⟨rfl, rfl, (Nat.le_of_ble_eq_true rfl), (Nat.le_of_ble_eq_true rfl)⟩ rfl hl.1 rfl (Nat.le_of_ble_eq_true rfl) dX10_runCommand_133 ⟨(Nat.le_of_ble_eq_true rfl), (Nat.le_of_ble_eq_true rfl)⟩ (fun H locs hW hS => ?_)
    refine lv_pop hx hb dX10_runCommand_136 rfl ?_
    refine lv_goto (tgt := 214) hx hb dX10_runCommand_137 (by decide) ?_
    exact J9 _ h _ _ _ hW hS (lv_sub hl [] rfl)
  replace h := ite_f c38 h
  by_cases c57 : v4 = 5
  · replace h := ite_t c57 h
    refine lv_tableIn (tgt := 140) (off := 132) hx hb dX10_runCommand_8 (by rw [c57]; decide) (by rw [c57]; decide) (by rw [c57]; rfl) (by decide) ?_
    refine lv_aload_n hx hb dX10_runCommand_140 rfl (lv_at hl 0 rfl) ?_
    refine lv_aload_n hx hb dX10_runCommand_141 rfl (lv_at hl 0 rfl) ?_
    refine gw_get (v := .ref (B + 1)) hC hW fl_X10_12 k0.1 (k0.2.2.1 (gfm s0) T B (μ a0)) rfl dX10_runCommand_142 ?_
    refine gw_get (v := .ref (B + (1 + 16))) hC hW fl_X10_167 k0.2.2.2.1.1 (k0.2.2.2.1.2.1 (gfm s0) T B (μ 1)) rfl dX10_runCommand_145 ?_
    refine lv_aload_n hx hb dX10_runCommand_148 rfl (lv_at hl 2 rfl) ?_
    refine lv_iconst (v := 0) hx hb dX10_runCommand_149 (by decide) ?_
    obtain ⟨v58, e59, hi60, h⟩ := ag_o h
    refine gq_iald hC hW k2.1 (k2.2 (gfm s0) T B (μ a2)) (t0 := 0) rfl e59 hi60 dX10_runCommand_150 ?_
    obtain ⟨q61, e62, hq63, hi64, h⟩ := ar_o h
    refine gq_aald hC hW k0.2.2.2.1.2.2.2.2.2.1 (k0.2.2.2.1.2.2.2.2.2.2.1 (gfm s0) T B (μ (1 + 16))) (t0 := 5) rfl rfl e62 hi64 dX10_runCommand_151 ?_
    refine lv_aload_n hx hb dX10_runCommand_152 rfl (lv_at hl 2 rfl) ?_
    refine lv_iconst (v := 1) hx hb dX10_runCommand_153 (by decide) ?_
    obtain ⟨v65, e66, hi67, h⟩ := ag_o h
    refine gq_iald hC hW k2.1 (k2.2 (gfm s0) T B (μ a2)) (t0 := 0) rfl e66 hi67 dX10_runCommand_154 ?_
    obtain ⟨r68, hcall, h⟩ := bd_out h
    refine g0_callV (As := [.ref (B + ((1 + 16) + 1 + 6 * q61)), .int v65]) hC hml hS hW (KC_at hk hS F.2.2.2.2) KC_blind (metX10_carry F hX k0 (k0.2.2.2.1.2.2.2.2.2.2.2 q61 hq63) hcall) ml_X10_232 (gw_recv hC hW k0.1 (k0.2.2.1 (gfm s0) T B (μ a0)) rfl) ⟨rfl, rfl, (Nat.le_of_ble_eq_true rfl), (Nat.le_of_ble_eq_true rfl)⟩ rfl hl.1 rfl (Nat.le_of_ble_eq_true rfl) dX10_runCommand_155 ⟨(Nat.le_of_ble_eq_true rfl), (Nat.le_of_ble_eq_true rfl)⟩ (fun H locs hW hS => ?_)
    refine lv_pop hx hb dX10_runCommand_158 rfl ?_
    refine lv_goto (tgt := 214) hx hb dX10_runCommand_159 (by decide) ?_
    exact J9 _ h _ _ _ hW hS (lv_sub hl [] rfl)
  replace h := ite_f c57 h
  by_cases c69 : v4 = 6
  · replace h := ite_t c69 h
    refine lv_tableIn (tgt := 162) (off := 154) hx hb dX10_runCommand_8 (by rw [c69]; decide) (by rw [c69]; decide) (by rw [c69]; rfl) (by decide) ?_
    refine lv_aload_n hx hb dX10_runCommand_162 rfl (lv_at hl 0 rfl) ?_
    refine gw_get (v := .ref (B + 1)) hC hW fl_X10_12 k0.1 (k0.2.2.1 (gfm s0) T B (μ a0)) rfl dX10_runCommand_163 ?_
    refine gw_get (v := .ref (B + (1 + 16))) hC hW fl_X10_167 k0.2.2.2.1.1 (k0.2.2.2.1.2.1 (gfm s0) T B (μ 1)) rfl dX10_runCommand_166 ?_
    refine lv_aload_n hx hb dX10_runCommand_169 rfl (lv_at hl 2 rfl) ?_
    refine lv_iconst (v := 0) hx hb dX10_runCommand_170 (by decide) ?_
    obtain ⟨v70, e71, hi72, h⟩ := ag_o h
    refine gq_iald hC hW k2.1 (k2.2 (gfm s0) T B (μ a2)) (t0 := 0) rfl e71 hi72 dX10_runCommand_171 ?_
    obtain ⟨q73, e74, hq75, hi76, h⟩ := ar_o h
    refine gq_aald hC hW k0.2.2.2.1.2.2.2.2.2.1 (k0.2.2.2.1.2.2.2.2.2.2.1 (gfm s0) T B (μ (1 + 16))) (t0 := 5) rfl rfl e74 hi76 dX10_runCommand_172 ?_
    refine lv_aload_n hx hb dX10_runCommand_173 rfl (lv_at hl 2 rfl) ?_
    refine lv_iconst (v := 1) hx hb dX10_runCommand_174 (by decide) ?_
    obtain ⟨v77, e78, hi79, h⟩ := ag_o h
    refine gq_iald hC hW k2.1 (k2.2 (gfm s0) T B (μ a2)) (t0 := 0) rfl e78 hi79 dX10_runCommand_175 ?_
    refine lv_aload_n hx hb dX10_runCommand_176 rfl (lv_at hl 2 rfl) ?_
    refine lv_iconst (v := 2) hx hb dX10_runCommand_177 (by decide) ?_
    obtain ⟨v80, e81, hi82, h⟩ := ag_o h
    refine gq_iald hC hW k2.1 (k2.2 (gfm s0) T B (μ a2)) (t0 := 0) rfl e81 hi82 dX10_runCommand_178 ?_
    refine lv_aload_n hx hb dX10_runCommand_179 rfl (lv_at hl 2 rfl) ?_
    refine lv_iconst (v := 3) hx hb dX10_runCommand_180 (by decide) ?_
    obtain ⟨v83, e84, hi85, h⟩ := ag_o h
    refine gq_iald hC hW k2.1 (k2.2 (gfm s0) T B (μ a2)) (t0 := 0) rfl e84 hi85 dX10_runCommand_181 ?_
    obtain ⟨r86, hcall, h⟩ := bd_out h
    refine g0_callV (As := [.int v77, .int v80, .int v83]) hC hml hS hW (KC_at hk hS F.2.2.2.2) KC_blind (metX1_noteLoan F hX (k0.2.2.2.1.2.2.2.2.2.2.2 q73 hq75) hcall) ml_X10_266 (gw_recv hC hW (k0.2.2.2.1.2.2.2.2.2.2.2 q73 hq75).1 ((k0.2.2.2.1.2.2.2.2.2.2.2 q73 hq75).2.1 (gfm s0) T B (μ ((1 + 16) + 1 + 6 * q73))) rfl) ⟨rfl, rfl, (Nat.le_of_ble_eq_true rfl), (Nat.le_of_ble_eq_true rfl)⟩ rfl hl.1 rfl (Nat.le_of_ble_eq_true rfl) dX10_runCommand_182 ⟨(Nat.le_of_ble_eq_true rfl), (Nat.le_of_ble_eq_true rfl)⟩ (fun H locs hW hS => ?_)
    refine lv_pop hx hb dX10_runCommand_185 rfl ?_
    refine lv_goto (tgt := 214) hx hb dX10_runCommand_186 (by decide) ?_
    exact J9 _ h _ _ _ hW hS (lv_sub hl [] rfl)
  replace h := ite_f c69 h
  by_cases c87 : v4 = 7
  · replace h := ite_t c87 h
    refine lv_tableIn (tgt := 189) (off := 181) hx hb dX10_runCommand_8 (by rw [c87]; decide) (by rw [c87]; decide) (by rw [c87]; rfl) (by decide) ?_
    refine lv_aload_n hx hb dX10_runCommand_189 rfl (lv_at hl 0 rfl) ?_
    refine gw_get (v := .ref (B + 1)) hC hW fl_X10_12 k0.1 (k0.2.2.1 (gfm s0) T B (μ a0)) rfl dX10_runCommand_190 ?_
    refine lv_aload_n hx hb dX10_runCommand_193 rfl (lv_at hl 2 rfl) ?_
    refine lv_iconst (v := 0) hx hb dX10_runCommand_194 (by decide) ?_
    obtain ⟨v88, e89, hi90, h⟩ := ag_o h
    refine gq_iald hC hW k2.1 (k2.2 (gfm s0) T B (μ a2)) (t0 := 0) rfl e89 hi90 dX10_runCommand_195 ?_
    obtain ⟨r91, hcall, h⟩ := bd_out h
    refine g0_callV (As := [.int v88]) hC hml hS hW (KC_at hk hS F.2.2.2.2) KC_blind (metX8_lend F hX k0.2.2.2.1 hcall) ml_X10_273 (gw_recv hC hW k0.2.2.2.1.1 (k0.2.2.2.1.2.1 (gfm s0) T B (μ 1)) rfl) ⟨rfl, rfl, (Nat.le_of_ble_eq_true rfl), (Nat.le_of_ble_eq_true rfl)⟩ rfl hl.1 rfl (Nat.le_of_ble_eq_true rfl) dX10_runCommand_196 ⟨(Nat.le_of_ble_eq_true rfl), (Nat.le_of_ble_eq_true rfl)⟩ (fun H locs hW hS => ?_)
    refine lv_pop hx hb dX10_runCommand_199 rfl ?_
    refine lv_goto (tgt := 214) hx hb dX10_runCommand_200 (by decide) ?_
    exact J9 _ h _ _ _ hW hS (lv_sub hl [] rfl)
  replace h := ite_f c87 h
  refine lv_tableOut (tgt := 203) hx hb dX10_runCommand_8 (sw_out (lo := 1) (hi := 7) (fun k h1 h2 => by rcases (show k = 1 ∨ k = 2 ∨ k = 3 ∨ k = 4 ∨ k = 5 ∨ k = 6 ∨ k = 7 by omega) with rfl | rfl | rfl | rfl | rfl | rfl | rfl <;> assumption)) (by decide) ?_
  refine lv_aload_n hx hb dX10_runCommand_203 rfl (lv_at hl 0 rfl) ?_
  refine gw_get (v := .ref (B + 1)) hC hW fl_X10_12 k0.1 (k0.2.2.1 (gfm s0) T B (μ a0)) rfl dX10_runCommand_204 ?_
  refine lv_aload_n hx hb dX10_runCommand_207 rfl (lv_at hl 2 rfl) ?_
  refine lv_iconst (v := 0) hx hb dX10_runCommand_208 (by decide) ?_
  obtain ⟨v92, e93, hi94, h⟩ := ag_o h
  refine gq_iald hC hW k2.1 (k2.2 (gfm s0) T B (μ a2)) (t0 := 0) rfl e93 hi94 dX10_runCommand_209 ?_
  obtain ⟨r95, hcall, h⟩ := bd_out h
  refine g0_callV (As := [.int v92]) hC hml hS hW (KC_at hk hS F.2.2.2.2) KC_blind (metX8_letDaysPass F hX k0.2.2.2.1 hcall) ml_X10_257 (gw_recv hC hW k0.2.2.2.1.1 (k0.2.2.2.1.2.1 (gfm s0) T B (μ 1)) rfl) ⟨rfl, rfl, (Nat.le_of_ble_eq_true rfl), (Nat.le_of_ble_eq_true rfl)⟩ rfl hl.1 rfl (Nat.le_of_ble_eq_true rfl) dX10_runCommand_210 ⟨(Nat.le_of_ble_eq_true rfl), (Nat.le_of_ble_eq_true rfl)⟩ (fun H locs hW hS => ?_)
  refine lv_pop hx hb dX10_runCommand_213 rfl ?_
  exact J9 _ h _ _ _ hW hS (lv_sub hl [] rfl)

theorem dX10_runCommands_0 : decode cX10_runCommands 0 = .ok (.iconst 0, 1) := by decide +kernel
theorem dX10_runCommands_1 : decode cX10_runCommands 1 = .ok (.istore_n 1, 1) := by decide +kernel
theorem dX10_runCommands_2 : decode cX10_runCommands 2 = .ok (.iload_n 1, 1) := by decide +kernel
theorem dX10_runCommands_3 : decode cX10_runCommands 3 = .ok (.aload_n 0, 1) := by decide +kernel
theorem dX10_runCommands_4 : decode cX10_runCommands 4 = .ok (.getfield 50, 3) := by decide +kernel
theorem dX10_runCommands_7 : decode cX10_runCommands 7 = .ok (.getfield 391, 3) := by decide +kernel
theorem dX10_runCommands_10 : decode cX10_runCommands 10 = .ok (.if_icmp .ge 49, 3) := by decide +kernel
theorem dX10_runCommands_13 : decode cX10_runCommands 13 = .ok (.aload_n 0, 1) := by decide +kernel
theorem dX10_runCommands_14 : decode cX10_runCommands 14 = .ok (.getfield 50, 3) := by decide +kernel
theorem dX10_runCommands_17 : decode cX10_runCommands 17 = .ok (.getfield 471, 3) := by decide +kernel
theorem dX10_runCommands_20 : decode cX10_runCommands 20 = .ok (.iload_n 1, 1) := by decide +kernel
theorem dX10_runCommands_21 : decode cX10_runCommands 21 = .ok (.aaload, 1) := by decide +kernel
theorem dX10_runCommands_22 : decode cX10_runCommands 22 = .ok (.astore_n 2, 1) := by decide +kernel
theorem dX10_runCommands_23 : decode cX10_runCommands 23 = .ok (.aload_n 0, 1) := by decide +kernel
theorem dX10_runCommands_24 : decode cX10_runCommands 24 = .ok (.getfield 50, 3) := by decide +kernel
theorem dX10_runCommands_27 : decode cX10_runCommands 27 = .ok (.getfield 475, 3) := by decide +kernel
theorem dX10_runCommands_30 : decode cX10_runCommands 30 = .ok (.iload_n 1, 1) := by decide +kernel
theorem dX10_runCommands_31 : decode cX10_runCommands 31 = .ok (.aaload, 1) := by decide +kernel
theorem dX10_runCommands_32 : decode cX10_runCommands 32 = .ok (.astore_n 3, 1) := by decide +kernel
theorem dX10_runCommands_33 : decode cX10_runCommands 33 = .ok (.aload_n 0, 1) := by decide +kernel
theorem dX10_runCommands_34 : decode cX10_runCommands 34 = .ok (.aload_n 2, 1) := by decide +kernel
theorem dX10_runCommands_35 : decode cX10_runCommands 35 = .ok (.aload_n 3, 1) := by decide +kernel
theorem dX10_runCommands_36 : decode cX10_runCommands 36 = .ok (.invokevirtual 478, 3) := by decide +kernel
theorem dX10_runCommands_39 : decode cX10_runCommands 39 = .ok (.getstatic 451, 3) := by decide +kernel
theorem dX10_runCommands_42 : decode cX10_runCommands 42 = .ok (.if_acmp .eq 5, 3) := by decide +kernel
theorem dX10_runCommands_45 : decode cX10_runCommands 45 = .ok (.iload_n 1, 1) := by decide +kernel
theorem dX10_runCommands_46 : decode cX10_runCommands 46 = .ok (.ireturn, 1) := by decide +kernel
theorem dX10_runCommands_47 : decode cX10_runCommands 47 = .ok (.aload_n 0, 1) := by decide +kernel
theorem dX10_runCommands_48 : decode cX10_runCommands 48 = .ok (.aload_n 2, 1) := by decide +kernel
theorem dX10_runCommands_49 : decode cX10_runCommands 49 = .ok (.aload_n 3, 1) := by decide +kernel
theorem dX10_runCommands_50 : decode cX10_runCommands 50 = .ok (.invokevirtual 482, 3) := by decide +kernel
theorem dX10_runCommands_53 : decode cX10_runCommands 53 = .ok (.iinc 1 1, 3) := by decide +kernel
theorem dX10_runCommands_56 : decode cX10_runCommands 56 = .ok (.goto (-54), 3) := by decide +kernel
theorem dX10_runCommands_59 : decode cX10_runCommands 59 = .ok (.iconst (-1), 1) := by decide +kernel
theorem dX10_runCommands_60 : decode cX10_runCommands 60 = .ok (.ireturn, 1) := by decide +kernel
abbrev rmX10_runCommands : Room := { frames := 8, cells := 0, slots := 0, locals := 199 }
set_option maxHeartbeats 4000000 in
set_option maxRecDepth 100000 in
theorem metX10_runCommands {l : Launch} {s0 : State} {b B : Nat} {D : va_G} {T : Nat → ClassId} (F : FX l s0 b D T B) {X : Nat → Prop} (hX : ∀ o, o < 560 → ¬ X (B + o)) {N : Nat} {μ : Mem} {a0 : Nat} {r : Mem × Int32} (k0 : IsGa a0) (h : fX10_runCommands N μ a0 = some r) : gMet l yX10_runCommands cX10_runCommands 4 (some .int) rmX10_runCommands [.ref (B + a0)] (gWC s0 D T B μ) (KC s0 X) (some (.int r.2)) (gWC s0 D T B r.1) (gA B X) 0 0 := by
  refine gI_of RX10 (by decide +kernel) rfl (Nat.le_of_ble_eq_true rfl) ?_
  intro p e s m args below meth c ls Q hx hb hlocks hml hown hts hW hk hl hS hend
  have hC := FX_C F hk hx hb hown hts
  have hA := gA_all hX
  have hl : lv_has ls 4 [(0, .ref (B + a0))] := hl
  unfold fX10_runCommands at h
  refine lv_iconst (v := 0) hx hb dX10_runCommands_0 (by decide) ?_
  refine lv_istore_n (lv' := [(1, .int 0), (0, .ref (B + a0))]) hx hb dX10_runCommands_1 rfl hl (by decide) rfl (fun ls hl => ?_)
  refine fix2_ind (fun (x1 : Int32) (μ2 : Mem) => ∀ (H : Heap) (locs : List Loc) (ls : Array Slot), gWC s0 D T B μ2 H → va_S (gA B X) s.heap H locs → lv_has ls 4 [(0, .ref (B + a0)), (1, .int x1)] → W p l e rmX10_runCommands s m args below meth c H locs 0 0 Q (F0 m 2 ls [])) ?_ N _ _ h _ _ _ hW hS (lv_sub hl [1, 0] rfl)
  clear h hW hS hl
  intro self3 IH4 x1 μ2 h H locs ls hW hS hl
  refine lv_iload_n hx hb dX10_runCommands_2 rfl (lv_at hl 1 rfl) ?_
  refine lv_aload_n hx hb dX10_runCommands_3 rfl (lv_at hl 0 rfl) ?_
  refine gw_get (v := .ref (B + 546)) hC hW fl_X10_50 k0.1 (k0.2.2.1 (gfm s0) T B (μ2 a0)) rfl dX10_runCommands_4 ?_
  refine gw_get (v := .int (μ2 546 4)) hC hW fl_X10_391.1 k0.2.2.2.2.2.2.2.2.2.1 (k0.2.2.2.2.2.2.2.2.2.2.1 (gfm s0) T B (μ2 546)) rfl dX10_runCommands_7 ?_
  refine lv_icmp_ge (tgt := 59) hx hb dX10_runCommands_10 (by decide) (fun c5 => ?_) (fun c5 => ?_)
  · replace h := ite_t c5 h
    refine lv_iconst (v := (-1)) hx hb dX10_runCommands_59 (by decide) ?_
    cases h
    exact hend dX10_runCommands_60 hW hS (Nat.le_of_ble_eq_true rfl) (Nat.le_of_ble_eq_true rfl)
  · replace h := ite_f c5 h
    refine lv_aload_n hx hb dX10_runCommands_13 rfl (lv_at hl 0 rfl) ?_
    refine gw_get (v := .ref (B + 546)) hC hW fl_X10_50 k0.1 (k0.2.2.1 (gfm s0) T B (μ2 a0)) rfl dX10_runCommands_14 ?_
    refine gw_get (v := .ref (B + (546 + 2))) hC hW fl_X10_471 k0.2.2.2.2.2.2.2.2.2.1 (k0.2.2.2.2.2.2.2.2.2.2.1 (gfm s0) T B (μ2 546)) rfl dX10_runCommands_17 ?_
    refine lv_iload_n hx hb dX10_runCommands_20 rfl (lv_at hl 1 rfl) ?_
    obtain ⟨c6, e7, hi8, fo9, h⟩ := agf_o h
    refine gw_fald hC hW k0.2.2.2.2.2.2.2.2.2.2.2.2.1.1 (k0.2.2.2.2.2.2.2.2.2.2.2.2.1.2 (gfm s0) T B (μ2 (546 + 2))) (t0 := 6) rfl e7 fo9.1 hi8 dX10_runCommands_21 ?_
    refine lv_astore_n (lv' := [(2, .ref (gfm s0 c6)), (0, .ref (B + a0)), (1, .int x1)]) hx hb dX10_runCommands_22 rfl hl (by decide) rfl (fun ls hl => ?_)
    refine lv_aload_n hx hb dX10_runCommands_23 rfl (lv_at hl 1 rfl) ?_
    refine gw_get (v := .ref (B + 546)) hC hW fl_X10_50 k0.1 (k0.2.2.1 (gfm s0) T B (μ2 a0)) rfl dX10_runCommands_24 ?_
    refine gw_get (v := .ref (B + (546 + 3))) hC hW fl_X10_475 k0.2.2.2.2.2.2.2.2.2.1 (k0.2.2.2.2.2.2.2.2.2.2.1 (gfm s0) T B (μ2 546)) rfl dX10_runCommands_27 ?_
    refine lv_iload_n hx hb dX10_runCommands_30 rfl (lv_at hl 2 rfl) ?_
    obtain ⟨q10, e11, hq12, hi13, h⟩ := ar_o h
    refine gq_aald hC hW k0.2.2.2.2.2.2.2.2.2.2.2.2.2.1 (k0.2.2.2.2.2.2.2.2.2.2.2.2.2.2.1 (gfm s0) T B (μ2 (546 + 3))) (t0 := 3) rfl rfl e11 hi13 dX10_runCommands_31 ?_
    refine lv_astore_n (lv' := [(3, .ref (B + ((546 + 3) + 1 + 1 * q10))), (2, .ref (gfm s0 c6)), (0, .ref (B + a0)), (1, .int x1)]) hx hb dX10_runCommands_32 rfl hl (by decide) rfl (fun ls hl => ?_)
    refine lv_aload_n hx hb dX10_runCommands_33 rfl (lv_at hl 2 rfl) ?_
    refine lv_aload_n hx hb dX10_runCommands_34 rfl (lv_at hl 1 rfl) ?_
    refine lv_aload_n hx hb dX10_runCommands_35 rfl (lv_at hl 0 rfl) ?_
    obtain ⟨r14, hcall, h⟩ := bd_out h
    refine g0_callV (As := [.ref (gfm s0 c6), .ref (B + ((546 + 3) + 1 + 1 * q10))]) hC hml hS hW (KC_at hk hS F.2.2.2.2) KC_blind (metX10_commandFault F hX k0 fo9 (k0.2.2.2.2.2.2.2.2.2.2.2.2.2.2.2 q10 hq12) hcall) ml_X10_478 (gw_recv hC hW k0.1 (k0.2.2.1 (gfm s0) T B (μ2 a0)) rfl) ⟨rfl, rfl, (Nat.le_of_ble_eq_true rfl), (Nat.le_of_ble_eq_true rfl)⟩ rfl hl.1 rfl (Nat.le_of_ble_eq_true rfl) dX10_runCommands_36 ⟨(Nat.le_of_ble_eq_true rfl), (Nat.le_of_ble_eq_true rfl)⟩ (fun H locs hW hS => ?_)
    refine gw_gets hC (zF_0 F hk) hS fs_X10_451 dX10_runCommands_39 ?_
    refine gw_aeF (tgt := 47) F hx hb dX10_runCommands_42 (by decide) (fun c15 => ?_) (fun c15 => ?_)
    · replace h := ite_t c15 h
      refine lv_aload_n hx hb dX10_runCommands_47 rfl (lv_at hl 2 rfl) ?_
      refine lv_aload_n hx hb dX10_runCommands_48 rfl (lv_at hl 1 rfl) ?_
      refine lv_aload_n hx hb dX10_runCommands_49 rfl (lv_at hl 0 rfl) ?_
      obtain ⟨r16, hcall, h⟩ := bd_out h
      refine g0_callV (As := [.ref (gfm s0 c6), .ref (B + ((546 + 3) + 1 + 1 * q10))]) hC hml hS hW (KC_at hk hS F.2.2.2.2) KC_blind (metX10_runCommand F hX k0 fo9 (k0.2.2.2.2.2.2.2.2.2.2.2.2.2.2.2 q10 hq12) hcall) ml_X10_482 (gw_recv hC hW k0.1 (k0.2.2.1 (gfm s0) T B (r14.1 a0)) rfl) ⟨rfl, rfl, (Nat.le_of_ble_eq_true rfl), (Nat.le_of_ble_eq_true rfl)⟩ rfl hl.1 rfl (Nat.le_of_ble_eq_true rfl) dX10_runCommands_50 ⟨(Nat.le_of_ble_eq_true rfl), (Nat.le_of_ble_eq_true rfl)⟩ (fun H locs hW hS => ?_)
      obtain ⟨v17, e18, h⟩ := lt_out h
      refine lv_iinc (v := v17) (lv' := [(1, .int v17), (3, .ref (B + ((546 + 3) + 1 + 1 * q10))), (2, .ref (gfm s0 c6)), (0, .ref (B + a0))]) hx hb dX10_runCommands_53 hl (k := 3) rfl (by rw [e18]; rfl) (by decide) rfl (fun ls hl => ?_)
      refine lv_goto (tgt := 2) hx hb dX10_runCommands_56 (by decide) ?_
      exact IH4 _ _ h _ _ _ hW hS (lv_sub hl [3, 0] rfl)
    · replace h := ite_f c15 h
      refine lv_iload_n hx hb dX10_runCommands_45 rfl (lv_at hl 3 rfl) ?_
      cases h
      exact hend dX10_runCommands_46 hW hS (Nat.le_of_ble_eq_true rfl) (Nat.le_of_ble_eq_true rfl)

theorem dX10_execute_0 : decode cX10_execute 0 = .ok (.aload_n 0, 1) := by decide +kernel
theorem dX10_execute_1 : decode cX10_execute 1 = .ok (.getfield 50, 3) := by decide +kernel
theorem dX10_execute_4 : decode cX10_execute 4 = .ok (.invokevirtual 362, 3) := by decide +kernel
theorem dX10_execute_7 : decode cX10_execute 7 = .ok (.istore_n 1, 1) := by decide +kernel
theorem dX10_execute_8 : decode cX10_execute 8 = .ok (.aload_n 0, 1) := by decide +kernel
theorem dX10_execute_9 : decode cX10_execute 9 = .ok (.getfield 50, 3) := by decide +kernel
theorem dX10_execute_12 : decode cX10_execute 12 = .ok (.iconst 0, 1) := by decide +kernel
theorem dX10_execute_13 : decode cX10_execute 13 = .ok (.putfield 351, 3) := by decide +kernel
theorem dX10_execute_16 : decode cX10_execute 16 = .ok (.iload_n 1, 1) := by decide +kernel
theorem dX10_execute_17 : decode cX10_execute 17 = .ok (.iconst (-1), 1) := by decide +kernel
theorem dX10_execute_18 : decode cX10_execute 18 = .ok (.if_icmp .eq 19, 3) := by decide +kernel
theorem dX10_execute_21 : decode cX10_execute 21 = .ok (.aload_n 0, 1) := by decide +kernel
theorem dX10_execute_22 : decode cX10_execute 22 = .ok (.iload_n 1, 1) := by decide +kernel
theorem dX10_execute_23 : decode cX10_execute 23 = .ok (.putfield 61, 3) := by decide +kernel
theorem dX10_execute_26 : decode cX10_execute 26 = .ok (.new 365, 3) := by decide +kernel
theorem dX10_execute_29 : decode cX10_execute 29 = .ok (.dup, 1) := by decide +kernel
theorem dX10_execute_30 : decode cX10_execute 30 = .ok (.ldc_w 367, 3) := by decide +kernel
theorem dX10_execute_33 : decode cX10_execute 33 = .ok (.invokespecial 369, 3) := by decide +kernel
theorem dX10_execute_36 : decode cX10_execute 36 = .ok (.athrow, 1) := by decide +kernel
theorem dX10_execute_37 : decode cX10_execute 37 = .ok (.aload_n 0, 1) := by decide +kernel
theorem dX10_execute_38 : decode cX10_execute 38 = .ok (.getfield 22, 3) := by decide +kernel
theorem dX10_execute_41 : decode cX10_execute 41 = .ok (.aload_n 0, 1) := by decide +kernel
theorem dX10_execute_42 : decode cX10_execute 42 = .ok (.getfield 12, 3) := by decide +kernel
theorem dX10_execute_45 : decode cX10_execute 45 = .ok (.invokevirtual 370, 3) := by decide +kernel
theorem dX10_execute_48 : decode cX10_execute 48 = .ok (.aload_n 0, 1) := by decide +kernel
theorem dX10_execute_49 : decode cX10_execute 49 = .ok (.invokevirtual 373, 3) := by decide +kernel
theorem dX10_execute_52 : decode cX10_execute 52 = .ok (.istore_n 2, 1) := by decide +kernel
theorem dX10_execute_53 : decode cX10_execute 53 = .ok (.iload_n 2, 1) := by decide +kernel
theorem dX10_execute_54 : decode cX10_execute 54 = .ok (.iconst (-1), 1) := by decide +kernel
theorem dX10_execute_55 : decode cX10_execute 55 = .ok (.if_icmp .eq 33, 3) := by decide +kernel
theorem dX10_execute_58 : decode cX10_execute 58 = .ok (.aload_n 0, 1) := by decide +kernel
theorem dX10_execute_59 : decode cX10_execute 59 = .ok (.iload_n 2, 1) := by decide +kernel
theorem dX10_execute_60 : decode cX10_execute 60 = .ok (.putfield 65, 3) := by decide +kernel
theorem dX10_execute_63 : decode cX10_execute 63 = .ok (.aload_n 0, 1) := by decide +kernel
theorem dX10_execute_64 : decode cX10_execute 64 = .ok (.getfield 12, 3) := by decide +kernel
theorem dX10_execute_67 : decode cX10_execute 67 = .ok (.aload_n 0, 1) := by decide +kernel
theorem dX10_execute_68 : decode cX10_execute 68 = .ok (.getfield 22, 3) := by decide +kernel
theorem dX10_execute_71 : decode cX10_execute 71 = .ok (.invokevirtual 376, 3) := by decide +kernel
theorem dX10_execute_74 : decode cX10_execute 74 = .ok (.invokevirtual 380, 3) := by decide +kernel
theorem dX10_execute_77 : decode cX10_execute 77 = .ok (.new 383, 3) := by decide +kernel
theorem dX10_execute_80 : decode cX10_execute 80 = .ok (.dup, 1) := by decide +kernel
theorem dX10_execute_81 : decode cX10_execute 81 = .ok (.ldc_w 385, 3) := by decide +kernel
theorem dX10_execute_84 : decode cX10_execute 84 = .ok (.invokespecial 387, 3) := by decide +kernel
theorem dX10_execute_87 : decode cX10_execute 87 = .ok (.athrow, 1) := by decide +kernel
theorem dX10_execute_88 : decode cX10_execute 88 = .ok (.aload_n 0, 1) := by decide +kernel
theorem dX10_execute_89 : decode cX10_execute 89 = .ok (.getfield 22, 3) := by decide +kernel
theorem dX10_execute_92 : decode cX10_execute 92 = .ok (.invokevirtual 388, 3) := by decide +kernel
theorem dX10_execute_95 : decode cX10_execute 95 = .ok (.aload_n 0, 1) := by decide +kernel
theorem dX10_execute_96 : decode cX10_execute 96 = .ok (.getfield 50, 3) := by decide +kernel
theorem dX10_execute_99 : decode cX10_execute 99 = .ok (.getfield 391, 3) := by decide +kernel
theorem dX10_execute_102 : decode cX10_execute 102 = .ok (.ireturn, 1) := by decide +kernel
abbrev rmX10_execute : Room := { frames := 9, cells := 1, slots := 6, locals := 274 }
set_option maxHeartbeats 4000000 in
set_option maxRecDepth 100000 in
theorem metX10_execute {l : Launch} {s0 : State} {b B : Nat} {D : va_G} {T : Nat → ClassId} (F : FX l s0 b D T B) {X : Nat → Prop} (hX : ∀ o, o < 560 → ¬ X (B + o)) {N : Nat} {μ : Mem} {a0 : Nat} {r : Mem × (Nat ⊕ Int32)} (k0 : IsGa a0) (h : fX10_execute N μ a0 = some r) : gXMet l yX10_execute cX10_execute 3 (some .int) rmX10_execute [.ref (B + a0)] (gWC s0 D T B μ) (KC s0 X) (oI r.2) (gWC s0 D T B r.1) (gA B X) 1 6 := by
  refine gXI_of RX10 (by decide +kernel) rfl (Nat.le_of_ble_eq_true rfl) ?_
  intro p e s m args below meth c ls Q hx hb hlocks hml hown hts hW hk hl hS hE
  obtain ⟨hend, hthr, htb, hQ⟩ := hE
  have hC := FX_C F hk hx hb hown hts
  have hA := gA_all hX
  have hl : lv_has ls 3 [(0, .ref (B + a0))] := hl
  unfold fX10_execute at h
  refine lv_aload_n hx hb dX10_execute_0 rfl (lv_at hl 0 rfl) ?_
  refine gw_get (v := .ref (B + 546)) hC hW fl_X10_50 k0.1 (k0.2.2.1 (gfm s0) T B (μ a0)) rfl dX10_execute_1 ?_
  obtain ⟨r1, hcall, h⟩ := bd_out h
  refine g0_callV (As := []) hC hml hS hW (KC_at hk hS F.2.2.2.2) KC_blind (metX7_readAll F hX k0.2.2.2.2.2.2.2.2.2 hcall) ml_X10_362 (gw_recv hC hW k0.2.2.2.2.2.2.2.2.2.1 (k0.2.2.2.2.2.2.2.2.2.2.1 (gfm s0) T B (μ 546)) rfl) ⟨rfl, rfl, (Nat.le_of_ble_eq_true rfl), (Nat.le_of_ble_eq_true rfl)⟩ rfl hl.1 rfl (Nat.le_of_ble_eq_true rfl) dX10_execute_4 ⟨(Nat.le_of_ble_eq_true rfl), (Nat.le_of_ble_eq_true rfl)⟩ (fun H locs hW hS => ?_)
  refine lv_istore_n (lv' := [(1, .int r1.2), (0, .ref (B + a0))]) hx hb dX10_execute_7 rfl hl (by decide) rfl (fun ls hl => ?_)
  refine lv_aload_n hx hb dX10_execute_8 rfl (lv_at hl 1 rfl) ?_
  refine gw_get (v := .ref (B + 546)) hC hW fl_X10_50 k0.1 (k0.2.2.1 (gfm s0) T B (r1.1 a0)) rfl dX10_execute_9 ?_
  refine lv_iconst (v := 0) hx hb dX10_execute_12 (by decide) ?_
  obtain ⟨μ2, e3, h⟩ := lt_out h
  refine gq_put hC hS hW hA fl_X10_351 k0.2.2.2.2.2.2.2.2.2.1 (k0.2.2.2.2.2.2.2.2.2.2.1 (gfm s0) T B) (Nat.le_of_ble_eq_true rfl) rfl rfl rfl e3 dX10_execute_13 (fun H locs hW hS => ?_)
  refine lv_iload_n hx hb dX10_execute_16 rfl (lv_at hl 0 rfl) ?_
  refine lv_iconst (v := (-1)) hx hb dX10_execute_17 (by decide) ?_
  refine lv_icmp_eq (tgt := 37) hx hb dX10_execute_18 (by decide) (fun c4 => ?_) (fun c4 => ?_)
  · replace h := ite_t c4 h
    refine lv_aload_n hx hb dX10_execute_37 rfl (lv_at hl 1 rfl) ?_
    refine gw_get (v := .ref (B + 95)) hC hW fl_X10_22 k0.1 (k0.2.2.1 (gfm s0) T B (μ2 a0)) rfl dX10_execute_38 ?_
    refine lv_aload_n hx hb dX10_execute_41 rfl (lv_at hl 1 rfl) ?_
    refine gw_get (v := .ref (B + 1)) hC hW fl_X10_12 k0.1 (k0.2.2.1 (gfm s0) T B (μ2 a0)) rfl dX10_execute_42 ?_
    obtain ⟨r5, hcall, h⟩ := bd_out h
    refine g0_callV (As := [.ref (B + 1)]) hC hml hS hW (KC_at hk hS F.2.2.2.2) KC_blind (metX4_note F hX k0.2.2.2.2.2.1 k0.2.2.2.1 hcall) ml_X10_370 (gw_recv hC hW k0.2.2.2.2.2.1.1 (k0.2.2.2.2.2.1.2.1 (gfm s0) T B (μ2 95)) rfl) ⟨rfl, rfl, (Nat.le_of_ble_eq_true rfl), (Nat.le_of_ble_eq_true rfl)⟩ rfl hl.1 rfl (Nat.le_of_ble_eq_true rfl) dX10_execute_45 ⟨(Nat.le_of_ble_eq_true rfl), (Nat.le_of_ble_eq_true rfl)⟩ (fun H locs hW hS => ?_)
    refine lv_aload_n hx hb dX10_execute_48 rfl (lv_at hl 1 rfl) ?_
    obtain ⟨r6, hcall, h⟩ := bd_out h
    refine g0_callV (As := []) hC hml hS hW (KC_at hk hS F.2.2.2.2) KC_blind (metX10_runCommands F hX k0 hcall) ml_X10_373 (gw_recv hC hW k0.1 (k0.2.2.1 (gfm s0) T B (r5 a0)) rfl) ⟨rfl, rfl, (Nat.le_of_ble_eq_true rfl), (Nat.le_of_ble_eq_true rfl)⟩ rfl hl.1 rfl (Nat.le_of_ble_eq_true rfl) dX10_execute_49 ⟨(Nat.le_of_ble_eq_true rfl), (Nat.le_of_ble_eq_true rfl)⟩ (fun H locs hW hS => ?_)
    refine lv_istore_n (lv' := [(2, .int r6.2), (1, .int r1.2), (0, .ref (B + a0))]) hx hb dX10_execute_52 rfl hl (by decide) rfl (fun ls hl => ?_)
    refine lv_iload_n hx hb dX10_execute_53 rfl (lv_at hl 0 rfl) ?_
    refine lv_iconst (v := (-1)) hx hb dX10_execute_54 (by decide) ?_
    refine lv_icmp_eq (tgt := 88) hx hb dX10_execute_55 (by decide) (fun c7 => ?_) (fun c7 => ?_)
    · replace h := ite_t c7 h
      refine lv_aload_n hx hb dX10_execute_88 rfl (lv_at hl 2 rfl) ?_
      refine gw_get (v := .ref (B + 95)) hC hW fl_X10_22 k0.1 (k0.2.2.1 (gfm s0) T B (r6.1 a0)) rfl dX10_execute_89 ?_
      obtain ⟨r8, hcall, h⟩ := bd_out h
      refine g0_callV (As := []) hC hml hS hW (KC_at hk hS F.2.2.2.2) KC_blind (metX4_keep F hX k0.2.2.2.2.2.1 hcall) ml_X10_388 (gw_recv hC hW k0.2.2.2.2.2.1.1 (k0.2.2.2.2.2.1.2.1 (gfm s0) T B (r6.1 95)) rfl) ⟨rfl, rfl, (Nat.le_of_ble_eq_true rfl), (Nat.le_of_ble_eq_true rfl)⟩ rfl hl.1 rfl (Nat.le_of_ble_eq_true rfl) dX10_execute_92 ⟨(Nat.le_of_ble_eq_true rfl), (Nat.le_of_ble_eq_true rfl)⟩ (fun H locs hW hS => ?_)
      refine lv_aload_n hx hb dX10_execute_95 rfl (lv_at hl 2 rfl) ?_
      refine gw_get (v := .ref (B + 546)) hC hW fl_X10_50 k0.1 (k0.2.2.1 (gfm s0) T B (r8 a0)) rfl dX10_execute_96 ?_
      refine gw_get (v := .int (r8 546 4)) hC hW fl_X10_391.1 k0.2.2.2.2.2.2.2.2.2.1 (k0.2.2.2.2.2.2.2.2.2.2.1 (gfm s0) T B (r8 546)) rfl dX10_execute_99 ?_
      cases h
      exact hend _ rfl dX10_execute_102 hW hS (Nat.le_of_ble_eq_true rfl) (Nat.le_of_ble_eq_true rfl)
    · replace h := ite_f c7 h
      refine lv_aload_n hx hb dX10_execute_58 rfl (lv_at hl 2 rfl) ?_
      refine lv_iload_n hx hb dX10_execute_59 rfl (lv_at hl 0 rfl) ?_
      obtain ⟨μ9, e10, h⟩ := lt_out h
      refine gq_put hC hS hW hA fl_X10_65 k0.1 (k0.2.2.1 (gfm s0) T B) (Nat.le_of_ble_eq_true rfl) rfl rfl rfl e10 dX10_execute_60 (fun H locs hW hS => ?_)
      refine lv_aload_n hx hb dX10_execute_63 rfl (lv_at hl 2 rfl) ?_
      refine gw_get (v := .ref (B + 1)) hC hW fl_X10_12 k0.1 (k0.2.2.1 (gfm s0) T B (μ9 a0)) rfl dX10_execute_64 ?_
      refine lv_aload_n hx hb dX10_execute_67 rfl (lv_at hl 2 rfl) ?_
      refine gw_get (v := .ref (B + 95)) hC hW fl_X10_22 k0.1 (k0.2.2.1 (gfm s0) T B (μ9 a0)) rfl dX10_execute_68 ?_
      obtain ⟨r11, hcall, h⟩ := bd_out h
      refine g0_callV (As := []) hC hml hS hW (KC_at hk hS F.2.2.2.2) KC_blind (metX4_noted F hX k0.2.2.2.2.2.1 hcall) ml_X10_376 (gw_recv hC hW k0.2.2.2.2.2.1.1 (k0.2.2.2.2.2.1.2.1 (gfm s0) T B (μ9 95)) rfl) ⟨rfl, rfl, (Nat.le_of_ble_eq_true rfl), (Nat.le_of_ble_eq_true rfl)⟩ rfl hl.1 rfl (Nat.le_of_ble_eq_true rfl) dX10_execute_71 ⟨(Nat.le_of_ble_eq_true rfl), (Nat.le_of_ble_eq_true rfl)⟩ (fun H locs hW hS => ?_)
      have kr12 := kdX4_noted k0.2.2.2.2.2.1 hcall
      obtain ⟨r13, hcall, h⟩ := bd_out h
      refine g0_callV (As := [.ref (B + r11)]) hC hml hS hW (KC_at hk hS F.2.2.2.2) KC_blind (metX8_copyFrom F hX k0.2.2.2.1 kr12 hcall) ml_X10_380 (gw_recv hC hW k0.2.2.2.1.1 (k0.2.2.2.1.2.1 (gfm s0) T B (μ9 1)) rfl) ⟨rfl, rfl, (Nat.le_of_ble_eq_true rfl), (Nat.le_of_ble_eq_true rfl)⟩ rfl hl.1 rfl (Nat.le_of_ble_eq_true rfl) dX10_execute_74 ⟨(Nat.le_of_ble_eq_true rfl), (Nat.le_of_ble_eq_true rfl)⟩ (fun H locs hW hS => ?_)
      cases h
      exact gx_throwW (k := 4) F hk hC hml hlocks htb hQ rfl hW hS dX10_execute_77 dX10_execute_80 dX10_execute_81 dX10_execute_84 dX10_execute_87 tw_X10_383_385_387 hl.1 (Nat.le_of_ble_eq_true rfl) (Nat.le_of_ble_eq_true rfl) ⟨Nat.le_of_ble_eq_true rfl, Nat.le_of_ble_eq_true rfl⟩ (Nat.le_of_ble_eq_true rfl) (Nat.le_of_ble_eq_true rfl)
  · replace h := ite_f c4 h
    refine lv_aload_n hx hb dX10_execute_21 rfl (lv_at hl 1 rfl) ?_
    refine lv_iload_n hx hb dX10_execute_22 rfl (lv_at hl 0 rfl) ?_
    obtain ⟨μ14, e15, h⟩ := lt_out h
    refine gq_put hC hS hW hA fl_X10_61 k0.1 (k0.2.2.1 (gfm s0) T B) (Nat.le_of_ble_eq_true rfl) rfl rfl rfl e15 dX10_execute_23 (fun H locs hW hS => ?_)
    cases h
    exact gx_throwW (k := 1) F hk hC hml hlocks htb hQ rfl hW hS dX10_execute_26 dX10_execute_29 dX10_execute_30 dX10_execute_33 dX10_execute_36 tw_X10_365_367_369 hl.1 (Nat.le_of_ble_eq_true rfl) (Nat.le_of_ble_eq_true rfl) ⟨Nat.le_of_ble_eq_true rfl, Nat.le_of_ble_eq_true rfl⟩ (Nat.le_of_ble_eq_true rfl) (Nat.le_of_ble_eq_true rfl)
