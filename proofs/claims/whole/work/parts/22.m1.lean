/-! Printed by program out of the decode rows: what each method of the reference does, and its contract. -/
theorem dX11_lent_0 : decode cX11_lent 0 = .ok (.iload_n 2, 1) := by decide +kernel
theorem dX11_lent_1 : decode cX11_lent 1 = .ok (.iconst 0, 1) := by decide +kernel
theorem dX11_lent_2 : decode cX11_lent 2 = .ok (.bipush 99, 2) := by decide +kernel
theorem dX11_lent_4 : decode cX11_lent 4 = .ok (.invokestatic 73, 3) := by decide +kernel
theorem dX11_lent_7 : decode cX11_lent 7 = .ok (.ifCond .eq 19, 3) := by decide +kernel
theorem dX11_lent_10 : decode cX11_lent 10 = .ok (.aload_n 0, 1) := by decide +kernel
theorem dX11_lent_11 : decode cX11_lent 11 = .ok (.iload_n 1, 1) := by decide +kernel
theorem dX11_lent_12 : decode cX11_lent 12 = .ok (.bipush 47, 2) := by decide +kernel
theorem dX11_lent_14 : decode cX11_lent 14 = .ok (.iload_n 2, 1) := by decide +kernel
theorem dX11_lent_15 : decode cX11_lent 15 = .ok (.iadd, 1) := by decide +kernel
theorem dX11_lent_16 : decode cX11_lent 16 = .ok (.invokevirtual 144, 3) := by decide +kernel
theorem dX11_lent_19 : decode cX11_lent 19 = .ok (.ifCond .le 7, 3) := by decide +kernel
theorem dX11_lent_22 : decode cX11_lent 22 = .ok (.iconst 1, 1) := by decide +kernel
theorem dX11_lent_23 : decode cX11_lent 23 = .ok (.goto 4, 3) := by decide +kernel
theorem dX11_lent_26 : decode cX11_lent 26 = .ok (.iconst 0, 1) := by decide +kernel
theorem dX11_lent_27 : decode cX11_lent 27 = .ok (.ireturn, 1) := by decide +kernel
abbrev rmX11_lent : Room := { frames := 3, cells := 0, slots := 0, locals := 82 }
set_option maxHeartbeats 4000000 in
set_option maxRecDepth 100000 in
theorem metX11_lent {l : Launch} {s0 : State} {b B : Nat} {D : va_G} {T : Nat → ClassId} (F : FX l s0 b D T B) {X : Nat → Prop} (hX : ∀ o, o < 12 → ¬ X (B + o)) {N : Nat} {μ : Mem} {a0 : Nat} {a1 : Int32} {a2 : Int32} {r : Bool} (k0 : IsMo a0) (h : fX11_lent N μ a0 a1 a2 = some r) : gMet l yX11_lent cX11_lent 3 (some .boolean) rmX11_lent [.ref (B + a0), .int a1, .int a2] (gWM D T B μ) (KC s0 X) (some (.int (b2i r))) (gWM D T B μ) (gA B X) 0 0 := by
  refine gZ_of RX11 (by decide +kernel) rfl (Nat.le_of_ble_eq_true rfl) ?_
  intro p e s m args below meth c ls Q hx hb hlocks hml hown hts hW hk hl hS hend
  have hC := FX_C F hk hx hb hown hts
  have hA := gA_allM hX
  have hl : lv_has ls 3 [(0, .ref (B + a0)), (1, .int a1), (2, .int a2)] := hl
  unfold fX11_lent at h
  refine lv_iload_n hx hb dX11_lent_0 rfl (lv_at hl 2 rfl) ?_
  refine lv_iconst (v := 0) hx hb dX11_lent_1 (by decide) ?_
  refine lv_bipush (v := 99) hx hb dX11_lent_2 (by decide) ?_
  obtain ⟨r1, hcall, h⟩ := bd_out h
  refine g0_callS (As := [.int a2, .int 0, .int 99]) hC hml hS hW (KC_at hk hS F.2.2.2.2) KC_blind (metX11_in F hX  hcall) ml_X11_73 ⟨rfl, rfl, Nat.le_of_ble_eq_true rfl, Nat.le_of_ble_eq_true rfl⟩ rfl hl.1 rfl (Nat.le_of_ble_eq_true rfl) dX11_lent_4 ⟨Nat.le_of_ble_eq_true rfl, Nat.le_of_ble_eq_true rfl⟩ (fun H locs hW hS => ?_)
  obtain ⟨j3, hj5, h⟩ := jn1_o h
  have J4 : ∀ (y2 : Bool), j3 y2 = some r → ∀ (H : Heap) (locs : List Loc) (ls : Array Slot), gWM D T B μ H → va_S (gA B X) s.heap H locs → lv_has ls 3 [] → W p l e rmX11_lent s m args below meth c H locs 0 0 Q (F0 m 27 ls [.int (b2i y2)]) := by
    clear h hW hS hl
    intro y2 h H locs ls hW hS hl
    replace h := (hj5 y2).symm.trans h
    cases h
    exact hend dX11_lent_27 hW hS (Nat.le_of_ble_eq_true rfl) (Nat.le_of_ble_eq_true rfl)
  obtain ⟨j7, hj9, h⟩ := jn1_o h
  have J8 : ∀ (u6 : Unit), j7 u6 = some r → ∀ (H : Heap) (locs : List Loc) (ls : Array Slot), gWM D T B μ H → va_S (gA B X) s.heap H locs → lv_has ls 3 [] → W p l e rmX11_lent s m args below meth c H locs 0 0 Q (F0 m 26 ls []) := by
    clear h hW hS hl
    intro u6 h H locs ls hW hS hl
    replace h := (hj9 u6).symm.trans h
    refine lv_iconst (v := 0) hx hb dX11_lent_26 (by decide) ?_
    exact J4 _ h _ _ _ hW hS (lv_sub hl [] rfl)
  refine gw_if_eqZ (tgt := 26) hx hb dX11_lent_7 (by decide) (fun c10 => ?_) (fun c10 => ?_)
  · replace h := cond_f c10 h
    exact J8 _ h _ _ _ hW hS (lv_sub hl [] rfl)
  · replace h := cond_t c10 h
    refine lv_aload_n hx hb dX11_lent_10 rfl (lv_at hl 0 rfl) ?_
    refine lv_iload_n hx hb dX11_lent_11 rfl (lv_at hl 1 rfl) ?_
    refine lv_bipush (v := 47) hx hb dX11_lent_12 (by decide) ?_
    refine lv_iload_n hx hb dX11_lent_14 rfl (lv_at hl 2 rfl) ?_
    refine lv_iadd hx hb dX11_lent_15 ?_
    obtain ⟨r11, hcall, h⟩ := bd_out h
    refine g0_callV (As := [.int a1, .int (47 + a2)]) hC hml hS hW (KC_at hk hS F.2.2.2.2) KC_blind (metX11_of F hX k0 hcall) ml_X11_144 (gw_recv hC hW k0.1 (k0.2.1 T B (μ a0)) rfl) ⟨rfl, rfl, Nat.le_of_ble_eq_true rfl, Nat.le_of_ble_eq_true rfl⟩ rfl hl.1 rfl (Nat.le_of_ble_eq_true rfl) dX11_lent_16 ⟨Nat.le_of_ble_eq_true rfl, Nat.le_of_ble_eq_true rfl⟩ (fun H locs hW hS => ?_)
    refine lv_if_le (tgt := 26) hx hb dX11_lent_19 (by decide) (fun c12 => ?_) (fun c12 => ?_)
    · replace h := ite_t c12 h
      exact J8 _ h _ _ _ hW hS (lv_sub hl [] rfl)
    · replace h := ite_f c12 h
      refine lv_iconst (v := 1) hx hb dX11_lent_22 (by decide) ?_
      refine lv_goto (tgt := 27) hx hb dX11_lent_23 (by decide) ?_
      exact J4 _ h _ _ _ hW hS (lv_sub hl [] rfl)

theorem dX11_doSend_0 : decode cX11_doSend 0 = .ok (.aload_n 0, 1) := by decide +kernel
theorem dX11_doSend_1 : decode cX11_doSend 1 = .ok (.iload_n 1, 1) := by decide +kernel
theorem dX11_doSend_2 : decode cX11_doSend 2 = .ok (.invokevirtual 141, 3) := by decide +kernel
theorem dX11_doSend_5 : decode cX11_doSend 5 = .ok (.ifCond .eq 11, 3) := by decide +kernel
theorem dX11_doSend_8 : decode cX11_doSend 8 = .ok (.aload_n 0, 1) := by decide +kernel
theorem dX11_doSend_9 : decode cX11_doSend 9 = .ok (.iload_n 2, 1) := by decide +kernel
theorem dX11_doSend_10 : decode cX11_doSend 10 = .ok (.invokevirtual 92, 3) := by decide +kernel
theorem dX11_doSend_13 : decode cX11_doSend 13 = .ok (.ifCond .ne 9, 3) := by decide +kernel
theorem dX11_doSend_16 : decode cX11_doSend 16 = .ok (.aload_n 0, 1) := by decide +kernel
theorem dX11_doSend_17 : decode cX11_doSend 17 = .ok (.iconst 1, 1) := by decide +kernel
theorem dX11_doSend_18 : decode cX11_doSend 18 = .ok (.invokevirtual 69, 3) := by decide +kernel
theorem dX11_doSend_21 : decode cX11_doSend 21 = .ok (.ireturn, 1) := by decide +kernel
theorem dX11_doSend_22 : decode cX11_doSend 22 = .ok (.aload_n 0, 1) := by decide +kernel
theorem dX11_doSend_23 : decode cX11_doSend 23 = .ok (.iload_n 1, 1) := by decide +kernel
theorem dX11_doSend_24 : decode cX11_doSend 24 = .ok (.iconst 0, 1) := by decide +kernel
theorem dX11_doSend_25 : decode cX11_doSend 25 = .ok (.invokevirtual 144, 3) := by decide +kernel
theorem dX11_doSend_28 : decode cX11_doSend 28 = .ok (.istore_n 3, 1) := by decide +kernel
theorem dX11_doSend_29 : decode cX11_doSend 29 = .ok (.aload_n 0, 1) := by decide +kernel
theorem dX11_doSend_30 : decode cX11_doSend 30 = .ok (.iload_n 1, 1) := by decide +kernel
theorem dX11_doSend_31 : decode cX11_doSend 31 = .ok (.aload_n 0, 1) := by decide +kernel
theorem dX11_doSend_32 : decode cX11_doSend 32 = .ok (.getfield 9, 3) := by decide +kernel
theorem dX11_doSend_35 : decode cX11_doSend 35 = .ok (.iconst 2, 1) := by decide +kernel
theorem dX11_doSend_36 : decode cX11_doSend 36 = .ok (.iaload, 1) := by decide +kernel
theorem dX11_doSend_37 : decode cX11_doSend 37 = .ok (.invokevirtual 191, 3) := by decide +kernel
theorem dX11_doSend_40 : decode cX11_doSend 40 = .ok (.ifCond .eq 25, 3) := by decide +kernel
theorem dX11_doSend_43 : decode cX11_doSend 43 = .ok (.aload_n 0, 1) := by decide +kernel
theorem dX11_doSend_44 : decode cX11_doSend 44 = .ok (.iconst 1, 1) := by decide +kernel
theorem dX11_doSend_45 : decode cX11_doSend 45 = .ok (.aload_n 0, 1) := by decide +kernel
theorem dX11_doSend_46 : decode cX11_doSend 46 = .ok (.iload_n 1, 1) := by decide +kernel
theorem dX11_doSend_47 : decode cX11_doSend 47 = .ok (.bipush 47, 2) := by decide +kernel
theorem dX11_doSend_49 : decode cX11_doSend 49 = .ok (.aload_n 0, 1) := by decide +kernel
theorem dX11_doSend_50 : decode cX11_doSend 50 = .ok (.getfield 9, 3) := by decide +kernel
theorem dX11_doSend_53 : decode cX11_doSend 53 = .ok (.iconst 2, 1) := by decide +kernel
theorem dX11_doSend_54 : decode cX11_doSend 54 = .ok (.iaload, 1) := by decide +kernel
theorem dX11_doSend_55 : decode cX11_doSend 55 = .ok (.iadd, 1) := by decide +kernel
theorem dX11_doSend_56 : decode cX11_doSend 56 = .ok (.invokevirtual 144, 3) := by decide +kernel
theorem dX11_doSend_59 : decode cX11_doSend 59 = .ok (.iconst 1, 1) := by decide +kernel
theorem dX11_doSend_60 : decode cX11_doSend 60 = .ok (.isub, 1) := by decide +kernel
theorem dX11_doSend_61 : decode cX11_doSend 61 = .ok (.invokevirtual 194, 3) := by decide +kernel
theorem dX11_doSend_64 : decode cX11_doSend 64 = .ok (.ireturn, 1) := by decide +kernel
theorem dX11_doSend_65 : decode cX11_doSend 65 = .ok (.aload_n 0, 1) := by decide +kernel
theorem dX11_doSend_66 : decode cX11_doSend 66 = .ok (.iload_n 2, 1) := by decide +kernel
theorem dX11_doSend_67 : decode cX11_doSend 67 = .ok (.invokevirtual 121, 3) := by decide +kernel
theorem dX11_doSend_70 : decode cX11_doSend 70 = .ok (.aload_n 0, 1) := by decide +kernel
theorem dX11_doSend_71 : decode cX11_doSend 71 = .ok (.getfield 22, 3) := by decide +kernel
theorem dX11_doSend_74 : decode cX11_doSend 74 = .ok (.iload_n 3, 1) := by decide +kernel
theorem dX11_doSend_75 : decode cX11_doSend 75 = .ok (.iaload, 1) := by decide +kernel
theorem dX11_doSend_76 : decode cX11_doSend 76 = .ok (.ldc 120, 2) := by decide +kernel
theorem dX11_doSend_78 : decode cX11_doSend 78 = .ok (.if_icmp .ne 10, 3) := by decide +kernel
theorem dX11_doSend_81 : decode cX11_doSend 81 = .ok (.aload_n 0, 1) := by decide +kernel
theorem dX11_doSend_82 : decode cX11_doSend 82 = .ok (.iconst 2, 1) := by decide +kernel
theorem dX11_doSend_83 : decode cX11_doSend 83 = .ok (.iload_n 3, 1) := by decide +kernel
theorem dX11_doSend_84 : decode cX11_doSend 84 = .ok (.invokevirtual 194, 3) := by decide +kernel
theorem dX11_doSend_87 : decode cX11_doSend 87 = .ok (.ireturn, 1) := by decide +kernel
theorem dX11_doSend_88 : decode cX11_doSend 88 = .ok (.iconst 0, 1) := by decide +kernel
theorem dX11_doSend_89 : decode cX11_doSend 89 = .ok (.istore 4, 2) := by decide +kernel
theorem dX11_doSend_91 : decode cX11_doSend 91 = .ok (.iload_n 3, 1) := by decide +kernel
theorem dX11_doSend_92 : decode cX11_doSend 92 = .ok (.iload_n 2, 1) := by decide +kernel
theorem dX11_doSend_93 : decode cX11_doSend 93 = .ok (.if_icmp .eq 42, 3) := by decide +kernel
theorem dX11_doSend_96 : decode cX11_doSend 96 = .ok (.aload_n 0, 1) := by decide +kernel
theorem dX11_doSend_97 : decode cX11_doSend 97 = .ok (.iload_n 3, 1) := by decide +kernel
theorem dX11_doSend_98 : decode cX11_doSend 98 = .ok (.invokevirtual 131, 3) := by decide +kernel
theorem dX11_doSend_101 : decode cX11_doSend 101 = .ok (.istore 5, 2) := by decide +kernel
theorem dX11_doSend_103 : decode cX11_doSend 103 = .ok (.iload 4, 2) := by decide +kernel
theorem dX11_doSend_105 : decode cX11_doSend 105 = .ok (.aload_n 0, 1) := by decide +kernel
theorem dX11_doSend_106 : decode cX11_doSend 106 = .ok (.iload_n 1, 1) := by decide +kernel
theorem dX11_doSend_107 : decode cX11_doSend 107 = .ok (.aload_n 0, 1) := by decide +kernel
theorem dX11_doSend_108 : decode cX11_doSend 108 = .ok (.iload_n 3, 1) := by decide +kernel
theorem dX11_doSend_109 : decode cX11_doSend 109 = .ok (.iload 5, 2) := by decide +kernel
theorem dX11_doSend_111 : decode cX11_doSend 111 = .ok (.invokevirtual 117, 3) := by decide +kernel
theorem dX11_doSend_114 : decode cX11_doSend 114 = .ok (.aload_n 0, 1) := by decide +kernel
theorem dX11_doSend_115 : decode cX11_doSend 115 = .ok (.iload_n 1, 1) := by decide +kernel
theorem dX11_doSend_116 : decode cX11_doSend 116 = .ok (.iconst 1, 1) := by decide +kernel
theorem dX11_doSend_117 : decode cX11_doSend 117 = .ok (.invokevirtual 144, 3) := by decide +kernel
theorem dX11_doSend_120 : decode cX11_doSend 120 = .ok (.invokestatic 197, 3) := by decide +kernel
theorem dX11_doSend_123 : decode cX11_doSend 123 = .ok (.invokevirtual 200, 3) := by decide +kernel
theorem dX11_doSend_126 : decode cX11_doSend 126 = .ok (.iadd, 1) := by decide +kernel
theorem dX11_doSend_127 : decode cX11_doSend 127 = .ok (.istore 4, 2) := by decide +kernel
theorem dX11_doSend_129 : decode cX11_doSend 129 = .ok (.iload 5, 2) := by decide +kernel
theorem dX11_doSend_131 : decode cX11_doSend 131 = .ok (.istore_n 3, 1) := by decide +kernel
theorem dX11_doSend_132 : decode cX11_doSend 132 = .ok (.goto (-41), 3) := by decide +kernel
theorem dX11_doSend_135 : decode cX11_doSend 135 = .ok (.aload_n 0, 1) := by decide +kernel
theorem dX11_doSend_136 : decode cX11_doSend 136 = .ok (.iload_n 1, 1) := by decide +kernel
theorem dX11_doSend_137 : decode cX11_doSend 137 = .ok (.iconst 0, 1) := by decide +kernel
theorem dX11_doSend_138 : decode cX11_doSend 138 = .ok (.iload_n 2, 1) := by decide +kernel
theorem dX11_doSend_139 : decode cX11_doSend 139 = .ok (.invokevirtual 134, 3) := by decide +kernel
theorem dX11_doSend_142 : decode cX11_doSend 142 = .ok (.iload 4, 2) := by decide +kernel
theorem dX11_doSend_144 : decode cX11_doSend 144 = .ok (.ireturn, 1) := by decide +kernel
abbrev rmX11_doSend : Room := { frames := 5, cells := 0, slots := 0, locals := 130 }
set_option maxHeartbeats 4000000 in
set_option maxRecDepth 100000 in
theorem metX11_doSend {l : Launch} {s0 : State} {b B : Nat} {D : va_G} {T : Nat → ClassId} (F : FX l s0 b D T B) {X : Nat → Prop} (hX : ∀ o, o < 12 → ¬ X (B + o)) {N : Nat} {μ : Mem} {a0 : Nat} {a1 : Int32} {a2 : Int32} {r : Mem × Int32} (k0 : IsMo a0) (h : fX11_doSend N μ a0 a1 a2 = some r) : gMet l yX11_doSend cX11_doSend 6 (some .int) rmX11_doSend [.ref (B + a0), .int a1, .int a2] (gWM D T B μ) (KC s0 X) (some (.int r.2)) (gWM D T B r.1) (gA B X) 0 0 := by
  refine gI_of RX11 (by decide +kernel) rfl (Nat.le_of_ble_eq_true rfl) ?_
  intro p e s m args below meth c ls Q hx hb hlocks hml hown hts hW hk hl hS hend
  have hC := FX_C F hk hx hb hown hts
  have hA := gA_allM hX
  have hl : lv_has ls 6 [(0, .ref (B + a0)), (1, .int a1), (2, .int a2)] := hl
  unfold fX11_doSend at h
  refine lv_aload_n hx hb dX11_doSend_0 rfl (lv_at hl 0 rfl) ?_
  refine lv_iload_n hx hb dX11_doSend_1 rfl (lv_at hl 1 rfl) ?_
  obtain ⟨r1, hcall, h⟩ := bd_out h
  refine g0_callV (As := [.int a1]) hC hml hS hW (KC_at hk hS F.2.2.2.2) KC_blind (metX11_isExhibit F hX k0 hcall) ml_X11_141 (gw_recv hC hW k0.1 (k0.2.1 T B (μ a0)) rfl) ⟨rfl, rfl, Nat.le_of_ble_eq_true rfl, Nat.le_of_ble_eq_true rfl⟩ rfl hl.1 rfl (Nat.le_of_ble_eq_true rfl) dX11_doSend_2 ⟨Nat.le_of_ble_eq_true rfl, Nat.le_of_ble_eq_true rfl⟩ (fun H locs hW hS => ?_)
  obtain ⟨j3, hj5, h⟩ := jn1_o h
  have J4 : ∀ (u2 : Unit), j3 u2 = some r → ∀ (H : Heap) (locs : List Loc) (ls : Array Slot), gWM D T B μ H → va_S (gA B X) s.heap H locs → lv_has ls 6 [(0, .ref (B + a0))] → W p l e rmX11_doSend s m args below meth c H locs 0 0 Q (F0 m 16 ls []) := by
    clear h hW hS hl
    intro u2 h H locs ls hW hS hl
    replace h := (hj5 u2).symm.trans h
    refine lv_aload_n hx hb dX11_doSend_16 rfl (lv_at hl 0 rfl) ?_
    refine lv_iconst (v := 1) hx hb dX11_doSend_17 (by decide) ?_
    obtain ⟨r6, hcall, h⟩ := bd_out h
    refine g0_callV (As := [.int 1]) hC hml hS hW (KC_at hk hS F.2.2.2.2) KC_blind (metX11_fails F hX k0 hcall) ml_X11_69 (gw_recv hC hW k0.1 (k0.2.1 T B (μ a0)) rfl) ⟨rfl, rfl, Nat.le_of_ble_eq_true rfl, Nat.le_of_ble_eq_true rfl⟩ rfl hl.1 rfl (Nat.le_of_ble_eq_true rfl) dX11_doSend_18 ⟨Nat.le_of_ble_eq_true rfl, Nat.le_of_ble_eq_true rfl⟩ (fun H locs hW hS => ?_)
    cases h
    exact hend dX11_doSend_21 hW hS (Nat.le_of_ble_eq_true rfl) (Nat.le_of_ble_eq_true rfl)
  refine gw_if_eqZ (tgt := 16) hx hb dX11_doSend_5 (by decide) (fun c7 => ?_) (fun c7 => ?_)
  · replace h := cond_f c7 h
    exact J4 _ h _ _ _ hW hS (lv_sub hl [0] rfl)
  · replace h := cond_t c7 h
    refine lv_aload_n hx hb dX11_doSend_8 rfl (lv_at hl 0 rfl) ?_
    refine lv_iload_n hx hb dX11_doSend_9 rfl (lv_at hl 2 rfl) ?_
    obtain ⟨r8, hcall, h⟩ := bd_out h
    refine g0_callV (As := [.int a2]) hC hml hS hW (KC_at hk hS F.2.2.2.2) KC_blind (metX11_isRoom F hX k0 hcall) ml_X11_92 (gw_recv hC hW k0.1 (k0.2.1 T B (μ a0)) rfl) ⟨rfl, rfl, Nat.le_of_ble_eq_true rfl, Nat.le_of_ble_eq_true rfl⟩ rfl hl.1 rfl (Nat.le_of_ble_eq_true rfl) dX11_doSend_10 ⟨Nat.le_of_ble_eq_true rfl, Nat.le_of_ble_eq_true rfl⟩ (fun H locs hW hS => ?_)
    refine gw_if_neZ (tgt := 22) hx hb dX11_doSend_13 (by decide) (fun c9 => ?_) (fun c9 => ?_)
    · replace h := cond_t c9 h
      refine lv_aload_n hx hb dX11_doSend_22 rfl (lv_at hl 0 rfl) ?_
      refine lv_iload_n hx hb dX11_doSend_23 rfl (lv_at hl 1 rfl) ?_
      refine lv_iconst (v := 0) hx hb dX11_doSend_24 (by decide) ?_
      obtain ⟨r10, hcall, h⟩ := bd_out h
      refine g0_callV (As := [.int a1, .int 0]) hC hml hS hW (KC_at hk hS F.2.2.2.2) KC_blind (metX11_of F hX k0 hcall) ml_X11_144 (gw_recv hC hW k0.1 (k0.2.1 T B (μ a0)) rfl) ⟨rfl, rfl, Nat.le_of_ble_eq_true rfl, Nat.le_of_ble_eq_true rfl⟩ rfl hl.1 rfl (Nat.le_of_ble_eq_true rfl) dX11_doSend_25 ⟨Nat.le_of_ble_eq_true rfl, Nat.le_of_ble_eq_true rfl⟩ (fun H locs hW hS => ?_)
      refine lv_istore_n (lv' := [(3, .int r10), (0, .ref (B + a0)), (1, .int a1), (2, .int a2)]) hx hb dX11_doSend_28 rfl hl (by decide) rfl (fun ls hl => ?_)
      refine lv_aload_n hx hb dX11_doSend_29 rfl (lv_at hl 1 rfl) ?_
      refine lv_iload_n hx hb dX11_doSend_30 rfl (lv_at hl 2 rfl) ?_
      refine lv_aload_n hx hb dX11_doSend_31 rfl (lv_at hl 1 rfl) ?_
      refine gw_get (v := .ref (B + (a0 + 1))) hC hW fl_X11_9 k0.1 (k0.2.1 T B (μ a0)) rfl dX11_doSend_32 ?_
      refine lv_iconst (v := 2) hx hb dX11_doSend_35 (by decide) ?_
      obtain ⟨v11, e12, hi13, h⟩ := ag_o h
      refine gq_iald hC hW k0.2.2.1.1 (k0.2.2.1.2 T B (μ (a0 + 1))) (t0 := 0) rfl e12 hi13 dX11_doSend_36 ?_
      obtain ⟨r14, hcall, h⟩ := bd_out h
      refine g0_callV (As := [.int a1, .int v11]) hC hml hS hW (KC_at hk hS F.2.2.2.2) KC_blind (metX11_lent F hX k0 hcall) ml_X11_191 (gw_recv hC hW k0.1 (k0.2.1 T B (μ a0)) rfl) ⟨rfl, rfl, Nat.le_of_ble_eq_true rfl, Nat.le_of_ble_eq_true rfl⟩ rfl hl.1 rfl (Nat.le_of_ble_eq_true rfl) dX11_doSend_37 ⟨Nat.le_of_ble_eq_true rfl, Nat.le_of_ble_eq_true rfl⟩ (fun H locs hW hS => ?_)
      refine gw_if_eqZ (tgt := 65) hx hb dX11_doSend_40 (by decide) (fun c15 => ?_) (fun c15 => ?_)
      · replace h := cond_f c15 h
        refine lv_aload_n hx hb dX11_doSend_65 rfl (lv_at hl 1 rfl) ?_
        refine lv_iload_n hx hb dX11_doSend_66 rfl (lv_at hl 3 rfl) ?_
        obtain ⟨r16, hcall, h⟩ := bd_out h
        refine g0_callV (As := [.int a2]) hC hml hS hW (KC_at hk hS F.2.2.2.2) KC_blind (metX11_findsWays F hX k0 hcall) ml_X11_121 (gw_recv hC hW k0.1 (k0.2.1 T B (μ a0)) rfl) ⟨rfl, rfl, Nat.le_of_ble_eq_true rfl, Nat.le_of_ble_eq_true rfl⟩ rfl hl.1 rfl (Nat.le_of_ble_eq_true rfl) dX11_doSend_67 ⟨Nat.le_of_ble_eq_true rfl, Nat.le_of_ble_eq_true rfl⟩ (fun H locs hW hS => ?_)
        refine lv_aload_n hx hb dX11_doSend_70 rfl (lv_at hl 1 rfl) ?_
        refine gw_get (v := .ref (B + (a0 + 5))) hC hW fl_X11_22 k0.1 (k0.2.1 T B (r16 a0)) rfl dX11_doSend_71 ?_
        refine lv_iload_n hx hb dX11_doSend_74 rfl (lv_at hl 0 rfl) ?_
        obtain ⟨v17, e18, hi19, h⟩ := ag_o h
        refine gq_iald hC hW k0.2.2.2.2.2.2.1.1 (k0.2.2.2.2.2.2.1.2 T B (r16 (a0 + 5))) (t0 := 0) rfl e18 hi19 dX11_doSend_75 ?_
        refine lv_ldc (v := 100000) hx hb hown (hts _ kc_X11_120) dX11_doSend_76 ?_
        refine lv_icmp_ne (tgt := 88) hx hb dX11_doSend_78 (by decide) (fun c20 => ?_) (fun c20 => ?_)
        · replace h := ite_f c20 h
          refine lv_iconst (v := 0) hx hb dX11_doSend_88 (by decide) ?_
          refine lv_istore (lv' := [(4, .int 0), (3, .int r10), (0, .ref (B + a0)), (1, .int a1), (2, .int a2)]) hx hb dX11_doSend_89 hl (by decide) rfl (fun ls hl => ?_)
          refine fix3_ind (fun (x21 : Int32) (x22 : Int32) (μ23 : Mem) => ∀ (H : Heap) (locs : List Loc) (ls : Array Slot), gWM D T B μ23 H → va_S (gA B X) s.heap H locs → lv_has ls 6 [(0, .ref (B + a0)), (1, .int a1), (2, .int a2), (3, .int x21), (4, .int x22)] → W p l e rmX11_doSend s m args below meth c H locs 0 0 Q (F0 m 91 ls [])) ?_ N _ _ _ h _ _ _ hW hS (lv_sub hl [2, 3, 4, 1, 0] rfl)
          clear h hW hS hl
          intro self24 IH25 x21 x22 μ23 h H locs ls hW hS hl
          refine lv_iload_n hx hb dX11_doSend_91 rfl (lv_at hl 3 rfl) ?_
          refine lv_iload_n hx hb dX11_doSend_92 rfl (lv_at hl 2 rfl) ?_
          refine lv_icmp_eq (tgt := 135) hx hb dX11_doSend_93 (by decide) (fun c26 => ?_) (fun c26 => ?_)
          · replace h := ite_t c26 h
            refine lv_aload_n hx hb dX11_doSend_135 rfl (lv_at hl 0 rfl) ?_
            refine lv_iload_n hx hb dX11_doSend_136 rfl (lv_at hl 1 rfl) ?_
            refine lv_iconst (v := 0) hx hb dX11_doSend_137 (by decide) ?_
            refine lv_iload_n hx hb dX11_doSend_138 rfl (lv_at hl 2 rfl) ?_
            obtain ⟨r27, hcall, h⟩ := bd_out h
            refine g0_callV (As := [.int a1, .int 0, .int a2]) hC hml hS hW (KC_at hk hS F.2.2.2.2) KC_blind (metX11_sets F hX k0 hcall) ml_X11_134 (gw_recv hC hW k0.1 (k0.2.1 T B (μ23 a0)) rfl) ⟨rfl, rfl, Nat.le_of_ble_eq_true rfl, Nat.le_of_ble_eq_true rfl⟩ rfl hl.1 rfl (Nat.le_of_ble_eq_true rfl) dX11_doSend_139 ⟨Nat.le_of_ble_eq_true rfl, Nat.le_of_ble_eq_true rfl⟩ (fun H locs hW hS => ?_)
            refine lv_iload hx hb dX11_doSend_142 (lv_at hl 4 rfl) ?_
            cases h
            exact hend dX11_doSend_144 hW hS (Nat.le_of_ble_eq_true rfl) (Nat.le_of_ble_eq_true rfl)
          · replace h := ite_f c26 h
            refine lv_aload_n hx hb dX11_doSend_96 rfl (lv_at hl 0 rfl) ?_
            refine lv_iload_n hx hb dX11_doSend_97 rfl (lv_at hl 3 rfl) ?_
            obtain ⟨r28, hcall, h⟩ := bd_out h
            refine g0_callV (As := [.int x21]) hC hml hS hW (KC_at hk hS F.2.2.2.2) KC_blind (metX11_next F hX k0 hcall) ml_X11_131 (gw_recv hC hW k0.1 (k0.2.1 T B (μ23 a0)) rfl) ⟨rfl, rfl, Nat.le_of_ble_eq_true rfl, Nat.le_of_ble_eq_true rfl⟩ rfl hl.1 rfl (Nat.le_of_ble_eq_true rfl) dX11_doSend_98 ⟨Nat.le_of_ble_eq_true rfl, Nat.le_of_ble_eq_true rfl⟩ (fun H locs hW hS => ?_)
            refine lv_istore (lv' := [(5, .int r28), (0, .ref (B + a0)), (1, .int a1), (2, .int a2), (3, .int x21), (4, .int x22)]) hx hb dX11_doSend_101 hl (by decide) rfl (fun ls hl => ?_)
            refine lv_iload hx hb dX11_doSend_103 (lv_at hl 5 rfl) ?_
            refine lv_aload_n hx hb dX11_doSend_105 rfl (lv_at hl 1 rfl) ?_
            refine lv_iload_n hx hb dX11_doSend_106 rfl (lv_at hl 2 rfl) ?_
            refine lv_aload_n hx hb dX11_doSend_107 rfl (lv_at hl 1 rfl) ?_
            refine lv_iload_n hx hb dX11_doSend_108 rfl (lv_at hl 4 rfl) ?_
            refine lv_iload hx hb dX11_doSend_109 (lv_at hl 0 rfl) ?_
            obtain ⟨r29, hcall, h⟩ := bd_out h
            refine g0_callV (As := [.int x21, .int r28]) hC hml hS hW (KC_at hk hS F.2.2.2.2) KC_blind (metX11_heat F hX k0 hcall) ml_X11_117 (gw_recv hC hW k0.1 (k0.2.1 T B (μ23 a0)) rfl) ⟨rfl, rfl, Nat.le_of_ble_eq_true rfl, Nat.le_of_ble_eq_true rfl⟩ rfl hl.1 rfl (Nat.le_of_ble_eq_true rfl) dX11_doSend_111 ⟨Nat.le_of_ble_eq_true rfl, Nat.le_of_ble_eq_true rfl⟩ (fun H locs hW hS => ?_)
            refine lv_aload_n hx hb dX11_doSend_114 rfl (lv_at hl 1 rfl) ?_
            refine lv_iload_n hx hb dX11_doSend_115 rfl (lv_at hl 2 rfl) ?_
            refine lv_iconst (v := 1) hx hb dX11_doSend_116 (by decide) ?_
            obtain ⟨r30, hcall, h⟩ := bd_out h
            refine g0_callV (As := [.int a1, .int 1]) hC hml hS hW (KC_at hk hS F.2.2.2.2) KC_blind (metX11_of F hX k0 hcall) ml_X11_144 (gw_recv hC hW k0.1 (k0.2.1 T B (μ23 a0)) rfl) ⟨rfl, rfl, Nat.le_of_ble_eq_true rfl, Nat.le_of_ble_eq_true rfl⟩ rfl hl.1 rfl (Nat.le_of_ble_eq_true rfl) dX11_doSend_117 ⟨Nat.le_of_ble_eq_true rfl, Nat.le_of_ble_eq_true rfl⟩ (fun H locs hW hS => ?_)
            obtain ⟨r31, hcall, h⟩ := bd_out h
            refine g0_callS (As := [.int r29, .int r30]) hC hml hS hW (KC_at hk hS F.2.2.2.2) KC_blind (metX11_passed F hX  hcall) ml_X11_197 ⟨rfl, rfl, Nat.le_of_ble_eq_true rfl, Nat.le_of_ble_eq_true rfl⟩ rfl hl.1 rfl (Nat.le_of_ble_eq_true rfl) dX11_doSend_120 ⟨Nat.le_of_ble_eq_true rfl, Nat.le_of_ble_eq_true rfl⟩ (fun H locs hW hS => ?_)
            obtain ⟨r32, hcall, h⟩ := bd_out h
            refine g0_callV (As := [.int a1, .int r31]) hC hml hS hW (KC_at hk hS F.2.2.2.2) KC_blind (metX11_melts F hX k0 hcall) ml_X11_200 (gw_recv hC hW k0.1 (k0.2.1 T B (μ23 a0)) rfl) ⟨rfl, rfl, Nat.le_of_ble_eq_true rfl, Nat.le_of_ble_eq_true rfl⟩ rfl hl.1 rfl (Nat.le_of_ble_eq_true rfl) dX11_doSend_123 ⟨Nat.le_of_ble_eq_true rfl, Nat.le_of_ble_eq_true rfl⟩ (fun H locs hW hS => ?_)
            refine lv_iadd hx hb dX11_doSend_126 ?_
            obtain ⟨v33, e34, h⟩ := lt_out h
            rw [← e34]
            refine lv_istore (lv' := [(4, .int v33), (5, .int r28), (0, .ref (B + a0)), (1, .int a1), (2, .int a2), (3, .int x21)]) hx hb dX11_doSend_127 hl (by decide) rfl (fun ls hl => ?_)
            refine lv_iload hx hb dX11_doSend_129 (lv_at hl 1 rfl) ?_
            refine lv_istore_n (lv' := [(3, .int r28), (4, .int v33), (5, .int r28), (0, .ref (B + a0)), (1, .int a1), (2, .int a2)]) hx hb dX11_doSend_131 rfl hl (by decide) rfl (fun ls hl => ?_)
            refine lv_goto (tgt := 91) hx hb dX11_doSend_132 (by decide) ?_
            exact IH25 _ _ _ h _ _ _ hW hS (lv_sub hl [3, 4, 5, 0, 1] rfl)
        · replace h := ite_t c20 h
          refine lv_aload_n hx hb dX11_doSend_81 rfl (lv_at hl 1 rfl) ?_
          refine lv_iconst (v := 2) hx hb dX11_doSend_82 (by decide) ?_
          refine lv_iload_n hx hb dX11_doSend_83 rfl (lv_at hl 0 rfl) ?_
          obtain ⟨r35, hcall, h⟩ := bd_out h
          refine g0_callV (As := [.int 2, .int r10]) hC hml hS hW (KC_at hk hS F.2.2.2.2) KC_blind (metX11_refuses F hX k0 hcall) ml_X11_194 (gw_recv hC hW k0.1 (k0.2.1 T B (r16 a0)) rfl) ⟨rfl, rfl, Nat.le_of_ble_eq_true rfl, Nat.le_of_ble_eq_true rfl⟩ rfl hl.1 rfl (Nat.le_of_ble_eq_true rfl) dX11_doSend_84 ⟨Nat.le_of_ble_eq_true rfl, Nat.le_of_ble_eq_true rfl⟩ (fun H locs hW hS => ?_)
          cases h
          exact hend dX11_doSend_87 hW hS (Nat.le_of_ble_eq_true rfl) (Nat.le_of_ble_eq_true rfl)
      · replace h := cond_t c15 h
        refine lv_aload_n hx hb dX11_doSend_43 rfl (lv_at hl 1 rfl) ?_
        refine lv_iconst (v := 1) hx hb dX11_doSend_44 (by decide) ?_
        refine lv_aload_n hx hb dX11_doSend_45 rfl (lv_at hl 1 rfl) ?_
        refine lv_iload_n hx hb dX11_doSend_46 rfl (lv_at hl 2 rfl) ?_
        refine lv_bipush (v := 47) hx hb dX11_doSend_47 (by decide) ?_
        refine lv_aload_n hx hb dX11_doSend_49 rfl (lv_at hl 1 rfl) ?_
        refine gw_get (v := .ref (B + (a0 + 1))) hC hW fl_X11_9 k0.1 (k0.2.1 T B (μ a0)) rfl dX11_doSend_50 ?_
        refine lv_iconst (v := 2) hx hb dX11_doSend_53 (by decide) ?_
        obtain ⟨v36, e37, hi38, h⟩ := ag_o h
        refine gq_iald hC hW k0.2.2.1.1 (k0.2.2.1.2 T B (μ (a0 + 1))) (t0 := 0) rfl e37 hi38 dX11_doSend_54 ?_
        refine lv_iadd hx hb dX11_doSend_55 ?_
        obtain ⟨r39, hcall, h⟩ := bd_out h
        refine g0_callV (As := [.int a1, .int (47 + v36)]) hC hml hS hW (KC_at hk hS F.2.2.2.2) KC_blind (metX11_of F hX k0 hcall) ml_X11_144 (gw_recv hC hW k0.1 (k0.2.1 T B (μ a0)) rfl) ⟨rfl, rfl, Nat.le_of_ble_eq_true rfl, Nat.le_of_ble_eq_true rfl⟩ rfl hl.1 rfl (Nat.le_of_ble_eq_true rfl) dX11_doSend_56 ⟨Nat.le_of_ble_eq_true rfl, Nat.le_of_ble_eq_true rfl⟩ (fun H locs hW hS => ?_)
        refine lv_iconst (v := 1) hx hb dX11_doSend_59 (by decide) ?_
        refine lv_isub hx hb dX11_doSend_60 ?_
        obtain ⟨r40, hcall, h⟩ := bd_out h
        refine g0_callV (As := [.int 1, .int (r39 - 1)]) hC hml hS hW (KC_at hk hS F.2.2.2.2) KC_blind (metX11_refuses F hX k0 hcall) ml_X11_194 (gw_recv hC hW k0.1 (k0.2.1 T B (μ a0)) rfl) ⟨rfl, rfl, Nat.le_of_ble_eq_true rfl, Nat.le_of_ble_eq_true rfl⟩ rfl hl.1 rfl (Nat.le_of_ble_eq_true rfl) dX11_doSend_61 ⟨Nat.le_of_ble_eq_true rfl, Nat.le_of_ble_eq_true rfl⟩ (fun H locs hW hS => ?_)
        cases h
        exact hend dX11_doSend_64 hW hS (Nat.le_of_ble_eq_true rfl) (Nat.le_of_ble_eq_true rfl)
    · replace h := cond_f c9 h
      exact J4 _ h _ _ _ hW hS (lv_sub hl [0] rfl)

theorem dX11_send_0 : decode cX11_send 0 = .ok (.aload_n 0, 1) := by decide +kernel
theorem dX11_send_1 : decode cX11_send 1 = .ok (.invokevirtual 83, 3) := by decide +kernel
theorem dX11_send_4 : decode cX11_send 4 = .ok (.aload_n 0, 1) := by decide +kernel
theorem dX11_send_5 : decode cX11_send 5 = .ok (.aload_n 0, 1) := by decide +kernel
theorem dX11_send_6 : decode cX11_send 6 = .ok (.iload_n 1, 1) := by decide +kernel
theorem dX11_send_7 : decode cX11_send 7 = .ok (.iload_n 2, 1) := by decide +kernel
theorem dX11_send_8 : decode cX11_send 8 = .ok (.invokevirtual 203, 3) := by decide +kernel
theorem dX11_send_11 : decode cX11_send 11 = .ok (.invokevirtual 89, 3) := by decide +kernel
theorem dX11_send_14 : decode cX11_send 14 = .ok (.ireturn, 1) := by decide +kernel
abbrev rmX11_send : Room := { frames := 6, cells := 0, slots := 0, locals := 155 }
set_option maxHeartbeats 4000000 in
set_option maxRecDepth 100000 in
theorem metX11_send {l : Launch} {s0 : State} {b B : Nat} {D : va_G} {T : Nat → ClassId} (F : FX l s0 b D T B) {X : Nat → Prop} (hX : ∀ o, o < 12 → ¬ X (B + o)) {N : Nat} {μ : Mem} {a0 : Nat} {a1 : Int32} {a2 : Int32} {r : Mem × Int32} (k0 : IsMo a0) (h : fX11_send N μ a0 a1 a2 = some r) : gMet l yX11_send cX11_send 3 (some .int) rmX11_send [.ref (B + a0), .int a1, .int a2] (gWM D T B μ) (KC s0 X) (some (.int r.2)) (gWM D T B r.1) (gA B X) 0 0 := by
  refine gI_of RX11 (by decide +kernel) rfl (Nat.le_of_ble_eq_true rfl) ?_
  intro p e s m args below meth c ls Q hx hb hlocks hml hown hts hW hk hl hS hend
  have hC := FX_C F hk hx hb hown hts
  have hA := gA_allM hX
  have hl : lv_has ls 3 [(0, .ref (B + a0)), (1, .int a1), (2, .int a2)] := hl
  unfold fX11_send at h
  refine lv_aload_n hx hb dX11_send_0 rfl (lv_at hl 0 rfl) ?_
  obtain ⟨r1, hcall, h⟩ := bd_out h
  refine g0_callV (As := []) hC hml hS hW (KC_at hk hS F.2.2.2.2) KC_blind (metX11_keep F hX k0 hcall) ml_X11_83 (gw_recv hC hW k0.1 (k0.2.1 T B (μ a0)) rfl) ⟨rfl, rfl, Nat.le_of_ble_eq_true rfl, Nat.le_of_ble_eq_true rfl⟩ rfl hl.1 rfl (Nat.le_of_ble_eq_true rfl) dX11_send_1 ⟨Nat.le_of_ble_eq_true rfl, Nat.le_of_ble_eq_true rfl⟩ (fun H locs hW hS => ?_)
  refine lv_aload_n hx hb dX11_send_4 rfl (lv_at hl 0 rfl) ?_
  refine lv_aload_n hx hb dX11_send_5 rfl (lv_at hl 0 rfl) ?_
  refine lv_iload_n hx hb dX11_send_6 rfl (lv_at hl 1 rfl) ?_
  refine lv_iload_n hx hb dX11_send_7 rfl (lv_at hl 2 rfl) ?_
  obtain ⟨r2, hcall, h⟩ := bd_out h
  refine g0_callV (As := [.int a1, .int a2]) hC hml hS hW (KC_at hk hS F.2.2.2.2) KC_blind (metX11_doSend F hX k0 hcall) ml_X11_203 (gw_recv hC hW k0.1 (k0.2.1 T B (r1 a0)) rfl) ⟨rfl, rfl, Nat.le_of_ble_eq_true rfl, Nat.le_of_ble_eq_true rfl⟩ rfl hl.1 rfl (Nat.le_of_ble_eq_true rfl) dX11_send_8 ⟨Nat.le_of_ble_eq_true rfl, Nat.le_of_ble_eq_true rfl⟩ (fun H locs hW hS => ?_)
  obtain ⟨r3, hcall, h⟩ := bd_out h
  refine g0_callV (As := [.int r2.2]) hC hml hS hW (KC_at hk hS F.2.2.2.2) KC_blind (metX11_ends F hX k0 hcall) ml_X11_89 (gw_recv hC hW k0.1 (k0.2.1 T B (r2.1 a0)) rfl) ⟨rfl, rfl, Nat.le_of_ble_eq_true rfl, Nat.le_of_ble_eq_true rfl⟩ rfl hl.1 rfl (Nat.le_of_ble_eq_true rfl) dX11_send_11 ⟨Nat.le_of_ble_eq_true rfl, Nat.le_of_ble_eq_true rfl⟩ (fun H locs hW hS => ?_)
  cases h
  exact hend dX11_send_14 hW hS (Nat.le_of_ble_eq_true rfl) (Nat.le_of_ble_eq_true rfl)

theorem dX11_meltIfSent_0 : decode cX11_meltIfSent 0 = .ok (.aload_n 0, 1) := by decide +kernel
theorem dX11_meltIfSent_1 : decode cX11_meltIfSent 1 = .ok (.aload_n 0, 1) := by decide +kernel
theorem dX11_meltIfSent_2 : decode cX11_meltIfSent 2 = .ok (.iload_n 1, 1) := by decide +kernel
theorem dX11_meltIfSent_3 : decode cX11_meltIfSent 3 = .ok (.invokevirtual 141, 3) := by decide +kernel
theorem dX11_meltIfSent_6 : decode cX11_meltIfSent 6 = .ok (.ifCond .eq 15, 3) := by decide +kernel
theorem dX11_meltIfSent_9 : decode cX11_meltIfSent 9 = .ok (.aload_n 0, 1) := by decide +kernel
theorem dX11_meltIfSent_10 : decode cX11_meltIfSent 10 = .ok (.iload_n 2, 1) := by decide +kernel
theorem dX11_meltIfSent_11 : decode cX11_meltIfSent 11 = .ok (.invokevirtual 92, 3) := by decide +kernel
theorem dX11_meltIfSent_14 : decode cX11_meltIfSent 14 = .ok (.ifCond .eq 7, 3) := by decide +kernel
theorem dX11_meltIfSent_17 : decode cX11_meltIfSent 17 = .ok (.iconst 1, 1) := by decide +kernel
theorem dX11_meltIfSent_18 : decode cX11_meltIfSent 18 = .ok (.goto 4, 3) := by decide +kernel
theorem dX11_meltIfSent_21 : decode cX11_meltIfSent 21 = .ok (.iconst 0, 1) := by decide +kernel
theorem dX11_meltIfSent_22 : decode cX11_meltIfSent 22 = .ok (.invokevirtual 113, 3) := by decide +kernel
theorem dX11_meltIfSent_25 : decode cX11_meltIfSent 25 = .ok (.ifCond .eq 17, 3) := by decide +kernel
theorem dX11_meltIfSent_28 : decode cX11_meltIfSent 28 = .ok (.aload_n 0, 1) := by decide +kernel
theorem dX11_meltIfSent_29 : decode cX11_meltIfSent 29 = .ok (.aload_n 0, 1) := by decide +kernel
theorem dX11_meltIfSent_30 : decode cX11_meltIfSent 30 = .ok (.iload_n 1, 1) := by decide +kernel
theorem dX11_meltIfSent_31 : decode cX11_meltIfSent 31 = .ok (.iconst 0, 1) := by decide +kernel
theorem dX11_meltIfSent_32 : decode cX11_meltIfSent 32 = .ok (.invokevirtual 144, 3) := by decide +kernel
theorem dX11_meltIfSent_35 : decode cX11_meltIfSent 35 = .ok (.iload_n 2, 1) := by decide +kernel
theorem dX11_meltIfSent_36 : decode cX11_meltIfSent 36 = .ok (.invokevirtual 125, 3) := by decide +kernel
theorem dX11_meltIfSent_39 : decode cX11_meltIfSent 39 = .ok (.ifCond .ne 5, 3) := by decide +kernel
theorem dX11_meltIfSent_42 : decode cX11_meltIfSent 42 = .ok (.iconst 0, 1) := by decide +kernel
theorem dX11_meltIfSent_43 : decode cX11_meltIfSent 43 = .ok (.ireturn, 1) := by decide +kernel
theorem dX11_meltIfSent_44 : decode cX11_meltIfSent 44 = .ok (.iconst 0, 1) := by decide +kernel
theorem dX11_meltIfSent_45 : decode cX11_meltIfSent 45 = .ok (.istore_n 3, 1) := by decide +kernel
theorem dX11_meltIfSent_46 : decode cX11_meltIfSent 46 = .ok (.aload_n 0, 1) := by decide +kernel
theorem dX11_meltIfSent_47 : decode cX11_meltIfSent 47 = .ok (.iload_n 1, 1) := by decide +kernel
theorem dX11_meltIfSent_48 : decode cX11_meltIfSent 48 = .ok (.iconst 0, 1) := by decide +kernel
theorem dX11_meltIfSent_49 : decode cX11_meltIfSent 49 = .ok (.invokevirtual 144, 3) := by decide +kernel
theorem dX11_meltIfSent_52 : decode cX11_meltIfSent 52 = .ok (.istore 4, 2) := by decide +kernel
theorem dX11_meltIfSent_54 : decode cX11_meltIfSent 54 = .ok (.iload 4, 2) := by decide +kernel
theorem dX11_meltIfSent_56 : decode cX11_meltIfSent 56 = .ok (.iload_n 2, 1) := by decide +kernel
theorem dX11_meltIfSent_57 : decode cX11_meltIfSent 57 = .ok (.if_icmp .eq 38, 3) := by decide +kernel
theorem dX11_meltIfSent_60 : decode cX11_meltIfSent 60 = .ok (.iload_n 3, 1) := by decide +kernel
theorem dX11_meltIfSent_61 : decode cX11_meltIfSent 61 = .ok (.aload_n 0, 1) := by decide +kernel
theorem dX11_meltIfSent_62 : decode cX11_meltIfSent 62 = .ok (.iload 4, 2) := by decide +kernel
theorem dX11_meltIfSent_64 : decode cX11_meltIfSent 64 = .ok (.aload_n 0, 1) := by decide +kernel
theorem dX11_meltIfSent_65 : decode cX11_meltIfSent 65 = .ok (.iload 4, 2) := by decide +kernel
theorem dX11_meltIfSent_67 : decode cX11_meltIfSent 67 = .ok (.invokevirtual 131, 3) := by decide +kernel
theorem dX11_meltIfSent_70 : decode cX11_meltIfSent 70 = .ok (.invokevirtual 117, 3) := by decide +kernel
theorem dX11_meltIfSent_73 : decode cX11_meltIfSent 73 = .ok (.aload_n 0, 1) := by decide +kernel
theorem dX11_meltIfSent_74 : decode cX11_meltIfSent 74 = .ok (.iload_n 1, 1) := by decide +kernel
theorem dX11_meltIfSent_75 : decode cX11_meltIfSent 75 = .ok (.iconst 1, 1) := by decide +kernel
theorem dX11_meltIfSent_76 : decode cX11_meltIfSent 76 = .ok (.invokevirtual 144, 3) := by decide +kernel
theorem dX11_meltIfSent_79 : decode cX11_meltIfSent 79 = .ok (.invokestatic 197, 3) := by decide +kernel
theorem dX11_meltIfSent_82 : decode cX11_meltIfSent 82 = .ok (.iadd, 1) := by decide +kernel
theorem dX11_meltIfSent_83 : decode cX11_meltIfSent 83 = .ok (.istore_n 3, 1) := by decide +kernel
theorem dX11_meltIfSent_84 : decode cX11_meltIfSent 84 = .ok (.aload_n 0, 1) := by decide +kernel
theorem dX11_meltIfSent_85 : decode cX11_meltIfSent 85 = .ok (.iload 4, 2) := by decide +kernel
theorem dX11_meltIfSent_87 : decode cX11_meltIfSent 87 = .ok (.invokevirtual 131, 3) := by decide +kernel
theorem dX11_meltIfSent_90 : decode cX11_meltIfSent 90 = .ok (.istore 4, 2) := by decide +kernel
theorem dX11_meltIfSent_92 : decode cX11_meltIfSent 92 = .ok (.goto (-38), 3) := by decide +kernel
theorem dX11_meltIfSent_95 : decode cX11_meltIfSent 95 = .ok (.iload_n 3, 1) := by decide +kernel
theorem dX11_meltIfSent_96 : decode cX11_meltIfSent 96 = .ok (.aload_n 0, 1) := by decide +kernel
theorem dX11_meltIfSent_97 : decode cX11_meltIfSent 97 = .ok (.iload_n 1, 1) := by decide +kernel
theorem dX11_meltIfSent_98 : decode cX11_meltIfSent 98 = .ok (.invokevirtual 178, 3) := by decide +kernel
theorem dX11_meltIfSent_101 : decode cX11_meltIfSent 101 = .ok (.invokestatic 206, 3) := by decide +kernel
theorem dX11_meltIfSent_104 : decode cX11_meltIfSent 104 = .ok (.ireturn, 1) := by decide +kernel
abbrev rmX11_meltIfSent : Room := { frames := 5, cells := 0, slots := 0, locals := 130 }
set_option maxHeartbeats 4000000 in
set_option maxRecDepth 100000 in
theorem metX11_meltIfSent {l : Launch} {s0 : State} {b B : Nat} {D : va_G} {T : Nat → ClassId} (F : FX l s0 b D T B) {X : Nat → Prop} (hX : ∀ o, o < 12 → ¬ X (B + o)) {N : Nat} {μ : Mem} {a0 : Nat} {a1 : Int32} {a2 : Int32} {r : Mem × Int32} (k0 : IsMo a0) (h : fX11_meltIfSent N μ a0 a1 a2 = some r) : gMet l yX11_meltIfSent cX11_meltIfSent 5 (some .int) rmX11_meltIfSent [.ref (B + a0), .int a1, .int a2] (gWM D T B μ) (KC s0 X) (some (.int r.2)) (gWM D T B r.1) (gA B X) 0 0 := by
  refine gI_of RX11 (by decide +kernel) rfl (Nat.le_of_ble_eq_true rfl) ?_
  intro p e s m args below meth c ls Q hx hb hlocks hml hown hts hW hk hl hS hend
  have hC := FX_C F hk hx hb hown hts
  have hA := gA_allM hX
  have hl : lv_has ls 5 [(0, .ref (B + a0)), (1, .int a1), (2, .int a2)] := hl
  unfold fX11_meltIfSent at h
  refine lv_aload_n hx hb dX11_meltIfSent_0 rfl (lv_at hl 0 rfl) ?_
  refine lv_aload_n hx hb dX11_meltIfSent_1 rfl (lv_at hl 0 rfl) ?_
  refine lv_iload_n hx hb dX11_meltIfSent_2 rfl (lv_at hl 1 rfl) ?_
  obtain ⟨r1, hcall, h⟩ := bd_out h
  refine g0_callV (As := [.int a1]) hC hml hS hW (KC_at hk hS F.2.2.2.2) KC_blind (metX11_isExhibit F hX k0 hcall) ml_X11_141 (gw_recv hC hW k0.1 (k0.2.1 T B (μ a0)) rfl) ⟨rfl, rfl, Nat.le_of_ble_eq_true rfl, Nat.le_of_ble_eq_true rfl⟩ rfl hl.1 rfl (Nat.le_of_ble_eq_true rfl) dX11_meltIfSent_3 ⟨Nat.le_of_ble_eq_true rfl, Nat.le_of_ble_eq_true rfl⟩ (fun H locs hW hS => ?_)
  obtain ⟨j3, hj5, h⟩ := jn1_o h
  have J4 : ∀ (y2 : Bool), j3 y2 = some r → ∀ (H : Heap) (locs : List Loc) (ls : Array Slot), gWM D T B μ H → va_S (gA B X) s.heap H locs → lv_has ls 5 [(0, .ref (B + a0)), (1, .int a1), (2, .int a2)] → W p l e rmX11_meltIfSent s m args below meth c H locs 0 0 Q (F0 m 22 ls [.int (b2i y2), .ref (B + a0)]) := by
    clear h hW hS hl
    intro y2 h H locs ls hW hS hl
    replace h := (hj5 y2).symm.trans h
    obtain ⟨r6, hcall, h⟩ := bd_out h
    refine g0_callV (As := [.int (b2i y2)]) hC hml hS hW (KC_at hk hS F.2.2.2.2) KC_blind (metX11_isThere F hX k0 hcall) ml_X11_113 (gw_recv hC hW k0.1 (k0.2.1 T B (μ a0)) rfl) ⟨rfl, rfl, Nat.le_of_ble_eq_true rfl, Nat.le_of_ble_eq_true rfl⟩ rfl hl.1 rfl (Nat.le_of_ble_eq_true rfl) dX11_meltIfSent_22 ⟨Nat.le_of_ble_eq_true rfl, Nat.le_of_ble_eq_true rfl⟩ (fun H locs hW hS => ?_)
    obtain ⟨j8, hj10, h⟩ := jn1_o h
    have J9 : ∀ (μ7 : Mem), j8 μ7 = some r → ∀ (H : Heap) (locs : List Loc) (ls : Array Slot), gWM D T B μ7 H → va_S (gA B X) s.heap H locs → lv_has ls 5 [] → W p l e rmX11_meltIfSent s m args below meth c H locs 0 0 Q (F0 m 42 ls []) := by
      clear h hW hS hl
      intro μ7 h H locs ls hW hS hl
      replace h := (hj10 μ7).symm.trans h
      refine lv_iconst (v := 0) hx hb dX11_meltIfSent_42 (by decide) ?_
      cases h
      exact hend dX11_meltIfSent_43 hW hS (Nat.le_of_ble_eq_true rfl) (Nat.le_of_ble_eq_true rfl)
    refine gw_if_eqZ (tgt := 42) hx hb dX11_meltIfSent_25 (by decide) (fun c11 => ?_) (fun c11 => ?_)
    · replace h := cond_f c11 h
      exact J9 _ h _ _ _ hW hS (lv_sub hl [] rfl)
    · replace h := cond_t c11 h
      refine lv_aload_n hx hb dX11_meltIfSent_28 rfl (lv_at hl 0 rfl) ?_
      refine lv_aload_n hx hb dX11_meltIfSent_29 rfl (lv_at hl 0 rfl) ?_
      refine lv_iload_n hx hb dX11_meltIfSent_30 rfl (lv_at hl 1 rfl) ?_
      refine lv_iconst (v := 0) hx hb dX11_meltIfSent_31 (by decide) ?_
      obtain ⟨r12, hcall, h⟩ := bd_out h
      refine g0_callV (As := [.int a1, .int 0]) hC hml hS hW (KC_at hk hS F.2.2.2.2) KC_blind (metX11_of F hX k0 hcall) ml_X11_144 (gw_recv hC hW k0.1 (k0.2.1 T B (r6.1 a0)) rfl) ⟨rfl, rfl, Nat.le_of_ble_eq_true rfl, Nat.le_of_ble_eq_true rfl⟩ rfl hl.1 rfl (Nat.le_of_ble_eq_true rfl) dX11_meltIfSent_32 ⟨Nat.le_of_ble_eq_true rfl, Nat.le_of_ble_eq_true rfl⟩ (fun H locs hW hS => ?_)
      refine lv_iload_n hx hb dX11_meltIfSent_35 rfl (lv_at hl 2 rfl) ?_
      obtain ⟨r13, hcall, h⟩ := bd_out h
      refine g0_callV (As := [.int r12, .int a2]) hC hml hS hW (KC_at hk hS F.2.2.2.2) KC_blind (metX11_asksWay F hX k0 hcall) ml_X11_125 (gw_recv hC hW k0.1 (k0.2.1 T B (r6.1 a0)) rfl) ⟨rfl, rfl, Nat.le_of_ble_eq_true rfl, Nat.le_of_ble_eq_true rfl⟩ rfl hl.1 rfl (Nat.le_of_ble_eq_true rfl) dX11_meltIfSent_36 ⟨Nat.le_of_ble_eq_true rfl, Nat.le_of_ble_eq_true rfl⟩ (fun H locs hW hS => ?_)
      refine gw_if_neZ (tgt := 44) hx hb dX11_meltIfSent_39 (by decide) (fun c14 => ?_) (fun c14 => ?_)
      · replace h := cond_t c14 h
        refine lv_iconst (v := 0) hx hb dX11_meltIfSent_44 (by decide) ?_
        refine lv_istore_n (lv' := [(3, .int 0), (0, .ref (B + a0)), (1, .int a1), (2, .int a2)]) hx hb dX11_meltIfSent_45 rfl hl (by decide) rfl (fun ls hl => ?_)
        refine lv_aload_n hx hb dX11_meltIfSent_46 rfl (lv_at hl 1 rfl) ?_
        refine lv_iload_n hx hb dX11_meltIfSent_47 rfl (lv_at hl 2 rfl) ?_
        refine lv_iconst (v := 0) hx hb dX11_meltIfSent_48 (by decide) ?_
        obtain ⟨r15, hcall, h⟩ := bd_out h
        refine g0_callV (As := [.int a1, .int 0]) hC hml hS hW (KC_at hk hS F.2.2.2.2) KC_blind (metX11_of F hX k0 hcall) ml_X11_144 (gw_recv hC hW k0.1 (k0.2.1 T B (r13.1 a0)) rfl) ⟨rfl, rfl, Nat.le_of_ble_eq_true rfl, Nat.le_of_ble_eq_true rfl⟩ rfl hl.1 rfl (Nat.le_of_ble_eq_true rfl) dX11_meltIfSent_49 ⟨Nat.le_of_ble_eq_true rfl, Nat.le_of_ble_eq_true rfl⟩ (fun H locs hW hS => ?_)
        refine lv_istore (lv' := [(4, .int r15), (3, .int 0), (0, .ref (B + a0)), (1, .int a1), (2, .int a2)]) hx hb dX11_meltIfSent_52 hl (by decide) rfl (fun ls hl => ?_)
        refine fix2_ind (fun (x16 : Int32) (x17 : Int32) => ∀ (H : Heap) (locs : List Loc) (ls : Array Slot), gWM D T B r13.1 H → va_S (gA B X) s.heap H locs → lv_has ls 5 [(0, .ref (B + a0)), (1, .int a1), (2, .int a2), (3, .int x16), (4, .int x17)] → W p l e rmX11_meltIfSent s m args below meth c H locs 0 0 Q (F0 m 54 ls [])) ?_ N _ _ h _ _ _ hW hS (lv_sub hl [2, 3, 4, 1, 0] rfl)
        clear h hW hS hl
        intro self18 IH19 x16 x17 h H locs ls hW hS hl
        refine lv_iload hx hb dX11_meltIfSent_54 (lv_at hl 4 rfl) ?_
        refine lv_iload_n hx hb dX11_meltIfSent_56 rfl (lv_at hl 2 rfl) ?_
        refine lv_icmp_eq (tgt := 95) hx hb dX11_meltIfSent_57 (by decide) (fun c20 => ?_) (fun c20 => ?_)
        · replace h := ite_t c20 h
          refine lv_iload_n hx hb dX11_meltIfSent_95 rfl (lv_at hl 3 rfl) ?_
          refine lv_aload_n hx hb dX11_meltIfSent_96 rfl (lv_at hl 0 rfl) ?_
          refine lv_iload_n hx hb dX11_meltIfSent_97 rfl (lv_at hl 1 rfl) ?_
          obtain ⟨r21, hcall, h⟩ := bd_out h
          refine g0_callV (As := [.int a1]) hC hml hS hW (KC_at hk hS F.2.2.2.2) KC_blind (metX11_all F hX k0 hcall) ml_X11_178 (gw_recv hC hW k0.1 (k0.2.1 T B (r13.1 a0)) rfl) ⟨rfl, rfl, Nat.le_of_ble_eq_true rfl, Nat.le_of_ble_eq_true rfl⟩ rfl hl.1 rfl (Nat.le_of_ble_eq_true rfl) dX11_meltIfSent_98 ⟨Nat.le_of_ble_eq_true rfl, Nat.le_of_ble_eq_true rfl⟩ (fun H locs hW hS => ?_)
          refine gw_min hC (hml.trans hl.1.symm) lm_X11_206 lb_min.1 lb_min.2.1 lb_min.2.2 (Nat.le_of_ble_eq_true rfl) (Nat.le_of_ble_eq_true rfl) (Nat.le_of_ble_eq_true rfl) (Nat.le_of_ble_eq_true rfl) dX11_meltIfSent_101 ?_
          cases h
          exact hend dX11_meltIfSent_104 hW hS (Nat.le_of_ble_eq_true rfl) (Nat.le_of_ble_eq_true rfl)
        · replace h := ite_f c20 h
          refine lv_iload_n hx hb dX11_meltIfSent_60 rfl (lv_at hl 3 rfl) ?_
          refine lv_aload_n hx hb dX11_meltIfSent_61 rfl (lv_at hl 0 rfl) ?_
          refine lv_iload hx hb dX11_meltIfSent_62 (lv_at hl 4 rfl) ?_
          refine lv_aload_n hx hb dX11_meltIfSent_64 rfl (lv_at hl 0 rfl) ?_
          refine lv_iload hx hb dX11_meltIfSent_65 (lv_at hl 4 rfl) ?_
          obtain ⟨r22, hcall, h⟩ := bd_out h
          refine g0_callV (As := [.int x17]) hC hml hS hW (KC_at hk hS F.2.2.2.2) KC_blind (metX11_next F hX k0 hcall) ml_X11_131 (gw_recv hC hW k0.1 (k0.2.1 T B (r13.1 a0)) rfl) ⟨rfl, rfl, Nat.le_of_ble_eq_true rfl, Nat.le_of_ble_eq_true rfl⟩ rfl hl.1 rfl (Nat.le_of_ble_eq_true rfl) dX11_meltIfSent_67 ⟨Nat.le_of_ble_eq_true rfl, Nat.le_of_ble_eq_true rfl⟩ (fun H locs hW hS => ?_)
          obtain ⟨r23, hcall, h⟩ := bd_out h
          refine g0_callV (As := [.int x17, .int r22]) hC hml hS hW (KC_at hk hS F.2.2.2.2) KC_blind (metX11_heat F hX k0 hcall) ml_X11_117 (gw_recv hC hW k0.1 (k0.2.1 T B (r13.1 a0)) rfl) ⟨rfl, rfl, Nat.le_of_ble_eq_true rfl, Nat.le_of_ble_eq_true rfl⟩ rfl hl.1 rfl (Nat.le_of_ble_eq_true rfl) dX11_meltIfSent_70 ⟨Nat.le_of_ble_eq_true rfl, Nat.le_of_ble_eq_true rfl⟩ (fun H locs hW hS => ?_)
          refine lv_aload_n hx hb dX11_meltIfSent_73 rfl (lv_at hl 0 rfl) ?_
          refine lv_iload_n hx hb dX11_meltIfSent_74 rfl (lv_at hl 1 rfl) ?_
          refine lv_iconst (v := 1) hx hb dX11_meltIfSent_75 (by decide) ?_
          obtain ⟨r24, hcall, h⟩ := bd_out h
          refine g0_callV (As := [.int a1, .int 1]) hC hml hS hW (KC_at hk hS F.2.2.2.2) KC_blind (metX11_of F hX k0 hcall) ml_X11_144 (gw_recv hC hW k0.1 (k0.2.1 T B (r13.1 a0)) rfl) ⟨rfl, rfl, Nat.le_of_ble_eq_true rfl, Nat.le_of_ble_eq_true rfl⟩ rfl hl.1 rfl (Nat.le_of_ble_eq_true rfl) dX11_meltIfSent_76 ⟨Nat.le_of_ble_eq_true rfl, Nat.le_of_ble_eq_true rfl⟩ (fun H locs hW hS => ?_)
          obtain ⟨r25, hcall, h⟩ := bd_out h
          refine g0_callS (As := [.int r23, .int r24]) hC hml hS hW (KC_at hk hS F.2.2.2.2) KC_blind (metX11_passed F hX  hcall) ml_X11_197 ⟨rfl, rfl, Nat.le_of_ble_eq_true rfl, Nat.le_of_ble_eq_true rfl⟩ rfl hl.1 rfl (Nat.le_of_ble_eq_true rfl) dX11_meltIfSent_79 ⟨Nat.le_of_ble_eq_true rfl, Nat.le_of_ble_eq_true rfl⟩ (fun H locs hW hS => ?_)
          refine lv_iadd hx hb dX11_meltIfSent_82 ?_
          obtain ⟨v26, e27, h⟩ := lt_out h
          rw [← e27]
          refine lv_istore_n (lv' := [(3, .int v26), (0, .ref (B + a0)), (1, .int a1), (2, .int a2), (4, .int x17)]) hx hb dX11_meltIfSent_83 rfl hl (by decide) rfl (fun ls hl => ?_)
          refine lv_aload_n hx hb dX11_meltIfSent_84 rfl (lv_at hl 1 rfl) ?_
          refine lv_iload hx hb dX11_meltIfSent_85 (lv_at hl 4 rfl) ?_
          obtain ⟨r28, hcall, h⟩ := bd_out h
          refine g0_callV (As := [.int x17]) hC hml hS hW (KC_at hk hS F.2.2.2.2) KC_blind (metX11_next F hX k0 hcall) ml_X11_131 (gw_recv hC hW k0.1 (k0.2.1 T B (r13.1 a0)) rfl) ⟨rfl, rfl, Nat.le_of_ble_eq_true rfl, Nat.le_of_ble_eq_true rfl⟩ rfl hl.1 rfl (Nat.le_of_ble_eq_true rfl) dX11_meltIfSent_87 ⟨Nat.le_of_ble_eq_true rfl, Nat.le_of_ble_eq_true rfl⟩ (fun H locs hW hS => ?_)
          refine lv_istore (lv' := [(4, .int r28), (3, .int v26), (0, .ref (B + a0)), (1, .int a1), (2, .int a2)]) hx hb dX11_meltIfSent_90 hl (by decide) rfl (fun ls hl => ?_)
          refine lv_goto (tgt := 54) hx hb dX11_meltIfSent_92 (by decide) ?_
          exact IH19 _ _ h _ _ _ hW hS (lv_sub hl [2, 3, 4, 1, 0] rfl)
      · replace h := cond_f c14 h
        exact J9 _ h _ _ _ hW hS (lv_sub hl [] rfl)
  obtain ⟨j30, hj32, h⟩ := jn1_o h
  have J31 : ∀ (u29 : Unit), j30 u29 = some r → ∀ (H : Heap) (locs : List Loc) (ls : Array Slot), gWM D T B μ H → va_S (gA B X) s.heap H locs → lv_has ls 5 [(0, .ref (B + a0)), (1, .int a1), (2, .int a2)] → W p l e rmX11_meltIfSent s m args below meth c H locs 0 0 Q (F0 m 21 ls [.ref (B + a0)]) := by
    clear h hW hS hl
    intro u29 h H locs ls hW hS hl
    replace h := (hj32 u29).symm.trans h
    refine lv_iconst (v := 0) hx hb dX11_meltIfSent_21 (by decide) ?_
    exact J4 _ h _ _ _ hW hS (lv_sub hl [0, 1, 2] rfl)
  refine gw_if_eqZ (tgt := 21) hx hb dX11_meltIfSent_6 (by decide) (fun c33 => ?_) (fun c33 => ?_)
  · replace h := cond_f c33 h
    exact J31 _ h _ _ _ hW hS (lv_sub hl [0, 1, 2] rfl)
  · replace h := cond_t c33 h
    refine lv_aload_n hx hb dX11_meltIfSent_9 rfl (lv_at hl 0 rfl) ?_
    refine lv_iload_n hx hb dX11_meltIfSent_10 rfl (lv_at hl 2 rfl) ?_
    obtain ⟨r34, hcall, h⟩ := bd_out h
    refine g0_callV (As := [.int a2]) hC hml hS hW (KC_at hk hS F.2.2.2.2) KC_blind (metX11_isRoom F hX k0 hcall) ml_X11_92 (gw_recv hC hW k0.1 (k0.2.1 T B (μ a0)) rfl) ⟨rfl, rfl, Nat.le_of_ble_eq_true rfl, Nat.le_of_ble_eq_true rfl⟩ rfl hl.1 rfl (Nat.le_of_ble_eq_true rfl) dX11_meltIfSent_11 ⟨Nat.le_of_ble_eq_true rfl, Nat.le_of_ble_eq_true rfl⟩ (fun H locs hW hS => ?_)
    refine gw_if_eqZ (tgt := 21) hx hb dX11_meltIfSent_14 (by decide) (fun c35 => ?_) (fun c35 => ?_)
    · replace h := cond_f c35 h
      exact J31 _ h _ _ _ hW hS (lv_sub hl [0, 1, 2] rfl)
    · replace h := cond_t c35 h
      refine lv_iconst (v := 1) hx hb dX11_meltIfSent_17 (by decide) ?_
      refine lv_goto (tgt := 22) hx hb dX11_meltIfSent_18 (by decide) ?_
      exact J4 _ h _ _ _ hW hS (lv_sub hl [0, 1, 2] rfl)

theorem dX11_leastPassed_0 : decode cX11_leastPassed 0 = .ok (.aload_n 0, 1) := by decide +kernel
theorem dX11_leastPassed_1 : decode cX11_leastPassed 1 = .ok (.aload_n 0, 1) := by decide +kernel
theorem dX11_leastPassed_2 : decode cX11_leastPassed 2 = .ok (.iload_n 1, 1) := by decide +kernel
theorem dX11_leastPassed_3 : decode cX11_leastPassed 3 = .ok (.invokevirtual 141, 3) := by decide +kernel
theorem dX11_leastPassed_6 : decode cX11_leastPassed 6 = .ok (.ifCond .eq 15, 3) := by decide +kernel
theorem dX11_leastPassed_9 : decode cX11_leastPassed 9 = .ok (.aload_n 0, 1) := by decide +kernel
theorem dX11_leastPassed_10 : decode cX11_leastPassed 10 = .ok (.iload_n 2, 1) := by decide +kernel
theorem dX11_leastPassed_11 : decode cX11_leastPassed 11 = .ok (.invokevirtual 92, 3) := by decide +kernel
theorem dX11_leastPassed_14 : decode cX11_leastPassed 14 = .ok (.ifCond .eq 7, 3) := by decide +kernel
theorem dX11_leastPassed_17 : decode cX11_leastPassed 17 = .ok (.iconst 1, 1) := by decide +kernel
theorem dX11_leastPassed_18 : decode cX11_leastPassed 18 = .ok (.goto 4, 3) := by decide +kernel
theorem dX11_leastPassed_21 : decode cX11_leastPassed 21 = .ok (.iconst 0, 1) := by decide +kernel
theorem dX11_leastPassed_22 : decode cX11_leastPassed 22 = .ok (.invokevirtual 113, 3) := by decide +kernel
theorem dX11_leastPassed_25 : decode cX11_leastPassed 25 = .ok (.ifCond .ne 5, 3) := by decide +kernel
theorem dX11_leastPassed_28 : decode cX11_leastPassed 28 = .ok (.iconst 0, 1) := by decide +kernel
theorem dX11_leastPassed_29 : decode cX11_leastPassed 29 = .ok (.ireturn, 1) := by decide +kernel
theorem dX11_leastPassed_30 : decode cX11_leastPassed 30 = .ok (.iconst 0, 1) := by decide +kernel
theorem dX11_leastPassed_31 : decode cX11_leastPassed 31 = .ok (.istore_n 3, 1) := by decide +kernel
theorem dX11_leastPassed_32 : decode cX11_leastPassed 32 = .ok (.iload_n 3, 1) := by decide +kernel
theorem dX11_leastPassed_33 : decode cX11_leastPassed 33 = .ok (.bipush 6, 2) := by decide +kernel
theorem dX11_leastPassed_35 : decode cX11_leastPassed 35 = .ok (.if_icmp .ge 26, 3) := by decide +kernel
theorem dX11_leastPassed_38 : decode cX11_leastPassed 38 = .ok (.aload_n 0, 1) := by decide +kernel
theorem dX11_leastPassed_39 : decode cX11_leastPassed 39 = .ok (.getfield 22, 3) := by decide +kernel
theorem dX11_leastPassed_42 : decode cX11_leastPassed 42 = .ok (.iload_n 3, 1) := by decide +kernel
theorem dX11_leastPassed_43 : decode cX11_leastPassed 43 = .ok (.iload_n 3, 1) := by decide +kernel
theorem dX11_leastPassed_44 : decode cX11_leastPassed 44 = .ok (.iload_n 2, 1) := by decide +kernel
theorem dX11_leastPassed_45 : decode cX11_leastPassed 45 = .ok (.if_icmp .ne 7, 3) := by decide +kernel
theorem dX11_leastPassed_48 : decode cX11_leastPassed 48 = .ok (.iconst 0, 1) := by decide +kernel
theorem dX11_leastPassed_49 : decode cX11_leastPassed 49 = .ok (.goto 5, 3) := by decide +kernel
theorem dX11_leastPassed_52 : decode cX11_leastPassed 52 = .ok (.ldc 120, 2) := by decide +kernel
theorem dX11_leastPassed_54 : decode cX11_leastPassed 54 = .ok (.iastore, 1) := by decide +kernel
theorem dX11_leastPassed_55 : decode cX11_leastPassed 55 = .ok (.iinc 3 1, 3) := by decide +kernel
theorem dX11_leastPassed_58 : decode cX11_leastPassed 58 = .ok (.goto (-26), 3) := by decide +kernel
theorem dX11_leastPassed_61 : decode cX11_leastPassed 61 = .ok (.iconst 0, 1) := by decide +kernel
theorem dX11_leastPassed_62 : decode cX11_leastPassed 62 = .ok (.istore_n 3, 1) := by decide +kernel
theorem dX11_leastPassed_63 : decode cX11_leastPassed 63 = .ok (.iload_n 3, 1) := by decide +kernel
theorem dX11_leastPassed_64 : decode cX11_leastPassed 64 = .ok (.bipush 6, 2) := by decide +kernel
theorem dX11_leastPassed_66 : decode cX11_leastPassed 66 = .ok (.if_icmp .ge 128, 3) := by decide +kernel
theorem dX11_leastPassed_69 : decode cX11_leastPassed 69 = .ok (.iconst 0, 1) := by decide +kernel
theorem dX11_leastPassed_70 : decode cX11_leastPassed 70 = .ok (.istore 4, 2) := by decide +kernel
theorem dX11_leastPassed_72 : decode cX11_leastPassed 72 = .ok (.iload 4, 2) := by decide +kernel
theorem dX11_leastPassed_74 : decode cX11_leastPassed 74 = .ok (.bipush 6, 2) := by decide +kernel
theorem dX11_leastPassed_76 : decode cX11_leastPassed 76 = .ok (.if_icmp .ge 112, 3) := by decide +kernel
theorem dX11_leastPassed_79 : decode cX11_leastPassed 79 = .ok (.iconst 0, 1) := by decide +kernel
theorem dX11_leastPassed_80 : decode cX11_leastPassed 80 = .ok (.istore 5, 2) := by decide +kernel
theorem dX11_leastPassed_82 : decode cX11_leastPassed 82 = .ok (.iload 5, 2) := by decide +kernel
theorem dX11_leastPassed_84 : decode cX11_leastPassed 84 = .ok (.bipush 6, 2) := by decide +kernel
theorem dX11_leastPassed_86 : decode cX11_leastPassed 86 = .ok (.if_icmp .ge 96, 3) := by decide +kernel
theorem dX11_leastPassed_89 : decode cX11_leastPassed 89 = .ok (.aload_n 0, 1) := by decide +kernel
theorem dX11_leastPassed_90 : decode cX11_leastPassed 90 = .ok (.iload 4, 2) := by decide +kernel
theorem dX11_leastPassed_92 : decode cX11_leastPassed 92 = .ok (.iload 5, 2) := by decide +kernel
theorem dX11_leastPassed_94 : decode cX11_leastPassed 94 = .ok (.invokevirtual 106, 3) := by decide +kernel
theorem dX11_leastPassed_97 : decode cX11_leastPassed 97 = .ok (.ifCond .le 19, 3) := by decide +kernel
theorem dX11_leastPassed_100 : decode cX11_leastPassed 100 = .ok (.aload_n 0, 1) := by decide +kernel
theorem dX11_leastPassed_101 : decode cX11_leastPassed 101 = .ok (.getfield 22, 3) := by decide +kernel
theorem dX11_leastPassed_104 : decode cX11_leastPassed 104 = .ok (.iload 5, 2) := by decide +kernel
theorem dX11_leastPassed_106 : decode cX11_leastPassed 106 = .ok (.iaload, 1) := by decide +kernel
theorem dX11_leastPassed_107 : decode cX11_leastPassed 107 = .ok (.ldc 120, 2) := by decide +kernel
theorem dX11_leastPassed_109 : decode cX11_leastPassed 109 = .ok (.if_icmp .ge 7, 3) := by decide +kernel
theorem dX11_leastPassed_112 : decode cX11_leastPassed 112 = .ok (.iconst 1, 1) := by decide +kernel
theorem dX11_leastPassed_113 : decode cX11_leastPassed 113 = .ok (.goto 4, 3) := by decide +kernel
theorem dX11_leastPassed_116 : decode cX11_leastPassed 116 = .ok (.iconst 0, 1) := by decide +kernel
theorem dX11_leastPassed_117 : decode cX11_leastPassed 117 = .ok (.istore 6, 2) := by decide +kernel
theorem dX11_leastPassed_119 : decode cX11_leastPassed 119 = .ok (.aload_n 0, 1) := by decide +kernel
theorem dX11_leastPassed_120 : decode cX11_leastPassed 120 = .ok (.getfield 22, 3) := by decide +kernel
theorem dX11_leastPassed_123 : decode cX11_leastPassed 123 = .ok (.iload 4, 2) := by decide +kernel
theorem dX11_leastPassed_125 : decode cX11_leastPassed 125 = .ok (.iload 6, 2) := by decide +kernel
theorem dX11_leastPassed_127 : decode cX11_leastPassed 127 = .ok (.ifCond .eq 41, 3) := by decide +kernel
theorem dX11_leastPassed_130 : decode cX11_leastPassed 130 = .ok (.aload_n 0, 1) := by decide +kernel
theorem dX11_leastPassed_131 : decode cX11_leastPassed 131 = .ok (.getfield 22, 3) := by decide +kernel
theorem dX11_leastPassed_134 : decode cX11_leastPassed 134 = .ok (.iload 4, 2) := by decide +kernel
theorem dX11_leastPassed_136 : decode cX11_leastPassed 136 = .ok (.iaload, 1) := by decide +kernel
theorem dX11_leastPassed_137 : decode cX11_leastPassed 137 = .ok (.aload_n 0, 1) := by decide +kernel
theorem dX11_leastPassed_138 : decode cX11_leastPassed 138 = .ok (.getfield 22, 3) := by decide +kernel
theorem dX11_leastPassed_141 : decode cX11_leastPassed 141 = .ok (.iload 5, 2) := by decide +kernel
theorem dX11_leastPassed_143 : decode cX11_leastPassed 143 = .ok (.iaload, 1) := by decide +kernel
theorem dX11_leastPassed_144 : decode cX11_leastPassed 144 = .ok (.aload_n 0, 1) := by decide +kernel
theorem dX11_leastPassed_145 : decode cX11_leastPassed 145 = .ok (.iload 4, 2) := by decide +kernel
theorem dX11_leastPassed_147 : decode cX11_leastPassed 147 = .ok (.iload 5, 2) := by decide +kernel
theorem dX11_leastPassed_149 : decode cX11_leastPassed 149 = .ok (.invokevirtual 117, 3) := by decide +kernel
theorem dX11_leastPassed_152 : decode cX11_leastPassed 152 = .ok (.aload_n 0, 1) := by decide +kernel
theorem dX11_leastPassed_153 : decode cX11_leastPassed 153 = .ok (.iload_n 1, 1) := by decide +kernel
theorem dX11_leastPassed_154 : decode cX11_leastPassed 154 = .ok (.iconst 1, 1) := by decide +kernel
theorem dX11_leastPassed_155 : decode cX11_leastPassed 155 = .ok (.invokevirtual 144, 3) := by decide +kernel
theorem dX11_leastPassed_158 : decode cX11_leastPassed 158 = .ok (.invokestatic 197, 3) := by decide +kernel
theorem dX11_leastPassed_161 : decode cX11_leastPassed 161 = .ok (.iadd, 1) := by decide +kernel
theorem dX11_leastPassed_162 : decode cX11_leastPassed 162 = .ok (.invokestatic 206, 3) := by decide +kernel
theorem dX11_leastPassed_165 : decode cX11_leastPassed 165 = .ok (.goto 10, 3) := by decide +kernel
theorem dX11_leastPassed_168 : decode cX11_leastPassed 168 = .ok (.aload_n 0, 1) := by decide +kernel
theorem dX11_leastPassed_169 : decode cX11_leastPassed 169 = .ok (.getfield 22, 3) := by decide +kernel
theorem dX11_leastPassed_172 : decode cX11_leastPassed 172 = .ok (.iload 4, 2) := by decide +kernel
theorem dX11_leastPassed_174 : decode cX11_leastPassed 174 = .ok (.iaload, 1) := by decide +kernel
theorem dX11_leastPassed_175 : decode cX11_leastPassed 175 = .ok (.iastore, 1) := by decide +kernel
theorem dX11_leastPassed_176 : decode cX11_leastPassed 176 = .ok (.iinc 5 1, 3) := by decide +kernel
theorem dX11_leastPassed_179 : decode cX11_leastPassed 179 = .ok (.goto (-97), 3) := by decide +kernel
theorem dX11_leastPassed_182 : decode cX11_leastPassed 182 = .ok (.iinc 4 1, 3) := by decide +kernel
theorem dX11_leastPassed_185 : decode cX11_leastPassed 185 = .ok (.goto (-113), 3) := by decide +kernel
theorem dX11_leastPassed_188 : decode cX11_leastPassed 188 = .ok (.iinc 3 1, 3) := by decide +kernel
theorem dX11_leastPassed_191 : decode cX11_leastPassed 191 = .ok (.goto (-128), 3) := by decide +kernel
theorem dX11_leastPassed_194 : decode cX11_leastPassed 194 = .ok (.aload_n 0, 1) := by decide +kernel
theorem dX11_leastPassed_195 : decode cX11_leastPassed 195 = .ok (.getfield 22, 3) := by decide +kernel
theorem dX11_leastPassed_198 : decode cX11_leastPassed 198 = .ok (.aload_n 0, 1) := by decide +kernel
theorem dX11_leastPassed_199 : decode cX11_leastPassed 199 = .ok (.iload_n 1, 1) := by decide +kernel
theorem dX11_leastPassed_200 : decode cX11_leastPassed 200 = .ok (.iconst 0, 1) := by decide +kernel
theorem dX11_leastPassed_201 : decode cX11_leastPassed 201 = .ok (.invokevirtual 144, 3) := by decide +kernel
theorem dX11_leastPassed_204 : decode cX11_leastPassed 204 = .ok (.iaload, 1) := by decide +kernel
theorem dX11_leastPassed_205 : decode cX11_leastPassed 205 = .ok (.istore_n 3, 1) := by decide +kernel
theorem dX11_leastPassed_206 : decode cX11_leastPassed 206 = .ok (.aload_n 0, 1) := by decide +kernel
theorem dX11_leastPassed_207 : decode cX11_leastPassed 207 = .ok (.iload_n 3, 1) := by decide +kernel
theorem dX11_leastPassed_208 : decode cX11_leastPassed 208 = .ok (.ldc 120, 2) := by decide +kernel
theorem dX11_leastPassed_210 : decode cX11_leastPassed 210 = .ok (.if_icmp .ne 7, 3) := by decide +kernel
theorem dX11_leastPassed_213 : decode cX11_leastPassed 213 = .ok (.iconst 2, 1) := by decide +kernel
theorem dX11_leastPassed_214 : decode cX11_leastPassed 214 = .ok (.goto 4, 3) := by decide +kernel
theorem dX11_leastPassed_217 : decode cX11_leastPassed 217 = .ok (.iconst 0, 1) := by decide +kernel
theorem dX11_leastPassed_218 : decode cX11_leastPassed 218 = .ok (.putfield 51, 3) := by decide +kernel
theorem dX11_leastPassed_221 : decode cX11_leastPassed 221 = .ok (.aload_n 0, 1) := by decide +kernel
theorem dX11_leastPassed_222 : decode cX11_leastPassed 222 = .ok (.getfield 51, 3) := by decide +kernel
theorem dX11_leastPassed_225 : decode cX11_leastPassed 225 = .ok (.ifCond .le 7, 3) := by decide +kernel
theorem dX11_leastPassed_228 : decode cX11_leastPassed 228 = .ok (.iconst 0, 1) := by decide +kernel
theorem dX11_leastPassed_229 : decode cX11_leastPassed 229 = .ok (.goto 4, 3) := by decide +kernel
theorem dX11_leastPassed_232 : decode cX11_leastPassed 232 = .ok (.iload_n 3, 1) := by decide +kernel
theorem dX11_leastPassed_233 : decode cX11_leastPassed 233 = .ok (.ireturn, 1) := by decide +kernel
abbrev rmX11_leastPassed : Room := { frames := 4, cells := 0, slots := 0, locals := 103 }
set_option maxHeartbeats 4000000 in
set_option maxRecDepth 100000 in
theorem metX11_leastPassed {l : Launch} {s0 : State} {b B : Nat} {D : va_G} {T : Nat → ClassId} (F : FX l s0 b D T B) {X : Nat → Prop} (hX : ∀ o, o < 12 → ¬ X (B + o)) {N : Nat} {μ : Mem} {a0 : Nat} {a1 : Int32} {a2 : Int32} {r : Mem × Int32} (k0 : IsMo a0) (h : fX11_leastPassed N μ a0 a1 a2 = some r) : gMet l yX11_leastPassed cX11_leastPassed 7 (some .int) rmX11_leastPassed [.ref (B + a0), .int a1, .int a2] (gWM D T B μ) (KC s0 X) (some (.int r.2)) (gWM D T B r.1) (gA B X) 0 0 := by
  refine gI_of RX11 (by decide +kernel) rfl (Nat.le_of_ble_eq_true rfl) ?_
  intro p e s m args below meth c ls Q hx hb hlocks hml hown hts hW hk hl hS hend
  have hC := FX_C F hk hx hb hown hts
  have hA := gA_allM hX
  have hl : lv_has ls 7 [(0, .ref (B + a0)), (1, .int a1), (2, .int a2)] := hl
  unfold fX11_leastPassed at h
  refine lv_aload_n hx hb dX11_leastPassed_0 rfl (lv_at hl 0 rfl) ?_
  refine lv_aload_n hx hb dX11_leastPassed_1 rfl (lv_at hl 0 rfl) ?_
  refine lv_iload_n hx hb dX11_leastPassed_2 rfl (lv_at hl 1 rfl) ?_
  obtain ⟨r1, hcall, h⟩ := bd_out h
  refine g0_callV (As := [.int a1]) hC hml hS hW (KC_at hk hS F.2.2.2.2) KC_blind (metX11_isExhibit F hX k0 hcall) ml_X11_141 (gw_recv hC hW k0.1 (k0.2.1 T B (μ a0)) rfl) ⟨rfl, rfl, Nat.le_of_ble_eq_true rfl, Nat.le_of_ble_eq_true rfl⟩ rfl hl.1 rfl (Nat.le_of_ble_eq_true rfl) dX11_leastPassed_3 ⟨Nat.le_of_ble_eq_true rfl, Nat.le_of_ble_eq_true rfl⟩ (fun H locs hW hS => ?_)
  obtain ⟨j3, hj5, h⟩ := jn1_o h
  have J4 : ∀ (y2 : Bool), j3 y2 = some r → ∀ (H : Heap) (locs : List Loc) (ls : Array Slot), gWM D T B μ H → va_S (gA B X) s.heap H locs → lv_has ls 7 [(0, .ref (B + a0)), (1, .int a1), (2, .int a2)] → W p l e rmX11_leastPassed s m args below meth c H locs 0 0 Q (F0 m 22 ls [.int (b2i y2), .ref (B + a0)]) := by
    clear h hW hS hl
    intro y2 h H locs ls hW hS hl
    replace h := (hj5 y2).symm.trans h
    obtain ⟨r6, hcall, h⟩ := bd_out h
    refine g0_callV (As := [.int (b2i y2)]) hC hml hS hW (KC_at hk hS F.2.2.2.2) KC_blind (metX11_isThere F hX k0 hcall) ml_X11_113 (gw_recv hC hW k0.1 (k0.2.1 T B (μ a0)) rfl) ⟨rfl, rfl, Nat.le_of_ble_eq_true rfl, Nat.le_of_ble_eq_true rfl⟩ rfl hl.1 rfl (Nat.le_of_ble_eq_true rfl) dX11_leastPassed_22 ⟨Nat.le_of_ble_eq_true rfl, Nat.le_of_ble_eq_true rfl⟩ (fun H locs hW hS => ?_)
    refine gw_if_neZ (tgt := 30) hx hb dX11_leastPassed_25 (by decide) (fun c7 => ?_) (fun c7 => ?_)
    · replace h := cond_t c7 h
      refine lv_iconst (v := 0) hx hb dX11_leastPassed_30 (by decide) ?_
      refine lv_istore_n (lv' := [(3, .int 0), (0, .ref (B + a0)), (1, .int a1), (2, .int a2)]) hx hb dX11_leastPassed_31 rfl hl (by decide) rfl (fun ls hl => ?_)
      refine fix2_ind (fun (x8 : Int32) (μ9 : Mem) => ∀ (H : Heap) (locs : List Loc) (ls : Array Slot), gWM D T B μ9 H → va_S (gA B X) s.heap H locs → lv_has ls 7 [(0, .ref (B + a0)), (1, .int a1), (2, .int a2), (3, .int x8)] → W p l e rmX11_leastPassed s m args below meth c H locs 0 0 Q (F0 m 32 ls [])) ?_ N _ _ h _ _ _ hW hS (lv_sub hl [1, 2, 3, 0] rfl)
      clear h hW hS hl
      intro self10 IH11 x8 μ9 h H locs ls hW hS hl
      refine lv_iload_n hx hb dX11_leastPassed_32 rfl (lv_at hl 3 rfl) ?_
      refine lv_bipush (v := 6) hx hb dX11_leastPassed_33 (by decide) ?_
      refine lv_icmp_ge (tgt := 61) hx hb dX11_leastPassed_35 (by decide) (fun c12 => ?_) (fun c12 => ?_)
      · replace h := ite_t c12 h
        refine lv_iconst (v := 0) hx hb dX11_leastPassed_61 (by decide) ?_
        refine lv_istore_n (lv' := [(3, .int 0), (0, .ref (B + a0)), (1, .int a1), (2, .int a2)]) hx hb dX11_leastPassed_62 rfl hl (by decide) rfl (fun ls hl => ?_)
        refine fix2_ind (fun (x13 : Int32) (μ14 : Mem) => ∀ (H : Heap) (locs : List Loc) (ls : Array Slot), gWM D T B μ14 H → va_S (gA B X) s.heap H locs → lv_has ls 7 [(0, .ref (B + a0)), (1, .int a1), (3, .int x13)] → W p l e rmX11_leastPassed s m args below meth c H locs 0 0 Q (F0 m 63 ls [])) ?_ N _ _ h _ _ _ hW hS (lv_sub hl [1, 2, 0] rfl)
        clear h hW hS hl
        intro self15 IH16 x13 μ14 h H locs ls hW hS hl
        refine lv_iload_n hx hb dX11_leastPassed_63 rfl (lv_at hl 2 rfl) ?_
        refine lv_bipush (v := 6) hx hb dX11_leastPassed_64 (by decide) ?_
        refine lv_icmp_ge (tgt := 194) hx hb dX11_leastPassed_66 (by decide) (fun c17 => ?_) (fun c17 => ?_)
        · replace h := ite_t c17 h
          refine lv_aload_n hx hb dX11_leastPassed_194 rfl (lv_at hl 0 rfl) ?_
          refine gw_get (v := .ref (B + (a0 + 5))) hC hW fl_X11_22 k0.1 (k0.2.1 T B (μ14 a0)) rfl dX11_leastPassed_195 ?_
          refine lv_aload_n hx hb dX11_leastPassed_198 rfl (lv_at hl 0 rfl) ?_
          refine lv_iload_n hx hb dX11_leastPassed_199 rfl (lv_at hl 1 rfl) ?_
          refine lv_iconst (v := 0) hx hb dX11_leastPassed_200 (by decide) ?_
          obtain ⟨r18, hcall, h⟩ := bd_out h
          refine g0_callV (As := [.int a1, .int 0]) hC hml hS hW (KC_at hk hS F.2.2.2.2) KC_blind (metX11_of F hX k0 hcall) ml_X11_144 (gw_recv hC hW k0.1 (k0.2.1 T B (μ14 a0)) rfl) ⟨rfl, rfl, Nat.le_of_ble_eq_true rfl, Nat.le_of_ble_eq_true rfl⟩ rfl hl.1 rfl (Nat.le_of_ble_eq_true rfl) dX11_leastPassed_201 ⟨Nat.le_of_ble_eq_true rfl, Nat.le_of_ble_eq_true rfl⟩ (fun H locs hW hS => ?_)
          obtain ⟨v19, e20, hi21, h⟩ := ag_o h
          refine gq_iald hC hW k0.2.2.2.2.2.2.1.1 (k0.2.2.2.2.2.2.1.2 T B (μ14 (a0 + 5))) (t0 := 0) rfl e20 hi21 dX11_leastPassed_204 ?_
          refine lv_istore_n (lv' := [(3, .int v19), (0, .ref (B + a0)), (1, .int a1)]) hx hb dX11_leastPassed_205 rfl hl (by decide) rfl (fun ls hl => ?_)
          refine lv_aload_n hx hb dX11_leastPassed_206 rfl (lv_at hl 1 rfl) ?_
          refine lv_iload_n hx hb dX11_leastPassed_207 rfl (lv_at hl 0 rfl) ?_
          refine lv_ldc (v := 100000) hx hb hown (hts _ kc_X11_120) dX11_leastPassed_208 ?_
          obtain ⟨j23, hj25, h⟩ := jn1_o h
          have J24 : ∀ (y22 : Int32), j23 y22 = some r → ∀ (H : Heap) (locs : List Loc) (ls : Array Slot), gWM D T B μ14 H → va_S (gA B X) s.heap H locs → lv_has ls 7 [(0, .ref (B + a0)), (3, .int v19)] → W p l e rmX11_leastPassed s m args below meth c H locs 0 0 Q (F0 m 218 ls [.int y22, .ref (B + a0)]) := by
            clear h hW hS hl
            intro y22 h H locs ls hW hS hl
            replace h := (hj25 y22).symm.trans h
            obtain ⟨μ26, e27, h⟩ := lt_out h
            refine gq_put hC hS hW hA fl_X11_51 k0.1 (k0.2.1 T B) (Nat.le_of_ble_eq_true rfl) rfl rfl rfl e27 dX11_leastPassed_218 (fun H locs hW hS => ?_)
            refine lv_aload_n hx hb dX11_leastPassed_221 rfl (lv_at hl 0 rfl) ?_
            refine gw_get (v := .int (μ26 a0 6)) hC hW fl_X11_51.1 k0.1 (k0.2.1 T B (μ26 a0)) rfl dX11_leastPassed_222 ?_
            obtain ⟨j29, hj31, h⟩ := jn1_o h
            have J30 : ∀ (y28 : Int32), j29 y28 = some r → ∀ (H : Heap) (locs : List Loc) (ls : Array Slot), gWM D T B μ26 H → va_S (gA B X) s.heap H locs → lv_has ls 7 [] → W p l e rmX11_leastPassed s m args below meth c H locs 0 0 Q (F0 m 233 ls [.int y28]) := by
              clear h hW hS hl
              intro y28 h H locs ls hW hS hl
              replace h := (hj31 y28).symm.trans h
              cases h
              exact hend dX11_leastPassed_233 hW hS (Nat.le_of_ble_eq_true rfl) (Nat.le_of_ble_eq_true rfl)
            refine lv_if_le (tgt := 232) hx hb dX11_leastPassed_225 (by decide) (fun c32 => ?_) (fun c32 => ?_)
            · replace h := ite_t c32 h
              refine lv_iload_n hx hb dX11_leastPassed_232 rfl (lv_at hl 1 rfl) ?_
              exact J30 _ h _ _ _ hW hS (lv_sub hl [] rfl)
            · replace h := ite_f c32 h
              refine lv_iconst (v := 0) hx hb dX11_leastPassed_228 (by decide) ?_
              refine lv_goto (tgt := 233) hx hb dX11_leastPassed_229 (by decide) ?_
              exact J30 _ h _ _ _ hW hS (lv_sub hl [] rfl)
          refine lv_icmp_ne (tgt := 217) hx hb dX11_leastPassed_210 (by decide) (fun c33 => ?_) (fun c33 => ?_)
          · replace h := ite_f c33 h
            refine lv_iconst (v := 0) hx hb dX11_leastPassed_217 (by decide) ?_
            exact J24 _ h _ _ _ hW hS (lv_sub hl [1, 0] rfl)
          · replace h := ite_t c33 h
            refine lv_iconst (v := 2) hx hb dX11_leastPassed_213 (by decide) ?_
            refine lv_goto (tgt := 218) hx hb dX11_leastPassed_214 (by decide) ?_
            exact J24 _ h _ _ _ hW hS (lv_sub hl [1, 0] rfl)
        · replace h := ite_f c17 h
          refine lv_iconst (v := 0) hx hb dX11_leastPassed_69 (by decide) ?_
          refine lv_istore (lv' := [(4, .int 0), (0, .ref (B + a0)), (1, .int a1), (3, .int x13)]) hx hb dX11_leastPassed_70 hl (by decide) rfl (fun ls hl => ?_)
          refine fix2_ind (fun (x34 : Int32) (μ35 : Mem) => ∀ (H : Heap) (locs : List Loc) (ls : Array Slot), gWM D T B μ35 H → va_S (gA B X) s.heap H locs → lv_has ls 7 [(0, .ref (B + a0)), (1, .int a1), (3, .int x13), (4, .int x34)] → W p l e rmX11_leastPassed s m args below meth c H locs 0 0 Q (F0 m 72 ls [])) ?_ N _ _ h _ _ _ hW hS (lv_sub hl [1, 2, 3, 0] rfl)
          clear h hW hS hl
          intro self36 IH37 x34 μ35 h H locs ls hW hS hl
          refine lv_iload hx hb dX11_leastPassed_72 (lv_at hl 3 rfl) ?_
          refine lv_bipush (v := 6) hx hb dX11_leastPassed_74 (by decide) ?_
          refine lv_icmp_ge (tgt := 188) hx hb dX11_leastPassed_76 (by decide) (fun c38 => ?_) (fun c38 => ?_)
          · replace h := ite_t c38 h
            obtain ⟨v39, e40, h⟩ := lt_out h
            refine lv_iinc (v := v39) (lv' := [(3, .int v39), (0, .ref (B + a0)), (1, .int a1), (4, .int x34)]) hx hb dX11_leastPassed_188 hl (k := 2) rfl (by rw [e40]; rfl) (by decide) rfl (fun ls hl => ?_)
            refine lv_goto (tgt := 63) hx hb dX11_leastPassed_191 (by decide) ?_
            exact IH16 _ _ h _ _ _ hW hS (lv_sub hl [1, 2, 0] rfl)
          · replace h := ite_f c38 h
            refine lv_iconst (v := 0) hx hb dX11_leastPassed_79 (by decide) ?_
            refine lv_istore (lv' := [(5, .int 0), (0, .ref (B + a0)), (1, .int a1), (3, .int x13), (4, .int x34)]) hx hb dX11_leastPassed_80 hl (by decide) rfl (fun ls hl => ?_)
            refine fix2_ind (fun (x41 : Int32) (μ42 : Mem) => ∀ (H : Heap) (locs : List Loc) (ls : Array Slot), gWM D T B μ42 H → va_S (gA B X) s.heap H locs → lv_has ls 7 [(0, .ref (B + a0)), (1, .int a1), (3, .int x13), (4, .int x34), (5, .int x41)] → W p l e rmX11_leastPassed s m args below meth c H locs 0 0 Q (F0 m 82 ls [])) ?_ N _ _ h _ _ _ hW hS (lv_sub hl [1, 2, 3, 4, 0] rfl)
            clear h hW hS hl
            intro self43 IH44 x41 μ42 h H locs ls hW hS hl
            refine lv_iload hx hb dX11_leastPassed_82 (lv_at hl 4 rfl) ?_
            refine lv_bipush (v := 6) hx hb dX11_leastPassed_84 (by decide) ?_
            refine lv_icmp_ge (tgt := 182) hx hb dX11_leastPassed_86 (by decide) (fun c45 => ?_) (fun c45 => ?_)
            · replace h := ite_t c45 h
              obtain ⟨v46, e47, h⟩ := lt_out h
              refine lv_iinc (v := v46) (lv' := [(4, .int v46), (0, .ref (B + a0)), (1, .int a1), (3, .int x13), (5, .int x41)]) hx hb dX11_leastPassed_182 hl (k := 3) rfl (by rw [e47]; rfl) (by decide) rfl (fun ls hl => ?_)
              refine lv_goto (tgt := 72) hx hb dX11_leastPassed_185 (by decide) ?_
              exact IH37 _ _ h _ _ _ hW hS (lv_sub hl [1, 2, 3, 0] rfl)
            · replace h := ite_f c45 h
              refine lv_aload_n hx hb dX11_leastPassed_89 rfl (lv_at hl 0 rfl) ?_
              refine lv_iload hx hb dX11_leastPassed_90 (lv_at hl 3 rfl) ?_
              refine lv_iload hx hb dX11_leastPassed_92 (lv_at hl 4 rfl) ?_
              obtain ⟨r48, hcall, h⟩ := bd_out h
              refine g0_callV (As := [.int x34, .int x41]) hC hml hS hW (KC_at hk hS F.2.2.2.2) KC_blind (metX11_leg F hX k0 hcall) ml_X11_106 (gw_recv hC hW k0.1 (k0.2.1 T B (μ42 a0)) rfl) ⟨rfl, rfl, Nat.le_of_ble_eq_true rfl, Nat.le_of_ble_eq_true rfl⟩ rfl hl.1 rfl (Nat.le_of_ble_eq_true rfl) dX11_leastPassed_94 ⟨Nat.le_of_ble_eq_true rfl, Nat.le_of_ble_eq_true rfl⟩ (fun H locs hW hS => ?_)
              obtain ⟨j50, hj52, h⟩ := jn1_o h
              have J51 : ∀ (y49 : Bool), j50 y49 = some r → ∀ (H : Heap) (locs : List Loc) (ls : Array Slot), gWM D T B μ42 H → va_S (gA B X) s.heap H locs → lv_has ls 7 [(0, .ref (B + a0)), (1, .int a1), (3, .int x13), (4, .int x34), (5, .int x41)] → W p l e rmX11_leastPassed s m args below meth c H locs 0 0 Q (F0 m 117 ls [.int (b2i y49)]) := by
                clear h hW hS hl
                intro y49 h H locs ls hW hS hl
                replace h := (hj52 y49).symm.trans h
                refine lv_istore (lv' := [(6, .int (b2i y49)), (0, .ref (B + a0)), (1, .int a1), (3, .int x13), (4, .int x34), (5, .int x41)]) hx hb dX11_leastPassed_117 hl (by decide) rfl (fun ls hl => ?_)
                refine lv_aload_n hx hb dX11_leastPassed_119 rfl (lv_at hl 1 rfl) ?_
                refine gw_get (v := .ref (B + (a0 + 5))) hC hW fl_X11_22 k0.1 (k0.2.1 T B (μ42 a0)) rfl dX11_leastPassed_120 ?_
                refine lv_iload hx hb dX11_leastPassed_123 (lv_at hl 4 rfl) ?_
                refine lv_iload hx hb dX11_leastPassed_125 (lv_at hl 0 rfl) ?_
                obtain ⟨j54, hj56, h⟩ := jn1_o h
                have J55 : ∀ (y53 : Int32), j54 y53 = some r → ∀ (H : Heap) (locs : List Loc) (ls : Array Slot), gWM D T B μ42 H → va_S (gA B X) s.heap H locs → lv_has ls 7 [(0, .ref (B + a0)), (1, .int a1), (3, .int x13), (4, .int x34), (5, .int x41)] → W p l e rmX11_leastPassed s m args below meth c H locs 0 0 Q (F0 m 175 ls [.int y53, .int x34, .ref (B + (a0 + 5))]) := by
                  clear h hW hS hl
                  intro y53 h H locs ls hW hS hl
                  replace h := (hj56 y53).symm.trans h
                  obtain ⟨μ57, e58, hi59, h⟩ := aw_o h
                  refine gq_iast hC hS hW hA k0.2.2.2.2.2.2.1.1 (k0.2.2.2.2.2.2.1.2 T B) (t0 := 0) rfl e58 hi59 dX11_leastPassed_175 (fun H locs hW hS => ?_)
                  obtain ⟨v60, e61, h⟩ := lt_out h
                  refine lv_iinc (v := v60) (lv' := [(5, .int v60), (0, .ref (B + a0)), (1, .int a1), (3, .int x13), (4, .int x34)]) hx hb dX11_leastPassed_176 hl (k := 4) rfl (by rw [e61]; rfl) (by decide) rfl (fun ls hl => ?_)
                  refine lv_goto (tgt := 82) hx hb dX11_leastPassed_179 (by decide) ?_
                  exact IH44 _ _ h _ _ _ hW hS (lv_sub hl [1, 2, 3, 4, 0] rfl)
                refine gw_if_eqZ (tgt := 168) hx hb dX11_leastPassed_127 (by decide) (fun c62 => ?_) (fun c62 => ?_)
                · replace h := cond_f c62 h
                  refine lv_aload_n hx hb dX11_leastPassed_168 rfl (lv_at hl 1 rfl) ?_
                  refine gw_get (v := .ref (B + (a0 + 5))) hC hW fl_X11_22 k0.1 (k0.2.1 T B (μ42 a0)) rfl dX11_leastPassed_169 ?_
                  refine lv_iload hx hb dX11_leastPassed_172 (lv_at hl 4 rfl) ?_
                  obtain ⟨v63, e64, hi65, h⟩ := ag_o h
                  refine gq_iald hC hW k0.2.2.2.2.2.2.1.1 (k0.2.2.2.2.2.2.1.2 T B (μ42 (a0 + 5))) (t0 := 0) rfl e64 hi65 dX11_leastPassed_174 ?_
                  exact J55 _ h _ _ _ hW hS (lv_sub hl [1, 2, 3, 4, 5] rfl)
                · replace h := cond_t c62 h
                  refine lv_aload_n hx hb dX11_leastPassed_130 rfl (lv_at hl 1 rfl) ?_
                  refine gw_get (v := .ref (B + (a0 + 5))) hC hW fl_X11_22 k0.1 (k0.2.1 T B (μ42 a0)) rfl dX11_leastPassed_131 ?_
                  refine lv_iload hx hb dX11_leastPassed_134 (lv_at hl 4 rfl) ?_
                  obtain ⟨v66, e67, hi68, h⟩ := ag_o h
                  refine gq_iald hC hW k0.2.2.2.2.2.2.1.1 (k0.2.2.2.2.2.2.1.2 T B (μ42 (a0 + 5))) (t0 := 0) rfl e67 hi68 dX11_leastPassed_136 ?_
                  refine lv_aload_n hx hb dX11_leastPassed_137 rfl (lv_at hl 1 rfl) ?_
                  refine gw_get (v := .ref (B + (a0 + 5))) hC hW fl_X11_22 k0.1 (k0.2.1 T B (μ42 a0)) rfl dX11_leastPassed_138 ?_
                  refine lv_iload hx hb dX11_leastPassed_141 (lv_at hl 5 rfl) ?_
                  obtain ⟨v69, e70, hi71, h⟩ := ag_o h
                  refine gq_iald hC hW k0.2.2.2.2.2.2.1.1 (k0.2.2.2.2.2.2.1.2 T B (μ42 (a0 + 5))) (t0 := 0) rfl e70 hi71 dX11_leastPassed_143 ?_
                  refine lv_aload_n hx hb dX11_leastPassed_144 rfl (lv_at hl 1 rfl) ?_
                  refine lv_iload hx hb dX11_leastPassed_145 (lv_at hl 4 rfl) ?_
                  refine lv_iload hx hb dX11_leastPassed_147 (lv_at hl 5 rfl) ?_
                  obtain ⟨r72, hcall, h⟩ := bd_out h
                  refine g0_callV (As := [.int x34, .int x41]) hC hml hS hW (KC_at hk hS F.2.2.2.2) KC_blind (metX11_heat F hX k0 hcall) ml_X11_117 (gw_recv hC hW k0.1 (k0.2.1 T B (μ42 a0)) rfl) ⟨rfl, rfl, Nat.le_of_ble_eq_true rfl, Nat.le_of_ble_eq_true rfl⟩ rfl hl.1 rfl (Nat.le_of_ble_eq_true rfl) dX11_leastPassed_149 ⟨Nat.le_of_ble_eq_true rfl, Nat.le_of_ble_eq_true rfl⟩ (fun H locs hW hS => ?_)
                  refine lv_aload_n hx hb dX11_leastPassed_152 rfl (lv_at hl 1 rfl) ?_
                  refine lv_iload_n hx hb dX11_leastPassed_153 rfl (lv_at hl 2 rfl) ?_
                  refine lv_iconst (v := 1) hx hb dX11_leastPassed_154 (by decide) ?_
                  obtain ⟨r73, hcall, h⟩ := bd_out h
                  refine g0_callV (As := [.int a1, .int 1]) hC hml hS hW (KC_at hk hS F.2.2.2.2) KC_blind (metX11_of F hX k0 hcall) ml_X11_144 (gw_recv hC hW k0.1 (k0.2.1 T B (μ42 a0)) rfl) ⟨rfl, rfl, Nat.le_of_ble_eq_true rfl, Nat.le_of_ble_eq_true rfl⟩ rfl hl.1 rfl (Nat.le_of_ble_eq_true rfl) dX11_leastPassed_155 ⟨Nat.le_of_ble_eq_true rfl, Nat.le_of_ble_eq_true rfl⟩ (fun H locs hW hS => ?_)
                  obtain ⟨r74, hcall, h⟩ := bd_out h
                  refine g0_callS (As := [.int r72, .int r73]) hC hml hS hW (KC_at hk hS F.2.2.2.2) KC_blind (metX11_passed F hX  hcall) ml_X11_197 ⟨rfl, rfl, Nat.le_of_ble_eq_true rfl, Nat.le_of_ble_eq_true rfl⟩ rfl hl.1 rfl (Nat.le_of_ble_eq_true rfl) dX11_leastPassed_158 ⟨Nat.le_of_ble_eq_true rfl, Nat.le_of_ble_eq_true rfl⟩ (fun H locs hW hS => ?_)
                  refine lv_iadd hx hb dX11_leastPassed_161 ?_
                  refine gw_min hC (hml.trans hl.1.symm) lm_X11_206 lb_min.1 lb_min.2.1 lb_min.2.2 (Nat.le_of_ble_eq_true rfl) (Nat.le_of_ble_eq_true rfl) (Nat.le_of_ble_eq_true rfl) (Nat.le_of_ble_eq_true rfl) dX11_leastPassed_162 ?_
                  refine lv_goto (tgt := 175) hx hb dX11_leastPassed_165 (by decide) ?_
                  exact J55 _ h _ _ _ hW hS (lv_sub hl [1, 2, 3, 4, 5] rfl)
              obtain ⟨j76, hj78, h⟩ := jn1_o h
              have J77 : ∀ (u75 : Unit), j76 u75 = some r → ∀ (H : Heap) (locs : List Loc) (ls : Array Slot), gWM D T B μ42 H → va_S (gA B X) s.heap H locs → lv_has ls 7 [(0, .ref (B + a0)), (1, .int a1), (3, .int x13), (4, .int x34), (5, .int x41)] → W p l e rmX11_leastPassed s m args below meth c H locs 0 0 Q (F0 m 116 ls []) := by
                clear h hW hS hl
                intro u75 h H locs ls hW hS hl
                replace h := (hj78 u75).symm.trans h
                refine lv_iconst (v := 0) hx hb dX11_leastPassed_116 (by decide) ?_
                exact J51 _ h _ _ _ hW hS (lv_sub hl [0, 1, 2, 3, 4] rfl)
              refine lv_if_le (tgt := 116) hx hb dX11_leastPassed_97 (by decide) (fun c79 => ?_) (fun c79 => ?_)
              · replace h := ite_t c79 h
                exact J77 _ h _ _ _ hW hS (lv_sub hl [0, 1, 2, 3, 4] rfl)
              · replace h := ite_f c79 h
                refine lv_aload_n hx hb dX11_leastPassed_100 rfl (lv_at hl 0 rfl) ?_
                refine gw_get (v := .ref (B + (a0 + 5))) hC hW fl_X11_22 k0.1 (k0.2.1 T B (μ42 a0)) rfl dX11_leastPassed_101 ?_
                refine lv_iload hx hb dX11_leastPassed_104 (lv_at hl 4 rfl) ?_
                obtain ⟨v80, e81, hi82, h⟩ := ag_o h
                refine gq_iald hC hW k0.2.2.2.2.2.2.1.1 (k0.2.2.2.2.2.2.1.2 T B (μ42 (a0 + 5))) (t0 := 0) rfl e81 hi82 dX11_leastPassed_106 ?_
                refine lv_ldc (v := 100000) hx hb hown (hts _ kc_X11_120) dX11_leastPassed_107 ?_
                refine lv_icmp_ge (tgt := 116) hx hb dX11_leastPassed_109 (by decide) (fun c83 => ?_) (fun c83 => ?_)
                · replace h := ite_t c83 h
                  exact J77 _ h _ _ _ hW hS (lv_sub hl [0, 1, 2, 3, 4] rfl)
                · replace h := ite_f c83 h
                  refine lv_iconst (v := 1) hx hb dX11_leastPassed_112 (by decide) ?_
                  refine lv_goto (tgt := 117) hx hb dX11_leastPassed_113 (by decide) ?_
                  exact J51 _ h _ _ _ hW hS (lv_sub hl [0, 1, 2, 3, 4] rfl)
      · replace h := ite_f c12 h
        refine lv_aload_n hx hb dX11_leastPassed_38 rfl (lv_at hl 0 rfl) ?_
        refine gw_get (v := .ref (B + (a0 + 5))) hC hW fl_X11_22 k0.1 (k0.2.1 T B (μ9 a0)) rfl dX11_leastPassed_39 ?_
        refine lv_iload_n hx hb dX11_leastPassed_42 rfl (lv_at hl 3 rfl) ?_
        refine lv_iload_n hx hb dX11_leastPassed_43 rfl (lv_at hl 3 rfl) ?_
        refine lv_iload_n hx hb dX11_leastPassed_44 rfl (lv_at hl 2 rfl) ?_
        obtain ⟨j85, hj87, h⟩ := jn1_o h
        have J86 : ∀ (y84 : Int32), j85 y84 = some r → ∀ (H : Heap) (locs : List Loc) (ls : Array Slot), gWM D T B μ9 H → va_S (gA B X) s.heap H locs → lv_has ls 7 [(0, .ref (B + a0)), (1, .int a1), (2, .int a2), (3, .int x8)] → W p l e rmX11_leastPassed s m args below meth c H locs 0 0 Q (F0 m 54 ls [.int y84, .int x8, .ref (B + (a0 + 5))]) := by
          clear h hW hS hl
          intro y84 h H locs ls hW hS hl
          replace h := (hj87 y84).symm.trans h
          obtain ⟨μ88, e89, hi90, h⟩ := aw_o h
          refine gq_iast hC hS hW hA k0.2.2.2.2.2.2.1.1 (k0.2.2.2.2.2.2.1.2 T B) (t0 := 0) rfl e89 hi90 dX11_leastPassed_54 (fun H locs hW hS => ?_)
          obtain ⟨v91, e92, h⟩ := lt_out h
          refine lv_iinc (v := v91) (lv' := [(3, .int v91), (0, .ref (B + a0)), (1, .int a1), (2, .int a2)]) hx hb dX11_leastPassed_55 hl (k := 3) rfl (by rw [e92]; rfl) (by decide) rfl (fun ls hl => ?_)
          refine lv_goto (tgt := 32) hx hb dX11_leastPassed_58 (by decide) ?_
          exact IH11 _ _ h _ _ _ hW hS (lv_sub hl [1, 2, 3, 0] rfl)
        refine lv_icmp_ne (tgt := 52) hx hb dX11_leastPassed_45 (by decide) (fun c93 => ?_) (fun c93 => ?_)
        · replace h := ite_f c93 h
          refine lv_ldc (v := 100000) hx hb hown (hts _ kc_X11_120) dX11_leastPassed_52 ?_
          exact J86 _ h _ _ _ hW hS (lv_sub hl [0, 1, 2, 3] rfl)
        · replace h := ite_t c93 h
          refine lv_iconst (v := 0) hx hb dX11_leastPassed_48 (by decide) ?_
          refine lv_goto (tgt := 54) hx hb dX11_leastPassed_49 (by decide) ?_
          exact J86 _ h _ _ _ hW hS (lv_sub hl [0, 1, 2, 3] rfl)
    · replace h := cond_f c7 h
      refine lv_iconst (v := 0) hx hb dX11_leastPassed_28 (by decide) ?_
      cases h
      exact hend dX11_leastPassed_29 hW hS (Nat.le_of_ble_eq_true rfl) (Nat.le_of_ble_eq_true rfl)
  obtain ⟨j95, hj97, h⟩ := jn1_o h
  have J96 : ∀ (u94 : Unit), j95 u94 = some r → ∀ (H : Heap) (locs : List Loc) (ls : Array Slot), gWM D T B μ H → va_S (gA B X) s.heap H locs → lv_has ls 7 [(0, .ref (B + a0)), (1, .int a1), (2, .int a2)] → W p l e rmX11_leastPassed s m args below meth c H locs 0 0 Q (F0 m 21 ls [.ref (B + a0)]) := by
    clear h hW hS hl
    intro u94 h H locs ls hW hS hl
    replace h := (hj97 u94).symm.trans h
    refine lv_iconst (v := 0) hx hb dX11_leastPassed_21 (by decide) ?_
    exact J4 _ h _ _ _ hW hS (lv_sub hl [0, 1, 2] rfl)
  refine gw_if_eqZ (tgt := 21) hx hb dX11_leastPassed_6 (by decide) (fun c98 => ?_) (fun c98 => ?_)
  · replace h := cond_f c98 h
    exact J96 _ h _ _ _ hW hS (lv_sub hl [0, 1, 2] rfl)
  · replace h := cond_t c98 h
    refine lv_aload_n hx hb dX11_leastPassed_9 rfl (lv_at hl 0 rfl) ?_
    refine lv_iload_n hx hb dX11_leastPassed_10 rfl (lv_at hl 2 rfl) ?_
    obtain ⟨r99, hcall, h⟩ := bd_out h
    refine g0_callV (As := [.int a2]) hC hml hS hW (KC_at hk hS F.2.2.2.2) KC_blind (metX11_isRoom F hX k0 hcall) ml_X11_92 (gw_recv hC hW k0.1 (k0.2.1 T B (μ a0)) rfl) ⟨rfl, rfl, Nat.le_of_ble_eq_true rfl, Nat.le_of_ble_eq_true rfl⟩ rfl hl.1 rfl (Nat.le_of_ble_eq_true rfl) dX11_leastPassed_11 ⟨Nat.le_of_ble_eq_true rfl, Nat.le_of_ble_eq_true rfl⟩ (fun H locs hW hS => ?_)
    refine gw_if_eqZ (tgt := 21) hx hb dX11_leastPassed_14 (by decide) (fun c100 => ?_) (fun c100 => ?_)
    · replace h := cond_f c100 h
      exact J96 _ h _ _ _ hW hS (lv_sub hl [0, 1, 2] rfl)
    · replace h := cond_t c100 h
      refine lv_iconst (v := 1) hx hb dX11_leastPassed_17 (by decide) ?_
      refine lv_goto (tgt := 22) hx hb dX11_leastPassed_18 (by decide) ?_
      exact J4 _ h _ _ _ hW hS (lv_sub hl [0, 1, 2] rfl)

theorem dX11_leastPassedByRounds_0 : decode cX11_leastPassedByRounds 0 = .ok (.aload_n 0, 1) := by decide +kernel
theorem dX11_leastPassedByRounds_1 : decode cX11_leastPassedByRounds 1 = .ok (.iload_n 1, 1) := by decide +kernel
theorem dX11_leastPassedByRounds_2 : decode cX11_leastPassedByRounds 2 = .ok (.iload_n 2, 1) := by decide +kernel
theorem dX11_leastPassedByRounds_3 : decode cX11_leastPassedByRounds 3 = .ok (.invokevirtual 209, 3) := by decide +kernel
theorem dX11_leastPassedByRounds_6 : decode cX11_leastPassedByRounds 6 = .ok (.ireturn, 1) := by decide +kernel
abbrev rmX11_leastPassedByRounds : Room := { frames := 5, cells := 0, slots := 0, locals := 129 }
set_option maxHeartbeats 4000000 in
set_option maxRecDepth 100000 in
theorem metX11_leastPassedByRounds {l : Launch} {s0 : State} {b B : Nat} {D : va_G} {T : Nat → ClassId} (F : FX l s0 b D T B) {X : Nat → Prop} (hX : ∀ o, o < 12 → ¬ X (B + o)) {N : Nat} {μ : Mem} {a0 : Nat} {a1 : Int32} {a2 : Int32} {r : Mem × Int32} (k0 : IsMo a0) (h : fX11_leastPassedByRounds N μ a0 a1 a2 = some r) : gMet l yX11_leastPassedByRounds cX11_leastPassedByRounds 3 (some .int) rmX11_leastPassedByRounds [.ref (B + a0), .int a1, .int a2] (gWM D T B μ) (KC s0 X) (some (.int r.2)) (gWM D T B r.1) (gA B X) 0 0 := by
  refine gI_of RX11 (by decide +kernel) rfl (Nat.le_of_ble_eq_true rfl) ?_
  intro p e s m args below meth c ls Q hx hb hlocks hml hown hts hW hk hl hS hend
  have hC := FX_C F hk hx hb hown hts
  have hA := gA_allM hX
  have hl : lv_has ls 3 [(0, .ref (B + a0)), (1, .int a1), (2, .int a2)] := hl
  unfold fX11_leastPassedByRounds at h
  refine lv_aload_n hx hb dX11_leastPassedByRounds_0 rfl (lv_at hl 0 rfl) ?_
  refine lv_iload_n hx hb dX11_leastPassedByRounds_1 rfl (lv_at hl 1 rfl) ?_
  refine lv_iload_n hx hb dX11_leastPassedByRounds_2 rfl (lv_at hl 2 rfl) ?_
  obtain ⟨r1, hcall, h⟩ := bd_out h
  refine g0_callV (As := [.int a1, .int a2]) hC hml hS hW (KC_at hk hS F.2.2.2.2) KC_blind (metX11_leastPassed F hX k0 hcall) ml_X11_209 (gw_recv hC hW k0.1 (k0.2.1 T B (μ a0)) rfl) ⟨rfl, rfl, Nat.le_of_ble_eq_true rfl, Nat.le_of_ble_eq_true rfl⟩ rfl hl.1 rfl (Nat.le_of_ble_eq_true rfl) dX11_leastPassedByRounds_3 ⟨Nat.le_of_ble_eq_true rfl, Nat.le_of_ble_eq_true rfl⟩ (fun H locs hW hS => ?_)
  cases h
  exact hend dX11_leastPassedByRounds_6 hW hS (Nat.le_of_ble_eq_true rfl) (Nat.le_of_ble_eq_true rfl)

theorem dX11_doPassDays_0 : decode cX11_doPassDays 0 = .ok (.iload_n 1, 1) := by decide +kernel
theorem dX11_doPassDays_1 : decode cX11_doPassDays 1 = .ok (.iconst 1, 1) := by decide +kernel
theorem dX11_doPassDays_2 : decode cX11_doPassDays 2 = .ok (.bipush 99, 2) := by decide +kernel
theorem dX11_doPassDays_4 : decode cX11_doPassDays 4 = .ok (.invokestatic 73, 3) := by decide +kernel
theorem dX11_doPassDays_7 : decode cX11_doPassDays 7 = .ok (.ifCond .ne 9, 3) := by decide +kernel
theorem dX11_doPassDays_10 : decode cX11_doPassDays 10 = .ok (.aload_n 0, 1) := by decide +kernel
theorem dX11_doPassDays_11 : decode cX11_doPassDays 11 = .ok (.iconst 1, 1) := by decide +kernel
theorem dX11_doPassDays_12 : decode cX11_doPassDays 12 = .ok (.invokevirtual 69, 3) := by decide +kernel
theorem dX11_doPassDays_15 : decode cX11_doPassDays 15 = .ok (.ireturn, 1) := by decide +kernel
theorem dX11_doPassDays_16 : decode cX11_doPassDays 16 = .ok (.iconst 0, 1) := by decide +kernel
theorem dX11_doPassDays_17 : decode cX11_doPassDays 17 = .ok (.istore_n 2, 1) := by decide +kernel
theorem dX11_doPassDays_18 : decode cX11_doPassDays 18 = .ok (.iconst 0, 1) := by decide +kernel
theorem dX11_doPassDays_19 : decode cX11_doPassDays 19 = .ok (.istore_n 3, 1) := by decide +kernel
theorem dX11_doPassDays_20 : decode cX11_doPassDays 20 = .ok (.iload_n 3, 1) := by decide +kernel
theorem dX11_doPassDays_21 : decode cX11_doPassDays 21 = .ok (.iload_n 1, 1) := by decide +kernel
theorem dX11_doPassDays_22 : decode cX11_doPassDays 22 = .ok (.if_icmp .ge 95, 3) := by decide +kernel
theorem dX11_doPassDays_25 : decode cX11_doPassDays 25 = .ok (.iconst 0, 1) := by decide +kernel
theorem dX11_doPassDays_26 : decode cX11_doPassDays 26 = .ok (.istore 4, 2) := by decide +kernel
theorem dX11_doPassDays_28 : decode cX11_doPassDays 28 = .ok (.iload 4, 2) := by decide +kernel
theorem dX11_doPassDays_30 : decode cX11_doPassDays 30 = .ok (.aload_n 0, 1) := by decide +kernel
theorem dX11_doPassDays_31 : decode cX11_doPassDays 31 = .ok (.getfield 9, 3) := by decide +kernel
theorem dX11_doPassDays_34 : decode cX11_doPassDays 34 = .ok (.iconst 1, 1) := by decide +kernel
theorem dX11_doPassDays_35 : decode cX11_doPassDays 35 = .ok (.iaload, 1) := by decide +kernel
theorem dX11_doPassDays_36 : decode cX11_doPassDays 36 = .ok (.if_icmp .ge 65, 3) := by decide +kernel
theorem dX11_doPassDays_39 : decode cX11_doPassDays 39 = .ok (.aload_n 0, 1) := by decide +kernel
theorem dX11_doPassDays_40 : decode cX11_doPassDays 40 = .ok (.getfield 9, 3) := by decide +kernel
theorem dX11_doPassDays_43 : decode cX11_doPassDays 43 = .ok (.iconst 4, 1) := by decide +kernel
theorem dX11_doPassDays_44 : decode cX11_doPassDays 44 = .ok (.aload_n 0, 1) := by decide +kernel
theorem dX11_doPassDays_45 : decode cX11_doPassDays 45 = .ok (.iload 4, 2) := by decide +kernel
theorem dX11_doPassDays_47 : decode cX11_doPassDays 47 = .ok (.iconst 0, 1) := by decide +kernel
theorem dX11_doPassDays_48 : decode cX11_doPassDays 48 = .ok (.invokevirtual 144, 3) := by decide +kernel
theorem dX11_doPassDays_51 : decode cX11_doPassDays 51 = .ok (.iadd, 1) := by decide +kernel
theorem dX11_doPassDays_52 : decode cX11_doPassDays 52 = .ok (.iaload, 1) := by decide +kernel
theorem dX11_doPassDays_53 : decode cX11_doPassDays 53 = .ok (.aload_n 0, 1) := by decide +kernel
theorem dX11_doPassDays_54 : decode cX11_doPassDays 54 = .ok (.iload 4, 2) := by decide +kernel
theorem dX11_doPassDays_56 : decode cX11_doPassDays 56 = .ok (.iconst 1, 1) := by decide +kernel
theorem dX11_doPassDays_57 : decode cX11_doPassDays 57 = .ok (.invokevirtual 144, 3) := by decide +kernel
theorem dX11_doPassDays_60 : decode cX11_doPassDays 60 = .ok (.invokestatic 197, 3) := by decide +kernel
theorem dX11_doPassDays_63 : decode cX11_doPassDays 63 = .ok (.istore 5, 2) := by decide +kernel
theorem dX11_doPassDays_65 : decode cX11_doPassDays 65 = .ok (.iload_n 2, 1) := by decide +kernel
theorem dX11_doPassDays_66 : decode cX11_doPassDays 66 = .ok (.aload_n 0, 1) := by decide +kernel
theorem dX11_doPassDays_67 : decode cX11_doPassDays 67 = .ok (.iload 4, 2) := by decide +kernel
theorem dX11_doPassDays_69 : decode cX11_doPassDays 69 = .ok (.aload_n 0, 1) := by decide +kernel
theorem dX11_doPassDays_70 : decode cX11_doPassDays 70 = .ok (.getfield 9, 3) := by decide +kernel
theorem dX11_doPassDays_73 : decode cX11_doPassDays 73 = .ok (.iconst 2, 1) := by decide +kernel
theorem dX11_doPassDays_74 : decode cX11_doPassDays 74 = .ok (.iaload, 1) := by decide +kernel
theorem dX11_doPassDays_75 : decode cX11_doPassDays 75 = .ok (.invokevirtual 191, 3) := by decide +kernel
theorem dX11_doPassDays_78 : decode cX11_doPassDays 78 = .ok (.ifCond .eq 7, 3) := by decide +kernel
theorem dX11_doPassDays_81 : decode cX11_doPassDays 81 = .ok (.iconst 0, 1) := by decide +kernel
theorem dX11_doPassDays_82 : decode cX11_doPassDays 82 = .ok (.goto 11, 3) := by decide +kernel
theorem dX11_doPassDays_85 : decode cX11_doPassDays 85 = .ok (.aload_n 0, 1) := by decide +kernel
theorem dX11_doPassDays_86 : decode cX11_doPassDays 86 = .ok (.iload 4, 2) := by decide +kernel
theorem dX11_doPassDays_88 : decode cX11_doPassDays 88 = .ok (.iload 5, 2) := by decide +kernel
theorem dX11_doPassDays_90 : decode cX11_doPassDays 90 = .ok (.invokevirtual 200, 3) := by decide +kernel
theorem dX11_doPassDays_93 : decode cX11_doPassDays 93 = .ok (.iadd, 1) := by decide +kernel
theorem dX11_doPassDays_94 : decode cX11_doPassDays 94 = .ok (.istore_n 2, 1) := by decide +kernel
theorem dX11_doPassDays_95 : decode cX11_doPassDays 95 = .ok (.iinc 4 1, 3) := by decide +kernel
theorem dX11_doPassDays_98 : decode cX11_doPassDays 98 = .ok (.goto (-70), 3) := by decide +kernel
theorem dX11_doPassDays_101 : decode cX11_doPassDays 101 = .ok (.aload_n 0, 1) := by decide +kernel
theorem dX11_doPassDays_102 : decode cX11_doPassDays 102 = .ok (.getfield 9, 3) := by decide +kernel
theorem dX11_doPassDays_105 : decode cX11_doPassDays 105 = .ok (.iconst 2, 1) := by decide +kernel
theorem dX11_doPassDays_106 : decode cX11_doPassDays 106 = .ok (.dup2, 1) := by decide +kernel
theorem dX11_doPassDays_107 : decode cX11_doPassDays 107 = .ok (.iaload, 1) := by decide +kernel
theorem dX11_doPassDays_108 : decode cX11_doPassDays 108 = .ok (.iconst 1, 1) := by decide +kernel
theorem dX11_doPassDays_109 : decode cX11_doPassDays 109 = .ok (.iadd, 1) := by decide +kernel
theorem dX11_doPassDays_110 : decode cX11_doPassDays 110 = .ok (.iastore, 1) := by decide +kernel
theorem dX11_doPassDays_111 : decode cX11_doPassDays 111 = .ok (.iinc 3 1, 3) := by decide +kernel
theorem dX11_doPassDays_114 : decode cX11_doPassDays 114 = .ok (.goto (-94), 3) := by decide +kernel
theorem dX11_doPassDays_117 : decode cX11_doPassDays 117 = .ok (.iload_n 2, 1) := by decide +kernel
theorem dX11_doPassDays_118 : decode cX11_doPassDays 118 = .ok (.ireturn, 1) := by decide +kernel
abbrev rmX11_doPassDays : Room := { frames := 5, cells := 0, slots := 0, locals := 130 }
set_option maxHeartbeats 4000000 in
set_option maxRecDepth 100000 in
theorem metX11_doPassDays {l : Launch} {s0 : State} {b B : Nat} {D : va_G} {T : Nat → ClassId} (F : FX l s0 b D T B) {X : Nat → Prop} (hX : ∀ o, o < 12 → ¬ X (B + o)) {N : Nat} {μ : Mem} {a0 : Nat} {a1 : Int32} {r : Mem × Int32} (k0 : IsMo a0) (h : fX11_doPassDays N μ a0 a1 = some r) : gMet l yX11_doPassDays cX11_doPassDays 6 (some .int) rmX11_doPassDays [.ref (B + a0), .int a1] (gWM D T B μ) (KC s0 X) (some (.int r.2)) (gWM D T B r.1) (gA B X) 0 0 := by
  refine gI_of RX11 (by decide +kernel) rfl (Nat.le_of_ble_eq_true rfl) ?_
  intro p e s m args below meth c ls Q hx hb hlocks hml hown hts hW hk hl hS hend
  have hC := FX_C F hk hx hb hown hts
  have hA := gA_allM hX
  have hl : lv_has ls 6 [(0, .ref (B + a0)), (1, .int a1)] := hl
  unfold fX11_doPassDays at h
  refine lv_iload_n hx hb dX11_doPassDays_0 rfl (lv_at hl 1 rfl) ?_
  refine lv_iconst (v := 1) hx hb dX11_doPassDays_1 (by decide) ?_
  refine lv_bipush (v := 99) hx hb dX11_doPassDays_2 (by decide) ?_
  obtain ⟨r1, hcall, h⟩ := bd_out h
  refine g0_callS (As := [.int a1, .int 1, .int 99]) hC hml hS hW (KC_at hk hS F.2.2.2.2) KC_blind (metX11_in F hX  hcall) ml_X11_73 ⟨rfl, rfl, Nat.le_of_ble_eq_true rfl, Nat.le_of_ble_eq_true rfl⟩ rfl hl.1 rfl (Nat.le_of_ble_eq_true rfl) dX11_doPassDays_4 ⟨Nat.le_of_ble_eq_true rfl, Nat.le_of_ble_eq_true rfl⟩ (fun H locs hW hS => ?_)
  refine gw_if_neZ (tgt := 16) hx hb dX11_doPassDays_7 (by decide) (fun c2 => ?_) (fun c2 => ?_)
  · replace h := cond_t c2 h
    refine lv_iconst (v := 0) hx hb dX11_doPassDays_16 (by decide) ?_
    refine lv_istore_n (lv' := [(2, .int 0), (0, .ref (B + a0)), (1, .int a1)]) hx hb dX11_doPassDays_17 rfl hl (by decide) rfl (fun ls hl => ?_)
    refine lv_iconst (v := 0) hx hb dX11_doPassDays_18 (by decide) ?_
    refine lv_istore_n (lv' := [(3, .int 0), (2, .int 0), (0, .ref (B + a0)), (1, .int a1)]) hx hb dX11_doPassDays_19 rfl hl (by decide) rfl (fun ls hl => ?_)
    refine fix3_ind (fun (x3 : Int32) (x4 : Int32) (μ5 : Mem) => ∀ (H : Heap) (locs : List Loc) (ls : Array Slot), gWM D T B μ5 H → va_S (gA B X) s.heap H locs → lv_has ls 6 [(0, .ref (B + a0)), (1, .int a1), (2, .int x3), (3, .int x4)] → W p l e rmX11_doPassDays s m args below meth c H locs 0 0 Q (F0 m 20 ls [])) ?_ N _ _ _ h _ _ _ hW hS (lv_sub hl [2, 3, 1, 0] rfl)
    clear h hW hS hl
    intro self6 IH7 x3 x4 μ5 h H locs ls hW hS hl
    refine lv_iload_n hx hb dX11_doPassDays_20 rfl (lv_at hl 3 rfl) ?_
    refine lv_iload_n hx hb dX11_doPassDays_21 rfl (lv_at hl 1 rfl) ?_
    refine lv_icmp_ge (tgt := 117) hx hb dX11_doPassDays_22 (by decide) (fun c8 => ?_) (fun c8 => ?_)
    · replace h := ite_t c8 h
      refine lv_iload_n hx hb dX11_doPassDays_117 rfl (lv_at hl 2 rfl) ?_
      cases h
      exact hend dX11_doPassDays_118 hW hS (Nat.le_of_ble_eq_true rfl) (Nat.le_of_ble_eq_true rfl)
    · replace h := ite_f c8 h
      refine lv_iconst (v := 0) hx hb dX11_doPassDays_25 (by decide) ?_
      refine lv_istore (lv' := [(4, .int 0), (0, .ref (B + a0)), (1, .int a1), (2, .int x3), (3, .int x4)]) hx hb dX11_doPassDays_26 hl (by decide) rfl (fun ls hl => ?_)
      refine fix3_ind (fun (x9 : Int32) (x10 : Int32) (μ11 : Mem) => ∀ (H : Heap) (locs : List Loc) (ls : Array Slot), gWM D T B μ11 H → va_S (gA B X) s.heap H locs → lv_has ls 6 [(0, .ref (B + a0)), (1, .int a1), (2, .int x9), (3, .int x4), (4, .int x10)] → W p l e rmX11_doPassDays s m args below meth c H locs 0 0 Q (F0 m 28 ls [])) ?_ N _ _ _ h _ _ _ hW hS (lv_sub hl [1, 2, 3, 4, 0] rfl)
      clear h hW hS hl
      intro self12 IH13 x9 x10 μ11 h H locs ls hW hS hl
      refine lv_iload hx hb dX11_doPassDays_28 (lv_at hl 4 rfl) ?_
      refine lv_aload_n hx hb dX11_doPassDays_30 rfl (lv_at hl 0 rfl) ?_
      refine gw_get (v := .ref (B + (a0 + 1))) hC hW fl_X11_9 k0.1 (k0.2.1 T B (μ11 a0)) rfl dX11_doPassDays_31 ?_
      refine lv_iconst (v := 1) hx hb dX11_doPassDays_34 (by decide) ?_
      obtain ⟨v14, e15, hi16, h⟩ := ag_o h
      refine gq_iald hC hW k0.2.2.1.1 (k0.2.2.1.2 T B (μ11 (a0 + 1))) (t0 := 0) rfl e15 hi16 dX11_doPassDays_35 ?_
      refine lv_icmp_ge (tgt := 101) hx hb dX11_doPassDays_36 (by decide) (fun c17 => ?_) (fun c17 => ?_)
      · replace h := ite_t c17 h
        refine lv_aload_n hx hb dX11_doPassDays_101 rfl (lv_at hl 0 rfl) ?_
        refine gw_get (v := .ref (B + (a0 + 1))) hC hW fl_X11_9 k0.1 (k0.2.1 T B (μ11 a0)) rfl dX11_doPassDays_102 ?_
        refine lv_iconst (v := 2) hx hb dX11_doPassDays_105 (by decide) ?_
        refine lv_dup2_11 hx hb dX11_doPassDays_106 rfl rfl ?_
        obtain ⟨v18, e19, hi20, h⟩ := ag_o h
        refine gq_iald hC hW k0.2.2.1.1 (k0.2.2.1.2 T B (μ11 (a0 + 1))) (t0 := 0) rfl e19 hi20 dX11_doPassDays_107 ?_
        refine lv_iconst (v := 1) hx hb dX11_doPassDays_108 (by decide) ?_
        refine lv_iadd hx hb dX11_doPassDays_109 ?_
        obtain ⟨μ21, e22, hi23, h⟩ := aw_o h
        refine gq_iast hC hS hW hA k0.2.2.1.1 (k0.2.2.1.2 T B) (t0 := 0) rfl e22 hi23 dX11_doPassDays_110 (fun H locs hW hS => ?_)
        obtain ⟨v24, e25, h⟩ := lt_out h
        refine lv_iinc (v := v24) (lv' := [(3, .int v24), (0, .ref (B + a0)), (1, .int a1), (2, .int x9), (4, .int x10)]) hx hb dX11_doPassDays_111 hl (k := 3) rfl (by rw [e25]; rfl) (by decide) rfl (fun ls hl => ?_)
        refine lv_goto (tgt := 20) hx hb dX11_doPassDays_114 (by decide) ?_
        exact IH7 _ _ _ h _ _ _ hW hS (lv_sub hl [1, 2, 3, 0] rfl)
      · replace h := ite_f c17 h
        refine lv_aload_n hx hb dX11_doPassDays_39 rfl (lv_at hl 0 rfl) ?_
        refine gw_get (v := .ref (B + (a0 + 1))) hC hW fl_X11_9 k0.1 (k0.2.1 T B (μ11 a0)) rfl dX11_doPassDays_40 ?_
        refine lv_iconst (v := 4) hx hb dX11_doPassDays_43 (by decide) ?_
        refine lv_aload_n hx hb dX11_doPassDays_44 rfl (lv_at hl 0 rfl) ?_
        refine lv_iload hx hb dX11_doPassDays_45 (lv_at hl 4 rfl) ?_
        refine lv_iconst (v := 0) hx hb dX11_doPassDays_47 (by decide) ?_
        obtain ⟨r26, hcall, h⟩ := bd_out h
        refine g0_callV (As := [.int x10, .int 0]) hC hml hS hW (KC_at hk hS F.2.2.2.2) KC_blind (metX11_of F hX k0 hcall) ml_X11_144 (gw_recv hC hW k0.1 (k0.2.1 T B (μ11 a0)) rfl) ⟨rfl, rfl, Nat.le_of_ble_eq_true rfl, Nat.le_of_ble_eq_true rfl⟩ rfl hl.1 rfl (Nat.le_of_ble_eq_true rfl) dX11_doPassDays_48 ⟨Nat.le_of_ble_eq_true rfl, Nat.le_of_ble_eq_true rfl⟩ (fun H locs hW hS => ?_)
        refine lv_iadd hx hb dX11_doPassDays_51 ?_
        obtain ⟨v27, e28, hi29, h⟩ := ag_o h
        refine gq_iald hC hW k0.2.2.1.1 (k0.2.2.1.2 T B (μ11 (a0 + 1))) (t0 := 0) rfl e28 hi29 dX11_doPassDays_52 ?_
        refine lv_aload_n hx hb dX11_doPassDays_53 rfl (lv_at hl 0 rfl) ?_
        refine lv_iload hx hb dX11_doPassDays_54 (lv_at hl 4 rfl) ?_
        refine lv_iconst (v := 1) hx hb dX11_doPassDays_56 (by decide) ?_
        obtain ⟨r30, hcall, h⟩ := bd_out h
        refine g0_callV (As := [.int x10, .int 1]) hC hml hS hW (KC_at hk hS F.2.2.2.2) KC_blind (metX11_of F hX k0 hcall) ml_X11_144 (gw_recv hC hW k0.1 (k0.2.1 T B (μ11 a0)) rfl) ⟨rfl, rfl, Nat.le_of_ble_eq_true rfl, Nat.le_of_ble_eq_true rfl⟩ rfl hl.1 rfl (Nat.le_of_ble_eq_true rfl) dX11_doPassDays_57 ⟨Nat.le_of_ble_eq_true rfl, Nat.le_of_ble_eq_true rfl⟩ (fun H locs hW hS => ?_)
        obtain ⟨r31, hcall, h⟩ := bd_out h
        refine g0_callS (As := [.int v27, .int r30]) hC hml hS hW (KC_at hk hS F.2.2.2.2) KC_blind (metX11_passed F hX  hcall) ml_X11_197 ⟨rfl, rfl, Nat.le_of_ble_eq_true rfl, Nat.le_of_ble_eq_true rfl⟩ rfl hl.1 rfl (Nat.le_of_ble_eq_true rfl) dX11_doPassDays_60 ⟨Nat.le_of_ble_eq_true rfl, Nat.le_of_ble_eq_true rfl⟩ (fun H locs hW hS => ?_)
        refine lv_istore (lv' := [(5, .int r31), (0, .ref (B + a0)), (1, .int a1), (2, .int x9), (3, .int x4), (4, .int x10)]) hx hb dX11_doPassDays_63 hl (by decide) rfl (fun ls hl => ?_)
        refine lv_iload_n hx hb dX11_doPassDays_65 rfl (lv_at hl 3 rfl) ?_
        refine lv_aload_n hx hb dX11_doPassDays_66 rfl (lv_at hl 1 rfl) ?_
        refine lv_iload hx hb dX11_doPassDays_67 (lv_at hl 5 rfl) ?_
        refine lv_aload_n hx hb dX11_doPassDays_69 rfl (lv_at hl 1 rfl) ?_
        refine gw_get (v := .ref (B + (a0 + 1))) hC hW fl_X11_9 k0.1 (k0.2.1 T B (μ11 a0)) rfl dX11_doPassDays_70 ?_
        refine lv_iconst (v := 2) hx hb dX11_doPassDays_73 (by decide) ?_
        obtain ⟨v32, e33, hi34, h⟩ := ag_o h
        refine gq_iald hC hW k0.2.2.1.1 (k0.2.2.1.2 T B (μ11 (a0 + 1))) (t0 := 0) rfl e33 hi34 dX11_doPassDays_74 ?_
        obtain ⟨r35, hcall, h⟩ := bd_out h
        refine g0_callV (As := [.int x10, .int v32]) hC hml hS hW (KC_at hk hS F.2.2.2.2) KC_blind (metX11_lent F hX k0 hcall) ml_X11_191 (gw_recv hC hW k0.1 (k0.2.1 T B (μ11 a0)) rfl) ⟨rfl, rfl, Nat.le_of_ble_eq_true rfl, Nat.le_of_ble_eq_true rfl⟩ rfl hl.1 rfl (Nat.le_of_ble_eq_true rfl) dX11_doPassDays_75 ⟨Nat.le_of_ble_eq_true rfl, Nat.le_of_ble_eq_true rfl⟩ (fun H locs hW hS => ?_)
        obtain ⟨j38, hj40, h⟩ := jn2_o h
        have J39 : ∀ (y36 : Int32) (μ37 : Mem), j38 y36 μ37 = some r → ∀ (H : Heap) (locs : List Loc) (ls : Array Slot), gWM D T B μ37 H → va_S (gA B X) s.heap H locs → lv_has ls 6 [(0, .ref (B + a0)), (1, .int a1), (3, .int x4), (4, .int x10)] → W p l e rmX11_doPassDays s m args below meth c H locs 0 0 Q (F0 m 93 ls [.int y36, .int x9]) := by
          clear h hW hS hl
          intro y36 μ37 h H locs ls hW hS hl
          replace h := (hj40 y36 μ37).symm.trans h
          refine lv_iadd hx hb dX11_doPassDays_93 ?_
          obtain ⟨v41, e42, h⟩ := lt_out h
          rw [← e42]
          refine lv_istore_n (lv' := [(2, .int v41), (0, .ref (B + a0)), (1, .int a1), (3, .int x4), (4, .int x10)]) hx hb dX11_doPassDays_94 rfl hl (by decide) rfl (fun ls hl => ?_)
          obtain ⟨v43, e44, h⟩ := lt_out h
          refine lv_iinc (v := v43) (lv' := [(4, .int v43), (2, .int v41), (0, .ref (B + a0)), (1, .int a1), (3, .int x4)]) hx hb dX11_doPassDays_95 hl (k := 4) rfl (by rw [e44]; rfl) (by decide) rfl (fun ls hl => ?_)
          refine lv_goto (tgt := 28) hx hb dX11_doPassDays_98 (by decide) ?_
          exact IH13 _ _ _ h _ _ _ hW hS (lv_sub hl [2, 3, 1, 4, 0] rfl)
        refine gw_if_eqZ (tgt := 85) hx hb dX11_doPassDays_78 (by decide) (fun c45 => ?_) (fun c45 => ?_)
        · replace h := cond_f c45 h
          refine lv_aload_n hx hb dX11_doPassDays_85 rfl (lv_at hl 1 rfl) ?_
          refine lv_iload hx hb dX11_doPassDays_86 (lv_at hl 5 rfl) ?_
          refine lv_iload hx hb dX11_doPassDays_88 (lv_at hl 0 rfl) ?_
          obtain ⟨r46, hcall, h⟩ := bd_out h
          refine g0_callV (As := [.int x10, .int r31]) hC hml hS hW (KC_at hk hS F.2.2.2.2) KC_blind (metX11_melts F hX k0 hcall) ml_X11_200 (gw_recv hC hW k0.1 (k0.2.1 T B (μ11 a0)) rfl) ⟨rfl, rfl, Nat.le_of_ble_eq_true rfl, Nat.le_of_ble_eq_true rfl⟩ rfl hl.1 rfl (Nat.le_of_ble_eq_true rfl) dX11_doPassDays_90 ⟨Nat.le_of_ble_eq_true rfl, Nat.le_of_ble_eq_true rfl⟩ (fun H locs hW hS => ?_)
          exact J39 _ _ h _ _ _ hW hS (lv_sub hl [1, 2, 4, 5] rfl)
        · replace h := cond_t c45 h
          refine lv_iconst (v := 0) hx hb dX11_doPassDays_81 (by decide) ?_
          refine lv_goto (tgt := 93) hx hb dX11_doPassDays_82 (by decide) ?_
          exact J39 _ _ h _ _ _ hW hS (lv_sub hl [1, 2, 4, 5] rfl)
  · replace h := cond_f c2 h
    refine lv_aload_n hx hb dX11_doPassDays_10 rfl (lv_at hl 0 rfl) ?_
    refine lv_iconst (v := 1) hx hb dX11_doPassDays_11 (by decide) ?_
    obtain ⟨r47, hcall, h⟩ := bd_out h
    refine g0_callV (As := [.int 1]) hC hml hS hW (KC_at hk hS F.2.2.2.2) KC_blind (metX11_fails F hX k0 hcall) ml_X11_69 (gw_recv hC hW k0.1 (k0.2.1 T B (μ a0)) rfl) ⟨rfl, rfl, Nat.le_of_ble_eq_true rfl, Nat.le_of_ble_eq_true rfl⟩ rfl hl.1 rfl (Nat.le_of_ble_eq_true rfl) dX11_doPassDays_12 ⟨Nat.le_of_ble_eq_true rfl, Nat.le_of_ble_eq_true rfl⟩ (fun H locs hW hS => ?_)
    cases h
    exact hend dX11_doPassDays_15 hW hS (Nat.le_of_ble_eq_true rfl) (Nat.le_of_ble_eq_true rfl)

theorem dX11_passDays_0 : decode cX11_passDays 0 = .ok (.aload_n 0, 1) := by decide +kernel
theorem dX11_passDays_1 : decode cX11_passDays 1 = .ok (.invokevirtual 83, 3) := by decide +kernel
theorem dX11_passDays_4 : decode cX11_passDays 4 = .ok (.aload_n 0, 1) := by decide +kernel
theorem dX11_passDays_5 : decode cX11_passDays 5 = .ok (.aload_n 0, 1) := by decide +kernel
theorem dX11_passDays_6 : decode cX11_passDays 6 = .ok (.iload_n 1, 1) := by decide +kernel
theorem dX11_passDays_7 : decode cX11_passDays 7 = .ok (.invokevirtual 212, 3) := by decide +kernel
theorem dX11_passDays_10 : decode cX11_passDays 10 = .ok (.invokevirtual 89, 3) := by decide +kernel
theorem dX11_passDays_13 : decode cX11_passDays 13 = .ok (.ireturn, 1) := by decide +kernel
abbrev rmX11_passDays : Room := { frames := 6, cells := 0, slots := 0, locals := 155 }
set_option maxHeartbeats 4000000 in
set_option maxRecDepth 100000 in
theorem metX11_passDays {l : Launch} {s0 : State} {b B : Nat} {D : va_G} {T : Nat → ClassId} (F : FX l s0 b D T B) {X : Nat → Prop} (hX : ∀ o, o < 12 → ¬ X (B + o)) {N : Nat} {μ : Mem} {a0 : Nat} {a1 : Int32} {r : Mem × Int32} (k0 : IsMo a0) (h : fX11_passDays N μ a0 a1 = some r) : gMet l yX11_passDays cX11_passDays 2 (some .int) rmX11_passDays [.ref (B + a0), .int a1] (gWM D T B μ) (KC s0 X) (some (.int r.2)) (gWM D T B r.1) (gA B X) 0 0 := by
  refine gI_of RX11 (by decide +kernel) rfl (Nat.le_of_ble_eq_true rfl) ?_
  intro p e s m args below meth c ls Q hx hb hlocks hml hown hts hW hk hl hS hend
  have hC := FX_C F hk hx hb hown hts
  have hA := gA_allM hX
  have hl : lv_has ls 2 [(0, .ref (B + a0)), (1, .int a1)] := hl
  unfold fX11_passDays at h
  refine lv_aload_n hx hb dX11_passDays_0 rfl (lv_at hl 0 rfl) ?_
  obtain ⟨r1, hcall, h⟩ := bd_out h
  refine g0_callV (As := []) hC hml hS hW (KC_at hk hS F.2.2.2.2) KC_blind (metX11_keep F hX k0 hcall) ml_X11_83 (gw_recv hC hW k0.1 (k0.2.1 T B (μ a0)) rfl) ⟨rfl, rfl, Nat.le_of_ble_eq_true rfl, Nat.le_of_ble_eq_true rfl⟩ rfl hl.1 rfl (Nat.le_of_ble_eq_true rfl) dX11_passDays_1 ⟨Nat.le_of_ble_eq_true rfl, Nat.le_of_ble_eq_true rfl⟩ (fun H locs hW hS => ?_)
  refine lv_aload_n hx hb dX11_passDays_4 rfl (lv_at hl 0 rfl) ?_
  refine lv_aload_n hx hb dX11_passDays_5 rfl (lv_at hl 0 rfl) ?_
  refine lv_iload_n hx hb dX11_passDays_6 rfl (lv_at hl 1 rfl) ?_
  obtain ⟨r2, hcall, h⟩ := bd_out h
  refine g0_callV (As := [.int a1]) hC hml hS hW (KC_at hk hS F.2.2.2.2) KC_blind (metX11_doPassDays F hX k0 hcall) ml_X11_212 (gw_recv hC hW k0.1 (k0.2.1 T B (r1 a0)) rfl) ⟨rfl, rfl, Nat.le_of_ble_eq_true rfl, Nat.le_of_ble_eq_true rfl⟩ rfl hl.1 rfl (Nat.le_of_ble_eq_true rfl) dX11_passDays_7 ⟨Nat.le_of_ble_eq_true rfl, Nat.le_of_ble_eq_true rfl⟩ (fun H locs hW hS => ?_)
  obtain ⟨r3, hcall, h⟩ := bd_out h
  refine g0_callV (As := [.int r2.2]) hC hml hS hW (KC_at hk hS F.2.2.2.2) KC_blind (metX11_ends F hX k0 hcall) ml_X11_89 (gw_recv hC hW k0.1 (k0.2.1 T B (r2.1 a0)) rfl) ⟨rfl, rfl, Nat.le_of_ble_eq_true rfl, Nat.le_of_ble_eq_true rfl⟩ rfl hl.1 rfl (Nat.le_of_ble_eq_true rfl) dX11_passDays_10 ⟨Nat.le_of_ble_eq_true rfl, Nat.le_of_ble_eq_true rfl⟩ (fun H locs hW hS => ?_)
  cases h
  exact hend dX11_passDays_13 hW hS (Nat.le_of_ble_eq_true rfl) (Nat.le_of_ble_eq_true rfl)

theorem dX11_day_0 : decode cX11_day 0 = .ok (.aload_n 0, 1) := by decide +kernel
theorem dX11_day_1 : decode cX11_day 1 = .ok (.iconst 0, 1) := by decide +kernel
theorem dX11_day_2 : decode cX11_day 2 = .ok (.putfield 51, 3) := by decide +kernel
theorem dX11_day_5 : decode cX11_day 5 = .ok (.aload_n 0, 1) := by decide +kernel
theorem dX11_day_6 : decode cX11_day 6 = .ok (.getfield 9, 3) := by decide +kernel
theorem dX11_day_9 : decode cX11_day 9 = .ok (.iconst 2, 1) := by decide +kernel
theorem dX11_day_10 : decode cX11_day 10 = .ok (.iaload, 1) := by decide +kernel
theorem dX11_day_11 : decode cX11_day 11 = .ok (.ireturn, 1) := by decide +kernel
abbrev rmX11_day : Room := { frames := 2, cells := 0, slots := 0, locals := 60 }
set_option maxHeartbeats 4000000 in
set_option maxRecDepth 100000 in
theorem metX11_day {l : Launch} {s0 : State} {b B : Nat} {D : va_G} {T : Nat → ClassId} (F : FX l s0 b D T B) {X : Nat → Prop} (hX : ∀ o, o < 12 → ¬ X (B + o)) {N : Nat} {μ : Mem} {a0 : Nat} {r : Mem × Int32} (k0 : IsMo a0) (h : fX11_day N μ a0 = some r) : gMet l yX11_day cX11_day 1 (some .int) rmX11_day [.ref (B + a0)] (gWM D T B μ) (KC s0 X) (some (.int r.2)) (gWM D T B r.1) (gA B X) 0 0 := by
  refine gI_of RX11 (by decide +kernel) rfl (Nat.le_of_ble_eq_true rfl) ?_
  intro p e s m args below meth c ls Q hx hb hlocks hml hown hts hW hk hl hS hend
  have hC := FX_C F hk hx hb hown hts
  have hA := gA_allM hX
  have hl : lv_has ls 1 [(0, .ref (B + a0))] := hl
  unfold fX11_day at h
  refine lv_aload_n hx hb dX11_day_0 rfl (lv_at hl 0 rfl) ?_
  refine lv_iconst (v := 0) hx hb dX11_day_1 (by decide) ?_
  obtain ⟨μ1, e2, h⟩ := lt_out h
  refine gq_put hC hS hW hA fl_X11_51 k0.1 (k0.2.1 T B) (Nat.le_of_ble_eq_true rfl) rfl rfl rfl e2 dX11_day_2 (fun H locs hW hS => ?_)
  refine lv_aload_n hx hb dX11_day_5 rfl (lv_at hl 0 rfl) ?_
  refine gw_get (v := .ref (B + (a0 + 1))) hC hW fl_X11_9 k0.1 (k0.2.1 T B (μ1 a0)) rfl dX11_day_6 ?_
  refine lv_iconst (v := 2) hx hb dX11_day_9 (by decide) ?_
  obtain ⟨v3, e4, hi5, h⟩ := ag_o h
  refine gq_iald hC hW k0.2.2.1.1 (k0.2.2.1.2 T B (μ1 (a0 + 1))) (t0 := 0) rfl e4 hi5 dX11_day_10 ?_
  cases h
  exact hend dX11_day_11 hW hS (Nat.le_of_ble_eq_true rfl) (Nat.le_of_ble_eq_true rfl)

theorem dX11_loan_0 : decode cX11_loan 0 = .ok (.aload_n 0, 1) := by decide +kernel
theorem dX11_loan_1 : decode cX11_loan 1 = .ok (.iload_n 1, 1) := by decide +kernel
theorem dX11_loan_2 : decode cX11_loan 2 = .ok (.bipush 23, 2) := by decide +kernel
theorem dX11_loan_4 : decode cX11_loan 4 = .ok (.iconst 3, 1) := by decide +kernel
theorem dX11_loan_5 : decode cX11_loan 5 = .ok (.iload_n 2, 1) := by decide +kernel
theorem dX11_loan_6 : decode cX11_loan 6 = .ok (.imul, 1) := by decide +kernel
theorem dX11_loan_7 : decode cX11_loan 7 = .ok (.iadd, 1) := by decide +kernel
theorem dX11_loan_8 : decode cX11_loan 8 = .ok (.iload_n 3, 1) := by decide +kernel
theorem dX11_loan_9 : decode cX11_loan 9 = .ok (.iadd, 1) := by decide +kernel
theorem dX11_loan_10 : decode cX11_loan 10 = .ok (.invokevirtual 144, 3) := by decide +kernel
theorem dX11_loan_13 : decode cX11_loan 13 = .ok (.ireturn, 1) := by decide +kernel
abbrev rmX11_loan : Room := { frames := 3, cells := 0, slots := 0, locals := 82 }
set_option maxHeartbeats 4000000 in
set_option maxRecDepth 100000 in
theorem metX11_loan {l : Launch} {s0 : State} {b B : Nat} {D : va_G} {T : Nat → ClassId} (F : FX l s0 b D T B) {X : Nat → Prop} (hX : ∀ o, o < 12 → ¬ X (B + o)) {N : Nat} {μ : Mem} {a0 : Nat} {a1 : Int32} {a2 : Int32} {a3 : Int32} {r : Int32} (k0 : IsMo a0) (h : fX11_loan N μ a0 a1 a2 a3 = some r) : gMet l yX11_loan cX11_loan 4 (some .int) rmX11_loan [.ref (B + a0), .int a1, .int a2, .int a3] (gWM D T B μ) (KC s0 X) (some (.int r)) (gWM D T B μ) (gA B X) 0 0 := by
  refine gI_of RX11 (by decide +kernel) rfl (Nat.le_of_ble_eq_true rfl) ?_
  intro p e s m args below meth c ls Q hx hb hlocks hml hown hts hW hk hl hS hend
  have hC := FX_C F hk hx hb hown hts
  have hA := gA_allM hX
  have hl : lv_has ls 4 [(0, .ref (B + a0)), (1, .int a1), (2, .int a2), (3, .int a3)] := hl
  unfold fX11_loan at h
  refine lv_aload_n hx hb dX11_loan_0 rfl (lv_at hl 0 rfl) ?_
  refine lv_iload_n hx hb dX11_loan_1 rfl (lv_at hl 1 rfl) ?_
  refine lv_bipush (v := 23) hx hb dX11_loan_2 (by decide) ?_
  refine lv_iconst (v := 3) hx hb dX11_loan_4 (by decide) ?_
  refine lv_iload_n hx hb dX11_loan_5 rfl (lv_at hl 2 rfl) ?_
  refine lv_imul hx hb dX11_loan_6 ?_
  refine lv_iadd hx hb dX11_loan_7 ?_
  refine lv_iload_n hx hb dX11_loan_8 rfl (lv_at hl 3 rfl) ?_
  refine lv_iadd hx hb dX11_loan_9 ?_
  obtain ⟨r1, hcall, h⟩ := bd_out h
  refine g0_callV (As := [.int a1, .int ((23 + (3 * a2)) + a3)]) hC hml hS hW (KC_at hk hS F.2.2.2.2) KC_blind (metX11_of F hX k0 hcall) ml_X11_144 (gw_recv hC hW k0.1 (k0.2.1 T B (μ a0)) rfl) ⟨rfl, rfl, Nat.le_of_ble_eq_true rfl, Nat.le_of_ble_eq_true rfl⟩ rfl hl.1 rfl (Nat.le_of_ble_eq_true rfl) dX11_loan_10 ⟨Nat.le_of_ble_eq_true rfl, Nat.le_of_ble_eq_true rfl⟩ (fun H locs hW hS => ?_)
  cases h
  exact hend dX11_loan_13 hW hS (Nat.le_of_ble_eq_true rfl) (Nat.le_of_ble_eq_true rfl)

theorem dX11_doAsk_0 : decode cX11_doAsk 0 = .ok (.aload_n 0, 1) := by decide +kernel
theorem dX11_doAsk_1 : decode cX11_doAsk 1 = .ok (.iload_n 1, 1) := by decide +kernel
theorem dX11_doAsk_2 : decode cX11_doAsk 2 = .ok (.invokevirtual 141, 3) := by decide +kernel
theorem dX11_doAsk_5 : decode cX11_doAsk 5 = .ok (.ifCond .ne 9, 3) := by decide +kernel
theorem dX11_doAsk_8 : decode cX11_doAsk 8 = .ok (.aload_n 0, 1) := by decide +kernel
theorem dX11_doAsk_9 : decode cX11_doAsk 9 = .ok (.iconst 1, 1) := by decide +kernel
theorem dX11_doAsk_10 : decode cX11_doAsk 10 = .ok (.invokevirtual 69, 3) := by decide +kernel
theorem dX11_doAsk_13 : decode cX11_doAsk 13 = .ok (.ireturn, 1) := by decide +kernel
theorem dX11_doAsk_14 : decode cX11_doAsk 14 = .ok (.iload_n 2, 1) := by decide +kernel
theorem dX11_doAsk_15 : decode cX11_doAsk 15 = .ok (.iconst 0, 1) := by decide +kernel
theorem dX11_doAsk_16 : decode cX11_doAsk 16 = .ok (.bipush 99, 2) := by decide +kernel
theorem dX11_doAsk_18 : decode cX11_doAsk 18 = .ok (.invokestatic 73, 3) := by decide +kernel
theorem dX11_doAsk_21 : decode cX11_doAsk 21 = .ok (.ifCond .eq 24, 3) := by decide +kernel
theorem dX11_doAsk_24 : decode cX11_doAsk 24 = .ok (.iload_n 3, 1) := by decide +kernel
theorem dX11_doAsk_25 : decode cX11_doAsk 25 = .ok (.iload_n 2, 1) := by decide +kernel
theorem dX11_doAsk_26 : decode cX11_doAsk 26 = .ok (.bipush 99, 2) := by decide +kernel
theorem dX11_doAsk_28 : decode cX11_doAsk 28 = .ok (.invokestatic 73, 3) := by decide +kernel
theorem dX11_doAsk_31 : decode cX11_doAsk 31 = .ok (.ifCond .eq 14, 3) := by decide +kernel
theorem dX11_doAsk_34 : decode cX11_doAsk 34 = .ok (.iload 4, 2) := by decide +kernel
theorem dX11_doAsk_36 : decode cX11_doAsk 36 = .ok (.iconst 1, 1) := by decide +kernel
theorem dX11_doAsk_37 : decode cX11_doAsk 37 = .ok (.bipush 99, 2) := by decide +kernel
theorem dX11_doAsk_39 : decode cX11_doAsk 39 = .ok (.invokestatic 73, 3) := by decide +kernel
theorem dX11_doAsk_42 : decode cX11_doAsk 42 = .ok (.ifCond .ne 9, 3) := by decide +kernel
theorem dX11_doAsk_45 : decode cX11_doAsk 45 = .ok (.aload_n 0, 1) := by decide +kernel
theorem dX11_doAsk_46 : decode cX11_doAsk 46 = .ok (.iconst 2, 1) := by decide +kernel
theorem dX11_doAsk_47 : decode cX11_doAsk 47 = .ok (.invokevirtual 69, 3) := by decide +kernel
theorem dX11_doAsk_50 : decode cX11_doAsk 50 = .ok (.ireturn, 1) := by decide +kernel
theorem dX11_doAsk_51 : decode cX11_doAsk 51 = .ok (.aload_n 0, 1) := by decide +kernel
theorem dX11_doAsk_52 : decode cX11_doAsk 52 = .ok (.iload_n 1, 1) := by decide +kernel
theorem dX11_doAsk_53 : decode cX11_doAsk 53 = .ok (.iconst 5, 1) := by decide +kernel
theorem dX11_doAsk_54 : decode cX11_doAsk 54 = .ok (.invokevirtual 144, 3) := by decide +kernel
theorem dX11_doAsk_57 : decode cX11_doAsk 57 = .ok (.istore 5, 2) := by decide +kernel
theorem dX11_doAsk_59 : decode cX11_doAsk 59 = .ok (.iload 5, 2) := by decide +kernel
theorem dX11_doAsk_61 : decode cX11_doAsk 61 = .ok (.bipush 8, 2) := by decide +kernel
theorem dX11_doAsk_63 : decode cX11_doAsk 63 = .ok (.if_icmp .ne 9, 3) := by decide +kernel
theorem dX11_doAsk_66 : decode cX11_doAsk 66 = .ok (.aload_n 0, 1) := by decide +kernel
theorem dX11_doAsk_67 : decode cX11_doAsk 67 = .ok (.iconst 3, 1) := by decide +kernel
theorem dX11_doAsk_68 : decode cX11_doAsk 68 = .ok (.invokevirtual 69, 3) := by decide +kernel
theorem dX11_doAsk_71 : decode cX11_doAsk 71 = .ok (.ireturn, 1) := by decide +kernel
theorem dX11_doAsk_72 : decode cX11_doAsk 72 = .ok (.aload_n 0, 1) := by decide +kernel
theorem dX11_doAsk_73 : decode cX11_doAsk 73 = .ok (.iload_n 1, 1) := by decide +kernel
theorem dX11_doAsk_74 : decode cX11_doAsk 74 = .ok (.bipush 23, 2) := by decide +kernel
theorem dX11_doAsk_76 : decode cX11_doAsk 76 = .ok (.iconst 3, 1) := by decide +kernel
theorem dX11_doAsk_77 : decode cX11_doAsk 77 = .ok (.iload 5, 2) := by decide +kernel
theorem dX11_doAsk_79 : decode cX11_doAsk 79 = .ok (.imul, 1) := by decide +kernel
theorem dX11_doAsk_80 : decode cX11_doAsk 80 = .ok (.iadd, 1) := by decide +kernel
theorem dX11_doAsk_81 : decode cX11_doAsk 81 = .ok (.iload_n 2, 1) := by decide +kernel
theorem dX11_doAsk_82 : decode cX11_doAsk 82 = .ok (.invokevirtual 134, 3) := by decide +kernel
theorem dX11_doAsk_85 : decode cX11_doAsk 85 = .ok (.aload_n 0, 1) := by decide +kernel
theorem dX11_doAsk_86 : decode cX11_doAsk 86 = .ok (.iload_n 1, 1) := by decide +kernel
theorem dX11_doAsk_87 : decode cX11_doAsk 87 = .ok (.bipush 23, 2) := by decide +kernel
theorem dX11_doAsk_89 : decode cX11_doAsk 89 = .ok (.iconst 3, 1) := by decide +kernel
theorem dX11_doAsk_90 : decode cX11_doAsk 90 = .ok (.iload 5, 2) := by decide +kernel
theorem dX11_doAsk_92 : decode cX11_doAsk 92 = .ok (.imul, 1) := by decide +kernel
theorem dX11_doAsk_93 : decode cX11_doAsk 93 = .ok (.iadd, 1) := by decide +kernel
theorem dX11_doAsk_94 : decode cX11_doAsk 94 = .ok (.iconst 1, 1) := by decide +kernel
theorem dX11_doAsk_95 : decode cX11_doAsk 95 = .ok (.iadd, 1) := by decide +kernel
theorem dX11_doAsk_96 : decode cX11_doAsk 96 = .ok (.iload_n 3, 1) := by decide +kernel
theorem dX11_doAsk_97 : decode cX11_doAsk 97 = .ok (.invokevirtual 134, 3) := by decide +kernel
theorem dX11_doAsk_100 : decode cX11_doAsk 100 = .ok (.aload_n 0, 1) := by decide +kernel
theorem dX11_doAsk_101 : decode cX11_doAsk 101 = .ok (.iload_n 1, 1) := by decide +kernel
theorem dX11_doAsk_102 : decode cX11_doAsk 102 = .ok (.bipush 23, 2) := by decide +kernel
theorem dX11_doAsk_104 : decode cX11_doAsk 104 = .ok (.iconst 3, 1) := by decide +kernel
theorem dX11_doAsk_105 : decode cX11_doAsk 105 = .ok (.iload 5, 2) := by decide +kernel
theorem dX11_doAsk_107 : decode cX11_doAsk 107 = .ok (.imul, 1) := by decide +kernel
theorem dX11_doAsk_108 : decode cX11_doAsk 108 = .ok (.iadd, 1) := by decide +kernel
theorem dX11_doAsk_109 : decode cX11_doAsk 109 = .ok (.iconst 2, 1) := by decide +kernel
theorem dX11_doAsk_110 : decode cX11_doAsk 110 = .ok (.iadd, 1) := by decide +kernel
theorem dX11_doAsk_111 : decode cX11_doAsk 111 = .ok (.iload 4, 2) := by decide +kernel
theorem dX11_doAsk_113 : decode cX11_doAsk 113 = .ok (.invokevirtual 134, 3) := by decide +kernel
theorem dX11_doAsk_116 : decode cX11_doAsk 116 = .ok (.aload_n 0, 1) := by decide +kernel
theorem dX11_doAsk_117 : decode cX11_doAsk 117 = .ok (.iload_n 1, 1) := by decide +kernel
theorem dX11_doAsk_118 : decode cX11_doAsk 118 = .ok (.iconst 5, 1) := by decide +kernel
theorem dX11_doAsk_119 : decode cX11_doAsk 119 = .ok (.iload 5, 2) := by decide +kernel
theorem dX11_doAsk_121 : decode cX11_doAsk 121 = .ok (.iconst 1, 1) := by decide +kernel
theorem dX11_doAsk_122 : decode cX11_doAsk 122 = .ok (.iadd, 1) := by decide +kernel
theorem dX11_doAsk_123 : decode cX11_doAsk 123 = .ok (.invokevirtual 134, 3) := by decide +kernel
theorem dX11_doAsk_126 : decode cX11_doAsk 126 = .ok (.iload 5, 2) := by decide +kernel
theorem dX11_doAsk_128 : decode cX11_doAsk 128 = .ok (.iconst 1, 1) := by decide +kernel
theorem dX11_doAsk_129 : decode cX11_doAsk 129 = .ok (.iadd, 1) := by decide +kernel
theorem dX11_doAsk_130 : decode cX11_doAsk 130 = .ok (.ireturn, 1) := by decide +kernel
abbrev rmX11_doAsk : Room := { frames := 4, cells := 0, slots := 0, locals := 103 }
set_option maxHeartbeats 4000000 in
set_option maxRecDepth 100000 in
theorem metX11_doAsk {l : Launch} {s0 : State} {b B : Nat} {D : va_G} {T : Nat → ClassId} (F : FX l s0 b D T B) {X : Nat → Prop} (hX : ∀ o, o < 12 → ¬ X (B + o)) {N : Nat} {μ : Mem} {a0 : Nat} {a1 : Int32} {a2 : Int32} {a3 : Int32} {a4 : Int32} {r : Mem × Int32} (k0 : IsMo a0) (h : fX11_doAsk N μ a0 a1 a2 a3 a4 = some r) : gMet l yX11_doAsk cX11_doAsk 6 (some .int) rmX11_doAsk [.ref (B + a0), .int a1, .int a2, .int a3, .int a4] (gWM D T B μ) (KC s0 X) (some (.int r.2)) (gWM D T B r.1) (gA B X) 0 0 := by
  refine gI_of RX11 (by decide +kernel) rfl (Nat.le_of_ble_eq_true rfl) ?_
  intro p e s m args below meth c ls Q hx hb hlocks hml hown hts hW hk hl hS hend
  have hC := FX_C F hk hx hb hown hts
  have hA := gA_allM hX
  have hl : lv_has ls 6 [(0, .ref (B + a0)), (1, .int a1), (2, .int a2), (3, .int a3), (4, .int a4)] := hl
  unfold fX11_doAsk at h
  refine lv_aload_n hx hb dX11_doAsk_0 rfl (lv_at hl 0 rfl) ?_
  refine lv_iload_n hx hb dX11_doAsk_1 rfl (lv_at hl 1 rfl) ?_
  obtain ⟨r1, hcall, h⟩ := bd_out h
  refine g0_callV (As := [.int a1]) hC hml hS hW (KC_at hk hS F.2.2.2.2) KC_blind (metX11_isExhibit F hX k0 hcall) ml_X11_141 (gw_recv hC hW k0.1 (k0.2.1 T B (μ a0)) rfl) ⟨rfl, rfl, Nat.le_of_ble_eq_true rfl, Nat.le_of_ble_eq_true rfl⟩ rfl hl.1 rfl (Nat.le_of_ble_eq_true rfl) dX11_doAsk_2 ⟨Nat.le_of_ble_eq_true rfl, Nat.le_of_ble_eq_true rfl⟩ (fun H locs hW hS => ?_)
  refine gw_if_neZ (tgt := 14) hx hb dX11_doAsk_5 (by decide) (fun c2 => ?_) (fun c2 => ?_)
  · replace h := cond_t c2 h
    refine lv_iload_n hx hb dX11_doAsk_14 rfl (lv_at hl 2 rfl) ?_
    refine lv_iconst (v := 0) hx hb dX11_doAsk_15 (by decide) ?_
    refine lv_bipush (v := 99) hx hb dX11_doAsk_16 (by decide) ?_
    obtain ⟨r3, hcall, h⟩ := bd_out h
    refine g0_callS (As := [.int a2, .int 0, .int 99]) hC hml hS hW (KC_at hk hS F.2.2.2.2) KC_blind (metX11_in F hX  hcall) ml_X11_73 ⟨rfl, rfl, Nat.le_of_ble_eq_true rfl, Nat.le_of_ble_eq_true rfl⟩ rfl hl.1 rfl (Nat.le_of_ble_eq_true rfl) dX11_doAsk_18 ⟨Nat.le_of_ble_eq_true rfl, Nat.le_of_ble_eq_true rfl⟩ (fun H locs hW hS => ?_)
    obtain ⟨j5, hj7, h⟩ := jn1_o h
    have J6 : ∀ (u4 : Unit), j5 u4 = some r → ∀ (H : Heap) (locs : List Loc) (ls : Array Slot), gWM D T B μ H → va_S (gA B X) s.heap H locs → lv_has ls 6 [(0, .ref (B + a0))] → W p l e rmX11_doAsk s m args below meth c H locs 0 0 Q (F0 m 45 ls []) := by
      clear h hW hS hl
      intro u4 h H locs ls hW hS hl
      replace h := (hj7 u4).symm.trans h
      refine lv_aload_n hx hb dX11_doAsk_45 rfl (lv_at hl 0 rfl) ?_
      refine lv_iconst (v := 2) hx hb dX11_doAsk_46 (by decide) ?_
      obtain ⟨r8, hcall, h⟩ := bd_out h
      refine g0_callV (As := [.int 2]) hC hml hS hW (KC_at hk hS F.2.2.2.2) KC_blind (metX11_fails F hX k0 hcall) ml_X11_69 (gw_recv hC hW k0.1 (k0.2.1 T B (μ a0)) rfl) ⟨rfl, rfl, Nat.le_of_ble_eq_true rfl, Nat.le_of_ble_eq_true rfl⟩ rfl hl.1 rfl (Nat.le_of_ble_eq_true rfl) dX11_doAsk_47 ⟨Nat.le_of_ble_eq_true rfl, Nat.le_of_ble_eq_true rfl⟩ (fun H locs hW hS => ?_)
      cases h
      exact hend dX11_doAsk_50 hW hS (Nat.le_of_ble_eq_true rfl) (Nat.le_of_ble_eq_true rfl)
    refine gw_if_eqZ (tgt := 45) hx hb dX11_doAsk_21 (by decide) (fun c9 => ?_) (fun c9 => ?_)
    · replace h := cond_f c9 h
      exact J6 _ h _ _ _ hW hS (lv_sub hl [0] rfl)
    · replace h := cond_t c9 h
      refine lv_iload_n hx hb dX11_doAsk_24 rfl (lv_at hl 3 rfl) ?_
      refine lv_iload_n hx hb dX11_doAsk_25 rfl (lv_at hl 2 rfl) ?_
      refine lv_bipush (v := 99) hx hb dX11_doAsk_26 (by decide) ?_
      obtain ⟨r10, hcall, h⟩ := bd_out h
      refine g0_callS (As := [.int a3, .int a2, .int 99]) hC hml hS hW (KC_at hk hS F.2.2.2.2) KC_blind (metX11_in F hX  hcall) ml_X11_73 ⟨rfl, rfl, Nat.le_of_ble_eq_true rfl, Nat.le_of_ble_eq_true rfl⟩ rfl hl.1 rfl (Nat.le_of_ble_eq_true rfl) dX11_doAsk_28 ⟨Nat.le_of_ble_eq_true rfl, Nat.le_of_ble_eq_true rfl⟩ (fun H locs hW hS => ?_)
      refine gw_if_eqZ (tgt := 45) hx hb dX11_doAsk_31 (by decide) (fun c11 => ?_) (fun c11 => ?_)
      · replace h := cond_f c11 h
        exact J6 _ h _ _ _ hW hS (lv_sub hl [0] rfl)
      · replace h := cond_t c11 h
        refine lv_iload hx hb dX11_doAsk_34 (lv_at hl 4 rfl) ?_
        refine lv_iconst (v := 1) hx hb dX11_doAsk_36 (by decide) ?_
        refine lv_bipush (v := 99) hx hb dX11_doAsk_37 (by decide) ?_
        obtain ⟨r12, hcall, h⟩ := bd_out h
        refine g0_callS (As := [.int a4, .int 1, .int 99]) hC hml hS hW (KC_at hk hS F.2.2.2.2) KC_blind (metX11_in F hX  hcall) ml_X11_73 ⟨rfl, rfl, Nat.le_of_ble_eq_true rfl, Nat.le_of_ble_eq_true rfl⟩ rfl hl.1 rfl (Nat.le_of_ble_eq_true rfl) dX11_doAsk_39 ⟨Nat.le_of_ble_eq_true rfl, Nat.le_of_ble_eq_true rfl⟩ (fun H locs hW hS => ?_)
        refine gw_if_neZ (tgt := 51) hx hb dX11_doAsk_42 (by decide) (fun c13 => ?_) (fun c13 => ?_)
        · replace h := cond_t c13 h
          refine lv_aload_n hx hb dX11_doAsk_51 rfl (lv_at hl 0 rfl) ?_
          refine lv_iload_n hx hb dX11_doAsk_52 rfl (lv_at hl 1 rfl) ?_
          refine lv_iconst (v := 5) hx hb dX11_doAsk_53 (by decide) ?_
          obtain ⟨r14, hcall, h⟩ := bd_out h
          refine g0_callV (As := [.int a1, .int 5]) hC hml hS hW (KC_at hk hS F.2.2.2.2) KC_blind (metX11_of F hX k0 hcall) ml_X11_144 (gw_recv hC hW k0.1 (k0.2.1 T B (μ a0)) rfl) ⟨rfl, rfl, Nat.le_of_ble_eq_true rfl, Nat.le_of_ble_eq_true rfl⟩ rfl hl.1 rfl (Nat.le_of_ble_eq_true rfl) dX11_doAsk_54 ⟨Nat.le_of_ble_eq_true rfl, Nat.le_of_ble_eq_true rfl⟩ (fun H locs hW hS => ?_)
          refine lv_istore (lv' := [(5, .int r14), (0, .ref (B + a0)), (1, .int a1), (2, .int a2), (3, .int a3), (4, .int a4)]) hx hb dX11_doAsk_57 hl (by decide) rfl (fun ls hl => ?_)
          refine lv_iload hx hb dX11_doAsk_59 (lv_at hl 0 rfl) ?_
          refine lv_bipush (v := 8) hx hb dX11_doAsk_61 (by decide) ?_
          refine lv_icmp_ne (tgt := 72) hx hb dX11_doAsk_63 (by decide) (fun c15 => ?_) (fun c15 => ?_)
          · replace h := ite_f c15 h
            refine lv_aload_n hx hb dX11_doAsk_72 rfl (lv_at hl 1 rfl) ?_
            refine lv_iload_n hx hb dX11_doAsk_73 rfl (lv_at hl 2 rfl) ?_
            refine lv_bipush (v := 23) hx hb dX11_doAsk_74 (by decide) ?_
            refine lv_iconst (v := 3) hx hb dX11_doAsk_76 (by decide) ?_
            refine lv_iload hx hb dX11_doAsk_77 (lv_at hl 0 rfl) ?_
            refine lv_imul hx hb dX11_doAsk_79 ?_
            refine lv_iadd hx hb dX11_doAsk_80 ?_
            refine lv_iload_n hx hb dX11_doAsk_81 rfl (lv_at hl 3 rfl) ?_
            obtain ⟨r16, hcall, h⟩ := bd_out h
            refine g0_callV (As := [.int a1, .int (23 + (3 * r14)), .int a2]) hC hml hS hW (KC_at hk hS F.2.2.2.2) KC_blind (metX11_sets F hX k0 hcall) ml_X11_134 (gw_recv hC hW k0.1 (k0.2.1 T B (μ a0)) rfl) ⟨rfl, rfl, Nat.le_of_ble_eq_true rfl, Nat.le_of_ble_eq_true rfl⟩ rfl hl.1 rfl (Nat.le_of_ble_eq_true rfl) dX11_doAsk_82 ⟨Nat.le_of_ble_eq_true rfl, Nat.le_of_ble_eq_true rfl⟩ (fun H locs hW hS => ?_)
            refine lv_aload_n hx hb dX11_doAsk_85 rfl (lv_at hl 1 rfl) ?_
            refine lv_iload_n hx hb dX11_doAsk_86 rfl (lv_at hl 2 rfl) ?_
            refine lv_bipush (v := 23) hx hb dX11_doAsk_87 (by decide) ?_
            refine lv_iconst (v := 3) hx hb dX11_doAsk_89 (by decide) ?_
            refine lv_iload hx hb dX11_doAsk_90 (lv_at hl 0 rfl) ?_
            refine lv_imul hx hb dX11_doAsk_92 ?_
            refine lv_iadd hx hb dX11_doAsk_93 ?_
            refine lv_iconst (v := 1) hx hb dX11_doAsk_94 (by decide) ?_
            refine lv_iadd hx hb dX11_doAsk_95 ?_
            refine lv_iload_n hx hb dX11_doAsk_96 rfl (lv_at hl 4 rfl) ?_
            obtain ⟨r17, hcall, h⟩ := bd_out h
            refine g0_callV (As := [.int a1, .int ((23 + (3 * r14)) + 1), .int a3]) hC hml hS hW (KC_at hk hS F.2.2.2.2) KC_blind (metX11_sets F hX k0 hcall) ml_X11_134 (gw_recv hC hW k0.1 (k0.2.1 T B (r16 a0)) rfl) ⟨rfl, rfl, Nat.le_of_ble_eq_true rfl, Nat.le_of_ble_eq_true rfl⟩ rfl hl.1 rfl (Nat.le_of_ble_eq_true rfl) dX11_doAsk_97 ⟨Nat.le_of_ble_eq_true rfl, Nat.le_of_ble_eq_true rfl⟩ (fun H locs hW hS => ?_)
            refine lv_aload_n hx hb dX11_doAsk_100 rfl (lv_at hl 1 rfl) ?_
            refine lv_iload_n hx hb dX11_doAsk_101 rfl (lv_at hl 2 rfl) ?_
            refine lv_bipush (v := 23) hx hb dX11_doAsk_102 (by decide) ?_
            refine lv_iconst (v := 3) hx hb dX11_doAsk_104 (by decide) ?_
            refine lv_iload hx hb dX11_doAsk_105 (lv_at hl 0 rfl) ?_
            refine lv_imul hx hb dX11_doAsk_107 ?_
            refine lv_iadd hx hb dX11_doAsk_108 ?_
            refine lv_iconst (v := 2) hx hb dX11_doAsk_109 (by decide) ?_
            refine lv_iadd hx hb dX11_doAsk_110 ?_
            refine lv_iload hx hb dX11_doAsk_111 (lv_at hl 5 rfl) ?_
            obtain ⟨r18, hcall, h⟩ := bd_out h
            refine g0_callV (As := [.int a1, .int ((23 + (3 * r14)) + 2), .int a4]) hC hml hS hW (KC_at hk hS F.2.2.2.2) KC_blind (metX11_sets F hX k0 hcall) ml_X11_134 (gw_recv hC hW k0.1 (k0.2.1 T B (r17 a0)) rfl) ⟨rfl, rfl, Nat.le_of_ble_eq_true rfl, Nat.le_of_ble_eq_true rfl⟩ rfl hl.1 rfl (Nat.le_of_ble_eq_true rfl) dX11_doAsk_113 ⟨Nat.le_of_ble_eq_true rfl, Nat.le_of_ble_eq_true rfl⟩ (fun H locs hW hS => ?_)
            refine lv_aload_n hx hb dX11_doAsk_116 rfl (lv_at hl 1 rfl) ?_
            refine lv_iload_n hx hb dX11_doAsk_117 rfl (lv_at hl 2 rfl) ?_
            refine lv_iconst (v := 5) hx hb dX11_doAsk_118 (by decide) ?_
            refine lv_iload hx hb dX11_doAsk_119 (lv_at hl 0 rfl) ?_
            refine lv_iconst (v := 1) hx hb dX11_doAsk_121 (by decide) ?_
            refine lv_iadd hx hb dX11_doAsk_122 ?_
            obtain ⟨r19, hcall, h⟩ := bd_out h
            refine g0_callV (As := [.int a1, .int 5, .int (r14 + 1)]) hC hml hS hW (KC_at hk hS F.2.2.2.2) KC_blind (metX11_sets F hX k0 hcall) ml_X11_134 (gw_recv hC hW k0.1 (k0.2.1 T B (r18 a0)) rfl) ⟨rfl, rfl, Nat.le_of_ble_eq_true rfl, Nat.le_of_ble_eq_true rfl⟩ rfl hl.1 rfl (Nat.le_of_ble_eq_true rfl) dX11_doAsk_123 ⟨Nat.le_of_ble_eq_true rfl, Nat.le_of_ble_eq_true rfl⟩ (fun H locs hW hS => ?_)
            refine lv_iload hx hb dX11_doAsk_126 (lv_at hl 0 rfl) ?_
            refine lv_iconst (v := 1) hx hb dX11_doAsk_128 (by decide) ?_
            refine lv_iadd hx hb dX11_doAsk_129 ?_
            cases h
            exact hend dX11_doAsk_130 hW hS (Nat.le_of_ble_eq_true rfl) (Nat.le_of_ble_eq_true rfl)
          · replace h := ite_t c15 h
            refine lv_aload_n hx hb dX11_doAsk_66 rfl (lv_at hl 1 rfl) ?_
            refine lv_iconst (v := 3) hx hb dX11_doAsk_67 (by decide) ?_
            obtain ⟨r20, hcall, h⟩ := bd_out h
            refine g0_callV (As := [.int 3]) hC hml hS hW (KC_at hk hS F.2.2.2.2) KC_blind (metX11_fails F hX k0 hcall) ml_X11_69 (gw_recv hC hW k0.1 (k0.2.1 T B (μ a0)) rfl) ⟨rfl, rfl, Nat.le_of_ble_eq_true rfl, Nat.le_of_ble_eq_true rfl⟩ rfl hl.1 rfl (Nat.le_of_ble_eq_true rfl) dX11_doAsk_68 ⟨Nat.le_of_ble_eq_true rfl, Nat.le_of_ble_eq_true rfl⟩ (fun H locs hW hS => ?_)
            cases h
            exact hend dX11_doAsk_71 hW hS (Nat.le_of_ble_eq_true rfl) (Nat.le_of_ble_eq_true rfl)
        · replace h := cond_f c13 h
          exact J6 _ h _ _ _ hW hS (lv_sub hl [0] rfl)
  · replace h := cond_f c2 h
    refine lv_aload_n hx hb dX11_doAsk_8 rfl (lv_at hl 0 rfl) ?_
    refine lv_iconst (v := 1) hx hb dX11_doAsk_9 (by decide) ?_
    obtain ⟨r21, hcall, h⟩ := bd_out h
    refine g0_callV (As := [.int 1]) hC hml hS hW (KC_at hk hS F.2.2.2.2) KC_blind (metX11_fails F hX k0 hcall) ml_X11_69 (gw_recv hC hW k0.1 (k0.2.1 T B (μ a0)) rfl) ⟨rfl, rfl, Nat.le_of_ble_eq_true rfl, Nat.le_of_ble_eq_true rfl⟩ rfl hl.1 rfl (Nat.le_of_ble_eq_true rfl) dX11_doAsk_10 ⟨Nat.le_of_ble_eq_true rfl, Nat.le_of_ble_eq_true rfl⟩ (fun H locs hW hS => ?_)
    cases h
    exact hend dX11_doAsk_13 hW hS (Nat.le_of_ble_eq_true rfl) (Nat.le_of_ble_eq_true rfl)

theorem dX11_ask_0 : decode cX11_ask 0 = .ok (.aload_n 0, 1) := by decide +kernel
theorem dX11_ask_1 : decode cX11_ask 1 = .ok (.invokevirtual 83, 3) := by decide +kernel
theorem dX11_ask_4 : decode cX11_ask 4 = .ok (.aload_n 0, 1) := by decide +kernel
theorem dX11_ask_5 : decode cX11_ask 5 = .ok (.aload_n 0, 1) := by decide +kernel
theorem dX11_ask_6 : decode cX11_ask 6 = .ok (.iload_n 1, 1) := by decide +kernel
theorem dX11_ask_7 : decode cX11_ask 7 = .ok (.iload_n 2, 1) := by decide +kernel
theorem dX11_ask_8 : decode cX11_ask 8 = .ok (.iload_n 3, 1) := by decide +kernel
theorem dX11_ask_9 : decode cX11_ask 9 = .ok (.iload 4, 2) := by decide +kernel
theorem dX11_ask_11 : decode cX11_ask 11 = .ok (.invokevirtual 215, 3) := by decide +kernel
theorem dX11_ask_14 : decode cX11_ask 14 = .ok (.invokevirtual 89, 3) := by decide +kernel
theorem dX11_ask_17 : decode cX11_ask 17 = .ok (.ireturn, 1) := by decide +kernel
abbrev rmX11_ask : Room := { frames := 5, cells := 0, slots := 0, locals := 128 }
set_option maxHeartbeats 4000000 in
set_option maxRecDepth 100000 in
theorem metX11_ask {l : Launch} {s0 : State} {b B : Nat} {D : va_G} {T : Nat → ClassId} (F : FX l s0 b D T B) {X : Nat → Prop} (hX : ∀ o, o < 12 → ¬ X (B + o)) {N : Nat} {μ : Mem} {a0 : Nat} {a1 : Int32} {a2 : Int32} {a3 : Int32} {a4 : Int32} {r : Mem × Int32} (k0 : IsMo a0) (h : fX11_ask N μ a0 a1 a2 a3 a4 = some r) : gMet l yX11_ask cX11_ask 5 (some .int) rmX11_ask [.ref (B + a0), .int a1, .int a2, .int a3, .int a4] (gWM D T B μ) (KC s0 X) (some (.int r.2)) (gWM D T B r.1) (gA B X) 0 0 := by
  refine gI_of RX11 (by decide +kernel) rfl (Nat.le_of_ble_eq_true rfl) ?_
  intro p e s m args below meth c ls Q hx hb hlocks hml hown hts hW hk hl hS hend
  have hC := FX_C F hk hx hb hown hts
  have hA := gA_allM hX
  have hl : lv_has ls 5 [(0, .ref (B + a0)), (1, .int a1), (2, .int a2), (3, .int a3), (4, .int a4)] := hl
  unfold fX11_ask at h
  refine lv_aload_n hx hb dX11_ask_0 rfl (lv_at hl 0 rfl) ?_
  obtain ⟨r1, hcall, h⟩ := bd_out h
  refine g0_callV (As := []) hC hml hS hW (KC_at hk hS F.2.2.2.2) KC_blind (metX11_keep F hX k0 hcall) ml_X11_83 (gw_recv hC hW k0.1 (k0.2.1 T B (μ a0)) rfl) ⟨rfl, rfl, Nat.le_of_ble_eq_true rfl, Nat.le_of_ble_eq_true rfl⟩ rfl hl.1 rfl (Nat.le_of_ble_eq_true rfl) dX11_ask_1 ⟨Nat.le_of_ble_eq_true rfl, Nat.le_of_ble_eq_true rfl⟩ (fun H locs hW hS => ?_)
  refine lv_aload_n hx hb dX11_ask_4 rfl (lv_at hl 0 rfl) ?_
  refine lv_aload_n hx hb dX11_ask_5 rfl (lv_at hl 0 rfl) ?_
  refine lv_iload_n hx hb dX11_ask_6 rfl (lv_at hl 1 rfl) ?_
  refine lv_iload_n hx hb dX11_ask_7 rfl (lv_at hl 2 rfl) ?_
  refine lv_iload_n hx hb dX11_ask_8 rfl (lv_at hl 3 rfl) ?_
  refine lv_iload hx hb dX11_ask_9 (lv_at hl 4 rfl) ?_
  obtain ⟨r2, hcall, h⟩ := bd_out h
  refine g0_callV (As := [.int a1, .int a2, .int a3, .int a4]) hC hml hS hW (KC_at hk hS F.2.2.2.2) KC_blind (metX11_doAsk F hX k0 hcall) ml_X11_215 (gw_recv hC hW k0.1 (k0.2.1 T B (r1 a0)) rfl) ⟨rfl, rfl, Nat.le_of_ble_eq_true rfl, Nat.le_of_ble_eq_true rfl⟩ rfl hl.1 rfl (Nat.le_of_ble_eq_true rfl) dX11_ask_11 ⟨Nat.le_of_ble_eq_true rfl, Nat.le_of_ble_eq_true rfl⟩ (fun H locs hW hS => ?_)
  obtain ⟨r3, hcall, h⟩ := bd_out h
  refine g0_callV (As := [.int r2.2]) hC hml hS hW (KC_at hk hS F.2.2.2.2) KC_blind (metX11_ends F hX k0 hcall) ml_X11_89 (gw_recv hC hW k0.1 (k0.2.1 T B (r2.1 a0)) rfl) ⟨rfl, rfl, Nat.le_of_ble_eq_true rfl, Nat.le_of_ble_eq_true rfl⟩ rfl hl.1 rfl (Nat.le_of_ble_eq_true rfl) dX11_ask_14 ⟨Nat.le_of_ble_eq_true rfl, Nat.le_of_ble_eq_true rfl⟩ (fun H locs hW hS => ?_)
  cases h
  exact hend dX11_ask_17 hW hS (Nat.le_of_ble_eq_true rfl) (Nat.le_of_ble_eq_true rfl)

theorem dX11_isChoice_0 : decode cX11_isChoice 0 = .ok (.iconst 0, 1) := by decide +kernel
theorem dX11_isChoice_1 : decode cX11_isChoice 1 = .ok (.istore_n 3, 1) := by decide +kernel
theorem dX11_isChoice_2 : decode cX11_isChoice 2 = .ok (.iload_n 3, 1) := by decide +kernel
theorem dX11_isChoice_3 : decode cX11_isChoice 3 = .ok (.bipush 100, 2) := by decide +kernel
theorem dX11_isChoice_5 : decode cX11_isChoice 5 = .ok (.if_icmp .ge 107, 3) := by decide +kernel
theorem dX11_isChoice_8 : decode cX11_isChoice 8 = .ok (.aload_n 0, 1) := by decide +kernel
theorem dX11_isChoice_9 : decode cX11_isChoice 9 = .ok (.iload_n 1, 1) := by decide +kernel
theorem dX11_isChoice_10 : decode cX11_isChoice 10 = .ok (.iload_n 3, 1) := by decide +kernel
theorem dX11_isChoice_11 : decode cX11_isChoice 11 = .ok (.invokevirtual 191, 3) := by decide +kernel
theorem dX11_isChoice_14 : decode cX11_isChoice 14 = .ok (.ifCond .eq 7, 3) := by decide +kernel
theorem dX11_isChoice_17 : decode cX11_isChoice 17 = .ok (.iconst 1, 1) := by decide +kernel
theorem dX11_isChoice_18 : decode cX11_isChoice 18 = .ok (.goto 4, 3) := by decide +kernel
theorem dX11_isChoice_21 : decode cX11_isChoice 21 = .ok (.iconst 0, 1) := by decide +kernel
theorem dX11_isChoice_22 : decode cX11_isChoice 22 = .ok (.istore 4, 2) := by decide +kernel
theorem dX11_isChoice_24 : decode cX11_isChoice 24 = .ok (.iconst 0, 1) := by decide +kernel
theorem dX11_isChoice_25 : decode cX11_isChoice 25 = .ok (.istore 5, 2) := by decide +kernel
theorem dX11_isChoice_27 : decode cX11_isChoice 27 = .ok (.iconst 0, 1) := by decide +kernel
theorem dX11_isChoice_28 : decode cX11_isChoice 28 = .ok (.istore 6, 2) := by decide +kernel
theorem dX11_isChoice_30 : decode cX11_isChoice 30 = .ok (.iload 6, 2) := by decide +kernel
theorem dX11_isChoice_32 : decode cX11_isChoice 32 = .ok (.aload_n 0, 1) := by decide +kernel
theorem dX11_isChoice_33 : decode cX11_isChoice 33 = .ok (.iload_n 1, 1) := by decide +kernel
theorem dX11_isChoice_34 : decode cX11_isChoice 34 = .ok (.iconst 5, 1) := by decide +kernel
theorem dX11_isChoice_35 : decode cX11_isChoice 35 = .ok (.invokevirtual 144, 3) := by decide +kernel
theorem dX11_isChoice_38 : decode cX11_isChoice 38 = .ok (.if_icmp .ge 52, 3) := by decide +kernel
theorem dX11_isChoice_41 : decode cX11_isChoice 41 = .ok (.iload 5, 2) := by decide +kernel
theorem dX11_isChoice_43 : decode cX11_isChoice 43 = .ok (.iload_n 2, 1) := by decide +kernel
theorem dX11_isChoice_44 : decode cX11_isChoice 44 = .ok (.iload 6, 2) := by decide +kernel
theorem dX11_isChoice_46 : decode cX11_isChoice 46 = .ok (.ishr, 1) := by decide +kernel
theorem dX11_isChoice_47 : decode cX11_isChoice 47 = .ok (.iconst 1, 1) := by decide +kernel
theorem dX11_isChoice_48 : decode cX11_isChoice 48 = .ok (.iand, 1) := by decide +kernel
theorem dX11_isChoice_49 : decode cX11_isChoice 49 = .ok (.iconst 1, 1) := by decide +kernel
theorem dX11_isChoice_50 : decode cX11_isChoice 50 = .ok (.if_icmp .ne 30, 3) := by decide +kernel
theorem dX11_isChoice_53 : decode cX11_isChoice 53 = .ok (.iload_n 3, 1) := by decide +kernel
theorem dX11_isChoice_54 : decode cX11_isChoice 54 = .ok (.aload_n 0, 1) := by decide +kernel
theorem dX11_isChoice_55 : decode cX11_isChoice 55 = .ok (.iload_n 1, 1) := by decide +kernel
theorem dX11_isChoice_56 : decode cX11_isChoice 56 = .ok (.iload 6, 2) := by decide +kernel
theorem dX11_isChoice_58 : decode cX11_isChoice 58 = .ok (.iconst 0, 1) := by decide +kernel
theorem dX11_isChoice_59 : decode cX11_isChoice 59 = .ok (.invokevirtual 218, 3) := by decide +kernel
theorem dX11_isChoice_62 : decode cX11_isChoice 62 = .ok (.aload_n 0, 1) := by decide +kernel
theorem dX11_isChoice_63 : decode cX11_isChoice 63 = .ok (.iload_n 1, 1) := by decide +kernel
theorem dX11_isChoice_64 : decode cX11_isChoice 64 = .ok (.iload 6, 2) := by decide +kernel
theorem dX11_isChoice_66 : decode cX11_isChoice 66 = .ok (.iconst 1, 1) := by decide +kernel
theorem dX11_isChoice_67 : decode cX11_isChoice 67 = .ok (.invokevirtual 218, 3) := by decide +kernel
theorem dX11_isChoice_70 : decode cX11_isChoice 70 = .ok (.invokestatic 73, 3) := by decide +kernel
theorem dX11_isChoice_73 : decode cX11_isChoice 73 = .ok (.ifCond .eq 7, 3) := by decide +kernel
theorem dX11_isChoice_76 : decode cX11_isChoice 76 = .ok (.iconst 1, 1) := by decide +kernel
theorem dX11_isChoice_77 : decode cX11_isChoice 77 = .ok (.goto 4, 3) := by decide +kernel
theorem dX11_isChoice_80 : decode cX11_isChoice 80 = .ok (.iconst 0, 1) := by decide +kernel
theorem dX11_isChoice_81 : decode cX11_isChoice 81 = .ok (.iadd, 1) := by decide +kernel
theorem dX11_isChoice_82 : decode cX11_isChoice 82 = .ok (.istore 5, 2) := by decide +kernel
theorem dX11_isChoice_84 : decode cX11_isChoice 84 = .ok (.iinc 6 1, 3) := by decide +kernel
theorem dX11_isChoice_87 : decode cX11_isChoice 87 = .ok (.goto (-57), 3) := by decide +kernel
theorem dX11_isChoice_90 : decode cX11_isChoice 90 = .ok (.iload 5, 2) := by decide +kernel
theorem dX11_isChoice_92 : decode cX11_isChoice 92 = .ok (.ifCond .le 14, 3) := by decide +kernel
theorem dX11_isChoice_95 : decode cX11_isChoice 95 = .ok (.iload 4, 2) := by decide +kernel
theorem dX11_isChoice_97 : decode cX11_isChoice 97 = .ok (.iload 5, 2) := by decide +kernel
theorem dX11_isChoice_99 : decode cX11_isChoice 99 = .ok (.iadd, 1) := by decide +kernel
theorem dX11_isChoice_100 : decode cX11_isChoice 100 = .ok (.iconst 1, 1) := by decide +kernel
theorem dX11_isChoice_101 : decode cX11_isChoice 101 = .ok (.if_icmp .le 5, 3) := by decide +kernel
theorem dX11_isChoice_104 : decode cX11_isChoice 104 = .ok (.iconst 0, 1) := by decide +kernel
theorem dX11_isChoice_105 : decode cX11_isChoice 105 = .ok (.ireturn, 1) := by decide +kernel
theorem dX11_isChoice_106 : decode cX11_isChoice 106 = .ok (.iinc 3 1, 3) := by decide +kernel
theorem dX11_isChoice_109 : decode cX11_isChoice 109 = .ok (.goto (-107), 3) := by decide +kernel
theorem dX11_isChoice_112 : decode cX11_isChoice 112 = .ok (.iconst 1, 1) := by decide +kernel
theorem dX11_isChoice_113 : decode cX11_isChoice 113 = .ok (.ireturn, 1) := by decide +kernel
abbrev rmX11_isChoice : Room := { frames := 4, cells := 0, slots := 0, locals := 105 }
set_option maxHeartbeats 4000000 in
set_option maxRecDepth 100000 in
theorem metX11_isChoice {l : Launch} {s0 : State} {b B : Nat} {D : va_G} {T : Nat → ClassId} (F : FX l s0 b D T B) {X : Nat → Prop} (hX : ∀ o, o < 12 → ¬ X (B + o)) {N : Nat} {μ : Mem} {a0 : Nat} {a1 : Int32} {a2 : Int32} {r : Bool} (k0 : IsMo a0) (h : fX11_isChoice N μ a0 a1 a2 = some r) : gMet l yX11_isChoice cX11_isChoice 7 (some .boolean) rmX11_isChoice [.ref (B + a0), .int a1, .int a2] (gWM D T B μ) (KC s0 X) (some (.int (b2i r))) (gWM D T B μ) (gA B X) 0 0 := by
  refine gZ_of RX11 (by decide +kernel) rfl (Nat.le_of_ble_eq_true rfl) ?_
  intro p e s m args below meth c ls Q hx hb hlocks hml hown hts hW hk hl hS hend
  have hC := FX_C F hk hx hb hown hts
  have hA := gA_allM hX
  have hl : lv_has ls 7 [(0, .ref (B + a0)), (1, .int a1), (2, .int a2)] := hl
  unfold fX11_isChoice at h
  refine lv_iconst (v := 0) hx hb dX11_isChoice_0 (by decide) ?_
  refine lv_istore_n (lv' := [(3, .int 0), (0, .ref (B + a0)), (1, .int a1), (2, .int a2)]) hx hb dX11_isChoice_1 rfl hl (by decide) rfl (fun ls hl => ?_)
  refine fix1_ind (fun (x1 : Int32) => ∀ (H : Heap) (locs : List Loc) (ls : Array Slot), gWM D T B μ H → va_S (gA B X) s.heap H locs → lv_has ls 7 [(0, .ref (B + a0)), (1, .int a1), (2, .int a2), (3, .int x1)] → W p l e rmX11_isChoice s m args below meth c H locs 0 0 Q (F0 m 2 ls [])) ?_ N _ h _ _ _ hW hS (lv_sub hl [1, 2, 3, 0] rfl)
  clear h hW hS hl
  intro self2 IH3 x1 h H locs ls hW hS hl
  refine lv_iload_n hx hb dX11_isChoice_2 rfl (lv_at hl 3 rfl) ?_
  refine lv_bipush (v := 100) hx hb dX11_isChoice_3 (by decide) ?_
  refine lv_icmp_ge (tgt := 112) hx hb dX11_isChoice_5 (by decide) (fun c4 => ?_) (fun c4 => ?_)
  · replace h := ite_t c4 h
    refine lv_iconst (v := 1) hx hb dX11_isChoice_112 (by decide) ?_
    cases h
    exact hend dX11_isChoice_113 hW hS (Nat.le_of_ble_eq_true rfl) (Nat.le_of_ble_eq_true rfl)
  · replace h := ite_f c4 h
    refine lv_aload_n hx hb dX11_isChoice_8 rfl (lv_at hl 0 rfl) ?_
    refine lv_iload_n hx hb dX11_isChoice_9 rfl (lv_at hl 1 rfl) ?_
    refine lv_iload_n hx hb dX11_isChoice_10 rfl (lv_at hl 3 rfl) ?_
    obtain ⟨r5, hcall, h⟩ := bd_out h
    refine g0_callV (As := [.int a1, .int x1]) hC hml hS hW (KC_at hk hS F.2.2.2.2) KC_blind (metX11_lent F hX k0 hcall) ml_X11_191 (gw_recv hC hW k0.1 (k0.2.1 T B (μ a0)) rfl) ⟨rfl, rfl, Nat.le_of_ble_eq_true rfl, Nat.le_of_ble_eq_true rfl⟩ rfl hl.1 rfl (Nat.le_of_ble_eq_true rfl) dX11_isChoice_11 ⟨Nat.le_of_ble_eq_true rfl, Nat.le_of_ble_eq_true rfl⟩ (fun H locs hW hS => ?_)
    obtain ⟨j7, hj9, h⟩ := jn1_o h
    have J8 : ∀ (y6 : Bool), j7 y6 = some r → ∀ (H : Heap) (locs : List Loc) (ls : Array Slot), gWM D T B μ H → va_S (gA B X) s.heap H locs → lv_has ls 7 [(0, .ref (B + a0)), (1, .int a1), (2, .int a2), (3, .int x1)] → W p l e rmX11_isChoice s m args below meth c H locs 0 0 Q (F0 m 22 ls [.int (b2i y6)]) := by
      clear h hW hS hl
      intro y6 h H locs ls hW hS hl
      replace h := (hj9 y6).symm.trans h
      refine lv_istore (lv' := [(4, .int (b2i y6)), (0, .ref (B + a0)), (1, .int a1), (2, .int a2), (3, .int x1)]) hx hb dX11_isChoice_22 hl (by decide) rfl (fun ls hl => ?_)
      refine lv_iconst (v := 0) hx hb dX11_isChoice_24 (by decide) ?_
      refine lv_istore (lv' := [(5, .int 0), (4, .int (b2i y6)), (0, .ref (B + a0)), (1, .int a1), (2, .int a2), (3, .int x1)]) hx hb dX11_isChoice_25 hl (by decide) rfl (fun ls hl => ?_)
      refine lv_iconst (v := 0) hx hb dX11_isChoice_27 (by decide) ?_
      refine lv_istore (lv' := [(6, .int 0), (5, .int 0), (4, .int (b2i y6)), (0, .ref (B + a0)), (1, .int a1), (2, .int a2), (3, .int x1)]) hx hb dX11_isChoice_28 hl (by decide) rfl (fun ls hl => ?_)
      refine fix2_ind (fun (x10 : Int32) (x11 : Int32) => ∀ (H : Heap) (locs : List Loc) (ls : Array Slot), gWM D T B μ H → va_S (gA B X) s.heap H locs → lv_has ls 7 [(0, .ref (B + a0)), (1, .int a1), (2, .int a2), (3, .int x1), (4, .int (b2i y6)), (5, .int x10), (6, .int x11)] → W p l e rmX11_isChoice s m args below meth c H locs 0 0 Q (F0 m 30 ls [])) ?_ N _ _ h _ _ _ hW hS (lv_sub hl [3, 4, 5, 6, 2, 1, 0] rfl)
      clear h hW hS hl
      intro self12 IH13 x10 x11 h H locs ls hW hS hl
      refine lv_iload hx hb dX11_isChoice_30 (lv_at hl 6 rfl) ?_
      refine lv_aload_n hx hb dX11_isChoice_32 rfl (lv_at hl 0 rfl) ?_
      refine lv_iload_n hx hb dX11_isChoice_33 rfl (lv_at hl 1 rfl) ?_
      refine lv_iconst (v := 5) hx hb dX11_isChoice_34 (by decide) ?_
      obtain ⟨r14, hcall, h⟩ := bd_out h
      refine g0_callV (As := [.int a1, .int 5]) hC hml hS hW (KC_at hk hS F.2.2.2.2) KC_blind (metX11_of F hX k0 hcall) ml_X11_144 (gw_recv hC hW k0.1 (k0.2.1 T B (μ a0)) rfl) ⟨rfl, rfl, Nat.le_of_ble_eq_true rfl, Nat.le_of_ble_eq_true rfl⟩ rfl hl.1 rfl (Nat.le_of_ble_eq_true rfl) dX11_isChoice_35 ⟨Nat.le_of_ble_eq_true rfl, Nat.le_of_ble_eq_true rfl⟩ (fun H locs hW hS => ?_)
      refine lv_icmp_ge (tgt := 90) hx hb dX11_isChoice_38 (by decide) (fun c15 => ?_) (fun c15 => ?_)
      · replace h := ite_t c15 h
        refine lv_iload hx hb dX11_isChoice_90 (lv_at hl 5 rfl) ?_
        obtain ⟨j17, hj19, h⟩ := jn1_o h
        have J18 : ∀ (u16 : Unit), j17 u16 = some r → ∀ (H : Heap) (locs : List Loc) (ls : Array Slot), gWM D T B μ H → va_S (gA B X) s.heap H locs → lv_has ls 7 [(0, .ref (B + a0)), (1, .int a1), (2, .int a2), (3, .int x1)] → W p l e rmX11_isChoice s m args below meth c H locs 0 0 Q (F0 m 106 ls []) := by
          clear h hW hS hl
          intro u16 h H locs ls hW hS hl
          replace h := (hj19 u16).symm.trans h
          obtain ⟨v20, e21, h⟩ := lt_out h
          refine lv_iinc (v := v20) (lv' := [(3, .int v20), (0, .ref (B + a0)), (1, .int a1), (2, .int a2)]) hx hb dX11_isChoice_106 hl (k := 3) rfl (by rw [e21]; rfl) (by decide) rfl (fun ls hl => ?_)
          refine lv_goto (tgt := 2) hx hb dX11_isChoice_109 (by decide) ?_
          exact IH3 _ h _ _ _ hW hS (lv_sub hl [1, 2, 3, 0] rfl)
        refine lv_if_le (tgt := 106) hx hb dX11_isChoice_92 (by decide) (fun c22 => ?_) (fun c22 => ?_)
        · replace h := ite_t c22 h
          exact J18 _ h _ _ _ hW hS (lv_sub hl [0, 1, 2, 3] rfl)
        · replace h := ite_f c22 h
          refine lv_iload hx hb dX11_isChoice_95 (lv_at hl 4 rfl) ?_
          refine lv_iload hx hb dX11_isChoice_97 (lv_at hl 5 rfl) ?_
          refine lv_iadd hx hb dX11_isChoice_99 ?_
          refine lv_iconst (v := 1) hx hb dX11_isChoice_100 (by decide) ?_
          refine lv_icmp_le (tgt := 106) hx hb dX11_isChoice_101 (by decide) (fun c23 => ?_) (fun c23 => ?_)
          · replace h := ite_t c23 h
            exact J18 _ h _ _ _ hW hS (lv_sub hl [0, 1, 2, 3] rfl)
          · replace h := ite_f c23 h
            refine lv_iconst (v := 0) hx hb dX11_isChoice_104 (by decide) ?_
            cases h
            exact hend dX11_isChoice_105 hW hS (Nat.le_of_ble_eq_true rfl) (Nat.le_of_ble_eq_true rfl)
      · replace h := ite_f c15 h
        refine lv_iload hx hb dX11_isChoice_41 (lv_at hl 5 rfl) ?_
        refine lv_iload_n hx hb dX11_isChoice_43 rfl (lv_at hl 2 rfl) ?_
        refine lv_iload hx hb dX11_isChoice_44 (lv_at hl 6 rfl) ?_
        refine lv_ishr hx hb dX11_isChoice_46 ?_
        refine lv_iconst (v := 1) hx hb dX11_isChoice_47 (by decide) ?_
        refine lv_iand hx hb dX11_isChoice_48 ?_
        refine lv_iconst (v := 1) hx hb dX11_isChoice_49 (by decide) ?_
        obtain ⟨j25, hj27, h⟩ := jn1_o h
        have J26 : ∀ (y24 : Bool), j25 y24 = some r → ∀ (H : Heap) (locs : List Loc) (ls : Array Slot), gWM D T B μ H → va_S (gA B X) s.heap H locs → lv_has ls 7 [(0, .ref (B + a0)), (1, .int a1), (2, .int a2), (3, .int x1), (4, .int (b2i y6)), (6, .int x11)] → W p l e rmX11_isChoice s m args below meth c H locs 0 0 Q (F0 m 81 ls [.int (b2i y24), .int x10]) := by
          clear h hW hS hl
          intro y24 h H locs ls hW hS hl
          replace h := (hj27 y24).symm.trans h
          refine lv_iadd hx hb dX11_isChoice_81 ?_
          obtain ⟨v28, e29, h⟩ := lt_out h
          rw [← e29]
          refine lv_istore (lv' := [(5, .int v28), (0, .ref (B + a0)), (1, .int a1), (2, .int a2), (3, .int x1), (4, .int (b2i y6)), (6, .int x11)]) hx hb dX11_isChoice_82 hl (by decide) rfl (fun ls hl => ?_)
          obtain ⟨v30, e31, h⟩ := lt_out h
          refine lv_iinc (v := v30) (lv' := [(6, .int v30), (5, .int v28), (0, .ref (B + a0)), (1, .int a1), (2, .int a2), (3, .int x1), (4, .int (b2i y6))]) hx hb dX11_isChoice_84 hl (k := 6) rfl (by rw [e31]; rfl) (by decide) rfl (fun ls hl => ?_)
          refine lv_goto (tgt := 30) hx hb dX11_isChoice_87 (by decide) ?_
          exact IH13 _ _ h _ _ _ hW hS (lv_sub hl [2, 3, 4, 5, 6, 1, 0] rfl)
        obtain ⟨j33, hj35, h⟩ := jn1_o h
        have J34 : ∀ (u32 : Unit), j33 u32 = some r → ∀ (H : Heap) (locs : List Loc) (ls : Array Slot), gWM D T B μ H → va_S (gA B X) s.heap H locs → lv_has ls 7 [(0, .ref (B + a0)), (1, .int a1), (2, .int a2), (3, .int x1), (4, .int (b2i y6)), (6, .int x11)] → W p l e rmX11_isChoice s m args below meth c H locs 0 0 Q (F0 m 80 ls [.int x10]) := by
          clear h hW hS hl
          intro u32 h H locs ls hW hS hl
          replace h := (hj35 u32).symm.trans h
          refine lv_iconst (v := 0) hx hb dX11_isChoice_80 (by decide) ?_
          exact J26 _ h _ _ _ hW hS (lv_sub hl [0, 1, 2, 3, 4, 5] rfl)
        refine lv_icmp_ne (tgt := 80) hx hb dX11_isChoice_50 (by decide) (fun c36 => ?_) (fun c36 => ?_)
        · replace h := ite_f c36 h
          exact J34 _ h _ _ _ hW hS (lv_sub hl [0, 1, 2, 3, 4, 6] rfl)
        · replace h := ite_t c36 h
          refine lv_iload_n hx hb dX11_isChoice_53 rfl (lv_at hl 3 rfl) ?_
          refine lv_aload_n hx hb dX11_isChoice_54 rfl (lv_at hl 0 rfl) ?_
          refine lv_iload_n hx hb dX11_isChoice_55 rfl (lv_at hl 1 rfl) ?_
          refine lv_iload hx hb dX11_isChoice_56 (lv_at hl 6 rfl) ?_
          refine lv_iconst (v := 0) hx hb dX11_isChoice_58 (by decide) ?_
          obtain ⟨r37, hcall, h⟩ := bd_out h
          refine g0_callV (As := [.int a1, .int x11, .int 0]) hC hml hS hW (KC_at hk hS F.2.2.2.2) KC_blind (metX11_loan F hX k0 hcall) ml_X11_218 (gw_recv hC hW k0.1 (k0.2.1 T B (μ a0)) rfl) ⟨rfl, rfl, Nat.le_of_ble_eq_true rfl, Nat.le_of_ble_eq_true rfl⟩ rfl hl.1 rfl (Nat.le_of_ble_eq_true rfl) dX11_isChoice_59 ⟨Nat.le_of_ble_eq_true rfl, Nat.le_of_ble_eq_true rfl⟩ (fun H locs hW hS => ?_)
          refine lv_aload_n hx hb dX11_isChoice_62 rfl (lv_at hl 0 rfl) ?_
          refine lv_iload_n hx hb dX11_isChoice_63 rfl (lv_at hl 1 rfl) ?_
          refine lv_iload hx hb dX11_isChoice_64 (lv_at hl 6 rfl) ?_
          refine lv_iconst (v := 1) hx hb dX11_isChoice_66 (by decide) ?_
          obtain ⟨r38, hcall, h⟩ := bd_out h
          refine g0_callV (As := [.int a1, .int x11, .int 1]) hC hml hS hW (KC_at hk hS F.2.2.2.2) KC_blind (metX11_loan F hX k0 hcall) ml_X11_218 (gw_recv hC hW k0.1 (k0.2.1 T B (μ a0)) rfl) ⟨rfl, rfl, Nat.le_of_ble_eq_true rfl, Nat.le_of_ble_eq_true rfl⟩ rfl hl.1 rfl (Nat.le_of_ble_eq_true rfl) dX11_isChoice_67 ⟨Nat.le_of_ble_eq_true rfl, Nat.le_of_ble_eq_true rfl⟩ (fun H locs hW hS => ?_)
          obtain ⟨r39, hcall, h⟩ := bd_out h
          refine g0_callS (As := [.int x1, .int r37, .int r38]) hC hml hS hW (KC_at hk hS F.2.2.2.2) KC_blind (metX11_in F hX  hcall) ml_X11_73 ⟨rfl, rfl, Nat.le_of_ble_eq_true rfl, Nat.le_of_ble_eq_true rfl⟩ rfl hl.1 rfl (Nat.le_of_ble_eq_true rfl) dX11_isChoice_70 ⟨Nat.le_of_ble_eq_true rfl, Nat.le_of_ble_eq_true rfl⟩ (fun H locs hW hS => ?_)
          refine gw_if_eqZ (tgt := 80) hx hb dX11_isChoice_73 (by decide) (fun c40 => ?_) (fun c40 => ?_)
          · replace h := cond_f c40 h
            exact J34 _ h _ _ _ hW hS (lv_sub hl [0, 1, 2, 3, 4, 6] rfl)
          · replace h := cond_t c40 h
            refine lv_iconst (v := 1) hx hb dX11_isChoice_76 (by decide) ?_
            refine lv_goto (tgt := 81) hx hb dX11_isChoice_77 (by decide) ?_
            exact J26 _ h _ _ _ hW hS (lv_sub hl [0, 1, 2, 3, 4, 6] rfl)
    refine gw_if_eqZ (tgt := 21) hx hb dX11_isChoice_14 (by decide) (fun c41 => ?_) (fun c41 => ?_)
    · replace h := cond_f c41 h
      refine lv_iconst (v := 0) hx hb dX11_isChoice_21 (by decide) ?_
      exact J8 _ h _ _ _ hW hS (lv_sub hl [0, 1, 2, 3] rfl)
    · replace h := cond_t c41 h
      refine lv_iconst (v := 1) hx hb dX11_isChoice_17 (by decide) ?_
      refine lv_goto (tgt := 22) hx hb dX11_isChoice_18 (by decide) ?_
      exact J8 _ h _ _ _ hW hS (lv_sub hl [0, 1, 2, 3] rfl)

theorem dX11_fees_0 : decode cX11_fees 0 = .ok (.iconst 0, 1) := by decide +kernel
theorem dX11_fees_1 : decode cX11_fees 1 = .ok (.istore_n 3, 1) := by decide +kernel
theorem dX11_fees_2 : decode cX11_fees 2 = .ok (.iconst 0, 1) := by decide +kernel
theorem dX11_fees_3 : decode cX11_fees 3 = .ok (.istore 4, 2) := by decide +kernel
theorem dX11_fees_5 : decode cX11_fees 5 = .ok (.iload 4, 2) := by decide +kernel
theorem dX11_fees_7 : decode cX11_fees 7 = .ok (.aload_n 0, 1) := by decide +kernel
theorem dX11_fees_8 : decode cX11_fees 8 = .ok (.iload_n 1, 1) := by decide +kernel
theorem dX11_fees_9 : decode cX11_fees 9 = .ok (.iconst 5, 1) := by decide +kernel
theorem dX11_fees_10 : decode cX11_fees 10 = .ok (.invokevirtual 144, 3) := by decide +kernel
theorem dX11_fees_13 : decode cX11_fees 13 = .ok (.if_icmp .ge 34, 3) := by decide +kernel
theorem dX11_fees_16 : decode cX11_fees 16 = .ok (.iload_n 3, 1) := by decide +kernel
theorem dX11_fees_17 : decode cX11_fees 17 = .ok (.iload_n 2, 1) := by decide +kernel
theorem dX11_fees_18 : decode cX11_fees 18 = .ok (.iload 4, 2) := by decide +kernel
theorem dX11_fees_20 : decode cX11_fees 20 = .ok (.ishr, 1) := by decide +kernel
theorem dX11_fees_21 : decode cX11_fees 21 = .ok (.iconst 1, 1) := by decide +kernel
theorem dX11_fees_22 : decode cX11_fees 22 = .ok (.iand, 1) := by decide +kernel
theorem dX11_fees_23 : decode cX11_fees 23 = .ok (.iconst 1, 1) := by decide +kernel
theorem dX11_fees_24 : decode cX11_fees 24 = .ok (.if_icmp .ne 14, 3) := by decide +kernel
theorem dX11_fees_27 : decode cX11_fees 27 = .ok (.aload_n 0, 1) := by decide +kernel
theorem dX11_fees_28 : decode cX11_fees 28 = .ok (.iload_n 1, 1) := by decide +kernel
theorem dX11_fees_29 : decode cX11_fees 29 = .ok (.iload 4, 2) := by decide +kernel
theorem dX11_fees_31 : decode cX11_fees 31 = .ok (.iconst 2, 1) := by decide +kernel
theorem dX11_fees_32 : decode cX11_fees 32 = .ok (.invokevirtual 218, 3) := by decide +kernel
theorem dX11_fees_35 : decode cX11_fees 35 = .ok (.goto 4, 3) := by decide +kernel
theorem dX11_fees_38 : decode cX11_fees 38 = .ok (.iconst 0, 1) := by decide +kernel
theorem dX11_fees_39 : decode cX11_fees 39 = .ok (.iadd, 1) := by decide +kernel
theorem dX11_fees_40 : decode cX11_fees 40 = .ok (.istore_n 3, 1) := by decide +kernel
theorem dX11_fees_41 : decode cX11_fees 41 = .ok (.iinc 4 1, 3) := by decide +kernel
theorem dX11_fees_44 : decode cX11_fees 44 = .ok (.goto (-39), 3) := by decide +kernel
theorem dX11_fees_47 : decode cX11_fees 47 = .ok (.iload_n 3, 1) := by decide +kernel
theorem dX11_fees_48 : decode cX11_fees 48 = .ok (.ireturn, 1) := by decide +kernel
abbrev rmX11_fees : Room := { frames := 4, cells := 0, slots := 0, locals := 105 }
set_option maxHeartbeats 4000000 in
set_option maxRecDepth 100000 in
theorem metX11_fees {l : Launch} {s0 : State} {b B : Nat} {D : va_G} {T : Nat → ClassId} (F : FX l s0 b D T B) {X : Nat → Prop} (hX : ∀ o, o < 12 → ¬ X (B + o)) {N : Nat} {μ : Mem} {a0 : Nat} {a1 : Int32} {a2 : Int32} {r : Int32} (k0 : IsMo a0) (h : fX11_fees N μ a0 a1 a2 = some r) : gMet l yX11_fees cX11_fees 5 (some .int) rmX11_fees [.ref (B + a0), .int a1, .int a2] (gWM D T B μ) (KC s0 X) (some (.int r)) (gWM D T B μ) (gA B X) 0 0 := by
  refine gI_of RX11 (by decide +kernel) rfl (Nat.le_of_ble_eq_true rfl) ?_
  intro p e s m args below meth c ls Q hx hb hlocks hml hown hts hW hk hl hS hend
  have hC := FX_C F hk hx hb hown hts
  have hA := gA_allM hX
  have hl : lv_has ls 5 [(0, .ref (B + a0)), (1, .int a1), (2, .int a2)] := hl
  unfold fX11_fees at h
  refine lv_iconst (v := 0) hx hb dX11_fees_0 (by decide) ?_
  refine lv_istore_n (lv' := [(3, .int 0), (0, .ref (B + a0)), (1, .int a1), (2, .int a2)]) hx hb dX11_fees_1 rfl hl (by decide) rfl (fun ls hl => ?_)
  refine lv_iconst (v := 0) hx hb dX11_fees_2 (by decide) ?_
  refine lv_istore (lv' := [(4, .int 0), (3, .int 0), (0, .ref (B + a0)), (1, .int a1), (2, .int a2)]) hx hb dX11_fees_3 hl (by decide) rfl (fun ls hl => ?_)
  refine fix2_ind (fun (x1 : Int32) (x2 : Int32) => ∀ (H : Heap) (locs : List Loc) (ls : Array Slot), gWM D T B μ H → va_S (gA B X) s.heap H locs → lv_has ls 5 [(0, .ref (B + a0)), (1, .int a1), (2, .int a2), (3, .int x1), (4, .int x2)] → W p l e rmX11_fees s m args below meth c H locs 0 0 Q (F0 m 5 ls [])) ?_ N _ _ h _ _ _ hW hS (lv_sub hl [2, 3, 4, 1, 0] rfl)
  clear h hW hS hl
  intro self3 IH4 x1 x2 h H locs ls hW hS hl
  refine lv_iload hx hb dX11_fees_5 (lv_at hl 4 rfl) ?_
  refine lv_aload_n hx hb dX11_fees_7 rfl (lv_at hl 0 rfl) ?_
  refine lv_iload_n hx hb dX11_fees_8 rfl (lv_at hl 1 rfl) ?_
  refine lv_iconst (v := 5) hx hb dX11_fees_9 (by decide) ?_
  obtain ⟨r5, hcall, h⟩ := bd_out h
  refine g0_callV (As := [.int a1, .int 5]) hC hml hS hW (KC_at hk hS F.2.2.2.2) KC_blind (metX11_of F hX k0 hcall) ml_X11_144 (gw_recv hC hW k0.1 (k0.2.1 T B (μ a0)) rfl) ⟨rfl, rfl, Nat.le_of_ble_eq_true rfl, Nat.le_of_ble_eq_true rfl⟩ rfl hl.1 rfl (Nat.le_of_ble_eq_true rfl) dX11_fees_10 ⟨Nat.le_of_ble_eq_true rfl, Nat.le_of_ble_eq_true rfl⟩ (fun H locs hW hS => ?_)
  refine lv_icmp_ge (tgt := 47) hx hb dX11_fees_13 (by decide) (fun c6 => ?_) (fun c6 => ?_)
  · replace h := ite_t c6 h
    refine lv_iload_n hx hb dX11_fees_47 rfl (lv_at hl 3 rfl) ?_
    cases h
    exact hend dX11_fees_48 hW hS (Nat.le_of_ble_eq_true rfl) (Nat.le_of_ble_eq_true rfl)
  · replace h := ite_f c6 h
    refine lv_iload_n hx hb dX11_fees_16 rfl (lv_at hl 3 rfl) ?_
    refine lv_iload_n hx hb dX11_fees_17 rfl (lv_at hl 2 rfl) ?_
    refine lv_iload hx hb dX11_fees_18 (lv_at hl 4 rfl) ?_
    refine lv_ishr hx hb dX11_fees_20 ?_
    refine lv_iconst (v := 1) hx hb dX11_fees_21 (by decide) ?_
    refine lv_iand hx hb dX11_fees_22 ?_
    refine lv_iconst (v := 1) hx hb dX11_fees_23 (by decide) ?_
    obtain ⟨j8, hj10, h⟩ := jn1_o h
    have J9 : ∀ (y7 : Int32), j8 y7 = some r → ∀ (H : Heap) (locs : List Loc) (ls : Array Slot), gWM D T B μ H → va_S (gA B X) s.heap H locs → lv_has ls 5 [(0, .ref (B + a0)), (1, .int a1), (2, .int a2), (4, .int x2)] → W p l e rmX11_fees s m args below meth c H locs 0 0 Q (F0 m 39 ls [.int y7, .int x1]) := by
      clear h hW hS hl
      intro y7 h H locs ls hW hS hl
      replace h := (hj10 y7).symm.trans h
      refine lv_iadd hx hb dX11_fees_39 ?_
      obtain ⟨v11, e12, h⟩ := lt_out h
      rw [← e12]
      refine lv_istore_n (lv' := [(3, .int v11), (0, .ref (B + a0)), (1, .int a1), (2, .int a2), (4, .int x2)]) hx hb dX11_fees_40 rfl hl (by decide) rfl (fun ls hl => ?_)
      obtain ⟨v13, e14, h⟩ := lt_out h
      refine lv_iinc (v := v13) (lv' := [(4, .int v13), (3, .int v11), (0, .ref (B + a0)), (1, .int a1), (2, .int a2)]) hx hb dX11_fees_41 hl (k := 4) rfl (by rw [e14]; rfl) (by decide) rfl (fun ls hl => ?_)
      refine lv_goto (tgt := 5) hx hb dX11_fees_44 (by decide) ?_
      exact IH4 _ _ h _ _ _ hW hS (lv_sub hl [2, 3, 4, 1, 0] rfl)
    refine lv_icmp_ne (tgt := 38) hx hb dX11_fees_24 (by decide) (fun c15 => ?_) (fun c15 => ?_)
    · replace h := ite_f c15 h
      refine lv_iconst (v := 0) hx hb dX11_fees_38 (by decide) ?_
      exact J9 _ h _ _ _ hW hS (lv_sub hl [0, 1, 2, 4] rfl)
    · replace h := ite_t c15 h
      refine lv_aload_n hx hb dX11_fees_27 rfl (lv_at hl 0 rfl) ?_
      refine lv_iload_n hx hb dX11_fees_28 rfl (lv_at hl 1 rfl) ?_
      refine lv_iload hx hb dX11_fees_29 (lv_at hl 4 rfl) ?_
      refine lv_iconst (v := 2) hx hb dX11_fees_31 (by decide) ?_
      obtain ⟨r16, hcall, h⟩ := bd_out h
      refine g0_callV (As := [.int a1, .int x2, .int 2]) hC hml hS hW (KC_at hk hS F.2.2.2.2) KC_blind (metX11_loan F hX k0 hcall) ml_X11_218 (gw_recv hC hW k0.1 (k0.2.1 T B (μ a0)) rfl) ⟨rfl, rfl, Nat.le_of_ble_eq_true rfl, Nat.le_of_ble_eq_true rfl⟩ rfl hl.1 rfl (Nat.le_of_ble_eq_true rfl) dX11_fees_32 ⟨Nat.le_of_ble_eq_true rfl, Nat.le_of_ble_eq_true rfl⟩ (fun H locs hW hS => ?_)
      refine lv_goto (tgt := 39) hx hb dX11_fees_35 (by decide) ?_
      exact J9 _ h _ _ _ hW hS (lv_sub hl [0, 1, 2, 4] rfl)

theorem dX11_bits_0 : decode cX11_bits 0 = .ok (.iconst 0, 1) := by decide +kernel
theorem dX11_bits_1 : decode cX11_bits 1 = .ok (.istore_n 1, 1) := by decide +kernel
theorem dX11_bits_2 : decode cX11_bits 2 = .ok (.iload_n 0, 1) := by decide +kernel
theorem dX11_bits_3 : decode cX11_bits 3 = .ok (.istore_n 2, 1) := by decide +kernel
theorem dX11_bits_4 : decode cX11_bits 4 = .ok (.iload_n 2, 1) := by decide +kernel
theorem dX11_bits_5 : decode cX11_bits 5 = .ok (.ifCond .le 16, 3) := by decide +kernel
theorem dX11_bits_8 : decode cX11_bits 8 = .ok (.iload_n 1, 1) := by decide +kernel
theorem dX11_bits_9 : decode cX11_bits 9 = .ok (.iload_n 2, 1) := by decide +kernel
theorem dX11_bits_10 : decode cX11_bits 10 = .ok (.iconst 1, 1) := by decide +kernel
theorem dX11_bits_11 : decode cX11_bits 11 = .ok (.iand, 1) := by decide +kernel
theorem dX11_bits_12 : decode cX11_bits 12 = .ok (.iadd, 1) := by decide +kernel
theorem dX11_bits_13 : decode cX11_bits 13 = .ok (.istore_n 1, 1) := by decide +kernel
theorem dX11_bits_14 : decode cX11_bits 14 = .ok (.iload_n 2, 1) := by decide +kernel
theorem dX11_bits_15 : decode cX11_bits 15 = .ok (.iconst 1, 1) := by decide +kernel
theorem dX11_bits_16 : decode cX11_bits 16 = .ok (.ishr, 1) := by decide +kernel
theorem dX11_bits_17 : decode cX11_bits 17 = .ok (.istore_n 2, 1) := by decide +kernel
theorem dX11_bits_18 : decode cX11_bits 18 = .ok (.goto (-14), 3) := by decide +kernel
theorem dX11_bits_21 : decode cX11_bits 21 = .ok (.iload_n 1, 1) := by decide +kernel
theorem dX11_bits_22 : decode cX11_bits 22 = .ok (.ireturn, 1) := by decide +kernel
abbrev rmX11_bits : Room := { frames := 2, cells := 0, slots := 0, locals := 60 }
set_option maxHeartbeats 4000000 in
set_option maxRecDepth 100000 in
theorem metX11_bits {l : Launch} {s0 : State} {b B : Nat} {D : va_G} {T : Nat → ClassId} (F : FX l s0 b D T B) {X : Nat → Prop} (hX : ∀ o, o < 12 → ¬ X (B + o)) {N : Nat} {μ : Mem} {a0 : Int32} {r : Int32}  (h : fX11_bits N μ a0 = some r) : gMet l yX11_bits cX11_bits 3 (some .int) rmX11_bits [.int a0] (gWM D T B μ) (KC s0 X) (some (.int r)) (gWM D T B μ) (gA B X) 0 0 := by
  refine gI_of RX11 (by decide +kernel) rfl (Nat.le_of_ble_eq_true rfl) ?_
  intro p e s m args below meth c ls Q hx hb hlocks hml hown hts hW hk hl hS hend
  have hC := FX_C F hk hx hb hown hts
  have hA := gA_allM hX
  have hl : lv_has ls 3 [(0, .int a0)] := hl
  unfold fX11_bits at h
  refine lv_iconst (v := 0) hx hb dX11_bits_0 (by decide) ?_
  refine lv_istore_n (lv' := [(1, .int 0), (0, .int a0)]) hx hb dX11_bits_1 rfl hl (by decide) rfl (fun ls hl => ?_)
  refine lv_iload_n hx hb dX11_bits_2 rfl (lv_at hl 1 rfl) ?_
  refine lv_istore_n (lv' := [(2, .int a0), (1, .int 0), (0, .int a0)]) hx hb dX11_bits_3 rfl hl (by decide) rfl (fun ls hl => ?_)
  refine fix2_ind (fun (x1 : Int32) (x2 : Int32) => ∀ (H : Heap) (locs : List Loc) (ls : Array Slot), gWM D T B μ H → va_S (gA B X) s.heap H locs → lv_has ls 3 [(1, .int x1), (2, .int x2)] → W p l e rmX11_bits s m args below meth c H locs 0 0 Q (F0 m 4 ls [])) ?_ N _ _ h _ _ _ hW hS (lv_sub hl [1, 0] rfl)
  clear h hW hS hl
  intro self3 IH4 x1 x2 h H locs ls hW hS hl
  refine lv_iload_n hx hb dX11_bits_4 rfl (lv_at hl 1 rfl) ?_
  refine lv_if_le (tgt := 21) hx hb dX11_bits_5 (by decide) (fun c5 => ?_) (fun c5 => ?_)
  · replace h := ite_t c5 h
    refine lv_iload_n hx hb dX11_bits_21 rfl (lv_at hl 0 rfl) ?_
    cases h
    exact hend dX11_bits_22 hW hS (Nat.le_of_ble_eq_true rfl) (Nat.le_of_ble_eq_true rfl)
  · replace h := ite_f c5 h
    refine lv_iload_n hx hb dX11_bits_8 rfl (lv_at hl 0 rfl) ?_
    refine lv_iload_n hx hb dX11_bits_9 rfl (lv_at hl 1 rfl) ?_
    refine lv_iconst (v := 1) hx hb dX11_bits_10 (by decide) ?_
    refine lv_iand hx hb dX11_bits_11 ?_
    refine lv_iadd hx hb dX11_bits_12 ?_
    obtain ⟨v6, e7, h⟩ := lt_out h
    rw [← e7]
    refine lv_istore_n (lv' := [(1, .int v6), (2, .int x2)]) hx hb dX11_bits_13 rfl hl (by decide) rfl (fun ls hl => ?_)
    refine lv_iload_n hx hb dX11_bits_14 rfl (lv_at hl 1 rfl) ?_
    refine lv_iconst (v := 1) hx hb dX11_bits_15 (by decide) ?_
    refine lv_ishr hx hb dX11_bits_16 ?_
    obtain ⟨v8, e9, h⟩ := lt_out h
    rw [← e9]
    refine lv_istore_n (lv' := [(2, .int v8), (1, .int v6)]) hx hb dX11_bits_17 rfl hl (by decide) rfl (fun ls hl => ?_)
    refine lv_goto (tgt := 4) hx hb dX11_bits_18 (by decide) ?_
    exact IH4 _ _ h _ _ _ hW hS (lv_sub hl [1, 0] rfl)

theorem dX11_best_0 : decode cX11_best 0 = .ok (.iconst 0, 1) := by decide +kernel
theorem dX11_best_1 : decode cX11_best 1 = .ok (.istore_n 2, 1) := by decide +kernel
theorem dX11_best_2 : decode cX11_best 2 = .ok (.iconst 1, 1) := by decide +kernel
theorem dX11_best_3 : decode cX11_best 3 = .ok (.istore_n 3, 1) := by decide +kernel
theorem dX11_best_4 : decode cX11_best 4 = .ok (.iload_n 3, 1) := by decide +kernel
theorem dX11_best_5 : decode cX11_best 5 = .ok (.iconst 1, 1) := by decide +kernel
theorem dX11_best_6 : decode cX11_best 6 = .ok (.aload_n 0, 1) := by decide +kernel
theorem dX11_best_7 : decode cX11_best 7 = .ok (.iload_n 1, 1) := by decide +kernel
theorem dX11_best_8 : decode cX11_best 8 = .ok (.iconst 5, 1) := by decide +kernel
theorem dX11_best_9 : decode cX11_best 9 = .ok (.invokevirtual 144, 3) := by decide +kernel
theorem dX11_best_12 : decode cX11_best 12 = .ok (.ishl, 1) := by decide +kernel
theorem dX11_best_13 : decode cX11_best 13 = .ok (.if_icmp .ge 98, 3) := by decide +kernel
theorem dX11_best_16 : decode cX11_best 16 = .ok (.aload_n 0, 1) := by decide +kernel
theorem dX11_best_17 : decode cX11_best 17 = .ok (.iload_n 1, 1) := by decide +kernel
theorem dX11_best_18 : decode cX11_best 18 = .ok (.iload_n 3, 1) := by decide +kernel
theorem dX11_best_19 : decode cX11_best 19 = .ok (.invokevirtual 222, 3) := by decide +kernel
theorem dX11_best_22 : decode cX11_best 22 = .ok (.ifCond .eq 83, 3) := by decide +kernel
theorem dX11_best_25 : decode cX11_best 25 = .ok (.aload_n 0, 1) := by decide +kernel
theorem dX11_best_26 : decode cX11_best 26 = .ok (.iload_n 1, 1) := by decide +kernel
theorem dX11_best_27 : decode cX11_best 27 = .ok (.iload_n 3, 1) := by decide +kernel
theorem dX11_best_28 : decode cX11_best 28 = .ok (.invokevirtual 225, 3) := by decide +kernel
theorem dX11_best_31 : decode cX11_best 31 = .ok (.aload_n 0, 1) := by decide +kernel
theorem dX11_best_32 : decode cX11_best 32 = .ok (.iload_n 1, 1) := by decide +kernel
theorem dX11_best_33 : decode cX11_best 33 = .ok (.iload_n 2, 1) := by decide +kernel
theorem dX11_best_34 : decode cX11_best 34 = .ok (.invokevirtual 225, 3) := by decide +kernel
theorem dX11_best_37 : decode cX11_best 37 = .ok (.isub, 1) := by decide +kernel
theorem dX11_best_38 : decode cX11_best 38 = .ok (.istore 4, 2) := by decide +kernel
theorem dX11_best_40 : decode cX11_best 40 = .ok (.iload 4, 2) := by decide +kernel
theorem dX11_best_42 : decode cX11_best 42 = .ok (.ifCond .eq 8, 3) := by decide +kernel
theorem dX11_best_45 : decode cX11_best 45 = .ok (.iload 4, 2) := by decide +kernel
theorem dX11_best_47 : decode cX11_best 47 = .ok (.goto 12, 3) := by decide +kernel
theorem dX11_best_50 : decode cX11_best 50 = .ok (.iload_n 2, 1) := by decide +kernel
theorem dX11_best_51 : decode cX11_best 51 = .ok (.invokestatic 228, 3) := by decide +kernel
theorem dX11_best_54 : decode cX11_best 54 = .ok (.iload_n 3, 1) := by decide +kernel
theorem dX11_best_55 : decode cX11_best 55 = .ok (.invokestatic 228, 3) := by decide +kernel
theorem dX11_best_58 : decode cX11_best 58 = .ok (.isub, 1) := by decide +kernel
theorem dX11_best_59 : decode cX11_best 59 = .ok (.istore 4, 2) := by decide +kernel
theorem dX11_best_61 : decode cX11_best 61 = .ok (.iload_n 3, 1) := by decide +kernel
theorem dX11_best_62 : decode cX11_best 62 = .ok (.iload_n 2, 1) := by decide +kernel
theorem dX11_best_63 : decode cX11_best 63 = .ok (.ixor, 1) := by decide +kernel
theorem dX11_best_64 : decode cX11_best 64 = .ok (.istore 5, 2) := by decide +kernel
theorem dX11_best_66 : decode cX11_best 66 = .ok (.iload 5, 2) := by decide +kernel
theorem dX11_best_68 : decode cX11_best 68 = .ok (.iload 5, 2) := by decide +kernel
theorem dX11_best_70 : decode cX11_best 70 = .ok (.ineg, 1) := by decide +kernel
theorem dX11_best_71 : decode cX11_best 71 = .ok (.iand, 1) := by decide +kernel
theorem dX11_best_72 : decode cX11_best 72 = .ok (.iload_n 3, 1) := by decide +kernel
theorem dX11_best_73 : decode cX11_best 73 = .ok (.iand, 1) := by decide +kernel
theorem dX11_best_74 : decode cX11_best 74 = .ok (.ifCond .eq 7, 3) := by decide +kernel
theorem dX11_best_77 : decode cX11_best 77 = .ok (.iconst 1, 1) := by decide +kernel
theorem dX11_best_78 : decode cX11_best 78 = .ok (.goto 4, 3) := by decide +kernel
theorem dX11_best_81 : decode cX11_best 81 = .ok (.iconst 0, 1) := by decide +kernel
theorem dX11_best_82 : decode cX11_best 82 = .ok (.istore 6, 2) := by decide +kernel
theorem dX11_best_84 : decode cX11_best 84 = .ok (.iload 4, 2) := by decide +kernel
theorem dX11_best_86 : decode cX11_best 86 = .ok (.ifCond .gt 13, 3) := by decide +kernel
theorem dX11_best_89 : decode cX11_best 89 = .ok (.iload 4, 2) := by decide +kernel
theorem dX11_best_91 : decode cX11_best 91 = .ok (.ifCond .ne 12, 3) := by decide +kernel
theorem dX11_best_94 : decode cX11_best 94 = .ok (.iload 6, 2) := by decide +kernel
theorem dX11_best_96 : decode cX11_best 96 = .ok (.ifCond .eq 7, 3) := by decide +kernel
theorem dX11_best_99 : decode cX11_best 99 = .ok (.iload_n 3, 1) := by decide +kernel
theorem dX11_best_100 : decode cX11_best 100 = .ok (.goto 4, 3) := by decide +kernel
theorem dX11_best_103 : decode cX11_best 103 = .ok (.iload_n 2, 1) := by decide +kernel
theorem dX11_best_104 : decode cX11_best 104 = .ok (.istore_n 2, 1) := by decide +kernel
theorem dX11_best_105 : decode cX11_best 105 = .ok (.iinc 3 1, 3) := by decide +kernel
theorem dX11_best_108 : decode cX11_best 108 = .ok (.goto (-104), 3) := by decide +kernel
theorem dX11_best_111 : decode cX11_best 111 = .ok (.iload_n 2, 1) := by decide +kernel
theorem dX11_best_112 : decode cX11_best 112 = .ok (.ireturn, 1) := by decide +kernel
abbrev rmX11_best : Room := { frames := 5, cells := 0, slots := 0, locals := 131 }
set_option maxHeartbeats 4000000 in
set_option maxRecDepth 100000 in
theorem metX11_best {l : Launch} {s0 : State} {b B : Nat} {D : va_G} {T : Nat → ClassId} (F : FX l s0 b D T B) {X : Nat → Prop} (hX : ∀ o, o < 12 → ¬ X (B + o)) {N : Nat} {μ : Mem} {a0 : Nat} {a1 : Int32} {r : Int32} (k0 : IsMo a0) (h : fX11_best N μ a0 a1 = some r) : gMet l yX11_best cX11_best 7 (some .int) rmX11_best [.ref (B + a0), .int a1] (gWM D T B μ) (KC s0 X) (some (.int r)) (gWM D T B μ) (gA B X) 0 0 := by
  refine gI_of RX11 (by decide +kernel) rfl (Nat.le_of_ble_eq_true rfl) ?_
  intro p e s m args below meth c ls Q hx hb hlocks hml hown hts hW hk hl hS hend
  have hC := FX_C F hk hx hb hown hts
  have hA := gA_allM hX
  have hl : lv_has ls 7 [(0, .ref (B + a0)), (1, .int a1)] := hl
  unfold fX11_best at h
  refine lv_iconst (v := 0) hx hb dX11_best_0 (by decide) ?_
  refine lv_istore_n (lv' := [(2, .int 0), (0, .ref (B + a0)), (1, .int a1)]) hx hb dX11_best_1 rfl hl (by decide) rfl (fun ls hl => ?_)
  refine lv_iconst (v := 1) hx hb dX11_best_2 (by decide) ?_
  refine lv_istore_n (lv' := [(3, .int 1), (2, .int 0), (0, .ref (B + a0)), (1, .int a1)]) hx hb dX11_best_3 rfl hl (by decide) rfl (fun ls hl => ?_)
  refine fix2_ind (fun (x1 : Int32) (x2 : Int32) => ∀ (H : Heap) (locs : List Loc) (ls : Array Slot), gWM D T B μ H → va_S (gA B X) s.heap H locs → lv_has ls 7 [(0, .ref (B + a0)), (1, .int a1), (2, .int x1), (3, .int x2)] → W p l e rmX11_best s m args below meth c H locs 0 0 Q (F0 m 4 ls [])) ?_ N _ _ h _ _ _ hW hS (lv_sub hl [2, 3, 1, 0] rfl)
  clear h hW hS hl
  intro self3 IH4 x1 x2 h H locs ls hW hS hl
  refine lv_iload_n hx hb dX11_best_4 rfl (lv_at hl 3 rfl) ?_
  refine lv_iconst (v := 1) hx hb dX11_best_5 (by decide) ?_
  refine lv_aload_n hx hb dX11_best_6 rfl (lv_at hl 0 rfl) ?_
  refine lv_iload_n hx hb dX11_best_7 rfl (lv_at hl 1 rfl) ?_
  refine lv_iconst (v := 5) hx hb dX11_best_8 (by decide) ?_
  obtain ⟨r5, hcall, h⟩ := bd_out h
  refine g0_callV (As := [.int a1, .int 5]) hC hml hS hW (KC_at hk hS F.2.2.2.2) KC_blind (metX11_of F hX k0 hcall) ml_X11_144 (gw_recv hC hW k0.1 (k0.2.1 T B (μ a0)) rfl) ⟨rfl, rfl, Nat.le_of_ble_eq_true rfl, Nat.le_of_ble_eq_true rfl⟩ rfl hl.1 rfl (Nat.le_of_ble_eq_true rfl) dX11_best_9 ⟨Nat.le_of_ble_eq_true rfl, Nat.le_of_ble_eq_true rfl⟩ (fun H locs hW hS => ?_)
  refine lv_ishl hx hb dX11_best_12 ?_
  refine lv_icmp_ge (tgt := 111) hx hb dX11_best_13 (by decide) (fun c6 => ?_) (fun c6 => ?_)
  · replace h := ite_t c6 h
    refine lv_iload_n hx hb dX11_best_111 rfl (lv_at hl 2 rfl) ?_
    cases h
    exact hend dX11_best_112 hW hS (Nat.le_of_ble_eq_true rfl) (Nat.le_of_ble_eq_true rfl)
  · replace h := ite_f c6 h
    refine lv_aload_n hx hb dX11_best_16 rfl (lv_at hl 0 rfl) ?_
    refine lv_iload_n hx hb dX11_best_17 rfl (lv_at hl 1 rfl) ?_
    refine lv_iload_n hx hb dX11_best_18 rfl (lv_at hl 3 rfl) ?_
    obtain ⟨r7, hcall, h⟩ := bd_out h
    refine g0_callV (As := [.int a1, .int x2]) hC hml hS hW (KC_at hk hS F.2.2.2.2) KC_blind (metX11_isChoice F hX k0 hcall) ml_X11_222 (gw_recv hC hW k0.1 (k0.2.1 T B (μ a0)) rfl) ⟨rfl, rfl, Nat.le_of_ble_eq_true rfl, Nat.le_of_ble_eq_true rfl⟩ rfl hl.1 rfl (Nat.le_of_ble_eq_true rfl) dX11_best_19 ⟨Nat.le_of_ble_eq_true rfl, Nat.le_of_ble_eq_true rfl⟩ (fun H locs hW hS => ?_)
    obtain ⟨j9, hj11, h⟩ := jn1_o h
    have J10 : ∀ (y8 : Int32), j9 y8 = some r → ∀ (H : Heap) (locs : List Loc) (ls : Array Slot), gWM D T B μ H → va_S (gA B X) s.heap H locs → lv_has ls 7 [(0, .ref (B + a0)), (1, .int a1), (2, .int y8), (3, .int x2)] → W p l e rmX11_best s m args below meth c H locs 0 0 Q (F0 m 105 ls []) := by
      clear h hW hS hl
      intro y8 h H locs ls hW hS hl
      replace h := (hj11 y8).symm.trans h
      obtain ⟨v12, e13, h⟩ := lt_out h
      refine lv_iinc (v := v12) (lv' := [(3, .int v12), (0, .ref (B + a0)), (1, .int a1), (2, .int y8)]) hx hb dX11_best_105 hl (k := 3) rfl (by rw [e13]; rfl) (by decide) rfl (fun ls hl => ?_)
      refine lv_goto (tgt := 4) hx hb dX11_best_108 (by decide) ?_
      exact IH4 _ _ h _ _ _ hW hS (lv_sub hl [1, 2, 3, 0] rfl)
    refine gw_if_eqZ (tgt := 105) hx hb dX11_best_22 (by decide) (fun c14 => ?_) (fun c14 => ?_)
    · replace h := cond_f c14 h
      exact J10 _ h _ _ _ hW hS (lv_sub hl [0, 1, 2, 3] rfl)
    · replace h := cond_t c14 h
      refine lv_aload_n hx hb dX11_best_25 rfl (lv_at hl 0 rfl) ?_
      refine lv_iload_n hx hb dX11_best_26 rfl (lv_at hl 1 rfl) ?_
      refine lv_iload_n hx hb dX11_best_27 rfl (lv_at hl 3 rfl) ?_
      obtain ⟨r15, hcall, h⟩ := bd_out h
      refine g0_callV (As := [.int a1, .int x2]) hC hml hS hW (KC_at hk hS F.2.2.2.2) KC_blind (metX11_fees F hX k0 hcall) ml_X11_225 (gw_recv hC hW k0.1 (k0.2.1 T B (μ a0)) rfl) ⟨rfl, rfl, Nat.le_of_ble_eq_true rfl, Nat.le_of_ble_eq_true rfl⟩ rfl hl.1 rfl (Nat.le_of_ble_eq_true rfl) dX11_best_28 ⟨Nat.le_of_ble_eq_true rfl, Nat.le_of_ble_eq_true rfl⟩ (fun H locs hW hS => ?_)
      refine lv_aload_n hx hb dX11_best_31 rfl (lv_at hl 0 rfl) ?_
      refine lv_iload_n hx hb dX11_best_32 rfl (lv_at hl 1 rfl) ?_
      refine lv_iload_n hx hb dX11_best_33 rfl (lv_at hl 2 rfl) ?_
      obtain ⟨r16, hcall, h⟩ := bd_out h
      refine g0_callV (As := [.int a1, .int x1]) hC hml hS hW (KC_at hk hS F.2.2.2.2) KC_blind (metX11_fees F hX k0 hcall) ml_X11_225 (gw_recv hC hW k0.1 (k0.2.1 T B (μ a0)) rfl) ⟨rfl, rfl, Nat.le_of_ble_eq_true rfl, Nat.le_of_ble_eq_true rfl⟩ rfl hl.1 rfl (Nat.le_of_ble_eq_true rfl) dX11_best_34 ⟨Nat.le_of_ble_eq_true rfl, Nat.le_of_ble_eq_true rfl⟩ (fun H locs hW hS => ?_)
      refine lv_isub hx hb dX11_best_37 ?_
      obtain ⟨v17, e18, h⟩ := lt_out h
      rw [← e18]
      refine lv_istore (lv' := [(4, .int v17), (0, .ref (B + a0)), (1, .int a1), (2, .int x1), (3, .int x2)]) hx hb dX11_best_38 hl (by decide) rfl (fun ls hl => ?_)
      refine lv_iload hx hb dX11_best_40 (lv_at hl 0 rfl) ?_
      obtain ⟨j20, hj22, h⟩ := jn1_o h
      have J21 : ∀ (y19 : Int32), j20 y19 = some r → ∀ (H : Heap) (locs : List Loc) (ls : Array Slot), gWM D T B μ H → va_S (gA B X) s.heap H locs → lv_has ls 7 [(0, .ref (B + a0)), (1, .int a1), (2, .int x1), (3, .int x2)] → W p l e rmX11_best s m args below meth c H locs 0 0 Q (F0 m 59 ls [.int y19]) := by
        clear h hW hS hl
        intro y19 h H locs ls hW hS hl
        replace h := (hj22 y19).symm.trans h
        refine lv_istore (lv' := [(4, .int y19), (0, .ref (B + a0)), (1, .int a1), (2, .int x1), (3, .int x2)]) hx hb dX11_best_59 hl (by decide) rfl (fun ls hl => ?_)
        refine lv_iload_n hx hb dX11_best_61 rfl (lv_at hl 4 rfl) ?_
        refine lv_iload_n hx hb dX11_best_62 rfl (lv_at hl 3 rfl) ?_
        refine lv_ixor hx hb dX11_best_63 ?_
        obtain ⟨v23, e24, h⟩ := lt_out h
        rw [← e24]
        refine lv_istore (lv' := [(5, .int v23), (4, .int y19), (0, .ref (B + a0)), (1, .int a1), (2, .int x1), (3, .int x2)]) hx hb dX11_best_64 hl (by decide) rfl (fun ls hl => ?_)
        refine lv_iload hx hb dX11_best_66 (lv_at hl 0 rfl) ?_
        refine lv_iload hx hb dX11_best_68 (lv_at hl 0 rfl) ?_
        refine lv_ineg hx hb dX11_best_70 ?_
        refine lv_iand hx hb dX11_best_71 ?_
        refine lv_iload_n hx hb dX11_best_72 rfl (lv_at hl 5 rfl) ?_
        refine lv_iand hx hb dX11_best_73 ?_
        obtain ⟨j26, hj28, h⟩ := jn1_o h
        have J27 : ∀ (y25 : Bool), j26 y25 = some r → ∀ (H : Heap) (locs : List Loc) (ls : Array Slot), gWM D T B μ H → va_S (gA B X) s.heap H locs → lv_has ls 7 [(0, .ref (B + a0)), (1, .int a1), (2, .int x1), (3, .int x2), (4, .int y19)] → W p l e rmX11_best s m args below meth c H locs 0 0 Q (F0 m 82 ls [.int (b2i y25)]) := by
          clear h hW hS hl
          intro y25 h H locs ls hW hS hl
          replace h := (hj28 y25).symm.trans h
          refine lv_istore (lv' := [(6, .int (b2i y25)), (0, .ref (B + a0)), (1, .int a1), (2, .int x1), (3, .int x2), (4, .int y19)]) hx hb dX11_best_82 hl (by decide) rfl (fun ls hl => ?_)
          refine lv_iload hx hb dX11_best_84 (lv_at hl 5 rfl) ?_
          obtain ⟨j30, hj32, h⟩ := jn1_o h
          have J31 : ∀ (y29 : Int32), j30 y29 = some r → ∀ (H : Heap) (locs : List Loc) (ls : Array Slot), gWM D T B μ H → va_S (gA B X) s.heap H locs → lv_has ls 7 [(0, .ref (B + a0)), (1, .int a1), (3, .int x2)] → W p l e rmX11_best s m args below meth c H locs 0 0 Q (F0 m 104 ls [.int y29]) := by
            clear h hW hS hl
            intro y29 h H locs ls hW hS hl
            replace h := (hj32 y29).symm.trans h
            refine lv_istore_n (lv' := [(2, .int y29), (0, .ref (B + a0)), (1, .int a1), (3, .int x2)]) hx hb dX11_best_104 rfl hl (by decide) rfl (fun ls hl => ?_)
            exact J10 _ h _ _ _ hW hS (lv_sub hl [1, 2, 0, 3] rfl)
          obtain ⟨j34, hj36, h⟩ := jn1_o h
          have J35 : ∀ (u33 : Unit), j34 u33 = some r → ∀ (H : Heap) (locs : List Loc) (ls : Array Slot), gWM D T B μ H → va_S (gA B X) s.heap H locs → lv_has ls 7 [(0, .ref (B + a0)), (1, .int a1), (3, .int x2)] → W p l e rmX11_best s m args below meth c H locs 0 0 Q (F0 m 99 ls []) := by
            clear h hW hS hl
            intro u33 h H locs ls hW hS hl
            replace h := (hj36 u33).symm.trans h
            refine lv_iload_n hx hb dX11_best_99 rfl (lv_at hl 2 rfl) ?_
            refine lv_goto (tgt := 104) hx hb dX11_best_100 (by decide) ?_
            exact J31 _ h _ _ _ hW hS (lv_sub hl [0, 1, 2] rfl)
          refine lv_if_gt (tgt := 99) hx hb dX11_best_86 (by decide) (fun c37 => ?_) (fun c37 => ?_)
          · replace h := ite_t c37 h
            exact J35 _ h _ _ _ hW hS (lv_sub hl [1, 2, 4] rfl)
          · replace h := ite_f c37 h
            refine lv_iload hx hb dX11_best_89 (lv_at hl 5 rfl) ?_
            obtain ⟨j39, hj41, h⟩ := jn1_o h
            have J40 : ∀ (u38 : Unit), j39 u38 = some r → ∀ (H : Heap) (locs : List Loc) (ls : Array Slot), gWM D T B μ H → va_S (gA B X) s.heap H locs → lv_has ls 7 [(0, .ref (B + a0)), (1, .int a1), (2, .int x1), (3, .int x2)] → W p l e rmX11_best s m args below meth c H locs 0 0 Q (F0 m 103 ls []) := by
              clear h hW hS hl
              intro u38 h H locs ls hW hS hl
              replace h := (hj41 u38).symm.trans h
              refine lv_iload_n hx hb dX11_best_103 rfl (lv_at hl 2 rfl) ?_
              exact J31 _ h _ _ _ hW hS (lv_sub hl [0, 1, 3] rfl)
            refine lv_if_ne (tgt := 103) hx hb dX11_best_91 (by decide) (fun c42 => ?_) (fun c42 => ?_)
            · replace h := ite_f c42 h
              exact J40 _ h _ _ _ hW hS (lv_sub hl [1, 2, 3, 4] rfl)
            · replace h := ite_t c42 h
              refine lv_iload hx hb dX11_best_94 (lv_at hl 0 rfl) ?_
              refine gw_if_eqZ (tgt := 103) hx hb dX11_best_96 (by decide) (fun c43 => ?_) (fun c43 => ?_)
              · replace h := cond_f c43 h
                exact J40 _ h _ _ _ hW hS (lv_sub hl [1, 2, 3, 4] rfl)
              · replace h := cond_t c43 h
                exact J35 _ h _ _ _ hW hS (lv_sub hl [1, 2, 4] rfl)
        refine lv_if_eq (tgt := 81) hx hb dX11_best_74 (by decide) (fun c44 => ?_) (fun c44 => ?_)
        · replace h := ite_t c44 h
          refine lv_iconst (v := 0) hx hb dX11_best_81 (by decide) ?_
          exact J27 _ h _ _ _ hW hS (lv_sub hl [2, 3, 4, 5, 1] rfl)
        · replace h := ite_f c44 h
          refine lv_iconst (v := 1) hx hb dX11_best_77 (by decide) ?_
          refine lv_goto (tgt := 82) hx hb dX11_best_78 (by decide) ?_
          exact J27 _ h _ _ _ hW hS (lv_sub hl [2, 3, 4, 5, 1] rfl)
      refine lv_if_eq (tgt := 50) hx hb dX11_best_42 (by decide) (fun c45 => ?_) (fun c45 => ?_)
      · replace h := ite_t c45 h
        refine lv_iload_n hx hb dX11_best_50 rfl (lv_at hl 3 rfl) ?_
        obtain ⟨r46, hcall, h⟩ := bd_out h
        refine g0_callS (As := [.int x1]) hC hml hS hW (KC_at hk hS F.2.2.2.2) KC_blind (metX11_bits F hX  hcall) ml_X11_228 ⟨rfl, rfl, Nat.le_of_ble_eq_true rfl, Nat.le_of_ble_eq_true rfl⟩ rfl hl.1 rfl (Nat.le_of_ble_eq_true rfl) dX11_best_51 ⟨Nat.le_of_ble_eq_true rfl, Nat.le_of_ble_eq_true rfl⟩ (fun H locs hW hS => ?_)
        refine lv_iload_n hx hb dX11_best_54 rfl (lv_at hl 4 rfl) ?_
        obtain ⟨r47, hcall, h⟩ := bd_out h
        refine g0_callS (As := [.int x2]) hC hml hS hW (KC_at hk hS F.2.2.2.2) KC_blind (metX11_bits F hX  hcall) ml_X11_228 ⟨rfl, rfl, Nat.le_of_ble_eq_true rfl, Nat.le_of_ble_eq_true rfl⟩ rfl hl.1 rfl (Nat.le_of_ble_eq_true rfl) dX11_best_55 ⟨Nat.le_of_ble_eq_true rfl, Nat.le_of_ble_eq_true rfl⟩ (fun H locs hW hS => ?_)
        refine lv_isub hx hb dX11_best_58 ?_
        exact J21 _ h _ _ _ hW hS (lv_sub hl [1, 2, 3, 4] rfl)
      · replace h := ite_f c45 h
        refine lv_iload hx hb dX11_best_45 (lv_at hl 0 rfl) ?_
        refine lv_goto (tgt := 59) hx hb dX11_best_47 (by decide) ?_
        exact J21 _ h _ _ _ hW hS (lv_sub hl [1, 2, 3, 4] rfl)

theorem dX11_doTakeBest_0 : decode cX11_doTakeBest 0 = .ok (.aload_n 0, 1) := by decide +kernel
theorem dX11_doTakeBest_1 : decode cX11_doTakeBest 1 = .ok (.iload_n 1, 1) := by decide +kernel
theorem dX11_doTakeBest_2 : decode cX11_doTakeBest 2 = .ok (.invokevirtual 141, 3) := by decide +kernel
theorem dX11_doTakeBest_5 : decode cX11_doTakeBest 5 = .ok (.ifCond .ne 9, 3) := by decide +kernel
theorem dX11_doTakeBest_8 : decode cX11_doTakeBest 8 = .ok (.aload_n 0, 1) := by decide +kernel
theorem dX11_doTakeBest_9 : decode cX11_doTakeBest 9 = .ok (.iconst 1, 1) := by decide +kernel
theorem dX11_doTakeBest_10 : decode cX11_doTakeBest 10 = .ok (.invokevirtual 69, 3) := by decide +kernel
theorem dX11_doTakeBest_13 : decode cX11_doTakeBest 13 = .ok (.ireturn, 1) := by decide +kernel
theorem dX11_doTakeBest_14 : decode cX11_doTakeBest 14 = .ok (.aload_n 0, 1) := by decide +kernel
theorem dX11_doTakeBest_15 : decode cX11_doTakeBest 15 = .ok (.iload_n 1, 1) := by decide +kernel
theorem dX11_doTakeBest_16 : decode cX11_doTakeBest 16 = .ok (.iconst 5, 1) := by decide +kernel
theorem dX11_doTakeBest_17 : decode cX11_doTakeBest 17 = .ok (.invokevirtual 144, 3) := by decide +kernel
theorem dX11_doTakeBest_20 : decode cX11_doTakeBest 20 = .ok (.ifCond .ne 9, 3) := by decide +kernel
theorem dX11_doTakeBest_23 : decode cX11_doTakeBest 23 = .ok (.aload_n 0, 1) := by decide +kernel
theorem dX11_doTakeBest_24 : decode cX11_doTakeBest 24 = .ok (.iconst 2, 1) := by decide +kernel
theorem dX11_doTakeBest_25 : decode cX11_doTakeBest 25 = .ok (.invokevirtual 69, 3) := by decide +kernel
theorem dX11_doTakeBest_28 : decode cX11_doTakeBest 28 = .ok (.ireturn, 1) := by decide +kernel
theorem dX11_doTakeBest_29 : decode cX11_doTakeBest 29 = .ok (.aload_n 0, 1) := by decide +kernel
theorem dX11_doTakeBest_30 : decode cX11_doTakeBest 30 = .ok (.iload_n 1, 1) := by decide +kernel
theorem dX11_doTakeBest_31 : decode cX11_doTakeBest 31 = .ok (.invokevirtual 231, 3) := by decide +kernel
theorem dX11_doTakeBest_34 : decode cX11_doTakeBest 34 = .ok (.istore_n 2, 1) := by decide +kernel
theorem dX11_doTakeBest_35 : decode cX11_doTakeBest 35 = .ok (.aload_n 0, 1) := by decide +kernel
theorem dX11_doTakeBest_36 : decode cX11_doTakeBest 36 = .ok (.iload_n 1, 1) := by decide +kernel
theorem dX11_doTakeBest_37 : decode cX11_doTakeBest 37 = .ok (.iload_n 2, 1) := by decide +kernel
theorem dX11_doTakeBest_38 : decode cX11_doTakeBest 38 = .ok (.invokevirtual 225, 3) := by decide +kernel
theorem dX11_doTakeBest_41 : decode cX11_doTakeBest 41 = .ok (.istore_n 3, 1) := by decide +kernel
theorem dX11_doTakeBest_42 : decode cX11_doTakeBest 42 = .ok (.iconst 0, 1) := by decide +kernel
theorem dX11_doTakeBest_43 : decode cX11_doTakeBest 43 = .ok (.istore 4, 2) := by decide +kernel
theorem dX11_doTakeBest_45 : decode cX11_doTakeBest 45 = .ok (.iload 4, 2) := by decide +kernel
theorem dX11_doTakeBest_47 : decode cX11_doTakeBest 47 = .ok (.aload_n 0, 1) := by decide +kernel
theorem dX11_doTakeBest_48 : decode cX11_doTakeBest 48 = .ok (.iload_n 1, 1) := by decide +kernel
theorem dX11_doTakeBest_49 : decode cX11_doTakeBest 49 = .ok (.iconst 5, 1) := by decide +kernel
theorem dX11_doTakeBest_50 : decode cX11_doTakeBest 50 = .ok (.invokevirtual 144, 3) := by decide +kernel
theorem dX11_doTakeBest_53 : decode cX11_doTakeBest 53 = .ok (.if_icmp .ge 68, 3) := by decide +kernel
theorem dX11_doTakeBest_56 : decode cX11_doTakeBest 56 = .ok (.aload_n 0, 1) := by decide +kernel
theorem dX11_doTakeBest_57 : decode cX11_doTakeBest 57 = .ok (.iload_n 1, 1) := by decide +kernel
theorem dX11_doTakeBest_58 : decode cX11_doTakeBest 58 = .ok (.iload 4, 2) := by decide +kernel
theorem dX11_doTakeBest_60 : decode cX11_doTakeBest 60 = .ok (.iconst 0, 1) := by decide +kernel
theorem dX11_doTakeBest_61 : decode cX11_doTakeBest 61 = .ok (.invokevirtual 218, 3) := by decide +kernel
theorem dX11_doTakeBest_64 : decode cX11_doTakeBest 64 = .ok (.istore 5, 2) := by decide +kernel
theorem dX11_doTakeBest_66 : decode cX11_doTakeBest 66 = .ok (.iload 5, 2) := by decide +kernel
theorem dX11_doTakeBest_68 : decode cX11_doTakeBest 68 = .ok (.aload_n 0, 1) := by decide +kernel
theorem dX11_doTakeBest_69 : decode cX11_doTakeBest 69 = .ok (.iload_n 1, 1) := by decide +kernel
theorem dX11_doTakeBest_70 : decode cX11_doTakeBest 70 = .ok (.iload 4, 2) := by decide +kernel
theorem dX11_doTakeBest_72 : decode cX11_doTakeBest 72 = .ok (.iconst 1, 1) := by decide +kernel
theorem dX11_doTakeBest_73 : decode cX11_doTakeBest 73 = .ok (.invokevirtual 218, 3) := by decide +kernel
theorem dX11_doTakeBest_76 : decode cX11_doTakeBest 76 = .ok (.if_icmp .gt 39, 3) := by decide +kernel
theorem dX11_doTakeBest_79 : decode cX11_doTakeBest 79 = .ok (.iload_n 2, 1) := by decide +kernel
theorem dX11_doTakeBest_80 : decode cX11_doTakeBest 80 = .ok (.iload 4, 2) := by decide +kernel
theorem dX11_doTakeBest_82 : decode cX11_doTakeBest 82 = .ok (.ishr, 1) := by decide +kernel
theorem dX11_doTakeBest_83 : decode cX11_doTakeBest 83 = .ok (.iconst 1, 1) := by decide +kernel
theorem dX11_doTakeBest_84 : decode cX11_doTakeBest 84 = .ok (.iand, 1) := by decide +kernel
theorem dX11_doTakeBest_85 : decode cX11_doTakeBest 85 = .ok (.iconst 1, 1) := by decide +kernel
theorem dX11_doTakeBest_86 : decode cX11_doTakeBest 86 = .ok (.if_icmp .ne 29, 3) := by decide +kernel
theorem dX11_doTakeBest_89 : decode cX11_doTakeBest 89 = .ok (.aload_n 0, 1) := by decide +kernel
theorem dX11_doTakeBest_90 : decode cX11_doTakeBest 90 = .ok (.iload_n 1, 1) := by decide +kernel
theorem dX11_doTakeBest_91 : decode cX11_doTakeBest 91 = .ok (.bipush 47, 2) := by decide +kernel
theorem dX11_doTakeBest_93 : decode cX11_doTakeBest 93 = .ok (.iload 5, 2) := by decide +kernel
theorem dX11_doTakeBest_95 : decode cX11_doTakeBest 95 = .ok (.iadd, 1) := by decide +kernel
theorem dX11_doTakeBest_96 : decode cX11_doTakeBest 96 = .ok (.aload_n 0, 1) := by decide +kernel
theorem dX11_doTakeBest_97 : decode cX11_doTakeBest 97 = .ok (.iload_n 1, 1) := by decide +kernel
theorem dX11_doTakeBest_98 : decode cX11_doTakeBest 98 = .ok (.iload 4, 2) := by decide +kernel
theorem dX11_doTakeBest_100 : decode cX11_doTakeBest 100 = .ok (.iconst 1, 1) := by decide +kernel
theorem dX11_doTakeBest_101 : decode cX11_doTakeBest 101 = .ok (.invokevirtual 218, 3) := by decide +kernel
theorem dX11_doTakeBest_104 : decode cX11_doTakeBest 104 = .ok (.iconst 1, 1) := by decide +kernel
theorem dX11_doTakeBest_105 : decode cX11_doTakeBest 105 = .ok (.iadd, 1) := by decide +kernel
theorem dX11_doTakeBest_106 : decode cX11_doTakeBest 106 = .ok (.invokevirtual 134, 3) := by decide +kernel
theorem dX11_doTakeBest_109 : decode cX11_doTakeBest 109 = .ok (.iinc 5 1, 3) := by decide +kernel
theorem dX11_doTakeBest_112 : decode cX11_doTakeBest 112 = .ok (.goto (-46), 3) := by decide +kernel
theorem dX11_doTakeBest_115 : decode cX11_doTakeBest 115 = .ok (.iinc 4 1, 3) := by decide +kernel
theorem dX11_doTakeBest_118 : decode cX11_doTakeBest 118 = .ok (.goto (-73), 3) := by decide +kernel
theorem dX11_doTakeBest_121 : decode cX11_doTakeBest 121 = .ok (.aload_n 0, 1) := by decide +kernel
theorem dX11_doTakeBest_122 : decode cX11_doTakeBest 122 = .ok (.iload_n 1, 1) := by decide +kernel
theorem dX11_doTakeBest_123 : decode cX11_doTakeBest 123 = .ok (.bipush 6, 2) := by decide +kernel
theorem dX11_doTakeBest_125 : decode cX11_doTakeBest 125 = .ok (.aload_n 0, 1) := by decide +kernel
theorem dX11_doTakeBest_126 : decode cX11_doTakeBest 126 = .ok (.iload_n 1, 1) := by decide +kernel
theorem dX11_doTakeBest_127 : decode cX11_doTakeBest 127 = .ok (.bipush 6, 2) := by decide +kernel
theorem dX11_doTakeBest_129 : decode cX11_doTakeBest 129 = .ok (.invokevirtual 144, 3) := by decide +kernel
theorem dX11_doTakeBest_132 : decode cX11_doTakeBest 132 = .ok (.iload_n 2, 1) := by decide +kernel
theorem dX11_doTakeBest_133 : decode cX11_doTakeBest 133 = .ok (.invokestatic 228, 3) := by decide +kernel
theorem dX11_doTakeBest_136 : decode cX11_doTakeBest 136 = .ok (.iadd, 1) := by decide +kernel
theorem dX11_doTakeBest_137 : decode cX11_doTakeBest 137 = .ok (.invokevirtual 134, 3) := by decide +kernel
theorem dX11_doTakeBest_140 : decode cX11_doTakeBest 140 = .ok (.aload_n 0, 1) := by decide +kernel
theorem dX11_doTakeBest_141 : decode cX11_doTakeBest 141 = .ok (.iload_n 1, 1) := by decide +kernel
theorem dX11_doTakeBest_142 : decode cX11_doTakeBest 142 = .ok (.iconst 5, 1) := by decide +kernel
theorem dX11_doTakeBest_143 : decode cX11_doTakeBest 143 = .ok (.iconst 0, 1) := by decide +kernel
theorem dX11_doTakeBest_144 : decode cX11_doTakeBest 144 = .ok (.invokevirtual 134, 3) := by decide +kernel
theorem dX11_doTakeBest_147 : decode cX11_doTakeBest 147 = .ok (.aload_n 0, 1) := by decide +kernel
theorem dX11_doTakeBest_148 : decode cX11_doTakeBest 148 = .ok (.getfield 9, 3) := by decide +kernel
theorem dX11_doTakeBest_151 : decode cX11_doTakeBest 151 = .ok (.iconst 3, 1) := by decide +kernel
theorem dX11_doTakeBest_152 : decode cX11_doTakeBest 152 = .ok (.dup2, 1) := by decide +kernel
theorem dX11_doTakeBest_153 : decode cX11_doTakeBest 153 = .ok (.iaload, 1) := by decide +kernel
theorem dX11_doTakeBest_154 : decode cX11_doTakeBest 154 = .ok (.iload_n 3, 1) := by decide +kernel
theorem dX11_doTakeBest_155 : decode cX11_doTakeBest 155 = .ok (.iadd, 1) := by decide +kernel
theorem dX11_doTakeBest_156 : decode cX11_doTakeBest 156 = .ok (.iastore, 1) := by decide +kernel
theorem dX11_doTakeBest_157 : decode cX11_doTakeBest 157 = .ok (.iload_n 3, 1) := by decide +kernel
theorem dX11_doTakeBest_158 : decode cX11_doTakeBest 158 = .ok (.ireturn, 1) := by decide +kernel
abbrev rmX11_doTakeBest : Room := { frames := 6, cells := 0, slots := 0, locals := 157 }
set_option maxHeartbeats 4000000 in
set_option maxRecDepth 100000 in
theorem metX11_doTakeBest {l : Launch} {s0 : State} {b B : Nat} {D : va_G} {T : Nat → ClassId} (F : FX l s0 b D T B) {X : Nat → Prop} (hX : ∀ o, o < 12 → ¬ X (B + o)) {N : Nat} {μ : Mem} {a0 : Nat} {a1 : Int32} {r : Mem × Int32} (k0 : IsMo a0) (h : fX11_doTakeBest N μ a0 a1 = some r) : gMet l yX11_doTakeBest cX11_doTakeBest 6 (some .int) rmX11_doTakeBest [.ref (B + a0), .int a1] (gWM D T B μ) (KC s0 X) (some (.int r.2)) (gWM D T B r.1) (gA B X) 0 0 := by
  refine gI_of RX11 (by decide +kernel) rfl (Nat.le_of_ble_eq_true rfl) ?_
  intro p e s m args below meth c ls Q hx hb hlocks hml hown hts hW hk hl hS hend
  have hC := FX_C F hk hx hb hown hts
  have hA := gA_allM hX
  have hl : lv_has ls 6 [(0, .ref (B + a0)), (1, .int a1)] := hl
  unfold fX11_doTakeBest at h
  refine lv_aload_n hx hb dX11_doTakeBest_0 rfl (lv_at hl 0 rfl) ?_
  refine lv_iload_n hx hb dX11_doTakeBest_1 rfl (lv_at hl 1 rfl) ?_
  obtain ⟨r1, hcall, h⟩ := bd_out h
  refine g0_callV (As := [.int a1]) hC hml hS hW (KC_at hk hS F.2.2.2.2) KC_blind (metX11_isExhibit F hX k0 hcall) ml_X11_141 (gw_recv hC hW k0.1 (k0.2.1 T B (μ a0)) rfl) ⟨rfl, rfl, Nat.le_of_ble_eq_true rfl, Nat.le_of_ble_eq_true rfl⟩ rfl hl.1 rfl (Nat.le_of_ble_eq_true rfl) dX11_doTakeBest_2 ⟨Nat.le_of_ble_eq_true rfl, Nat.le_of_ble_eq_true rfl⟩ (fun H locs hW hS => ?_)
  refine gw_if_neZ (tgt := 14) hx hb dX11_doTakeBest_5 (by decide) (fun c2 => ?_) (fun c2 => ?_)
  · replace h := cond_t c2 h
    refine lv_aload_n hx hb dX11_doTakeBest_14 rfl (lv_at hl 0 rfl) ?_
    refine lv_iload_n hx hb dX11_doTakeBest_15 rfl (lv_at hl 1 rfl) ?_
    refine lv_iconst (v := 5) hx hb dX11_doTakeBest_16 (by decide) ?_
    obtain ⟨r3, hcall, h⟩ := bd_out h
    refine g0_callV (As := [.int a1, .int 5]) hC hml hS hW (KC_at hk hS F.2.2.2.2) KC_blind (metX11_of F hX k0 hcall) ml_X11_144 (gw_recv hC hW k0.1 (k0.2.1 T B (μ a0)) rfl) ⟨rfl, rfl, Nat.le_of_ble_eq_true rfl, Nat.le_of_ble_eq_true rfl⟩ rfl hl.1 rfl (Nat.le_of_ble_eq_true rfl) dX11_doTakeBest_17 ⟨Nat.le_of_ble_eq_true rfl, Nat.le_of_ble_eq_true rfl⟩ (fun H locs hW hS => ?_)
    refine lv_if_ne (tgt := 29) hx hb dX11_doTakeBest_20 (by decide) (fun c4 => ?_) (fun c4 => ?_)
    · replace h := ite_f c4 h
      refine lv_aload_n hx hb dX11_doTakeBest_29 rfl (lv_at hl 0 rfl) ?_
      refine lv_iload_n hx hb dX11_doTakeBest_30 rfl (lv_at hl 1 rfl) ?_
      obtain ⟨r5, hcall, h⟩ := bd_out h
      refine g0_callV (As := [.int a1]) hC hml hS hW (KC_at hk hS F.2.2.2.2) KC_blind (metX11_best F hX k0 hcall) ml_X11_231 (gw_recv hC hW k0.1 (k0.2.1 T B (μ a0)) rfl) ⟨rfl, rfl, Nat.le_of_ble_eq_true rfl, Nat.le_of_ble_eq_true rfl⟩ rfl hl.1 rfl (Nat.le_of_ble_eq_true rfl) dX11_doTakeBest_31 ⟨Nat.le_of_ble_eq_true rfl, Nat.le_of_ble_eq_true rfl⟩ (fun H locs hW hS => ?_)
      refine lv_istore_n (lv' := [(2, .int r5), (0, .ref (B + a0)), (1, .int a1)]) hx hb dX11_doTakeBest_34 rfl hl (by decide) rfl (fun ls hl => ?_)
      refine lv_aload_n hx hb dX11_doTakeBest_35 rfl (lv_at hl 1 rfl) ?_
      refine lv_iload_n hx hb dX11_doTakeBest_36 rfl (lv_at hl 2 rfl) ?_
      refine lv_iload_n hx hb dX11_doTakeBest_37 rfl (lv_at hl 0 rfl) ?_
      obtain ⟨r6, hcall, h⟩ := bd_out h
      refine g0_callV (As := [.int a1, .int r5]) hC hml hS hW (KC_at hk hS F.2.2.2.2) KC_blind (metX11_fees F hX k0 hcall) ml_X11_225 (gw_recv hC hW k0.1 (k0.2.1 T B (μ a0)) rfl) ⟨rfl, rfl, Nat.le_of_ble_eq_true rfl, Nat.le_of_ble_eq_true rfl⟩ rfl hl.1 rfl (Nat.le_of_ble_eq_true rfl) dX11_doTakeBest_38 ⟨Nat.le_of_ble_eq_true rfl, Nat.le_of_ble_eq_true rfl⟩ (fun H locs hW hS => ?_)
      refine lv_istore_n (lv' := [(3, .int r6), (2, .int r5), (0, .ref (B + a0)), (1, .int a1)]) hx hb dX11_doTakeBest_41 rfl hl (by decide) rfl (fun ls hl => ?_)
      refine lv_iconst (v := 0) hx hb dX11_doTakeBest_42 (by decide) ?_
      refine lv_istore (lv' := [(4, .int 0), (3, .int r6), (2, .int r5), (0, .ref (B + a0)), (1, .int a1)]) hx hb dX11_doTakeBest_43 hl (by decide) rfl (fun ls hl => ?_)
      refine fix2_ind (fun (x7 : Int32) (μ8 : Mem) => ∀ (H : Heap) (locs : List Loc) (ls : Array Slot), gWM D T B μ8 H → va_S (gA B X) s.heap H locs → lv_has ls 6 [(0, .ref (B + a0)), (1, .int a1), (2, .int r5), (3, .int r6), (4, .int x7)] → W p l e rmX11_doTakeBest s m args below meth c H locs 0 0 Q (F0 m 45 ls [])) ?_ N _ _ h _ _ _ hW hS (lv_sub hl [3, 4, 2, 1, 0] rfl)
      clear h hW hS hl
      intro self9 IH10 x7 μ8 h H locs ls hW hS hl
      refine lv_iload hx hb dX11_doTakeBest_45 (lv_at hl 4 rfl) ?_
      refine lv_aload_n hx hb dX11_doTakeBest_47 rfl (lv_at hl 0 rfl) ?_
      refine lv_iload_n hx hb dX11_doTakeBest_48 rfl (lv_at hl 1 rfl) ?_
      refine lv_iconst (v := 5) hx hb dX11_doTakeBest_49 (by decide) ?_
      obtain ⟨r11, hcall, h⟩ := bd_out h
      refine g0_callV (As := [.int a1, .int 5]) hC hml hS hW (KC_at hk hS F.2.2.2.2) KC_blind (metX11_of F hX k0 hcall) ml_X11_144 (gw_recv hC hW k0.1 (k0.2.1 T B (μ8 a0)) rfl) ⟨rfl, rfl, Nat.le_of_ble_eq_true rfl, Nat.le_of_ble_eq_true rfl⟩ rfl hl.1 rfl (Nat.le_of_ble_eq_true rfl) dX11_doTakeBest_50 ⟨Nat.le_of_ble_eq_true rfl, Nat.le_of_ble_eq_true rfl⟩ (fun H locs hW hS => ?_)
      refine lv_icmp_ge (tgt := 121) hx hb dX11_doTakeBest_53 (by decide) (fun c12 => ?_) (fun c12 => ?_)
      · replace h := ite_t c12 h
        refine lv_aload_n hx hb dX11_doTakeBest_121 rfl (lv_at hl 0 rfl) ?_
        refine lv_iload_n hx hb dX11_doTakeBest_122 rfl (lv_at hl 1 rfl) ?_
        refine lv_bipush (v := 6) hx hb dX11_doTakeBest_123 (by decide) ?_
        refine lv_aload_n hx hb dX11_doTakeBest_125 rfl (lv_at hl 0 rfl) ?_
        refine lv_iload_n hx hb dX11_doTakeBest_126 rfl (lv_at hl 1 rfl) ?_
        refine lv_bipush (v := 6) hx hb dX11_doTakeBest_127 (by decide) ?_
        obtain ⟨r13, hcall, h⟩ := bd_out h
        refine g0_callV (As := [.int a1, .int 6]) hC hml hS hW (KC_at hk hS F.2.2.2.2) KC_blind (metX11_of F hX k0 hcall) ml_X11_144 (gw_recv hC hW k0.1 (k0.2.1 T B (μ8 a0)) rfl) ⟨rfl, rfl, Nat.le_of_ble_eq_true rfl, Nat.le_of_ble_eq_true rfl⟩ rfl hl.1 rfl (Nat.le_of_ble_eq_true rfl) dX11_doTakeBest_129 ⟨Nat.le_of_ble_eq_true rfl, Nat.le_of_ble_eq_true rfl⟩ (fun H locs hW hS => ?_)
        refine lv_iload_n hx hb dX11_doTakeBest_132 rfl (lv_at hl 2 rfl) ?_
        obtain ⟨r14, hcall, h⟩ := bd_out h
        refine g0_callS (As := [.int r5]) hC hml hS hW (KC_at hk hS F.2.2.2.2) KC_blind (metX11_bits F hX  hcall) ml_X11_228 ⟨rfl, rfl, Nat.le_of_ble_eq_true rfl, Nat.le_of_ble_eq_true rfl⟩ rfl hl.1 rfl (Nat.le_of_ble_eq_true rfl) dX11_doTakeBest_133 ⟨Nat.le_of_ble_eq_true rfl, Nat.le_of_ble_eq_true rfl⟩ (fun H locs hW hS => ?_)
        refine lv_iadd hx hb dX11_doTakeBest_136 ?_
        obtain ⟨r15, hcall, h⟩ := bd_out h
        refine g0_callV (As := [.int a1, .int 6, .int (r13 + r14)]) hC hml hS hW (KC_at hk hS F.2.2.2.2) KC_blind (metX11_sets F hX k0 hcall) ml_X11_134 (gw_recv hC hW k0.1 (k0.2.1 T B (μ8 a0)) rfl) ⟨rfl, rfl, Nat.le_of_ble_eq_true rfl, Nat.le_of_ble_eq_true rfl⟩ rfl hl.1 rfl (Nat.le_of_ble_eq_true rfl) dX11_doTakeBest_137 ⟨Nat.le_of_ble_eq_true rfl, Nat.le_of_ble_eq_true rfl⟩ (fun H locs hW hS => ?_)
        refine lv_aload_n hx hb dX11_doTakeBest_140 rfl (lv_at hl 0 rfl) ?_
        refine lv_iload_n hx hb dX11_doTakeBest_141 rfl (lv_at hl 1 rfl) ?_
        refine lv_iconst (v := 5) hx hb dX11_doTakeBest_142 (by decide) ?_
        refine lv_iconst (v := 0) hx hb dX11_doTakeBest_143 (by decide) ?_
        obtain ⟨r16, hcall, h⟩ := bd_out h
        refine g0_callV (As := [.int a1, .int 5, .int 0]) hC hml hS hW (KC_at hk hS F.2.2.2.2) KC_blind (metX11_sets F hX k0 hcall) ml_X11_134 (gw_recv hC hW k0.1 (k0.2.1 T B (r15 a0)) rfl) ⟨rfl, rfl, Nat.le_of_ble_eq_true rfl, Nat.le_of_ble_eq_true rfl⟩ rfl hl.1 rfl (Nat.le_of_ble_eq_true rfl) dX11_doTakeBest_144 ⟨Nat.le_of_ble_eq_true rfl, Nat.le_of_ble_eq_true rfl⟩ (fun H locs hW hS => ?_)
        refine lv_aload_n hx hb dX11_doTakeBest_147 rfl (lv_at hl 0 rfl) ?_
        refine gw_get (v := .ref (B + (a0 + 1))) hC hW fl_X11_9 k0.1 (k0.2.1 T B (r16 a0)) rfl dX11_doTakeBest_148 ?_
        refine lv_iconst (v := 3) hx hb dX11_doTakeBest_151 (by decide) ?_
        refine lv_dup2_11 hx hb dX11_doTakeBest_152 rfl rfl ?_
        obtain ⟨v17, e18, hi19, h⟩ := ag_o h
        refine gq_iald hC hW k0.2.2.1.1 (k0.2.2.1.2 T B (r16 (a0 + 1))) (t0 := 0) rfl e18 hi19 dX11_doTakeBest_153 ?_
        refine lv_iload_n hx hb dX11_doTakeBest_154 rfl (lv_at hl 3 rfl) ?_
        refine lv_iadd hx hb dX11_doTakeBest_155 ?_
        obtain ⟨μ20, e21, hi22, h⟩ := aw_o h
        refine gq_iast hC hS hW hA k0.2.2.1.1 (k0.2.2.1.2 T B) (t0 := 0) rfl e21 hi22 dX11_doTakeBest_156 (fun H locs hW hS => ?_)
        refine lv_iload_n hx hb dX11_doTakeBest_157 rfl (lv_at hl 3 rfl) ?_
        cases h
        exact hend dX11_doTakeBest_158 hW hS (Nat.le_of_ble_eq_true rfl) (Nat.le_of_ble_eq_true rfl)
      · replace h := ite_f c12 h
        refine lv_aload_n hx hb dX11_doTakeBest_56 rfl (lv_at hl 0 rfl) ?_
        refine lv_iload_n hx hb dX11_doTakeBest_57 rfl (lv_at hl 1 rfl) ?_
        refine lv_iload hx hb dX11_doTakeBest_58 (lv_at hl 4 rfl) ?_
        refine lv_iconst (v := 0) hx hb dX11_doTakeBest_60 (by decide) ?_
        obtain ⟨r23, hcall, h⟩ := bd_out h
        refine g0_callV (As := [.int a1, .int x7, .int 0]) hC hml hS hW (KC_at hk hS F.2.2.2.2) KC_blind (metX11_loan F hX k0 hcall) ml_X11_218 (gw_recv hC hW k0.1 (k0.2.1 T B (μ8 a0)) rfl) ⟨rfl, rfl, Nat.le_of_ble_eq_true rfl, Nat.le_of_ble_eq_true rfl⟩ rfl hl.1 rfl (Nat.le_of_ble_eq_true rfl) dX11_doTakeBest_61 ⟨Nat.le_of_ble_eq_true rfl, Nat.le_of_ble_eq_true rfl⟩ (fun H locs hW hS => ?_)
        refine lv_istore (lv' := [(5, .int r23), (0, .ref (B + a0)), (1, .int a1), (2, .int r5), (3, .int r6), (4, .int x7)]) hx hb dX11_doTakeBest_64 hl (by decide) rfl (fun ls hl => ?_)
        refine fix2_ind (fun (x24 : Int32) (μ25 : Mem) => ∀ (H : Heap) (locs : List Loc) (ls : Array Slot), gWM D T B μ25 H → va_S (gA B X) s.heap H locs → lv_has ls 6 [(0, .ref (B + a0)), (1, .int a1), (2, .int r5), (3, .int r6), (4, .int x7), (5, .int x24)] → W p l e rmX11_doTakeBest s m args below meth c H locs 0 0 Q (F0 m 66 ls [])) ?_ N _ _ h _ _ _ hW hS (lv_sub hl [1, 2, 3, 4, 5, 0] rfl)
        clear h hW hS hl
        intro self26 IH27 x24 μ25 h H locs ls hW hS hl
        refine lv_iload hx hb dX11_doTakeBest_66 (lv_at hl 5 rfl) ?_
        refine lv_aload_n hx hb dX11_doTakeBest_68 rfl (lv_at hl 0 rfl) ?_
        refine lv_iload_n hx hb dX11_doTakeBest_69 rfl (lv_at hl 1 rfl) ?_
        refine lv_iload hx hb dX11_doTakeBest_70 (lv_at hl 4 rfl) ?_
        refine lv_iconst (v := 1) hx hb dX11_doTakeBest_72 (by decide) ?_
        obtain ⟨r28, hcall, h⟩ := bd_out h
        refine g0_callV (As := [.int a1, .int x7, .int 1]) hC hml hS hW (KC_at hk hS F.2.2.2.2) KC_blind (metX11_loan F hX k0 hcall) ml_X11_218 (gw_recv hC hW k0.1 (k0.2.1 T B (μ25 a0)) rfl) ⟨rfl, rfl, Nat.le_of_ble_eq_true rfl, Nat.le_of_ble_eq_true rfl⟩ rfl hl.1 rfl (Nat.le_of_ble_eq_true rfl) dX11_doTakeBest_73 ⟨Nat.le_of_ble_eq_true rfl, Nat.le_of_ble_eq_true rfl⟩ (fun H locs hW hS => ?_)
        obtain ⟨j30, hj32, h⟩ := jn1_o h
        have J31 : ∀ (u29 : Unit), j30 u29 = some r → ∀ (H : Heap) (locs : List Loc) (ls : Array Slot), gWM D T B μ25 H → va_S (gA B X) s.heap H locs → lv_has ls 6 [(0, .ref (B + a0)), (1, .int a1), (2, .int r5), (3, .int r6), (4, .int x7)] → W p l e rmX11_doTakeBest s m args below meth c H locs 0 0 Q (F0 m 115 ls []) := by
          clear h hW hS hl
          intro u29 h H locs ls hW hS hl
          replace h := (hj32 u29).symm.trans h
          obtain ⟨v33, e34, h⟩ := lt_out h
          refine lv_iinc (v := v33) (lv' := [(4, .int v33), (0, .ref (B + a0)), (1, .int a1), (2, .int r5), (3, .int r6)]) hx hb dX11_doTakeBest_115 hl (k := 4) rfl (by rw [e34]; rfl) (by decide) rfl (fun ls hl => ?_)
          refine lv_goto (tgt := 45) hx hb dX11_doTakeBest_118 (by decide) ?_
          exact IH10 _ _ h _ _ _ hW hS (lv_sub hl [1, 2, 3, 4, 0] rfl)
        refine lv_icmp_gt (tgt := 115) hx hb dX11_doTakeBest_76 (by decide) (fun c35 => ?_) (fun c35 => ?_)
        · replace h := ite_t c35 h
          exact J31 _ h _ _ _ hW hS (lv_sub hl [0, 1, 2, 3, 4] rfl)
        · replace h := ite_f c35 h
          refine lv_iload_n hx hb dX11_doTakeBest_79 rfl (lv_at hl 2 rfl) ?_
          refine lv_iload hx hb dX11_doTakeBest_80 (lv_at hl 4 rfl) ?_
          refine lv_ishr hx hb dX11_doTakeBest_82 ?_
          refine lv_iconst (v := 1) hx hb dX11_doTakeBest_83 (by decide) ?_
          refine lv_iand hx hb dX11_doTakeBest_84 ?_
          refine lv_iconst (v := 1) hx hb dX11_doTakeBest_85 (by decide) ?_
          refine lv_icmp_ne (tgt := 115) hx hb dX11_doTakeBest_86 (by decide) (fun c36 => ?_) (fun c36 => ?_)
          · replace h := ite_f c36 h
            exact J31 _ h _ _ _ hW hS (lv_sub hl [0, 1, 2, 3, 4] rfl)
          · replace h := ite_t c36 h
            refine lv_aload_n hx hb dX11_doTakeBest_89 rfl (lv_at hl 0 rfl) ?_
            refine lv_iload_n hx hb dX11_doTakeBest_90 rfl (lv_at hl 1 rfl) ?_
            refine lv_bipush (v := 47) hx hb dX11_doTakeBest_91 (by decide) ?_
            refine lv_iload hx hb dX11_doTakeBest_93 (lv_at hl 5 rfl) ?_
            refine lv_iadd hx hb dX11_doTakeBest_95 ?_
            refine lv_aload_n hx hb dX11_doTakeBest_96 rfl (lv_at hl 0 rfl) ?_
            refine lv_iload_n hx hb dX11_doTakeBest_97 rfl (lv_at hl 1 rfl) ?_
            refine lv_iload hx hb dX11_doTakeBest_98 (lv_at hl 4 rfl) ?_
            refine lv_iconst (v := 1) hx hb dX11_doTakeBest_100 (by decide) ?_
            obtain ⟨r37, hcall, h⟩ := bd_out h
            refine g0_callV (As := [.int a1, .int x7, .int 1]) hC hml hS hW (KC_at hk hS F.2.2.2.2) KC_blind (metX11_loan F hX k0 hcall) ml_X11_218 (gw_recv hC hW k0.1 (k0.2.1 T B (μ25 a0)) rfl) ⟨rfl, rfl, Nat.le_of_ble_eq_true rfl, Nat.le_of_ble_eq_true rfl⟩ rfl hl.1 rfl (Nat.le_of_ble_eq_true rfl) dX11_doTakeBest_101 ⟨Nat.le_of_ble_eq_true rfl, Nat.le_of_ble_eq_true rfl⟩ (fun H locs hW hS => ?_)
            refine lv_iconst (v := 1) hx hb dX11_doTakeBest_104 (by decide) ?_
            refine lv_iadd hx hb dX11_doTakeBest_105 ?_
            obtain ⟨r38, hcall, h⟩ := bd_out h
            refine g0_callV (As := [.int a1, .int (47 + x24), .int (r37 + 1)]) hC hml hS hW (KC_at hk hS F.2.2.2.2) KC_blind (metX11_sets F hX k0 hcall) ml_X11_134 (gw_recv hC hW k0.1 (k0.2.1 T B (μ25 a0)) rfl) ⟨rfl, rfl, Nat.le_of_ble_eq_true rfl, Nat.le_of_ble_eq_true rfl⟩ rfl hl.1 rfl (Nat.le_of_ble_eq_true rfl) dX11_doTakeBest_106 ⟨Nat.le_of_ble_eq_true rfl, Nat.le_of_ble_eq_true rfl⟩ (fun H locs hW hS => ?_)
            obtain ⟨v39, e40, h⟩ := lt_out h
            refine lv_iinc (v := v39) (lv' := [(5, .int v39), (0, .ref (B + a0)), (1, .int a1), (2, .int r5), (3, .int r6), (4, .int x7)]) hx hb dX11_doTakeBest_109 hl (k := 5) rfl (by rw [e40]; rfl) (by decide) rfl (fun ls hl => ?_)
            refine lv_goto (tgt := 66) hx hb dX11_doTakeBest_112 (by decide) ?_
            exact IH27 _ _ h _ _ _ hW hS (lv_sub hl [1, 2, 3, 4, 5, 0] rfl)
    · replace h := ite_t c4 h
      refine lv_aload_n hx hb dX11_doTakeBest_23 rfl (lv_at hl 0 rfl) ?_
      refine lv_iconst (v := 2) hx hb dX11_doTakeBest_24 (by decide) ?_
      obtain ⟨r41, hcall, h⟩ := bd_out h
      refine g0_callV (As := [.int 2]) hC hml hS hW (KC_at hk hS F.2.2.2.2) KC_blind (metX11_fails F hX k0 hcall) ml_X11_69 (gw_recv hC hW k0.1 (k0.2.1 T B (μ a0)) rfl) ⟨rfl, rfl, Nat.le_of_ble_eq_true rfl, Nat.le_of_ble_eq_true rfl⟩ rfl hl.1 rfl (Nat.le_of_ble_eq_true rfl) dX11_doTakeBest_25 ⟨Nat.le_of_ble_eq_true rfl, Nat.le_of_ble_eq_true rfl⟩ (fun H locs hW hS => ?_)
      cases h
      exact hend dX11_doTakeBest_28 hW hS (Nat.le_of_ble_eq_true rfl) (Nat.le_of_ble_eq_true rfl)
  · replace h := cond_f c2 h
    refine lv_aload_n hx hb dX11_doTakeBest_8 rfl (lv_at hl 0 rfl) ?_
    refine lv_iconst (v := 1) hx hb dX11_doTakeBest_9 (by decide) ?_
    obtain ⟨r42, hcall, h⟩ := bd_out h
    refine g0_callV (As := [.int 1]) hC hml hS hW (KC_at hk hS F.2.2.2.2) KC_blind (metX11_fails F hX k0 hcall) ml_X11_69 (gw_recv hC hW k0.1 (k0.2.1 T B (μ a0)) rfl) ⟨rfl, rfl, Nat.le_of_ble_eq_true rfl, Nat.le_of_ble_eq_true rfl⟩ rfl hl.1 rfl (Nat.le_of_ble_eq_true rfl) dX11_doTakeBest_10 ⟨Nat.le_of_ble_eq_true rfl, Nat.le_of_ble_eq_true rfl⟩ (fun H locs hW hS => ?_)
    cases h
    exact hend dX11_doTakeBest_13 hW hS (Nat.le_of_ble_eq_true rfl) (Nat.le_of_ble_eq_true rfl)

theorem dX11_takeBest_0 : decode cX11_takeBest 0 = .ok (.aload_n 0, 1) := by decide +kernel
theorem dX11_takeBest_1 : decode cX11_takeBest 1 = .ok (.invokevirtual 83, 3) := by decide +kernel
theorem dX11_takeBest_4 : decode cX11_takeBest 4 = .ok (.aload_n 0, 1) := by decide +kernel
theorem dX11_takeBest_5 : decode cX11_takeBest 5 = .ok (.aload_n 0, 1) := by decide +kernel
theorem dX11_takeBest_6 : decode cX11_takeBest 6 = .ok (.iload_n 1, 1) := by decide +kernel
theorem dX11_takeBest_7 : decode cX11_takeBest 7 = .ok (.invokevirtual 234, 3) := by decide +kernel
theorem dX11_takeBest_10 : decode cX11_takeBest 10 = .ok (.invokevirtual 89, 3) := by decide +kernel
theorem dX11_takeBest_13 : decode cX11_takeBest 13 = .ok (.ireturn, 1) := by decide +kernel
abbrev rmX11_takeBest : Room := { frames := 7, cells := 0, slots := 0, locals := 182 }
set_option maxHeartbeats 4000000 in
set_option maxRecDepth 100000 in
theorem metX11_takeBest {l : Launch} {s0 : State} {b B : Nat} {D : va_G} {T : Nat → ClassId} (F : FX l s0 b D T B) {X : Nat → Prop} (hX : ∀ o, o < 12 → ¬ X (B + o)) {N : Nat} {μ : Mem} {a0 : Nat} {a1 : Int32} {r : Mem × Int32} (k0 : IsMo a0) (h : fX11_takeBest N μ a0 a1 = some r) : gMet l yX11_takeBest cX11_takeBest 2 (some .int) rmX11_takeBest [.ref (B + a0), .int a1] (gWM D T B μ) (KC s0 X) (some (.int r.2)) (gWM D T B r.1) (gA B X) 0 0 := by
  refine gI_of RX11 (by decide +kernel) rfl (Nat.le_of_ble_eq_true rfl) ?_
  intro p e s m args below meth c ls Q hx hb hlocks hml hown hts hW hk hl hS hend
  have hC := FX_C F hk hx hb hown hts
  have hA := gA_allM hX
  have hl : lv_has ls 2 [(0, .ref (B + a0)), (1, .int a1)] := hl
  unfold fX11_takeBest at h
  refine lv_aload_n hx hb dX11_takeBest_0 rfl (lv_at hl 0 rfl) ?_
  obtain ⟨r1, hcall, h⟩ := bd_out h
  refine g0_callV (As := []) hC hml hS hW (KC_at hk hS F.2.2.2.2) KC_blind (metX11_keep F hX k0 hcall) ml_X11_83 (gw_recv hC hW k0.1 (k0.2.1 T B (μ a0)) rfl) ⟨rfl, rfl, Nat.le_of_ble_eq_true rfl, Nat.le_of_ble_eq_true rfl⟩ rfl hl.1 rfl (Nat.le_of_ble_eq_true rfl) dX11_takeBest_1 ⟨Nat.le_of_ble_eq_true rfl, Nat.le_of_ble_eq_true rfl⟩ (fun H locs hW hS => ?_)
  refine lv_aload_n hx hb dX11_takeBest_4 rfl (lv_at hl 0 rfl) ?_
  refine lv_aload_n hx hb dX11_takeBest_5 rfl (lv_at hl 0 rfl) ?_
  refine lv_iload_n hx hb dX11_takeBest_6 rfl (lv_at hl 1 rfl) ?_
  obtain ⟨r2, hcall, h⟩ := bd_out h
  refine g0_callV (As := [.int a1]) hC hml hS hW (KC_at hk hS F.2.2.2.2) KC_blind (metX11_doTakeBest F hX k0 hcall) ml_X11_234 (gw_recv hC hW k0.1 (k0.2.1 T B (r1 a0)) rfl) ⟨rfl, rfl, Nat.le_of_ble_eq_true rfl, Nat.le_of_ble_eq_true rfl⟩ rfl hl.1 rfl (Nat.le_of_ble_eq_true rfl) dX11_takeBest_7 ⟨Nat.le_of_ble_eq_true rfl, Nat.le_of_ble_eq_true rfl⟩ (fun H locs hW hS => ?_)
  obtain ⟨r3, hcall, h⟩ := bd_out h
  refine g0_callV (As := [.int r2.2]) hC hml hS hW (KC_at hk hS F.2.2.2.2) KC_blind (metX11_ends F hX k0 hcall) ml_X11_89 (gw_recv hC hW k0.1 (k0.2.1 T B (r2.1 a0)) rfl) ⟨rfl, rfl, Nat.le_of_ble_eq_true rfl, Nat.le_of_ble_eq_true rfl⟩ rfl hl.1 rfl (Nat.le_of_ble_eq_true rfl) dX11_takeBest_10 ⟨Nat.le_of_ble_eq_true rfl, Nat.le_of_ble_eq_true rfl⟩ (fun H locs hW hS => ?_)
  cases h
  exact hend dX11_takeBest_13 hW hS (Nat.le_of_ble_eq_true rfl) (Nat.le_of_ble_eq_true rfl)

theorem dX11_askedCount_0 : decode cX11_askedCount 0 = .ok (.aload_n 0, 1) := by decide +kernel
theorem dX11_askedCount_1 : decode cX11_askedCount 1 = .ok (.iload_n 1, 1) := by decide +kernel
theorem dX11_askedCount_2 : decode cX11_askedCount 2 = .ok (.iconst 5, 1) := by decide +kernel
theorem dX11_askedCount_3 : decode cX11_askedCount 3 = .ok (.invokevirtual 175, 3) := by decide +kernel
theorem dX11_askedCount_6 : decode cX11_askedCount 6 = .ok (.ireturn, 1) := by decide +kernel
abbrev rmX11_askedCount : Room := { frames := 5, cells := 0, slots := 0, locals := 125 }
set_option maxHeartbeats 4000000 in
set_option maxRecDepth 100000 in
theorem metX11_askedCount {l : Launch} {s0 : State} {b B : Nat} {D : va_G} {T : Nat → ClassId} (F : FX l s0 b D T B) {X : Nat → Prop} (hX : ∀ o, o < 12 → ¬ X (B + o)) {N : Nat} {μ : Mem} {a0 : Nat} {a1 : Int32} {r : Mem × Int32} (k0 : IsMo a0) (h : fX11_askedCount N μ a0 a1 = some r) : gMet l yX11_askedCount cX11_askedCount 2 (some .int) rmX11_askedCount [.ref (B + a0), .int a1] (gWM D T B μ) (KC s0 X) (some (.int r.2)) (gWM D T B r.1) (gA B X) 0 0 := by
  refine gI_of RX11 (by decide +kernel) rfl (Nat.le_of_ble_eq_true rfl) ?_
  intro p e s m args below meth c ls Q hx hb hlocks hml hown hts hW hk hl hS hend
  have hC := FX_C F hk hx hb hown hts
  have hA := gA_allM hX
  have hl : lv_has ls 2 [(0, .ref (B + a0)), (1, .int a1)] := hl
  unfold fX11_askedCount at h
  refine lv_aload_n hx hb dX11_askedCount_0 rfl (lv_at hl 0 rfl) ?_
  refine lv_iload_n hx hb dX11_askedCount_1 rfl (lv_at hl 1 rfl) ?_
  refine lv_iconst (v := 5) hx hb dX11_askedCount_2 (by decide) ?_
  obtain ⟨r1, hcall, h⟩ := bd_out h
  refine g0_callV (As := [.int a1, .int 5]) hC hml hS hW (KC_at hk hS F.2.2.2.2) KC_blind (metX11_tells F hX k0 hcall) ml_X11_175 (gw_recv hC hW k0.1 (k0.2.1 T B (μ a0)) rfl) ⟨rfl, rfl, Nat.le_of_ble_eq_true rfl, Nat.le_of_ble_eq_true rfl⟩ rfl hl.1 rfl (Nat.le_of_ble_eq_true rfl) dX11_askedCount_3 ⟨Nat.le_of_ble_eq_true rfl, Nat.le_of_ble_eq_true rfl⟩ (fun H locs hW hS => ?_)
  cases h
  exact hend dX11_askedCount_6 hW hS (Nat.le_of_ble_eq_true rfl) (Nat.le_of_ble_eq_true rfl)

theorem dX11_takenCount_0 : decode cX11_takenCount 0 = .ok (.aload_n 0, 1) := by decide +kernel
theorem dX11_takenCount_1 : decode cX11_takenCount 1 = .ok (.iload_n 1, 1) := by decide +kernel
theorem dX11_takenCount_2 : decode cX11_takenCount 2 = .ok (.bipush 6, 2) := by decide +kernel
theorem dX11_takenCount_4 : decode cX11_takenCount 4 = .ok (.invokevirtual 175, 3) := by decide +kernel
theorem dX11_takenCount_7 : decode cX11_takenCount 7 = .ok (.ireturn, 1) := by decide +kernel
abbrev rmX11_takenCount : Room := { frames := 5, cells := 0, slots := 0, locals := 125 }
set_option maxHeartbeats 4000000 in
set_option maxRecDepth 100000 in
theorem metX11_takenCount {l : Launch} {s0 : State} {b B : Nat} {D : va_G} {T : Nat → ClassId} (F : FX l s0 b D T B) {X : Nat → Prop} (hX : ∀ o, o < 12 → ¬ X (B + o)) {N : Nat} {μ : Mem} {a0 : Nat} {a1 : Int32} {r : Mem × Int32} (k0 : IsMo a0) (h : fX11_takenCount N μ a0 a1 = some r) : gMet l yX11_takenCount cX11_takenCount 2 (some .int) rmX11_takenCount [.ref (B + a0), .int a1] (gWM D T B μ) (KC s0 X) (some (.int r.2)) (gWM D T B r.1) (gA B X) 0 0 := by
  refine gI_of RX11 (by decide +kernel) rfl (Nat.le_of_ble_eq_true rfl) ?_
  intro p e s m args below meth c ls Q hx hb hlocks hml hown hts hW hk hl hS hend
  have hC := FX_C F hk hx hb hown hts
  have hA := gA_allM hX
  have hl : lv_has ls 2 [(0, .ref (B + a0)), (1, .int a1)] := hl
  unfold fX11_takenCount at h
  refine lv_aload_n hx hb dX11_takenCount_0 rfl (lv_at hl 0 rfl) ?_
  refine lv_iload_n hx hb dX11_takenCount_1 rfl (lv_at hl 1 rfl) ?_
  refine lv_bipush (v := 6) hx hb dX11_takenCount_2 (by decide) ?_
  obtain ⟨r1, hcall, h⟩ := bd_out h
  refine g0_callV (As := [.int a1, .int 6]) hC hml hS hW (KC_at hk hS F.2.2.2.2) KC_blind (metX11_tells F hX k0 hcall) ml_X11_175 (gw_recv hC hW k0.1 (k0.2.1 T B (μ a0)) rfl) ⟨rfl, rfl, Nat.le_of_ble_eq_true rfl, Nat.le_of_ble_eq_true rfl⟩ rfl hl.1 rfl (Nat.le_of_ble_eq_true rfl) dX11_takenCount_4 ⟨Nat.le_of_ble_eq_true rfl, Nat.le_of_ble_eq_true rfl⟩ (fun H locs hW hS => ?_)
  cases h
  exact hend dX11_takenCount_7 hW hS (Nat.le_of_ble_eq_true rfl) (Nat.le_of_ble_eq_true rfl)

theorem dX11_bestFees_0 : decode cX11_bestFees 0 = .ok (.aload_n 0, 1) := by decide +kernel
theorem dX11_bestFees_1 : decode cX11_bestFees 1 = .ok (.aload_n 0, 1) := by decide +kernel
theorem dX11_bestFees_2 : decode cX11_bestFees 2 = .ok (.iload_n 1, 1) := by decide +kernel
theorem dX11_bestFees_3 : decode cX11_bestFees 3 = .ok (.invokevirtual 141, 3) := by decide +kernel
theorem dX11_bestFees_6 : decode cX11_bestFees 6 = .ok (.invokevirtual 113, 3) := by decide +kernel
theorem dX11_bestFees_9 : decode cX11_bestFees 9 = .ok (.ifCond .eq 16, 3) := by decide +kernel
theorem dX11_bestFees_12 : decode cX11_bestFees 12 = .ok (.aload_n 0, 1) := by decide +kernel
theorem dX11_bestFees_13 : decode cX11_bestFees 13 = .ok (.iload_n 1, 1) := by decide +kernel
theorem dX11_bestFees_14 : decode cX11_bestFees 14 = .ok (.aload_n 0, 1) := by decide +kernel
theorem dX11_bestFees_15 : decode cX11_bestFees 15 = .ok (.iload_n 1, 1) := by decide +kernel
theorem dX11_bestFees_16 : decode cX11_bestFees 16 = .ok (.invokevirtual 231, 3) := by decide +kernel
theorem dX11_bestFees_19 : decode cX11_bestFees 19 = .ok (.invokevirtual 225, 3) := by decide +kernel
theorem dX11_bestFees_22 : decode cX11_bestFees 22 = .ok (.goto 4, 3) := by decide +kernel
theorem dX11_bestFees_25 : decode cX11_bestFees 25 = .ok (.iconst 0, 1) := by decide +kernel
theorem dX11_bestFees_26 : decode cX11_bestFees 26 = .ok (.ireturn, 1) := by decide +kernel
abbrev rmX11_bestFees : Room := { frames := 6, cells := 0, slots := 0, locals := 157 }
set_option maxHeartbeats 4000000 in
set_option maxRecDepth 100000 in
theorem metX11_bestFees {l : Launch} {s0 : State} {b B : Nat} {D : va_G} {T : Nat → ClassId} (F : FX l s0 b D T B) {X : Nat → Prop} (hX : ∀ o, o < 12 → ¬ X (B + o)) {N : Nat} {μ : Mem} {a0 : Nat} {a1 : Int32} {r : Mem × Int32} (k0 : IsMo a0) (h : fX11_bestFees N μ a0 a1 = some r) : gMet l yX11_bestFees cX11_bestFees 2 (some .int) rmX11_bestFees [.ref (B + a0), .int a1] (gWM D T B μ) (KC s0 X) (some (.int r.2)) (gWM D T B r.1) (gA B X) 0 0 := by
  refine gI_of RX11 (by decide +kernel) rfl (Nat.le_of_ble_eq_true rfl) ?_
  intro p e s m args below meth c ls Q hx hb hlocks hml hown hts hW hk hl hS hend
  have hC := FX_C F hk hx hb hown hts
  have hA := gA_allM hX
  have hl : lv_has ls 2 [(0, .ref (B + a0)), (1, .int a1)] := hl
  unfold fX11_bestFees at h
  refine lv_aload_n hx hb dX11_bestFees_0 rfl (lv_at hl 0 rfl) ?_
  refine lv_aload_n hx hb dX11_bestFees_1 rfl (lv_at hl 0 rfl) ?_
  refine lv_iload_n hx hb dX11_bestFees_2 rfl (lv_at hl 1 rfl) ?_
  obtain ⟨r1, hcall, h⟩ := bd_out h
  refine g0_callV (As := [.int a1]) hC hml hS hW (KC_at hk hS F.2.2.2.2) KC_blind (metX11_isExhibit F hX k0 hcall) ml_X11_141 (gw_recv hC hW k0.1 (k0.2.1 T B (μ a0)) rfl) ⟨rfl, rfl, Nat.le_of_ble_eq_true rfl, Nat.le_of_ble_eq_true rfl⟩ rfl hl.1 rfl (Nat.le_of_ble_eq_true rfl) dX11_bestFees_3 ⟨Nat.le_of_ble_eq_true rfl, Nat.le_of_ble_eq_true rfl⟩ (fun H locs hW hS => ?_)
  obtain ⟨r2, hcall, h⟩ := bd_out h
  refine g0_callV (As := [.int (b2i r1)]) hC hml hS hW (KC_at hk hS F.2.2.2.2) KC_blind (metX11_isThere F hX k0 hcall) ml_X11_113 (gw_recv hC hW k0.1 (k0.2.1 T B (μ a0)) rfl) ⟨rfl, rfl, Nat.le_of_ble_eq_true rfl, Nat.le_of_ble_eq_true rfl⟩ rfl hl.1 rfl (Nat.le_of_ble_eq_true rfl) dX11_bestFees_6 ⟨Nat.le_of_ble_eq_true rfl, Nat.le_of_ble_eq_true rfl⟩ (fun H locs hW hS => ?_)
  obtain ⟨j4, hj6, h⟩ := jn1_o h
  have J5 : ∀ (y3 : Int32), j4 y3 = some r → ∀ (H : Heap) (locs : List Loc) (ls : Array Slot), gWM D T B r2.1 H → va_S (gA B X) s.heap H locs → lv_has ls 2 [] → W p l e rmX11_bestFees s m args below meth c H locs 0 0 Q (F0 m 26 ls [.int y3]) := by
    clear h hW hS hl
    intro y3 h H locs ls hW hS hl
    replace h := (hj6 y3).symm.trans h
    cases h
    exact hend dX11_bestFees_26 hW hS (Nat.le_of_ble_eq_true rfl) (Nat.le_of_ble_eq_true rfl)
  refine gw_if_eqZ (tgt := 25) hx hb dX11_bestFees_9 (by decide) (fun c7 => ?_) (fun c7 => ?_)
  · replace h := cond_f c7 h
    refine lv_iconst (v := 0) hx hb dX11_bestFees_25 (by decide) ?_
    exact J5 _ h _ _ _ hW hS (lv_sub hl [] rfl)
  · replace h := cond_t c7 h
    refine lv_aload_n hx hb dX11_bestFees_12 rfl (lv_at hl 0 rfl) ?_
    refine lv_iload_n hx hb dX11_bestFees_13 rfl (lv_at hl 1 rfl) ?_
    refine lv_aload_n hx hb dX11_bestFees_14 rfl (lv_at hl 0 rfl) ?_
    refine lv_iload_n hx hb dX11_bestFees_15 rfl (lv_at hl 1 rfl) ?_
    obtain ⟨r8, hcall, h⟩ := bd_out h
    refine g0_callV (As := [.int a1]) hC hml hS hW (KC_at hk hS F.2.2.2.2) KC_blind (metX11_best F hX k0 hcall) ml_X11_231 (gw_recv hC hW k0.1 (k0.2.1 T B (r2.1 a0)) rfl) ⟨rfl, rfl, Nat.le_of_ble_eq_true rfl, Nat.le_of_ble_eq_true rfl⟩ rfl hl.1 rfl (Nat.le_of_ble_eq_true rfl) dX11_bestFees_16 ⟨Nat.le_of_ble_eq_true rfl, Nat.le_of_ble_eq_true rfl⟩ (fun H locs hW hS => ?_)
    obtain ⟨r9, hcall, h⟩ := bd_out h
    refine g0_callV (As := [.int a1, .int r8]) hC hml hS hW (KC_at hk hS F.2.2.2.2) KC_blind (metX11_fees F hX k0 hcall) ml_X11_225 (gw_recv hC hW k0.1 (k0.2.1 T B (r2.1 a0)) rfl) ⟨rfl, rfl, Nat.le_of_ble_eq_true rfl, Nat.le_of_ble_eq_true rfl⟩ rfl hl.1 rfl (Nat.le_of_ble_eq_true rfl) dX11_bestFees_19 ⟨Nat.le_of_ble_eq_true rfl, Nat.le_of_ble_eq_true rfl⟩ (fun H locs hW hS => ?_)
    refine lv_goto (tgt := 26) hx hb dX11_bestFees_22 (by decide) ?_
    exact J5 _ h _ _ _ hW hS (lv_sub hl [] rfl)

theorem dX11_bestFeesByTrials_0 : decode cX11_bestFeesByTrials 0 = .ok (.aload_n 0, 1) := by decide +kernel
theorem dX11_bestFeesByTrials_1 : decode cX11_bestFeesByTrials 1 = .ok (.iload_n 1, 1) := by decide +kernel
theorem dX11_bestFeesByTrials_2 : decode cX11_bestFeesByTrials 2 = .ok (.invokevirtual 237, 3) := by decide +kernel
theorem dX11_bestFeesByTrials_5 : decode cX11_bestFeesByTrials 5 = .ok (.ireturn, 1) := by decide +kernel
abbrev rmX11_bestFeesByTrials : Room := { frames := 7, cells := 0, slots := 0, locals := 178 }
set_option maxHeartbeats 4000000 in
set_option maxRecDepth 100000 in
theorem metX11_bestFeesByTrials {l : Launch} {s0 : State} {b B : Nat} {D : va_G} {T : Nat → ClassId} (F : FX l s0 b D T B) {X : Nat → Prop} (hX : ∀ o, o < 12 → ¬ X (B + o)) {N : Nat} {μ : Mem} {a0 : Nat} {a1 : Int32} {r : Mem × Int32} (k0 : IsMo a0) (h : fX11_bestFeesByTrials N μ a0 a1 = some r) : gMet l yX11_bestFeesByTrials cX11_bestFeesByTrials 2 (some .int) rmX11_bestFeesByTrials [.ref (B + a0), .int a1] (gWM D T B μ) (KC s0 X) (some (.int r.2)) (gWM D T B r.1) (gA B X) 0 0 := by
  refine gI_of RX11 (by decide +kernel) rfl (Nat.le_of_ble_eq_true rfl) ?_
  intro p e s m args below meth c ls Q hx hb hlocks hml hown hts hW hk hl hS hend
  have hC := FX_C F hk hx hb hown hts
  have hA := gA_allM hX
  have hl : lv_has ls 2 [(0, .ref (B + a0)), (1, .int a1)] := hl
  unfold fX11_bestFeesByTrials at h
  refine lv_aload_n hx hb dX11_bestFeesByTrials_0 rfl (lv_at hl 0 rfl) ?_
  refine lv_iload_n hx hb dX11_bestFeesByTrials_1 rfl (lv_at hl 1 rfl) ?_
  obtain ⟨r1, hcall, h⟩ := bd_out h
  refine g0_callV (As := [.int a1]) hC hml hS hW (KC_at hk hS F.2.2.2.2) KC_blind (metX11_bestFees F hX k0 hcall) ml_X11_237 (gw_recv hC hW k0.1 (k0.2.1 T B (μ a0)) rfl) ⟨rfl, rfl, Nat.le_of_ble_eq_true rfl, Nat.le_of_ble_eq_true rfl⟩ rfl hl.1 rfl (Nat.le_of_ble_eq_true rfl) dX11_bestFeesByTrials_2 ⟨Nat.le_of_ble_eq_true rfl, Nat.le_of_ble_eq_true rfl⟩ (fun H locs hW hS => ?_)
  cases h
  exact hend dX11_bestFeesByTrials_5 hW hS (Nat.le_of_ble_eq_true rfl) (Nat.le_of_ble_eq_true rfl)

theorem dX11_isLent_0 : decode cX11_isLent 0 = .ok (.aload_n 0, 1) := by decide +kernel
theorem dX11_isLent_1 : decode cX11_isLent 1 = .ok (.aload_n 0, 1) := by decide +kernel
theorem dX11_isLent_2 : decode cX11_isLent 2 = .ok (.iload_n 1, 1) := by decide +kernel
theorem dX11_isLent_3 : decode cX11_isLent 3 = .ok (.invokevirtual 141, 3) := by decide +kernel
theorem dX11_isLent_6 : decode cX11_isLent 6 = .ok (.invokevirtual 113, 3) := by decide +kernel
theorem dX11_isLent_9 : decode cX11_isLent 9 = .ok (.ifCond .eq 16, 3) := by decide +kernel
theorem dX11_isLent_12 : decode cX11_isLent 12 = .ok (.aload_n 0, 1) := by decide +kernel
theorem dX11_isLent_13 : decode cX11_isLent 13 = .ok (.iload_n 1, 1) := by decide +kernel
theorem dX11_isLent_14 : decode cX11_isLent 14 = .ok (.iload_n 2, 1) := by decide +kernel
theorem dX11_isLent_15 : decode cX11_isLent 15 = .ok (.invokevirtual 191, 3) := by decide +kernel
theorem dX11_isLent_18 : decode cX11_isLent 18 = .ok (.ifCond .eq 7, 3) := by decide +kernel
theorem dX11_isLent_21 : decode cX11_isLent 21 = .ok (.iconst 1, 1) := by decide +kernel
theorem dX11_isLent_22 : decode cX11_isLent 22 = .ok (.goto 4, 3) := by decide +kernel
theorem dX11_isLent_25 : decode cX11_isLent 25 = .ok (.iconst 0, 1) := by decide +kernel
theorem dX11_isLent_26 : decode cX11_isLent 26 = .ok (.ireturn, 1) := by decide +kernel
abbrev rmX11_isLent : Room := { frames := 4, cells := 0, slots := 0, locals := 104 }
set_option maxHeartbeats 4000000 in
set_option maxRecDepth 100000 in
theorem metX11_isLent {l : Launch} {s0 : State} {b B : Nat} {D : va_G} {T : Nat → ClassId} (F : FX l s0 b D T B) {X : Nat → Prop} (hX : ∀ o, o < 12 → ¬ X (B + o)) {N : Nat} {μ : Mem} {a0 : Nat} {a1 : Int32} {a2 : Int32} {r : Mem × Bool} (k0 : IsMo a0) (h : fX11_isLent N μ a0 a1 a2 = some r) : gMet l yX11_isLent cX11_isLent 3 (some .boolean) rmX11_isLent [.ref (B + a0), .int a1, .int a2] (gWM D T B μ) (KC s0 X) (some (.int (b2i r.2))) (gWM D T B r.1) (gA B X) 0 0 := by
  refine gZ_of RX11 (by decide +kernel) rfl (Nat.le_of_ble_eq_true rfl) ?_
  intro p e s m args below meth c ls Q hx hb hlocks hml hown hts hW hk hl hS hend
  have hC := FX_C F hk hx hb hown hts
  have hA := gA_allM hX
  have hl : lv_has ls 3 [(0, .ref (B + a0)), (1, .int a1), (2, .int a2)] := hl
  unfold fX11_isLent at h
  refine lv_aload_n hx hb dX11_isLent_0 rfl (lv_at hl 0 rfl) ?_
  refine lv_aload_n hx hb dX11_isLent_1 rfl (lv_at hl 0 rfl) ?_
  refine lv_iload_n hx hb dX11_isLent_2 rfl (lv_at hl 1 rfl) ?_
  obtain ⟨r1, hcall, h⟩ := bd_out h
  refine g0_callV (As := [.int a1]) hC hml hS hW (KC_at hk hS F.2.2.2.2) KC_blind (metX11_isExhibit F hX k0 hcall) ml_X11_141 (gw_recv hC hW k0.1 (k0.2.1 T B (μ a0)) rfl) ⟨rfl, rfl, Nat.le_of_ble_eq_true rfl, Nat.le_of_ble_eq_true rfl⟩ rfl hl.1 rfl (Nat.le_of_ble_eq_true rfl) dX11_isLent_3 ⟨Nat.le_of_ble_eq_true rfl, Nat.le_of_ble_eq_true rfl⟩ (fun H locs hW hS => ?_)
  obtain ⟨r2, hcall, h⟩ := bd_out h
  refine g0_callV (As := [.int (b2i r1)]) hC hml hS hW (KC_at hk hS F.2.2.2.2) KC_blind (metX11_isThere F hX k0 hcall) ml_X11_113 (gw_recv hC hW k0.1 (k0.2.1 T B (μ a0)) rfl) ⟨rfl, rfl, Nat.le_of_ble_eq_true rfl, Nat.le_of_ble_eq_true rfl⟩ rfl hl.1 rfl (Nat.le_of_ble_eq_true rfl) dX11_isLent_6 ⟨Nat.le_of_ble_eq_true rfl, Nat.le_of_ble_eq_true rfl⟩ (fun H locs hW hS => ?_)
  obtain ⟨j4, hj6, h⟩ := jn1_o h
  have J5 : ∀ (y3 : Bool), j4 y3 = some r → ∀ (H : Heap) (locs : List Loc) (ls : Array Slot), gWM D T B r2.1 H → va_S (gA B X) s.heap H locs → lv_has ls 3 [] → W p l e rmX11_isLent s m args below meth c H locs 0 0 Q (F0 m 26 ls [.int (b2i y3)]) := by
    clear h hW hS hl
    intro y3 h H locs ls hW hS hl
    replace h := (hj6 y3).symm.trans h
    cases h
    exact hend dX11_isLent_26 hW hS (Nat.le_of_ble_eq_true rfl) (Nat.le_of_ble_eq_true rfl)
  obtain ⟨j8, hj10, h⟩ := jn1_o h
  have J9 : ∀ (u7 : Unit), j8 u7 = some r → ∀ (H : Heap) (locs : List Loc) (ls : Array Slot), gWM D T B r2.1 H → va_S (gA B X) s.heap H locs → lv_has ls 3 [] → W p l e rmX11_isLent s m args below meth c H locs 0 0 Q (F0 m 25 ls []) := by
    clear h hW hS hl
    intro u7 h H locs ls hW hS hl
    replace h := (hj10 u7).symm.trans h
    refine lv_iconst (v := 0) hx hb dX11_isLent_25 (by decide) ?_
    exact J5 _ h _ _ _ hW hS (lv_sub hl [] rfl)
  refine gw_if_eqZ (tgt := 25) hx hb dX11_isLent_9 (by decide) (fun c11 => ?_) (fun c11 => ?_)
  · replace h := cond_f c11 h
    exact J9 _ h _ _ _ hW hS (lv_sub hl [] rfl)
  · replace h := cond_t c11 h
    refine lv_aload_n hx hb dX11_isLent_12 rfl (lv_at hl 0 rfl) ?_
    refine lv_iload_n hx hb dX11_isLent_13 rfl (lv_at hl 1 rfl) ?_
    refine lv_iload_n hx hb dX11_isLent_14 rfl (lv_at hl 2 rfl) ?_
    obtain ⟨r12, hcall, h⟩ := bd_out h
    refine g0_callV (As := [.int a1, .int a2]) hC hml hS hW (KC_at hk hS F.2.2.2.2) KC_blind (metX11_lent F hX k0 hcall) ml_X11_191 (gw_recv hC hW k0.1 (k0.2.1 T B (r2.1 a0)) rfl) ⟨rfl, rfl, Nat.le_of_ble_eq_true rfl, Nat.le_of_ble_eq_true rfl⟩ rfl hl.1 rfl (Nat.le_of_ble_eq_true rfl) dX11_isLent_15 ⟨Nat.le_of_ble_eq_true rfl, Nat.le_of_ble_eq_true rfl⟩ (fun H locs hW hS => ?_)
    refine gw_if_eqZ (tgt := 25) hx hb dX11_isLent_18 (by decide) (fun c13 => ?_) (fun c13 => ?_)
    · replace h := cond_f c13 h
      exact J9 _ h _ _ _ hW hS (lv_sub hl [] rfl)
    · replace h := cond_t c13 h
      refine lv_iconst (v := 1) hx hb dX11_isLent_21 (by decide) ?_
      refine lv_goto (tgt := 26) hx hb dX11_isLent_22 (by decide) ?_
      exact J5 _ h _ _ _ hW hS (lv_sub hl [] rfl)

theorem dX11_income_0 : decode cX11_income 0 = .ok (.aload_n 0, 1) := by decide +kernel
theorem dX11_income_1 : decode cX11_income 1 = .ok (.iconst 0, 1) := by decide +kernel
theorem dX11_income_2 : decode cX11_income 2 = .ok (.putfield 51, 3) := by decide +kernel
theorem dX11_income_5 : decode cX11_income 5 = .ok (.aload_n 0, 1) := by decide +kernel
theorem dX11_income_6 : decode cX11_income 6 = .ok (.getfield 9, 3) := by decide +kernel
theorem dX11_income_9 : decode cX11_income 9 = .ok (.iconst 3, 1) := by decide +kernel
theorem dX11_income_10 : decode cX11_income 10 = .ok (.iaload, 1) := by decide +kernel
theorem dX11_income_11 : decode cX11_income 11 = .ok (.ireturn, 1) := by decide +kernel
abbrev rmX11_income : Room := { frames := 2, cells := 0, slots := 0, locals := 60 }
set_option maxHeartbeats 4000000 in
set_option maxRecDepth 100000 in
theorem metX11_income {l : Launch} {s0 : State} {b B : Nat} {D : va_G} {T : Nat → ClassId} (F : FX l s0 b D T B) {X : Nat → Prop} (hX : ∀ o, o < 12 → ¬ X (B + o)) {N : Nat} {μ : Mem} {a0 : Nat} {r : Mem × Int32} (k0 : IsMo a0) (h : fX11_income N μ a0 = some r) : gMet l yX11_income cX11_income 1 (some .int) rmX11_income [.ref (B + a0)] (gWM D T B μ) (KC s0 X) (some (.int r.2)) (gWM D T B r.1) (gA B X) 0 0 := by
  refine gI_of RX11 (by decide +kernel) rfl (Nat.le_of_ble_eq_true rfl) ?_
  intro p e s m args below meth c ls Q hx hb hlocks hml hown hts hW hk hl hS hend
  have hC := FX_C F hk hx hb hown hts
  have hA := gA_allM hX
  have hl : lv_has ls 1 [(0, .ref (B + a0))] := hl
  unfold fX11_income at h
  refine lv_aload_n hx hb dX11_income_0 rfl (lv_at hl 0 rfl) ?_
  refine lv_iconst (v := 0) hx hb dX11_income_1 (by decide) ?_
  obtain ⟨μ1, e2, h⟩ := lt_out h
  refine gq_put hC hS hW hA fl_X11_51 k0.1 (k0.2.1 T B) (Nat.le_of_ble_eq_true rfl) rfl rfl rfl e2 dX11_income_2 (fun H locs hW hS => ?_)
  refine lv_aload_n hx hb dX11_income_5 rfl (lv_at hl 0 rfl) ?_
  refine gw_get (v := .ref (B + (a0 + 1))) hC hW fl_X11_9 k0.1 (k0.2.1 T B (μ1 a0)) rfl dX11_income_6 ?_
  refine lv_iconst (v := 3) hx hb dX11_income_9 (by decide) ?_
  obtain ⟨v3, e4, hi5, h⟩ := ag_o h
  refine gq_iald hC hW k0.2.2.1.1 (k0.2.2.1.2 T B (μ1 (a0 + 1))) (t0 := 0) rfl e4 hi5 dX11_income_10 ?_
  cases h
  exact hend dX11_income_11 hW hS (Nat.le_of_ble_eq_true rfl) (Nat.le_of_ble_eq_true rfl)

theorem dX11_refusalReason_0 : decode cX11_refusalReason 0 = .ok (.aload_n 0, 1) := by decide +kernel
theorem dX11_refusalReason_1 : decode cX11_refusalReason 1 = .ok (.aload_n 0, 1) := by decide +kernel
theorem dX11_refusalReason_2 : decode cX11_refusalReason 2 = .ok (.getfield 63, 3) := by decide +kernel
theorem dX11_refusalReason_5 : decode cX11_refusalReason 5 = .ok (.ifCond .le 7, 3) := by decide +kernel
theorem dX11_refusalReason_8 : decode cX11_refusalReason 8 = .ok (.iconst 1, 1) := by decide +kernel
theorem dX11_refusalReason_9 : decode cX11_refusalReason 9 = .ok (.goto 4, 3) := by decide +kernel
theorem dX11_refusalReason_12 : decode cX11_refusalReason 12 = .ok (.iconst 0, 1) := by decide +kernel
theorem dX11_refusalReason_13 : decode cX11_refusalReason 13 = .ok (.invokevirtual 113, 3) := by decide +kernel
theorem dX11_refusalReason_16 : decode cX11_refusalReason 16 = .ok (.ifCond .eq 10, 3) := by decide +kernel
theorem dX11_refusalReason_19 : decode cX11_refusalReason 19 = .ok (.aload_n 0, 1) := by decide +kernel
theorem dX11_refusalReason_20 : decode cX11_refusalReason 20 = .ok (.getfield 63, 3) := by decide +kernel
theorem dX11_refusalReason_23 : decode cX11_refusalReason 23 = .ok (.goto 4, 3) := by decide +kernel
theorem dX11_refusalReason_26 : decode cX11_refusalReason 26 = .ok (.iconst 0, 1) := by decide +kernel
theorem dX11_refusalReason_27 : decode cX11_refusalReason 27 = .ok (.ireturn, 1) := by decide +kernel
abbrev rmX11_refusalReason : Room := { frames := 3, cells := 0, slots := 0, locals := 81 }
set_option maxHeartbeats 4000000 in
set_option maxRecDepth 100000 in
theorem metX11_refusalReason {l : Launch} {s0 : State} {b B : Nat} {D : va_G} {T : Nat → ClassId} (F : FX l s0 b D T B) {X : Nat → Prop} (hX : ∀ o, o < 12 → ¬ X (B + o)) {N : Nat} {μ : Mem} {a0 : Nat} {r : Mem × Int32} (k0 : IsMo a0) (h : fX11_refusalReason N μ a0 = some r) : gMet l yX11_refusalReason cX11_refusalReason 1 (some .int) rmX11_refusalReason [.ref (B + a0)] (gWM D T B μ) (KC s0 X) (some (.int r.2)) (gWM D T B r.1) (gA B X) 0 0 := by
  refine gI_of RX11 (by decide +kernel) rfl (Nat.le_of_ble_eq_true rfl) ?_
  intro p e s m args below meth c ls Q hx hb hlocks hml hown hts hW hk hl hS hend
  have hC := FX_C F hk hx hb hown hts
  have hA := gA_allM hX
  have hl : lv_has ls 1 [(0, .ref (B + a0))] := hl
  unfold fX11_refusalReason at h
  refine lv_aload_n hx hb dX11_refusalReason_0 rfl (lv_at hl 0 rfl) ?_
  refine lv_aload_n hx hb dX11_refusalReason_1 rfl (lv_at hl 0 rfl) ?_
  refine gw_get (v := .int (μ a0 7)) hC hW fl_X11_63.1 k0.1 (k0.2.1 T B (μ a0)) rfl dX11_refusalReason_2 ?_
  obtain ⟨j2, hj4, h⟩ := jn1_o h
  have J3 : ∀ (y1 : Bool), j2 y1 = some r → ∀ (H : Heap) (locs : List Loc) (ls : Array Slot), gWM D T B μ H → va_S (gA B X) s.heap H locs → lv_has ls 1 [(0, .ref (B + a0))] → W p l e rmX11_refusalReason s m args below meth c H locs 0 0 Q (F0 m 13 ls [.int (b2i y1), .ref (B + a0)]) := by
    clear h hW hS hl
    intro y1 h H locs ls hW hS hl
    replace h := (hj4 y1).symm.trans h
    obtain ⟨r5, hcall, h⟩ := bd_out h
    refine g0_callV (As := [.int (b2i y1)]) hC hml hS hW (KC_at hk hS F.2.2.2.2) KC_blind (metX11_isThere F hX k0 hcall) ml_X11_113 (gw_recv hC hW k0.1 (k0.2.1 T B (μ a0)) rfl) ⟨rfl, rfl, Nat.le_of_ble_eq_true rfl, Nat.le_of_ble_eq_true rfl⟩ rfl hl.1 rfl (Nat.le_of_ble_eq_true rfl) dX11_refusalReason_13 ⟨Nat.le_of_ble_eq_true rfl, Nat.le_of_ble_eq_true rfl⟩ (fun H locs hW hS => ?_)
    obtain ⟨j7, hj9, h⟩ := jn1_o h
    have J8 : ∀ (y6 : Int32), j7 y6 = some r → ∀ (H : Heap) (locs : List Loc) (ls : Array Slot), gWM D T B r5.1 H → va_S (gA B X) s.heap H locs → lv_has ls 1 [] → W p l e rmX11_refusalReason s m args below meth c H locs 0 0 Q (F0 m 27 ls [.int y6]) := by
      clear h hW hS hl
      intro y6 h H locs ls hW hS hl
      replace h := (hj9 y6).symm.trans h
      cases h
      exact hend dX11_refusalReason_27 hW hS (Nat.le_of_ble_eq_true rfl) (Nat.le_of_ble_eq_true rfl)
    refine gw_if_eqZ (tgt := 26) hx hb dX11_refusalReason_16 (by decide) (fun c10 => ?_) (fun c10 => ?_)
    · replace h := cond_f c10 h
      refine lv_iconst (v := 0) hx hb dX11_refusalReason_26 (by decide) ?_
      exact J8 _ h _ _ _ hW hS (lv_sub hl [] rfl)
    · replace h := cond_t c10 h
      refine lv_aload_n hx hb dX11_refusalReason_19 rfl (lv_at hl 0 rfl) ?_
      refine gw_get (v := .int (r5.1 a0 7)) hC hW fl_X11_63.1 k0.1 (k0.2.1 T B (r5.1 a0)) rfl dX11_refusalReason_20 ?_
      refine lv_goto (tgt := 27) hx hb dX11_refusalReason_23 (by decide) ?_
      exact J8 _ h _ _ _ hW hS (lv_sub hl [] rfl)
  refine lv_if_le (tgt := 12) hx hb dX11_refusalReason_5 (by decide) (fun c11 => ?_) (fun c11 => ?_)
  · replace h := ite_t c11 h
    refine lv_iconst (v := 0) hx hb dX11_refusalReason_12 (by decide) ?_
    exact J3 _ h _ _ _ hW hS (lv_sub hl [0] rfl)
  · replace h := ite_f c11 h
    refine lv_iconst (v := 1) hx hb dX11_refusalReason_8 (by decide) ?_
    refine lv_goto (tgt := 13) hx hb dX11_refusalReason_9 (by decide) ?_
    exact J3 _ h _ _ _ hW hS (lv_sub hl [0] rfl)

theorem dX11_refusalDetail_0 : decode cX11_refusalDetail 0 = .ok (.aload_n 0, 1) := by decide +kernel
theorem dX11_refusalDetail_1 : decode cX11_refusalDetail 1 = .ok (.aload_n 0, 1) := by decide +kernel
theorem dX11_refusalDetail_2 : decode cX11_refusalDetail 2 = .ok (.getfield 63, 3) := by decide +kernel
theorem dX11_refusalDetail_5 : decode cX11_refusalDetail 5 = .ok (.ifCond .le 7, 3) := by decide +kernel
theorem dX11_refusalDetail_8 : decode cX11_refusalDetail 8 = .ok (.iconst 1, 1) := by decide +kernel
theorem dX11_refusalDetail_9 : decode cX11_refusalDetail 9 = .ok (.goto 4, 3) := by decide +kernel
theorem dX11_refusalDetail_12 : decode cX11_refusalDetail 12 = .ok (.iconst 0, 1) := by decide +kernel
theorem dX11_refusalDetail_13 : decode cX11_refusalDetail 13 = .ok (.invokevirtual 113, 3) := by decide +kernel
theorem dX11_refusalDetail_16 : decode cX11_refusalDetail 16 = .ok (.ifCond .eq 10, 3) := by decide +kernel
theorem dX11_refusalDetail_19 : decode cX11_refusalDetail 19 = .ok (.aload_n 0, 1) := by decide +kernel
theorem dX11_refusalDetail_20 : decode cX11_refusalDetail 20 = .ok (.getfield 66, 3) := by decide +kernel
theorem dX11_refusalDetail_23 : decode cX11_refusalDetail 23 = .ok (.goto 4, 3) := by decide +kernel
theorem dX11_refusalDetail_26 : decode cX11_refusalDetail 26 = .ok (.iconst 0, 1) := by decide +kernel
theorem dX11_refusalDetail_27 : decode cX11_refusalDetail 27 = .ok (.ireturn, 1) := by decide +kernel
abbrev rmX11_refusalDetail : Room := { frames := 3, cells := 0, slots := 0, locals := 81 }
set_option maxHeartbeats 4000000 in
set_option maxRecDepth 100000 in
theorem metX11_refusalDetail {l : Launch} {s0 : State} {b B : Nat} {D : va_G} {T : Nat → ClassId} (F : FX l s0 b D T B) {X : Nat → Prop} (hX : ∀ o, o < 12 → ¬ X (B + o)) {N : Nat} {μ : Mem} {a0 : Nat} {r : Mem × Int32} (k0 : IsMo a0) (h : fX11_refusalDetail N μ a0 = some r) : gMet l yX11_refusalDetail cX11_refusalDetail 1 (some .int) rmX11_refusalDetail [.ref (B + a0)] (gWM D T B μ) (KC s0 X) (some (.int r.2)) (gWM D T B r.1) (gA B X) 0 0 := by
  refine gI_of RX11 (by decide +kernel) rfl (Nat.le_of_ble_eq_true rfl) ?_
  intro p e s m args below meth c ls Q hx hb hlocks hml hown hts hW hk hl hS hend
  have hC := FX_C F hk hx hb hown hts
  have hA := gA_allM hX
  have hl : lv_has ls 1 [(0, .ref (B + a0))] := hl
  unfold fX11_refusalDetail at h
  refine lv_aload_n hx hb dX11_refusalDetail_0 rfl (lv_at hl 0 rfl) ?_
  refine lv_aload_n hx hb dX11_refusalDetail_1 rfl (lv_at hl 0 rfl) ?_
  refine gw_get (v := .int (μ a0 7)) hC hW fl_X11_63.1 k0.1 (k0.2.1 T B (μ a0)) rfl dX11_refusalDetail_2 ?_
  obtain ⟨j2, hj4, h⟩ := jn1_o h
  have J3 : ∀ (y1 : Bool), j2 y1 = some r → ∀ (H : Heap) (locs : List Loc) (ls : Array Slot), gWM D T B μ H → va_S (gA B X) s.heap H locs → lv_has ls 1 [(0, .ref (B + a0))] → W p l e rmX11_refusalDetail s m args below meth c H locs 0 0 Q (F0 m 13 ls [.int (b2i y1), .ref (B + a0)]) := by
    clear h hW hS hl
    intro y1 h H locs ls hW hS hl
    replace h := (hj4 y1).symm.trans h
    obtain ⟨r5, hcall, h⟩ := bd_out h
    refine g0_callV (As := [.int (b2i y1)]) hC hml hS hW (KC_at hk hS F.2.2.2.2) KC_blind (metX11_isThere F hX k0 hcall) ml_X11_113 (gw_recv hC hW k0.1 (k0.2.1 T B (μ a0)) rfl) ⟨rfl, rfl, Nat.le_of_ble_eq_true rfl, Nat.le_of_ble_eq_true rfl⟩ rfl hl.1 rfl (Nat.le_of_ble_eq_true rfl) dX11_refusalDetail_13 ⟨Nat.le_of_ble_eq_true rfl, Nat.le_of_ble_eq_true rfl⟩ (fun H locs hW hS => ?_)
    obtain ⟨j7, hj9, h⟩ := jn1_o h
    have J8 : ∀ (y6 : Int32), j7 y6 = some r → ∀ (H : Heap) (locs : List Loc) (ls : Array Slot), gWM D T B r5.1 H → va_S (gA B X) s.heap H locs → lv_has ls 1 [] → W p l e rmX11_refusalDetail s m args below meth c H locs 0 0 Q (F0 m 27 ls [.int y6]) := by
      clear h hW hS hl
      intro y6 h H locs ls hW hS hl
      replace h := (hj9 y6).symm.trans h
      cases h
      exact hend dX11_refusalDetail_27 hW hS (Nat.le_of_ble_eq_true rfl) (Nat.le_of_ble_eq_true rfl)
    refine gw_if_eqZ (tgt := 26) hx hb dX11_refusalDetail_16 (by decide) (fun c10 => ?_) (fun c10 => ?_)
    · replace h := cond_f c10 h
      refine lv_iconst (v := 0) hx hb dX11_refusalDetail_26 (by decide) ?_
      exact J8 _ h _ _ _ hW hS (lv_sub hl [] rfl)
    · replace h := cond_t c10 h
      refine lv_aload_n hx hb dX11_refusalDetail_19 rfl (lv_at hl 0 rfl) ?_
      refine gw_get (v := .int (r5.1 a0 8)) hC hW fl_X11_66.1 k0.1 (k0.2.1 T B (r5.1 a0)) rfl dX11_refusalDetail_20 ?_
      refine lv_goto (tgt := 27) hx hb dX11_refusalDetail_23 (by decide) ?_
      exact J8 _ h _ _ _ hW hS (lv_sub hl [] rfl)
  refine lv_if_le (tgt := 12) hx hb dX11_refusalDetail_5 (by decide) (fun c11 => ?_) (fun c11 => ?_)
  · replace h := ite_t c11 h
    refine lv_iconst (v := 0) hx hb dX11_refusalDetail_12 (by decide) ?_
    exact J3 _ h _ _ _ hW hS (lv_sub hl [0] rfl)
  · replace h := ite_f c11 h
    refine lv_iconst (v := 1) hx hb dX11_refusalDetail_8 (by decide) ?_
    refine lv_goto (tgt := 13) hx hb dX11_refusalDetail_9 (by decide) ?_
    exact J3 _ h _ _ _ hW hS (lv_sub hl [0] rfl)

theorem dX11_isConsistent_0 : decode cX11_isConsistent 0 = .ok (.aload_n 0, 1) := by decide +kernel
theorem dX11_isConsistent_1 : decode cX11_isConsistent 1 = .ok (.iconst 0, 1) := by decide +kernel
theorem dX11_isConsistent_2 : decode cX11_isConsistent 2 = .ok (.putfield 51, 3) := by decide +kernel
theorem dX11_isConsistent_5 : decode cX11_isConsistent 5 = .ok (.iconst 1, 1) := by decide +kernel
theorem dX11_isConsistent_6 : decode cX11_isConsistent 6 = .ok (.ireturn, 1) := by decide +kernel
abbrev rmX11_isConsistent : Room := { frames := 2, cells := 0, slots := 0, locals := 60 }
set_option maxHeartbeats 4000000 in
set_option maxRecDepth 100000 in
theorem metX11_isConsistent {l : Launch} {s0 : State} {b B : Nat} {D : va_G} {T : Nat → ClassId} (F : FX l s0 b D T B) {X : Nat → Prop} (hX : ∀ o, o < 12 → ¬ X (B + o)) {N : Nat} {μ : Mem} {a0 : Nat} {r : Mem × Bool} (k0 : IsMo a0) (h : fX11_isConsistent N μ a0 = some r) : gMet l yX11_isConsistent cX11_isConsistent 1 (some .boolean) rmX11_isConsistent [.ref (B + a0)] (gWM D T B μ) (KC s0 X) (some (.int (b2i r.2))) (gWM D T B r.1) (gA B X) 0 0 := by
  refine gZ_of RX11 (by decide +kernel) rfl (Nat.le_of_ble_eq_true rfl) ?_
  intro p e s m args below meth c ls Q hx hb hlocks hml hown hts hW hk hl hS hend
  have hC := FX_C F hk hx hb hown hts
  have hA := gA_allM hX
  have hl : lv_has ls 1 [(0, .ref (B + a0))] := hl
  unfold fX11_isConsistent at h
  refine lv_aload_n hx hb dX11_isConsistent_0 rfl (lv_at hl 0 rfl) ?_
  refine lv_iconst (v := 0) hx hb dX11_isConsistent_1 (by decide) ?_
  obtain ⟨μ1, e2, h⟩ := lt_out h
  refine gq_put hC hS hW hA fl_X11_51 k0.1 (k0.2.1 T B) (Nat.le_of_ble_eq_true rfl) rfl rfl rfl e2 dX11_isConsistent_2 (fun H locs hW hS => ?_)
  refine lv_iconst (v := 1) hx hb dX11_isConsistent_5 (by decide) ?_
  cases h
  exact hend dX11_isConsistent_6 hW hS (Nat.le_of_ble_eq_true rfl) (Nat.le_of_ble_eq_true rfl)

theorem dX11_says_0 : decode cX11_says 0 = .ok (.aload_n 0, 1) := by decide +kernel
theorem dX11_says_1 : decode cX11_says 1 = .ok (.getfield 34, 3) := by decide +kernel
theorem dX11_says_4 : decode cX11_says 4 = .ok (.aload_n 0, 1) := by decide +kernel
theorem dX11_says_5 : decode cX11_says 5 = .ok (.getfield 240, 3) := by decide +kernel
theorem dX11_says_8 : decode cX11_says 8 = .ok (.iload_n 1, 1) := by decide +kernel
theorem dX11_says_9 : decode cX11_says 9 = .ok (.i2c, 1) := by decide +kernel
theorem dX11_says_10 : decode cX11_says 10 = .ok (.castore, 1) := by decide +kernel
theorem dX11_says_11 : decode cX11_says 11 = .ok (.aload_n 0, 1) := by decide +kernel
theorem dX11_says_12 : decode cX11_says 12 = .ok (.dup, 1) := by decide +kernel
theorem dX11_says_13 : decode cX11_says 13 = .ok (.getfield 240, 3) := by decide +kernel
theorem dX11_says_16 : decode cX11_says 16 = .ok (.iconst 1, 1) := by decide +kernel
theorem dX11_says_17 : decode cX11_says 17 = .ok (.iadd, 1) := by decide +kernel
theorem dX11_says_18 : decode cX11_says 18 = .ok (.putfield 240, 3) := by decide +kernel
theorem dX11_says_21 : decode cX11_says 21 = .ok (.return_, 1) := by decide +kernel
abbrev rmX11_says : Room := { frames := 2, cells := 0, slots := 0, locals := 60 }
set_option maxHeartbeats 4000000 in
set_option maxRecDepth 100000 in
theorem metX11_says {l : Launch} {s0 : State} {b B : Nat} {D : va_G} {T : Nat → ClassId} (F : FX l s0 b D T B) {X : Nat → Prop} (hX : ∀ o, o < 12 → ¬ X (B + o)) {N : Nat} {μ : Mem} {a0 : Nat} {a1 : Int32} {r : Mem} (k0 : IsMo a0) (h : fX11_says N μ a0 a1 = some r) : gMet l yX11_says cX11_says 2 none rmX11_says [.ref (B + a0), .int a1] (gWM D T B μ) (KC s0 X) none (gWM D T B r) (gA B X) 0 0 := by
  refine gV_of RX11 (by decide +kernel) rfl (Nat.le_of_ble_eq_true rfl) ?_
  intro p e s m args below meth c ls Q hx hb hlocks hml hown hts hW hk hl hS hend
  have hC := FX_C F hk hx hb hown hts
  have hA := gA_allM hX
  have hl : lv_has ls 2 [(0, .ref (B + a0)), (1, .int a1)] := hl
  unfold fX11_says at h
  refine lv_aload_n hx hb dX11_says_0 rfl (lv_at hl 0 rfl) ?_
  refine gw_get (v := .ref (B + (a0 + 9))) hC hW fl_X11_34 k0.1 (k0.2.1 T B (μ a0)) rfl dX11_says_1 ?_
  refine lv_aload_n hx hb dX11_says_4 rfl (lv_at hl 0 rfl) ?_
  refine gw_get (v := .int (μ a0 15)) hC hW fl_X11_240.1 k0.1 (k0.2.1 T B (μ a0)) rfl dX11_says_5 ?_
  refine lv_iload_n hx hb dX11_says_8 rfl (lv_at hl 1 rfl) ?_
  refine lv_i2c hx hb dX11_says_9 rfl ?_
  obtain ⟨μ1, e2, hi3, h⟩ := aw_o h
  refine gq_cast hC hS hW hA k0.2.2.2.2.2.2.2.2.2.2.1.1 (k0.2.2.2.2.2.2.2.2.2.2.1.2 T B) (t0 := 2) rfl e2 hi3 dX11_says_10 (fun H locs hW hS => ?_)
  refine lv_aload_n hx hb dX11_says_11 rfl (lv_at hl 0 rfl) ?_
  refine lv_dup hx hb dX11_says_12 rfl ?_
  refine gw_get (v := .int (μ1 a0 15)) hC hW fl_X11_240.1 k0.1 (k0.2.1 T B (μ1 a0)) rfl dX11_says_13 ?_
  refine lv_iconst (v := 1) hx hb dX11_says_16 (by decide) ?_
  refine lv_iadd hx hb dX11_says_17 ?_
  obtain ⟨μ4, e5, h⟩ := lt_out h
  refine gq_put hC hS hW hA fl_X11_240 k0.1 (k0.2.1 T B) (Nat.le_of_ble_eq_true rfl) rfl rfl rfl e5 dX11_says_18 (fun H locs hW hS => ?_)
  cases h
  exact hend dX11_says_21 hW hS (Nat.le_of_ble_eq_true rfl) (Nat.le_of_ble_eq_true rfl)

theorem dX11_outputCharacter_0 : decode cX11_outputCharacter 0 = .ok (.aload_n 0, 1) := by decide +kernel
theorem dX11_outputCharacter_1 : decode cX11_outputCharacter 1 = .ok (.iload_n 1, 1) := by decide +kernel
theorem dX11_outputCharacter_2 : decode cX11_outputCharacter 2 = .ok (.iconst 0, 1) := by decide +kernel
theorem dX11_outputCharacter_3 : decode cX11_outputCharacter 3 = .ok (.aload_n 0, 1) := by decide +kernel
theorem dX11_outputCharacter_4 : decode cX11_outputCharacter 4 = .ok (.getfield 240, 3) := by decide +kernel
theorem dX11_outputCharacter_7 : decode cX11_outputCharacter 7 = .ok (.iconst 1, 1) := by decide +kernel
theorem dX11_outputCharacter_8 : decode cX11_outputCharacter 8 = .ok (.isub, 1) := by decide +kernel
theorem dX11_outputCharacter_9 : decode cX11_outputCharacter 9 = .ok (.invokestatic 73, 3) := by decide +kernel
theorem dX11_outputCharacter_12 : decode cX11_outputCharacter 12 = .ok (.invokevirtual 113, 3) := by decide +kernel
theorem dX11_outputCharacter_15 : decode cX11_outputCharacter 15 = .ok (.ifCond .eq 12, 3) := by decide +kernel
theorem dX11_outputCharacter_18 : decode cX11_outputCharacter 18 = .ok (.aload_n 0, 1) := by decide +kernel
theorem dX11_outputCharacter_19 : decode cX11_outputCharacter 19 = .ok (.getfield 34, 3) := by decide +kernel
theorem dX11_outputCharacter_22 : decode cX11_outputCharacter 22 = .ok (.iload_n 1, 1) := by decide +kernel
theorem dX11_outputCharacter_23 : decode cX11_outputCharacter 23 = .ok (.caload, 1) := by decide +kernel
theorem dX11_outputCharacter_24 : decode cX11_outputCharacter 24 = .ok (.goto 5, 3) := by decide +kernel
theorem dX11_outputCharacter_27 : decode cX11_outputCharacter 27 = .ok (.bipush 32, 2) := by decide +kernel
theorem dX11_outputCharacter_29 : decode cX11_outputCharacter 29 = .ok (.ireturn, 1) := by decide +kernel
abbrev rmX11_outputCharacter : Room := { frames := 3, cells := 0, slots := 0, locals := 82 }
set_option maxHeartbeats 4000000 in
set_option maxRecDepth 100000 in
theorem metX11_outputCharacter {l : Launch} {s0 : State} {b B : Nat} {D : va_G} {T : Nat → ClassId} (F : FX l s0 b D T B) {X : Nat → Prop} (hX : ∀ o, o < 12 → ¬ X (B + o)) {N : Nat} {μ : Mem} {a0 : Nat} {a1 : Int32} {r : Mem × Int32} (k0 : IsMo a0) (h : fX11_outputCharacter N μ a0 a1 = some r) : gMet l yX11_outputCharacter cX11_outputCharacter 2 (some .char) rmX11_outputCharacter [.ref (B + a0), .int a1] (gWM D T B μ) (KC s0 X) (some (.int r.2)) (gWM D T B r.1) (gA B X) 0 0 := by
  refine gC_of RX11 (by decide +kernel) rfl (Nat.le_of_ble_eq_true rfl) ?_
  intro p e s m args below meth c ls Q hx hb hlocks hml hown hts hW hk hl hS hend
  have hC := FX_C F hk hx hb hown hts
  have hA := gA_allM hX
  have hl : lv_has ls 2 [(0, .ref (B + a0)), (1, .int a1)] := hl
  unfold fX11_outputCharacter at h
  refine lv_aload_n hx hb dX11_outputCharacter_0 rfl (lv_at hl 0 rfl) ?_
  refine lv_iload_n hx hb dX11_outputCharacter_1 rfl (lv_at hl 1 rfl) ?_
  refine lv_iconst (v := 0) hx hb dX11_outputCharacter_2 (by decide) ?_
  refine lv_aload_n hx hb dX11_outputCharacter_3 rfl (lv_at hl 0 rfl) ?_
  refine gw_get (v := .int (μ a0 15)) hC hW fl_X11_240.1 k0.1 (k0.2.1 T B (μ a0)) rfl dX11_outputCharacter_4 ?_
  refine lv_iconst (v := 1) hx hb dX11_outputCharacter_7 (by decide) ?_
  refine lv_isub hx hb dX11_outputCharacter_8 ?_
  obtain ⟨r1, hcall, h⟩ := bd_out h
  refine g0_callS (As := [.int a1, .int 0, .int ((μ a0 15) - 1)]) hC hml hS hW (KC_at hk hS F.2.2.2.2) KC_blind (metX11_in F hX  hcall) ml_X11_73 ⟨rfl, rfl, Nat.le_of_ble_eq_true rfl, Nat.le_of_ble_eq_true rfl⟩ rfl hl.1 rfl (Nat.le_of_ble_eq_true rfl) dX11_outputCharacter_9 ⟨Nat.le_of_ble_eq_true rfl, Nat.le_of_ble_eq_true rfl⟩ (fun H locs hW hS => ?_)
  obtain ⟨r2, hcall, h⟩ := bd_out h
  refine g0_callV (As := [.int (b2i r1)]) hC hml hS hW (KC_at hk hS F.2.2.2.2) KC_blind (metX11_isThere F hX k0 hcall) ml_X11_113 (gw_recv hC hW k0.1 (k0.2.1 T B (μ a0)) rfl) ⟨rfl, rfl, Nat.le_of_ble_eq_true rfl, Nat.le_of_ble_eq_true rfl⟩ rfl hl.1 rfl (Nat.le_of_ble_eq_true rfl) dX11_outputCharacter_12 ⟨Nat.le_of_ble_eq_true rfl, Nat.le_of_ble_eq_true rfl⟩ (fun H locs hW hS => ?_)
  obtain ⟨j4, hj6, h⟩ := jn1_o h
  have J5 : ∀ (y3 : Int32), j4 y3 = some r → ∀ (H : Heap) (locs : List Loc) (ls : Array Slot), gWM D T B r2.1 H → va_S (gA B X) s.heap H locs → lv_has ls 2 [] → W p l e rmX11_outputCharacter s m args below meth c H locs 0 0 Q (F0 m 29 ls [.int y3]) := by
    clear h hW hS hl
    intro y3 h H locs ls hW hS hl
    replace h := (hj6 y3).symm.trans h
    obtain ⟨c7, h⟩ := gd_out h
    cases h
    exact hend c7 dX11_outputCharacter_29 hW hS (Nat.le_of_ble_eq_true rfl) (Nat.le_of_ble_eq_true rfl)
  refine gw_if_eqZ (tgt := 27) hx hb dX11_outputCharacter_15 (by decide) (fun c8 => ?_) (fun c8 => ?_)
  · replace h := cond_f c8 h
    refine lv_bipush (v := 32) hx hb dX11_outputCharacter_27 (by decide) ?_
    exact J5 _ h _ _ _ hW hS (lv_sub hl [] rfl)
  · replace h := cond_t c8 h
    refine lv_aload_n hx hb dX11_outputCharacter_18 rfl (lv_at hl 0 rfl) ?_
    refine gw_get (v := .ref (B + (a0 + 9))) hC hW fl_X11_34 k0.1 (k0.2.1 T B (r2.1 a0)) rfl dX11_outputCharacter_19 ?_
    refine lv_iload_n hx hb dX11_outputCharacter_22 rfl (lv_at hl 1 rfl) ?_
    obtain ⟨v9, e10, hi11, h⟩ := ag_o h
    refine gq_cald hC hW k0.2.2.2.2.2.2.2.2.2.2.1.1 (k0.2.2.2.2.2.2.2.2.2.2.1.2 T B (r2.1 (a0 + 9))) (t0 := 2) rfl e10 hi11 dX11_outputCharacter_23 ?_
    refine lv_goto (tgt := 29) hx hb dX11_outputCharacter_24 (by decide) ?_
    exact J5 _ h _ _ _ hW hS (lv_sub hl [] rfl)

theorem dX11_feed_0 : decode cX11_feed 0 = .ok (.aload_n 0, 1) := by decide +kernel
theorem dX11_feed_1 : decode cX11_feed 1 = .ok (.aload_n 0, 1) := by decide +kernel
theorem dX11_feed_2 : decode cX11_feed 2 = .ok (.getfield 249, 3) := by decide +kernel
theorem dX11_feed_5 : decode cX11_feed 5 = .ok (.bipush 60, 2) := by decide +kernel
theorem dX11_feed_7 : decode cX11_feed 7 = .ok (.if_icmp .ne 7, 3) := by decide +kernel
theorem dX11_feed_10 : decode cX11_feed 10 = .ok (.iconst 1, 1) := by decide +kernel
theorem dX11_feed_11 : decode cX11_feed 11 = .ok (.goto 4, 3) := by decide +kernel
theorem dX11_feed_14 : decode cX11_feed 14 = .ok (.iconst 0, 1) := by decide +kernel
theorem dX11_feed_15 : decode cX11_feed 15 = .ok (.putfield 51, 3) := by decide +kernel
theorem dX11_feed_18 : decode cX11_feed 18 = .ok (.aload_n 0, 1) := by decide +kernel
theorem dX11_feed_19 : decode cX11_feed 19 = .ok (.getfield 51, 3) := by decide +kernel
theorem dX11_feed_22 : decode cX11_feed 22 = .ok (.ifCond .le 5, 3) := by decide +kernel
theorem dX11_feed_25 : decode cX11_feed 25 = .ok (.iconst 0, 1) := by decide +kernel
theorem dX11_feed_26 : decode cX11_feed 26 = .ok (.ireturn, 1) := by decide +kernel
theorem dX11_feed_27 : decode cX11_feed 27 = .ok (.aload_n 0, 1) := by decide +kernel
theorem dX11_feed_28 : decode cX11_feed 28 = .ok (.getfield 38, 3) := by decide +kernel
theorem dX11_feed_31 : decode cX11_feed 31 = .ok (.aload_n 0, 1) := by decide +kernel
theorem dX11_feed_32 : decode cX11_feed 32 = .ok (.getfield 249, 3) := by decide +kernel
theorem dX11_feed_35 : decode cX11_feed 35 = .ok (.iload_n 1, 1) := by decide +kernel
theorem dX11_feed_36 : decode cX11_feed 36 = .ok (.castore, 1) := by decide +kernel
theorem dX11_feed_37 : decode cX11_feed 37 = .ok (.aload_n 0, 1) := by decide +kernel
theorem dX11_feed_38 : decode cX11_feed 38 = .ok (.dup, 1) := by decide +kernel
theorem dX11_feed_39 : decode cX11_feed 39 = .ok (.getfield 249, 3) := by decide +kernel
theorem dX11_feed_42 : decode cX11_feed 42 = .ok (.iconst 1, 1) := by decide +kernel
theorem dX11_feed_43 : decode cX11_feed 43 = .ok (.iadd, 1) := by decide +kernel
theorem dX11_feed_44 : decode cX11_feed 44 = .ok (.putfield 249, 3) := by decide +kernel
theorem dX11_feed_47 : decode cX11_feed 47 = .ok (.aload_n 0, 1) := by decide +kernel
theorem dX11_feed_48 : decode cX11_feed 48 = .ok (.getfield 249, 3) := by decide +kernel
theorem dX11_feed_51 : decode cX11_feed 51 = .ok (.ireturn, 1) := by decide +kernel
abbrev rmX11_feed : Room := { frames := 2, cells := 0, slots := 0, locals := 60 }
set_option maxHeartbeats 4000000 in
set_option maxRecDepth 100000 in
theorem metX11_feed {l : Launch} {s0 : State} {b B : Nat} {D : va_G} {T : Nat → ClassId} (F : FX l s0 b D T B) {X : Nat → Prop} (hX : ∀ o, o < 12 → ¬ X (B + o)) {N : Nat} {μ : Mem} {a0 : Nat} {a1 : Int32} {r : Mem × Int32} (k0 : IsMo a0) (h : fX11_feed N μ a0 a1 = some r) : gMet l yX11_feed cX11_feed 2 (some .int) rmX11_feed [.ref (B + a0), .int a1] (gWM D T B μ) (KC s0 X) (some (.int r.2)) (gWM D T B r.1) (gA B X) 0 0 := by
  refine gI_of RX11 (by decide +kernel) rfl (Nat.le_of_ble_eq_true rfl) ?_
  intro p e s m args below meth c ls Q hx hb hlocks hml hown hts hW hk hl hS hend
  have hC := FX_C F hk hx hb hown hts
  have hA := gA_allM hX
  have hl : lv_has ls 2 [(0, .ref (B + a0)), (1, .int a1)] := hl
  unfold fX11_feed at h
  refine lv_aload_n hx hb dX11_feed_0 rfl (lv_at hl 0 rfl) ?_
  refine lv_aload_n hx hb dX11_feed_1 rfl (lv_at hl 0 rfl) ?_
  refine gw_get (v := .int (μ a0 17)) hC hW fl_X11_249.1 k0.1 (k0.2.1 T B (μ a0)) rfl dX11_feed_2 ?_
  refine lv_bipush (v := 60) hx hb dX11_feed_5 (by decide) ?_
  obtain ⟨j2, hj4, h⟩ := jn1_o h
  have J3 : ∀ (y1 : Bool), j2 y1 = some r → ∀ (H : Heap) (locs : List Loc) (ls : Array Slot), gWM D T B μ H → va_S (gA B X) s.heap H locs → lv_has ls 2 [(0, .ref (B + a0)), (1, .int a1)] → W p l e rmX11_feed s m args below meth c H locs 0 0 Q (F0 m 15 ls [.int (b2i y1), .ref (B + a0)]) := by
    clear h hW hS hl
    intro y1 h H locs ls hW hS hl
    replace h := (hj4 y1).symm.trans h
    obtain ⟨μ5, e6, h⟩ := lt_out h
    refine gq_put hC hS hW hA fl_X11_51 k0.1 (k0.2.1 T B) (Nat.le_of_ble_eq_true rfl) rfl rfl rfl e6 dX11_feed_15 (fun H locs hW hS => ?_)
    refine lv_aload_n hx hb dX11_feed_18 rfl (lv_at hl 0 rfl) ?_
    refine gw_get (v := .int (μ5 a0 6)) hC hW fl_X11_51.1 k0.1 (k0.2.1 T B (μ5 a0)) rfl dX11_feed_19 ?_
    refine lv_if_le (tgt := 27) hx hb dX11_feed_22 (by decide) (fun c7 => ?_) (fun c7 => ?_)
    · replace h := ite_t c7 h
      refine lv_aload_n hx hb dX11_feed_27 rfl (lv_at hl 0 rfl) ?_
      refine gw_get (v := .ref (B + (a0 + 10))) hC hW fl_X11_38 k0.1 (k0.2.1 T B (μ5 a0)) rfl dX11_feed_28 ?_
      refine lv_aload_n hx hb dX11_feed_31 rfl (lv_at hl 0 rfl) ?_
      refine gw_get (v := .int (μ5 a0 17)) hC hW fl_X11_249.1 k0.1 (k0.2.1 T B (μ5 a0)) rfl dX11_feed_32 ?_
      refine lv_iload_n hx hb dX11_feed_35 rfl (lv_at hl 1 rfl) ?_
      obtain ⟨μ8, e9, hi10, h⟩ := aw_o h
      refine gq_cast hC hS hW hA k0.2.2.2.2.2.2.2.2.2.2.2.1.1 (k0.2.2.2.2.2.2.2.2.2.2.2.1.2 T B) (t0 := 2) rfl e9 hi10 dX11_feed_36 (fun H locs hW hS => ?_)
      refine lv_aload_n hx hb dX11_feed_37 rfl (lv_at hl 0 rfl) ?_
      refine lv_dup hx hb dX11_feed_38 rfl ?_
      refine gw_get (v := .int (μ8 a0 17)) hC hW fl_X11_249.1 k0.1 (k0.2.1 T B (μ8 a0)) rfl dX11_feed_39 ?_
      refine lv_iconst (v := 1) hx hb dX11_feed_42 (by decide) ?_
      refine lv_iadd hx hb dX11_feed_43 ?_
      obtain ⟨μ11, e12, h⟩ := lt_out h
      refine gq_put hC hS hW hA fl_X11_249 k0.1 (k0.2.1 T B) (Nat.le_of_ble_eq_true rfl) rfl rfl rfl e12 dX11_feed_44 (fun H locs hW hS => ?_)
      refine lv_aload_n hx hb dX11_feed_47 rfl (lv_at hl 0 rfl) ?_
      refine gw_get (v := .int (μ11 a0 17)) hC hW fl_X11_249.1 k0.1 (k0.2.1 T B (μ11 a0)) rfl dX11_feed_48 ?_
      cases h
      exact hend dX11_feed_51 hW hS (Nat.le_of_ble_eq_true rfl) (Nat.le_of_ble_eq_true rfl)
    · replace h := ite_f c7 h
      refine lv_iconst (v := 0) hx hb dX11_feed_25 (by decide) ?_
      cases h
      exact hend dX11_feed_26 hW hS (Nat.le_of_ble_eq_true rfl) (Nat.le_of_ble_eq_true rfl)
  refine lv_icmp_ne (tgt := 14) hx hb dX11_feed_7 (by decide) (fun c13 => ?_) (fun c13 => ?_)
  · replace h := ite_f c13 h
    refine lv_iconst (v := 0) hx hb dX11_feed_14 (by decide) ?_
    exact J3 _ h _ _ _ hW hS (lv_sub hl [0, 1] rfl)
  · replace h := ite_t c13 h
    refine lv_iconst (v := 1) hx hb dX11_feed_10 (by decide) ?_
    refine lv_goto (tgt := 15) hx hb dX11_feed_11 (by decide) ?_
    exact J3 _ h _ _ _ hW hS (lv_sub hl [0, 1] rfl)

theorem dX11_behind_0 : decode cX11_behind 0 = .ok (.aload_n 0, 1) := by decide +kernel
theorem dX11_behind_1 : decode cX11_behind 1 = .ok (.getfield 252, 3) := by decide +kernel
theorem dX11_behind_4 : decode cX11_behind 4 = .ok (.iload_n 1, 1) := by decide +kernel
theorem dX11_behind_5 : decode cX11_behind 5 = .ok (.iadd, 1) := by decide +kernel
theorem dX11_behind_6 : decode cX11_behind 6 = .ok (.aload_n 0, 1) := by decide +kernel
theorem dX11_behind_7 : decode cX11_behind 7 = .ok (.getfield 249, 3) := by decide +kernel
theorem dX11_behind_10 : decode cX11_behind 10 = .ok (.if_icmp .ge 17, 3) := by decide +kernel
theorem dX11_behind_13 : decode cX11_behind 13 = .ok (.aload_n 0, 1) := by decide +kernel
theorem dX11_behind_14 : decode cX11_behind 14 = .ok (.getfield 38, 3) := by decide +kernel
theorem dX11_behind_17 : decode cX11_behind 17 = .ok (.aload_n 0, 1) := by decide +kernel
theorem dX11_behind_18 : decode cX11_behind 18 = .ok (.getfield 252, 3) := by decide +kernel
theorem dX11_behind_21 : decode cX11_behind 21 = .ok (.iload_n 1, 1) := by decide +kernel
theorem dX11_behind_22 : decode cX11_behind 22 = .ok (.iadd, 1) := by decide +kernel
theorem dX11_behind_23 : decode cX11_behind 23 = .ok (.caload, 1) := by decide +kernel
theorem dX11_behind_24 : decode cX11_behind 24 = .ok (.goto 4, 3) := by decide +kernel
theorem dX11_behind_27 : decode cX11_behind 27 = .ok (.iconst (-1), 1) := by decide +kernel
theorem dX11_behind_28 : decode cX11_behind 28 = .ok (.ireturn, 1) := by decide +kernel
abbrev rmX11_behind : Room := { frames := 2, cells := 0, slots := 0, locals := 60 }
set_option maxHeartbeats 4000000 in
set_option maxRecDepth 100000 in
theorem metX11_behind {l : Launch} {s0 : State} {b B : Nat} {D : va_G} {T : Nat → ClassId} (F : FX l s0 b D T B) {X : Nat → Prop} (hX : ∀ o, o < 12 → ¬ X (B + o)) {N : Nat} {μ : Mem} {a0 : Nat} {a1 : Int32} {r : Int32} (k0 : IsMo a0) (h : fX11_behind N μ a0 a1 = some r) : gMet l yX11_behind cX11_behind 2 (some .int) rmX11_behind [.ref (B + a0), .int a1] (gWM D T B μ) (KC s0 X) (some (.int r)) (gWM D T B μ) (gA B X) 0 0 := by
  refine gI_of RX11 (by decide +kernel) rfl (Nat.le_of_ble_eq_true rfl) ?_
  intro p e s m args below meth c ls Q hx hb hlocks hml hown hts hW hk hl hS hend
  have hC := FX_C F hk hx hb hown hts
  have hA := gA_allM hX
  have hl : lv_has ls 2 [(0, .ref (B + a0)), (1, .int a1)] := hl
  unfold fX11_behind at h
  refine lv_aload_n hx hb dX11_behind_0 rfl (lv_at hl 0 rfl) ?_
  refine gw_get (v := .int (μ a0 18)) hC hW fl_X11_252.1 k0.1 (k0.2.1 T B (μ a0)) rfl dX11_behind_1 ?_
  refine lv_iload_n hx hb dX11_behind_4 rfl (lv_at hl 1 rfl) ?_
  refine lv_iadd hx hb dX11_behind_5 ?_
  refine lv_aload_n hx hb dX11_behind_6 rfl (lv_at hl 0 rfl) ?_
  refine gw_get (v := .int (μ a0 17)) hC hW fl_X11_249.1 k0.1 (k0.2.1 T B (μ a0)) rfl dX11_behind_7 ?_
  obtain ⟨j2, hj4, h⟩ := jn1_o h
  have J3 : ∀ (y1 : Int32), j2 y1 = some r → ∀ (H : Heap) (locs : List Loc) (ls : Array Slot), gWM D T B μ H → va_S (gA B X) s.heap H locs → lv_has ls 2 [] → W p l e rmX11_behind s m args below meth c H locs 0 0 Q (F0 m 28 ls [.int y1]) := by
    clear h hW hS hl
    intro y1 h H locs ls hW hS hl
    replace h := (hj4 y1).symm.trans h
    cases h
    exact hend dX11_behind_28 hW hS (Nat.le_of_ble_eq_true rfl) (Nat.le_of_ble_eq_true rfl)
  refine lv_icmp_ge (tgt := 27) hx hb dX11_behind_10 (by decide) (fun c5 => ?_) (fun c5 => ?_)
  · replace h := ite_t c5 h
    refine lv_iconst (v := (-1)) hx hb dX11_behind_27 (by decide) ?_
    exact J3 _ h _ _ _ hW hS (lv_sub hl [] rfl)
  · replace h := ite_f c5 h
    refine lv_aload_n hx hb dX11_behind_13 rfl (lv_at hl 0 rfl) ?_
    refine gw_get (v := .ref (B + (a0 + 10))) hC hW fl_X11_38 k0.1 (k0.2.1 T B (μ a0)) rfl dX11_behind_14 ?_
    refine lv_aload_n hx hb dX11_behind_17 rfl (lv_at hl 0 rfl) ?_
    refine gw_get (v := .int (μ a0 18)) hC hW fl_X11_252.1 k0.1 (k0.2.1 T B (μ a0)) rfl dX11_behind_18 ?_
    refine lv_iload_n hx hb dX11_behind_21 rfl (lv_at hl 1 rfl) ?_
    refine lv_iadd hx hb dX11_behind_22 ?_
    obtain ⟨v6, e7, hi8, h⟩ := ag_o h
    refine gq_cald hC hW k0.2.2.2.2.2.2.2.2.2.2.2.1.1 (k0.2.2.2.2.2.2.2.2.2.2.2.1.2 T B (μ (a0 + 10))) (t0 := 2) rfl e7 hi8 dX11_behind_23 ?_
    refine lv_goto (tgt := 28) hx hb dX11_behind_24 (by decide) ?_
    exact J3 _ h _ _ _ hW hS (lv_sub hl [] rfl)

theorem dX11_isDigit_0 : decode cX11_isDigit 0 = .ok (.aload_n 0, 1) := by decide +kernel
theorem dX11_isDigit_1 : decode cX11_isDigit 1 = .ok (.getfield 259, 3) := by decide +kernel
theorem dX11_isDigit_4 : decode cX11_isDigit 4 = .ok (.ifCond .ne 22, 3) := by decide +kernel
theorem dX11_isDigit_7 : decode cX11_isDigit 7 = .ok (.aload_n 0, 1) := by decide +kernel
theorem dX11_isDigit_8 : decode cX11_isDigit 8 = .ok (.iconst 0, 1) := by decide +kernel
theorem dX11_isDigit_9 : decode cX11_isDigit 9 = .ok (.invokevirtual 263, 3) := by decide +kernel
theorem dX11_isDigit_12 : decode cX11_isDigit 12 = .ok (.bipush 48, 2) := by decide +kernel
theorem dX11_isDigit_14 : decode cX11_isDigit 14 = .ok (.bipush 57, 2) := by decide +kernel
theorem dX11_isDigit_16 : decode cX11_isDigit 16 = .ok (.invokestatic 73, 3) := by decide +kernel
theorem dX11_isDigit_19 : decode cX11_isDigit 19 = .ok (.ifCond .eq 7, 3) := by decide +kernel
theorem dX11_isDigit_22 : decode cX11_isDigit 22 = .ok (.iconst 1, 1) := by decide +kernel
theorem dX11_isDigit_23 : decode cX11_isDigit 23 = .ok (.goto 4, 3) := by decide +kernel
theorem dX11_isDigit_26 : decode cX11_isDigit 26 = .ok (.iconst 0, 1) := by decide +kernel
theorem dX11_isDigit_27 : decode cX11_isDigit 27 = .ok (.ireturn, 1) := by decide +kernel
abbrev rmX11_isDigit : Room := { frames := 3, cells := 0, slots := 0, locals := 82 }
set_option maxHeartbeats 4000000 in
set_option maxRecDepth 100000 in
theorem metX11_isDigit {l : Launch} {s0 : State} {b B : Nat} {D : va_G} {T : Nat → ClassId} (F : FX l s0 b D T B) {X : Nat → Prop} (hX : ∀ o, o < 12 → ¬ X (B + o)) {N : Nat} {μ : Mem} {a0 : Nat} {r : Bool} (k0 : IsMo a0) (h : fX11_isDigit N μ a0 = some r) : gMet l yX11_isDigit cX11_isDigit 1 (some .boolean) rmX11_isDigit [.ref (B + a0)] (gWM D T B μ) (KC s0 X) (some (.int (b2i r))) (gWM D T B μ) (gA B X) 0 0 := by
  refine gZ_of RX11 (by decide +kernel) rfl (Nat.le_of_ble_eq_true rfl) ?_
  intro p e s m args below meth c ls Q hx hb hlocks hml hown hts hW hk hl hS hend
  have hC := FX_C F hk hx hb hown hts
  have hA := gA_allM hX
  have hl : lv_has ls 1 [(0, .ref (B + a0))] := hl
  unfold fX11_isDigit at h
  refine lv_aload_n hx hb dX11_isDigit_0 rfl (lv_at hl 0 rfl) ?_
  refine gw_get (v := .int (μ a0 19)) hC hW fl_X11_259.1 k0.1 (k0.2.1 T B (μ a0)) rfl dX11_isDigit_1 ?_
  obtain ⟨j2, hj4, h⟩ := jn1_o h
  have J3 : ∀ (y1 : Bool), j2 y1 = some r → ∀ (H : Heap) (locs : List Loc) (ls : Array Slot), gWM D T B μ H → va_S (gA B X) s.heap H locs → lv_has ls 1 [] → W p l e rmX11_isDigit s m args below meth c H locs 0 0 Q (F0 m 27 ls [.int (b2i y1)]) := by
    clear h hW hS hl
    intro y1 h H locs ls hW hS hl
    replace h := (hj4 y1).symm.trans h
    cases h
    exact hend dX11_isDigit_27 hW hS (Nat.le_of_ble_eq_true rfl) (Nat.le_of_ble_eq_true rfl)
  obtain ⟨j6, hj8, h⟩ := jn1_o h
  have J7 : ∀ (u5 : Unit), j6 u5 = some r → ∀ (H : Heap) (locs : List Loc) (ls : Array Slot), gWM D T B μ H → va_S (gA B X) s.heap H locs → lv_has ls 1 [] → W p l e rmX11_isDigit s m args below meth c H locs 0 0 Q (F0 m 26 ls []) := by
    clear h hW hS hl
    intro u5 h H locs ls hW hS hl
    replace h := (hj8 u5).symm.trans h
    refine lv_iconst (v := 0) hx hb dX11_isDigit_26 (by decide) ?_
    exact J3 _ h _ _ _ hW hS (lv_sub hl [] rfl)
  refine lv_if_ne (tgt := 26) hx hb dX11_isDigit_4 (by decide) (fun c9 => ?_) (fun c9 => ?_)
  · replace h := ite_f c9 h
    exact J7 _ h _ _ _ hW hS (lv_sub hl [] rfl)
  · replace h := ite_t c9 h
    refine lv_aload_n hx hb dX11_isDigit_7 rfl (lv_at hl 0 rfl) ?_
    refine lv_iconst (v := 0) hx hb dX11_isDigit_8 (by decide) ?_
    obtain ⟨r10, hcall, h⟩ := bd_out h
    refine g0_callV (As := [.int 0]) hC hml hS hW (KC_at hk hS F.2.2.2.2) KC_blind (metX11_behind F hX k0 hcall) ml_X11_263 (gw_recv hC hW k0.1 (k0.2.1 T B (μ a0)) rfl) ⟨rfl, rfl, Nat.le_of_ble_eq_true rfl, Nat.le_of_ble_eq_true rfl⟩ rfl hl.1 rfl (Nat.le_of_ble_eq_true rfl) dX11_isDigit_9 ⟨Nat.le_of_ble_eq_true rfl, Nat.le_of_ble_eq_true rfl⟩ (fun H locs hW hS => ?_)
    refine lv_bipush (v := 48) hx hb dX11_isDigit_12 (by decide) ?_
    refine lv_bipush (v := 57) hx hb dX11_isDigit_14 (by decide) ?_
    obtain ⟨r11, hcall, h⟩ := bd_out h
    refine g0_callS (As := [.int r10, .int 48, .int 57]) hC hml hS hW (KC_at hk hS F.2.2.2.2) KC_blind (metX11_in F hX  hcall) ml_X11_73 ⟨rfl, rfl, Nat.le_of_ble_eq_true rfl, Nat.le_of_ble_eq_true rfl⟩ rfl hl.1 rfl (Nat.le_of_ble_eq_true rfl) dX11_isDigit_16 ⟨Nat.le_of_ble_eq_true rfl, Nat.le_of_ble_eq_true rfl⟩ (fun H locs hW hS => ?_)
    refine gw_if_eqZ (tgt := 26) hx hb dX11_isDigit_19 (by decide) (fun c12 => ?_) (fun c12 => ?_)
    · replace h := cond_f c12 h
      exact J7 _ h _ _ _ hW hS (lv_sub hl [] rfl)
    · replace h := cond_t c12 h
      refine lv_iconst (v := 1) hx hb dX11_isDigit_22 (by decide) ?_
      refine lv_goto (tgt := 27) hx hb dX11_isDigit_23 (by decide) ?_
      exact J3 _ h _ _ _ hW hS (lv_sub hl [] rfl)

theorem dX11_readsNumber_0 : decode cX11_readsNumber 0 = .ok (.aload_n 0, 1) := by decide +kernel
theorem dX11_readsNumber_1 : decode cX11_readsNumber 1 = .ok (.aload_n 0, 1) := by decide +kernel
theorem dX11_readsNumber_2 : decode cX11_readsNumber 2 = .ok (.getfield 259, 3) := by decide +kernel
theorem dX11_readsNumber_5 : decode cX11_readsNumber 5 = .ok (.ifCond .ne 10, 3) := by decide +kernel
theorem dX11_readsNumber_8 : decode cX11_readsNumber 8 = .ok (.aload_n 0, 1) := by decide +kernel
theorem dX11_readsNumber_9 : decode cX11_readsNumber 9 = .ok (.invokevirtual 284, 3) := by decide +kernel
theorem dX11_readsNumber_12 : decode cX11_readsNumber 12 = .ok (.ifCond .ne 7, 3) := by decide +kernel
theorem dX11_readsNumber_15 : decode cX11_readsNumber 15 = .ok (.iconst 1, 1) := by decide +kernel
theorem dX11_readsNumber_16 : decode cX11_readsNumber 16 = .ok (.goto 4, 3) := by decide +kernel
theorem dX11_readsNumber_19 : decode cX11_readsNumber 19 = .ok (.iconst 0, 1) := by decide +kernel
theorem dX11_readsNumber_20 : decode cX11_readsNumber 20 = .ok (.putfield 259, 3) := by decide +kernel
theorem dX11_readsNumber_23 : decode cX11_readsNumber 23 = .ok (.iconst 0, 1) := by decide +kernel
theorem dX11_readsNumber_24 : decode cX11_readsNumber 24 = .ok (.istore_n 2, 1) := by decide +kernel
theorem dX11_readsNumber_25 : decode cX11_readsNumber 25 = .ok (.iconst 0, 1) := by decide +kernel
theorem dX11_readsNumber_26 : decode cX11_readsNumber 26 = .ok (.istore_n 3, 1) := by decide +kernel
theorem dX11_readsNumber_27 : decode cX11_readsNumber 27 = .ok (.iload_n 3, 1) := by decide +kernel
theorem dX11_readsNumber_28 : decode cX11_readsNumber 28 = .ok (.iload_n 1, 1) := by decide +kernel
theorem dX11_readsNumber_29 : decode cX11_readsNumber 29 = .ok (.if_icmp .ge 44, 3) := by decide +kernel
theorem dX11_readsNumber_32 : decode cX11_readsNumber 32 = .ok (.aload_n 0, 1) := by decide +kernel
theorem dX11_readsNumber_33 : decode cX11_readsNumber 33 = .ok (.invokevirtual 284, 3) := by decide +kernel
theorem dX11_readsNumber_36 : decode cX11_readsNumber 36 = .ok (.ifCond .eq 37, 3) := by decide +kernel
theorem dX11_readsNumber_39 : decode cX11_readsNumber 39 = .ok (.bipush 10, 2) := by decide +kernel
theorem dX11_readsNumber_41 : decode cX11_readsNumber 41 = .ok (.iload_n 2, 1) := by decide +kernel
theorem dX11_readsNumber_42 : decode cX11_readsNumber 42 = .ok (.imul, 1) := by decide +kernel
theorem dX11_readsNumber_43 : decode cX11_readsNumber 43 = .ok (.aload_n 0, 1) := by decide +kernel
theorem dX11_readsNumber_44 : decode cX11_readsNumber 44 = .ok (.getfield 38, 3) := by decide +kernel
theorem dX11_readsNumber_47 : decode cX11_readsNumber 47 = .ok (.aload_n 0, 1) := by decide +kernel
theorem dX11_readsNumber_48 : decode cX11_readsNumber 48 = .ok (.getfield 252, 3) := by decide +kernel
theorem dX11_readsNumber_51 : decode cX11_readsNumber 51 = .ok (.caload, 1) := by decide +kernel
theorem dX11_readsNumber_52 : decode cX11_readsNumber 52 = .ok (.iadd, 1) := by decide +kernel
theorem dX11_readsNumber_53 : decode cX11_readsNumber 53 = .ok (.bipush 48, 2) := by decide +kernel
theorem dX11_readsNumber_55 : decode cX11_readsNumber 55 = .ok (.isub, 1) := by decide +kernel
theorem dX11_readsNumber_56 : decode cX11_readsNumber 56 = .ok (.istore_n 2, 1) := by decide +kernel
theorem dX11_readsNumber_57 : decode cX11_readsNumber 57 = .ok (.aload_n 0, 1) := by decide +kernel
theorem dX11_readsNumber_58 : decode cX11_readsNumber 58 = .ok (.dup, 1) := by decide +kernel
theorem dX11_readsNumber_59 : decode cX11_readsNumber 59 = .ok (.getfield 252, 3) := by decide +kernel
theorem dX11_readsNumber_62 : decode cX11_readsNumber 62 = .ok (.iconst 1, 1) := by decide +kernel
theorem dX11_readsNumber_63 : decode cX11_readsNumber 63 = .ok (.iadd, 1) := by decide +kernel
theorem dX11_readsNumber_64 : decode cX11_readsNumber 64 = .ok (.putfield 252, 3) := by decide +kernel
theorem dX11_readsNumber_67 : decode cX11_readsNumber 67 = .ok (.iinc 3 1, 3) := by decide +kernel
theorem dX11_readsNumber_70 : decode cX11_readsNumber 70 = .ok (.goto (-43), 3) := by decide +kernel
theorem dX11_readsNumber_73 : decode cX11_readsNumber 73 = .ok (.iload_n 2, 1) := by decide +kernel
theorem dX11_readsNumber_74 : decode cX11_readsNumber 74 = .ok (.ireturn, 1) := by decide +kernel
abbrev rmX11_readsNumber : Room := { frames := 4, cells := 0, slots := 0, locals := 102 }
set_option maxHeartbeats 4000000 in
set_option maxRecDepth 100000 in
theorem metX11_readsNumber {l : Launch} {s0 : State} {b B : Nat} {D : va_G} {T : Nat → ClassId} (F : FX l s0 b D T B) {X : Nat → Prop} (hX : ∀ o, o < 12 → ¬ X (B + o)) {N : Nat} {μ : Mem} {a0 : Nat} {a1 : Int32} {r : Mem × Int32} (k0 : IsMo a0) (h : fX11_readsNumber N μ a0 a1 = some r) : gMet l yX11_readsNumber cX11_readsNumber 4 (some .int) rmX11_readsNumber [.ref (B + a0), .int a1] (gWM D T B μ) (KC s0 X) (some (.int r.2)) (gWM D T B r.1) (gA B X) 0 0 := by
  refine gI_of RX11 (by decide +kernel) rfl (Nat.le_of_ble_eq_true rfl) ?_
  intro p e s m args below meth c ls Q hx hb hlocks hml hown hts hW hk hl hS hend
  have hC := FX_C F hk hx hb hown hts
  have hA := gA_allM hX
  have hl : lv_has ls 4 [(0, .ref (B + a0)), (1, .int a1)] := hl
  unfold fX11_readsNumber at h
  refine lv_aload_n hx hb dX11_readsNumber_0 rfl (lv_at hl 0 rfl) ?_
  refine lv_aload_n hx hb dX11_readsNumber_1 rfl (lv_at hl 0 rfl) ?_
  refine gw_get (v := .int (μ a0 19)) hC hW fl_X11_259.1 k0.1 (k0.2.1 T B (μ a0)) rfl dX11_readsNumber_2 ?_
  obtain ⟨j2, hj4, h⟩ := jn1_o h
  have J3 : ∀ (y1 : Bool), j2 y1 = some r → ∀ (H : Heap) (locs : List Loc) (ls : Array Slot), gWM D T B μ H → va_S (gA B X) s.heap H locs → lv_has ls 4 [(0, .ref (B + a0)), (1, .int a1)] → W p l e rmX11_readsNumber s m args below meth c H locs 0 0 Q (F0 m 20 ls [.int (b2i y1), .ref (B + a0)]) := by
    clear h hW hS hl
    intro y1 h H locs ls hW hS hl
    replace h := (hj4 y1).symm.trans h
    obtain ⟨μ5, e6, h⟩ := lt_out h
    refine gq_put hC hS hW hA fl_X11_259 k0.1 (k0.2.1 T B) (Nat.le_of_ble_eq_true rfl) rfl (nar_b y1) (fit_b y1) e6 dX11_readsNumber_20 (fun H locs hW hS => ?_)
    refine lv_iconst (v := 0) hx hb dX11_readsNumber_23 (by decide) ?_
    refine lv_istore_n (lv' := [(2, .int 0), (0, .ref (B + a0)), (1, .int a1)]) hx hb dX11_readsNumber_24 rfl hl (by decide) rfl (fun ls hl => ?_)
    refine lv_iconst (v := 0) hx hb dX11_readsNumber_25 (by decide) ?_
    refine lv_istore_n (lv' := [(3, .int 0), (2, .int 0), (0, .ref (B + a0)), (1, .int a1)]) hx hb dX11_readsNumber_26 rfl hl (by decide) rfl (fun ls hl => ?_)
    refine fix3_ind (fun (x7 : Int32) (x8 : Int32) (μ9 : Mem) => ∀ (H : Heap) (locs : List Loc) (ls : Array Slot), gWM D T B μ9 H → va_S (gA B X) s.heap H locs → lv_has ls 4 [(0, .ref (B + a0)), (1, .int a1), (2, .int x7), (3, .int x8)] → W p l e rmX11_readsNumber s m args below meth c H locs 0 0 Q (F0 m 27 ls [])) ?_ N _ _ _ h _ _ _ hW hS (lv_sub hl [2, 3, 1, 0] rfl)
    clear h hW hS hl
    intro self10 IH11 x7 x8 μ9 h H locs ls hW hS hl
    refine lv_iload_n hx hb dX11_readsNumber_27 rfl (lv_at hl 3 rfl) ?_
    refine lv_iload_n hx hb dX11_readsNumber_28 rfl (lv_at hl 1 rfl) ?_
    obtain ⟨j13, hj15, h⟩ := jn1_o h
    have J14 : ∀ (u12 : Unit), j13 u12 = some r → ∀ (H : Heap) (locs : List Loc) (ls : Array Slot), gWM D T B μ9 H → va_S (gA B X) s.heap H locs → lv_has ls 4 [(2, .int x7)] → W p l e rmX11_readsNumber s m args below meth c H locs 0 0 Q (F0 m 73 ls []) := by
      clear h hW hS hl
      intro u12 h H locs ls hW hS hl
      replace h := (hj15 u12).symm.trans h
      refine lv_iload_n hx hb dX11_readsNumber_73 rfl (lv_at hl 0 rfl) ?_
      cases h
      exact hend dX11_readsNumber_74 hW hS (Nat.le_of_ble_eq_true rfl) (Nat.le_of_ble_eq_true rfl)
    refine lv_icmp_ge (tgt := 73) hx hb dX11_readsNumber_29 (by decide) (fun c16 => ?_) (fun c16 => ?_)
    · replace h := ite_t c16 h
      exact J14 _ h _ _ _ hW hS (lv_sub hl [2] rfl)
    · replace h := ite_f c16 h
      refine lv_aload_n hx hb dX11_readsNumber_32 rfl (lv_at hl 0 rfl) ?_
      obtain ⟨r17, hcall, h⟩ := bd_out h
      refine g0_callV (As := []) hC hml hS hW (KC_at hk hS F.2.2.2.2) KC_blind (metX11_isDigit F hX k0 hcall) ml_X11_284 (gw_recv hC hW k0.1 (k0.2.1 T B (μ9 a0)) rfl) ⟨rfl, rfl, Nat.le_of_ble_eq_true rfl, Nat.le_of_ble_eq_true rfl⟩ rfl hl.1 rfl (Nat.le_of_ble_eq_true rfl) dX11_readsNumber_33 ⟨Nat.le_of_ble_eq_true rfl, Nat.le_of_ble_eq_true rfl⟩ (fun H locs hW hS => ?_)
      refine gw_if_eqZ (tgt := 73) hx hb dX11_readsNumber_36 (by decide) (fun c18 => ?_) (fun c18 => ?_)
      · replace h := cond_f c18 h
        exact J14 _ h _ _ _ hW hS (lv_sub hl [2] rfl)
      · replace h := cond_t c18 h
        refine lv_bipush (v := 10) hx hb dX11_readsNumber_39 (by decide) ?_
        refine lv_iload_n hx hb dX11_readsNumber_41 rfl (lv_at hl 2 rfl) ?_
        refine lv_imul hx hb dX11_readsNumber_42 ?_
        refine lv_aload_n hx hb dX11_readsNumber_43 rfl (lv_at hl 0 rfl) ?_
        refine gw_get (v := .ref (B + (a0 + 10))) hC hW fl_X11_38 k0.1 (k0.2.1 T B (μ9 a0)) rfl dX11_readsNumber_44 ?_
        refine lv_aload_n hx hb dX11_readsNumber_47 rfl (lv_at hl 0 rfl) ?_
        refine gw_get (v := .int (μ9 a0 18)) hC hW fl_X11_252.1 k0.1 (k0.2.1 T B (μ9 a0)) rfl dX11_readsNumber_48 ?_
        obtain ⟨v19, e20, hi21, h⟩ := ag_o h
        refine gq_cald hC hW k0.2.2.2.2.2.2.2.2.2.2.2.1.1 (k0.2.2.2.2.2.2.2.2.2.2.2.1.2 T B (μ9 (a0 + 10))) (t0 := 2) rfl e20 hi21 dX11_readsNumber_51 ?_
        refine lv_iadd hx hb dX11_readsNumber_52 ?_
        refine lv_bipush (v := 48) hx hb dX11_readsNumber_53 (by decide) ?_
        refine lv_isub hx hb dX11_readsNumber_55 ?_
        obtain ⟨v22, e23, h⟩ := lt_out h
        rw [← e23]
        refine lv_istore_n (lv' := [(2, .int v22), (0, .ref (B + a0)), (1, .int a1), (3, .int x8)]) hx hb dX11_readsNumber_56 rfl hl (by decide) rfl (fun ls hl => ?_)
        refine lv_aload_n hx hb dX11_readsNumber_57 rfl (lv_at hl 1 rfl) ?_
        refine lv_dup hx hb dX11_readsNumber_58 rfl ?_
        refine gw_get (v := .int (μ9 a0 18)) hC hW fl_X11_252.1 k0.1 (k0.2.1 T B (μ9 a0)) rfl dX11_readsNumber_59 ?_
        refine lv_iconst (v := 1) hx hb dX11_readsNumber_62 (by decide) ?_
        refine lv_iadd hx hb dX11_readsNumber_63 ?_
        obtain ⟨μ24, e25, h⟩ := lt_out h
        refine gq_put hC hS hW hA fl_X11_252 k0.1 (k0.2.1 T B) (Nat.le_of_ble_eq_true rfl) rfl rfl rfl e25 dX11_readsNumber_64 (fun H locs hW hS => ?_)
        obtain ⟨v26, e27, h⟩ := lt_out h
        refine lv_iinc (v := v26) (lv' := [(3, .int v26), (2, .int v22), (0, .ref (B + a0)), (1, .int a1)]) hx hb dX11_readsNumber_67 hl (k := 3) rfl (by rw [e27]; rfl) (by decide) rfl (fun ls hl => ?_)
        refine lv_goto (tgt := 27) hx hb dX11_readsNumber_70 (by decide) ?_
        exact IH11 _ _ _ h _ _ _ hW hS (lv_sub hl [2, 3, 1, 0] rfl)
  obtain ⟨j29, hj31, h⟩ := jn1_o h
  have J30 : ∀ (u28 : Unit), j29 u28 = some r → ∀ (H : Heap) (locs : List Loc) (ls : Array Slot), gWM D T B μ H → va_S (gA B X) s.heap H locs → lv_has ls 4 [(0, .ref (B + a0)), (1, .int a1)] → W p l e rmX11_readsNumber s m args below meth c H locs 0 0 Q (F0 m 15 ls [.ref (B + a0)]) := by
    clear h hW hS hl
    intro u28 h H locs ls hW hS hl
    replace h := (hj31 u28).symm.trans h
    refine lv_iconst (v := 1) hx hb dX11_readsNumber_15 (by decide) ?_
    refine lv_goto (tgt := 20) hx hb dX11_readsNumber_16 (by decide) ?_
    exact J3 _ h _ _ _ hW hS (lv_sub hl [0, 1] rfl)
  refine lv_if_ne (tgt := 15) hx hb dX11_readsNumber_5 (by decide) (fun c32 => ?_) (fun c32 => ?_)
  · replace h := ite_f c32 h
    exact J30 _ h _ _ _ hW hS (lv_sub hl [0, 1] rfl)
  · replace h := ite_t c32 h
    refine lv_aload_n hx hb dX11_readsNumber_8 rfl (lv_at hl 0 rfl) ?_
    obtain ⟨r33, hcall, h⟩ := bd_out h
    refine g0_callV (As := []) hC hml hS hW (KC_at hk hS F.2.2.2.2) KC_blind (metX11_isDigit F hX k0 hcall) ml_X11_284 (gw_recv hC hW k0.1 (k0.2.1 T B (μ a0)) rfl) ⟨rfl, rfl, Nat.le_of_ble_eq_true rfl, Nat.le_of_ble_eq_true rfl⟩ rfl hl.1 rfl (Nat.le_of_ble_eq_true rfl) dX11_readsNumber_9 ⟨Nat.le_of_ble_eq_true rfl, Nat.le_of_ble_eq_true rfl⟩ (fun H locs hW hS => ?_)
    refine gw_if_neZ (tgt := 19) hx hb dX11_readsNumber_12 (by decide) (fun c34 => ?_) (fun c34 => ?_)
    · replace h := cond_t c34 h
      refine lv_iconst (v := 0) hx hb dX11_readsNumber_19 (by decide) ?_
      exact J3 _ h _ _ _ hW hS (lv_sub hl [0, 1] rfl)
    · replace h := cond_f c34 h
      exact J30 _ h _ _ _ hW hS (lv_sub hl [0, 1] rfl)

theorem dX11_does_0 : decode cX11_does 0 = .ok (.aload_n 0, 1) := by decide +kernel
theorem dX11_does_1 : decode cX11_does 1 = .ok (.getfield 48, 3) := by decide +kernel
theorem dX11_does_4 : decode cX11_does 4 = .ok (.iconst 5, 1) := by decide +kernel
theorem dX11_does_5 : decode cX11_does 5 = .ok (.iload_n 1, 1) := by decide +kernel
theorem dX11_does_6 : decode cX11_does 6 = .ok (.imul, 1) := by decide +kernel
theorem dX11_does_7 : decode cX11_does 7 = .ok (.iconst 1, 1) := by decide +kernel
theorem dX11_does_8 : decode cX11_does 8 = .ok (.iadd, 1) := by decide +kernel
theorem dX11_does_9 : decode cX11_does 9 = .ok (.iaload, 1) := by decide +kernel
theorem dX11_does_10 : decode cX11_does 10 = .ok (.istore_n 2, 1) := by decide +kernel
theorem dX11_does_11 : decode cX11_does 11 = .ok (.aload_n 0, 1) := by decide +kernel
theorem dX11_does_12 : decode cX11_does 12 = .ok (.getfield 48, 3) := by decide +kernel
theorem dX11_does_15 : decode cX11_does 15 = .ok (.iconst 5, 1) := by decide +kernel
theorem dX11_does_16 : decode cX11_does 16 = .ok (.iload_n 1, 1) := by decide +kernel
theorem dX11_does_17 : decode cX11_does 17 = .ok (.imul, 1) := by decide +kernel
theorem dX11_does_18 : decode cX11_does 18 = .ok (.iconst 2, 1) := by decide +kernel
theorem dX11_does_19 : decode cX11_does 19 = .ok (.iadd, 1) := by decide +kernel
theorem dX11_does_20 : decode cX11_does 20 = .ok (.iaload, 1) := by decide +kernel
theorem dX11_does_21 : decode cX11_does 21 = .ok (.istore_n 3, 1) := by decide +kernel
theorem dX11_does_22 : decode cX11_does 22 = .ok (.aload_n 0, 1) := by decide +kernel
theorem dX11_does_23 : decode cX11_does 23 = .ok (.getfield 48, 3) := by decide +kernel
theorem dX11_does_26 : decode cX11_does 26 = .ok (.iconst 5, 1) := by decide +kernel
theorem dX11_does_27 : decode cX11_does 27 = .ok (.iload_n 1, 1) := by decide +kernel
theorem dX11_does_28 : decode cX11_does 28 = .ok (.imul, 1) := by decide +kernel
theorem dX11_does_29 : decode cX11_does 29 = .ok (.iconst 3, 1) := by decide +kernel
theorem dX11_does_30 : decode cX11_does 30 = .ok (.iadd, 1) := by decide +kernel
theorem dX11_does_31 : decode cX11_does 31 = .ok (.iaload, 1) := by decide +kernel
theorem dX11_does_32 : decode cX11_does 32 = .ok (.istore 4, 2) := by decide +kernel
theorem dX11_does_34 : decode cX11_does 34 = .ok (.aload_n 0, 1) := by decide +kernel
theorem dX11_does_35 : decode cX11_does 35 = .ok (.getfield 48, 3) := by decide +kernel
theorem dX11_does_38 : decode cX11_does 38 = .ok (.iconst 5, 1) := by decide +kernel
theorem dX11_does_39 : decode cX11_does 39 = .ok (.iload_n 1, 1) := by decide +kernel
theorem dX11_does_40 : decode cX11_does 40 = .ok (.imul, 1) := by decide +kernel
theorem dX11_does_41 : decode cX11_does 41 = .ok (.iconst 4, 1) := by decide +kernel
theorem dX11_does_42 : decode cX11_does 42 = .ok (.iadd, 1) := by decide +kernel
theorem dX11_does_43 : decode cX11_does 43 = .ok (.iaload, 1) := by decide +kernel
theorem dX11_does_44 : decode cX11_does 44 = .ok (.istore 5, 2) := by decide +kernel
theorem dX11_does_46 : decode cX11_does 46 = .ok (.aload_n 0, 1) := by decide +kernel
theorem dX11_does_47 : decode cX11_does 47 = .ok (.getfield 48, 3) := by decide +kernel
theorem dX11_does_50 : decode cX11_does 50 = .ok (.iconst 5, 1) := by decide +kernel
theorem dX11_does_51 : decode cX11_does 51 = .ok (.iload_n 1, 1) := by decide +kernel
theorem dX11_does_52 : decode cX11_does 52 = .ok (.imul, 1) := by decide +kernel
theorem dX11_does_53 : decode cX11_does 53 = .ok (.iaload, 1) := by decide +kernel
theorem dX11_does_54 : decode cX11_does 54 = .ok (.tableswitch 196 97 121 #[161, 196, 196, 196, 196, 196, 196, 196, 196, 196, 196, 124, 196, 196, 196, 139, 196, 114, 150, 176, 196, 196, 196, 196, 186], 114) := by decide +kernel
theorem dX11_does_168 : decode cX11_does 168 = .ok (.aload_n 0, 1) := by decide +kernel
theorem dX11_does_169 : decode cX11_does 169 = .ok (.iload_n 2, 1) := by decide +kernel
theorem dX11_does_170 : decode cX11_does 170 = .ok (.invokevirtual 86, 3) := by decide +kernel
theorem dX11_does_173 : decode cX11_does 173 = .ok (.istore 6, 2) := by decide +kernel
theorem dX11_does_175 : decode cX11_does 175 = .ok (.goto 87, 3) := by decide +kernel
theorem dX11_does_178 : decode cX11_does 178 = .ok (.aload_n 0, 1) := by decide +kernel
theorem dX11_does_179 : decode cX11_does 179 = .ok (.iload_n 2, 1) := by decide +kernel
theorem dX11_does_180 : decode cX11_does 180 = .ok (.iload_n 3, 1) := by decide +kernel
theorem dX11_does_181 : decode cX11_does 181 = .ok (.iload 4, 2) := by decide +kernel
theorem dX11_does_183 : decode cX11_does 183 = .ok (.iload 5, 2) := by decide +kernel
theorem dX11_does_185 : decode cX11_does 185 = .ok (.invokevirtual 103, 3) := by decide +kernel
theorem dX11_does_188 : decode cX11_does 188 = .ok (.istore 6, 2) := by decide +kernel
theorem dX11_does_190 : decode cX11_does 190 = .ok (.goto 72, 3) := by decide +kernel
theorem dX11_does_193 : decode cX11_does 193 = .ok (.aload_n 0, 1) := by decide +kernel
theorem dX11_does_194 : decode cX11_does 194 = .ok (.iload_n 2, 1) := by decide +kernel
theorem dX11_does_195 : decode cX11_does 195 = .ok (.iload_n 3, 1) := by decide +kernel
theorem dX11_does_196 : decode cX11_does 196 = .ok (.invokevirtual 138, 3) := by decide +kernel
theorem dX11_does_199 : decode cX11_does 199 = .ok (.istore 6, 2) := by decide +kernel
theorem dX11_does_201 : decode cX11_does 201 = .ok (.goto 61, 3) := by decide +kernel
theorem dX11_does_204 : decode cX11_does 204 = .ok (.aload_n 0, 1) := by decide +kernel
theorem dX11_does_205 : decode cX11_does 205 = .ok (.iload_n 2, 1) := by decide +kernel
theorem dX11_does_206 : decode cX11_does 206 = .ok (.iload_n 3, 1) := by decide +kernel
theorem dX11_does_207 : decode cX11_does 207 = .ok (.invokevirtual 203, 3) := by decide +kernel
theorem dX11_does_210 : decode cX11_does 210 = .ok (.istore 6, 2) := by decide +kernel
theorem dX11_does_212 : decode cX11_does 212 = .ok (.goto 50, 3) := by decide +kernel
theorem dX11_does_215 : decode cX11_does 215 = .ok (.aload_n 0, 1) := by decide +kernel
theorem dX11_does_216 : decode cX11_does 216 = .ok (.iload_n 2, 1) := by decide +kernel
theorem dX11_does_217 : decode cX11_does 217 = .ok (.iload_n 3, 1) := by decide +kernel
theorem dX11_does_218 : decode cX11_does 218 = .ok (.iload 4, 2) := by decide +kernel
theorem dX11_does_220 : decode cX11_does 220 = .ok (.iload 5, 2) := by decide +kernel
theorem dX11_does_222 : decode cX11_does 222 = .ok (.invokevirtual 215, 3) := by decide +kernel
theorem dX11_does_225 : decode cX11_does 225 = .ok (.istore 6, 2) := by decide +kernel
theorem dX11_does_227 : decode cX11_does 227 = .ok (.goto 35, 3) := by decide +kernel
theorem dX11_does_230 : decode cX11_does 230 = .ok (.aload_n 0, 1) := by decide +kernel
theorem dX11_does_231 : decode cX11_does 231 = .ok (.iload_n 2, 1) := by decide +kernel
theorem dX11_does_232 : decode cX11_does 232 = .ok (.invokevirtual 234, 3) := by decide +kernel
theorem dX11_does_235 : decode cX11_does 235 = .ok (.istore 6, 2) := by decide +kernel
theorem dX11_does_237 : decode cX11_does 237 = .ok (.goto 25, 3) := by decide +kernel
theorem dX11_does_240 : decode cX11_does 240 = .ok (.aload_n 0, 1) := by decide +kernel
theorem dX11_does_241 : decode cX11_does 241 = .ok (.iload_n 2, 1) := by decide +kernel
theorem dX11_does_242 : decode cX11_does 242 = .ok (.invokevirtual 212, 3) := by decide +kernel
theorem dX11_does_245 : decode cX11_does 245 = .ok (.istore 6, 2) := by decide +kernel
theorem dX11_does_247 : decode cX11_does 247 = .ok (.goto 15, 3) := by decide +kernel
theorem dX11_does_250 : decode cX11_does 250 = .ok (.aload_n 0, 1) := by decide +kernel
theorem dX11_does_251 : decode cX11_does 251 = .ok (.iload_n 2, 1) := by decide +kernel
theorem dX11_does_252 : decode cX11_does 252 = .ok (.iload_n 3, 1) := by decide +kernel
theorem dX11_does_253 : decode cX11_does 253 = .ok (.iload 4, 2) := by decide +kernel
theorem dX11_does_255 : decode cX11_does 255 = .ok (.iload 5, 2) := by decide +kernel
theorem dX11_does_257 : decode cX11_does 257 = .ok (.invokevirtual 169, 3) := by decide +kernel
theorem dX11_does_260 : decode cX11_does 260 = .ok (.istore 6, 2) := by decide +kernel
theorem dX11_does_262 : decode cX11_does 262 = .ok (.return_, 1) := by decide +kernel
abbrev rmX11_does : Room := { frames := 7, cells := 0, slots := 0, locals := 182 }
set_option maxHeartbeats 4000000 in
set_option maxRecDepth 100000 in
theorem metX11_does {l : Launch} {s0 : State} {b B : Nat} {D : va_G} {T : Nat → ClassId} (F : FX l s0 b D T B) {X : Nat → Prop} (hX : ∀ o, o < 12 → ¬ X (B + o)) {N : Nat} {μ : Mem} {a0 : Nat} {a1 : Int32} {r : Mem} (k0 : IsMo a0) (h : fX11_does N μ a0 a1 = some r) : gMet l yX11_does cX11_does 7 none rmX11_does [.ref (B + a0), .int a1] (gWM D T B μ) (KC s0 X) none (gWM D T B r) (gA B X) 0 0 := by
  refine gV_of RX11 (by decide +kernel) rfl (Nat.le_of_ble_eq_true rfl) ?_
  intro p e s m args below meth c ls Q hx hb hlocks hml hown hts hW hk hl hS hend
  have hC := FX_C F hk hx hb hown hts
  have hA := gA_allM hX
  have hl : lv_has ls 7 [(0, .ref (B + a0)), (1, .int a1)] := hl
  unfold fX11_does at h
  refine lv_aload_n hx hb dX11_does_0 rfl (lv_at hl 0 rfl) ?_
  refine gw_get (v := .ref (B + (a0 + 11))) hC hW fl_X11_48 k0.1 (k0.2.1 T B (μ a0)) rfl dX11_does_1 ?_
  refine lv_iconst (v := 5) hx hb dX11_does_4 (by decide) ?_
  refine lv_iload_n hx hb dX11_does_5 rfl (lv_at hl 1 rfl) ?_
  refine lv_imul hx hb dX11_does_6 ?_
  refine lv_iconst (v := 1) hx hb dX11_does_7 (by decide) ?_
  refine lv_iadd hx hb dX11_does_8 ?_
  obtain ⟨v1, e2, hi3, h⟩ := ag_o h
  refine gq_iald hC hW k0.2.2.2.2.2.2.2.2.2.2.2.2.1 (k0.2.2.2.2.2.2.2.2.2.2.2.2.2 T B (μ (a0 + 11))) (t0 := 0) rfl e2 hi3 dX11_does_9 ?_
  refine lv_istore_n (lv' := [(2, .int v1), (0, .ref (B + a0)), (1, .int a1)]) hx hb dX11_does_10 rfl hl (by decide) rfl (fun ls hl => ?_)
  refine lv_aload_n hx hb dX11_does_11 rfl (lv_at hl 1 rfl) ?_
  refine gw_get (v := .ref (B + (a0 + 11))) hC hW fl_X11_48 k0.1 (k0.2.1 T B (μ a0)) rfl dX11_does_12 ?_
  refine lv_iconst (v := 5) hx hb dX11_does_15 (by decide) ?_
  refine lv_iload_n hx hb dX11_does_16 rfl (lv_at hl 2 rfl) ?_
  refine lv_imul hx hb dX11_does_17 ?_
  refine lv_iconst (v := 2) hx hb dX11_does_18 (by decide) ?_
  refine lv_iadd hx hb dX11_does_19 ?_
  obtain ⟨v4, e5, hi6, h⟩ := ag_o h
  refine gq_iald hC hW k0.2.2.2.2.2.2.2.2.2.2.2.2.1 (k0.2.2.2.2.2.2.2.2.2.2.2.2.2 T B (μ (a0 + 11))) (t0 := 0) rfl e5 hi6 dX11_does_20 ?_
  refine lv_istore_n (lv' := [(3, .int v4), (2, .int v1), (0, .ref (B + a0)), (1, .int a1)]) hx hb dX11_does_21 rfl hl (by decide) rfl (fun ls hl => ?_)
  refine lv_aload_n hx hb dX11_does_22 rfl (lv_at hl 2 rfl) ?_
  refine gw_get (v := .ref (B + (a0 + 11))) hC hW fl_X11_48 k0.1 (k0.2.1 T B (μ a0)) rfl dX11_does_23 ?_
  refine lv_iconst (v := 5) hx hb dX11_does_26 (by decide) ?_
  refine lv_iload_n hx hb dX11_does_27 rfl (lv_at hl 3 rfl) ?_
  refine lv_imul hx hb dX11_does_28 ?_
  refine lv_iconst (v := 3) hx hb dX11_does_29 (by decide) ?_
  refine lv_iadd hx hb dX11_does_30 ?_
  obtain ⟨v7, e8, hi9, h⟩ := ag_o h
  refine gq_iald hC hW k0.2.2.2.2.2.2.2.2.2.2.2.2.1 (k0.2.2.2.2.2.2.2.2.2.2.2.2.2 T B (μ (a0 + 11))) (t0 := 0) rfl e8 hi9 dX11_does_31 ?_
  refine lv_istore (lv' := [(4, .int v7), (3, .int v4), (2, .int v1), (0, .ref (B + a0)), (1, .int a1)]) hx hb dX11_does_32 hl (by decide) rfl (fun ls hl => ?_)
  refine lv_aload_n hx hb dX11_does_34 rfl (lv_at hl 3 rfl) ?_
  refine gw_get (v := .ref (B + (a0 + 11))) hC hW fl_X11_48 k0.1 (k0.2.1 T B (μ a0)) rfl dX11_does_35 ?_
  refine lv_iconst (v := 5) hx hb dX11_does_38 (by decide) ?_
  refine lv_iload_n hx hb dX11_does_39 rfl (lv_at hl 4 rfl) ?_
  refine lv_imul hx hb dX11_does_40 ?_
  refine lv_iconst (v := 4) hx hb dX11_does_41 (by decide) ?_
  refine lv_iadd hx hb dX11_does_42 ?_
  obtain ⟨v10, e11, hi12, h⟩ := ag_o h
  refine gq_iald hC hW k0.2.2.2.2.2.2.2.2.2.2.2.2.1 (k0.2.2.2.2.2.2.2.2.2.2.2.2.2 T B (μ (a0 + 11))) (t0 := 0) rfl e11 hi12 dX11_does_43 ?_
  refine lv_istore (lv' := [(5, .int v10), (4, .int v7), (3, .int v4), (2, .int v1), (0, .ref (B + a0)), (1, .int a1)]) hx hb dX11_does_44 hl (by decide) rfl (fun ls hl => ?_)
  refine lv_aload_n hx hb dX11_does_46 rfl (lv_at hl 4 rfl) ?_
  refine gw_get (v := .ref (B + (a0 + 11))) hC hW fl_X11_48 k0.1 (k0.2.1 T B (μ a0)) rfl dX11_does_47 ?_
  refine lv_iconst (v := 5) hx hb dX11_does_50 (by decide) ?_
  refine lv_iload_n hx hb dX11_does_51 rfl (lv_at hl 5 rfl) ?_
  refine lv_imul hx hb dX11_does_52 ?_
  obtain ⟨v13, e14, hi15, h⟩ := ag_o h
  refine gq_iald hC hW k0.2.2.2.2.2.2.2.2.2.2.2.2.1 (k0.2.2.2.2.2.2.2.2.2.2.2.2.2 T B (μ (a0 + 11))) (t0 := 0) rfl e14 hi15 dX11_does_53 ?_
  obtain ⟨j17, hj19, h⟩ := jn1_o h
  have J18 : ∀ (μ16 : Mem), j17 μ16 = some r → ∀ (H : Heap) (locs : List Loc) (ls : Array Slot), gWM D T B μ16 H → va_S (gA B X) s.heap H locs → lv_has ls 7 [] → W p l e rmX11_does s m args below meth c H locs 0 0 Q (F0 m 262 ls []) := by
    clear h hW hS hl
    intro μ16 h H locs ls hW hS hl
    replace h := (hj19 μ16).symm.trans h
    cases h
    exact hend dX11_does_262 hW hS (Nat.le_of_ble_eq_true rfl) (Nat.le_of_ble_eq_true rfl)
  obtain ⟨j21, hj23, h⟩ := jn1_o h
  have J22 : ∀ (u20 : Unit), j21 u20 = some r → ∀ (H : Heap) (locs : List Loc) (ls : Array Slot), gWM D T B μ H → va_S (gA B X) s.heap H locs → lv_has ls 7 [(0, .ref (B + a0)), (2, .int v1), (3, .int v4), (4, .int v7), (5, .int v10)] → W p l e rmX11_does s m args below meth c H locs 0 0 Q (F0 m 250 ls []) := by
    clear h hW hS hl
    intro u20 h H locs ls hW hS hl
    replace h := (hj23 u20).symm.trans h
    refine lv_aload_n hx hb dX11_does_250 rfl (lv_at hl 0 rfl) ?_
    refine lv_iload_n hx hb dX11_does_251 rfl (lv_at hl 1 rfl) ?_
    refine lv_iload_n hx hb dX11_does_252 rfl (lv_at hl 2 rfl) ?_
    refine lv_iload hx hb dX11_does_253 (lv_at hl 3 rfl) ?_
    refine lv_iload hx hb dX11_does_255 (lv_at hl 4 rfl) ?_
    obtain ⟨r24, hcall, h⟩ := bd_out h
    refine g0_callV (As := [.int v1, .int v4, .int v7, .int v10]) hC hml hS hW (KC_at hk hS F.2.2.2.2) KC_blind (metX11_doDrop F hX k0 hcall) ml_X11_169 (gw_recv hC hW k0.1 (k0.2.1 T B (μ a0)) rfl) ⟨rfl, rfl, Nat.le_of_ble_eq_true rfl, Nat.le_of_ble_eq_true rfl⟩ rfl hl.1 rfl (Nat.le_of_ble_eq_true rfl) dX11_does_257 ⟨Nat.le_of_ble_eq_true rfl, Nat.le_of_ble_eq_true rfl⟩ (fun H locs hW hS => ?_)
    refine lv_istore (lv' := [(6, .int r24.2), (0, .ref (B + a0)), (2, .int v1), (3, .int v4), (4, .int v7), (5, .int v10)]) hx hb dX11_does_260 hl (by decide) rfl (fun ls hl => ?_)
    exact J18 _ h _ _ _ hW hS (lv_sub hl [] rfl)
  by_cases c25 : v13 = 97
  · replace h := ite_t c25 h
    refine lv_tableIn (tgt := 215) (off := 161) hx hb dX11_does_54 (by rw [c25]; decide) (by rw [c25]; decide) (by rw [c25]; rfl) (by decide) ?_
    refine lv_aload_n hx hb dX11_does_215 rfl (lv_at hl 4 rfl) ?_
    refine lv_iload_n hx hb dX11_does_216 rfl (lv_at hl 3 rfl) ?_
    refine lv_iload_n hx hb dX11_does_217 rfl (lv_at hl 2 rfl) ?_
    refine lv_iload hx hb dX11_does_218 (lv_at hl 1 rfl) ?_
    refine lv_iload hx hb dX11_does_220 (lv_at hl 0 rfl) ?_
    obtain ⟨r26, hcall, h⟩ := bd_out h
    refine g0_callV (As := [.int v1, .int v4, .int v7, .int v10]) hC hml hS hW (KC_at hk hS F.2.2.2.2) KC_blind (metX11_doAsk F hX k0 hcall) ml_X11_215 (gw_recv hC hW k0.1 (k0.2.1 T B (μ a0)) rfl) ⟨rfl, rfl, Nat.le_of_ble_eq_true rfl, Nat.le_of_ble_eq_true rfl⟩ rfl hl.1 rfl (Nat.le_of_ble_eq_true rfl) dX11_does_222 ⟨Nat.le_of_ble_eq_true rfl, Nat.le_of_ble_eq_true rfl⟩ (fun H locs hW hS => ?_)
    refine lv_istore (lv' := [(6, .int r26.2), (5, .int v10), (4, .int v7), (3, .int v4), (2, .int v1), (0, .ref (B + a0)), (1, .int a1)]) hx hb dX11_does_225 hl (by decide) rfl (fun ls hl => ?_)
    refine lv_goto (tgt := 262) hx hb dX11_does_227 (by decide) ?_
    exact J18 _ h _ _ _ hW hS (lv_sub hl [] rfl)
  replace h := ite_f c25 h
  by_cases c27 : v13 = 98
  · replace h := ite_t c27 h
    refine lv_tableIn (tgt := 250) (off := 196) hx hb dX11_does_54 (by rw [c27]; decide) (by rw [c27]; decide) (by rw [c27]; rfl) (by decide) ?_
    exact J22 _ h _ _ _ hW hS (lv_sub hl [4, 3, 2, 1, 0] rfl)
  replace h := ite_f c27 h
  by_cases c28 : v13 = 99
  · replace h := ite_t c28 h
    refine lv_tableIn (tgt := 250) (off := 196) hx hb dX11_does_54 (by rw [c28]; decide) (by rw [c28]; decide) (by rw [c28]; rfl) (by decide) ?_
    exact J22 _ h _ _ _ hW hS (lv_sub hl [4, 3, 2, 1, 0] rfl)
  replace h := ite_f c28 h
  by_cases c29 : v13 = 100
  · replace h := ite_t c29 h
    refine lv_tableIn (tgt := 250) (off := 196) hx hb dX11_does_54 (by rw [c29]; decide) (by rw [c29]; decide) (by rw [c29]; rfl) (by decide) ?_
    exact J22 _ h _ _ _ hW hS (lv_sub hl [4, 3, 2, 1, 0] rfl)
  replace h := ite_f c29 h
  by_cases c30 : v13 = 101
  · replace h := ite_t c30 h
    refine lv_tableIn (tgt := 250) (off := 196) hx hb dX11_does_54 (by rw [c30]; decide) (by rw [c30]; decide) (by rw [c30]; rfl) (by decide) ?_
    exact J22 _ h _ _ _ hW hS (lv_sub hl [4, 3, 2, 1, 0] rfl)
  replace h := ite_f c30 h
  by_cases c31 : v13 = 102
  · replace h := ite_t c31 h
    refine lv_tableIn (tgt := 250) (off := 196) hx hb dX11_does_54 (by rw [c31]; decide) (by rw [c31]; decide) (by rw [c31]; rfl) (by decide) ?_
    exact J22 _ h _ _ _ hW hS (lv_sub hl [4, 3, 2, 1, 0] rfl)
  replace h := ite_f c31 h
  by_cases c32 : v13 = 103
  · replace h := ite_t c32 h
    refine lv_tableIn (tgt := 250) (off := 196) hx hb dX11_does_54 (by rw [c32]; decide) (by rw [c32]; decide) (by rw [c32]; rfl) (by decide) ?_
    exact J22 _ h _ _ _ hW hS (lv_sub hl [4, 3, 2, 1, 0] rfl)
  replace h := ite_f c32 h
  by_cases c33 : v13 = 104
  · replace h := ite_t c33 h
    refine lv_tableIn (tgt := 250) (off := 196) hx hb dX11_does_54 (by rw [c33]; decide) (by rw [c33]; decide) (by rw [c33]; rfl) (by decide) ?_
    exact J22 _ h _ _ _ hW hS (lv_sub hl [4, 3, 2, 1, 0] rfl)
  replace h := ite_f c33 h
  by_cases c34 : v13 = 105
  · replace h := ite_t c34 h
    refine lv_tableIn (tgt := 250) (off := 196) hx hb dX11_does_54 (by rw [c34]; decide) (by rw [c34]; decide) (by rw [c34]; rfl) (by decide) ?_
    exact J22 _ h _ _ _ hW hS (lv_sub hl [4, 3, 2, 1, 0] rfl)
  replace h := ite_f c34 h
  by_cases c35 : v13 = 106
  · replace h := ite_t c35 h
    refine lv_tableIn (tgt := 250) (off := 196) hx hb dX11_does_54 (by rw [c35]; decide) (by rw [c35]; decide) (by rw [c35]; rfl) (by decide) ?_
    exact J22 _ h _ _ _ hW hS (lv_sub hl [4, 3, 2, 1, 0] rfl)
  replace h := ite_f c35 h
  by_cases c36 : v13 = 107
  · replace h := ite_t c36 h
    refine lv_tableIn (tgt := 250) (off := 196) hx hb dX11_does_54 (by rw [c36]; decide) (by rw [c36]; decide) (by rw [c36]; rfl) (by decide) ?_
    exact J22 _ h _ _ _ hW hS (lv_sub hl [4, 3, 2, 1, 0] rfl)
  replace h := ite_f c36 h
  by_cases c37 : v13 = 108
  · replace h := ite_t c37 h
    refine lv_tableIn (tgt := 178) (off := 124) hx hb dX11_does_54 (by rw [c37]; decide) (by rw [c37]; decide) (by rw [c37]; rfl) (by decide) ?_
    refine lv_aload_n hx hb dX11_does_178 rfl (lv_at hl 4 rfl) ?_
    refine lv_iload_n hx hb dX11_does_179 rfl (lv_at hl 3 rfl) ?_
    refine lv_iload_n hx hb dX11_does_180 rfl (lv_at hl 2 rfl) ?_
    refine lv_iload hx hb dX11_does_181 (lv_at hl 1 rfl) ?_
    refine lv_iload hx hb dX11_does_183 (lv_at hl 0 rfl) ?_
    obtain ⟨r38, hcall, h⟩ := bd_out h
    refine g0_callV (As := [.int v1, .int v4, .int v7, .int v10]) hC hml hS hW (KC_at hk hS F.2.2.2.2) KC_blind (metX11_doSetLeg F hX k0 hcall) ml_X11_103 (gw_recv hC hW k0.1 (k0.2.1 T B (μ a0)) rfl) ⟨rfl, rfl, Nat.le_of_ble_eq_true rfl, Nat.le_of_ble_eq_true rfl⟩ rfl hl.1 rfl (Nat.le_of_ble_eq_true rfl) dX11_does_185 ⟨Nat.le_of_ble_eq_true rfl, Nat.le_of_ble_eq_true rfl⟩ (fun H locs hW hS => ?_)
    refine lv_istore (lv' := [(6, .int r38.2), (5, .int v10), (4, .int v7), (3, .int v4), (2, .int v1), (0, .ref (B + a0)), (1, .int a1)]) hx hb dX11_does_188 hl (by decide) rfl (fun ls hl => ?_)
    refine lv_goto (tgt := 262) hx hb dX11_does_190 (by decide) ?_
    exact J18 _ h _ _ _ hW hS (lv_sub hl [] rfl)
  replace h := ite_f c37 h
  by_cases c39 : v13 = 109
  · replace h := ite_t c39 h
    refine lv_tableIn (tgt := 250) (off := 196) hx hb dX11_does_54 (by rw [c39]; decide) (by rw [c39]; decide) (by rw [c39]; rfl) (by decide) ?_
    exact J22 _ h _ _ _ hW hS (lv_sub hl [4, 3, 2, 1, 0] rfl)
  replace h := ite_f c39 h
  by_cases c40 : v13 = 110
  · replace h := ite_t c40 h
    refine lv_tableIn (tgt := 250) (off := 196) hx hb dX11_does_54 (by rw [c40]; decide) (by rw [c40]; decide) (by rw [c40]; rfl) (by decide) ?_
    exact J22 _ h _ _ _ hW hS (lv_sub hl [4, 3, 2, 1, 0] rfl)
  replace h := ite_f c40 h
  by_cases c41 : v13 = 111
  · replace h := ite_t c41 h
    refine lv_tableIn (tgt := 250) (off := 196) hx hb dX11_does_54 (by rw [c41]; decide) (by rw [c41]; decide) (by rw [c41]; rfl) (by decide) ?_
    exact J22 _ h _ _ _ hW hS (lv_sub hl [4, 3, 2, 1, 0] rfl)
  replace h := ite_f c41 h
  by_cases c42 : v13 = 112
  · replace h := ite_t c42 h
    refine lv_tableIn (tgt := 193) (off := 139) hx hb dX11_does_54 (by rw [c42]; decide) (by rw [c42]; decide) (by rw [c42]; rfl) (by decide) ?_
    refine lv_aload_n hx hb dX11_does_193 rfl (lv_at hl 4 rfl) ?_
    refine lv_iload_n hx hb dX11_does_194 rfl (lv_at hl 3 rfl) ?_
    refine lv_iload_n hx hb dX11_does_195 rfl (lv_at hl 2 rfl) ?_
    obtain ⟨r43, hcall, h⟩ := bd_out h
    refine g0_callV (As := [.int v1, .int v4]) hC hml hS hW (KC_at hk hS F.2.2.2.2) KC_blind (metX11_doAddExhibit F hX k0 hcall) ml_X11_138 (gw_recv hC hW k0.1 (k0.2.1 T B (μ a0)) rfl) ⟨rfl, rfl, Nat.le_of_ble_eq_true rfl, Nat.le_of_ble_eq_true rfl⟩ rfl hl.1 rfl (Nat.le_of_ble_eq_true rfl) dX11_does_196 ⟨Nat.le_of_ble_eq_true rfl, Nat.le_of_ble_eq_true rfl⟩ (fun H locs hW hS => ?_)
    refine lv_istore (lv' := [(6, .int r43.2), (5, .int v10), (4, .int v7), (3, .int v4), (2, .int v1), (0, .ref (B + a0)), (1, .int a1)]) hx hb dX11_does_199 hl (by decide) rfl (fun ls hl => ?_)
    refine lv_goto (tgt := 262) hx hb dX11_does_201 (by decide) ?_
    exact J18 _ h _ _ _ hW hS (lv_sub hl [] rfl)
  replace h := ite_f c42 h
  by_cases c44 : v13 = 113
  · replace h := ite_t c44 h
    refine lv_tableIn (tgt := 250) (off := 196) hx hb dX11_does_54 (by rw [c44]; decide) (by rw [c44]; decide) (by rw [c44]; rfl) (by decide) ?_
    exact J22 _ h _ _ _ hW hS (lv_sub hl [4, 3, 2, 1, 0] rfl)
  replace h := ite_f c44 h
  by_cases c45 : v13 = 114
  · replace h := ite_t c45 h
    refine lv_tableIn (tgt := 168) (off := 114) hx hb dX11_does_54 (by rw [c45]; decide) (by rw [c45]; decide) (by rw [c45]; rfl) (by decide) ?_
    refine lv_aload_n hx hb dX11_does_168 rfl (lv_at hl 4 rfl) ?_
    refine lv_iload_n hx hb dX11_does_169 rfl (lv_at hl 3 rfl) ?_
    obtain ⟨r46, hcall, h⟩ := bd_out h
    refine g0_callV (As := [.int v1]) hC hml hS hW (KC_at hk hS F.2.2.2.2) KC_blind (metX11_doAddRoom F hX k0 hcall) ml_X11_86 (gw_recv hC hW k0.1 (k0.2.1 T B (μ a0)) rfl) ⟨rfl, rfl, Nat.le_of_ble_eq_true rfl, Nat.le_of_ble_eq_true rfl⟩ rfl hl.1 rfl (Nat.le_of_ble_eq_true rfl) dX11_does_170 ⟨Nat.le_of_ble_eq_true rfl, Nat.le_of_ble_eq_true rfl⟩ (fun H locs hW hS => ?_)
    refine lv_istore (lv' := [(6, .int r46.2), (5, .int v10), (4, .int v7), (3, .int v4), (2, .int v1), (0, .ref (B + a0)), (1, .int a1)]) hx hb dX11_does_173 hl (by decide) rfl (fun ls hl => ?_)
    refine lv_goto (tgt := 262) hx hb dX11_does_175 (by decide) ?_
    exact J18 _ h _ _ _ hW hS (lv_sub hl [] rfl)
  replace h := ite_f c45 h
  by_cases c47 : v13 = 115
  · replace h := ite_t c47 h
    refine lv_tableIn (tgt := 204) (off := 150) hx hb dX11_does_54 (by rw [c47]; decide) (by rw [c47]; decide) (by rw [c47]; rfl) (by decide) ?_
    refine lv_aload_n hx hb dX11_does_204 rfl (lv_at hl 4 rfl) ?_
    refine lv_iload_n hx hb dX11_does_205 rfl (lv_at hl 3 rfl) ?_
    refine lv_iload_n hx hb dX11_does_206 rfl (lv_at hl 2 rfl) ?_
    obtain ⟨r48, hcall, h⟩ := bd_out h
    refine g0_callV (As := [.int v1, .int v4]) hC hml hS hW (KC_at hk hS F.2.2.2.2) KC_blind (metX11_doSend F hX k0 hcall) ml_X11_203 (gw_recv hC hW k0.1 (k0.2.1 T B (μ a0)) rfl) ⟨rfl, rfl, Nat.le_of_ble_eq_true rfl, Nat.le_of_ble_eq_true rfl⟩ rfl hl.1 rfl (Nat.le_of_ble_eq_true rfl) dX11_does_207 ⟨Nat.le_of_ble_eq_true rfl, Nat.le_of_ble_eq_true rfl⟩ (fun H locs hW hS => ?_)
    refine lv_istore (lv' := [(6, .int r48.2), (5, .int v10), (4, .int v7), (3, .int v4), (2, .int v1), (0, .ref (B + a0)), (1, .int a1)]) hx hb dX11_does_210 hl (by decide) rfl (fun ls hl => ?_)
    refine lv_goto (tgt := 262) hx hb dX11_does_212 (by decide) ?_
    exact J18 _ h _ _ _ hW hS (lv_sub hl [] rfl)
  replace h := ite_f c47 h
  by_cases c49 : v13 = 116
  · replace h := ite_t c49 h
    refine lv_tableIn (tgt := 230) (off := 176) hx hb dX11_does_54 (by rw [c49]; decide) (by rw [c49]; decide) (by rw [c49]; rfl) (by decide) ?_
    refine lv_aload_n hx hb dX11_does_230 rfl (lv_at hl 4 rfl) ?_
    refine lv_iload_n hx hb dX11_does_231 rfl (lv_at hl 3 rfl) ?_
    obtain ⟨r50, hcall, h⟩ := bd_out h
    refine g0_callV (As := [.int v1]) hC hml hS hW (KC_at hk hS F.2.2.2.2) KC_blind (metX11_doTakeBest F hX k0 hcall) ml_X11_234 (gw_recv hC hW k0.1 (k0.2.1 T B (μ a0)) rfl) ⟨rfl, rfl, Nat.le_of_ble_eq_true rfl, Nat.le_of_ble_eq_true rfl⟩ rfl hl.1 rfl (Nat.le_of_ble_eq_true rfl) dX11_does_232 ⟨Nat.le_of_ble_eq_true rfl, Nat.le_of_ble_eq_true rfl⟩ (fun H locs hW hS => ?_)
    refine lv_istore (lv' := [(6, .int r50.2), (5, .int v10), (4, .int v7), (3, .int v4), (2, .int v1), (0, .ref (B + a0)), (1, .int a1)]) hx hb dX11_does_235 hl (by decide) rfl (fun ls hl => ?_)
    refine lv_goto (tgt := 262) hx hb dX11_does_237 (by decide) ?_
    exact J18 _ h _ _ _ hW hS (lv_sub hl [] rfl)
  replace h := ite_f c49 h
  by_cases c51 : v13 = 117
  · replace h := ite_t c51 h
    refine lv_tableIn (tgt := 250) (off := 196) hx hb dX11_does_54 (by rw [c51]; decide) (by rw [c51]; decide) (by rw [c51]; rfl) (by decide) ?_
    exact J22 _ h _ _ _ hW hS (lv_sub hl [4, 3, 2, 1, 0] rfl)
  replace h := ite_f c51 h
  by_cases c52 : v13 = 118
  · replace h := ite_t c52 h
    refine lv_tableIn (tgt := 250) (off := 196) hx hb dX11_does_54 (by rw [c52]; decide) (by rw [c52]; decide) (by rw [c52]; rfl) (by decide) ?_
    exact J22 _ h _ _ _ hW hS (lv_sub hl [4, 3, 2, 1, 0] rfl)
  replace h := ite_f c52 h
  by_cases c53 : v13 = 119
  · replace h := ite_t c53 h
    refine lv_tableIn (tgt := 250) (off := 196) hx hb dX11_does_54 (by rw [c53]; decide) (by rw [c53]; decide) (by rw [c53]; rfl) (by decide) ?_
    exact J22 _ h _ _ _ hW hS (lv_sub hl [4, 3, 2, 1, 0] rfl)
  replace h := ite_f c53 h
  by_cases c54 : v13 = 120
  · replace h := ite_t c54 h
    refine lv_tableIn (tgt := 250) (off := 196) hx hb dX11_does_54 (by rw [c54]; decide) (by rw [c54]; decide) (by rw [c54]; rfl) (by decide) ?_
    exact J22 _ h _ _ _ hW hS (lv_sub hl [4, 3, 2, 1, 0] rfl)
  replace h := ite_f c54 h
  by_cases c55 : v13 = 121
  · replace h := ite_t c55 h
    refine lv_tableIn (tgt := 240) (off := 186) hx hb dX11_does_54 (by rw [c55]; decide) (by rw [c55]; decide) (by rw [c55]; rfl) (by decide) ?_
    refine lv_aload_n hx hb dX11_does_240 rfl (lv_at hl 4 rfl) ?_
    refine lv_iload_n hx hb dX11_does_241 rfl (lv_at hl 3 rfl) ?_
    obtain ⟨r56, hcall, h⟩ := bd_out h
    refine g0_callV (As := [.int v1]) hC hml hS hW (KC_at hk hS F.2.2.2.2) KC_blind (metX11_doPassDays F hX k0 hcall) ml_X11_212 (gw_recv hC hW k0.1 (k0.2.1 T B (μ a0)) rfl) ⟨rfl, rfl, Nat.le_of_ble_eq_true rfl, Nat.le_of_ble_eq_true rfl⟩ rfl hl.1 rfl (Nat.le_of_ble_eq_true rfl) dX11_does_242 ⟨Nat.le_of_ble_eq_true rfl, Nat.le_of_ble_eq_true rfl⟩ (fun H locs hW hS => ?_)
    refine lv_istore (lv' := [(6, .int r56.2), (5, .int v10), (4, .int v7), (3, .int v4), (2, .int v1), (0, .ref (B + a0)), (1, .int a1)]) hx hb dX11_does_245 hl (by decide) rfl (fun ls hl => ?_)
    refine lv_goto (tgt := 262) hx hb dX11_does_247 (by decide) ?_
    exact J18 _ h _ _ _ hW hS (lv_sub hl [] rfl)
  replace h := ite_f c55 h
  refine lv_tableOut (tgt := 250) hx hb dX11_does_54 (sw_out (lo := 97) (hi := 121) (fun k h1 h2 => by rcases (show k = 97 ∨ k = 98 ∨ k = 99 ∨ k = 100 ∨ k = 101 ∨ k = 102 ∨ k = 103 ∨ k = 104 ∨ k = 105 ∨ k = 106 ∨ k = 107 ∨ k = 108 ∨ k = 109 ∨ k = 110 ∨ k = 111 ∨ k = 112 ∨ k = 113 ∨ k = 114 ∨ k = 115 ∨ k = 116 ∨ k = 117 ∨ k = 118 ∨ k = 119 ∨ k = 120 ∨ k = 121 by omega) with rfl | rfl | rfl | rfl | rfl | rfl | rfl | rfl | rfl | rfl | rfl | rfl | rfl | rfl | rfl | rfl | rfl | rfl | rfl | rfl | rfl | rfl | rfl | rfl | rfl <;> assumption)) (by decide) ?_
  exact J22 _ h _ _ _ hW hS (lv_sub hl [4, 3, 2, 1, 0] rfl)

theorem dX11_errorPosition_0 : decode cX11_errorPosition 0 = .ok (.aload_n 0, 1) := by decide +kernel
theorem dX11_errorPosition_1 : decode cX11_errorPosition 1 = .ok (.aload_n 0, 1) := by decide +kernel
theorem dX11_errorPosition_2 : decode cX11_errorPosition 2 = .ok (.getfield 41, 3) := by decide +kernel
theorem dX11_errorPosition_5 : decode cX11_errorPosition 5 = .ok (.ifCond .lt 7, 3) := by decide +kernel
theorem dX11_errorPosition_8 : decode cX11_errorPosition 8 = .ok (.iconst 1, 1) := by decide +kernel
theorem dX11_errorPosition_9 : decode cX11_errorPosition 9 = .ok (.goto 4, 3) := by decide +kernel
theorem dX11_errorPosition_12 : decode cX11_errorPosition 12 = .ok (.iconst 0, 1) := by decide +kernel
theorem dX11_errorPosition_13 : decode cX11_errorPosition 13 = .ok (.invokevirtual 113, 3) := by decide +kernel
theorem dX11_errorPosition_16 : decode cX11_errorPosition 16 = .ok (.ifCond .eq 10, 3) := by decide +kernel
theorem dX11_errorPosition_19 : decode cX11_errorPosition 19 = .ok (.aload_n 0, 1) := by decide +kernel
theorem dX11_errorPosition_20 : decode cX11_errorPosition 20 = .ok (.getfield 41, 3) := by decide +kernel
theorem dX11_errorPosition_23 : decode cX11_errorPosition 23 = .ok (.goto 4, 3) := by decide +kernel
theorem dX11_errorPosition_26 : decode cX11_errorPosition 26 = .ok (.iconst 0, 1) := by decide +kernel
theorem dX11_errorPosition_27 : decode cX11_errorPosition 27 = .ok (.ireturn, 1) := by decide +kernel
abbrev rmX11_errorPosition : Room := { frames := 3, cells := 0, slots := 0, locals := 81 }
set_option maxHeartbeats 4000000 in
set_option maxRecDepth 100000 in
theorem metX11_errorPosition {l : Launch} {s0 : State} {b B : Nat} {D : va_G} {T : Nat → ClassId} (F : FX l s0 b D T B) {X : Nat → Prop} (hX : ∀ o, o < 12 → ¬ X (B + o)) {N : Nat} {μ : Mem} {a0 : Nat} {r : Mem × Int32} (k0 : IsMo a0) (h : fX11_errorPosition N μ a0 = some r) : gMet l yX11_errorPosition cX11_errorPosition 1 (some .int) rmX11_errorPosition [.ref (B + a0)] (gWM D T B μ) (KC s0 X) (some (.int r.2)) (gWM D T B r.1) (gA B X) 0 0 := by
  refine gI_of RX11 (by decide +kernel) rfl (Nat.le_of_ble_eq_true rfl) ?_
  intro p e s m args below meth c ls Q hx hb hlocks hml hown hts hW hk hl hS hend
  have hC := FX_C F hk hx hb hown hts
  have hA := gA_allM hX
  have hl : lv_has ls 1 [(0, .ref (B + a0))] := hl
  unfold fX11_errorPosition at h
  refine lv_aload_n hx hb dX11_errorPosition_0 rfl (lv_at hl 0 rfl) ?_
  refine lv_aload_n hx hb dX11_errorPosition_1 rfl (lv_at hl 0 rfl) ?_
  refine gw_get (v := .int (μ a0 20)) hC hW fl_X11_41.1 k0.1 (k0.2.1 T B (μ a0)) rfl dX11_errorPosition_2 ?_
  obtain ⟨j2, hj4, h⟩ := jn1_o h
  have J3 : ∀ (y1 : Bool), j2 y1 = some r → ∀ (H : Heap) (locs : List Loc) (ls : Array Slot), gWM D T B μ H → va_S (gA B X) s.heap H locs → lv_has ls 1 [(0, .ref (B + a0))] → W p l e rmX11_errorPosition s m args below meth c H locs 0 0 Q (F0 m 13 ls [.int (b2i y1), .ref (B + a0)]) := by
    clear h hW hS hl
    intro y1 h H locs ls hW hS hl
    replace h := (hj4 y1).symm.trans h
    obtain ⟨r5, hcall, h⟩ := bd_out h
    refine g0_callV (As := [.int (b2i y1)]) hC hml hS hW (KC_at hk hS F.2.2.2.2) KC_blind (metX11_isThere F hX k0 hcall) ml_X11_113 (gw_recv hC hW k0.1 (k0.2.1 T B (μ a0)) rfl) ⟨rfl, rfl, Nat.le_of_ble_eq_true rfl, Nat.le_of_ble_eq_true rfl⟩ rfl hl.1 rfl (Nat.le_of_ble_eq_true rfl) dX11_errorPosition_13 ⟨Nat.le_of_ble_eq_true rfl, Nat.le_of_ble_eq_true rfl⟩ (fun H locs hW hS => ?_)
    obtain ⟨j7, hj9, h⟩ := jn1_o h
    have J8 : ∀ (y6 : Int32), j7 y6 = some r → ∀ (H : Heap) (locs : List Loc) (ls : Array Slot), gWM D T B r5.1 H → va_S (gA B X) s.heap H locs → lv_has ls 1 [] → W p l e rmX11_errorPosition s m args below meth c H locs 0 0 Q (F0 m 27 ls [.int y6]) := by
      clear h hW hS hl
      intro y6 h H locs ls hW hS hl
      replace h := (hj9 y6).symm.trans h
      cases h
      exact hend dX11_errorPosition_27 hW hS (Nat.le_of_ble_eq_true rfl) (Nat.le_of_ble_eq_true rfl)
    refine gw_if_eqZ (tgt := 26) hx hb dX11_errorPosition_16 (by decide) (fun c10 => ?_) (fun c10 => ?_)
    · replace h := cond_f c10 h
      refine lv_iconst (v := 0) hx hb dX11_errorPosition_26 (by decide) ?_
      exact J8 _ h _ _ _ hW hS (lv_sub hl [] rfl)
    · replace h := cond_t c10 h
      refine lv_aload_n hx hb dX11_errorPosition_19 rfl (lv_at hl 0 rfl) ?_
      refine gw_get (v := .int (r5.1 a0 20)) hC hW fl_X11_41.1 k0.1 (k0.2.1 T B (r5.1 a0)) rfl dX11_errorPosition_20 ?_
      refine lv_goto (tgt := 27) hx hb dX11_errorPosition_23 (by decide) ?_
      exact J8 _ h _ _ _ hW hS (lv_sub hl [] rfl)
  refine lv_if_lt (tgt := 12) hx hb dX11_errorPosition_5 (by decide) (fun c11 => ?_) (fun c11 => ?_)
  · replace h := ite_t c11 h
    refine lv_iconst (v := 0) hx hb dX11_errorPosition_12 (by decide) ?_
    exact J3 _ h _ _ _ hW hS (lv_sub hl [0] rfl)
  · replace h := ite_f c11 h
    refine lv_iconst (v := 1) hx hb dX11_errorPosition_8 (by decide) ?_
    refine lv_goto (tgt := 13) hx hb dX11_errorPosition_9 (by decide) ?_
    exact J3 _ h _ _ _ hW hS (lv_sub hl [0] rfl)

theorem dX11_failedCommand_0 : decode cX11_failedCommand 0 = .ok (.aload_n 0, 1) := by decide +kernel
theorem dX11_failedCommand_1 : decode cX11_failedCommand 1 = .ok (.aload_n 0, 1) := by decide +kernel
theorem dX11_failedCommand_2 : decode cX11_failedCommand 2 = .ok (.getfield 45, 3) := by decide +kernel
theorem dX11_failedCommand_5 : decode cX11_failedCommand 5 = .ok (.ifCond .lt 7, 3) := by decide +kernel
theorem dX11_failedCommand_8 : decode cX11_failedCommand 8 = .ok (.iconst 1, 1) := by decide +kernel
theorem dX11_failedCommand_9 : decode cX11_failedCommand 9 = .ok (.goto 4, 3) := by decide +kernel
theorem dX11_failedCommand_12 : decode cX11_failedCommand 12 = .ok (.iconst 0, 1) := by decide +kernel
theorem dX11_failedCommand_13 : decode cX11_failedCommand 13 = .ok (.invokevirtual 113, 3) := by decide +kernel
theorem dX11_failedCommand_16 : decode cX11_failedCommand 16 = .ok (.ifCond .eq 10, 3) := by decide +kernel
theorem dX11_failedCommand_19 : decode cX11_failedCommand 19 = .ok (.aload_n 0, 1) := by decide +kernel
theorem dX11_failedCommand_20 : decode cX11_failedCommand 20 = .ok (.getfield 45, 3) := by decide +kernel
theorem dX11_failedCommand_23 : decode cX11_failedCommand 23 = .ok (.goto 4, 3) := by decide +kernel
theorem dX11_failedCommand_26 : decode cX11_failedCommand 26 = .ok (.iconst 0, 1) := by decide +kernel
theorem dX11_failedCommand_27 : decode cX11_failedCommand 27 = .ok (.ireturn, 1) := by decide +kernel
abbrev rmX11_failedCommand : Room := { frames := 3, cells := 0, slots := 0, locals := 81 }
set_option maxHeartbeats 4000000 in
set_option maxRecDepth 100000 in
theorem metX11_failedCommand {l : Launch} {s0 : State} {b B : Nat} {D : va_G} {T : Nat → ClassId} (F : FX l s0 b D T B) {X : Nat → Prop} (hX : ∀ o, o < 12 → ¬ X (B + o)) {N : Nat} {μ : Mem} {a0 : Nat} {r : Mem × Int32} (k0 : IsMo a0) (h : fX11_failedCommand N μ a0 = some r) : gMet l yX11_failedCommand cX11_failedCommand 1 (some .int) rmX11_failedCommand [.ref (B + a0)] (gWM D T B μ) (KC s0 X) (some (.int r.2)) (gWM D T B r.1) (gA B X) 0 0 := by
  refine gI_of RX11 (by decide +kernel) rfl (Nat.le_of_ble_eq_true rfl) ?_
  intro p e s m args below meth c ls Q hx hb hlocks hml hown hts hW hk hl hS hend
  have hC := FX_C F hk hx hb hown hts
  have hA := gA_allM hX
  have hl : lv_has ls 1 [(0, .ref (B + a0))] := hl
  unfold fX11_failedCommand at h
  refine lv_aload_n hx hb dX11_failedCommand_0 rfl (lv_at hl 0 rfl) ?_
  refine lv_aload_n hx hb dX11_failedCommand_1 rfl (lv_at hl 0 rfl) ?_
  refine gw_get (v := .int (μ a0 21)) hC hW fl_X11_45.1 k0.1 (k0.2.1 T B (μ a0)) rfl dX11_failedCommand_2 ?_
  obtain ⟨j2, hj4, h⟩ := jn1_o h
  have J3 : ∀ (y1 : Bool), j2 y1 = some r → ∀ (H : Heap) (locs : List Loc) (ls : Array Slot), gWM D T B μ H → va_S (gA B X) s.heap H locs → lv_has ls 1 [(0, .ref (B + a0))] → W p l e rmX11_failedCommand s m args below meth c H locs 0 0 Q (F0 m 13 ls [.int (b2i y1), .ref (B + a0)]) := by
    clear h hW hS hl
    intro y1 h H locs ls hW hS hl
    replace h := (hj4 y1).symm.trans h
    obtain ⟨r5, hcall, h⟩ := bd_out h
    refine g0_callV (As := [.int (b2i y1)]) hC hml hS hW (KC_at hk hS F.2.2.2.2) KC_blind (metX11_isThere F hX k0 hcall) ml_X11_113 (gw_recv hC hW k0.1 (k0.2.1 T B (μ a0)) rfl) ⟨rfl, rfl, Nat.le_of_ble_eq_true rfl, Nat.le_of_ble_eq_true rfl⟩ rfl hl.1 rfl (Nat.le_of_ble_eq_true rfl) dX11_failedCommand_13 ⟨Nat.le_of_ble_eq_true rfl, Nat.le_of_ble_eq_true rfl⟩ (fun H locs hW hS => ?_)
    obtain ⟨j7, hj9, h⟩ := jn1_o h
    have J8 : ∀ (y6 : Int32), j7 y6 = some r → ∀ (H : Heap) (locs : List Loc) (ls : Array Slot), gWM D T B r5.1 H → va_S (gA B X) s.heap H locs → lv_has ls 1 [] → W p l e rmX11_failedCommand s m args below meth c H locs 0 0 Q (F0 m 27 ls [.int y6]) := by
      clear h hW hS hl
      intro y6 h H locs ls hW hS hl
      replace h := (hj9 y6).symm.trans h
      cases h
      exact hend dX11_failedCommand_27 hW hS (Nat.le_of_ble_eq_true rfl) (Nat.le_of_ble_eq_true rfl)
    refine gw_if_eqZ (tgt := 26) hx hb dX11_failedCommand_16 (by decide) (fun c10 => ?_) (fun c10 => ?_)
    · replace h := cond_f c10 h
      refine lv_iconst (v := 0) hx hb dX11_failedCommand_26 (by decide) ?_
      exact J8 _ h _ _ _ hW hS (lv_sub hl [] rfl)
    · replace h := cond_t c10 h
      refine lv_aload_n hx hb dX11_failedCommand_19 rfl (lv_at hl 0 rfl) ?_
      refine gw_get (v := .int (r5.1 a0 21)) hC hW fl_X11_45.1 k0.1 (k0.2.1 T B (r5.1 a0)) rfl dX11_failedCommand_20 ?_
      refine lv_goto (tgt := 27) hx hb dX11_failedCommand_23 (by decide) ?_
      exact J8 _ h _ _ _ hW hS (lv_sub hl [] rfl)
  refine lv_if_lt (tgt := 12) hx hb dX11_failedCommand_5 (by decide) (fun c11 => ?_) (fun c11 => ?_)
  · replace h := ite_t c11 h
    refine lv_iconst (v := 0) hx hb dX11_failedCommand_12 (by decide) ?_
    exact J3 _ h _ _ _ hW hS (lv_sub hl [0] rfl)
  · replace h := ite_f c11 h
    refine lv_iconst (v := 1) hx hb dX11_failedCommand_8 (by decide) ?_
    refine lv_goto (tgt := 13) hx hb dX11_failedCommand_9 (by decide) ?_
    exact J3 _ h _ _ _ hW hS (lv_sub hl [0] rfl)

theorem dX11_undo_0 : decode cX11_undo 0 = .ok (.aload_n 0, 1) := by decide +kernel
theorem dX11_undo_1 : decode cX11_undo 1 = .ok (.aload_n 0, 1) := by decide +kernel
theorem dX11_undo_2 : decode cX11_undo 2 = .ok (.getfield 60, 3) := by decide +kernel
theorem dX11_undo_5 : decode cX11_undo 5 = .ok (.ifCond .ne 7, 3) := by decide +kernel
theorem dX11_undo_8 : decode cX11_undo 8 = .ok (.iconst 1, 1) := by decide +kernel
theorem dX11_undo_9 : decode cX11_undo 9 = .ok (.goto 4, 3) := by decide +kernel
theorem dX11_undo_12 : decode cX11_undo 12 = .ok (.iconst 0, 1) := by decide +kernel
theorem dX11_undo_13 : decode cX11_undo 13 = .ok (.putfield 51, 3) := by decide +kernel
theorem dX11_undo_16 : decode cX11_undo 16 = .ok (.aload_n 0, 1) := by decide +kernel
theorem dX11_undo_17 : decode cX11_undo 17 = .ok (.getfield 51, 3) := by decide +kernel
theorem dX11_undo_20 : decode cX11_undo 20 = .ok (.ifCond .le 5, 3) := by decide +kernel
theorem dX11_undo_23 : decode cX11_undo 23 = .ok (.iconst 0, 1) := by decide +kernel
theorem dX11_undo_24 : decode cX11_undo 24 = .ok (.ireturn, 1) := by decide +kernel
theorem dX11_undo_25 : decode cX11_undo 25 = .ok (.aload_n 0, 1) := by decide +kernel
theorem dX11_undo_26 : decode cX11_undo 26 = .ok (.dup, 1) := by decide +kernel
theorem dX11_undo_27 : decode cX11_undo 27 = .ok (.getfield 60, 3) := by decide +kernel
theorem dX11_undo_30 : decode cX11_undo 30 = .ok (.iconst 1, 1) := by decide +kernel
theorem dX11_undo_31 : decode cX11_undo 31 = .ok (.isub, 1) := by decide +kernel
theorem dX11_undo_32 : decode cX11_undo 32 = .ok (.putfield 60, 3) := by decide +kernel
theorem dX11_undo_35 : decode cX11_undo 35 = .ok (.aload_n 0, 1) := by decide +kernel
theorem dX11_undo_36 : decode cX11_undo 36 = .ok (.getfield 19, 3) := by decide +kernel
theorem dX11_undo_39 : decode cX11_undo 39 = .ok (.sipush 817, 3) := by decide +kernel
theorem dX11_undo_42 : decode cX11_undo 42 = .ok (.aload_n 0, 1) := by decide +kernel
theorem dX11_undo_43 : decode cX11_undo 43 = .ok (.getfield 60, 3) := by decide +kernel
theorem dX11_undo_46 : decode cX11_undo 46 = .ok (.imul, 1) := by decide +kernel
theorem dX11_undo_47 : decode cX11_undo 47 = .ok (.aload_n 0, 1) := by decide +kernel
theorem dX11_undo_48 : decode cX11_undo 48 = .ok (.getfield 9, 3) := by decide +kernel
theorem dX11_undo_51 : decode cX11_undo 51 = .ok (.iconst 0, 1) := by decide +kernel
theorem dX11_undo_52 : decode cX11_undo 52 = .ok (.sipush 817, 3) := by decide +kernel
theorem dX11_undo_55 : decode cX11_undo 55 = .ok (.invokestatic 54, 3) := by decide +kernel
theorem dX11_undo_58 : decode cX11_undo 58 = .ok (.aload_n 0, 1) := by decide +kernel
theorem dX11_undo_59 : decode cX11_undo 59 = .ok (.getfield 60, 3) := by decide +kernel
theorem dX11_undo_62 : decode cX11_undo 62 = .ok (.ireturn, 1) := by decide +kernel
abbrev rmX11_undo : Room := { frames := 2, cells := 0, slots := 0, locals := 60 }
set_option maxHeartbeats 4000000 in
set_option maxRecDepth 100000 in
theorem metX11_undo {l : Launch} {s0 : State} {b B : Nat} {D : va_G} {T : Nat → ClassId} (F : FX l s0 b D T B) {X : Nat → Prop} (hX : ∀ o, o < 12 → ¬ X (B + o)) {N : Nat} {μ : Mem} {a0 : Nat} {r : Mem × Int32} (k0 : IsMo a0) (h : fX11_undo N μ a0 = some r) : gMet l yX11_undo cX11_undo 1 (some .int) rmX11_undo [.ref (B + a0)] (gWM D T B μ) (KC s0 X) (some (.int r.2)) (gWM D T B r.1) (gA B X) 0 0 := by
  refine gI_of RX11 (by decide +kernel) rfl (Nat.le_of_ble_eq_true rfl) ?_
  intro p e s m args below meth c ls Q hx hb hlocks hml hown hts hW hk hl hS hend
  have hC := FX_C F hk hx hb hown hts
  have hA := gA_allM hX
  have hl : lv_has ls 1 [(0, .ref (B + a0))] := hl
  unfold fX11_undo at h
  refine lv_aload_n hx hb dX11_undo_0 rfl (lv_at hl 0 rfl) ?_
  refine lv_aload_n hx hb dX11_undo_1 rfl (lv_at hl 0 rfl) ?_
  refine gw_get (v := .int (μ a0 5)) hC hW fl_X11_60.1 k0.1 (k0.2.1 T B (μ a0)) rfl dX11_undo_2 ?_
  obtain ⟨j2, hj4, h⟩ := jn1_o h
  have J3 : ∀ (y1 : Bool), j2 y1 = some r → ∀ (H : Heap) (locs : List Loc) (ls : Array Slot), gWM D T B μ H → va_S (gA B X) s.heap H locs → lv_has ls 1 [(0, .ref (B + a0))] → W p l e rmX11_undo s m args below meth c H locs 0 0 Q (F0 m 13 ls [.int (b2i y1), .ref (B + a0)]) := by
    clear h hW hS hl
    intro y1 h H locs ls hW hS hl
    replace h := (hj4 y1).symm.trans h
    obtain ⟨μ5, e6, h⟩ := lt_out h
    refine gq_put hC hS hW hA fl_X11_51 k0.1 (k0.2.1 T B) (Nat.le_of_ble_eq_true rfl) rfl rfl rfl e6 dX11_undo_13 (fun H locs hW hS => ?_)
    refine lv_aload_n hx hb dX11_undo_16 rfl (lv_at hl 0 rfl) ?_
    refine gw_get (v := .int (μ5 a0 6)) hC hW fl_X11_51.1 k0.1 (k0.2.1 T B (μ5 a0)) rfl dX11_undo_17 ?_
    refine lv_if_le (tgt := 25) hx hb dX11_undo_20 (by decide) (fun c7 => ?_) (fun c7 => ?_)
    · replace h := ite_t c7 h
      refine lv_aload_n hx hb dX11_undo_25 rfl (lv_at hl 0 rfl) ?_
      refine lv_dup hx hb dX11_undo_26 rfl ?_
      refine gw_get (v := .int (μ5 a0 5)) hC hW fl_X11_60.1 k0.1 (k0.2.1 T B (μ5 a0)) rfl dX11_undo_27 ?_
      refine lv_iconst (v := 1) hx hb dX11_undo_30 (by decide) ?_
      refine lv_isub hx hb dX11_undo_31 ?_
      obtain ⟨μ8, e9, h⟩ := lt_out h
      refine gq_put hC hS hW hA fl_X11_60 k0.1 (k0.2.1 T B) (Nat.le_of_ble_eq_true rfl) rfl rfl rfl e9 dX11_undo_32 (fun H locs hW hS => ?_)
      refine lv_aload_n hx hb dX11_undo_35 rfl (lv_at hl 0 rfl) ?_
      refine gw_get (v := .ref (B + (a0 + 4))) hC hW fl_X11_19 k0.1 (k0.2.1 T B (μ8 a0)) rfl dX11_undo_36 ?_
      refine lv_sipush (v := 817) hx hb dX11_undo_39 (by decide) ?_
      refine lv_aload_n hx hb dX11_undo_42 rfl (lv_at hl 0 rfl) ?_
      refine gw_get (v := .int (μ8 a0 5)) hC hW fl_X11_60.1 k0.1 (k0.2.1 T B (μ8 a0)) rfl dX11_undo_43 ?_
      refine lv_imul hx hb dX11_undo_46 ?_
      refine lv_aload_n hx hb dX11_undo_47 rfl (lv_at hl 0 rfl) ?_
      refine gw_get (v := .ref (B + (a0 + 1))) hC hW fl_X11_9 k0.1 (k0.2.1 T B (μ8 a0)) rfl dX11_undo_48 ?_
      refine lv_iconst (v := 0) hx hb dX11_undo_51 (by decide) ?_
      refine lv_sipush (v := 817) hx hb dX11_undo_52 (by decide) ?_
      obtain ⟨μ10, e11, hc12, h⟩ := acp_o h
      refine gw_copy hC (hml.trans hl.1.symm) lm_X11_54 lb_copy.1 lb_copy.2.1 lb_copy.2.2 hS hW hA k0.2.2.2.2.2.1.1 k0.2.2.1.1 (k0.2.2.2.2.2.1.2 T B) (k0.2.2.1.2 T B) (t0 := 0) rfl e11 hc12 (Nat.le_of_ble_eq_true rfl) (Nat.le_of_ble_eq_true rfl) dX11_undo_55 (fun H locs hW hS => ?_)
      refine lv_aload_n hx hb dX11_undo_58 rfl (lv_at hl 0 rfl) ?_
      refine gw_get (v := .int (μ10 a0 5)) hC hW fl_X11_60.1 k0.1 (k0.2.1 T B (μ10 a0)) rfl dX11_undo_59 ?_
      cases h
      exact hend dX11_undo_62 hW hS (Nat.le_of_ble_eq_true rfl) (Nat.le_of_ble_eq_true rfl)
    · replace h := ite_f c7 h
      refine lv_iconst (v := 0) hx hb dX11_undo_23 (by decide) ?_
      cases h
      exact hend dX11_undo_24 hW hS (Nat.le_of_ble_eq_true rfl) (Nat.le_of_ble_eq_true rfl)
  refine lv_if_ne (tgt := 12) hx hb dX11_undo_5 (by decide) (fun c13 => ?_) (fun c13 => ?_)
  · replace h := ite_f c13 h
    refine lv_iconst (v := 0) hx hb dX11_undo_12 (by decide) ?_
    exact J3 _ h _ _ _ hW hS (lv_sub hl [0] rfl)
  · replace h := ite_t c13 h
    refine lv_iconst (v := 1) hx hb dX11_undo_8 (by decide) ?_
    refine lv_goto (tgt := 13) hx hb dX11_undo_9 (by decide) ?_
    exact J3 _ h _ _ _ hW hS (lv_sub hl [0] rfl)

theorem dX11_undoCount_0 : decode cX11_undoCount 0 = .ok (.aload_n 0, 1) := by decide +kernel
theorem dX11_undoCount_1 : decode cX11_undoCount 1 = .ok (.iconst 0, 1) := by decide +kernel
theorem dX11_undoCount_2 : decode cX11_undoCount 2 = .ok (.putfield 51, 3) := by decide +kernel
theorem dX11_undoCount_5 : decode cX11_undoCount 5 = .ok (.aload_n 0, 1) := by decide +kernel
theorem dX11_undoCount_6 : decode cX11_undoCount 6 = .ok (.getfield 60, 3) := by decide +kernel
theorem dX11_undoCount_9 : decode cX11_undoCount 9 = .ok (.ireturn, 1) := by decide +kernel
abbrev rmX11_undoCount : Room := { frames := 2, cells := 0, slots := 0, locals := 60 }
set_option maxHeartbeats 4000000 in
set_option maxRecDepth 100000 in
theorem metX11_undoCount {l : Launch} {s0 : State} {b B : Nat} {D : va_G} {T : Nat → ClassId} (F : FX l s0 b D T B) {X : Nat → Prop} (hX : ∀ o, o < 12 → ¬ X (B + o)) {N : Nat} {μ : Mem} {a0 : Nat} {r : Mem × Int32} (k0 : IsMo a0) (h : fX11_undoCount N μ a0 = some r) : gMet l yX11_undoCount cX11_undoCount 1 (some .int) rmX11_undoCount [.ref (B + a0)] (gWM D T B μ) (KC s0 X) (some (.int r.2)) (gWM D T B r.1) (gA B X) 0 0 := by
  refine gI_of RX11 (by decide +kernel) rfl (Nat.le_of_ble_eq_true rfl) ?_
  intro p e s m args below meth c ls Q hx hb hlocks hml hown hts hW hk hl hS hend
  have hC := FX_C F hk hx hb hown hts
  have hA := gA_allM hX
  have hl : lv_has ls 1 [(0, .ref (B + a0))] := hl
  unfold fX11_undoCount at h
  refine lv_aload_n hx hb dX11_undoCount_0 rfl (lv_at hl 0 rfl) ?_
  refine lv_iconst (v := 0) hx hb dX11_undoCount_1 (by decide) ?_
  obtain ⟨μ1, e2, h⟩ := lt_out h
  refine gq_put hC hS hW hA fl_X11_51 k0.1 (k0.2.1 T B) (Nat.le_of_ble_eq_true rfl) rfl rfl rfl e2 dX11_undoCount_2 (fun H locs hW hS => ?_)
  refine lv_aload_n hx hb dX11_undoCount_5 rfl (lv_at hl 0 rfl) ?_
  refine gw_get (v := .int (μ1 a0 5)) hC hW fl_X11_60.1 k0.1 (k0.2.1 T B (μ1 a0)) rfl dX11_undoCount_6 ?_
  cases h
  exact hend dX11_undoCount_9 hW hS (Nat.le_of_ble_eq_true rfl) (Nat.le_of_ble_eq_true rfl)

theorem dX11_save_0 : decode cX11_save 0 = .ok (.aload_n 0, 1) := by decide +kernel
theorem dX11_save_1 : decode cX11_save 1 = .ok (.iconst 0, 1) := by decide +kernel
theorem dX11_save_2 : decode cX11_save 2 = .ok (.putfield 51, 3) := by decide +kernel
theorem dX11_save_5 : decode cX11_save 5 = .ok (.aload_n 0, 1) := by decide +kernel
theorem dX11_save_6 : decode cX11_save 6 = .ok (.getfield 9, 3) := by decide +kernel
theorem dX11_save_9 : decode cX11_save 9 = .ok (.iconst 0, 1) := by decide +kernel
theorem dX11_save_10 : decode cX11_save 10 = .ok (.aload_n 0, 1) := by decide +kernel
theorem dX11_save_11 : decode cX11_save 11 = .ok (.getfield 16, 3) := by decide +kernel
theorem dX11_save_14 : decode cX11_save 14 = .ok (.iconst 0, 1) := by decide +kernel
theorem dX11_save_15 : decode cX11_save 15 = .ok (.sipush 817, 3) := by decide +kernel
theorem dX11_save_18 : decode cX11_save 18 = .ok (.invokestatic 54, 3) := by decide +kernel
theorem dX11_save_21 : decode cX11_save 21 = .ok (.aload_n 0, 1) := by decide +kernel
theorem dX11_save_22 : decode cX11_save 22 = .ok (.iconst 1, 1) := by decide +kernel
theorem dX11_save_23 : decode cX11_save 23 = .ok (.putfield 314, 3) := by decide +kernel
theorem dX11_save_26 : decode cX11_save 26 = .ok (.aload_n 0, 1) := by decide +kernel
theorem dX11_save_27 : decode cX11_save 27 = .ok (.getfield 9, 3) := by decide +kernel
theorem dX11_save_30 : decode cX11_save 30 = .ok (.iconst 1, 1) := by decide +kernel
theorem dX11_save_31 : decode cX11_save 31 = .ok (.iaload, 1) := by decide +kernel
theorem dX11_save_32 : decode cX11_save 32 = .ok (.ireturn, 1) := by decide +kernel
abbrev rmX11_save : Room := { frames := 2, cells := 0, slots := 0, locals := 60 }
set_option maxHeartbeats 4000000 in
set_option maxRecDepth 100000 in
theorem metX11_save {l : Launch} {s0 : State} {b B : Nat} {D : va_G} {T : Nat → ClassId} (F : FX l s0 b D T B) {X : Nat → Prop} (hX : ∀ o, o < 12 → ¬ X (B + o)) {N : Nat} {μ : Mem} {a0 : Nat} {r : Mem × Int32} (k0 : IsMo a0) (h : fX11_save N μ a0 = some r) : gMet l yX11_save cX11_save 1 (some .int) rmX11_save [.ref (B + a0)] (gWM D T B μ) (KC s0 X) (some (.int r.2)) (gWM D T B r.1) (gA B X) 0 0 := by
  refine gI_of RX11 (by decide +kernel) rfl (Nat.le_of_ble_eq_true rfl) ?_
  intro p e s m args below meth c ls Q hx hb hlocks hml hown hts hW hk hl hS hend
  have hC := FX_C F hk hx hb hown hts
  have hA := gA_allM hX
  have hl : lv_has ls 1 [(0, .ref (B + a0))] := hl
  unfold fX11_save at h
  refine lv_aload_n hx hb dX11_save_0 rfl (lv_at hl 0 rfl) ?_
  refine lv_iconst (v := 0) hx hb dX11_save_1 (by decide) ?_
  obtain ⟨μ1, e2, h⟩ := lt_out h
  refine gq_put hC hS hW hA fl_X11_51 k0.1 (k0.2.1 T B) (Nat.le_of_ble_eq_true rfl) rfl rfl rfl e2 dX11_save_2 (fun H locs hW hS => ?_)
  refine lv_aload_n hx hb dX11_save_5 rfl (lv_at hl 0 rfl) ?_
  refine gw_get (v := .ref (B + (a0 + 1))) hC hW fl_X11_9 k0.1 (k0.2.1 T B (μ1 a0)) rfl dX11_save_6 ?_
  refine lv_iconst (v := 0) hx hb dX11_save_9 (by decide) ?_
  refine lv_aload_n hx hb dX11_save_10 rfl (lv_at hl 0 rfl) ?_
  refine gw_get (v := .ref (B + (a0 + 3))) hC hW fl_X11_16 k0.1 (k0.2.1 T B (μ1 a0)) rfl dX11_save_11 ?_
  refine lv_iconst (v := 0) hx hb dX11_save_14 (by decide) ?_
  refine lv_sipush (v := 817) hx hb dX11_save_15 (by decide) ?_
  obtain ⟨μ3, e4, hc5, h⟩ := acp_o h
  refine gw_copy hC (hml.trans hl.1.symm) lm_X11_54 lb_copy.1 lb_copy.2.1 lb_copy.2.2 hS hW hA k0.2.2.1.1 k0.2.2.2.2.1.1 (k0.2.2.1.2 T B) (k0.2.2.2.2.1.2 T B) (t0 := 0) rfl e4 hc5 (Nat.le_of_ble_eq_true rfl) (Nat.le_of_ble_eq_true rfl) dX11_save_18 (fun H locs hW hS => ?_)
  refine lv_aload_n hx hb dX11_save_21 rfl (lv_at hl 0 rfl) ?_
  refine lv_iconst (v := 1) hx hb dX11_save_22 (by decide) ?_
  obtain ⟨μ6, e7, h⟩ := lt_out h
  refine gq_put hC hS hW hA fl_X11_314 k0.1 (k0.2.1 T B) (Nat.le_of_ble_eq_true rfl) rfl rfl rfl e7 dX11_save_23 (fun H locs hW hS => ?_)
  refine lv_aload_n hx hb dX11_save_26 rfl (lv_at hl 0 rfl) ?_
  refine gw_get (v := .ref (B + (a0 + 1))) hC hW fl_X11_9 k0.1 (k0.2.1 T B (μ6 a0)) rfl dX11_save_27 ?_
  refine lv_iconst (v := 1) hx hb dX11_save_30 (by decide) ?_
  obtain ⟨v8, e9, hi10, h⟩ := ag_o h
  refine gq_iald hC hW k0.2.2.1.1 (k0.2.2.1.2 T B (μ6 (a0 + 1))) (t0 := 0) rfl e9 hi10 dX11_save_31 ?_
  cases h
  exact hend dX11_save_32 hW hS (Nat.le_of_ble_eq_true rfl) (Nat.le_of_ble_eq_true rfl)

theorem dX11_restore_0 : decode cX11_restore 0 = .ok (.aload_n 0, 1) := by decide +kernel
theorem dX11_restore_1 : decode cX11_restore 1 = .ok (.aload_n 0, 1) := by decide +kernel
theorem dX11_restore_2 : decode cX11_restore 2 = .ok (.getfield 314, 3) := by decide +kernel
theorem dX11_restore_5 : decode cX11_restore 5 = .ok (.ifCond .eq 7, 3) := by decide +kernel
theorem dX11_restore_8 : decode cX11_restore 8 = .ok (.iconst 0, 1) := by decide +kernel
theorem dX11_restore_9 : decode cX11_restore 9 = .ok (.goto 4, 3) := by decide +kernel
theorem dX11_restore_12 : decode cX11_restore 12 = .ok (.iconst 1, 1) := by decide +kernel
theorem dX11_restore_13 : decode cX11_restore 13 = .ok (.putfield 51, 3) := by decide +kernel
theorem dX11_restore_16 : decode cX11_restore 16 = .ok (.aload_n 0, 1) := by decide +kernel
theorem dX11_restore_17 : decode cX11_restore 17 = .ok (.getfield 51, 3) := by decide +kernel
theorem dX11_restore_20 : decode cX11_restore 20 = .ok (.ifCond .le 5, 3) := by decide +kernel
theorem dX11_restore_23 : decode cX11_restore 23 = .ok (.iconst 0, 1) := by decide +kernel
theorem dX11_restore_24 : decode cX11_restore 24 = .ok (.ireturn, 1) := by decide +kernel
theorem dX11_restore_25 : decode cX11_restore 25 = .ok (.aload_n 0, 1) := by decide +kernel
theorem dX11_restore_26 : decode cX11_restore 26 = .ok (.getfield 16, 3) := by decide +kernel
theorem dX11_restore_29 : decode cX11_restore 29 = .ok (.iconst 0, 1) := by decide +kernel
theorem dX11_restore_30 : decode cX11_restore 30 = .ok (.aload_n 0, 1) := by decide +kernel
theorem dX11_restore_31 : decode cX11_restore 31 = .ok (.getfield 9, 3) := by decide +kernel
theorem dX11_restore_34 : decode cX11_restore 34 = .ok (.iconst 0, 1) := by decide +kernel
theorem dX11_restore_35 : decode cX11_restore 35 = .ok (.sipush 817, 3) := by decide +kernel
theorem dX11_restore_38 : decode cX11_restore 38 = .ok (.invokestatic 54, 3) := by decide +kernel
theorem dX11_restore_41 : decode cX11_restore 41 = .ok (.aload_n 0, 1) := by decide +kernel
theorem dX11_restore_42 : decode cX11_restore 42 = .ok (.iconst 0, 1) := by decide +kernel
theorem dX11_restore_43 : decode cX11_restore 43 = .ok (.putfield 60, 3) := by decide +kernel
theorem dX11_restore_46 : decode cX11_restore 46 = .ok (.aload_n 0, 1) := by decide +kernel
theorem dX11_restore_47 : decode cX11_restore 47 = .ok (.getfield 9, 3) := by decide +kernel
theorem dX11_restore_50 : decode cX11_restore 50 = .ok (.iconst 1, 1) := by decide +kernel
theorem dX11_restore_51 : decode cX11_restore 51 = .ok (.iaload, 1) := by decide +kernel
theorem dX11_restore_52 : decode cX11_restore 52 = .ok (.ireturn, 1) := by decide +kernel
abbrev rmX11_restore : Room := { frames := 2, cells := 0, slots := 0, locals := 60 }
set_option maxHeartbeats 4000000 in
set_option maxRecDepth 100000 in
theorem metX11_restore {l : Launch} {s0 : State} {b B : Nat} {D : va_G} {T : Nat → ClassId} (F : FX l s0 b D T B) {X : Nat → Prop} (hX : ∀ o, o < 12 → ¬ X (B + o)) {N : Nat} {μ : Mem} {a0 : Nat} {r : Mem × Int32} (k0 : IsMo a0) (h : fX11_restore N μ a0 = some r) : gMet l yX11_restore cX11_restore 1 (some .int) rmX11_restore [.ref (B + a0)] (gWM D T B μ) (KC s0 X) (some (.int r.2)) (gWM D T B r.1) (gA B X) 0 0 := by
  refine gI_of RX11 (by decide +kernel) rfl (Nat.le_of_ble_eq_true rfl) ?_
  intro p e s m args below meth c ls Q hx hb hlocks hml hown hts hW hk hl hS hend
  have hC := FX_C F hk hx hb hown hts
  have hA := gA_allM hX
  have hl : lv_has ls 1 [(0, .ref (B + a0))] := hl
  unfold fX11_restore at h
  refine lv_aload_n hx hb dX11_restore_0 rfl (lv_at hl 0 rfl) ?_
  refine lv_aload_n hx hb dX11_restore_1 rfl (lv_at hl 0 rfl) ?_
  refine gw_get (v := .int (μ a0 3)) hC hW fl_X11_314.1 k0.1 (k0.2.1 T B (μ a0)) rfl dX11_restore_2 ?_
  obtain ⟨j2, hj4, h⟩ := jn1_o h
  have J3 : ∀ (y1 : Bool), j2 y1 = some r → ∀ (H : Heap) (locs : List Loc) (ls : Array Slot), gWM D T B μ H → va_S (gA B X) s.heap H locs → lv_has ls 1 [(0, .ref (B + a0))] → W p l e rmX11_restore s m args below meth c H locs 0 0 Q (F0 m 13 ls [.int (b2i y1), .ref (B + a0)]) := by
    clear h hW hS hl
    intro y1 h H locs ls hW hS hl
    replace h := (hj4 y1).symm.trans h
    obtain ⟨μ5, e6, h⟩ := lt_out h
    refine gq_put hC hS hW hA fl_X11_51 k0.1 (k0.2.1 T B) (Nat.le_of_ble_eq_true rfl) rfl rfl rfl e6 dX11_restore_13 (fun H locs hW hS => ?_)
    refine lv_aload_n hx hb dX11_restore_16 rfl (lv_at hl 0 rfl) ?_
    refine gw_get (v := .int (μ5 a0 6)) hC hW fl_X11_51.1 k0.1 (k0.2.1 T B (μ5 a0)) rfl dX11_restore_17 ?_
    refine lv_if_le (tgt := 25) hx hb dX11_restore_20 (by decide) (fun c7 => ?_) (fun c7 => ?_)
    · replace h := ite_t c7 h
      refine lv_aload_n hx hb dX11_restore_25 rfl (lv_at hl 0 rfl) ?_
      refine gw_get (v := .ref (B + (a0 + 3))) hC hW fl_X11_16 k0.1 (k0.2.1 T B (μ5 a0)) rfl dX11_restore_26 ?_
      refine lv_iconst (v := 0) hx hb dX11_restore_29 (by decide) ?_
      refine lv_aload_n hx hb dX11_restore_30 rfl (lv_at hl 0 rfl) ?_
      refine gw_get (v := .ref (B + (a0 + 1))) hC hW fl_X11_9 k0.1 (k0.2.1 T B (μ5 a0)) rfl dX11_restore_31 ?_
      refine lv_iconst (v := 0) hx hb dX11_restore_34 (by decide) ?_
      refine lv_sipush (v := 817) hx hb dX11_restore_35 (by decide) ?_
      obtain ⟨μ8, e9, hc10, h⟩ := acp_o h
      refine gw_copy hC (hml.trans hl.1.symm) lm_X11_54 lb_copy.1 lb_copy.2.1 lb_copy.2.2 hS hW hA k0.2.2.2.2.1.1 k0.2.2.1.1 (k0.2.2.2.2.1.2 T B) (k0.2.2.1.2 T B) (t0 := 0) rfl e9 hc10 (Nat.le_of_ble_eq_true rfl) (Nat.le_of_ble_eq_true rfl) dX11_restore_38 (fun H locs hW hS => ?_)
      refine lv_aload_n hx hb dX11_restore_41 rfl (lv_at hl 0 rfl) ?_
      refine lv_iconst (v := 0) hx hb dX11_restore_42 (by decide) ?_
      obtain ⟨μ11, e12, h⟩ := lt_out h
      refine gq_put hC hS hW hA fl_X11_60 k0.1 (k0.2.1 T B) (Nat.le_of_ble_eq_true rfl) rfl rfl rfl e12 dX11_restore_43 (fun H locs hW hS => ?_)
      refine lv_aload_n hx hb dX11_restore_46 rfl (lv_at hl 0 rfl) ?_
      refine gw_get (v := .ref (B + (a0 + 1))) hC hW fl_X11_9 k0.1 (k0.2.1 T B (μ11 a0)) rfl dX11_restore_47 ?_
      refine lv_iconst (v := 1) hx hb dX11_restore_50 (by decide) ?_
      obtain ⟨v13, e14, hi15, h⟩ := ag_o h
      refine gq_iald hC hW k0.2.2.1.1 (k0.2.2.1.2 T B (μ11 (a0 + 1))) (t0 := 0) rfl e14 hi15 dX11_restore_51 ?_
      cases h
      exact hend dX11_restore_52 hW hS (Nat.le_of_ble_eq_true rfl) (Nat.le_of_ble_eq_true rfl)
    · replace h := ite_f c7 h
      refine lv_iconst (v := 0) hx hb dX11_restore_23 (by decide) ?_
      cases h
      exact hend dX11_restore_24 hW hS (Nat.le_of_ble_eq_true rfl) (Nat.le_of_ble_eq_true rfl)
  refine lv_if_eq (tgt := 12) hx hb dX11_restore_5 (by decide) (fun c16 => ?_) (fun c16 => ?_)
  · replace h := ite_t c16 h
    refine lv_iconst (v := 1) hx hb dX11_restore_12 (by decide) ?_
    exact J3 _ h _ _ _ hW hS (lv_sub hl [0] rfl)
  · replace h := ite_f c16 h
    refine lv_iconst (v := 0) hx hb dX11_restore_8 (by decide) ?_
    refine lv_goto (tgt := 13) hx hb dX11_restore_9 (by decide) ?_
    exact J3 _ h _ _ _ hW hS (lv_sub hl [0] rfl)

