/-! Printed by program: the reference reads and runs commands. -/
theorem dX11_reads_0 : decode cX11_reads 0 = .ok (.iconst 5, 1) := by decide +kernel
theorem dX11_reads_1 : decode cX11_reads 1 = .ok (.aload_n 0, 1) := by decide +kernel
theorem dX11_reads_2 : decode cX11_reads 2 = .ok (.getfield 270, 3) := by decide +kernel
theorem dX11_reads_5 : decode cX11_reads 5 = .ok (.imul, 1) := by decide +kernel
theorem dX11_reads_6 : decode cX11_reads 6 = .ok (.istore_n 3, 1) := by decide +kernel
theorem dX11_reads_7 : decode cX11_reads 7 = .ok (.aload_n 0, 1) := by decide +kernel
theorem dX11_reads_8 : decode cX11_reads 8 = .ok (.getfield 48, 3) := by decide +kernel
theorem dX11_reads_11 : decode cX11_reads 11 = .ok (.iload_n 3, 1) := by decide +kernel
theorem dX11_reads_12 : decode cX11_reads 12 = .ok (.iload_n 1, 1) := by decide +kernel
theorem dX11_reads_13 : decode cX11_reads 13 = .ok (.iastore, 1) := by decide +kernel
theorem dX11_reads_14 : decode cX11_reads 14 = .ok (.aload_n 0, 1) := by decide +kernel
theorem dX11_reads_15 : decode cX11_reads 15 = .ok (.dup, 1) := by decide +kernel
theorem dX11_reads_16 : decode cX11_reads 16 = .ok (.getfield 270, 3) := by decide +kernel
theorem dX11_reads_19 : decode cX11_reads 19 = .ok (.iconst 1, 1) := by decide +kernel
theorem dX11_reads_20 : decode cX11_reads 20 = .ok (.iadd, 1) := by decide +kernel
theorem dX11_reads_21 : decode cX11_reads 21 = .ok (.putfield 270, 3) := by decide +kernel
theorem dX11_reads_24 : decode cX11_reads 24 = .ok (.iconst 0, 1) := by decide +kernel
theorem dX11_reads_25 : decode cX11_reads 25 = .ok (.istore 4, 2) := by decide +kernel
theorem dX11_reads_27 : decode cX11_reads 27 = .ok (.iload 4, 2) := by decide +kernel
theorem dX11_reads_29 : decode cX11_reads 29 = .ok (.aload_n 2, 1) := by decide +kernel
theorem dX11_reads_30 : decode cX11_reads 30 = .ok (.invokevirtual 255, 3) := by decide +kernel
theorem dX11_reads_33 : decode cX11_reads 33 = .ok (.if_icmp .ge 62, 3) := by decide +kernel
theorem dX11_reads_36 : decode cX11_reads 36 = .ok (.aload_n 2, 1) := by decide +kernel
theorem dX11_reads_37 : decode cX11_reads 37 = .ok (.iload 4, 2) := by decide +kernel
theorem dX11_reads_39 : decode cX11_reads 39 = .ok (.invokevirtual 266, 3) := by decide +kernel
theorem dX11_reads_42 : decode cX11_reads 42 = .ok (.bipush 48, 2) := by decide +kernel
theorem dX11_reads_44 : decode cX11_reads 44 = .ok (.isub, 1) := by decide +kernel
theorem dX11_reads_45 : decode cX11_reads 45 = .ok (.istore 5, 2) := by decide +kernel
theorem dX11_reads_47 : decode cX11_reads 47 = .ok (.iload 5, 2) := by decide +kernel
theorem dX11_reads_49 : decode cX11_reads 49 = .ok (.iconst 1, 1) := by decide +kernel
theorem dX11_reads_50 : decode cX11_reads 50 = .ok (.iconst 2, 1) := by decide +kernel
theorem dX11_reads_51 : decode cX11_reads 51 = .ok (.invokestatic 73, 3) := by decide +kernel
theorem dX11_reads_54 : decode cX11_reads 54 = .ok (.ifCond .eq 21, 3) := by decide +kernel
theorem dX11_reads_57 : decode cX11_reads 57 = .ok (.iinc 3 1, 3) := by decide +kernel
theorem dX11_reads_60 : decode cX11_reads 60 = .ok (.aload_n 0, 1) := by decide +kernel
theorem dX11_reads_61 : decode cX11_reads 61 = .ok (.getfield 48, 3) := by decide +kernel
theorem dX11_reads_64 : decode cX11_reads 64 = .ok (.iload_n 3, 1) := by decide +kernel
theorem dX11_reads_65 : decode cX11_reads 65 = .ok (.aload_n 0, 1) := by decide +kernel
theorem dX11_reads_66 : decode cX11_reads 66 = .ok (.iload 5, 2) := by decide +kernel
theorem dX11_reads_68 : decode cX11_reads 68 = .ok (.invokevirtual 273, 3) := by decide +kernel
theorem dX11_reads_71 : decode cX11_reads 71 = .ok (.iastore, 1) := by decide +kernel
theorem dX11_reads_72 : decode cX11_reads 72 = .ok (.goto 17, 3) := by decide +kernel
theorem dX11_reads_75 : decode cX11_reads 75 = .ok (.aload_n 0, 1) := by decide +kernel
theorem dX11_reads_76 : decode cX11_reads 76 = .ok (.aload_n 2, 1) := by decide +kernel
theorem dX11_reads_77 : decode cX11_reads 77 = .ok (.iload 4, 2) := by decide +kernel
theorem dX11_reads_79 : decode cX11_reads 79 = .ok (.iload 4, 2) := by decide +kernel
theorem dX11_reads_81 : decode cX11_reads 81 = .ok (.iconst 1, 1) := by decide +kernel
theorem dX11_reads_82 : decode cX11_reads 82 = .ok (.iadd, 1) := by decide +kernel
theorem dX11_reads_83 : decode cX11_reads 83 = .ok (.invokevirtual 276, 3) := by decide +kernel
theorem dX11_reads_86 : decode cX11_reads 86 = .ok (.invokevirtual 280, 3) := by decide +kernel
theorem dX11_reads_89 : decode cX11_reads 89 = .ok (.iinc 4 1, 3) := by decide +kernel
theorem dX11_reads_92 : decode cX11_reads 92 = .ok (.goto (-65), 3) := by decide +kernel
theorem dX11_reads_95 : decode cX11_reads 95 = .ok (.return_, 1) := by decide +kernel
abbrev rmX11_reads : Room := { frames := 9, cells := 32, slots := 80, locals := 260 }
set_option maxHeartbeats 4000000 in
set_option maxRecDepth 100000 in
theorem metX11_reads {l : Launch} {s0 : State} {b B : Nat} {D : va_G} {T : Nat → ClassId} (F : FX l s0 b D T B) {X : Nat → Prop} (hX : ∀ o, o < 12 → ¬ X (B + o)) {N : Nat} {μ : Mem} {a0 : Nat} {a1 : Int32} {a2 : Nat} {r : Mem} (k0 : IsMo a0) (k2 : sOK a2) (h : fX11_reads N μ a0 a1 a2 = some r) : gMet l yX11_reads cX11_reads 6 none rmX11_reads [.ref (B + a0), .int a1, .ref (gsa s0 a2)] (gWM D T B μ) (KC s0 X) none (gWM D T B r) (gA B X) 32 80 := by
  refine gV_of RX11 (by decide +kernel) rfl (Nat.le_of_ble_eq_true rfl) ?_
  intro p e s m args below meth c ls Q hx hb hlocks hml hown hts hW hk hl hS hend
  have hC := FX_C F hk hx hb hown hts
  have hA := gA_allM hX
  have hl : lv_has ls 6 [(0, .ref (B + a0)), (1, .int a1), (2, .ref (gsa s0 a2))] := hl
  unfold fX11_reads at h
  refine lv_iconst (v := 5) hx hb dX11_reads_0 (by decide) ?_
  refine lv_aload_n hx hb dX11_reads_1 rfl (lv_at hl 0 rfl) ?_
  refine gw_get (v := .int (μ a0 23)) hC hW fl_X11_270.1 k0.1 (k0.2.1 T B (μ a0)) rfl dX11_reads_2 ?_
  refine lv_imul hx hb dX11_reads_5 ?_
  obtain ⟨v1, e2, h⟩ := lt_out h
  rw [← e2]
  refine lv_istore_n (lv' := [(3, .int v1), (0, .ref (B + a0)), (1, .int a1), (2, .ref (gsa s0 a2))]) hx hb dX11_reads_6 rfl hl (by decide) rfl (fun ls hl => ?_)
  refine lv_aload_n hx hb dX11_reads_7 rfl (lv_at hl 1 rfl) ?_
  refine gw_get (v := .ref (B + (a0 + 11))) hC hW fl_X11_48 k0.1 (k0.2.1 T B (μ a0)) rfl dX11_reads_8 ?_
  refine lv_iload_n hx hb dX11_reads_11 rfl (lv_at hl 0 rfl) ?_
  refine lv_iload_n hx hb dX11_reads_12 rfl (lv_at hl 2 rfl) ?_
  obtain ⟨μ3, e4, hi5, h⟩ := aw_o h
  refine gq_iast hC hS hW hA k0.2.2.2.2.2.2.2.2.2.2.2.2.1 (k0.2.2.2.2.2.2.2.2.2.2.2.2.2 T B) (t0 := 0) rfl e4 hi5 dX11_reads_13 (fun H locs hW hS => ?_)
  refine lv_aload_n hx hb dX11_reads_14 rfl (lv_at hl 1 rfl) ?_
  refine lv_dup hx hb dX11_reads_15 rfl ?_
  refine gw_get (v := .int (μ3 a0 23)) hC hW fl_X11_270.1 k0.1 (k0.2.1 T B (μ3 a0)) rfl dX11_reads_16 ?_
  refine lv_iconst (v := 1) hx hb dX11_reads_19 (by decide) ?_
  refine lv_iadd hx hb dX11_reads_20 ?_
  obtain ⟨μ6, e7, h⟩ := lt_out h
  refine gq_put hC hS hW hA fl_X11_270 k0.1 (k0.2.1 T B) (by first | exact Nat.le_of_ble_eq_true rfl | omega | (simp only [rmX11_reads]; omega)) rfl rfl rfl e7 dX11_reads_21 (fun H locs hW hS => ?_)
  refine lv_iconst (v := 0) hx hb dX11_reads_24 (by decide) ?_
  refine lv_istore (lv' := [(4, .int 0), (3, .int v1), (0, .ref (B + a0)), (1, .int a1), (2, .ref (gsa s0 a2))]) hx hb dX11_reads_25 hl (by decide) rfl (fun ls hl => ?_)
  refine W.widen (k := 0 + 0 * 2) (n := 0 + 0 * 5) (by omega) (by omega) ?_
  refine fix4_ind (fun (x8 : Int32) (x9 : Int32) (μ10 : Mem) (κ11 : Nat) => ∀ (H : Heap) (locs : List Loc) (ls : Array Slot), gWM D T B μ10 H → va_S (gA B X) s.heap H locs → lv_has ls 6 [(0, .ref (B + a0)), (2, .ref (gsa s0 a2)), (3, .int x8), (4, .int x9)] → W p l e rmX11_reads s m args below meth c H locs (0 + κ11 * 2) (0 + κ11 * 5) Q (F0 m 27 ls [])) ?_ N _ _ _ _ h _ _ _ hW hS (lv_sub hl [2, 4, 1, 0] rfl)
  clear h hW hS hl
  intro self12 IH13 x8 x9 μ10 κ11 h H locs ls hW hS hl
  obtain ⟨hκ14, h⟩ := gd_out h
  refine lv_iload hx hb dX11_reads_27 (lv_at hl 3 rfl) ?_
  refine lv_aload_n hx hb dX11_reads_29 rfl (lv_at hl 1 rfl) ?_
  refine g_slen F hk hC hml hS k2 ml_X11_255 ⟨rfl, rfl, (by first | exact Nat.le_of_ble_eq_true rfl | omega | (simp only [rmX11_reads]; omega)), (by first | exact Nat.le_of_ble_eq_true rfl | omega | (simp only [rmX11_reads]; omega))⟩ hl.1 (by first | exact Nat.le_of_ble_eq_true rfl | omega | (simp only [rmX11_reads]; omega)) dX11_reads_30 ⟨(by first | exact Nat.le_of_ble_eq_true rfl | omega | (simp only [rmX11_reads]; omega)), (by first | exact Nat.le_of_ble_eq_true rfl | omega | (simp only [rmX11_reads]; omega))⟩ (fun locs hS => ?_)
  refine lv_icmp_ge (tgt := 95) hx hb dX11_reads_33 (by decide) (fun c15 => ?_) (fun c15 => ?_)
  · replace h := ite_t c15 h
    refine W.widen (k := 32) (n := 80) (by omega) (by omega) ?_
    cases h
    exact hend dX11_reads_95 hW hS (by first | exact Nat.le_of_ble_eq_true rfl | omega | (simp only [rmX11_reads]; omega)) (by first | exact Nat.le_of_ble_eq_true rfl | omega | (simp only [rmX11_reads]; omega))
  · replace h := ite_f c15 h
    refine lv_aload_n hx hb dX11_reads_36 rfl (lv_at hl 1 rfl) ?_
    refine lv_iload hx hb dX11_reads_37 (lv_at hl 3 rfl) ?_
    obtain ⟨v16, e17, hi18, h⟩ := sat_o h
    refine g_schar F hk hC hml hS k2 e17 hi18 ml_X11_266 ⟨rfl, rfl, (by first | exact Nat.le_of_ble_eq_true rfl | omega | (simp only [rmX11_reads]; omega)), (by first | exact Nat.le_of_ble_eq_true rfl | omega | (simp only [rmX11_reads]; omega))⟩ hl.1 (by first | exact Nat.le_of_ble_eq_true rfl | omega | (simp only [rmX11_reads]; omega)) dX11_reads_39 ⟨(by first | exact Nat.le_of_ble_eq_true rfl | omega | (simp only [rmX11_reads]; omega)), (by first | exact Nat.le_of_ble_eq_true rfl | omega | (simp only [rmX11_reads]; omega))⟩ (fun locs hS => ?_)
    refine lv_bipush (v := 48) hx hb dX11_reads_42 (by decide) ?_
    refine lv_isub hx hb dX11_reads_44 ?_
    obtain ⟨v19, e20, h⟩ := lt_out h
    rw [← e20]
    refine lv_istore (lv' := [(5, .int v19), (0, .ref (B + a0)), (2, .ref (gsa s0 a2)), (3, .int x8), (4, .int x9)]) hx hb dX11_reads_45 hl (by decide) rfl (fun ls hl => ?_)
    refine lv_iload hx hb dX11_reads_47 (lv_at hl 0 rfl) ?_
    refine lv_iconst (v := 1) hx hb dX11_reads_49 (by decide) ?_
    refine lv_iconst (v := 2) hx hb dX11_reads_50 (by decide) ?_
    obtain ⟨r21, hcall, h⟩ := bd_out h
    refine g0_callS (As := [.int v19, .int 1, .int 2]) hC hml hS hW (KC_at hk hS F.2.2.2.2) KC_blind (metX11_in F hX  hcall) ml_X11_73 ⟨rfl, rfl, (by first | exact Nat.le_of_ble_eq_true rfl | omega | (simp only [rmX11_reads]; omega)), (by first | exact Nat.le_of_ble_eq_true rfl | omega | (simp only [rmX11_reads]; omega))⟩ rfl hl.1 rfl (by first | exact Nat.le_of_ble_eq_true rfl | omega | (simp only [rmX11_reads]; omega)) dX11_reads_51 ⟨(by first | exact Nat.le_of_ble_eq_true rfl | omega | (simp only [rmX11_reads]; omega)), (by first | exact Nat.le_of_ble_eq_true rfl | omega | (simp only [rmX11_reads]; omega))⟩ (fun H locs hW hS => ?_)
    obtain ⟨j24, hj26, h⟩ := jn2_o h
    have J25 : ∀ (y22 : Int32) (μ23 : Mem), j24 y22 μ23 = some r → ∀ (H : Heap) (locs : List Loc) (ls : Array Slot), gWM D T B μ23 H → va_S (gA B X) s.heap H locs → lv_has ls 6 [(0, .ref (B + a0)), (2, .ref (gsa s0 a2)), (3, .int y22), (4, .int x9)] → W p l e rmX11_reads s m args below meth c H locs (0 + κ11 * 2 + 2) (0 + κ11 * 5 + 5) Q (F0 m 89 ls []) := by
      clear h hW hS hl
      intro y22 μ23 h H locs ls hW hS hl
      replace h := (hj26 y22 μ23).symm.trans h
      obtain ⟨v27, e28, h⟩ := lt_out h
      refine lv_iinc (v := v27) (lv' := [(4, .int v27), (0, .ref (B + a0)), (2, .ref (gsa s0 a2)), (3, .int y22)]) hx hb dX11_reads_89 hl (k := 3) rfl (by rw [e28]; rfl) (by decide) rfl (fun ls hl => ?_)
      refine lv_goto (tgt := 27) hx hb dX11_reads_92 (by decide) ?_
      refine W.widen (k := 0 + (κ11 + 1) * 2) (n := 0 + (κ11 + 1) * 5) (by omega) (by omega) ?_
      exact IH13 _ _ _ _ h _ _ _ hW hS (lv_sub hl [1, 2, 3, 0] rfl)
    refine gw_if_eqZ (tgt := 75) hx hb dX11_reads_54 (by decide) (fun c29 => ?_) (fun c29 => ?_)
    · replace h := cond_f c29 h
      refine lv_aload_n hx hb dX11_reads_75 rfl (lv_at hl 1 rfl) ?_
      refine lv_aload_n hx hb dX11_reads_76 rfl (lv_at hl 2 rfl) ?_
      refine lv_iload hx hb dX11_reads_77 (lv_at hl 4 rfl) ?_
      refine lv_iload hx hb dX11_reads_79 (lv_at hl 4 rfl) ?_
      refine lv_iconst (v := 1) hx hb dX11_reads_81 (by decide) ?_
      refine lv_iadd hx hb dX11_reads_82 ?_
      obtain ⟨t30, e31, hi32, h⟩ := sub1_o h
      obtain ⟨μ33, hcall, h⟩ := bd_out h
      refine g_subskip F hX hk hC hml hS hW k0 k2 e31 hi32 hcall ml_X11_276 ml_X11_280 hl.1 (by first | exact Nat.le_of_ble_eq_true rfl | omega | (simp only [rmX11_reads]; omega)) (by first | exact Nat.le_of_ble_eq_true rfl | omega | (simp only [rmX11_reads]; omega)) (by first | exact Nat.le_of_ble_eq_true rfl | omega | (simp only [rmX11_reads]; omega)) (by first | exact Nat.le_of_ble_eq_true rfl | omega | (simp only [rmX11_reads]; omega)) (by first | exact Nat.le_of_ble_eq_true rfl | omega | (simp only [rmX11_reads]; omega)) dX11_reads_83 dX11_reads_86 (fun H locs hW hS => ?_)
      exact J25 _ _ h _ _ _ hW hS (lv_sub hl [1, 2, 3, 4] rfl)
    · replace h := cond_t c29 h
      obtain ⟨v34, e35, h⟩ := lt_out h
      refine lv_iinc (v := v34) (lv' := [(3, .int v34), (5, .int v19), (0, .ref (B + a0)), (2, .ref (gsa s0 a2)), (4, .int x9)]) hx hb dX11_reads_57 hl (k := 3) rfl (by rw [e35]; rfl) (by decide) rfl (fun ls hl => ?_)
      refine lv_aload_n hx hb dX11_reads_60 rfl (lv_at hl 2 rfl) ?_
      refine gw_get (v := .ref (B + (a0 + 11))) hC hW fl_X11_48 k0.1 (k0.2.1 T B (μ10 a0)) rfl dX11_reads_61 ?_
      refine lv_iload_n hx hb dX11_reads_64 rfl (lv_at hl 0 rfl) ?_
      refine lv_aload_n hx hb dX11_reads_65 rfl (lv_at hl 2 rfl) ?_
      refine lv_iload hx hb dX11_reads_66 (lv_at hl 1 rfl) ?_
      obtain ⟨r36, hcall, h⟩ := bd_out h
      refine g0_callV (As := [.int v19]) hC hml hS hW (KC_at hk hS F.2.2.2.2) KC_blind (metX11_readsNumber F hX k0 hcall) ml_X11_273 (gw_recv hC hW k0.1 (k0.2.1 T B (μ10 a0)) rfl) ⟨rfl, rfl, (by first | exact Nat.le_of_ble_eq_true rfl | omega | (simp only [rmX11_reads]; omega)), (by first | exact Nat.le_of_ble_eq_true rfl | omega | (simp only [rmX11_reads]; omega))⟩ rfl hl.1 rfl (by first | exact Nat.le_of_ble_eq_true rfl | omega | (simp only [rmX11_reads]; omega)) dX11_reads_68 ⟨(by first | exact Nat.le_of_ble_eq_true rfl | omega | (simp only [rmX11_reads]; omega)), (by first | exact Nat.le_of_ble_eq_true rfl | omega | (simp only [rmX11_reads]; omega))⟩ (fun H locs hW hS => ?_)
      obtain ⟨μ37, e38, hi39, h⟩ := aw_o h
      refine gq_iast hC hS hW hA k0.2.2.2.2.2.2.2.2.2.2.2.2.1 (k0.2.2.2.2.2.2.2.2.2.2.2.2.2 T B) (t0 := 0) rfl e38 hi39 dX11_reads_71 (fun H locs hW hS => ?_)
      refine lv_goto (tgt := 89) hx hb dX11_reads_72 (by decide) ?_
      refine W.widen (k := (0 + κ11 * 2 + 2)) (n := (0 + κ11 * 5 + 5)) (by first | exact Nat.le_of_ble_eq_true rfl | omega | (simp only [rmX11_reads]; omega)) (by first | exact Nat.le_of_ble_eq_true rfl | omega | (simp only [rmX11_reads]; omega)) ?_
      exact J25 _ _ h _ _ _ hW hS (lv_sub hl [2, 3, 0, 4] rfl)

theorem dX11_readsCommand_0 : decode cX11_readsCommand 0 = .ok (.aload_n 0, 1) := by decide +kernel
theorem dX11_readsCommand_1 : decode cX11_readsCommand 1 = .ok (.getfield 259, 3) := by decide +kernel
theorem dX11_readsCommand_4 : decode cX11_readsCommand 4 = .ok (.ifCond .eq 4, 3) := by decide +kernel
theorem dX11_readsCommand_7 : decode cX11_readsCommand 7 = .ok (.return_, 1) := by decide +kernel
theorem dX11_readsCommand_8 : decode cX11_readsCommand 8 = .ok (.aload_n 0, 1) := by decide +kernel
theorem dX11_readsCommand_9 : decode cX11_readsCommand 9 = .ok (.iconst 0, 1) := by decide +kernel
theorem dX11_readsCommand_10 : decode cX11_readsCommand 10 = .ok (.invokevirtual 263, 3) := by decide +kernel
theorem dX11_readsCommand_13 : decode cX11_readsCommand 13 = .ok (.istore_n 1, 1) := by decide +kernel
theorem dX11_readsCommand_14 : decode cX11_readsCommand 14 = .ok (.iload_n 1, 1) := by decide +kernel
theorem dX11_readsCommand_15 : decode cX11_readsCommand 15 = .ok (.tableswitch 159 97 116 #[137, 159, 159, 159, 159, 159, 159, 159, 159, 159, 159, 104, 159, 159, 159, 115, 159, 93, 126, 148], 93) := by decide +kernel
theorem dX11_readsCommand_108 : decode cX11_readsCommand 108 = .ok (.aload_n 0, 1) := by decide +kernel
theorem dX11_readsCommand_109 : decode cX11_readsCommand 109 = .ok (.iload_n 1, 1) := by decide +kernel
theorem dX11_readsCommand_110 : decode cX11_readsCommand 110 = .ok (.ldc_w 288, 3) := by decide +kernel
theorem dX11_readsCommand_113 : decode cX11_readsCommand 113 = .ok (.invokevirtual 290, 3) := by decide +kernel
theorem dX11_readsCommand_116 : decode cX11_readsCommand 116 = .ok (.goto 102, 3) := by decide +kernel
theorem dX11_readsCommand_119 : decode cX11_readsCommand 119 = .ok (.aload_n 0, 1) := by decide +kernel
theorem dX11_readsCommand_120 : decode cX11_readsCommand 120 = .ok (.iload_n 1, 1) := by decide +kernel
theorem dX11_readsCommand_121 : decode cX11_readsCommand 121 = .ok (.ldc_w 294, 3) := by decide +kernel
theorem dX11_readsCommand_124 : decode cX11_readsCommand 124 = .ok (.invokevirtual 290, 3) := by decide +kernel
theorem dX11_readsCommand_127 : decode cX11_readsCommand 127 = .ok (.goto 91, 3) := by decide +kernel
theorem dX11_readsCommand_130 : decode cX11_readsCommand 130 = .ok (.aload_n 0, 1) := by decide +kernel
theorem dX11_readsCommand_131 : decode cX11_readsCommand 131 = .ok (.iload_n 1, 1) := by decide +kernel
theorem dX11_readsCommand_132 : decode cX11_readsCommand 132 = .ok (.ldc_w 296, 3) := by decide +kernel
theorem dX11_readsCommand_135 : decode cX11_readsCommand 135 = .ok (.invokevirtual 290, 3) := by decide +kernel
theorem dX11_readsCommand_138 : decode cX11_readsCommand 138 = .ok (.goto 80, 3) := by decide +kernel
theorem dX11_readsCommand_141 : decode cX11_readsCommand 141 = .ok (.aload_n 0, 1) := by decide +kernel
theorem dX11_readsCommand_142 : decode cX11_readsCommand 142 = .ok (.iload_n 1, 1) := by decide +kernel
theorem dX11_readsCommand_143 : decode cX11_readsCommand 143 = .ok (.ldc_w 298, 3) := by decide +kernel
theorem dX11_readsCommand_146 : decode cX11_readsCommand 146 = .ok (.invokevirtual 290, 3) := by decide +kernel
theorem dX11_readsCommand_149 : decode cX11_readsCommand 149 = .ok (.goto 69, 3) := by decide +kernel
theorem dX11_readsCommand_152 : decode cX11_readsCommand 152 = .ok (.aload_n 0, 1) := by decide +kernel
theorem dX11_readsCommand_153 : decode cX11_readsCommand 153 = .ok (.iload_n 1, 1) := by decide +kernel
theorem dX11_readsCommand_154 : decode cX11_readsCommand 154 = .ok (.ldc_w 300, 3) := by decide +kernel
theorem dX11_readsCommand_157 : decode cX11_readsCommand 157 = .ok (.invokevirtual 290, 3) := by decide +kernel
theorem dX11_readsCommand_160 : decode cX11_readsCommand 160 = .ok (.goto 58, 3) := by decide +kernel
theorem dX11_readsCommand_163 : decode cX11_readsCommand 163 = .ok (.aload_n 0, 1) := by decide +kernel
theorem dX11_readsCommand_164 : decode cX11_readsCommand 164 = .ok (.iload_n 1, 1) := by decide +kernel
theorem dX11_readsCommand_165 : decode cX11_readsCommand 165 = .ok (.ldc_w 302, 3) := by decide +kernel
theorem dX11_readsCommand_168 : decode cX11_readsCommand 168 = .ok (.invokevirtual 290, 3) := by decide +kernel
theorem dX11_readsCommand_171 : decode cX11_readsCommand 171 = .ok (.goto 47, 3) := by decide +kernel
theorem dX11_readsCommand_174 : decode cX11_readsCommand 174 = .ok (.aload_n 0, 1) := by decide +kernel
theorem dX11_readsCommand_175 : decode cX11_readsCommand 175 = .ok (.iconst 1, 1) := by decide +kernel
theorem dX11_readsCommand_176 : decode cX11_readsCommand 176 = .ok (.invokevirtual 263, 3) := by decide +kernel
theorem dX11_readsCommand_179 : decode cX11_readsCommand 179 = .ok (.bipush 97, 2) := by decide +kernel
theorem dX11_readsCommand_181 : decode cX11_readsCommand 181 = .ok (.if_icmp .ne 7, 3) := by decide +kernel
theorem dX11_readsCommand_184 : decode cX11_readsCommand 184 = .ok (.iconst 1, 1) := by decide +kernel
theorem dX11_readsCommand_185 : decode cX11_readsCommand 185 = .ok (.goto 4, 3) := by decide +kernel
theorem dX11_readsCommand_188 : decode cX11_readsCommand 188 = .ok (.iconst 0, 1) := by decide +kernel
theorem dX11_readsCommand_189 : decode cX11_readsCommand 189 = .ok (.istore_n 2, 1) := by decide +kernel
theorem dX11_readsCommand_190 : decode cX11_readsCommand 190 = .ok (.aload_n 0, 1) := by decide +kernel
theorem dX11_readsCommand_191 : decode cX11_readsCommand 191 = .ok (.iload_n 2, 1) := by decide +kernel
theorem dX11_readsCommand_192 : decode cX11_readsCommand 192 = .ok (.ifCond .eq 8, 3) := by decide +kernel
theorem dX11_readsCommand_195 : decode cX11_readsCommand 195 = .ok (.bipush 121, 2) := by decide +kernel
theorem dX11_readsCommand_197 : decode cX11_readsCommand 197 = .ok (.goto 5, 3) := by decide +kernel
theorem dX11_readsCommand_200 : decode cX11_readsCommand 200 = .ok (.bipush 100, 2) := by decide +kernel
theorem dX11_readsCommand_202 : decode cX11_readsCommand 202 = .ok (.iload_n 2, 1) := by decide +kernel
theorem dX11_readsCommand_203 : decode cX11_readsCommand 203 = .ok (.ifCond .eq 9, 3) := by decide +kernel
theorem dX11_readsCommand_206 : decode cX11_readsCommand 206 = .ok (.ldc_w 304, 3) := by decide +kernel
theorem dX11_readsCommand_209 : decode cX11_readsCommand 209 = .ok (.goto 6, 3) := by decide +kernel
theorem dX11_readsCommand_212 : decode cX11_readsCommand 212 = .ok (.ldc_w 306, 3) := by decide +kernel
theorem dX11_readsCommand_215 : decode cX11_readsCommand 215 = .ok (.invokevirtual 290, 3) := by decide +kernel
theorem dX11_readsCommand_218 : decode cX11_readsCommand 218 = .ok (.return_, 1) := by decide +kernel
abbrev rmX11_readsCommand : Room := { frames := 10, cells := 32, slots := 80, locals := 285 }
set_option maxHeartbeats 4000000 in
set_option maxRecDepth 100000 in
theorem metX11_readsCommand {l : Launch} {s0 : State} {b B : Nat} {D : va_G} {T : Nat → ClassId} (F : FX l s0 b D T B) {X : Nat → Prop} (hX : ∀ o, o < 12 → ¬ X (B + o)) {N : Nat} {μ : Mem} {a0 : Nat} {r : Mem} (k0 : IsMo a0) (h : fX11_readsCommand N μ a0 = some r) : gMet l yX11_readsCommand cX11_readsCommand 3 none rmX11_readsCommand [.ref (B + a0)] (gWM D T B μ) (KC s0 X) none (gWM D T B r) (gA B X) 32 80 := by
  refine gV_of RX11 (by decide +kernel) rfl (Nat.le_of_ble_eq_true rfl) ?_
  intro p e s m args below meth c ls Q hx hb hlocks hml hown hts hW hk hl hS hend
  have hC := FX_C F hk hx hb hown hts
  have hA := gA_allM hX
  have hl : lv_has ls 3 [(0, .ref (B + a0))] := hl
  unfold fX11_readsCommand at h
  refine lv_aload_n hx hb dX11_readsCommand_0 rfl (lv_at hl 0 rfl) ?_
  refine gw_get (v := .int (μ a0 19)) hC hW fl_X11_259.1 k0.1 (k0.2.1 T B (μ a0)) rfl dX11_readsCommand_1 ?_
  refine lv_if_eq (tgt := 8) hx hb dX11_readsCommand_4 (by decide) (fun c1 => ?_) (fun c1 => ?_)
  · replace h := ite_t c1 h
    refine lv_aload_n hx hb dX11_readsCommand_8 rfl (lv_at hl 0 rfl) ?_
    refine lv_iconst (v := 0) hx hb dX11_readsCommand_9 (by decide) ?_
    obtain ⟨r2, hcall, h⟩ := bd_out h
    refine g0_callV (As := [.int 0]) hC hml hS hW (KC_at hk hS F.2.2.2.2) KC_blind (metX11_behind F hX k0 hcall) ml_X11_263 (gw_recv hC hW k0.1 (k0.2.1 T B (μ a0)) rfl) ⟨rfl, rfl, (Nat.le_of_ble_eq_true rfl), (Nat.le_of_ble_eq_true rfl)⟩ rfl hl.1 rfl (Nat.le_of_ble_eq_true rfl) dX11_readsCommand_10 ⟨(Nat.le_of_ble_eq_true rfl), (Nat.le_of_ble_eq_true rfl)⟩ (fun H locs hW hS => ?_)
    refine lv_istore_n (lv' := [(1, .int r2), (0, .ref (B + a0))]) hx hb dX11_readsCommand_13 rfl hl (by decide) rfl (fun ls hl => ?_)
    refine lv_iload_n hx hb dX11_readsCommand_14 rfl (lv_at hl 0 rfl) ?_
    obtain ⟨j4, hj6, h⟩ := jn1_o h
    have J5 : ∀ (μ3 : Mem), j4 μ3 = some r → ∀ (H : Heap) (locs : List Loc) (ls : Array Slot), gWM D T B μ3 H → va_S (gA B X) s.heap H locs → lv_has ls 3 [] → W p l e rmX11_readsCommand s m args below meth c H locs 32 80 Q (F0 m 218 ls []) := by
      clear h hW hS hl
      intro μ3 h H locs ls hW hS hl
      replace h := (hj6 μ3).symm.trans h
      cases h
      exact hend dX11_readsCommand_218 hW hS (Nat.le_of_ble_eq_true rfl) (Nat.le_of_ble_eq_true rfl)
    obtain ⟨j8, hj10, h⟩ := jn1_o h
    have J9 : ∀ (u7 : Unit), j8 u7 = some r → ∀ (H : Heap) (locs : List Loc) (ls : Array Slot), gWM D T B μ H → va_S (gA B X) s.heap H locs → lv_has ls 3 [(0, .ref (B + a0))] → W p l e rmX11_readsCommand s m args below meth c H locs 0 0 Q (F0 m 174 ls []) := by
      clear h hW hS hl
      intro u7 h H locs ls hW hS hl
      replace h := (hj10 u7).symm.trans h
      refine lv_aload_n hx hb dX11_readsCommand_174 rfl (lv_at hl 0 rfl) ?_
      refine lv_iconst (v := 1) hx hb dX11_readsCommand_175 (by decide) ?_
      obtain ⟨r11, hcall, h⟩ := bd_out h
      refine g0_callV (As := [.int 1]) hC hml hS hW (KC_at hk hS F.2.2.2.2) KC_blind (metX11_behind F hX k0 hcall) ml_X11_263 (gw_recv hC hW k0.1 (k0.2.1 T B (μ a0)) rfl) ⟨rfl, rfl, (Nat.le_of_ble_eq_true rfl), (Nat.le_of_ble_eq_true rfl)⟩ rfl hl.1 rfl (Nat.le_of_ble_eq_true rfl) dX11_readsCommand_176 ⟨(Nat.le_of_ble_eq_true rfl), (Nat.le_of_ble_eq_true rfl)⟩ (fun H locs hW hS => ?_)
      refine lv_bipush (v := 97) hx hb dX11_readsCommand_179 (by decide) ?_
      obtain ⟨j13, hj15, h⟩ := jn1_o h
      have J14 : ∀ (y12 : Bool), j13 y12 = some r → ∀ (H : Heap) (locs : List Loc) (ls : Array Slot), gWM D T B μ H → va_S (gA B X) s.heap H locs → lv_has ls 3 [(0, .ref (B + a0))] → W p l e rmX11_readsCommand s m args below meth c H locs 0 0 Q (F0 m 189 ls [.int (b2i y12)]) := by
        clear h hW hS hl
        intro y12 h H locs ls hW hS hl
        replace h := (hj15 y12).symm.trans h
        refine lv_istore_n (lv' := [(2, .int (b2i y12)), (0, .ref (B + a0))]) hx hb dX11_readsCommand_189 rfl hl (by decide) rfl (fun ls hl => ?_)
        refine lv_aload_n hx hb dX11_readsCommand_190 rfl (lv_at hl 1 rfl) ?_
        refine lv_iload_n hx hb dX11_readsCommand_191 rfl (lv_at hl 0 rfl) ?_
        obtain ⟨j17, hj19, h⟩ := jn1_o h
        have J18 : ∀ (y16 : Int32), j17 y16 = some r → ∀ (H : Heap) (locs : List Loc) (ls : Array Slot), gWM D T B μ H → va_S (gA B X) s.heap H locs → lv_has ls 3 [(2, .int (b2i y12))] → W p l e rmX11_readsCommand s m args below meth c H locs 0 0 Q (F0 m 202 ls [.int y16, .ref (B + a0)]) := by
          clear h hW hS hl
          intro y16 h H locs ls hW hS hl
          replace h := (hj19 y16).symm.trans h
          refine lv_iload_n hx hb dX11_readsCommand_202 rfl (lv_at hl 0 rfl) ?_
          obtain ⟨j21, hj23, h⟩ := jn1_o h
          have J22 : ∀ (y20 : Nat), j21 y20 = some r → ∀ (H : Heap) (locs : List Loc) (ls : Array Slot), gWM D T B μ H → va_S (gA B X) s.heap H locs → lv_has ls 3 [] → W p l e rmX11_readsCommand s m args below meth c H locs 0 0 Q (F0 m 215 ls [.ref (gsa s0 y20), .int y16, .ref (B + a0)]) := by
            clear h hW hS hl
            intro y20 h H locs ls hW hS hl
            replace h := (hj23 y20).symm.trans h
            obtain ⟨hsy20, h⟩ := gd_out h
            obtain ⟨r24, hcall, h⟩ := bd_out h
            refine gw_callV (As := [.int y16, .ref (gsa s0 y20)]) hC hml hS hW (KC_at hk hS F.2.2.2.2) KC_blind (metX11_reads F hX k0 hsy20 hcall) ml_X11_290 (gw_recv hC hW k0.1 (k0.2.1 T B (μ a0)) rfl) (fun _ h => h) ⟨rfl, rfl, (Nat.le_of_ble_eq_true rfl), (Nat.le_of_ble_eq_true rfl)⟩ rfl hl.1 rfl (Nat.le_of_ble_eq_true rfl) dX11_readsCommand_215 ⟨(Nat.le_of_ble_eq_true rfl), (Nat.le_of_ble_eq_true rfl)⟩ (fun H locs hW hS _ _ => ?_)
            refine W.widen (k := 32) (n := 80) (Nat.le_of_ble_eq_true rfl) (Nat.le_of_ble_eq_true rfl) ?_
            exact J5 _ h _ _ _ hW hS (lv_sub hl [] rfl)
          refine gw_if_eqZ (tgt := 212) hx hb dX11_readsCommand_203 (by decide) (fun c25 => ?_) (fun c25 => ?_)
          · replace h := cond_f c25 h
            refine g_ldcS F hk hC ls_X11_306 (c0 := 16) rfl dX11_readsCommand_212 ?_
            exact J22 _ h _ _ _ hW hS (lv_sub hl [] rfl)
          · replace h := cond_t c25 h
            refine g_ldcS F hk hC ls_X11_304 (c0 := 15) rfl dX11_readsCommand_206 ?_
            refine lv_goto (tgt := 215) hx hb dX11_readsCommand_209 (by decide) ?_
            exact J22 _ h _ _ _ hW hS (lv_sub hl [] rfl)
        refine gw_if_eqZ (tgt := 200) hx hb dX11_readsCommand_192 (by decide) (fun c26 => ?_) (fun c26 => ?_)
        · replace h := cond_f c26 h
          refine lv_bipush (v := 100) hx hb dX11_readsCommand_200 (by decide) ?_
          exact J18 _ h _ _ _ hW hS (lv_sub hl [0] rfl)
        · replace h := cond_t c26 h
          refine lv_bipush (v := 121) hx hb dX11_readsCommand_195 (by decide) ?_
          refine lv_goto (tgt := 202) hx hb dX11_readsCommand_197 (by decide) ?_
          exact J18 _ h _ _ _ hW hS (lv_sub hl [0] rfl)
      refine lv_icmp_ne (tgt := 188) hx hb dX11_readsCommand_181 (by decide) (fun c27 => ?_) (fun c27 => ?_)
      · replace h := ite_f c27 h
        refine lv_iconst (v := 0) hx hb dX11_readsCommand_188 (by decide) ?_
        exact J14 _ h _ _ _ hW hS (lv_sub hl [0] rfl)
      · replace h := ite_t c27 h
        refine lv_iconst (v := 1) hx hb dX11_readsCommand_184 (by decide) ?_
        refine lv_goto (tgt := 189) hx hb dX11_readsCommand_185 (by decide) ?_
        exact J14 _ h _ _ _ hW hS (lv_sub hl [0] rfl)
    by_cases c28 : r2 = 97
    · replace h := ite_t c28 h
      refine lv_tableIn (tgt := 152) (off := 137) hx hb dX11_readsCommand_15 (by rw [c28]; decide) (by rw [c28]; decide) (by rw [c28]; rfl) (by decide) ?_
      refine lv_aload_n hx hb dX11_readsCommand_152 rfl (lv_at hl 1 rfl) ?_
      refine lv_iload_n hx hb dX11_readsCommand_153 rfl (lv_at hl 0 rfl) ?_
      refine g_ldcS F hk hC ls_X11_300 (c0 := 13) rfl dX11_readsCommand_154 ?_
      obtain ⟨r29, hcall, h⟩ := bd_out h
      refine gw_callV (As := [.int r2, .ref (gsa s0 13)]) hC hml hS hW (KC_at hk hS F.2.2.2.2) KC_blind (metX11_reads F hX k0 sok_13 hcall) ml_X11_290 (gw_recv hC hW k0.1 (k0.2.1 T B (μ a0)) rfl) (fun _ h => h) ⟨rfl, rfl, (Nat.le_of_ble_eq_true rfl), (Nat.le_of_ble_eq_true rfl)⟩ rfl hl.1 rfl (Nat.le_of_ble_eq_true rfl) dX11_readsCommand_157 ⟨(Nat.le_of_ble_eq_true rfl), (Nat.le_of_ble_eq_true rfl)⟩ (fun H locs hW hS _ _ => ?_)
      refine W.widen (k := 32) (n := 80) (Nat.le_of_ble_eq_true rfl) (Nat.le_of_ble_eq_true rfl) ?_
      refine lv_goto (tgt := 218) hx hb dX11_readsCommand_160 (by decide) ?_
      exact J5 _ h _ _ _ hW hS (lv_sub hl [] rfl)
    replace h := ite_f c28 h
    by_cases c30 : r2 = 98
    · replace h := ite_t c30 h
      refine lv_tableIn (tgt := 174) (off := 159) hx hb dX11_readsCommand_15 (by rw [c30]; decide) (by rw [c30]; decide) (by rw [c30]; rfl) (by decide) ?_
      exact J9 _ h _ _ _ hW hS (lv_sub hl [1] rfl)
    replace h := ite_f c30 h
    by_cases c31 : r2 = 99
    · replace h := ite_t c31 h
      refine lv_tableIn (tgt := 174) (off := 159) hx hb dX11_readsCommand_15 (by rw [c31]; decide) (by rw [c31]; decide) (by rw [c31]; rfl) (by decide) ?_
      exact J9 _ h _ _ _ hW hS (lv_sub hl [1] rfl)
    replace h := ite_f c31 h
    by_cases c32 : r2 = 100
    · replace h := ite_t c32 h
      refine lv_tableIn (tgt := 174) (off := 159) hx hb dX11_readsCommand_15 (by rw [c32]; decide) (by rw [c32]; decide) (by rw [c32]; rfl) (by decide) ?_
      exact J9 _ h _ _ _ hW hS (lv_sub hl [1] rfl)
    replace h := ite_f c32 h
    by_cases c33 : r2 = 101
    · replace h := ite_t c33 h
      refine lv_tableIn (tgt := 174) (off := 159) hx hb dX11_readsCommand_15 (by rw [c33]; decide) (by rw [c33]; decide) (by rw [c33]; rfl) (by decide) ?_
      exact J9 _ h _ _ _ hW hS (lv_sub hl [1] rfl)
    replace h := ite_f c33 h
    by_cases c34 : r2 = 102
    · replace h := ite_t c34 h
      refine lv_tableIn (tgt := 174) (off := 159) hx hb dX11_readsCommand_15 (by rw [c34]; decide) (by rw [c34]; decide) (by rw [c34]; rfl) (by decide) ?_
      exact J9 _ h _ _ _ hW hS (lv_sub hl [1] rfl)
    replace h := ite_f c34 h
    by_cases c35 : r2 = 103
    · replace h := ite_t c35 h
      refine lv_tableIn (tgt := 174) (off := 159) hx hb dX11_readsCommand_15 (by rw [c35]; decide) (by rw [c35]; decide) (by rw [c35]; rfl) (by decide) ?_
      exact J9 _ h _ _ _ hW hS (lv_sub hl [1] rfl)
    replace h := ite_f c35 h
    by_cases c36 : r2 = 104
    · replace h := ite_t c36 h
      refine lv_tableIn (tgt := 174) (off := 159) hx hb dX11_readsCommand_15 (by rw [c36]; decide) (by rw [c36]; decide) (by rw [c36]; rfl) (by decide) ?_
      exact J9 _ h _ _ _ hW hS (lv_sub hl [1] rfl)
    replace h := ite_f c36 h
    by_cases c37 : r2 = 105
    · replace h := ite_t c37 h
      refine lv_tableIn (tgt := 174) (off := 159) hx hb dX11_readsCommand_15 (by rw [c37]; decide) (by rw [c37]; decide) (by rw [c37]; rfl) (by decide) ?_
      exact J9 _ h _ _ _ hW hS (lv_sub hl [1] rfl)
    replace h := ite_f c37 h
    by_cases c38 : r2 = 106
    · replace h := ite_t c38 h
      refine lv_tableIn (tgt := 174) (off := 159) hx hb dX11_readsCommand_15 (by rw [c38]; decide) (by rw [c38]; decide) (by rw [c38]; rfl) (by decide) ?_
      exact J9 _ h _ _ _ hW hS (lv_sub hl [1] rfl)
    replace h := ite_f c38 h
    by_cases c39 : r2 = 107
    · replace h := ite_t c39 h
      refine lv_tableIn (tgt := 174) (off := 159) hx hb dX11_readsCommand_15 (by rw [c39]; decide) (by rw [c39]; decide) (by rw [c39]; rfl) (by decide) ?_
      exact J9 _ h _ _ _ hW hS (lv_sub hl [1] rfl)
    replace h := ite_f c39 h
    by_cases c40 : r2 = 108
    · replace h := ite_t c40 h
      refine lv_tableIn (tgt := 119) (off := 104) hx hb dX11_readsCommand_15 (by rw [c40]; decide) (by rw [c40]; decide) (by rw [c40]; rfl) (by decide) ?_
      refine lv_aload_n hx hb dX11_readsCommand_119 rfl (lv_at hl 1 rfl) ?_
      refine lv_iload_n hx hb dX11_readsCommand_120 rfl (lv_at hl 0 rfl) ?_
      refine g_ldcS F hk hC ls_X11_294 (c0 := 10) rfl dX11_readsCommand_121 ?_
      obtain ⟨r41, hcall, h⟩ := bd_out h
      refine gw_callV (As := [.int r2, .ref (gsa s0 10)]) hC hml hS hW (KC_at hk hS F.2.2.2.2) KC_blind (metX11_reads F hX k0 sok_10 hcall) ml_X11_290 (gw_recv hC hW k0.1 (k0.2.1 T B (μ a0)) rfl) (fun _ h => h) ⟨rfl, rfl, (Nat.le_of_ble_eq_true rfl), (Nat.le_of_ble_eq_true rfl)⟩ rfl hl.1 rfl (Nat.le_of_ble_eq_true rfl) dX11_readsCommand_124 ⟨(Nat.le_of_ble_eq_true rfl), (Nat.le_of_ble_eq_true rfl)⟩ (fun H locs hW hS _ _ => ?_)
      refine W.widen (k := 32) (n := 80) (Nat.le_of_ble_eq_true rfl) (Nat.le_of_ble_eq_true rfl) ?_
      refine lv_goto (tgt := 218) hx hb dX11_readsCommand_127 (by decide) ?_
      exact J5 _ h _ _ _ hW hS (lv_sub hl [] rfl)
    replace h := ite_f c40 h
    by_cases c42 : r2 = 109
    · replace h := ite_t c42 h
      refine lv_tableIn (tgt := 174) (off := 159) hx hb dX11_readsCommand_15 (by rw [c42]; decide) (by rw [c42]; decide) (by rw [c42]; rfl) (by decide) ?_
      exact J9 _ h _ _ _ hW hS (lv_sub hl [1] rfl)
    replace h := ite_f c42 h
    by_cases c43 : r2 = 110
    · replace h := ite_t c43 h
      refine lv_tableIn (tgt := 174) (off := 159) hx hb dX11_readsCommand_15 (by rw [c43]; decide) (by rw [c43]; decide) (by rw [c43]; rfl) (by decide) ?_
      exact J9 _ h _ _ _ hW hS (lv_sub hl [1] rfl)
    replace h := ite_f c43 h
    by_cases c44 : r2 = 111
    · replace h := ite_t c44 h
      refine lv_tableIn (tgt := 174) (off := 159) hx hb dX11_readsCommand_15 (by rw [c44]; decide) (by rw [c44]; decide) (by rw [c44]; rfl) (by decide) ?_
      exact J9 _ h _ _ _ hW hS (lv_sub hl [1] rfl)
    replace h := ite_f c44 h
    by_cases c45 : r2 = 112
    · replace h := ite_t c45 h
      refine lv_tableIn (tgt := 130) (off := 115) hx hb dX11_readsCommand_15 (by rw [c45]; decide) (by rw [c45]; decide) (by rw [c45]; rfl) (by decide) ?_
      refine lv_aload_n hx hb dX11_readsCommand_130 rfl (lv_at hl 1 rfl) ?_
      refine lv_iload_n hx hb dX11_readsCommand_131 rfl (lv_at hl 0 rfl) ?_
      refine g_ldcS F hk hC ls_X11_296 (c0 := 11) rfl dX11_readsCommand_132 ?_
      obtain ⟨r46, hcall, h⟩ := bd_out h
      refine gw_callV (As := [.int r2, .ref (gsa s0 11)]) hC hml hS hW (KC_at hk hS F.2.2.2.2) KC_blind (metX11_reads F hX k0 sok_11 hcall) ml_X11_290 (gw_recv hC hW k0.1 (k0.2.1 T B (μ a0)) rfl) (fun _ h => h) ⟨rfl, rfl, (Nat.le_of_ble_eq_true rfl), (Nat.le_of_ble_eq_true rfl)⟩ rfl hl.1 rfl (Nat.le_of_ble_eq_true rfl) dX11_readsCommand_135 ⟨(Nat.le_of_ble_eq_true rfl), (Nat.le_of_ble_eq_true rfl)⟩ (fun H locs hW hS _ _ => ?_)
      refine W.widen (k := 32) (n := 80) (Nat.le_of_ble_eq_true rfl) (Nat.le_of_ble_eq_true rfl) ?_
      refine lv_goto (tgt := 218) hx hb dX11_readsCommand_138 (by decide) ?_
      exact J5 _ h _ _ _ hW hS (lv_sub hl [] rfl)
    replace h := ite_f c45 h
    by_cases c47 : r2 = 113
    · replace h := ite_t c47 h
      refine lv_tableIn (tgt := 174) (off := 159) hx hb dX11_readsCommand_15 (by rw [c47]; decide) (by rw [c47]; decide) (by rw [c47]; rfl) (by decide) ?_
      exact J9 _ h _ _ _ hW hS (lv_sub hl [1] rfl)
    replace h := ite_f c47 h
    by_cases c48 : r2 = 114
    · replace h := ite_t c48 h
      refine lv_tableIn (tgt := 108) (off := 93) hx hb dX11_readsCommand_15 (by rw [c48]; decide) (by rw [c48]; decide) (by rw [c48]; rfl) (by decide) ?_
      refine lv_aload_n hx hb dX11_readsCommand_108 rfl (lv_at hl 1 rfl) ?_
      refine lv_iload_n hx hb dX11_readsCommand_109 rfl (lv_at hl 0 rfl) ?_
      refine g_ldcS F hk hC ls_X11_288 (c0 := 9) rfl dX11_readsCommand_110 ?_
      obtain ⟨r49, hcall, h⟩ := bd_out h
      refine gw_callV (As := [.int r2, .ref (gsa s0 9)]) hC hml hS hW (KC_at hk hS F.2.2.2.2) KC_blind (metX11_reads F hX k0 sok_9 hcall) ml_X11_290 (gw_recv hC hW k0.1 (k0.2.1 T B (μ a0)) rfl) (fun _ h => h) ⟨rfl, rfl, (Nat.le_of_ble_eq_true rfl), (Nat.le_of_ble_eq_true rfl)⟩ rfl hl.1 rfl (Nat.le_of_ble_eq_true rfl) dX11_readsCommand_113 ⟨(Nat.le_of_ble_eq_true rfl), (Nat.le_of_ble_eq_true rfl)⟩ (fun H locs hW hS _ _ => ?_)
      refine W.widen (k := 32) (n := 80) (Nat.le_of_ble_eq_true rfl) (Nat.le_of_ble_eq_true rfl) ?_
      refine lv_goto (tgt := 218) hx hb dX11_readsCommand_116 (by decide) ?_
      exact J5 _ h _ _ _ hW hS (lv_sub hl [] rfl)
    replace h := ite_f c48 h
    by_cases c50 : r2 = 115
    · replace h := ite_t c50 h
      refine lv_tableIn (tgt := 141) (off := 126) hx hb dX11_readsCommand_15 (by rw [c50]; decide) (by rw [c50]; decide) (by rw [c50]; rfl) (by decide) ?_
      refine lv_aload_n hx hb dX11_readsCommand_141 rfl (lv_at hl 1 rfl) ?_
      refine lv_iload_n hx hb dX11_readsCommand_142 rfl (lv_at hl 0 rfl) ?_
      refine g_ldcS F hk hC ls_X11_298 (c0 := 12) rfl dX11_readsCommand_143 ?_
      obtain ⟨r51, hcall, h⟩ := bd_out h
      refine gw_callV (As := [.int r2, .ref (gsa s0 12)]) hC hml hS hW (KC_at hk hS F.2.2.2.2) KC_blind (metX11_reads F hX k0 sok_12 hcall) ml_X11_290 (gw_recv hC hW k0.1 (k0.2.1 T B (μ a0)) rfl) (fun _ h => h) ⟨rfl, rfl, (Nat.le_of_ble_eq_true rfl), (Nat.le_of_ble_eq_true rfl)⟩ rfl hl.1 rfl (Nat.le_of_ble_eq_true rfl) dX11_readsCommand_146 ⟨(Nat.le_of_ble_eq_true rfl), (Nat.le_of_ble_eq_true rfl)⟩ (fun H locs hW hS _ _ => ?_)
      refine W.widen (k := 32) (n := 80) (Nat.le_of_ble_eq_true rfl) (Nat.le_of_ble_eq_true rfl) ?_
      refine lv_goto (tgt := 218) hx hb dX11_readsCommand_149 (by decide) ?_
      exact J5 _ h _ _ _ hW hS (lv_sub hl [] rfl)
    replace h := ite_f c50 h
    by_cases c52 : r2 = 116
    · replace h := ite_t c52 h
      refine lv_tableIn (tgt := 163) (off := 148) hx hb dX11_readsCommand_15 (by rw [c52]; decide) (by rw [c52]; decide) (by rw [c52]; rfl) (by decide) ?_
      refine lv_aload_n hx hb dX11_readsCommand_163 rfl (lv_at hl 1 rfl) ?_
      refine lv_iload_n hx hb dX11_readsCommand_164 rfl (lv_at hl 0 rfl) ?_
      refine g_ldcS F hk hC ls_X11_302 (c0 := 14) rfl dX11_readsCommand_165 ?_
      obtain ⟨r53, hcall, h⟩ := bd_out h
      refine gw_callV (As := [.int r2, .ref (gsa s0 14)]) hC hml hS hW (KC_at hk hS F.2.2.2.2) KC_blind (metX11_reads F hX k0 sok_14 hcall) ml_X11_290 (gw_recv hC hW k0.1 (k0.2.1 T B (μ a0)) rfl) (fun _ h => h) ⟨rfl, rfl, (Nat.le_of_ble_eq_true rfl), (Nat.le_of_ble_eq_true rfl)⟩ rfl hl.1 rfl (Nat.le_of_ble_eq_true rfl) dX11_readsCommand_168 ⟨(Nat.le_of_ble_eq_true rfl), (Nat.le_of_ble_eq_true rfl)⟩ (fun H locs hW hS _ _ => ?_)
      refine W.widen (k := 32) (n := 80) (Nat.le_of_ble_eq_true rfl) (Nat.le_of_ble_eq_true rfl) ?_
      refine lv_goto (tgt := 218) hx hb dX11_readsCommand_171 (by decide) ?_
      exact J5 _ h _ _ _ hW hS (lv_sub hl [] rfl)
    replace h := ite_f c52 h
    refine lv_tableOut (tgt := 174) hx hb dX11_readsCommand_15 (sw_out (lo := 97) (hi := 116) (fun k h1 h2 => by rcases (show k = 97 ∨ k = 98 ∨ k = 99 ∨ k = 100 ∨ k = 101 ∨ k = 102 ∨ k = 103 ∨ k = 104 ∨ k = 105 ∨ k = 106 ∨ k = 107 ∨ k = 108 ∨ k = 109 ∨ k = 110 ∨ k = 111 ∨ k = 112 ∨ k = 113 ∨ k = 114 ∨ k = 115 ∨ k = 116 by omega) with rfl | rfl | rfl | rfl | rfl | rfl | rfl | rfl | rfl | rfl | rfl | rfl | rfl | rfl | rfl | rfl | rfl | rfl | rfl | rfl <;> assumption)) (by decide) ?_
    exact J9 _ h _ _ _ hW hS (lv_sub hl [1] rfl)
  · replace h := ite_f c1 h
    cases h
    exact hend dX11_readsCommand_7 hW hS (Nat.le_of_ble_eq_true rfl) (Nat.le_of_ble_eq_true rfl)

theorem dX11_execute_0 : decode cX11_execute 0 = .ok (.aload_n 0, 1) := by decide +kernel
theorem dX11_execute_1 : decode cX11_execute 1 = .ok (.iconst 0, 1) := by decide +kernel
theorem dX11_execute_2 : decode cX11_execute 2 = .ok (.putfield 252, 3) := by decide +kernel
theorem dX11_execute_5 : decode cX11_execute 5 = .ok (.aload_n 0, 1) := by decide +kernel
theorem dX11_execute_6 : decode cX11_execute 6 = .ok (.iconst 0, 1) := by decide +kernel
theorem dX11_execute_7 : decode cX11_execute 7 = .ok (.putfield 259, 3) := by decide +kernel
theorem dX11_execute_10 : decode cX11_execute 10 = .ok (.aload_n 0, 1) := by decide +kernel
theorem dX11_execute_11 : decode cX11_execute 11 = .ok (.iconst 0, 1) := by decide +kernel
theorem dX11_execute_12 : decode cX11_execute 12 = .ok (.putfield 270, 3) := by decide +kernel
theorem dX11_execute_15 : decode cX11_execute 15 = .ok (.aload_n 0, 1) := by decide +kernel
theorem dX11_execute_16 : decode cX11_execute 16 = .ok (.invokevirtual 308, 3) := by decide +kernel
theorem dX11_execute_19 : decode cX11_execute 19 = .ok (.aload_n 0, 1) := by decide +kernel
theorem dX11_execute_20 : decode cX11_execute 20 = .ok (.getfield 259, 3) := by decide +kernel
theorem dX11_execute_23 : decode cX11_execute 23 = .ok (.ifCond .ne 30, 3) := by decide +kernel
theorem dX11_execute_26 : decode cX11_execute 26 = .ok (.aload_n 0, 1) := by decide +kernel
theorem dX11_execute_27 : decode cX11_execute 27 = .ok (.iconst 0, 1) := by decide +kernel
theorem dX11_execute_28 : decode cX11_execute 28 = .ok (.invokevirtual 263, 3) := by decide +kernel
theorem dX11_execute_31 : decode cX11_execute 31 = .ok (.bipush 59, 2) := by decide +kernel
theorem dX11_execute_33 : decode cX11_execute 33 = .ok (.if_icmp .ne 20, 3) := by decide +kernel
theorem dX11_execute_36 : decode cX11_execute 36 = .ok (.aload_n 0, 1) := by decide +kernel
theorem dX11_execute_37 : decode cX11_execute 37 = .ok (.dup, 1) := by decide +kernel
theorem dX11_execute_38 : decode cX11_execute 38 = .ok (.getfield 252, 3) := by decide +kernel
theorem dX11_execute_41 : decode cX11_execute 41 = .ok (.iconst 1, 1) := by decide +kernel
theorem dX11_execute_42 : decode cX11_execute 42 = .ok (.iadd, 1) := by decide +kernel
theorem dX11_execute_43 : decode cX11_execute 43 = .ok (.putfield 252, 3) := by decide +kernel
theorem dX11_execute_46 : decode cX11_execute 46 = .ok (.aload_n 0, 1) := by decide +kernel
theorem dX11_execute_47 : decode cX11_execute 47 = .ok (.invokevirtual 308, 3) := by decide +kernel
theorem dX11_execute_50 : decode cX11_execute 50 = .ok (.goto (-31), 3) := by decide +kernel
theorem dX11_execute_53 : decode cX11_execute 53 = .ok (.aload_n 0, 1) := by decide +kernel
theorem dX11_execute_54 : decode cX11_execute 54 = .ok (.aload_n 0, 1) := by decide +kernel
theorem dX11_execute_55 : decode cX11_execute 55 = .ok (.getfield 259, 3) := by decide +kernel
theorem dX11_execute_58 : decode cX11_execute 58 = .ok (.ifCond .ne 14, 3) := by decide +kernel
theorem dX11_execute_61 : decode cX11_execute 61 = .ok (.aload_n 0, 1) := by decide +kernel
theorem dX11_execute_62 : decode cX11_execute 62 = .ok (.getfield 252, 3) := by decide +kernel
theorem dX11_execute_65 : decode cX11_execute 65 = .ok (.aload_n 0, 1) := by decide +kernel
theorem dX11_execute_66 : decode cX11_execute 66 = .ok (.getfield 249, 3) := by decide +kernel
theorem dX11_execute_69 : decode cX11_execute 69 = .ok (.if_icmp .ge 7, 3) := by decide +kernel
theorem dX11_execute_72 : decode cX11_execute 72 = .ok (.iconst 1, 1) := by decide +kernel
theorem dX11_execute_73 : decode cX11_execute 73 = .ok (.goto 4, 3) := by decide +kernel
theorem dX11_execute_76 : decode cX11_execute 76 = .ok (.iconst 0, 1) := by decide +kernel
theorem dX11_execute_77 : decode cX11_execute 77 = .ok (.putfield 259, 3) := by decide +kernel
theorem dX11_execute_80 : decode cX11_execute 80 = .ok (.aload_n 0, 1) := by decide +kernel
theorem dX11_execute_81 : decode cX11_execute 81 = .ok (.aload_n 0, 1) := by decide +kernel
theorem dX11_execute_82 : decode cX11_execute 82 = .ok (.getfield 259, 3) := by decide +kernel
theorem dX11_execute_85 : decode cX11_execute 85 = .ok (.ifCond .eq 10, 3) := by decide +kernel
theorem dX11_execute_88 : decode cX11_execute 88 = .ok (.aload_n 0, 1) := by decide +kernel
theorem dX11_execute_89 : decode cX11_execute 89 = .ok (.getfield 252, 3) := by decide +kernel
theorem dX11_execute_92 : decode cX11_execute 92 = .ok (.goto 7, 3) := by decide +kernel
theorem dX11_execute_95 : decode cX11_execute 95 = .ok (.aload_n 0, 1) := by decide +kernel
theorem dX11_execute_96 : decode cX11_execute 96 = .ok (.getfield 41, 3) := by decide +kernel
theorem dX11_execute_99 : decode cX11_execute 99 = .ok (.putfield 41, 3) := by decide +kernel
theorem dX11_execute_102 : decode cX11_execute 102 = .ok (.aload_n 0, 1) := by decide +kernel
theorem dX11_execute_103 : decode cX11_execute 103 = .ok (.iconst 0, 1) := by decide +kernel
theorem dX11_execute_104 : decode cX11_execute 104 = .ok (.putfield 249, 3) := by decide +kernel
theorem dX11_execute_107 : decode cX11_execute 107 = .ok (.aload_n 0, 1) := by decide +kernel
theorem dX11_execute_108 : decode cX11_execute 108 = .ok (.getfield 259, 3) := by decide +kernel
theorem dX11_execute_111 : decode cX11_execute 111 = .ok (.ifCond .eq 9, 3) := by decide +kernel
theorem dX11_execute_114 : decode cX11_execute 114 = .ok (.aload_n 0, 1) := by decide +kernel
theorem dX11_execute_115 : decode cX11_execute 115 = .ok (.iconst 1, 1) := by decide +kernel
theorem dX11_execute_116 : decode cX11_execute 116 = .ok (.invokevirtual 69, 3) := by decide +kernel
theorem dX11_execute_119 : decode cX11_execute 119 = .ok (.ireturn, 1) := by decide +kernel
theorem dX11_execute_120 : decode cX11_execute 120 = .ok (.aload_n 0, 1) := by decide +kernel
theorem dX11_execute_121 : decode cX11_execute 121 = .ok (.invokevirtual 83, 3) := by decide +kernel
theorem dX11_execute_124 : decode cX11_execute 124 = .ok (.iconst 0, 1) := by decide +kernel
theorem dX11_execute_125 : decode cX11_execute 125 = .ok (.istore_n 1, 1) := by decide +kernel
theorem dX11_execute_126 : decode cX11_execute 126 = .ok (.iload_n 1, 1) := by decide +kernel
theorem dX11_execute_127 : decode cX11_execute 127 = .ok (.aload_n 0, 1) := by decide +kernel
theorem dX11_execute_128 : decode cX11_execute 128 = .ok (.getfield 270, 3) := by decide +kernel
theorem dX11_execute_131 : decode cX11_execute 131 = .ok (.if_icmp .ge 36, 3) := by decide +kernel
theorem dX11_execute_134 : decode cX11_execute 134 = .ok (.aload_n 0, 1) := by decide +kernel
theorem dX11_execute_135 : decode cX11_execute 135 = .ok (.iload_n 1, 1) := by decide +kernel
theorem dX11_execute_136 : decode cX11_execute 136 = .ok (.invokevirtual 311, 3) := by decide +kernel
theorem dX11_execute_139 : decode cX11_execute 139 = .ok (.aload_n 0, 1) := by decide +kernel
theorem dX11_execute_140 : decode cX11_execute 140 = .ok (.getfield 51, 3) := by decide +kernel
theorem dX11_execute_143 : decode cX11_execute 143 = .ok (.ifCond .le 18, 3) := by decide +kernel
theorem dX11_execute_146 : decode cX11_execute 146 = .ok (.aload_n 0, 1) := by decide +kernel
theorem dX11_execute_147 : decode cX11_execute 147 = .ok (.iload_n 1, 1) := by decide +kernel
theorem dX11_execute_148 : decode cX11_execute 148 = .ok (.putfield 45, 3) := by decide +kernel
theorem dX11_execute_151 : decode cX11_execute 151 = .ok (.aload_n 0, 1) := by decide +kernel
theorem dX11_execute_152 : decode cX11_execute 152 = .ok (.aload_n 0, 1) := by decide +kernel
theorem dX11_execute_153 : decode cX11_execute 153 = .ok (.iconst 2, 1) := by decide +kernel
theorem dX11_execute_154 : decode cX11_execute 154 = .ok (.invokevirtual 69, 3) := by decide +kernel
theorem dX11_execute_157 : decode cX11_execute 157 = .ok (.invokevirtual 89, 3) := by decide +kernel
theorem dX11_execute_160 : decode cX11_execute 160 = .ok (.ireturn, 1) := by decide +kernel
theorem dX11_execute_161 : decode cX11_execute 161 = .ok (.iinc 1 1, 3) := by decide +kernel
theorem dX11_execute_164 : decode cX11_execute 164 = .ok (.goto (-38), 3) := by decide +kernel
theorem dX11_execute_167 : decode cX11_execute 167 = .ok (.aload_n 0, 1) := by decide +kernel
theorem dX11_execute_168 : decode cX11_execute 168 = .ok (.aload_n 0, 1) := by decide +kernel
theorem dX11_execute_169 : decode cX11_execute 169 = .ok (.getfield 270, 3) := by decide +kernel
theorem dX11_execute_172 : decode cX11_execute 172 = .ok (.invokevirtual 89, 3) := by decide +kernel
theorem dX11_execute_175 : decode cX11_execute 175 = .ok (.ireturn, 1) := by decide +kernel
abbrev rmX11_execute : Room := { frames := 11, cells := 1056, slots := 2640, locals := 307 }
set_option maxHeartbeats 4000000 in
set_option maxRecDepth 100000 in
theorem metX11_execute {l : Launch} {s0 : State} {b B : Nat} {D : va_G} {T : Nat → ClassId} (F : FX l s0 b D T B) {X : Nat → Prop} (hX : ∀ o, o < 12 → ¬ X (B + o)) {N : Nat} {μ : Mem} {a0 : Nat} {r : Mem × Int32} (k0 : IsMo a0) (h : fX11_execute N μ a0 = some r) : gMet l yX11_execute cX11_execute 2 (some .int) rmX11_execute [.ref (B + a0)] (gWM D T B μ) (KC s0 X) (some (.int r.2)) (gWM D T B r.1) (gA B X) 1056 2640 := by
  refine gI_of RX11 (by decide +kernel) rfl (Nat.le_of_ble_eq_true rfl) ?_
  intro p e s m args below meth c ls Q hx hb hlocks hml hown hts hW hk hl hS hend
  have hC := FX_C F hk hx hb hown hts
  have hA := gA_allM hX
  have hl : lv_has ls 2 [(0, .ref (B + a0))] := hl
  unfold fX11_execute at h
  refine lv_aload_n hx hb dX11_execute_0 rfl (lv_at hl 0 rfl) ?_
  refine lv_iconst (v := 0) hx hb dX11_execute_1 (by decide) ?_
  obtain ⟨μ1, e2, h⟩ := lt_out h
  refine gq_put hC hS hW hA fl_X11_252 k0.1 (k0.2.1 T B) (by first | exact Nat.le_of_ble_eq_true rfl | omega | (simp only [rmX11_execute]; omega)) rfl rfl rfl e2 dX11_execute_2 (fun H locs hW hS => ?_)
  refine lv_aload_n hx hb dX11_execute_5 rfl (lv_at hl 0 rfl) ?_
  refine lv_iconst (v := 0) hx hb dX11_execute_6 (by decide) ?_
  obtain ⟨μ3, e4, h⟩ := lt_out h
  refine gq_put hC hS hW hA fl_X11_259 k0.1 (k0.2.1 T B) (by first | exact Nat.le_of_ble_eq_true rfl | omega | (simp only [rmX11_execute]; omega)) rfl rfl rfl e4 dX11_execute_7 (fun H locs hW hS => ?_)
  refine lv_aload_n hx hb dX11_execute_10 rfl (lv_at hl 0 rfl) ?_
  refine lv_iconst (v := 0) hx hb dX11_execute_11 (by decide) ?_
  obtain ⟨μ5, e6, h⟩ := lt_out h
  refine gq_put hC hS hW hA fl_X11_270 k0.1 (k0.2.1 T B) (by first | exact Nat.le_of_ble_eq_true rfl | omega | (simp only [rmX11_execute]; omega)) rfl rfl rfl e6 dX11_execute_12 (fun H locs hW hS => ?_)
  refine lv_aload_n hx hb dX11_execute_15 rfl (lv_at hl 0 rfl) ?_
  obtain ⟨r7, hcall, h⟩ := bd_out h
  refine gw_callV (As := []) hC hml hS hW (KC_at hk hS F.2.2.2.2) KC_blind (metX11_readsCommand F hX k0 hcall) ml_X11_308 (gw_recv hC hW k0.1 (k0.2.1 T B (μ5 a0)) rfl) (fun _ h => h) ⟨rfl, rfl, (by first | exact Nat.le_of_ble_eq_true rfl | omega | (simp only [rmX11_execute]; omega)), (by first | exact Nat.le_of_ble_eq_true rfl | omega | (simp only [rmX11_execute]; omega))⟩ rfl hl.1 rfl (by first | exact Nat.le_of_ble_eq_true rfl | omega | (simp only [rmX11_execute]; omega)) dX11_execute_16 ⟨(by first | exact Nat.le_of_ble_eq_true rfl | omega | (simp only [rmX11_execute]; omega)), (by first | exact Nat.le_of_ble_eq_true rfl | omega | (simp only [rmX11_execute]; omega))⟩ (fun H locs hW hS _ _ => ?_)
  refine W.widen (k := 32) (n := 80) (by first | exact Nat.le_of_ble_eq_true rfl | omega | (simp only [rmX11_execute]; omega)) (by first | exact Nat.le_of_ble_eq_true rfl | omega | (simp only [rmX11_execute]; omega)) ?_
  refine W.widen (k := 32 + 0 * 32) (n := 80 + 0 * 80) (by omega) (by omega) ?_
  refine fix2_ind (fun (μ8 : Mem) (κ9 : Nat) => ∀ (H : Heap) (locs : List Loc) (ls : Array Slot), gWM D T B μ8 H → va_S (gA B X) s.heap H locs → lv_has ls 2 [(0, .ref (B + a0))] → W p l e rmX11_execute s m args below meth c H locs (32 + κ9 * 32) (80 + κ9 * 80) Q (F0 m 19 ls [])) ?_ N _ _ h _ _ _ hW hS (lv_sub hl [0] rfl)
  clear h hW hS hl
  intro self10 IH11 μ8 κ9 h H locs ls hW hS hl
  obtain ⟨hκ12, h⟩ := gd_out h
  refine lv_aload_n hx hb dX11_execute_19 rfl (lv_at hl 0 rfl) ?_
  refine gw_get (v := .int (μ8 a0 19)) hC hW fl_X11_259.1 k0.1 (k0.2.1 T B (μ8 a0)) rfl dX11_execute_20 ?_
  obtain ⟨j14, hj16, h⟩ := jn1_o h
  have J15 : ∀ (u13 : Unit), j14 u13 = some r → ∀ (H : Heap) (locs : List Loc) (ls : Array Slot), gWM D T B μ8 H → va_S (gA B X) s.heap H locs → lv_has ls 2 [(0, .ref (B + a0))] → W p l e rmX11_execute s m args below meth c H locs 1056 2640 Q (F0 m 53 ls []) := by
    clear h hW hS hl
    intro u13 h H locs ls hW hS hl
    replace h := (hj16 u13).symm.trans h
    refine lv_aload_n hx hb dX11_execute_53 rfl (lv_at hl 0 rfl) ?_
    refine lv_aload_n hx hb dX11_execute_54 rfl (lv_at hl 0 rfl) ?_
    refine gw_get (v := .int (μ8 a0 19)) hC hW fl_X11_259.1 k0.1 (k0.2.1 T B (μ8 a0)) rfl dX11_execute_55 ?_
    obtain ⟨j18, hj20, h⟩ := jn1_o h
    have J19 : ∀ (y17 : Bool), j18 y17 = some r → ∀ (H : Heap) (locs : List Loc) (ls : Array Slot), gWM D T B μ8 H → va_S (gA B X) s.heap H locs → lv_has ls 2 [(0, .ref (B + a0))] → W p l e rmX11_execute s m args below meth c H locs 1056 2640 Q (F0 m 77 ls [.int (b2i y17), .ref (B + a0)]) := by
      clear h hW hS hl
      intro y17 h H locs ls hW hS hl
      replace h := (hj20 y17).symm.trans h
      obtain ⟨μ21, e22, h⟩ := lt_out h
      refine gq_put hC hS hW hA fl_X11_259 k0.1 (k0.2.1 T B) (by first | exact Nat.le_of_ble_eq_true rfl | omega | (simp only [rmX11_execute]; omega)) rfl (nar_b y17) (fit_b y17) e22 dX11_execute_77 (fun H locs hW hS => ?_)
      refine lv_aload_n hx hb dX11_execute_80 rfl (lv_at hl 0 rfl) ?_
      refine lv_aload_n hx hb dX11_execute_81 rfl (lv_at hl 0 rfl) ?_
      refine gw_get (v := .int (μ21 a0 19)) hC hW fl_X11_259.1 k0.1 (k0.2.1 T B (μ21 a0)) rfl dX11_execute_82 ?_
      obtain ⟨j24, hj26, h⟩ := jn1_o h
      have J25 : ∀ (y23 : Int32), j24 y23 = some r → ∀ (H : Heap) (locs : List Loc) (ls : Array Slot), gWM D T B μ21 H → va_S (gA B X) s.heap H locs → lv_has ls 2 [(0, .ref (B + a0))] → W p l e rmX11_execute s m args below meth c H locs 1056 2640 Q (F0 m 99 ls [.int y23, .ref (B + a0)]) := by
        clear h hW hS hl
        intro y23 h H locs ls hW hS hl
        replace h := (hj26 y23).symm.trans h
        obtain ⟨μ27, e28, h⟩ := lt_out h
        refine gq_put hC hS hW hA fl_X11_41 k0.1 (k0.2.1 T B) (by first | exact Nat.le_of_ble_eq_true rfl | omega | (simp only [rmX11_execute]; omega)) rfl rfl rfl e28 dX11_execute_99 (fun H locs hW hS => ?_)
        refine lv_aload_n hx hb dX11_execute_102 rfl (lv_at hl 0 rfl) ?_
        refine lv_iconst (v := 0) hx hb dX11_execute_103 (by decide) ?_
        obtain ⟨μ29, e30, h⟩ := lt_out h
        refine gq_put hC hS hW hA fl_X11_249 k0.1 (k0.2.1 T B) (by first | exact Nat.le_of_ble_eq_true rfl | omega | (simp only [rmX11_execute]; omega)) rfl rfl rfl e30 dX11_execute_104 (fun H locs hW hS => ?_)
        refine lv_aload_n hx hb dX11_execute_107 rfl (lv_at hl 0 rfl) ?_
        refine gw_get (v := .int (μ29 a0 19)) hC hW fl_X11_259.1 k0.1 (k0.2.1 T B (μ29 a0)) rfl dX11_execute_108 ?_
        refine lv_if_eq (tgt := 120) hx hb dX11_execute_111 (by decide) (fun c31 => ?_) (fun c31 => ?_)
        · replace h := ite_t c31 h
          refine lv_aload_n hx hb dX11_execute_120 rfl (lv_at hl 0 rfl) ?_
          obtain ⟨r32, hcall, h⟩ := bd_out h
          refine g0_callV (As := []) hC hml hS hW (KC_at hk hS F.2.2.2.2) KC_blind (metX11_keep F hX k0 hcall) ml_X11_83 (gw_recv hC hW k0.1 (k0.2.1 T B (μ29 a0)) rfl) ⟨rfl, rfl, (by first | exact Nat.le_of_ble_eq_true rfl | omega | (simp only [rmX11_execute]; omega)), (by first | exact Nat.le_of_ble_eq_true rfl | omega | (simp only [rmX11_execute]; omega))⟩ rfl hl.1 rfl (by first | exact Nat.le_of_ble_eq_true rfl | omega | (simp only [rmX11_execute]; omega)) dX11_execute_121 ⟨(by first | exact Nat.le_of_ble_eq_true rfl | omega | (simp only [rmX11_execute]; omega)), (by first | exact Nat.le_of_ble_eq_true rfl | omega | (simp only [rmX11_execute]; omega))⟩ (fun H locs hW hS => ?_)
          refine lv_iconst (v := 0) hx hb dX11_execute_124 (by decide) ?_
          refine lv_istore_n (lv' := [(1, .int 0), (0, .ref (B + a0))]) hx hb dX11_execute_125 rfl hl (by decide) rfl (fun ls hl => ?_)
          refine fix2_ind (fun (x33 : Int32) (μ34 : Mem) => ∀ (H : Heap) (locs : List Loc) (ls : Array Slot), gWM D T B μ34 H → va_S (gA B X) s.heap H locs → lv_has ls 2 [(0, .ref (B + a0)), (1, .int x33)] → W p l e rmX11_execute s m args below meth c H locs 1056 2640 Q (F0 m 126 ls [])) ?_ N _ _ h _ _ _ hW hS (lv_sub hl [1, 0] rfl)
          clear h hW hS hl
          intro self35 IH36 x33 μ34 h H locs ls hW hS hl
          refine lv_iload_n hx hb dX11_execute_126 rfl (lv_at hl 1 rfl) ?_
          refine lv_aload_n hx hb dX11_execute_127 rfl (lv_at hl 0 rfl) ?_
          refine gw_get (v := .int (μ34 a0 23)) hC hW fl_X11_270.1 k0.1 (k0.2.1 T B (μ34 a0)) rfl dX11_execute_128 ?_
          refine lv_icmp_ge (tgt := 167) hx hb dX11_execute_131 (by decide) (fun c37 => ?_) (fun c37 => ?_)
          · replace h := ite_t c37 h
            refine lv_aload_n hx hb dX11_execute_167 rfl (lv_at hl 0 rfl) ?_
            refine lv_aload_n hx hb dX11_execute_168 rfl (lv_at hl 0 rfl) ?_
            refine gw_get (v := .int (μ34 a0 23)) hC hW fl_X11_270.1 k0.1 (k0.2.1 T B (μ34 a0)) rfl dX11_execute_169 ?_
            obtain ⟨r38, hcall, h⟩ := bd_out h
            refine g0_callV (As := [.int (μ34 a0 23)]) hC hml hS hW (KC_at hk hS F.2.2.2.2) KC_blind (metX11_ends F hX k0 hcall) ml_X11_89 (gw_recv hC hW k0.1 (k0.2.1 T B (μ34 a0)) rfl) ⟨rfl, rfl, (by first | exact Nat.le_of_ble_eq_true rfl | omega | (simp only [rmX11_execute]; omega)), (by first | exact Nat.le_of_ble_eq_true rfl | omega | (simp only [rmX11_execute]; omega))⟩ rfl hl.1 rfl (by first | exact Nat.le_of_ble_eq_true rfl | omega | (simp only [rmX11_execute]; omega)) dX11_execute_172 ⟨(by first | exact Nat.le_of_ble_eq_true rfl | omega | (simp only [rmX11_execute]; omega)), (by first | exact Nat.le_of_ble_eq_true rfl | omega | (simp only [rmX11_execute]; omega))⟩ (fun H locs hW hS => ?_)
            cases h
            exact hend dX11_execute_175 hW hS (by first | exact Nat.le_of_ble_eq_true rfl | omega | (simp only [rmX11_execute]; omega)) (by first | exact Nat.le_of_ble_eq_true rfl | omega | (simp only [rmX11_execute]; omega))
          · replace h := ite_f c37 h
            refine lv_aload_n hx hb dX11_execute_134 rfl (lv_at hl 0 rfl) ?_
            refine lv_iload_n hx hb dX11_execute_135 rfl (lv_at hl 1 rfl) ?_
            obtain ⟨r39, hcall, h⟩ := bd_out h
            refine g0_callV (As := [.int x33]) hC hml hS hW (KC_at hk hS F.2.2.2.2) KC_blind (metX11_does F hX k0 hcall) ml_X11_311 (gw_recv hC hW k0.1 (k0.2.1 T B (μ34 a0)) rfl) ⟨rfl, rfl, (by first | exact Nat.le_of_ble_eq_true rfl | omega | (simp only [rmX11_execute]; omega)), (by first | exact Nat.le_of_ble_eq_true rfl | omega | (simp only [rmX11_execute]; omega))⟩ rfl hl.1 rfl (by first | exact Nat.le_of_ble_eq_true rfl | omega | (simp only [rmX11_execute]; omega)) dX11_execute_136 ⟨(by first | exact Nat.le_of_ble_eq_true rfl | omega | (simp only [rmX11_execute]; omega)), (by first | exact Nat.le_of_ble_eq_true rfl | omega | (simp only [rmX11_execute]; omega))⟩ (fun H locs hW hS => ?_)
            refine lv_aload_n hx hb dX11_execute_139 rfl (lv_at hl 0 rfl) ?_
            refine gw_get (v := .int (r39 a0 6)) hC hW fl_X11_51.1 k0.1 (k0.2.1 T B (r39 a0)) rfl dX11_execute_140 ?_
            refine lv_if_le (tgt := 161) hx hb dX11_execute_143 (by decide) (fun c40 => ?_) (fun c40 => ?_)
            · replace h := ite_t c40 h
              obtain ⟨v41, e42, h⟩ := lt_out h
              refine lv_iinc (v := v41) (lv' := [(1, .int v41), (0, .ref (B + a0))]) hx hb dX11_execute_161 hl (k := 1) rfl (by rw [e42]; rfl) (by decide) rfl (fun ls hl => ?_)
              refine lv_goto (tgt := 126) hx hb dX11_execute_164 (by decide) ?_
              exact IH36 _ _ h _ _ _ hW hS (lv_sub hl [1, 0] rfl)
            · replace h := ite_f c40 h
              refine lv_aload_n hx hb dX11_execute_146 rfl (lv_at hl 0 rfl) ?_
              refine lv_iload_n hx hb dX11_execute_147 rfl (lv_at hl 1 rfl) ?_
              obtain ⟨μ43, e44, h⟩ := lt_out h
              refine gq_put hC hS hW hA fl_X11_45 k0.1 (k0.2.1 T B) (by first | exact Nat.le_of_ble_eq_true rfl | omega | (simp only [rmX11_execute]; omega)) rfl rfl rfl e44 dX11_execute_148 (fun H locs hW hS => ?_)
              refine lv_aload_n hx hb dX11_execute_151 rfl (lv_at hl 0 rfl) ?_
              refine lv_aload_n hx hb dX11_execute_152 rfl (lv_at hl 0 rfl) ?_
              refine lv_iconst (v := 2) hx hb dX11_execute_153 (by decide) ?_
              obtain ⟨r45, hcall, h⟩ := bd_out h
              refine g0_callV (As := [.int 2]) hC hml hS hW (KC_at hk hS F.2.2.2.2) KC_blind (metX11_fails F hX k0 hcall) ml_X11_69 (gw_recv hC hW k0.1 (k0.2.1 T B (μ43 a0)) rfl) ⟨rfl, rfl, (by first | exact Nat.le_of_ble_eq_true rfl | omega | (simp only [rmX11_execute]; omega)), (by first | exact Nat.le_of_ble_eq_true rfl | omega | (simp only [rmX11_execute]; omega))⟩ rfl hl.1 rfl (by first | exact Nat.le_of_ble_eq_true rfl | omega | (simp only [rmX11_execute]; omega)) dX11_execute_154 ⟨(by first | exact Nat.le_of_ble_eq_true rfl | omega | (simp only [rmX11_execute]; omega)), (by first | exact Nat.le_of_ble_eq_true rfl | omega | (simp only [rmX11_execute]; omega))⟩ (fun H locs hW hS => ?_)
              obtain ⟨r46, hcall, h⟩ := bd_out h
              refine g0_callV (As := [.int r45.2]) hC hml hS hW (KC_at hk hS F.2.2.2.2) KC_blind (metX11_ends F hX k0 hcall) ml_X11_89 (gw_recv hC hW k0.1 (k0.2.1 T B (r45.1 a0)) rfl) ⟨rfl, rfl, (by first | exact Nat.le_of_ble_eq_true rfl | omega | (simp only [rmX11_execute]; omega)), (by first | exact Nat.le_of_ble_eq_true rfl | omega | (simp only [rmX11_execute]; omega))⟩ rfl hl.1 rfl (by first | exact Nat.le_of_ble_eq_true rfl | omega | (simp only [rmX11_execute]; omega)) dX11_execute_157 ⟨(by first | exact Nat.le_of_ble_eq_true rfl | omega | (simp only [rmX11_execute]; omega)), (by first | exact Nat.le_of_ble_eq_true rfl | omega | (simp only [rmX11_execute]; omega))⟩ (fun H locs hW hS => ?_)
              cases h
              exact hend dX11_execute_160 hW hS (by first | exact Nat.le_of_ble_eq_true rfl | omega | (simp only [rmX11_execute]; omega)) (by first | exact Nat.le_of_ble_eq_true rfl | omega | (simp only [rmX11_execute]; omega))
        · replace h := ite_f c31 h
          refine lv_aload_n hx hb dX11_execute_114 rfl (lv_at hl 0 rfl) ?_
          refine lv_iconst (v := 1) hx hb dX11_execute_115 (by decide) ?_
          obtain ⟨r47, hcall, h⟩ := bd_out h
          refine g0_callV (As := [.int 1]) hC hml hS hW (KC_at hk hS F.2.2.2.2) KC_blind (metX11_fails F hX k0 hcall) ml_X11_69 (gw_recv hC hW k0.1 (k0.2.1 T B (μ29 a0)) rfl) ⟨rfl, rfl, (by first | exact Nat.le_of_ble_eq_true rfl | omega | (simp only [rmX11_execute]; omega)), (by first | exact Nat.le_of_ble_eq_true rfl | omega | (simp only [rmX11_execute]; omega))⟩ rfl hl.1 rfl (by first | exact Nat.le_of_ble_eq_true rfl | omega | (simp only [rmX11_execute]; omega)) dX11_execute_116 ⟨(by first | exact Nat.le_of_ble_eq_true rfl | omega | (simp only [rmX11_execute]; omega)), (by first | exact Nat.le_of_ble_eq_true rfl | omega | (simp only [rmX11_execute]; omega))⟩ (fun H locs hW hS => ?_)
          cases h
          exact hend dX11_execute_119 hW hS (by first | exact Nat.le_of_ble_eq_true rfl | omega | (simp only [rmX11_execute]; omega)) (by first | exact Nat.le_of_ble_eq_true rfl | omega | (simp only [rmX11_execute]; omega))
      refine lv_if_eq (tgt := 95) hx hb dX11_execute_85 (by decide) (fun c48 => ?_) (fun c48 => ?_)
      · replace h := ite_t c48 h
        refine lv_aload_n hx hb dX11_execute_95 rfl (lv_at hl 0 rfl) ?_
        refine gw_get (v := .int (μ21 a0 20)) hC hW fl_X11_41.1 k0.1 (k0.2.1 T B (μ21 a0)) rfl dX11_execute_96 ?_
        exact J25 _ h _ _ _ hW hS (lv_sub hl [0] rfl)
      · replace h := ite_f c48 h
        refine lv_aload_n hx hb dX11_execute_88 rfl (lv_at hl 0 rfl) ?_
        refine gw_get (v := .int (μ21 a0 18)) hC hW fl_X11_252.1 k0.1 (k0.2.1 T B (μ21 a0)) rfl dX11_execute_89 ?_
        refine lv_goto (tgt := 99) hx hb dX11_execute_92 (by decide) ?_
        exact J25 _ h _ _ _ hW hS (lv_sub hl [0] rfl)
    obtain ⟨j50, hj52, h⟩ := jn1_o h
    have J51 : ∀ (u49 : Unit), j50 u49 = some r → ∀ (H : Heap) (locs : List Loc) (ls : Array Slot), gWM D T B μ8 H → va_S (gA B X) s.heap H locs → lv_has ls 2 [(0, .ref (B + a0))] → W p l e rmX11_execute s m args below meth c H locs 1056 2640 Q (F0 m 72 ls [.ref (B + a0)]) := by
      clear h hW hS hl
      intro u49 h H locs ls hW hS hl
      replace h := (hj52 u49).symm.trans h
      refine lv_iconst (v := 1) hx hb dX11_execute_72 (by decide) ?_
      refine lv_goto (tgt := 77) hx hb dX11_execute_73 (by decide) ?_
      exact J19 _ h _ _ _ hW hS (lv_sub hl [0] rfl)
    refine lv_if_ne (tgt := 72) hx hb dX11_execute_58 (by decide) (fun c53 => ?_) (fun c53 => ?_)
    · replace h := ite_f c53 h
      exact J51 _ h _ _ _ hW hS (lv_sub hl [0] rfl)
    · replace h := ite_t c53 h
      refine lv_aload_n hx hb dX11_execute_61 rfl (lv_at hl 0 rfl) ?_
      refine gw_get (v := .int (μ8 a0 18)) hC hW fl_X11_252.1 k0.1 (k0.2.1 T B (μ8 a0)) rfl dX11_execute_62 ?_
      refine lv_aload_n hx hb dX11_execute_65 rfl (lv_at hl 0 rfl) ?_
      refine gw_get (v := .int (μ8 a0 17)) hC hW fl_X11_249.1 k0.1 (k0.2.1 T B (μ8 a0)) rfl dX11_execute_66 ?_
      refine lv_icmp_ge (tgt := 76) hx hb dX11_execute_69 (by decide) (fun c54 => ?_) (fun c54 => ?_)
      · replace h := ite_t c54 h
        refine lv_iconst (v := 0) hx hb dX11_execute_76 (by decide) ?_
        exact J19 _ h _ _ _ hW hS (lv_sub hl [0] rfl)
      · replace h := ite_f c54 h
        exact J51 _ h _ _ _ hW hS (lv_sub hl [0] rfl)
  refine lv_if_ne (tgt := 53) hx hb dX11_execute_23 (by decide) (fun c55 => ?_) (fun c55 => ?_)
  · replace h := ite_f c55 h
    refine W.widen (k := 1056) (n := 2640) (by omega) (by omega) ?_
    exact J15 _ h _ _ _ hW hS (lv_sub hl [0] rfl)
  · replace h := ite_t c55 h
    refine lv_aload_n hx hb dX11_execute_26 rfl (lv_at hl 0 rfl) ?_
    refine lv_iconst (v := 0) hx hb dX11_execute_27 (by decide) ?_
    obtain ⟨r56, hcall, h⟩ := bd_out h
    refine g0_callV (As := [.int 0]) hC hml hS hW (KC_at hk hS F.2.2.2.2) KC_blind (metX11_behind F hX k0 hcall) ml_X11_263 (gw_recv hC hW k0.1 (k0.2.1 T B (μ8 a0)) rfl) ⟨rfl, rfl, (by first | exact Nat.le_of_ble_eq_true rfl | omega | (simp only [rmX11_execute]; omega)), (by first | exact Nat.le_of_ble_eq_true rfl | omega | (simp only [rmX11_execute]; omega))⟩ rfl hl.1 rfl (by first | exact Nat.le_of_ble_eq_true rfl | omega | (simp only [rmX11_execute]; omega)) dX11_execute_28 ⟨(by first | exact Nat.le_of_ble_eq_true rfl | omega | (simp only [rmX11_execute]; omega)), (by first | exact Nat.le_of_ble_eq_true rfl | omega | (simp only [rmX11_execute]; omega))⟩ (fun H locs hW hS => ?_)
    refine lv_bipush (v := 59) hx hb dX11_execute_31 (by decide) ?_
    refine lv_icmp_ne (tgt := 53) hx hb dX11_execute_33 (by decide) (fun c57 => ?_) (fun c57 => ?_)
    · replace h := ite_f c57 h
      refine W.widen (k := 1056) (n := 2640) (by omega) (by omega) ?_
      exact J15 _ h _ _ _ hW hS (lv_sub hl [0] rfl)
    · replace h := ite_t c57 h
      refine lv_aload_n hx hb dX11_execute_36 rfl (lv_at hl 0 rfl) ?_
      refine lv_dup hx hb dX11_execute_37 rfl ?_
      refine gw_get (v := .int (μ8 a0 18)) hC hW fl_X11_252.1 k0.1 (k0.2.1 T B (μ8 a0)) rfl dX11_execute_38 ?_
      refine lv_iconst (v := 1) hx hb dX11_execute_41 (by decide) ?_
      refine lv_iadd hx hb dX11_execute_42 ?_
      obtain ⟨μ58, e59, h⟩ := lt_out h
      refine gq_put hC hS hW hA fl_X11_252 k0.1 (k0.2.1 T B) (by first | exact Nat.le_of_ble_eq_true rfl | omega | (simp only [rmX11_execute]; omega)) rfl rfl rfl e59 dX11_execute_43 (fun H locs hW hS => ?_)
      refine lv_aload_n hx hb dX11_execute_46 rfl (lv_at hl 0 rfl) ?_
      obtain ⟨r60, hcall, h⟩ := bd_out h
      refine gw_callV (As := []) hC hml hS hW (KC_at hk hS F.2.2.2.2) KC_blind (metX11_readsCommand F hX k0 hcall) ml_X11_308 (gw_recv hC hW k0.1 (k0.2.1 T B (μ58 a0)) rfl) (fun _ h => h) ⟨rfl, rfl, (by first | exact Nat.le_of_ble_eq_true rfl | omega | (simp only [rmX11_execute]; omega)), (by first | exact Nat.le_of_ble_eq_true rfl | omega | (simp only [rmX11_execute]; omega))⟩ rfl hl.1 rfl (by first | exact Nat.le_of_ble_eq_true rfl | omega | (simp only [rmX11_execute]; omega)) dX11_execute_47 ⟨(by first | exact Nat.le_of_ble_eq_true rfl | omega | (simp only [rmX11_execute]; omega)), (by first | exact Nat.le_of_ble_eq_true rfl | omega | (simp only [rmX11_execute]; omega))⟩ (fun H locs hW hS _ _ => ?_)
      refine W.widen (k := (32 + κ9 * 32 + 32)) (n := (80 + κ9 * 80 + 80)) (by first | exact Nat.le_of_ble_eq_true rfl | omega | (simp only [rmX11_execute]; omega)) (by first | exact Nat.le_of_ble_eq_true rfl | omega | (simp only [rmX11_execute]; omega)) ?_
      refine lv_goto (tgt := 19) hx hb dX11_execute_50 (by decide) ?_
      refine W.widen (k := 32 + (κ9 + 1) * 32) (n := 80 + (κ9 + 1) * 80) (by omega) (by omega) ?_
      exact IH11 _ _ h _ _ _ hW hS (lv_sub hl [0] rfl)

