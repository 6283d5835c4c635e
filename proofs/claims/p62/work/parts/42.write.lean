theorem tbS_out {A O : Type} {cap : Nat} {t : List Nat} {x : Option (Mem × (Nat ⊕ A))} {k : Mem → A → Option ((Mem × Nat × List Nat) × (Nat ⊕ O))} {z : (Mem × Nat × List Nat) × (Nat ⊕ O)} (h : tbS cap t x k = some z) : (∃ μ n, x = some (μ, .inl n) ∧ z = ((μ, cap, t), .inl n)) ∨ ∃ μ a, x = some (μ, .inr a) ∧ k μ a = some z := by
  cases x with
  | none => cases h
  | some q =>
    obtain ⟨μ, n | a⟩ := q
    · exact Or.inl ⟨μ, n, rfl, (Option.some.inj h).symm⟩
    · exact Or.inr ⟨μ, a, rfl, h⟩
theorem dX10_writePile_0 : decode cX10_writePile 0 = .ok (.aload_n 0, 1) := by decide +kernel
theorem dX10_writePile_1 : decode cX10_writePile 1 = .ok (.iload_n 1, 1) := by decide +kernel
theorem dX10_writePile_2 : decode cX10_writePile 2 = .ok (.invokevirtual 155, 3) := by decide +kernel
theorem dX10_writePile_5 : decode cX10_writePile 5 = .ok (.getfield 201, 3) := by decide +kernel
theorem dX10_writePile_8 : decode cX10_writePile 8 = .ok (.astore_n 2, 1) := by decide +kernel
theorem dX10_writePile_9 : decode cX10_writePile 9 = .ok (.aload_n 0, 1) := by decide +kernel
theorem dX10_writePile_10 : decode cX10_writePile 10 = .ok (.getfield 57, 3) := by decide +kernel
theorem dX10_writePile_13 : decode cX10_writePile 13 = .ok (.iconst 0, 1) := by decide +kernel
theorem dX10_writePile_14 : decode cX10_writePile 14 = .ok (.invokevirtual 314, 3) := by decide +kernel
theorem dX10_writePile_17 : decode cX10_writePile 17 = .ok (.iconst 0, 1) := by decide +kernel
theorem dX10_writePile_18 : decode cX10_writePile 18 = .ok (.istore_n 3, 1) := by decide +kernel
theorem dX10_writePile_19 : decode cX10_writePile 19 = .ok (.iload_n 3, 1) := by decide +kernel
theorem dX10_writePile_20 : decode cX10_writePile 20 = .ok (.bipush 16, 2) := by decide +kernel
theorem dX10_writePile_22 : decode cX10_writePile 22 = .ok (.if_icmp .ge 40, 3) := by decide +kernel
theorem dX10_writePile_25 : decode cX10_writePile 25 = .ok (.iload_n 3, 1) := by decide +kernel
theorem dX10_writePile_26 : decode cX10_writePile 26 = .ok (.ifCond .le 19, 3) := by decide +kernel
theorem dX10_writePile_29 : decode cX10_writePile 29 = .ok (.iload_n 3, 1) := by decide +kernel
theorem dX10_writePile_30 : decode cX10_writePile 30 = .ok (.iconst 4, 1) := by decide +kernel
theorem dX10_writePile_31 : decode cX10_writePile 31 = .ok (.irem, 1) := by decide +kernel
theorem dX10_writePile_32 : decode cX10_writePile 32 = .ok (.ifCond .ne 13, 3) := by decide +kernel
theorem dX10_writePile_35 : decode cX10_writePile 35 = .ok (.aload_n 0, 1) := by decide +kernel
theorem dX10_writePile_36 : decode cX10_writePile 36 = .ok (.getfield 57, 3) := by decide +kernel
theorem dX10_writePile_39 : decode cX10_writePile 39 = .ok (.bipush 47, 2) := by decide +kernel
theorem dX10_writePile_41 : decode cX10_writePile 41 = .ok (.invokevirtual 318, 3) := by decide +kernel
theorem dX10_writePile_44 : decode cX10_writePile 44 = .ok (.pop, 1) := by decide +kernel
theorem dX10_writePile_45 : decode cX10_writePile 45 = .ok (.aload_n 0, 1) := by decide +kernel
theorem dX10_writePile_46 : decode cX10_writePile 46 = .ok (.getfield 57, 3) := by decide +kernel
theorem dX10_writePile_49 : decode cX10_writePile 49 = .ok (.aload_n 2, 1) := by decide +kernel
theorem dX10_writePile_50 : decode cX10_writePile 50 = .ok (.iload_n 3, 1) := by decide +kernel
theorem dX10_writePile_51 : decode cX10_writePile 51 = .ok (.iaload, 1) := by decide +kernel
theorem dX10_writePile_52 : decode cX10_writePile 52 = .ok (.invokevirtual 322, 3) := by decide +kernel
theorem dX10_writePile_55 : decode cX10_writePile 55 = .ok (.pop, 1) := by decide +kernel
theorem dX10_writePile_56 : decode cX10_writePile 56 = .ok (.iinc 3 1, 3) := by decide +kernel
theorem dX10_writePile_59 : decode cX10_writePile 59 = .ok (.goto (-40), 3) := by decide +kernel
theorem dX10_writePile_62 : decode cX10_writePile 62 = .ok (.aload_n 0, 1) := by decide +kernel
theorem dX10_writePile_63 : decode cX10_writePile 63 = .ok (.getfield 57, 3) := by decide +kernel
theorem dX10_writePile_66 : decode cX10_writePile 66 = .ok (.invokevirtual 325, 3) := by decide +kernel
theorem dX10_writePile_69 : decode cX10_writePile 69 = .ok (.ireturn, 1) := by decide +kernel
abbrev rmX10_writePile : Room := { frames := 10, cells := 36, slots := 10506, locals := 260 }
set_option maxHeartbeats 4000000 in
set_option maxRecDepth 100000 in
theorem metX10_writePile {l : Launch} {s0 : State} {b B : Nat} {D : va_G} {T : Nat → ClassId} (F : FX l s0 b D T B) {X : Nat → Prop} (hX : ∀ o, o < 561 → ¬ X (B + o)) {N : Nat} {cap : Nat} {t : List Nat} {μ : Mem} {a0 : Nat} {a1 : Int32} {r : (Mem × Nat × List Nat) × (Nat ⊕ Int32)} (k0 : IsGa a0) (hN : ∀ x ds, dcN x = some ds → NumP N x ds) (h : fX10_writePile N cap t μ a0 a1 = some r) : gXMet l yX10_writePile cX10_writePile 4 (some .int) rmX10_writePile [.ref (B + a0), .int a1] (gWS s0 D T B X μ cap t) (KC s0 X) (oI r.2) (gWS s0 D T B X r.1.1 r.1.2.1 r.1.2.2) (gA B X) 36 10506 := by
  refine gXI_of RX10 (by decide +kernel) rfl (Nat.le_of_ble_eq_true rfl) ?_
  intro p e s m args below meth c ls Q hx hb hlocks hml hown hts hW hk hl hS hE
  obtain ⟨hend, hthr, htb, hQ⟩ := hE
  have hC := FX_C F hk hx hb hown hts
  have hA := gA_all (fun o ho => hX o (Nat.lt_succ_of_lt ho))
  have hl : lv_has ls 4 [(0, .ref (B + a0)), (1, .int a1)] := hl
  unfold fX10_writePile at h
  refine lv_aload_n hx hb dX10_writePile_0 rfl (lv_at hl 0 rfl) ?_
  refine lv_iload_n hx hb dX10_writePile_1 rfl (lv_at hl 1 rfl) ?_
  rcases tbS_out h with ⟨μ2, n4, hcall, h9⟩ | ⟨μ2, r3, hcall, h⟩
  · cases h9
    exact gs_callXV (As := [.int a1]) F hX hk hC hml hS hW (fun X9 hX9 => (metX10_existing F hX9 k0 hcall)) ml_X10_155 (gw_recv hC hW.1 k0.1 (k0.2.2.1 (gfm s0) T B (μ a0)) rfl) ⟨rfl, rfl, (by first | exact Nat.le_of_ble_eq_true rfl | omega | (simp only [rmX10_writePile]; omega)), (by first | exact Nat.le_of_ble_eq_true rfl | omega | (simp only [rmX10_writePile]; omega))⟩ rfl hl.1 rfl (by first | exact Nat.le_of_ble_eq_true rfl | omega | (simp only [rmX10_writePile]; omega)) dX10_writePile_2 ⟨(by first | exact Nat.le_of_ble_eq_true rfl | omega | (simp only [rmX10_writePile]; omega)), (by first | exact Nat.le_of_ble_eq_true rfl | omega | (simp only [rmX10_writePile]; omega))⟩ (fun v9 ho => by cases ho) (fun k9 ho H locs q9 ce9 hW hS hce hvm hcl => by cases ho; exact hthr _ rfl hW hS hce hvm hcl (by first | exact Nat.le_of_ble_eq_true rfl | omega | (simp only [rmX10_writePile]; omega)) (by first | exact Nat.le_of_ble_eq_true rfl | omega | (simp only [rmX10_writePile]; omega)))
  refine gs_callXV (As := [.int a1]) F hX hk hC hml hS hW (fun X9 hX9 => (metX10_existing F hX9 k0 hcall)) ml_X10_155 (gw_recv hC hW.1 k0.1 (k0.2.2.1 (gfm s0) T B (μ a0)) rfl) ⟨rfl, rfl, (by first | exact Nat.le_of_ble_eq_true rfl | omega | (simp only [rmX10_writePile]; omega)), (by first | exact Nat.le_of_ble_eq_true rfl | omega | (simp only [rmX10_writePile]; omega))⟩ rfl hl.1 rfl (by first | exact Nat.le_of_ble_eq_true rfl | omega | (simp only [rmX10_writePile]; omega)) dX10_writePile_2 ⟨(by first | exact Nat.le_of_ble_eq_true rfl | omega | (simp only [rmX10_writePile]; omega)), (by first | exact Nat.le_of_ble_eq_true rfl | omega | (simp only [rmX10_writePile]; omega))⟩ (fun v9 ho H locs hW hS => ?_) (fun k9 ho => by cases ho)
  cases ho
  refine W.widen (k := 1) (n := 6) (by first | exact Nat.le_of_ble_eq_true rfl | omega | (simp only [rmX10_writePile]; omega)) (by first | exact Nat.le_of_ble_eq_true rfl | omega | (simp only [rmX10_writePile]; omega)) ?_
  have kr5 := kdX10_existing k0 hcall
  refine gw_get (v := .ref (B + (r3 + 1))) hC hW.1 fl_X10_201 kr5.1 (kr5.2.1 (gfm s0) T B (μ2 r3)) rfl dX10_writePile_5 ?_
  refine lv_astore_n (lv' := [(2, .ref (B + (r3 + 1))), (0, .ref (B + a0)), (1, .int a1)]) hx hb dX10_writePile_8 rfl hl (by decide) rfl (fun ls hl => ?_)
  refine lv_aload_n hx hb dX10_writePile_9 rfl (lv_at hl 1 rfl) ?_
  refine gw_get (v := .ref (B + 560)) hC hW.1 fl_X10_57 k0.1 (k0.2.2.1 (gfm s0) T B (μ2 a0)) rfl dX10_writePile_10 ?_
  refine lv_iconst (v := 0) hx hb dX10_writePile_13 (by decide) ?_
  refine g_sbNil F hX hk hC hml hS hW ml_X10_314 ⟨rfl, rfl, (by first | exact Nat.le_of_ble_eq_true rfl | omega | (simp only [rmX10_writePile]; omega)), (by first | exact Nat.le_of_ble_eq_true rfl | omega | (simp only [rmX10_writePile]; omega))⟩ hl.1 (by first | exact Nat.le_of_ble_eq_true rfl | omega | (simp only [rmX10_writePile]; omega)) dX10_writePile_14 ⟨(by first | exact Nat.le_of_ble_eq_true rfl | omega | (simp only [rmX10_writePile]; omega)), (by first | exact Nat.le_of_ble_eq_true rfl | omega | (simp only [rmX10_writePile]; omega))⟩ (fun H locs hW hS => ?_)
  refine lv_iconst (v := 0) hx hb dX10_writePile_17 (by decide) ?_
  refine lv_istore_n (lv' := [(3, .int 0), (2, .ref (B + (r3 + 1))), (0, .ref (B + a0)), (1, .int a1)]) hx hb dX10_writePile_18 rfl hl (by decide) rfl (fun ls hl => ?_)
  refine W.widen (k := 2 + 0 * 2) (n := 306 + 0 * 600) (by omega) (by omega) ?_
  refine fix4_ind (fun (x6 : Int32) (κ7 : Nat) (cap8 : Nat) (t9 : List Nat) => ∀ (H : Heap) (locs : List Loc) (ls : Array Slot), gWS s0 D T B X μ2 cap8 t9 H → va_S (gA B X) s.heap H locs → lv_has ls 4 [(0, .ref (B + a0)), (2, .ref (B + (r3 + 1))), (3, .int x6)] → W p l e rmX10_writePile s m args below meth c H locs (2 + κ7 * 2) (306 + κ7 * 600) Q (F0 m 19 ls [])) ?_ N _ _ _ _ h _ _ _ hW hS (lv_sub hl [2, 1, 0] rfl)
  clear h hW hS hl
  intro self10 IH11 x6 κ7 cap8 t9 h H locs ls hW hS hl
  obtain ⟨hκ12, h⟩ := gd_out h
  refine lv_iload_n hx hb dX10_writePile_19 rfl (lv_at hl 2 rfl) ?_
  refine lv_bipush (v := 16) hx hb dX10_writePile_20 (by decide) ?_
  refine lv_icmp_ge (tgt := 62) hx hb dX10_writePile_22 (by decide) (fun c13 => ?_) (fun c13 => ?_)
  · replace h := ite_t c13 h
    refine W.widen (k := 36) (n := 10506) (by omega) (by omega) ?_
    refine lv_aload_n hx hb dX10_writePile_62 rfl (lv_at hl 0 rfl) ?_
    refine gw_get (v := .ref (B + 560)) hC hW.1 fl_X10_57 k0.1 (k0.2.2.1 (gfm s0) T B (μ2 a0)) rfl dX10_writePile_63 ?_
    refine g_sbLen F hk hC hml hS hW ml_X10_325 ⟨rfl, rfl, (by first | exact Nat.le_of_ble_eq_true rfl | omega | (simp only [rmX10_writePile]; omega)), (by first | exact Nat.le_of_ble_eq_true rfl | omega | (simp only [rmX10_writePile]; omega))⟩ hl.1 (by first | exact Nat.le_of_ble_eq_true rfl | omega | (simp only [rmX10_writePile]; omega)) dX10_writePile_66 ⟨(by first | exact Nat.le_of_ble_eq_true rfl | omega | (simp only [rmX10_writePile]; omega)), (by first | exact Nat.le_of_ble_eq_true rfl | omega | (simp only [rmX10_writePile]; omega))⟩ (fun locs hS => ?_)
    cases h
    exact hend _ rfl dX10_writePile_69 hW hS (by first | exact Nat.le_of_ble_eq_true rfl | omega | (simp only [rmX10_writePile]; omega)) (by first | exact Nat.le_of_ble_eq_true rfl | omega | (simp only [rmX10_writePile]; omega))
  · replace h := ite_f c13 h
    refine lv_iload_n hx hb dX10_writePile_25 rfl (lv_at hl 2 rfl) ?_
    obtain ⟨j16, hj18, h⟩ := jn2_o h
    have J17 : ∀ (cap14 : Nat) (t15 : List Nat), j16 cap14 t15 = some r → ∀ (H : Heap) (locs : List Loc) (ls : Array Slot), gWS s0 D T B X μ2 cap14 t15 H → va_S (gA B X) s.heap H locs → lv_has ls 4 [(0, .ref (B + a0)), (2, .ref (B + (r3 + 1))), (3, .int x6)] → W p l e rmX10_writePile s m args below meth c H locs (2 + κ7 * 2 + 1) (306 + κ7 * 600 + 300) Q (F0 m 45 ls []) := by
      clear h hW hS hl
      intro cap14 t15 h H locs ls hW hS hl
      replace h := (hj18 cap14 t15).symm.trans h
      refine lv_aload_n hx hb dX10_writePile_45 rfl (lv_at hl 0 rfl) ?_
      refine gw_get (v := .ref (B + 560)) hC hW.1 fl_X10_57 k0.1 (k0.2.2.1 (gfm s0) T B (μ2 a0)) rfl dX10_writePile_46 ?_
      refine lv_aload_n hx hb dX10_writePile_49 rfl (lv_at hl 1 rfl) ?_
      refine lv_iload_n hx hb dX10_writePile_50 rfl (lv_at hl 2 rfl) ?_
      obtain ⟨v19, e20, hi21, h⟩ := ag_o h
      refine gq_iald hC hW.1 kr5.2.2.1.1 (kr5.2.2.1.2 (gfm s0) T B (μ2 (r3 + 1))) (t0 := 0) rfl e20 hi21 dX10_writePile_51 ?_
      obtain ⟨ds23, e24, h⟩ := bd_out h
      obtain ⟨g22, h⟩ := gd_out h
      refine g_sbNum F hX hk hC hml hS hW (hN _ _ e24) g22 ml_X10_322 ⟨rfl, rfl, (by first | exact Nat.le_of_ble_eq_true rfl | omega | (simp only [rmX10_writePile]; omega)), (by first | exact Nat.le_of_ble_eq_true rfl | omega | (simp only [rmX10_writePile]; omega))⟩ hl.1 (by first | exact Nat.le_of_ble_eq_true rfl | omega | (simp only [rmX10_writePile]; omega)) dX10_writePile_52 ⟨(by first | exact Nat.le_of_ble_eq_true rfl | omega | (simp only [rmX10_writePile]; omega)), (by first | exact Nat.le_of_ble_eq_true rfl | omega | (simp only [rmX10_writePile]; omega))⟩ (fun H locs hW hS => ?_)
      refine lv_pop hx hb dX10_writePile_55 rfl ?_
      obtain ⟨v25, e26, h⟩ := lt_out h
      refine lv_iinc (v := v25) (lv' := [(3, .int v25), (0, .ref (B + a0)), (2, .ref (B + (r3 + 1)))]) hx hb dX10_writePile_56 hl (k := 2) rfl (by rw [e26]; rfl) (by decide) rfl (fun ls hl => ?_)
      refine lv_goto (tgt := 19) hx hb dX10_writePile_59 (by decide) ?_
      refine W.widen (k := 2 + (κ7 + 1) * 2) (n := 306 + (κ7 + 1) * 600) (by omega) (by omega) ?_
      exact IH11 _ _ _ _ h _ _ _ hW hS (lv_sub hl [1, 2, 0] rfl)
    refine lv_if_le (tgt := 45) hx hb dX10_writePile_26 (by decide) (fun c27 => ?_) (fun c27 => ?_)
    · replace h := ite_t c27 h
      refine W.widen (k := (2 + κ7 * 2 + 1)) (n := (306 + κ7 * 600 + 300)) (by first | exact Nat.le_of_ble_eq_true rfl | omega | (simp only [rmX10_writePile]; omega)) (by first | exact Nat.le_of_ble_eq_true rfl | omega | (simp only [rmX10_writePile]; omega)) ?_
      exact J17 _ _ h _ _ _ hW hS (lv_sub hl [0, 1, 2] rfl)
    · replace h := ite_f c27 h
      refine lv_iload_n hx hb dX10_writePile_29 rfl (lv_at hl 2 rfl) ?_
      refine lv_iconst (v := 4) hx hb dX10_writePile_30 (by decide) ?_
      refine lv_irem hx hb dX10_writePile_31 (by decide) ?_
      refine lv_if_ne (tgt := 45) hx hb dX10_writePile_32 (by decide) (fun c28 => ?_) (fun c28 => ?_)
      · replace h := ite_f c28 h
        refine W.widen (k := (2 + κ7 * 2 + 1)) (n := (306 + κ7 * 600 + 300)) (by first | exact Nat.le_of_ble_eq_true rfl | omega | (simp only [rmX10_writePile]; omega)) (by first | exact Nat.le_of_ble_eq_true rfl | omega | (simp only [rmX10_writePile]; omega)) ?_
        exact J17 _ _ h _ _ _ hW hS (lv_sub hl [0, 1, 2] rfl)
      · replace h := ite_t c28 h
        refine lv_aload_n hx hb dX10_writePile_35 rfl (lv_at hl 0 rfl) ?_
        refine gw_get (v := .ref (B + 560)) hC hW.1 fl_X10_57 k0.1 (k0.2.2.1 (gfm s0) T B (μ2 a0)) rfl dX10_writePile_36 ?_
        refine lv_bipush (v := 47) hx hb dX10_writePile_39 (by decide) ?_
        obtain ⟨g29, h⟩ := gd_out h
        refine g_sbChr (c0 := 47) F hX hk hC hml hS hW (by decide) g29 ml_X10_318 ⟨rfl, rfl, (by first | exact Nat.le_of_ble_eq_true rfl | omega | (simp only [rmX10_writePile]; omega)), (by first | exact Nat.le_of_ble_eq_true rfl | omega | (simp only [rmX10_writePile]; omega))⟩ hl.1 (by first | exact Nat.le_of_ble_eq_true rfl | omega | (simp only [rmX10_writePile]; omega)) dX10_writePile_41 ⟨(by first | exact Nat.le_of_ble_eq_true rfl | omega | (simp only [rmX10_writePile]; omega)), (by first | exact Nat.le_of_ble_eq_true rfl | omega | (simp only [rmX10_writePile]; omega))⟩ (fun H locs hW hS => ?_)
        refine lv_pop hx hb dX10_writePile_44 rfl ?_
        exact J17 _ _ h _ _ _ hW hS (lv_sub hl [0, 1, 2] rfl)

theorem dX10_writeWay_0 : decode cX10_writeWay 0 = .ok (.aload_n 0, 1) := by decide +kernel
theorem dX10_writeWay_1 : decode cX10_writeWay 1 = .ok (.getfield 12, 3) := by decide +kernel
theorem dX10_writeWay_4 : decode cX10_writeWay 4 = .ok (.iload_n 1, 1) := by decide +kernel
theorem dX10_writeWay_5 : decode cX10_writeWay 5 = .ok (.iload_n 2, 1) := by decide +kernel
theorem dX10_writeWay_6 : decode cX10_writeWay 6 = .ok (.invokevirtual 115, 3) := by decide +kernel
theorem dX10_writeWay_9 : decode cX10_writeWay 9 = .ok (.invokestatic 72, 3) := by decide +kernel
theorem dX10_writeWay_12 : decode cX10_writeWay 12 = .ok (.aload_n 0, 1) := by decide +kernel
theorem dX10_writeWay_13 : decode cX10_writeWay 13 = .ok (.iload_n 1, 1) := by decide +kernel
theorem dX10_writeWay_14 : decode cX10_writeWay 14 = .ok (.iload_n 2, 1) := by decide +kernel
theorem dX10_writeWay_15 : decode cX10_writeWay 15 = .ok (.invokevirtual 133, 3) := by decide +kernel
theorem dX10_writeWay_18 : decode cX10_writeWay 18 = .ok (.invokestatic 72, 3) := by decide +kernel
theorem dX10_writeWay_21 : decode cX10_writeWay 21 = .ok (.aload_n 0, 1) := by decide +kernel
theorem dX10_writeWay_22 : decode cX10_writeWay 22 = .ok (.getfield 57, 3) := by decide +kernel
theorem dX10_writeWay_25 : decode cX10_writeWay 25 = .ok (.iconst 0, 1) := by decide +kernel
theorem dX10_writeWay_26 : decode cX10_writeWay 26 = .ok (.invokevirtual 314, 3) := by decide +kernel
theorem dX10_writeWay_29 : decode cX10_writeWay 29 = .ok (.iconst 0, 1) := by decide +kernel
theorem dX10_writeWay_30 : decode cX10_writeWay 30 = .ok (.istore_n 3, 1) := by decide +kernel
theorem dX10_writeWay_31 : decode cX10_writeWay 31 = .ok (.iload_n 3, 1) := by decide +kernel
theorem dX10_writeWay_32 : decode cX10_writeWay 32 = .ok (.aload_n 0, 1) := by decide +kernel
theorem dX10_writeWay_33 : decode cX10_writeWay 33 = .ok (.getfield 29, 3) := by decide +kernel
theorem dX10_writeWay_36 : decode cX10_writeWay 36 = .ok (.getfield 136, 3) := by decide +kernel
theorem dX10_writeWay_39 : decode cX10_writeWay 39 = .ok (.if_icmp .ge 40, 3) := by decide +kernel
theorem dX10_writeWay_42 : decode cX10_writeWay 42 = .ok (.iload_n 3, 1) := by decide +kernel
theorem dX10_writeWay_43 : decode cX10_writeWay 43 = .ok (.ifCond .le 13, 3) := by decide +kernel
theorem dX10_writeWay_46 : decode cX10_writeWay 46 = .ok (.aload_n 0, 1) := by decide +kernel
theorem dX10_writeWay_47 : decode cX10_writeWay 47 = .ok (.getfield 57, 3) := by decide +kernel
theorem dX10_writeWay_50 : decode cX10_writeWay 50 = .ok (.bipush 62, 2) := by decide +kernel
theorem dX10_writeWay_52 : decode cX10_writeWay 52 = .ok (.invokevirtual 318, 3) := by decide +kernel
theorem dX10_writeWay_55 : decode cX10_writeWay 55 = .ok (.pop, 1) := by decide +kernel
theorem dX10_writeWay_56 : decode cX10_writeWay 56 = .ok (.aload_n 0, 1) := by decide +kernel
theorem dX10_writeWay_57 : decode cX10_writeWay 57 = .ok (.getfield 57, 3) := by decide +kernel
theorem dX10_writeWay_60 : decode cX10_writeWay 60 = .ok (.aload_n 0, 1) := by decide +kernel
theorem dX10_writeWay_61 : decode cX10_writeWay 61 = .ok (.getfield 29, 3) := by decide +kernel
theorem dX10_writeWay_64 : decode cX10_writeWay 64 = .ok (.getfield 146, 3) := by decide +kernel
theorem dX10_writeWay_67 : decode cX10_writeWay 67 = .ok (.iload_n 3, 1) := by decide +kernel
theorem dX10_writeWay_68 : decode cX10_writeWay 68 = .ok (.iaload, 1) := by decide +kernel
theorem dX10_writeWay_69 : decode cX10_writeWay 69 = .ok (.invokevirtual 322, 3) := by decide +kernel
theorem dX10_writeWay_72 : decode cX10_writeWay 72 = .ok (.pop, 1) := by decide +kernel
theorem dX10_writeWay_73 : decode cX10_writeWay 73 = .ok (.iinc 3 1, 3) := by decide +kernel
theorem dX10_writeWay_76 : decode cX10_writeWay 76 = .ok (.goto (-45), 3) := by decide +kernel
theorem dX10_writeWay_79 : decode cX10_writeWay 79 = .ok (.aload_n 0, 1) := by decide +kernel
theorem dX10_writeWay_80 : decode cX10_writeWay 80 = .ok (.getfield 57, 3) := by decide +kernel
theorem dX10_writeWay_83 : decode cX10_writeWay 83 = .ok (.bipush 61, 2) := by decide +kernel
theorem dX10_writeWay_85 : decode cX10_writeWay 85 = .ok (.invokevirtual 318, 3) := by decide +kernel
theorem dX10_writeWay_88 : decode cX10_writeWay 88 = .ok (.pop, 1) := by decide +kernel
theorem dX10_writeWay_89 : decode cX10_writeWay 89 = .ok (.aload_n 0, 1) := by decide +kernel
theorem dX10_writeWay_90 : decode cX10_writeWay 90 = .ok (.getfield 57, 3) := by decide +kernel
theorem dX10_writeWay_93 : decode cX10_writeWay 93 = .ok (.aload_n 0, 1) := by decide +kernel
theorem dX10_writeWay_94 : decode cX10_writeWay 94 = .ok (.getfield 29, 3) := by decide +kernel
theorem dX10_writeWay_97 : decode cX10_writeWay 97 = .ok (.getfield 328, 3) := by decide +kernel
theorem dX10_writeWay_100 : decode cX10_writeWay 100 = .ok (.invokevirtual 322, 3) := by decide +kernel
theorem dX10_writeWay_103 : decode cX10_writeWay 103 = .ok (.pop, 1) := by decide +kernel
theorem dX10_writeWay_104 : decode cX10_writeWay 104 = .ok (.aload_n 0, 1) := by decide +kernel
theorem dX10_writeWay_105 : decode cX10_writeWay 105 = .ok (.getfield 57, 3) := by decide +kernel
theorem dX10_writeWay_108 : decode cX10_writeWay 108 = .ok (.invokevirtual 325, 3) := by decide +kernel
theorem dX10_writeWay_111 : decode cX10_writeWay 111 = .ok (.ireturn, 1) := by decide +kernel
abbrev rmX10_writeWay : Room := { frames := 10, cells := 21, slots := 5712, locals := 260 }
set_option maxHeartbeats 4000000 in
set_option maxRecDepth 100000 in
theorem metX10_writeWay {l : Launch} {s0 : State} {b B : Nat} {D : va_G} {T : Nat → ClassId} (F : FX l s0 b D T B) {X : Nat → Prop} (hX : ∀ o, o < 561 → ¬ X (B + o)) {N : Nat} {cap : Nat} {t : List Nat} {μ : Mem} {a0 : Nat} {a1 : Int32} {a2 : Int32} {r : (Mem × Nat × List Nat) × (Nat ⊕ Int32)} (k0 : IsGa a0) (hN : ∀ x ds, dcN x = some ds → NumP N x ds) (h : fX10_writeWay N cap t μ a0 a1 a2 = some r) : gXMet l yX10_writeWay cX10_writeWay 4 (some .int) rmX10_writeWay [.ref (B + a0), .int a1, .int a2] (gWS s0 D T B X μ cap t) (KC s0 X) (oI r.2) (gWS s0 D T B X r.1.1 r.1.2.1 r.1.2.2) (gA B X) 21 5712 := by
  refine gXI_of RX10 (by decide +kernel) rfl (Nat.le_of_ble_eq_true rfl) ?_
  intro p e s m args below meth c ls Q hx hb hlocks hml hown hts hW hk hl hS hE
  obtain ⟨hend, hthr, htb, hQ⟩ := hE
  have hC := FX_C F hk hx hb hown hts
  have hA := gA_all (fun o ho => hX o (Nat.lt_succ_of_lt ho))
  have hl : lv_has ls 4 [(0, .ref (B + a0)), (1, .int a1), (2, .int a2)] := hl
  unfold fX10_writeWay at h
  refine lv_aload_n hx hb dX10_writeWay_0 rfl (lv_at hl 0 rfl) ?_
  refine gw_get (v := .ref (B + 1)) hC hW.1 fl_X10_12 k0.1 (k0.2.2.1 (gfm s0) T B (μ a0)) rfl dX10_writeWay_1 ?_
  refine lv_iload_n hx hb dX10_writeWay_4 rfl (lv_at hl 1 rfl) ?_
  refine lv_iload_n hx hb dX10_writeWay_5 rfl (lv_at hl 2 rfl) ?_
  obtain ⟨r1, hcall, h⟩ := bd_out h
  refine gs_callV (As := [.int a1, .int a2]) F hX hk hC hml hS hW (fun X9 hX9 => (metX8_pairFault F hX9 k0.2.2.2.1 hcall)) ml_X10_115 (gw_recv hC hW.1 k0.2.2.2.1.1 (k0.2.2.2.1.2.1 (gfm s0) T B (μ 1)) rfl) ⟨rfl, rfl, (by first | exact Nat.le_of_ble_eq_true rfl | omega | (simp only [rmX10_writeWay]; omega)), (by first | exact Nat.le_of_ble_eq_true rfl | omega | (simp only [rmX10_writeWay]; omega))⟩ rfl hl.1 rfl (by first | exact Nat.le_of_ble_eq_true rfl | omega | (simp only [rmX10_writeWay]; omega)) dX10_writeWay_6 ⟨(by first | exact Nat.le_of_ble_eq_true rfl | omega | (simp only [rmX10_writeWay]; omega)), (by first | exact Nat.le_of_ble_eq_true rfl | omega | (simp only [rmX10_writeWay]; omega))⟩ (fun H locs hW hS => ?_)
  rcases tbS_out h with ⟨μ3, n5, hcall, h9⟩ | ⟨μ3, r4, hcall, h⟩
  · cases h9
    exact gs_callXS (As := [.ref (gfa s0 r1)]) F hX hk hC hml hS hW (fun X9 hX9 => (metX10_stopIf F hX9  hcall)) ml_X10_72 ⟨rfl, rfl, (by first | exact Nat.le_of_ble_eq_true rfl | omega | (simp only [rmX10_writeWay]; omega)), (by first | exact Nat.le_of_ble_eq_true rfl | omega | (simp only [rmX10_writeWay]; omega))⟩ rfl hl.1 rfl (by first | exact Nat.le_of_ble_eq_true rfl | omega | (simp only [rmX10_writeWay]; omega)) dX10_writeWay_9 ⟨(by first | exact Nat.le_of_ble_eq_true rfl | omega | (simp only [rmX10_writeWay]; omega)), (by first | exact Nat.le_of_ble_eq_true rfl | omega | (simp only [rmX10_writeWay]; omega))⟩ (fun v9 ho => by cases ho) (fun k9 ho H locs q9 ce9 hW hS hce hvm hcl => by cases ho; exact hthr _ rfl hW hS hce hvm hcl (by first | exact Nat.le_of_ble_eq_true rfl | omega | (simp only [rmX10_writeWay]; omega)) (by first | exact Nat.le_of_ble_eq_true rfl | omega | (simp only [rmX10_writeWay]; omega)))
  refine gs_callXS (As := [.ref (gfa s0 r1)]) F hX hk hC hml hS hW (fun X9 hX9 => (metX10_stopIf F hX9  hcall)) ml_X10_72 ⟨rfl, rfl, (by first | exact Nat.le_of_ble_eq_true rfl | omega | (simp only [rmX10_writeWay]; omega)), (by first | exact Nat.le_of_ble_eq_true rfl | omega | (simp only [rmX10_writeWay]; omega))⟩ rfl hl.1 rfl (by first | exact Nat.le_of_ble_eq_true rfl | omega | (simp only [rmX10_writeWay]; omega)) dX10_writeWay_9 ⟨(by first | exact Nat.le_of_ble_eq_true rfl | omega | (simp only [rmX10_writeWay]; omega)), (by first | exact Nat.le_of_ble_eq_true rfl | omega | (simp only [rmX10_writeWay]; omega))⟩ (fun v9 ho H locs hW hS => ?_) (fun k9 ho => by cases ho)
  cases ho
  refine W.widen (k := 1) (n := 6) (by first | exact Nat.le_of_ble_eq_true rfl | omega | (simp only [rmX10_writeWay]; omega)) (by first | exact Nat.le_of_ble_eq_true rfl | omega | (simp only [rmX10_writeWay]; omega)) ?_
  refine lv_aload_n hx hb dX10_writeWay_12 rfl (lv_at hl 0 rfl) ?_
  refine lv_iload_n hx hb dX10_writeWay_13 rfl (lv_at hl 1 rfl) ?_
  refine lv_iload_n hx hb dX10_writeWay_14 rfl (lv_at hl 2 rfl) ?_
  obtain ⟨r6, hcall, h⟩ := bd_out h
  refine gs_callV (As := [.int a1, .int a2]) F hX hk hC hml hS hW (fun X9 hX9 => (metX10_wayFault F hX9 k0 hcall)) ml_X10_133 (gw_recv hC hW.1 k0.1 (k0.2.2.1 (gfm s0) T B (μ3 a0)) rfl) ⟨rfl, rfl, (by first | exact Nat.le_of_ble_eq_true rfl | omega | (simp only [rmX10_writeWay]; omega)), (by first | exact Nat.le_of_ble_eq_true rfl | omega | (simp only [rmX10_writeWay]; omega))⟩ rfl hl.1 rfl (by first | exact Nat.le_of_ble_eq_true rfl | omega | (simp only [rmX10_writeWay]; omega)) dX10_writeWay_15 ⟨(by first | exact Nat.le_of_ble_eq_true rfl | omega | (simp only [rmX10_writeWay]; omega)), (by first | exact Nat.le_of_ble_eq_true rfl | omega | (simp only [rmX10_writeWay]; omega))⟩ (fun H locs hW hS => ?_)
  rcases tbS_out h with ⟨μ8, n10, hcall, h9⟩ | ⟨μ8, r9, hcall, h⟩
  · cases h9
    exact gs_callXS (As := [.ref (gfa s0 r6.2)]) F hX hk hC hml hS hW (fun X9 hX9 => (metX10_stopIf F hX9  hcall)) ml_X10_72 ⟨rfl, rfl, (by first | exact Nat.le_of_ble_eq_true rfl | omega | (simp only [rmX10_writeWay]; omega)), (by first | exact Nat.le_of_ble_eq_true rfl | omega | (simp only [rmX10_writeWay]; omega))⟩ rfl hl.1 rfl (by first | exact Nat.le_of_ble_eq_true rfl | omega | (simp only [rmX10_writeWay]; omega)) dX10_writeWay_18 ⟨(by first | exact Nat.le_of_ble_eq_true rfl | omega | (simp only [rmX10_writeWay]; omega)), (by first | exact Nat.le_of_ble_eq_true rfl | omega | (simp only [rmX10_writeWay]; omega))⟩ (fun v9 ho => by cases ho) (fun k9 ho H locs q9 ce9 hW hS hce hvm hcl => by cases ho; exact hthr _ rfl hW hS hce hvm hcl (by first | exact Nat.le_of_ble_eq_true rfl | omega | (simp only [rmX10_writeWay]; omega)) (by first | exact Nat.le_of_ble_eq_true rfl | omega | (simp only [rmX10_writeWay]; omega)))
  refine gs_callXS (As := [.ref (gfa s0 r6.2)]) F hX hk hC hml hS hW (fun X9 hX9 => (metX10_stopIf F hX9  hcall)) ml_X10_72 ⟨rfl, rfl, (by first | exact Nat.le_of_ble_eq_true rfl | omega | (simp only [rmX10_writeWay]; omega)), (by first | exact Nat.le_of_ble_eq_true rfl | omega | (simp only [rmX10_writeWay]; omega))⟩ rfl hl.1 rfl (by first | exact Nat.le_of_ble_eq_true rfl | omega | (simp only [rmX10_writeWay]; omega)) dX10_writeWay_18 ⟨(by first | exact Nat.le_of_ble_eq_true rfl | omega | (simp only [rmX10_writeWay]; omega)), (by first | exact Nat.le_of_ble_eq_true rfl | omega | (simp only [rmX10_writeWay]; omega))⟩ (fun v9 ho H locs hW hS => ?_) (fun k9 ho => by cases ho)
  cases ho
  refine W.widen (k := 2) (n := 12) (by first | exact Nat.le_of_ble_eq_true rfl | omega | (simp only [rmX10_writeWay]; omega)) (by first | exact Nat.le_of_ble_eq_true rfl | omega | (simp only [rmX10_writeWay]; omega)) ?_
  refine lv_aload_n hx hb dX10_writeWay_21 rfl (lv_at hl 0 rfl) ?_
  refine gw_get (v := .ref (B + 560)) hC hW.1 fl_X10_57 k0.1 (k0.2.2.1 (gfm s0) T B (μ8 a0)) rfl dX10_writeWay_22 ?_
  refine lv_iconst (v := 0) hx hb dX10_writeWay_25 (by decide) ?_
  refine g_sbNil F hX hk hC hml hS hW ml_X10_314 ⟨rfl, rfl, (by first | exact Nat.le_of_ble_eq_true rfl | omega | (simp only [rmX10_writeWay]; omega)), (by first | exact Nat.le_of_ble_eq_true rfl | omega | (simp only [rmX10_writeWay]; omega))⟩ hl.1 (by first | exact Nat.le_of_ble_eq_true rfl | omega | (simp only [rmX10_writeWay]; omega)) dX10_writeWay_26 ⟨(by first | exact Nat.le_of_ble_eq_true rfl | omega | (simp only [rmX10_writeWay]; omega)), (by first | exact Nat.le_of_ble_eq_true rfl | omega | (simp only [rmX10_writeWay]; omega))⟩ (fun H locs hW hS => ?_)
  refine lv_iconst (v := 0) hx hb dX10_writeWay_29 (by decide) ?_
  refine lv_istore_n (lv' := [(3, .int 0), (0, .ref (B + a0)), (1, .int a1), (2, .int a2)]) hx hb dX10_writeWay_30 rfl hl (by decide) rfl (fun ls hl => ?_)
  refine W.widen (k := 3 + 0 * 2) (n := 312 + 0 * 600) (by omega) (by omega) ?_
  refine fix4_ind (fun (x11 : Int32) (κ12 : Nat) (cap13 : Nat) (t14 : List Nat) => ∀ (H : Heap) (locs : List Loc) (ls : Array Slot), gWS s0 D T B X μ8 cap13 t14 H → va_S (gA B X) s.heap H locs → lv_has ls 4 [(0, .ref (B + a0)), (3, .int x11)] → W p l e rmX10_writeWay s m args below meth c H locs (3 + κ12 * 2) (312 + κ12 * 600) Q (F0 m 31 ls [])) ?_ N _ _ _ _ h _ _ _ hW hS (lv_sub hl [1, 0] rfl)
  clear h hW hS hl
  intro self15 IH16 x11 κ12 cap13 t14 h H locs ls hW hS hl
  obtain ⟨hκ17, h⟩ := gd_out h
  refine lv_iload_n hx hb dX10_writeWay_31 rfl (lv_at hl 1 rfl) ?_
  refine lv_aload_n hx hb dX10_writeWay_32 rfl (lv_at hl 0 rfl) ?_
  refine gw_get (v := .ref (B + 520)) hC hW.1 fl_X10_29 k0.1 (k0.2.2.1 (gfm s0) T B (μ8 a0)) rfl dX10_writeWay_33 ?_
  refine gw_get (v := .int (μ8 520 1)) hC hW.1 fl_X10_136.1 k0.2.2.2.2.2.2.1.1 (k0.2.2.2.2.2.2.1.2.1 (gfm s0) T B (μ8 520)) rfl dX10_writeWay_36 ?_
  refine lv_icmp_ge (tgt := 79) hx hb dX10_writeWay_39 (by decide) (fun c18 => ?_) (fun c18 => ?_)
  · replace h := ite_t c18 h
    refine W.widen (k := 19) (n := 5112) (by omega) (by omega) ?_
    refine lv_aload_n hx hb dX10_writeWay_79 rfl (lv_at hl 0 rfl) ?_
    refine gw_get (v := .ref (B + 560)) hC hW.1 fl_X10_57 k0.1 (k0.2.2.1 (gfm s0) T B (μ8 a0)) rfl dX10_writeWay_80 ?_
    refine lv_bipush (v := 61) hx hb dX10_writeWay_83 (by decide) ?_
    obtain ⟨g19, h⟩ := gd_out h
    refine g_sbChr (c0 := 61) F hX hk hC hml hS hW (by decide) g19 ml_X10_318 ⟨rfl, rfl, (by first | exact Nat.le_of_ble_eq_true rfl | omega | (simp only [rmX10_writeWay]; omega)), (by first | exact Nat.le_of_ble_eq_true rfl | omega | (simp only [rmX10_writeWay]; omega))⟩ hl.1 (by first | exact Nat.le_of_ble_eq_true rfl | omega | (simp only [rmX10_writeWay]; omega)) dX10_writeWay_85 ⟨(by first | exact Nat.le_of_ble_eq_true rfl | omega | (simp only [rmX10_writeWay]; omega)), (by first | exact Nat.le_of_ble_eq_true rfl | omega | (simp only [rmX10_writeWay]; omega))⟩ (fun H locs hW hS => ?_)
    refine lv_pop hx hb dX10_writeWay_88 rfl ?_
    refine lv_aload_n hx hb dX10_writeWay_89 rfl (lv_at hl 0 rfl) ?_
    refine gw_get (v := .ref (B + 560)) hC hW.1 fl_X10_57 k0.1 (k0.2.2.1 (gfm s0) T B (μ8 a0)) rfl dX10_writeWay_90 ?_
    refine lv_aload_n hx hb dX10_writeWay_93 rfl (lv_at hl 0 rfl) ?_
    refine gw_get (v := .ref (B + 520)) hC hW.1 fl_X10_29 k0.1 (k0.2.2.1 (gfm s0) T B (μ8 a0)) rfl dX10_writeWay_94 ?_
    refine gw_get (v := .int (μ8 520 2)) hC hW.1 fl_X10_328.1 k0.2.2.2.2.2.2.1.1 (k0.2.2.2.2.2.2.1.2.1 (gfm s0) T B (μ8 520)) rfl dX10_writeWay_97 ?_
    obtain ⟨ds21, e22, h⟩ := bd_out h
    obtain ⟨g20, h⟩ := gd_out h
    refine g_sbNum F hX hk hC hml hS hW (hN _ _ e22) g20 ml_X10_322 ⟨rfl, rfl, (by first | exact Nat.le_of_ble_eq_true rfl | omega | (simp only [rmX10_writeWay]; omega)), (by first | exact Nat.le_of_ble_eq_true rfl | omega | (simp only [rmX10_writeWay]; omega))⟩ hl.1 (by first | exact Nat.le_of_ble_eq_true rfl | omega | (simp only [rmX10_writeWay]; omega)) dX10_writeWay_100 ⟨(by first | exact Nat.le_of_ble_eq_true rfl | omega | (simp only [rmX10_writeWay]; omega)), (by first | exact Nat.le_of_ble_eq_true rfl | omega | (simp only [rmX10_writeWay]; omega))⟩ (fun H locs hW hS => ?_)
    refine lv_pop hx hb dX10_writeWay_103 rfl ?_
    refine lv_aload_n hx hb dX10_writeWay_104 rfl (lv_at hl 0 rfl) ?_
    refine gw_get (v := .ref (B + 560)) hC hW.1 fl_X10_57 k0.1 (k0.2.2.1 (gfm s0) T B (μ8 a0)) rfl dX10_writeWay_105 ?_
    refine g_sbLen F hk hC hml hS hW ml_X10_325 ⟨rfl, rfl, (by first | exact Nat.le_of_ble_eq_true rfl | omega | (simp only [rmX10_writeWay]; omega)), (by first | exact Nat.le_of_ble_eq_true rfl | omega | (simp only [rmX10_writeWay]; omega))⟩ hl.1 (by first | exact Nat.le_of_ble_eq_true rfl | omega | (simp only [rmX10_writeWay]; omega)) dX10_writeWay_108 ⟨(by first | exact Nat.le_of_ble_eq_true rfl | omega | (simp only [rmX10_writeWay]; omega)), (by first | exact Nat.le_of_ble_eq_true rfl | omega | (simp only [rmX10_writeWay]; omega))⟩ (fun locs hS => ?_)
    cases h
    exact hend _ rfl dX10_writeWay_111 hW hS (by first | exact Nat.le_of_ble_eq_true rfl | omega | (simp only [rmX10_writeWay]; omega)) (by first | exact Nat.le_of_ble_eq_true rfl | omega | (simp only [rmX10_writeWay]; omega))
  · replace h := ite_f c18 h
    refine lv_iload_n hx hb dX10_writeWay_42 rfl (lv_at hl 1 rfl) ?_
    obtain ⟨j25, hj27, h⟩ := jn2_o h
    have J26 : ∀ (cap23 : Nat) (t24 : List Nat), j25 cap23 t24 = some r → ∀ (H : Heap) (locs : List Loc) (ls : Array Slot), gWS s0 D T B X μ8 cap23 t24 H → va_S (gA B X) s.heap H locs → lv_has ls 4 [(0, .ref (B + a0)), (3, .int x11)] → W p l e rmX10_writeWay s m args below meth c H locs (3 + κ12 * 2 + 1) (312 + κ12 * 600 + 300) Q (F0 m 56 ls []) := by
      clear h hW hS hl
      intro cap23 t24 h H locs ls hW hS hl
      replace h := (hj27 cap23 t24).symm.trans h
      refine lv_aload_n hx hb dX10_writeWay_56 rfl (lv_at hl 0 rfl) ?_
      refine gw_get (v := .ref (B + 560)) hC hW.1 fl_X10_57 k0.1 (k0.2.2.1 (gfm s0) T B (μ8 a0)) rfl dX10_writeWay_57 ?_
      refine lv_aload_n hx hb dX10_writeWay_60 rfl (lv_at hl 0 rfl) ?_
      refine gw_get (v := .ref (B + 520)) hC hW.1 fl_X10_29 k0.1 (k0.2.2.1 (gfm s0) T B (μ8 a0)) rfl dX10_writeWay_61 ?_
      refine gw_get (v := .ref (B + (520 + 1))) hC hW.1 fl_X10_146 k0.2.2.2.2.2.2.1.1 (k0.2.2.2.2.2.2.1.2.1 (gfm s0) T B (μ8 520)) rfl dX10_writeWay_64 ?_
      refine lv_iload_n hx hb dX10_writeWay_67 rfl (lv_at hl 1 rfl) ?_
      obtain ⟨v28, e29, hi30, h⟩ := ag_o h
      refine gq_iald hC hW.1 k0.2.2.2.2.2.2.1.2.2.1.1 (k0.2.2.2.2.2.2.1.2.2.1.2 (gfm s0) T B (μ8 (520 + 1))) (t0 := 0) rfl e29 hi30 dX10_writeWay_68 ?_
      obtain ⟨ds32, e33, h⟩ := bd_out h
      obtain ⟨g31, h⟩ := gd_out h
      refine g_sbNum F hX hk hC hml hS hW (hN _ _ e33) g31 ml_X10_322 ⟨rfl, rfl, (by first | exact Nat.le_of_ble_eq_true rfl | omega | (simp only [rmX10_writeWay]; omega)), (by first | exact Nat.le_of_ble_eq_true rfl | omega | (simp only [rmX10_writeWay]; omega))⟩ hl.1 (by first | exact Nat.le_of_ble_eq_true rfl | omega | (simp only [rmX10_writeWay]; omega)) dX10_writeWay_69 ⟨(by first | exact Nat.le_of_ble_eq_true rfl | omega | (simp only [rmX10_writeWay]; omega)), (by first | exact Nat.le_of_ble_eq_true rfl | omega | (simp only [rmX10_writeWay]; omega))⟩ (fun H locs hW hS => ?_)
      refine lv_pop hx hb dX10_writeWay_72 rfl ?_
      obtain ⟨v34, e35, h⟩ := lt_out h
      refine lv_iinc (v := v34) (lv' := [(3, .int v34), (0, .ref (B + a0))]) hx hb dX10_writeWay_73 hl (k := 1) rfl (by rw [e35]; rfl) (by decide) rfl (fun ls hl => ?_)
      refine lv_goto (tgt := 31) hx hb dX10_writeWay_76 (by decide) ?_
      refine W.widen (k := 3 + (κ12 + 1) * 2) (n := 312 + (κ12 + 1) * 600) (by omega) (by omega) ?_
      exact IH16 _ _ _ _ h _ _ _ hW hS (lv_sub hl [1, 0] rfl)
    refine lv_if_le (tgt := 56) hx hb dX10_writeWay_43 (by decide) (fun c36 => ?_) (fun c36 => ?_)
    · replace h := ite_t c36 h
      refine W.widen (k := (3 + κ12 * 2 + 1)) (n := (312 + κ12 * 600 + 300)) (by first | exact Nat.le_of_ble_eq_true rfl | omega | (simp only [rmX10_writeWay]; omega)) (by first | exact Nat.le_of_ble_eq_true rfl | omega | (simp only [rmX10_writeWay]; omega)) ?_
      exact J26 _ _ h _ _ _ hW hS (lv_sub hl [0, 1] rfl)
    · replace h := ite_f c36 h
      refine lv_aload_n hx hb dX10_writeWay_46 rfl (lv_at hl 0 rfl) ?_
      refine gw_get (v := .ref (B + 560)) hC hW.1 fl_X10_57 k0.1 (k0.2.2.1 (gfm s0) T B (μ8 a0)) rfl dX10_writeWay_47 ?_
      refine lv_bipush (v := 62) hx hb dX10_writeWay_50 (by decide) ?_
      obtain ⟨g37, h⟩ := gd_out h
      refine g_sbChr (c0 := 62) F hX hk hC hml hS hW (by decide) g37 ml_X10_318 ⟨rfl, rfl, (by first | exact Nat.le_of_ble_eq_true rfl | omega | (simp only [rmX10_writeWay]; omega)), (by first | exact Nat.le_of_ble_eq_true rfl | omega | (simp only [rmX10_writeWay]; omega))⟩ hl.1 (by first | exact Nat.le_of_ble_eq_true rfl | omega | (simp only [rmX10_writeWay]; omega)) dX10_writeWay_52 ⟨(by first | exact Nat.le_of_ble_eq_true rfl | omega | (simp only [rmX10_writeWay]; omega)), (by first | exact Nat.le_of_ble_eq_true rfl | omega | (simp only [rmX10_writeWay]; omega))⟩ (fun H locs hW hS => ?_)
      refine lv_pop hx hb dX10_writeWay_55 rfl ?_
      exact J26 _ _ h _ _ _ hW hS (lv_sub hl [0, 1] rfl)
