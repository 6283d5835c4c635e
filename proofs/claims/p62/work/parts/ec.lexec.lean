/-! Printed by program and by hand: the law feeds and executes a text. -/
theorem dL_execute_0 : decode cL_execute 0 = .ok (.iconst 0, 1) := by decide +kernel
theorem dL_execute_1 : decode cL_execute 1 = .ok (.istore_n 2, 1) := by decide +kernel
theorem dL_execute_2 : decode cL_execute 2 = .ok (.iload_n 2, 1) := by decide +kernel
theorem dL_execute_3 : decode cL_execute 3 = .ok (.aload_n 1, 1) := by decide +kernel
theorem dL_execute_4 : decode cL_execute 4 = .ok (.invokevirtual 176, 3) := by decide +kernel
theorem dL_execute_7 : decode cL_execute 7 = .ok (.if_icmp .ge 27, 3) := by decide +kernel
theorem dL_execute_10 : decode cL_execute 10 = .ok (.aload_n 0, 1) := by decide +kernel
theorem dL_execute_11 : decode cL_execute 11 = .ok (.aload_n 1, 1) := by decide +kernel
theorem dL_execute_12 : decode cL_execute 12 = .ok (.iload_n 2, 1) := by decide +kernel
theorem dL_execute_13 : decode cL_execute 13 = .ok (.invokevirtual 181, 3) := by decide +kernel
theorem dL_execute_16 : decode cL_execute 16 = .ok (.invokestatic 184, 3) := by decide +kernel
theorem dL_execute_19 : decode cL_execute 19 = .ok (.iload_n 2, 1) := by decide +kernel
theorem dL_execute_20 : decode cL_execute 20 = .ok (.iconst 1, 1) := by decide +kernel
theorem dL_execute_21 : decode cL_execute 21 = .ok (.iadd, 1) := by decide +kernel
theorem dL_execute_22 : decode cL_execute 22 = .ok (.if_icmp .eq 6, 3) := by decide +kernel
theorem dL_execute_25 : decode cL_execute 25 = .ok (.bipush (-9), 2) := by decide +kernel
theorem dL_execute_27 : decode cL_execute 27 = .ok (.ireturn, 1) := by decide +kernel
theorem dL_execute_28 : decode cL_execute 28 = .ok (.iinc 2 1, 3) := by decide +kernel
theorem dL_execute_31 : decode cL_execute 31 = .ok (.goto (-29), 3) := by decide +kernel
theorem dL_execute_34 : decode cL_execute 34 = .ok (.aload_n 0, 1) := by decide +kernel
theorem dL_execute_35 : decode cL_execute 35 = .ok (.invokestatic 189, 3) := by decide +kernel
theorem dL_execute_38 : decode cL_execute 38 = .ok (.ireturn, 1) := by decide +kernel
abbrev rmL_execute (K : Nat) : Room := { frames := 12, cells := K, slots := 6 * K, locals := 400 }
set_option maxHeartbeats 4000000 in
set_option maxRecDepth 100000 in
theorem metL_execute {l : Launch} {s0 : State} {b B : Nat} {D : va_G} {T : Nat → ClassId} (F : FX l s0 b D T B) {X : Nat → Prop} (hX : ∀ o, o < 561 → ¬ X (B + o)) {N : Nat} (hN : 1200000000000 ≤ N) {Z : Nat → Int32} {hs : List (Nat → Int32)} {t tx : List Nat} {K a9 : Nat} (hK : tx.length + 1 ≤ K) : gMetQ l yL_execute cL_execute 3 (some .int) (rmL_execute K) [.ref (B + 0), .ref a9] (gZ s0 D T B X Z hs t) (KA s0 X (gA B X) a9 tx) (gCH s0 D T B X Z hs t (fun _ => True) (fun _ _ => True)) (gA B X) K (6 * K) := by
  refine gMetQ_of RL (by decide +kernel) rfl (Nat.le_of_ble_eq_true rfl) ?_
  intro p e s m below meth c ls hx hb hr hlocks hml hown hts hW hkA hl hS
  have hk := hkA.1
  have hlen : tx.length < 2 ^ 31 := hkA.2.1
  have h256 := hkA.2.2.1
  have hC := FX_C F hk hx hb hown hts
  have hl : lv_has ls 3 [(0, .ref (B + 0)), (1, .ref a9)] := hl
  have loop : ∀ (n i : Nat), i + n = tx.length → ∀ (H : Heap) (locs : List Loc) (ls : Array Slot), gZ s0 D T B X Z hs t H → va_S (gA B X) s.heap H locs → lv_has ls 3 [(0, .ref (B + 0)), (1, .ref a9), (2, .int (nI i))] → W p l e (rmL_execute K) s m [Value.ref (B + 0), Value.ref a9].toArray below meth c H locs i (6 * i) (MQ below (gQr (gCH s0 D T B X Z hs t (fun _ => True) (fun _ _ => True)) (gA B X)) [Value.ref (B + 0), Value.ref a9].toArray s K (6 * K) (gA B X)) (F0 m 2 ls []) := by
    clear hW hS hl
    intro n
    induction n with
    | zero =>
      intro i hi H locs ls hW hS hl
      refine lv_iload_n hx hb dL_execute_2 rfl (lv_at hl 2 rfl) ?_
      refine lv_aload_n hx hb dL_execute_3 rfl (lv_at hl 1 rfl) ?_
      refine tr_len F hkA hC hml hS ml_L_176 ⟨rfl, rfl, (by first | exact Nat.le_of_ble_eq_true rfl | (simp only [rmL_execute]; omega)), (by first | exact Nat.le_of_ble_eq_true rfl | (simp only [rmL_execute]; omega))⟩ hl.1 (by first | exact Nat.le_of_ble_eq_true rfl | (simp only [rmL_execute]; omega)) dL_execute_4 ⟨(by show _ ≤ K; omega), (by show _ ≤ 6 * K; omega)⟩ (fun locs hS => ?_)
      refine lv_icmp_ge (tgt := 34) hx hb dL_execute_7 (by decide) (fun c9 => ?_) (fun c9 => absurd ((nI_leI hlen (by omega)).mpr (by omega)) c9)
      refine lv_aload_n hx hb dL_execute_34 rfl (lv_at hl 0 rfl) ?_
      refine gz_wrS (As := [.ref (B + 0)]) F hk hC hml hS hW (mc_executes F hX hN) mw_L_189 ⟨rfl, rfl, (by first | exact Nat.le_of_ble_eq_true rfl | (simp only [rmL_execute]; omega)), (by first | exact Nat.le_of_ble_eq_true rfl | (simp only [rmL_execute]; omega))⟩ rfl hl.1 rfl (by first | exact Nat.le_of_ble_eq_true rfl | (simp only [rmL_execute]; omega)) dL_execute_35 ⟨(by show _ ≤ K; omega), (by show _ ≤ 6 * K; omega)⟩ (fun Z2 hs2 t9 out H locs hS2 hW hS => ?_)
      have hQ := gCH_of (s0 := s0) (D := D) (T := T) (B := B) (X := X) (w := [(1, (-1)), (4, (-2))]) (Fm := fun _ => True) (H := H) (by decide) (fun _ _ _ => True.intro) (fun _ _ h => h) ⟨Z2, hs2, t9, out, hS2, rfl, hW⟩
      obtain ⟨x, Z3, hs3, hv, hZ3, hc3⟩ := hQ
      refine gr_iret hx hb hr hlocks ⟨_, Z3, hs3, rfl, hZ3, ?_⟩ hS (by omega) (by omega) dL_execute_38
      cases hv
      rcases hc3 with ⟨q1, q2, q3, -⟩ | ⟨q1, q2, -⟩
      · exact Or.inl ⟨q1, q2, q3, True.intro⟩
      · exact Or.inr ⟨q1, q2, True.intro⟩
    | succ n ih =>
      intro i hi H locs ls hW hS hl
      refine lv_iload_n hx hb dL_execute_2 rfl (lv_at hl 2 rfl) ?_
      refine lv_aload_n hx hb dL_execute_3 rfl (lv_at hl 1 rfl) ?_
      refine tr_len F hkA hC hml hS ml_L_176 ⟨rfl, rfl, (by first | exact Nat.le_of_ble_eq_true rfl | (simp only [rmL_execute]; omega)), (by first | exact Nat.le_of_ble_eq_true rfl | (simp only [rmL_execute]; omega))⟩ hl.1 (by first | exact Nat.le_of_ble_eq_true rfl | (simp only [rmL_execute]; omega)) dL_execute_4 ⟨(by show _ ≤ K; omega), (by show _ ≤ 6 * K; omega)⟩ (fun locs hS => ?_)
      refine lv_icmp_ge (tgt := 34) hx hb dL_execute_7 (by decide) (fun c9 => absurd ((nI_leI hlen (by omega)).mp c9) (by omega)) (fun c9 => ?_)
      refine lv_aload_n hx hb dL_execute_10 rfl (lv_at hl 0 rfl) ?_
      refine lv_aload_n hx hb dL_execute_11 rfl (lv_at hl 1 rfl) ?_
      refine lv_iload_n hx hb dL_execute_12 rfl (lv_at hl 2 rfl) ?_
      have hi9 : i < tx.length := by omega
      refine tr_chr hi9 F hkA hC hml hS ml_L_181 ⟨rfl, rfl, (by first | exact Nat.le_of_ble_eq_true rfl | (simp only [rmL_execute]; omega)), (by first | exact Nat.le_of_ble_eq_true rfl | (simp only [rmL_execute]; omega))⟩ hl.1 (by first | exact Nat.le_of_ble_eq_true rfl | (simp only [rmL_execute]; omega)) dL_execute_13 ⟨(by show _ ≤ K; omega), (by show _ ≤ 6 * K; omega)⟩ (fun locs hS => ?_)
      have hch : tx.getD i 0 < 65536 := Nat.lt_trans (h256 i hi9) (by decide)
      refine gz_wrS (As := [.ref (B + 0), .int (nI (tx.getD i 0))]) F hk hC hml hS hW (mc_feed F hX hch) mw_L_184 ⟨rfl, rfl, (by first | exact Nat.le_of_ble_eq_true rfl | (simp only [rmL_execute]; omega)), (by first | exact Nat.le_of_ble_eq_true rfl | (simp only [rmL_execute]; omega))⟩ rfl hl.1 rfl (by first | exact Nat.le_of_ble_eq_true rfl | (simp only [rmL_execute]; omega)) dL_execute_16 ⟨(by show _ ≤ K; omega), (by show _ ≤ 6 * K; omega)⟩ (fun Z2 hs2 t9 out H locs hS2 hW hS => ?_)
      obtain ⟨q1, q2, q3, -⟩ := hS2
      rw [q1, q2, q3] at hW
      refine lv_iload_n hx hb dL_execute_19 rfl (lv_at hl 2 rfl) ?_
      refine lv_iconst (v := 1) hx hb dL_execute_20 (by decide) ?_
      refine lv_iadd hx hb dL_execute_21 ?_
      refine lv_icmp_eq (tgt := 28) hx hb dL_execute_22 (by decide) (fun c8 => ?_) (fun c8 => ?_)
      · refine lv_iinc (v := nI (i + 1)) (lv' := [(2, .int (nI (i + 1))), (0, .ref (B + 0)), (1, .ref a9)]) hx hb dL_execute_28 hl (k := 2) rfl (by rw [← nI_1]; rfl) (by decide) rfl (fun ls hl => ?_)
        refine lv_goto (tgt := 2) hx hb dL_execute_31 (by decide) ?_
        refine W.widen (k := i + 1) (n := 6 * (i + 1)) (by omega) (by omega) ?_
        exact ih (i + 1) (by omega) _ _ _ hW hS (lv_sub hl [1, 2, 0] rfl)
      · refine lv_bipush (v := (-9)) hx hb dL_execute_25 (by decide) ?_
        exact gr_iret hx hb hr hlocks ⟨-9, Z, hs, rfl, hW, Or.inl ⟨by decide, rfl, rfl, True.intro⟩⟩ hS (by omega) (by omega) dL_execute_27
  refine lv_iconst (v := 0) hx hb dL_execute_0 (by decide) ?_
  refine lv_istore_n (lv' := [(2, .int 0), (0, .ref (B + 0)), (1, .ref a9)]) hx hb dL_execute_1 rfl hl (by decide) rfl (fun ls hl => ?_)
  exact loop tx.length 0 (Nat.zero_add _) _ _ _ hW hS (lv_sub hl [1, 2, 0] rfl)
