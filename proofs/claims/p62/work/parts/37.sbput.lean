/-! The text builder: a letter more; no letter. -/
theorem dJ1_canEncode_fc78d_0 : decode cJ1_canEncode_fc78d 0 = .ok (.iload_n 0, 1) := by decide +kernel
theorem dJ1_canEncode_fc78d_1 : decode cJ1_canEncode_fc78d 1 = .ok (.sipush 255, 3) := by decide +kernel
theorem dJ1_canEncode_fc78d_4 : decode cJ1_canEncode_fc78d 4 = .ok (.if_icmp .gt 7, 3) := by decide +kernel
theorem dJ1_canEncode_fc78d_7 : decode cJ1_canEncode_fc78d 7 = .ok (.iconst 1, 1) := by decide +kernel
theorem dJ1_canEncode_fc78d_8 : decode cJ1_canEncode_fc78d 8 = .ok (.goto 4, 3) := by decide +kernel
theorem dJ1_canEncode_fc78d_11 : decode cJ1_canEncode_fc78d 11 = .ok (.iconst 0, 1) := by decide +kernel
theorem dJ1_canEncode_fc78d_12 : decode cJ1_canEncode_fc78d 12 = .ok (.ireturn, 1) := by decide +kernel
theorem dJ5_append_3fe6f_0 : decode cJ5_append_3fe6f 0 = .ok (.aload_n 0, 1) := by decide +kernel
theorem dJ5_append_3fe6f_1 : decode cJ5_append_3fe6f 1 = .ok (.aload_n 0, 1) := by decide +kernel
theorem dJ5_append_3fe6f_2 : decode cJ5_append_3fe6f 2 = .ok (.getfield 79, 3) := by decide +kernel
theorem dJ5_append_3fe6f_5 : decode cJ5_append_3fe6f 5 = .ok (.iconst 1, 1) := by decide +kernel
theorem dJ5_append_3fe6f_6 : decode cJ5_append_3fe6f 6 = .ok (.iadd, 1) := by decide +kernel
theorem dJ5_append_3fe6f_7 : decode cJ5_append_3fe6f 7 = .ok (.invokevirtual 100, 3) := by decide +kernel
theorem dJ5_append_3fe6f_10 : decode cJ5_append_3fe6f 10 = .ok (.aload_n 0, 1) := by decide +kernel
theorem dJ5_append_3fe6f_11 : decode cJ5_append_3fe6f 11 = .ok (.invokevirtual 83, 3) := by decide +kernel
theorem dJ5_append_3fe6f_14 : decode cJ5_append_3fe6f 14 = .ok (.ifCond .eq 31, 3) := by decide +kernel
theorem dJ5_append_3fe6f_17 : decode cJ5_append_3fe6f 17 = .ok (.iload_n 1, 1) := by decide +kernel
theorem dJ5_append_3fe6f_18 : decode cJ5_append_3fe6f 18 = .ok (.invokestatic 191, 3) := by decide +kernel
theorem dJ5_append_3fe6f_21 : decode cJ5_append_3fe6f 21 = .ok (.ifCond .eq 24, 3) := by decide +kernel
theorem dJ5_append_3fe6f_24 : decode cJ5_append_3fe6f 24 = .ok (.aload_n 0, 1) := by decide +kernel
theorem dJ5_append_3fe6f_25 : decode cJ5_append_3fe6f 25 = .ok (.getfield 15, 3) := by decide +kernel
theorem dJ5_append_3fe6f_28 : decode cJ5_append_3fe6f 28 = .ok (.aload_n 0, 1) := by decide +kernel
theorem dJ5_append_3fe6f_29 : decode cJ5_append_3fe6f 29 = .ok (.dup, 1) := by decide +kernel
theorem dJ5_append_3fe6f_30 : decode cJ5_append_3fe6f 30 = .ok (.getfield 79, 3) := by decide +kernel
theorem dJ5_append_3fe6f_33 : decode cJ5_append_3fe6f 33 = .ok (.dup_x1, 1) := by decide +kernel
theorem dJ5_append_3fe6f_34 : decode cJ5_append_3fe6f 34 = .ok (.iconst 1, 1) := by decide +kernel
theorem dJ5_append_3fe6f_35 : decode cJ5_append_3fe6f 35 = .ok (.iadd, 1) := by decide +kernel
theorem dJ5_append_3fe6f_36 : decode cJ5_append_3fe6f 36 = .ok (.putfield 79, 3) := by decide +kernel
theorem dJ5_append_3fe6f_39 : decode cJ5_append_3fe6f 39 = .ok (.iload_n 1, 1) := by decide +kernel
theorem dJ5_append_3fe6f_40 : decode cJ5_append_3fe6f 40 = .ok (.i2b, 1) := by decide +kernel
theorem dJ5_append_3fe6f_41 : decode cJ5_append_3fe6f 41 = .ok (.bastore, 1) := by decide +kernel
theorem dJ5_append_3fe6f_42 : decode cJ5_append_3fe6f 42 = .ok (.goto 33, 3) := by decide +kernel
theorem dJ5_append_3fe6f_45 : decode cJ5_append_3fe6f 45 = .ok (.aload_n 0, 1) := by decide +kernel
theorem dJ5_append_3fe6f_46 : decode cJ5_append_3fe6f 46 = .ok (.invokevirtual 83, 3) := by decide +kernel
theorem dJ5_append_3fe6f_49 : decode cJ5_append_3fe6f 49 = .ok (.ifCond .eq 7, 3) := by decide +kernel
theorem dJ5_append_3fe6f_52 : decode cJ5_append_3fe6f 52 = .ok (.aload_n 0, 1) := by decide +kernel
theorem dJ5_append_3fe6f_53 : decode cJ5_append_3fe6f 53 = .ok (.invokevirtual 195, 3) := by decide +kernel
theorem dJ5_append_3fe6f_56 : decode cJ5_append_3fe6f 56 = .ok (.aload_n 0, 1) := by decide +kernel
theorem dJ5_append_3fe6f_57 : decode cJ5_append_3fe6f 57 = .ok (.getfield 15, 3) := by decide +kernel
theorem dJ5_append_3fe6f_60 : decode cJ5_append_3fe6f 60 = .ok (.aload_n 0, 1) := by decide +kernel
theorem dJ5_append_3fe6f_61 : decode cJ5_append_3fe6f 61 = .ok (.dup, 1) := by decide +kernel
theorem dJ5_append_3fe6f_62 : decode cJ5_append_3fe6f 62 = .ok (.getfield 79, 3) := by decide +kernel
theorem dJ5_append_3fe6f_65 : decode cJ5_append_3fe6f 65 = .ok (.dup_x1, 1) := by decide +kernel
theorem dJ5_append_3fe6f_66 : decode cJ5_append_3fe6f 66 = .ok (.iconst 1, 1) := by decide +kernel
theorem dJ5_append_3fe6f_67 : decode cJ5_append_3fe6f 67 = .ok (.iadd, 1) := by decide +kernel
theorem dJ5_append_3fe6f_68 : decode cJ5_append_3fe6f 68 = .ok (.putfield 79, 3) := by decide +kernel
theorem dJ5_append_3fe6f_71 : decode cJ5_append_3fe6f 71 = .ok (.iload_n 1, 1) := by decide +kernel
theorem dJ5_append_3fe6f_72 : decode cJ5_append_3fe6f 72 = .ok (.invokestatic 197, 3) := by decide +kernel
theorem dJ5_append_3fe6f_75 : decode cJ5_append_3fe6f 75 = .ok (.aload_n 0, 1) := by decide +kernel
theorem dJ5_append_3fe6f_76 : decode cJ5_append_3fe6f 76 = .ok (.areturn, 1) := by decide +kernel
theorem dJ4_append_cf468_0 : decode cJ4_append_cf468 0 = .ok (.aload_n 0, 1) := by decide +kernel
theorem dJ4_append_cf468_1 : decode cJ4_append_cf468 1 = .ok (.iload_n 1, 1) := by decide +kernel
theorem dJ4_append_cf468_2 : decode cJ4_append_cf468 2 = .ok (.invokespecial 50, 3) := by decide +kernel
theorem dJ4_append_cf468_5 : decode cJ4_append_cf468 5 = .ok (.pop, 1) := by decide +kernel
theorem dJ4_append_cf468_6 : decode cJ4_append_cf468 6 = .ok (.aload_n 0, 1) := by decide +kernel
theorem dJ4_append_cf468_7 : decode cJ4_append_cf468 7 = .ok (.areturn, 1) := by decide +kernel
theorem dJ5_setLength_d00df_0 : decode cJ5_setLength_d00df 0 = .ok (.iload_n 1, 1) := by decide +kernel
theorem dJ5_setLength_d00df_1 : decode cJ5_setLength_d00df 1 = .ok (.ifCond .ge 12, 3) := by decide +kernel
theorem dJ5_setLength_d00df_4 : decode cJ5_setLength_d00df 4 = .ok (.new 129, 3) := by decide +kernel
theorem dJ5_setLength_d00df_7 : decode cJ5_setLength_d00df 7 = .ok (.dup, 1) := by decide +kernel
theorem dJ5_setLength_d00df_8 : decode cJ5_setLength_d00df 8 = .ok (.iload_n 1, 1) := by decide +kernel
theorem dJ5_setLength_d00df_9 : decode cJ5_setLength_d00df 9 = .ok (.invokespecial 131, 3) := by decide +kernel
theorem dJ5_setLength_d00df_12 : decode cJ5_setLength_d00df 12 = .ok (.athrow, 1) := by decide +kernel
theorem dJ5_setLength_d00df_13 : decode cJ5_setLength_d00df 13 = .ok (.aload_n 0, 1) := by decide +kernel
theorem dJ5_setLength_d00df_14 : decode cJ5_setLength_d00df 14 = .ok (.iload_n 1, 1) := by decide +kernel
theorem dJ5_setLength_d00df_15 : decode cJ5_setLength_d00df 15 = .ok (.invokevirtual 100, 3) := by decide +kernel
theorem dJ5_setLength_d00df_18 : decode cJ5_setLength_d00df 18 = .ok (.aload_n 0, 1) := by decide +kernel
theorem dJ5_setLength_d00df_19 : decode cJ5_setLength_d00df 19 = .ok (.getfield 79, 3) := by decide +kernel
theorem dJ5_setLength_d00df_22 : decode cJ5_setLength_d00df 22 = .ok (.iload_n 1, 1) := by decide +kernel
theorem dJ5_setLength_d00df_23 : decode cJ5_setLength_d00df 23 = .ok (.if_icmp .ge 40, 3) := by decide +kernel
theorem dJ5_setLength_d00df_26 : decode cJ5_setLength_d00df 26 = .ok (.aload_n 0, 1) := by decide +kernel
theorem dJ5_setLength_d00df_27 : decode cJ5_setLength_d00df 27 = .ok (.invokevirtual 83, 3) := by decide +kernel
theorem dJ5_setLength_d00df_30 : decode cJ5_setLength_d00df 30 = .ok (.ifCond .eq 18, 3) := by decide +kernel
theorem dJ5_setLength_d00df_33 : decode cJ5_setLength_d00df 33 = .ok (.aload_n 0, 1) := by decide +kernel
theorem dJ5_setLength_d00df_34 : decode cJ5_setLength_d00df 34 = .ok (.getfield 15, 3) := by decide +kernel
theorem dJ5_setLength_d00df_37 : decode cJ5_setLength_d00df 37 = .ok (.aload_n 0, 1) := by decide +kernel
theorem dJ5_setLength_d00df_38 : decode cJ5_setLength_d00df 38 = .ok (.getfield 79, 3) := by decide +kernel
theorem dJ5_setLength_d00df_41 : decode cJ5_setLength_d00df 41 = .ok (.iload_n 1, 1) := by decide +kernel
theorem dJ5_setLength_d00df_42 : decode cJ5_setLength_d00df 42 = .ok (.invokestatic 133, 3) := by decide +kernel
theorem dJ5_setLength_d00df_45 : decode cJ5_setLength_d00df 45 = .ok (.goto 31, 3) := by decide +kernel
theorem dJ5_setLength_d00df_48 : decode cJ5_setLength_d00df 48 = .ok (.aload_n 0, 1) := by decide +kernel
theorem dJ5_setLength_d00df_49 : decode cJ5_setLength_d00df 49 = .ok (.getfield 15, 3) := by decide +kernel
theorem dJ5_setLength_d00df_52 : decode cJ5_setLength_d00df 52 = .ok (.aload_n 0, 1) := by decide +kernel
theorem dJ5_setLength_d00df_53 : decode cJ5_setLength_d00df 53 = .ok (.getfield 79, 3) := by decide +kernel
theorem dJ5_setLength_d00df_56 : decode cJ5_setLength_d00df 56 = .ok (.iload_n 1, 1) := by decide +kernel
theorem dJ5_setLength_d00df_57 : decode cJ5_setLength_d00df 57 = .ok (.invokestatic 137, 3) := by decide +kernel
theorem dJ5_setLength_d00df_60 : decode cJ5_setLength_d00df 60 = .ok (.goto 16, 3) := by decide +kernel
theorem dJ5_setLength_d00df_63 : decode cJ5_setLength_d00df 63 = .ok (.aload_n 0, 1) := by decide +kernel
theorem dJ5_setLength_d00df_64 : decode cJ5_setLength_d00df 64 = .ok (.getfield 79, 3) := by decide +kernel
theorem dJ5_setLength_d00df_67 : decode cJ5_setLength_d00df 67 = .ok (.iload_n 1, 1) := by decide +kernel
theorem dJ5_setLength_d00df_68 : decode cJ5_setLength_d00df 68 = .ok (.if_icmp .le 8, 3) := by decide +kernel
theorem dJ5_setLength_d00df_71 : decode cJ5_setLength_d00df 71 = .ok (.aload_n 0, 1) := by decide +kernel
theorem dJ5_setLength_d00df_72 : decode cJ5_setLength_d00df 72 = .ok (.iconst 1, 1) := by decide +kernel
theorem dJ5_setLength_d00df_73 : decode cJ5_setLength_d00df 73 = .ok (.putfield 73, 3) := by decide +kernel
theorem dJ5_setLength_d00df_76 : decode cJ5_setLength_d00df 76 = .ok (.aload_n 0, 1) := by decide +kernel
theorem dJ5_setLength_d00df_77 : decode cJ5_setLength_d00df 77 = .ok (.iload_n 1, 1) := by decide +kernel
theorem dJ5_setLength_d00df_78 : decode cJ5_setLength_d00df 78 = .ok (.putfield 79, 3) := by decide +kernel
theorem dJ5_setLength_d00df_81 : decode cJ5_setLength_d00df 81 = .ok (.return_, 1) := by decide +kernel
theorem dJ4_setLength_d00df_0 : decode cJ4_setLength_d00df 0 = .ok (.aload_n 0, 1) := by decide +kernel
theorem dJ4_setLength_d00df_1 : decode cJ4_setLength_d00df 1 = .ok (.iload_n 1, 1) := by decide +kernel
theorem dJ4_setLength_d00df_2 : decode cJ4_setLength_d00df 2 = .ok (.invokespecial 333, 3) := by decide +kernel
theorem dJ4_setLength_d00df_5 : decode cJ4_setLength_d00df 5 = .ok (.return_, 1) := by decide +kernel
theorem ml_J5_191 : gMS RJ5 191 yJ1_canEncode_fc78d cJ1_canEncode_fc78d 1 (some .boolean) 1 := ⟨⟨wg_t 1509 (by decide +kernel) (by decide +kernel), wg_t 1511 (by decide +kernel) (by decide +kernel), wg_t 32 (by decide +kernel) (by decide +kernel), by decide +kernel⟩, wg_t 1510 (by decide +kernel) (by decide +kernel)⟩
abbrev rmg3 : Room := { frames := 8, cells := 1, slots := 300, locals := 180 }
abbrev rmg4 : Room := { frames := 9, cells := 1, slots := 300, locals := 220 }
/-- the text builder behind a step: room cap', letters t, n of them -/
def WqA (D : va_G) (T : Nat → ClassId) (sb v h0 cap' : Nat) (t : Nat → Nat) (n : Nat) : Heap → Prop := fun H => ∃ (v' : Nat) (row' : Nat → Int32) (mb' : Int32), (v' = v ∨ h0 ≤ v') ∧ sb_Fit row' ∧ sb_Lat t n row' ∧ va_P D vwCl (SBp T sb v' cap' row' mb' (nI n)) H
section SB3
variable {l : Launch} {s0 : State} {b B : Nat} {D : va_G} {T : Nat → ClassId} {X : Nat → Prop} {H0 : Heap} {sb v cap n : Nat} {row : Nat → Int32} {mb : Int32} {t : Nat → Nat}
set_option maxHeartbeats 4000000 in
set_option maxRecDepth 100000 in
theorem metJ1_canEncode (F : FX l s0 b D T B) {c0 : Nat} (hc0 : c0 ≤ 255) : gMet l yJ1_canEncode_fc78d cJ1_canEncode_fc78d 1 (some .boolean) rms0 [.int (nI c0)] (eqH H0) (KC s0 X) (some (.int 1)) (eqH H0) NF 0 0 := by
  refine gMet_of RJ1 (by decide +kernel) rfl (Nat.le_of_ble_eq_true rfl) ?_
  intro p e s m below meth c ls hx hb hr hlocks hml hown hts hnm hW hk hl hS
  have hl : lv_has ls 1 [(0, .int (nI c0))] := hl
  refine lv_iload_n hx hb dJ1_canEncode_fc78d_0 rfl (lv_at hl 0 rfl) ?_
  refine lv_sipush (v := 255) hx hb dJ1_canEncode_fc78d_1 (by decide) ?_
  refine lv_icmp_gt (tgt := 11) hx hb dJ1_canEncode_fc78d_4 (by decide) (fun h9 => absurd h9 (show ¬ nI 255 < nI c0 from nI_nlt hc0 (by decide))) (fun _ => ?_)
  refine lv_iconst (v := 1) hx hb dJ1_canEncode_fc78d_7 (by decide) ?_
  refine lv_goto (tgt := 12) hx hb dJ1_canEncode_fc78d_8 (by decide) ?_
  exact gw_zret hx hb hr rfl hlocks hW hS (Nat.le_of_ble_eq_true rfl) (Nat.le_of_ble_eq_true rfl) dJ1_canEncode_fc78d_12
set_option maxHeartbeats 4000000 in
set_option maxRecDepth 100000 in
theorem metJ5_appendC (F : FX l s0 b D T B) {c0 h0 : Nat} (hne : sb ≠ v) (hsb : s0.heap.size ≤ sb) (hv0 : s0.heap.size ≤ v) (hh0 : s0.heap.size ≤ h0) (hn : n ≤ cap) (hcap : cap ≤ 300) (hq3 : sb_cap (n + 1) cap ≤ 300) (hfit : sb_Fit row) (hL : sb_Lat t n row) (hc0 : c0 < 256) : gMet l yJ5_append_3fe6f cJ5_append_3fe6f 2 (some (.object RJ5)) rmg3 [.ref sb, .int (nI c0)] (fun H => H.size = h0 ∧ va_P D vwCl (SBp T sb v cap row mb (nI n)) H) (KC s0 X) (some (.ref sb)) (WqA D T sb v h0 (sb_cap (n + 1) cap) (sb_cat t n (fun _ => c0)) (n + 1)) (AS sb v h0) 1 300 := by
  refine gMet_of RJ5 (by decide +kernel) rfl (Nat.le_of_ble_eq_true rfl) ?_
  intro p e s m below meth c ls hx hb hr hlocks hml hown hts hnm hW hk hl hS
  obtain ⟨hz0, hP⟩ := hW
  have hC := FX_C F hk hx hb hown hts
  have hK := hC.2.2.2.2
  have hge := sb_cap_ge (n + 1) cap
  have hl : lv_has ls 2 [(0, .ref sb), (1, .int (nI c0))] := hl
  have hAS : ∀ z, AS sb v h0 z → s0.heap.size ≤ z := fun z hz => hz.elim (fun e => e ▸ hsb) (fun hz => hz.elim (fun e => e ▸ hv0) (fun e => Nat.le_trans hh0 e))
  have hsbl : sb < h0 := hz0 ▸ (hP 0 _ rfl).lt
  refine lv_aload_n hx hb dJ5_append_3fe6f_0 rfl (lv_at hl 0 rfl) ?_
  refine lv_aload_n hx hb dJ5_append_3fe6f_1 rfl (lv_at hl 0 rfl) ?_
  refine va_get (C := RJ4) (T := TJ4) (N := 4) (ci := 1) hx hb hts uw_J4 hown hK hP 0 rfl rfl 3 (by decide) (hts _ fj_J5_79) (fun _ h => h) (v := .int (nI n)) rfl dJ5_append_3fe6f_2 ?_
  refine lv_iconst (v := 1) hx hb dJ5_append_3fe6f_5 (by decide) ?_
  refine lv_iadd hx hb dJ5_append_3fe6f_6 ?_
  rw [nI_1]
  refine gw_callVC (C := RJ4) (As := [.int (nI (n + 1))]) (rest := []) hC hml hS (Wp := fun H => H.size = h0 ∧ va_P D vwCl (SBp T sb v cap row mb (nI n)) H) ⟨hz0, hP⟩ (KC_gen hk hAS hS) KC_blind (metJ5_ensure (X := X) F hne hsb hv0 hh0 hcap hq3 hfit) gm_J5_100 (zsel_ensureCapacityInternal F hk) (sb_recv (q0 := 0) hK hP rfl) (fun _ h => h) ⟨rfl, rfl, (Nat.le_of_ble_eq_true rfl), (Nat.le_of_ble_eq_true rfl)⟩ rfl hl.1 rfl (Nat.le_of_ble_eq_true rfl) dJ5_append_3fe6f_7 ⟨(Nat.le_of_ble_eq_true rfl), (Nat.le_of_ble_eq_true rfl)⟩ (fun H1 locs1 hW1 hS1 _ _ => ?_)
  obtain ⟨v1, row1, hv1, hf1, hag, hP1⟩ := hW1
  have hne1 : sb ≠ v1 := hv1.elim (fun e => e ▸ hne) (fun e => by omega)
  have hA1 : AS sb v h0 v1 := hv1.elim (fun e => Or.inr (Or.inl e)) (fun e => Or.inr (Or.inr e))
  refine lv_aload_n hx hb dJ5_append_3fe6f_10 rfl (lv_at hl 0 rfl) ?_
  refine gw_callVC (C := RJ4) (As := []) (rest := []) hC hml hS1 (Wp := eqH H1) rfl (fun U hU hWm => ⟨KC_gen hk hAS hS1 U hU hWm, by rw [hU]; exact hP1⟩) KS_blind (metJ5_isLatin1 (X := X) F) gm_J5_83 (hts _ sel_isLatin) (sb_recv (q0 := 0) hK hP1 rfl) (fun q (z : False) => z.elim) ⟨rfl, rfl, (Nat.le_of_ble_eq_true rfl), (Nat.le_of_ble_eq_true rfl)⟩ rfl hl.1 rfl (Nat.le_of_ble_eq_true rfl) dJ5_append_3fe6f_11 ⟨(Nat.le_of_ble_eq_true rfl), (Nat.le_of_ble_eq_true rfl)⟩ (fun H locs hW2 hS1 _ _ => ?_)
  cases hW2
  refine lv_if_eq (tgt := 45) hx hb dJ5_append_3fe6f_14 (by decide) (fun h => absurd h (by decide)) (fun _ => ?_)
  refine lv_iload_n hx hb dJ5_append_3fe6f_17 rfl (lv_at hl 1 rfl) ?_
  refine gw_callS (As := [.int (nI c0)]) (rest := []) hC hml hS1 (Wp := eqH H1) rfl (KC_gen hk hAS hS1) KC_blind (metJ1_canEncode (X := X) F (by omega)) ml_J5_191 (fun q (z : False) => z.elim) ⟨rfl, rfl, (Nat.le_of_ble_eq_true rfl), (Nat.le_of_ble_eq_true rfl)⟩ rfl hl.1 rfl (Nat.le_of_ble_eq_true rfl) dJ5_append_3fe6f_18 ⟨(Nat.le_of_ble_eq_true rfl), (Nat.le_of_ble_eq_true rfl)⟩ (fun H locs hW2 hS1 _ _ => ?_)
  cases hW2
  refine lv_if_eq (tgt := 45) hx hb dJ5_append_3fe6f_21 (by decide) (fun h => absurd h (by decide)) (fun _ => ?_)
  refine lv_aload_n hx hb dJ5_append_3fe6f_24 rfl (lv_at hl 0 rfl) ?_
  refine va_get (C := RJ4) (T := TJ4) (N := 4) (ci := 1) hx hb hts uw_J4 hown hK hP1 0 rfl rfl 0 (by decide) (hts _ fj_J5_15) (fun _ h => h) (v := .ref v1) rfl dJ5_append_3fe6f_25 ?_
  refine lv_aload_n hx hb dJ5_append_3fe6f_28 rfl (lv_at hl 0 rfl) ?_
  refine lv_dup hx hb dJ5_append_3fe6f_29 rfl ?_
  refine va_get (C := RJ4) (T := TJ4) (N := 4) (ci := 1) hx hb hts uw_J4 hown hK hP1 0 rfl rfl 3 (by decide) (hts _ fj_J5_79) (fun _ h => h) (v := .int (nI n)) rfl dJ5_append_3fe6f_30 ?_
  refine lv_dup_x1 hx hb dJ5_append_3fe6f_33 rfl rfl ?_
  refine lv_iconst (v := 1) hx hb dJ5_append_3fe6f_34 (by decide) ?_
  refine lv_iadd hx hb dJ5_append_3fe6f_35 ?_
  rw [nI_1]
  refine va_put (C := RJ4) (T := TJ4) (N := 4) (ci := 1) hx hb hts uw_J4 tyJ4 tyJ4_ok nmJ4 hown hK hP1 (SBp_D (A := AS sb v h0) hne1 (Or.inl rfl) hA1) hS1 0 (fs := [.ref v1, .int 0, .int mb, .int (nI n)]) rfl rfl 3 (by decide) (hts _ fj_J5_79) (fun _ h => h) rfl (ty := .int) (tyJ4_ok 3 (by decide)) rfl rfl (Nat.le_of_ble_eq_true rfl) dJ5_append_3fe6f_36 (fun H2 locs2 hP2 hD2 hS2 => ?_)
  refine lv_iload_n hx hb dJ5_append_3fe6f_39 rfl (lv_at hl 1 rfl) ?_
  refine lv_i2b hx hb dJ5_append_3fe6f_40 (show (nI c0).toInt8.toInt32 = sb_b c0 from rfl) ?_
  refine va_bast hx hb hK hP2 hD2 hS2 1 7 rfl rfl (vp_in_nI (by omega) (by omega)) dJ5_append_3fe6f_41 (fun H3 locs3 hP3 _ hS3 => ?_)
  refine lv_goto (tgt := 75) hx hb dJ5_append_3fe6f_42 (by decide) ?_
  refine lv_aload_n hx hb dJ5_append_3fe6f_75 rfl (lv_at hl 0 rfl) ?_
  rw [nI_clamp (by omega)] at hP3
  have eb : vp_nar .byte (sb_b c0) = sb_b c0 := by
    show vp_nar .byte ((nI c0).toInt8.toInt32) = _
    rw [pk_vb]; rfl
  rw [eb] at hP3
  refine gw_aret hx hb hr hlocks ⟨v1, upd row1 n (sb_b c0), mb, hv1, sb_fitU hf1 (sb_fitB c0), ?_, hP3⟩ hS3 (Nat.le_of_ble_eq_true rfl) (Nat.le_of_ble_eq_true rfl) dJ5_append_3fe6f_76
  refine sb_latPut hL (fun j hj => ?_) (fun i hi => ?_)
  · rw [pk_un (by omega)]
    exact hag j (by omega)
  · obtain rfl : i = 0 := by omega
    exact ⟨hc0, pk_us⟩
set_option maxHeartbeats 4000000 in
set_option maxRecDepth 100000 in
theorem metJ4_appendC (F : FX l s0 b D T B) {c0 h0 : Nat} (hne : sb ≠ v) (hsb : s0.heap.size ≤ sb) (hv0 : s0.heap.size ≤ v) (hh0 : s0.heap.size ≤ h0) (hn : n ≤ cap) (hcap : cap ≤ 300) (hq3 : sb_cap (n + 1) cap ≤ 300) (hfit : sb_Fit row) (hL : sb_Lat t n row) (hc0 : c0 < 256) : gMet l yJ4_append_cf468 cJ4_append_cf468 2 (some (.object RJ4)) rmg4 [.ref sb, .int (nI c0)] (fun H => H.size = h0 ∧ va_P D vwCl (SBp T sb v cap row mb (nI n)) H) (KC s0 X) (some (.ref sb)) (WqA D T sb v h0 (sb_cap (n + 1) cap) (sb_cat t n (fun _ => c0)) (n + 1)) (AS sb v h0) 1 300 := by
  refine gMet_of RJ4 (by decide +kernel) rfl (Nat.le_of_ble_eq_true rfl) ?_
  intro p e s m below meth c ls hx hb hr hlocks hml hown hts hnm hW hk hl hS
  have hC := FX_C F hk hx hb hown hts
  have hl : lv_has ls 2 [(0, .ref sb), (1, .int (nI c0))] := hl
  have hAS : ∀ z, AS sb v h0 z → s0.heap.size ≤ z := fun z hz => hz.elim (fun e => e ▸ hsb) (fun hz => hz.elim (fun e => e ▸ hv0) (fun e => Nat.le_trans hh0 e))
  refine lv_aload_n hx hb dJ4_append_cf468_0 rfl (lv_at hl 0 rfl) ?_
  refine lv_iload_n hx hb dJ4_append_cf468_1 rfl (lv_at hl 1 rfl) ?_
  refine gw_callSU (As := [.int (nI c0)]) (rest := []) (sb_class hC.2.2.2.2) hC hml hS hW (KC_gen hk hAS hS) KC_blind (metJ5_appendC (X := X) F hne hsb hv0 hh0 hn hcap hq3 hfit hL hc0) su_J4_50 (sb_recv (q0 := 0) hC.2.2.2.2 hW.2 rfl) (fun _ h => h) ⟨rfl, rfl, (Nat.le_of_ble_eq_true rfl), (Nat.le_of_ble_eq_true rfl)⟩ rfl hl.1 rfl (Nat.le_of_ble_eq_true rfl) dJ4_append_cf468_2 ⟨(Nat.le_of_ble_eq_true rfl), (Nat.le_of_ble_eq_true rfl)⟩ (fun H locs hW hS _ _ => ?_)
  refine lv_pop hx hb dJ4_append_cf468_5 rfl ?_
  refine lv_aload_n hx hb dJ4_append_cf468_6 rfl (lv_at hl 0 rfl) ?_
  exact gw_aret hx hb hr hlocks hW hS (Nat.le_of_ble_eq_true rfl) (Nat.le_of_ble_eq_true rfl) dJ4_append_cf468_7
set_option maxHeartbeats 4000000 in
set_option maxRecDepth 100000 in
theorem metJ5_setLength0 (F : FX l s0 b D T B) {h0 : Nat} (hne : sb ≠ v) (hsb : s0.heap.size ≤ sb) (hv0 : s0.heap.size ≤ v) (hh0 : s0.heap.size ≤ h0) (hn : n ≤ cap) (hcap : cap ≤ 300) (hfit : sb_Fit row) : gMet l yJ5_setLength_d00df cJ5_setLength_d00df 2 none rmg3 [.ref sb, .int 0] (fun H => H.size = h0 ∧ va_P D vwCl (SBp T sb v cap row mb (nI n)) H) (KC s0 X) none (WqA D T sb v h0 cap t 0) (AS sb v h0) 1 300 := by
  refine gMet_of RJ5 (by decide +kernel) rfl (Nat.le_of_ble_eq_true rfl) ?_
  intro p e s m below meth c ls hx hb hr hlocks hml hown hts hnm hW hk hl hS
  obtain ⟨hz0, hP⟩ := hW
  have hC := FX_C F hk hx hb hown hts
  have hK := hC.2.2.2.2
  have hl : lv_has ls 2 [(0, .ref sb), (1, .int 0)] := hl
  have hAS : ∀ z, AS sb v h0 z → s0.heap.size ≤ z := fun z hz => hz.elim (fun e => e ▸ hsb) (fun hz => hz.elim (fun e => e ▸ hv0) (fun e => Nat.le_trans hh0 e))
  have hsbl : sb < h0 := hz0 ▸ (hP 0 _ rfl).lt
  have ec : sb_cap 0 cap = cap := if_pos (Nat.zero_le _)
  refine lv_iload_n hx hb dJ5_setLength_d00df_0 rfl (lv_at hl 1 rfl) ?_
  refine lv_if_ge (tgt := 13) hx hb dJ5_setLength_d00df_1 (by decide) (fun _ => ?_) (fun h => absurd (by decide) h)
  refine lv_aload_n hx hb dJ5_setLength_d00df_13 rfl (lv_at hl 0 rfl) ?_
  refine lv_iload_n hx hb dJ5_setLength_d00df_14 rfl (lv_at hl 1 rfl) ?_
  have hM := metJ5_ensure (X := X) (q := 0) (n := n) (mb := mb) (row := row) (cap := cap) F hne hsb hv0 hh0 hcap (by rw [ec]; exact hcap) hfit
  refine gw_callVC (C := RJ4) (As := [.int 0]) (rest := []) hC hml hS (Wp := fun H => H.size = h0 ∧ va_P D vwCl (SBp T sb v cap row mb (nI n)) H) ⟨hz0, hP⟩ (KC_gen hk hAS hS) KC_blind hM gm_J5_100 (zsel_ensureCapacityInternal F hk) (sb_recv (q0 := 0) hK hP rfl) (fun _ h => h) ⟨rfl, rfl, (Nat.le_of_ble_eq_true rfl), (Nat.le_of_ble_eq_true rfl)⟩ rfl hl.1 rfl (Nat.le_of_ble_eq_true rfl) dJ5_setLength_d00df_15 ⟨(Nat.le_of_ble_eq_true rfl), (Nat.le_of_ble_eq_true rfl)⟩ (fun H1 locs1 hW1 hS1 _ _ => ?_)
  obtain ⟨v1, row1, hv1, hf1, hag, hP1⟩ := hW1
  rw [ec] at hP1
  have hne1 : sb ≠ v1 := hv1.elim (fun e => e ▸ hne) (fun e => by omega)
  have hA1 : AS sb v h0 v1 := hv1.elim (fun e => Or.inr (Or.inl e)) (fun e => Or.inr (Or.inr e))
  refine lv_aload_n hx hb dJ5_setLength_d00df_18 rfl (lv_at hl 0 rfl) ?_
  refine va_get (C := RJ4) (T := TJ4) (N := 4) (ci := 1) hx hb hts uw_J4 hown hK hP1 0 rfl rfl 3 (by decide) (hts _ fj_J5_79) (fun _ h => h) (v := .int (nI n)) rfl dJ5_setLength_d00df_19 ?_
  refine lv_iload_n hx hb dJ5_setLength_d00df_22 rfl (lv_at hl 1 rfl) ?_
  refine lv_icmp_ge (tgt := 63) hx hb dJ5_setLength_d00df_23 (by decide) (fun _ => ?_) (fun h => absurd (nI_pos' (by omega)) h)
  refine lv_aload_n hx hb dJ5_setLength_d00df_63 rfl (lv_at hl 0 rfl) ?_
  refine va_get (C := RJ4) (T := TJ4) (N := 4) (ci := 1) hx hb hts uw_J4 hown hK hP1 0 rfl rfl 3 (by decide) (hts _ fj_J5_79) (fun _ h => h) (v := .int (nI n)) rfl dJ5_setLength_d00df_64 ?_
  refine lv_iload_n hx hb dJ5_setLength_d00df_67 rfl (lv_at hl 1 rfl) ?_
  have go : ∀ (mb1 : Int32) (H2 : Heap) (locs2 : List Loc), va_P D vwCl (SBp T sb v1 cap row1 mb1 (nI n)) H2 → va_S (AS sb v h0) s.heap H2 locs2 → W p l e rmg3 s m [.ref sb, .int 0].toArray below meth c H2 locs2 1 300 (MQ below (gQc none (WqA D T sb v h0 cap t 0) (AS sb v h0)) [.ref sb, .int 0].toArray s 1 300 (AS sb v h0)) (F0 m 76 ls []) := by
    intro mb1 H2 locs2 hP2 hS2
    refine lv_aload_n hx hb dJ5_setLength_d00df_76 rfl (lv_at hl 0 rfl) ?_
    refine lv_iload_n hx hb dJ5_setLength_d00df_77 rfl (lv_at hl 1 rfl) ?_
    refine va_put (C := RJ4) (T := TJ4) (N := 4) (ci := 1) hx hb hts uw_J4 tyJ4 tyJ4_ok nmJ4 hown hK hP2 (SBp_D (A := AS sb v h0) hne1 (Or.inl rfl) hA1) hS2 0 (fs := [.ref v1, .int 0, .int mb1, .int (nI n)]) rfl rfl 3 (by decide) (hts _ fj_J5_79) (fun _ h => h) rfl (ty := .int) (tyJ4_ok 3 (by decide)) rfl rfl (Nat.le_of_ble_eq_true rfl) dJ5_setLength_d00df_78 (fun H3 locs3 hP3 hD3 hS3 => ?_)
    exact gw_vret hx hb hr hlocks ⟨v1, row1, mb1, hv1, hf1, fun j hj => absurd hj (Nat.not_lt_zero j), hP3⟩ hS3 (Nat.le_of_ble_eq_true rfl) (Nat.le_of_ble_eq_true rfl) dJ5_setLength_d00df_81
  refine lv_icmp_le (tgt := 76) hx hb dJ5_setLength_d00df_68 (by decide) (fun _ => go mb H1 locs1 hP1 hS1) (fun _ => ?_)
  refine lv_aload_n hx hb dJ5_setLength_d00df_71 rfl (lv_at hl 0 rfl) ?_
  refine lv_iconst (v := 1) hx hb dJ5_setLength_d00df_72 (by decide) ?_
  refine va_put (C := RJ4) (T := TJ4) (N := 4) (ci := 1) hx hb hts uw_J4 tyJ4 tyJ4_ok nmJ4 hown hK hP1 (SBp_D (A := AS sb v h0) hne1 (Or.inl rfl) hA1) hS1 0 (fs := [.ref v1, .int 0, .int mb, .int (nI n)]) rfl rfl 2 (by decide) (hts _ fj_J5_73) (fun _ h => h) rfl (ty := .boolean) (tyJ4_ok 2 (by decide)) rfl rfl (Nat.le_of_ble_eq_true rfl) dJ5_setLength_d00df_73 (fun H2 locs2 hP2 hD2 hS2 => ?_)
  exact go 1 H2 locs2 hP2 hS2
set_option maxHeartbeats 4000000 in
set_option maxRecDepth 100000 in
theorem metJ4_setLength0 (F : FX l s0 b D T B) {h0 : Nat} (hne : sb ≠ v) (hsb : s0.heap.size ≤ sb) (hv0 : s0.heap.size ≤ v) (hh0 : s0.heap.size ≤ h0) (hn : n ≤ cap) (hcap : cap ≤ 300) (hfit : sb_Fit row) : gMet l yJ4_setLength_d00df cJ4_setLength_d00df 2 none rmg4 [.ref sb, .int 0] (fun H => H.size = h0 ∧ va_P D vwCl (SBp T sb v cap row mb (nI n)) H) (KC s0 X) none (WqA D T sb v h0 cap t 0) (AS sb v h0) 1 300 := by
  refine gMet_of RJ4 (by decide +kernel) rfl (Nat.le_of_ble_eq_true rfl) ?_
  intro p e s m below meth c ls hx hb hr hlocks hml hown hts hnm hW hk hl hS
  have hC := FX_C F hk hx hb hown hts
  have hl : lv_has ls 2 [(0, .ref sb), (1, .int 0)] := hl
  have hAS : ∀ z, AS sb v h0 z → s0.heap.size ≤ z := fun z hz => hz.elim (fun e => e ▸ hsb) (fun hz => hz.elim (fun e => e ▸ hv0) (fun e => Nat.le_trans hh0 e))
  refine lv_aload_n hx hb dJ4_setLength_d00df_0 rfl (lv_at hl 0 rfl) ?_
  refine lv_iload_n hx hb dJ4_setLength_d00df_1 rfl (lv_at hl 1 rfl) ?_
  refine gw_callSU (As := [.int 0]) (rest := []) (sb_class hC.2.2.2.2) hC hml hS hW (KC_gen hk hAS hS) KC_blind (metJ5_setLength0 (X := X) (t := t) F hne hsb hv0 hh0 hn hcap hfit) su_J4_333 (sb_recv (q0 := 0) hC.2.2.2.2 hW.2 rfl) (fun _ h => h) ⟨rfl, rfl, (Nat.le_of_ble_eq_true rfl), (Nat.le_of_ble_eq_true rfl)⟩ rfl hl.1 rfl (Nat.le_of_ble_eq_true rfl) dJ4_setLength_d00df_2 ⟨(Nat.le_of_ble_eq_true rfl), (Nat.le_of_ble_eq_true rfl)⟩ (fun H locs hW hS _ _ => ?_)
  exact gw_vret hx hb hr hlocks hW hS (Nat.le_of_ble_eq_true rfl) (Nat.le_of_ble_eq_true rfl) dJ4_setLength_d00df_5
end SB3
