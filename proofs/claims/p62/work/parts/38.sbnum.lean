/-! The text builder: a number more. -/
theorem dJ5_append_c97b9_0 : decode cJ5_append_c97b9 0 = .ok (.aload_n 0, 1) := by decide +kernel
theorem dJ5_append_c97b9_1 : decode cJ5_append_c97b9 1 = .ok (.getfield 79, 3) := by decide +kernel
theorem dJ5_append_c97b9_4 : decode cJ5_append_c97b9 4 = .ok (.istore_n 2, 1) := by decide +kernel
theorem dJ5_append_c97b9_5 : decode cJ5_append_c97b9 5 = .ok (.iload_n 2, 1) := by decide +kernel
theorem dJ5_append_c97b9_6 : decode cJ5_append_c97b9 6 = .ok (.iload_n 1, 1) := by decide +kernel
theorem dJ5_append_c97b9_7 : decode cJ5_append_c97b9 7 = .ok (.invokestatic 245, 3) := by decide +kernel
theorem dJ5_append_c97b9_10 : decode cJ5_append_c97b9 10 = .ok (.iadd, 1) := by decide +kernel
theorem dJ5_append_c97b9_11 : decode cJ5_append_c97b9 11 = .ok (.istore_n 3, 1) := by decide +kernel
theorem dJ5_append_c97b9_12 : decode cJ5_append_c97b9 12 = .ok (.aload_n 0, 1) := by decide +kernel
theorem dJ5_append_c97b9_13 : decode cJ5_append_c97b9 13 = .ok (.iload_n 3, 1) := by decide +kernel
theorem dJ5_append_c97b9_14 : decode cJ5_append_c97b9 14 = .ok (.invokevirtual 100, 3) := by decide +kernel
theorem dJ5_append_c97b9_17 : decode cJ5_append_c97b9 17 = .ok (.aload_n 0, 1) := by decide +kernel
theorem dJ5_append_c97b9_18 : decode cJ5_append_c97b9 18 = .ok (.invokevirtual 83, 3) := by decide +kernel
theorem dJ5_append_c97b9_21 : decode cJ5_append_c97b9 21 = .ok (.ifCond .eq 16, 3) := by decide +kernel
theorem dJ5_append_c97b9_24 : decode cJ5_append_c97b9 24 = .ok (.iload_n 1, 1) := by decide +kernel
theorem dJ5_append_c97b9_25 : decode cJ5_append_c97b9 25 = .ok (.iload_n 3, 1) := by decide +kernel
theorem dJ5_append_c97b9_26 : decode cJ5_append_c97b9 26 = .ok (.aload_n 0, 1) := by decide +kernel
theorem dJ5_append_c97b9_27 : decode cJ5_append_c97b9 27 = .ok (.getfield 15, 3) := by decide +kernel
theorem dJ5_append_c97b9_30 : decode cJ5_append_c97b9 30 = .ok (.invokestatic 248, 3) := by decide +kernel
theorem dJ5_append_c97b9_33 : decode cJ5_append_c97b9 33 = .ok (.pop, 1) := by decide +kernel
theorem dJ5_append_c97b9_34 : decode cJ5_append_c97b9 34 = .ok (.goto 14, 3) := by decide +kernel
theorem dJ5_append_c97b9_37 : decode cJ5_append_c97b9 37 = .ok (.iload_n 1, 1) := by decide +kernel
theorem dJ5_append_c97b9_38 : decode cJ5_append_c97b9 38 = .ok (.iload_n 2, 1) := by decide +kernel
theorem dJ5_append_c97b9_39 : decode cJ5_append_c97b9 39 = .ok (.iload_n 3, 1) := by decide +kernel
theorem dJ5_append_c97b9_40 : decode cJ5_append_c97b9 40 = .ok (.aload_n 0, 1) := by decide +kernel
theorem dJ5_append_c97b9_41 : decode cJ5_append_c97b9 41 = .ok (.getfield 15, 3) := by decide +kernel
theorem dJ5_append_c97b9_44 : decode cJ5_append_c97b9 44 = .ok (.invokestatic 251, 3) := by decide +kernel
theorem dJ5_append_c97b9_47 : decode cJ5_append_c97b9 47 = .ok (.pop, 1) := by decide +kernel
theorem dJ5_append_c97b9_48 : decode cJ5_append_c97b9 48 = .ok (.aload_n 0, 1) := by decide +kernel
theorem dJ5_append_c97b9_49 : decode cJ5_append_c97b9 49 = .ok (.iload_n 3, 1) := by decide +kernel
theorem dJ5_append_c97b9_50 : decode cJ5_append_c97b9 50 = .ok (.putfield 79, 3) := by decide +kernel
theorem dJ5_append_c97b9_53 : decode cJ5_append_c97b9 53 = .ok (.aload_n 0, 1) := by decide +kernel
theorem dJ5_append_c97b9_54 : decode cJ5_append_c97b9 54 = .ok (.areturn, 1) := by decide +kernel
theorem dJ4_append_bf812_0 : decode cJ4_append_bf812 0 = .ok (.aload_n 0, 1) := by decide +kernel
theorem dJ4_append_bf812_1 : decode cJ4_append_bf812 1 = .ok (.iload_n 1, 1) := by decide +kernel
theorem dJ4_append_bf812_2 : decode cJ4_append_bf812 2 = .ok (.invokespecial 53, 3) := by decide +kernel
theorem dJ4_append_bf812_5 : decode cJ4_append_bf812 5 = .ok (.pop, 1) := by decide +kernel
theorem dJ4_append_bf812_6 : decode cJ4_append_bf812 6 = .ok (.aload_n 0, 1) := by decide +kernel
theorem dJ4_append_bf812_7 : decode cJ4_append_bf812 7 = .ok (.areturn, 1) := by decide +kernel
theorem ml_J5_245 : gMS RJ5 245 yJ6_stringSize_0f7a4 cJ6_stringSize_0f7a4 4 (some .int) 1 := ⟨⟨wg_t 1362 (by decide +kernel) (by decide +kernel), wg_t 1364 (by decide +kernel) (by decide +kernel), wg_t 27 (by decide +kernel) (by decide +kernel), by decide +kernel⟩, wg_t 1363 (by decide +kernel) (by decide +kernel)⟩
theorem ml_J5_248 : gMS RJ5 248 yJ6_getChars_ba4f3 cJ6_getChars_ba4f3 7 (some .int) 3 := ⟨⟨wg_t 1365 (by decide +kernel) (by decide +kernel), wg_t 1367 (by decide +kernel) (by decide +kernel), wg_t 27 (by decide +kernel) (by decide +kernel), by decide +kernel⟩, wg_t 1366 (by decide +kernel) (by decide +kernel)⟩
section SB4
variable {l : Launch} {s0 : State} {b B : Nat} {D : va_G} {T : Nat → ClassId} {X : Nat → Prop} {H0 : Heap} {sb v cap n w N : Nat} {row : Nat → Int32} {mb x : Int32} {t2 : Nat → Nat}
theorem FX_at (F : FX l s0 b D T B) {B2 : Nat} (h : s0.heap.size ≤ B2) : FX l s0 b D T B2 := ⟨F.1, F.2.1, F.2.2.1, F.2.2.2.1, h⟩
/-- all between v and h -/
def XB (v h : Nat) : Nat → Prop := fun z => v < z ∧ z < h
theorem XB_gA {v h z : Nat} (hz : gA v (XB v h) z) : z = v ∨ h ≤ z := by
  obtain ⟨h1, h2⟩ := hz
  by_cases h3 : z = v
  · exact Or.inl h3
  · exact Or.inr (Nat.not_lt.mp fun h4 => h2 ⟨by omega, h4⟩)
theorem XB_at {v h : Nat} : ∀ o, o < 1 → ¬ XB v h (v + o) := fun o ho z => by
  have := z.1
  omega
theorem gWB_of {H : Heap} {mb n : Int32} (hP : va_P D vwCl (SBp T sb v cap row mb n) H) : gWB D T cap v (fun _ => row) H := fun k x hx => by
  obtain ⟨hk, rfl⟩ := gL_some hx
  obtain rfl : k = 0 := by omega
  exact hP 1 _ rfl
theorem SBp_of {H H1 : Heap} {mb n : Int32} {μ1 : Mem} {h : Nat} (hne : sb ≠ v) (hP : va_P D vwCl (SBp T sb v cap row mb n) H) (hh : H.size ≤ h) (hW : gWB D T cap v μ1 H1) (hk : ∀ q, q < H.size → ¬ gA v (XB v h) q → H1[q]? = H[q]?) : va_P D vwCl (SBp T sb v cap (μ1 0) mb n) H1 := fun k x hx => by
  have h3 := (List.getElem?_eq_some_iff.mp hx).1
  have h3 : k < 2 := h3
  have hsl : sb < H.size := (hP 0 _ rfl).lt
  rcases (show k = 0 ∨ k = 1 by omega) with rfl | rfl
  · cases hx
    refine (hP 0 _ rfl).kept (hk sb hsl fun z => (XB_gA z).elim hne fun z => by omega)
  · cases hx
    exact hW 0 _ (gL_get (by decide))
set_option maxHeartbeats 4000000 in
set_option maxRecDepth 100000 in
theorem metJ5_appendI (F : FX l s0 b D T B) {h0 : Nat} (hne : sb ≠ v) (hsb : s0.heap.size ≤ sb) (hv0 : s0.heap.size ≤ v) (hh0 : s0.heap.size ≤ h0) (hcap : cap ≤ 300) (hq3 : sb_cap (n + w) cap ≤ 300) (hfit : sb_Fit row) (hs : fJ6_stringSize_0f7a4 N (fun _ => row) x = some (nI w)) (hg : ∀ row1, sb_Fit row1 → (∀ j, j < cap → row1 j = row j) → ∃ r, fJ6_getChars_ba4f3 N (sb_cap (n + w) cap) (fun _ => row1) x (nI (n + w)) 0 = some r ∧ sb_Fit (r.1 0) ∧ sb_Lat t2 (n + w) (r.1 0)) : gMet l yJ5_append_c97b9 cJ5_append_c97b9 4 (some (.object RJ5)) rmg3 [.ref sb, .int x] (fun H => H.size = h0 ∧ va_P D vwCl (SBp T sb v cap row mb (nI n)) H) (KC s0 X) (some (.ref sb)) (WqA D T sb v h0 (sb_cap (n + w) cap) t2 (n + w)) (AS sb v h0) 1 300 := by
  refine gMet_of RJ5 (by decide +kernel) rfl (Nat.le_of_ble_eq_true rfl) ?_
  intro p e s m below meth c ls hx hb hr hlocks hml hown hts hnm hW hk hl hS
  obtain ⟨hz0, hP⟩ := hW
  have hC := FX_C F hk hx hb hown hts
  have hK := hC.2.2.2.2
  have hl : lv_has ls 4 [(0, .ref sb), (1, .int x)] := hl
  have hAS : ∀ z, AS sb v h0 z → s0.heap.size ≤ z := fun z hz => hz.elim (fun e => e ▸ hsb) (fun hz => hz.elim (fun e => e ▸ hv0) (fun e => Nat.le_trans hh0 e))
  have hsbl : sb < h0 := hz0 ▸ (hP 0 _ rfl).lt
  have hkX : ∀ {H : Heap} {locs : List Loc} {v1 h1 : Nat}, va_S (AS sb v h0) s.heap H locs → h1 ≤ H.size → ∀ U : State, U.heap = H → s.WarmedH U.vm → KC s0 (XB v1 h1) U := fun hS hh U hU hW => by
    obtain ⟨a1, a2, a3, -⟩ := KC_gen hk hAS hS U hU hW
    exact ⟨a1, a2, a3, fun q hq => by rw [hU]; exact Nat.lt_of_lt_of_le hq.2 hh⟩
  refine lv_aload_n hx hb dJ5_append_c97b9_0 rfl (lv_at hl 0 rfl) ?_
  refine va_get (C := RJ4) (T := TJ4) (N := 4) (ci := 1) hx hb hts uw_J4 hown hK hP 0 rfl rfl 3 (by decide) (hts _ fj_J5_79) (fun _ h => h) (v := .int (nI n)) rfl dJ5_append_c97b9_1 ?_
  refine lv_istore_n (lv' := [(2, .int (nI n)), (0, .ref sb), (1, .int x)]) hx hb dJ5_append_c97b9_4 rfl hl (by decide) rfl (fun ls hl => ?_)
  refine lv_iload_n hx hb dJ5_append_c97b9_5 rfl (lv_at hl 0 rfl) ?_
  refine lv_iload_n hx hb dJ5_append_c97b9_6 rfl (lv_at hl 2 rfl) ?_
  refine gw_callS (As := [.int x]) (rest := [.int (nI n)]) hC hml hS (gWB_of hP) (hkX (v1 := v) hS (Nat.le_refl _)) KC_blind (metJ6_stringSize_0f7a4 (cap := cap) (FX_at F hv0) XB_at hs) ml_J5_245 (fun z hz => (XB_gA hz).elim (fun e => Or.inr (Or.inl e)) (fun e => Or.inr (Or.inr (hz0 ▸ e)))) ⟨rfl, rfl, (Nat.le_of_ble_eq_true rfl), (Nat.le_of_ble_eq_true rfl)⟩ rfl hl.1 rfl (Nat.le_of_ble_eq_true rfl) dJ5_append_c97b9_7 ⟨(Nat.le_of_ble_eq_true rfl), (Nat.le_of_ble_eq_true rfl)⟩ (fun H1 locs1 hW1 hS1 hz1 hk1 => ?_)
  have hP1 := SBp_of hne hP (Nat.le_refl _) hW1 hk1
  have hz1' : h0 ≤ H1.size := hz0 ▸ hz1
  refine lv_iadd hx hb dJ5_append_c97b9_10 ?_
  rw [show nI n + nI w = nI (n + w) from nI_add n w]
  refine lv_istore_n (lv' := [(3, .int (nI (n + w))), (2, .int (nI n)), (0, .ref sb), (1, .int x)]) hx hb dJ5_append_c97b9_11 rfl hl (by decide) rfl (fun ls hl => ?_)
  refine lv_aload_n hx hb dJ5_append_c97b9_12 rfl (lv_at hl 2 rfl) ?_
  refine lv_iload_n hx hb dJ5_append_c97b9_13 rfl (lv_at hl 0 rfl) ?_
  refine gw_callVC (C := RJ4) (As := [.int (nI (n + w))]) (rest := []) hC hml hS1 (Wp := fun H => H.size = H1.size ∧ va_P D vwCl (SBp T sb v cap row mb (nI n)) H) ⟨rfl, hP1⟩ (KC_gen hk hAS hS1) KC_blind (metJ5_ensure (X := X) (h0 := H1.size) F hne hsb hv0 (Nat.le_trans hh0 hz1') hcap hq3 hfit) gm_J5_100 (zsel_ensureCapacityInternal F hk) (sb_recv (q0 := 0) hK hP1 rfl) (fun z hz => hz.elim Or.inl (fun hz => hz.elim (fun e => Or.inr (Or.inl e)) (fun e => Or.inr (Or.inr (Nat.le_trans hz1' e))))) ⟨rfl, rfl, (Nat.le_of_ble_eq_true rfl), (Nat.le_of_ble_eq_true rfl)⟩ rfl hl.1 rfl (Nat.le_of_ble_eq_true rfl) dJ5_append_c97b9_14 ⟨(Nat.le_of_ble_eq_true rfl), (Nat.le_of_ble_eq_true rfl)⟩ (fun H2 locs2 hW2 hS2 _ _ => ?_)
  obtain ⟨v1, row1, hv1, hf1, hag, hP2⟩ := hW2
  have hv1' : v1 = v ∨ h0 ≤ v1 := hv1.imp id (fun e => Nat.le_trans hz1' e)
  have hne1 : sb ≠ v1 := hv1'.elim (fun e => e ▸ hne) (fun e => by omega)
  have hA1 : AS sb v h0 v1 := hv1'.elim (fun e => Or.inr (Or.inl e)) (fun e => Or.inr (Or.inr e))
  obtain ⟨r, hgr, hrf, hrL⟩ := hg row1 hf1 hag
  refine lv_aload_n hx hb dJ5_append_c97b9_17 rfl (lv_at hl 2 rfl) ?_
  refine gw_callVC (C := RJ4) (As := []) (rest := []) hC hml hS2 (Wp := eqH H2) rfl (fun U hU hWm => ⟨KC_gen hk hAS hS2 U hU hWm, by rw [hU]; exact hP2⟩) KS_blind (metJ5_isLatin1 (X := X) F) gm_J5_83 (hts _ sel_isLatin) (sb_recv (q0 := 0) hK hP2 rfl) (fun q (z : False) => z.elim) ⟨rfl, rfl, (Nat.le_of_ble_eq_true rfl), (Nat.le_of_ble_eq_true rfl)⟩ rfl hl.1 rfl (Nat.le_of_ble_eq_true rfl) dJ5_append_c97b9_18 ⟨(Nat.le_of_ble_eq_true rfl), (Nat.le_of_ble_eq_true rfl)⟩ (fun H locs hW2 hS2 _ _ => ?_)
  cases hW2
  refine lv_if_eq (tgt := 37) hx hb dJ5_append_c97b9_21 (by decide) (fun h => absurd h (by decide)) (fun _ => ?_)
  refine lv_iload_n hx hb dJ5_append_c97b9_24 rfl (lv_at hl 3 rfl) ?_
  refine lv_iload_n hx hb dJ5_append_c97b9_25 rfl (lv_at hl 0 rfl) ?_
  refine lv_aload_n hx hb dJ5_append_c97b9_26 rfl (lv_at hl 2 rfl) ?_
  refine va_get (C := RJ4) (T := TJ4) (N := 4) (ci := 1) hx hb hts uw_J4 hown hK hP2 0 rfl rfl 0 (by decide) (hts _ fj_J5_15) (fun _ h => h) (v := .ref v1) rfl dJ5_append_c97b9_27 ?_
  have hv1l : v1 < H2.size := (hP2 1 _ rfl).lt
  have hM2 := metJ6_getChars_ba4f3 (cap := sb_cap (n + w) cap) (X := XB v1 H2.size) (FX_at F (hAS v1 hA1)) XB_at is_BA hgr
  refine gw_callS (As := [.int x, .int (nI (n + w)), .ref v1]) (rest := []) hC hml hS2 (gWB_of hP2) (hkX (v1 := v1) hS2 (Nat.le_refl _)) KC_blind hM2 ml_J5_248 (fun z hz => (XB_gA hz).elim (fun e => e ▸ hA1) (fun e => Or.inr (Or.inr (Nat.le_trans (hz0 ▸ hS2.1) e)))) ⟨rfl, rfl, (Nat.le_of_ble_eq_true rfl), (Nat.le_of_ble_eq_true rfl)⟩ rfl hl.1 rfl (Nat.le_of_ble_eq_true rfl) dJ5_append_c97b9_30 ⟨(Nat.le_of_ble_eq_true rfl), (Nat.le_of_ble_eq_true rfl)⟩ (fun H3 locs3 hW3 hS3 hz3 hk3 => ?_)
  have hP3 := SBp_of hne1 hP2 (Nat.le_refl _) hW3 hk3
  refine lv_pop hx hb dJ5_append_c97b9_33 rfl ?_
  refine lv_goto (tgt := 48) hx hb dJ5_append_c97b9_34 (by decide) ?_
  refine lv_aload_n hx hb dJ5_append_c97b9_48 rfl (lv_at hl 2 rfl) ?_
  refine lv_iload_n hx hb dJ5_append_c97b9_49 rfl (lv_at hl 0 rfl) ?_
  refine va_put (C := RJ4) (T := TJ4) (N := 4) (ci := 1) hx hb hts uw_J4 tyJ4 tyJ4_ok nmJ4 hown hK hP3 (SBp_D (A := AS sb v h0) hne1 (Or.inl rfl) hA1) hS3 0 (fs := [.ref v1, .int 0, .int mb, .int (nI n)]) rfl rfl 3 (by decide) (hts _ fj_J5_79) (fun _ h => h) rfl (ty := .int) (tyJ4_ok 3 (by decide)) rfl rfl (Nat.le_of_ble_eq_true rfl) dJ5_append_c97b9_50 (fun H4 locs4 hP4 hD4 hS4 => ?_)
  refine lv_aload_n hx hb dJ5_append_c97b9_53 rfl (lv_at hl 2 rfl) ?_
  exact gw_aret hx hb hr hlocks ⟨v1, r.1 0, mb, hv1', hrf, hrL, hP4⟩ hS4 (Nat.le_of_ble_eq_true rfl) (Nat.le_of_ble_eq_true rfl) dJ5_append_c97b9_54
set_option maxHeartbeats 4000000 in
set_option maxRecDepth 100000 in
theorem metJ4_appendI (F : FX l s0 b D T B) {h0 : Nat} (hne : sb ≠ v) (hsb : s0.heap.size ≤ sb) (hv0 : s0.heap.size ≤ v) (hh0 : s0.heap.size ≤ h0) (hcap : cap ≤ 300) (hq3 : sb_cap (n + w) cap ≤ 300) (hfit : sb_Fit row) (hs : fJ6_stringSize_0f7a4 N (fun _ => row) x = some (nI w)) (hg : ∀ row1, sb_Fit row1 → (∀ j, j < cap → row1 j = row j) → ∃ r, fJ6_getChars_ba4f3 N (sb_cap (n + w) cap) (fun _ => row1) x (nI (n + w)) 0 = some r ∧ sb_Fit (r.1 0) ∧ sb_Lat t2 (n + w) (r.1 0)) : gMet l yJ4_append_bf812 cJ4_append_bf812 2 (some (.object RJ4)) rmg4 [.ref sb, .int x] (fun H => H.size = h0 ∧ va_P D vwCl (SBp T sb v cap row mb (nI n)) H) (KC s0 X) (some (.ref sb)) (WqA D T sb v h0 (sb_cap (n + w) cap) t2 (n + w)) (AS sb v h0) 1 300 := by
  refine gMet_of RJ4 (by decide +kernel) rfl (Nat.le_of_ble_eq_true rfl) ?_
  intro p e s m below meth c ls hx hb hr hlocks hml hown hts hnm hW hk hl hS
  have hC := FX_C F hk hx hb hown hts
  have hl : lv_has ls 2 [(0, .ref sb), (1, .int x)] := hl
  have hAS : ∀ z, AS sb v h0 z → s0.heap.size ≤ z := fun z hz => hz.elim (fun e => e ▸ hsb) (fun hz => hz.elim (fun e => e ▸ hv0) (fun e => Nat.le_trans hh0 e))
  refine lv_aload_n hx hb dJ4_append_bf812_0 rfl (lv_at hl 0 rfl) ?_
  refine lv_iload_n hx hb dJ4_append_bf812_1 rfl (lv_at hl 1 rfl) ?_
  refine gw_callSU (As := [.int x]) (rest := []) (sb_class hC.2.2.2.2) hC hml hS hW (KC_gen hk hAS hS) KC_blind (metJ5_appendI (X := X) F hne hsb hv0 hh0 hcap hq3 hfit hs hg) su_J4_53 (sb_recv (q0 := 0) hC.2.2.2.2 hW.2 rfl) (fun _ h => h) ⟨rfl, rfl, (Nat.le_of_ble_eq_true rfl), (Nat.le_of_ble_eq_true rfl)⟩ rfl hl.1 rfl (Nat.le_of_ble_eq_true rfl) dJ4_append_bf812_2 ⟨(Nat.le_of_ble_eq_true rfl), (Nat.le_of_ble_eq_true rfl)⟩ (fun H locs hW hS _ _ => ?_)
  refine lv_pop hx hb dJ4_append_bf812_5 rfl ?_
  refine lv_aload_n hx hb dJ4_append_bf812_6 rfl (lv_at hl 0 rfl) ?_
  exact gw_aret hx hb hr hlocks hW hS (Nat.le_of_ble_eq_true rfl) (Nat.le_of_ble_eq_true rfl) dJ4_append_bf812_7
end SB4
