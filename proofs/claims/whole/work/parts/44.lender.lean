/-! What the constructors make: the lender. -/
theorem dX5_init_0 : decode cX5_init 0 = .ok (.aload_n 0, 1) := by decide +kernel
theorem dX5_init_1 : decode cX5_init 1 = .ok (.invokespecial 3, 3) := by decide +kernel
theorem dX5_init_4 : decode cX5_init 4 = .ok (.aload_n 0, 1) := by decide +kernel
theorem dX5_init_5 : decode cX5_init 5 = .ok (.bipush 8, 2) := by decide +kernel
theorem dX5_init_7 : decode cX5_init 7 = .ok (.newarray .int, 2) := by decide +kernel
theorem dX5_init_9 : decode cX5_init 9 = .ok (.putfield 9, 3) := by decide +kernel
theorem dX5_init_12 : decode cX5_init 12 = .ok (.aload_n 0, 1) := by decide +kernel
theorem dX5_init_13 : decode cX5_init 13 = .ok (.bipush 9, 2) := by decide +kernel
theorem dX5_init_15 : decode cX5_init 15 = .ok (.newarray .int, 2) := by decide +kernel
theorem dX5_init_17 : decode cX5_init 17 = .ok (.putfield 15, 3) := by decide +kernel
theorem dX5_init_20 : decode cX5_init 20 = .ok (.return_, 1) := by decide +kernel
theorem lo_X5_3 : Cond.methodLink RX5 3 Lib.objectInit ∈ WG := wg_t 230 (by decide +kernel) (by decide +kernel)
theorem fj_X5_9 : Cond.fieldLink RX5 9 "AvalancheGallery$Lender" "order" "[I" ∈ WG := wg_t 231 (by decide +kernel) (by decide +kernel)
theorem fj_X5_15 : Cond.fieldLink RX5 15 "AvalancheGallery$Lender" "best" "[I" ∈ WG := wg_t 232 (by decide +kernel) (by decide +kernel)
abbrev rmk5 : Room := { frames := 2, cells := 2, slots := 17, locals := 60 }
section LEN
variable {l : Launch} {s0 : State} {b B : Nat} {D : va_G} {T : Nat → ClassId} {X : Nat → Prop} {q h0 : Nat}
set_option maxHeartbeats 4000000 in
set_option maxRecDepth 100000 in
theorem metX5_init (F : FX l s0 b D T B) (hq : q < h0) : gMet l yX5_init cX5_init 1 none rmk5 [.ref q] (fun H => H.size = h0 ∧ va_P D vwCl [(q, .inr (6, [.null, .null]))] H) (KC s0 X) none (fun H => H.size = h0 + 2 ∧ va_P D vwCl [(q, .inr (6, [.ref h0, .ref (h0 + 1)])), (h0, eInt T 8 (fun _ => 0)), (h0 + 1, eInt T 9 (fun _ => 0))] H) (fun z => z = q ∨ h0 ≤ z) 2 17 := by
  refine gMet_of RX5 (by decide +kernel) rfl (Nat.le_of_ble_eq_true rfl) ?_
  intro p e s m below meth c ls hx hb hr hlocks hml hown hts hnm hW hk hl hS
  obtain ⟨hz, hP⟩ := hW
  have hC := FX_C F hk hx hb hown hts
  have hl : lv_has ls 1 [(0, .ref q)] := hl
  refine lv_aload_n hx hb dX5_init_0 rfl (lv_at hl 0 rfl) ?_
  refine al_init hC lo_X5_3 (hl.1.trans hml.symm) (Nat.le_of_ble_eq_true rfl) (Nat.le_of_ble_eq_true rfl) dX5_init_1 ?_
  refine lv_aload_n hx hb dX5_init_4 rfl (lv_at hl 0 rfl) ?_
  refine lv_bipush (v := 8) hx hb dX5_init_5 (by decide) ?_
  refine al_arr (ty := .int) (t0 := 0) (cA := T 0) (n0 := 8) (a0 := (8, .inl (fun _ => 0))) (ws := [(q, .inr (6, [.null, .null]))]) hC lac_int rfl rfl hP hS rfl (by decide) (by decide) (Nat.le_of_ble_eq_true rfl) (Nat.le_of_ble_eq_true rfl) (Nat.le_of_ble_eq_true rfl) dX5_init_7 (fun H1 hP hS hz1 hk1 => ?_)
  rw [hz] at hP hz1 ⊢
  refine al_putF (C := RX5) (T := TX5) (N := 2) (ci := 6) tyX5 hC uw_X5 tyX5_ok nmX5 hP (vaD_of (by simp; omega) (by simp)) hS 0 (fs := [.null, .null]) rfl rfl 0 (by decide) fj_X5_9 rfl (hnm.trans rfl) rfl rfl rfl (Nat.le_of_ble_eq_true rfl) dX5_init_9 (fun H2 locs2 hP hS hz2 hk2 => ?_)
  refine lv_aload_n hx hb dX5_init_12 rfl (lv_at hl 0 rfl) ?_
  refine lv_bipush (v := 9) hx hb dX5_init_13 (by decide) ?_
  refine al_arr (ty := .int) (t0 := 0) (cA := T 0) (n0 := 9) (a0 := (9, .inl (fun _ => 0))) (ws := _) hC lac_int rfl rfl hP hS rfl (by decide) (by decide) (Nat.le_of_ble_eq_true rfl) (Nat.le_of_ble_eq_true rfl) (Nat.le_of_ble_eq_true rfl) dX5_init_15 (fun H3 hP hS hz3 hk3 => ?_)
  rw [hz2, hz1] at hP hz3 ⊢
  refine al_putF (C := RX5) (T := TX5) (N := 2) (ci := 6) tyX5 hC uw_X5 tyX5_ok nmX5 hP (vaD_of (by simp; omega) (by simp)) hS 0 (fs := [.ref h0, .null]) rfl rfl 1 (by decide) fj_X5_15 rfl (hnm.trans rfl) rfl rfl rfl (Nat.le_of_ble_eq_true rfl) dX5_init_17 (fun H4 locs4 hP hS hz4 hk4 => ?_)
  exact gw_vret hx hb hr hlocks ⟨by rw [hz4, hz3], hP⟩ hS (Nat.le_of_ble_eq_true rfl) (Nat.le_of_ble_eq_true rfl) dX5_init_20
end LEN
