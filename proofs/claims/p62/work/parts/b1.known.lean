/-! The classes and arrays that the start knows. -/
theorem ka_p {s : State} {av : Array Value} {ty : FieldType} (hno : ∀ C, ty ≠ .object C) (h : (Cond.arrayClass ty).before av s = true) : ∃ c, ArrOfT s c ty ∧ va_RA s c ty := by
  obtain ⟨c, k, comp, h1, h2, h3⟩ := Cond.arrayClass_spec h
  refine ⟨c, fun n z => ⟨(fun k h => by cases h), k, h2, comp, h3⟩, ?_⟩
  cases ty with
  | object C => exact absurd rfl (hno C)
  | _ => exact h1
theorem ka_o {s : State} {av : Array Value} {C : String} (h : (Cond.arrayOver (.object C)).before av s = true) : ∃ c, ArrOfT s c (.object C) ∧ va_RA s c (.object C) := by
  obtain ⟨comp, c, k, h1, -, h3, h4, h5⟩ := Cond.arrayOver_spec h
  exact ⟨c, fun n z => ⟨(fun k h => by cases h), k, h3, comp, h4⟩, k, comp, h3, h4, h1, h5⟩
theorem ka_a {s : State} {av : Array Value} {ty : FieldType} (h : (Cond.arrayOver (.array ty)).before av s = true) : ∃ c, ArrOfT s c (.array ty) ∧ va_RA s c (.array ty) := by
  obtain ⟨comp, c, k, h1, h3, h4, h5⟩ := Cond.arrayOver_specA h
  exact ⟨c, fun n z => ⟨(fun k h => by cases h), k, h3, comp, h4⟩, h5⟩
theorem ku_Jx00060 : ∀ w ∈ u_ws RJx00060 TJx00060 6, w ∈ lw_tbl := by decide +kernel
theorem ku_Jx7c733 : ∀ w ∈ u_ws RJx7c733 TJx7c733 6, w ∈ lw_tbl := by decide +kernel
theorem FX_start {l : Launch} {s : State} {b : Nat} (hfl : l.flags = flags0) (hts : ∀ w ∈ lw_tbl, w.before #[.ref b] s = true) (hg : (Jvm.Cond.and given_1 narrow_1).before #[.ref b] s = true) : ∃ (D : va_G) (T : Nat → ClassId), ∀ B, s.heap.size ≤ B → FX l s b D T B := by
  obtain ⟨c0, i0, h0⟩ := u_known (C := RJ0) (T := TJ0) (N := 4) (n := 4) hts (fun w h => wg_tbl (uw_J0 w h)) (hts _ (List.mem_append_right _ (List.mem_of_getElem? (i := 570) (by decide +kernel))))
  obtain ⟨c1, i1, h1⟩ := u_known (C := RJ4) (T := TJ4) (N := 4) (n := 4) hts (fun w h => wg_tbl (uw_J4 w h)) (hts _ (List.mem_append_right _ (List.mem_of_getElem? (i := 275) (by decide +kernel))))
  obtain ⟨c2, i2, h2⟩ := u_known (C := RJx00060) (T := TJx00060) (N := 6) (n := 6) hts ku_Jx00060 (hts _ (List.mem_append_right _ (List.mem_of_getElem? (i := 555) (by decide +kernel))))
  obtain ⟨c3, i3, h3⟩ := u_known (C := RJx7c733) (T := TJx7c733) (N := 6) (n := 6) hts ku_Jx7c733 (hts _ (List.mem_append_right _ (List.mem_of_getElem? (i := 1458) (by decide +kernel))))
  obtain ⟨c4, i4, h4⟩ := u_known (C := RX1) (T := TX1) (N := 12) (n := 12) hts (fun w h => wg_tbl (uw_X1 w h)) (hts _ (List.mem_append_right _ (List.mem_of_getElem? (i := 56) (by decide +kernel))))
  obtain ⟨c5, i5, h5⟩ := u_known (C := RX4) (T := TX4) (N := 3) (n := 3) hts (fun w h => wg_tbl (uw_X4 w h)) (hts _ (List.mem_append_right _ (List.mem_of_getElem? (i := 155) (by decide +kernel))))
  obtain ⟨c6, i6, h6⟩ := u_known (C := RX5) (T := TX5) (N := 2) (n := 2) hts (fun w h => wg_tbl (uw_X5 w h)) (hts _ (List.mem_append_right _ (List.mem_of_getElem? (i := 228) (by decide +kernel))))
  obtain ⟨c7, i7, h7⟩ := u_known (C := RX6) (T := TX6) (N := 4) (n := 4) hts (fun w h => wg_tbl (uw_X6 w h)) (hts _ (List.mem_append_right _ (List.mem_of_getElem? (i := 208) (by decide +kernel))))
  obtain ⟨c8, i8, h8⟩ := u_known (C := RX7) (T := TX7) (N := 6) (n := 6) hts (fun w h => wg_tbl (uw_X7 w h)) (hts _ (List.mem_append_right _ (List.mem_of_getElem? (i := 241) (by decide +kernel))))
  obtain ⟨c9, i9, h9⟩ := u_known (C := RX8) (T := TX8) (N := 8) (n := 8) hts (fun w h => wg_tbl (uw_X8 w h)) (hts _ (List.mem_append_right _ (List.mem_of_getElem? (i := 47) (by decide +kernel))))
  obtain ⟨c10, i10, h10⟩ := u_known (C := RX9) (T := TX9) (N := 7) (n := 7) hts (fun w h => wg_tbl (uw_X9 w h)) (hts _ (List.mem_append_right _ (List.mem_of_getElem? (i := 175) (by decide +kernel))))
  obtain ⟨c11, i11, h11⟩ := u_known (C := RX10) (T := TX10) (N := 13) (n := 13) hts (fun w h => wg_tbl (uw_X10 w h)) (hts _ (List.mem_append_right _ (List.mem_of_getElem? (i := 39) (by decide +kernel))))
  obtain ⟨t0, a0, r0⟩ := ka_p (ty := .int) (fun C h => by cases h) (hts _ (wg_tbl lac_int))
  obtain ⟨t1, a1, r1⟩ := ka_p (ty := .boolean) (fun C h => by cases h) (hts _ (wg_tbl lac_boolean))
  obtain ⟨t2, a2, r2⟩ := ka_p (ty := .char) (fun C h => by cases h) (hts _ (wg_tbl lac_char))
  obtain ⟨t3, a3, r3⟩ := ka_a (ty := .int) (hts _ (List.mem_append_right _ (List.mem_of_getElem? (i := 53) (by decide +kernel))))
  obtain ⟨t4, a4, r4⟩ := ka_o (C := RX8) (hts _ (List.mem_append_right _ (List.mem_of_getElem? (i := 161) (by decide +kernel))))
  obtain ⟨t5, a5, r5⟩ := ka_o (C := RX1) (hts _ (List.mem_append_right _ (List.mem_of_getElem? (i := 55) (by decide +kernel))))
  obtain ⟨t6, a6, r6⟩ := ka_o (C := RX3) (hts _ (List.mem_append_right _ (List.mem_of_getElem? (i := 247) (by decide +kernel))))
  obtain ⟨t7, a7, r7⟩ := ka_p (ty := .byte) (fun C h => by cases h) (hts _ (wg_tbl lac_byte))
  obtain ⟨t8, a8, r8⟩ := ka_p (ty := .long) (fun C h => by cases h) (hts _ (wg_tbl lac_long))
  refine ⟨(fun k => if k = 0 then c0 else if k = 1 then c1 else if k = 2 then c2 else if k = 3 then c3 else if k = 4 then c4 else if k = 5 then c5 else if k = 6 then c6 else if k = 7 then c7 else if k = 8 then c8 else if k = 9 then c9 else if k = 10 then c10 else c11, fun k => if k = 0 then i0 else if k = 1 then i1 else if k = 2 then i2 else if k = 3 then i3 else if k = 4 then i4 else if k = 5 then i5 else if k = 6 then i6 else if k = 7 then i7 else if k = 8 then i8 else if k = 9 then i9 else if k = 10 then i10 else i11), fun k => if k = 0 then t0 else if k = 1 then t1 else if k = 2 then t2 else if k = 3 then t3 else if k = 4 then t4 else if k = 5 then t5 else if k = 6 then t6 else if k = 7 then t7 else t8, fun B hB => ⟨hfl, hts, hg, ⟨fun k q hq => ?_, fun k q hq => ?_⟩, hB⟩⟩
  · match k, hq with
    | 0, hq => cases hq; exact h0
    | 1, hq => cases hq; exact h1
    | 2, hq => cases hq; exact h2
    | 3, hq => cases hq; exact h3
    | 4, hq => cases hq; exact h4
    | 5, hq => cases hq; exact h5
    | 6, hq => cases hq; exact h6
    | 7, hq => cases hq; exact h7
    | 8, hq => cases hq; exact h8
    | 9, hq => cases hq; exact h9
    | 10, hq => cases hq; exact h10
    | 11, hq => cases hq; exact h11
    | k + 12, hq => cases hq
  · match k, hq with
    | 0, hq => cases hq; exact ⟨a0, r0⟩
    | 1, hq => cases hq; exact ⟨a1, r1⟩
    | 2, hq => cases hq; exact ⟨a2, r2⟩
    | 3, hq => cases hq; exact ⟨a3, r3⟩
    | 4, hq => cases hq; exact ⟨a4, r4⟩
    | 5, hq => cases hq; exact ⟨a5, r5⟩
    | 6, hq => cases hq; exact ⟨a6, r6⟩
    | 7, hq => cases hq; exact ⟨a7, r7⟩
    | 8, hq => cases hq; exact ⟨a8, r8⟩
    | k + 9, hq => cases hq
