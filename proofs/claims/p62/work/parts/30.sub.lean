/-! A letter of a String as a String of its own. -/
abbrev rmu0 : Room := { frames := 2, cells := 0, slots := 0, locals := 60 }
section SUB
variable {l : Launch} {s0 : State} {b B : Nat} {D : va_G} {T : Nat → ClassId} {X : Nat → Prop} {H0 : Heap} {a n : Nat} {t : Nat → Nat}
set_option maxHeartbeats 4000000 in
set_option maxRecDepth 100000 in
theorem metJ7_checkLength (F : FX l s0 b D T B) {i j : Nat} (hij : i ≤ j) (hj : j < 2 ^ 31) : gMet l yJ7_checkLength_df160 cJ7_checkLength_df160 2 none rms0 [.int (nI i), .int (nI j)] (eqH H0) (KC s0 X) none (eqH H0) NF 0 0 := by
  refine gMet_of RJ7 (by decide +kernel) rfl (Nat.le_of_ble_eq_true rfl) ?_
  intro p e s m below meth c ls hx hb hr hlocks hml hown hts hnm hW hk hl hS
  have hl : lv_has ls 2 [(0, .int (nI i)), (1, .int (nI j))] := hl
  refine lv_iload_n hx hb dJ7_checkLength_df160_0 rfl (lv_at hl 1 rfl) ?_
  refine lv_iload_n hx hb dJ7_checkLength_df160_1 rfl (lv_at hl 0 rfl) ?_
  refine lv_icmp_ge (tgt := 37) hx hb dJ7_checkLength_df160_2 (by decide) (fun _ => ?_) (fun h => absurd (nI_le hij hj) h)
  exact gw_vret hx hb hr hlocks hW hS (Nat.le_of_ble_eq_true rfl) (Nat.le_of_ble_eq_true rfl) dJ7_checkLength_df160_37
/-- what a call in an allocating walk asks -/
theorem KC_na {s : State} {H : Heap} {locs : List Loc} (hk : KC s0 X s) (hS : va_S (NA s.heap) s.heap H locs) : ∀ U : State, U.heap = H → s.WarmedH U.vm → KC s0 X U := fun U hU hW =>
  ⟨State.WarmedH.trans hk.1 hW, by rw [hU]; exact Nat.le_trans hk.2.1 hS.1, fun q hq => by
    rw [hU, hS.2.1 q (Nat.lt_of_lt_of_le hq hk.2.1) (fun z => absurd (Nat.lt_of_lt_of_le hq hk.2.1) (Nat.not_lt.mpr z))]; exact hk.2.2.1 q hq, fun q hq => by rw [hU]; exact Nat.lt_of_lt_of_le (hk.2.2.2 q hq) hS.1⟩
section GN
variable {p : Program} {l : Launch} {e : Env} {R : Room} {s : State} {m : MethodId} {args : Array Value} {below : List Frame} {meth : Method} {c : Code} {H : Heap} {locs : List Loc} {cells slots : Nat} {Q : State → Prop}
variable {cc : ByteArray} {pc : Nat} {ls : Array Slot} {st rest As : List Value} {cl : List vw_C} {A : Nat → Prop} {tys : List (ClassId × FieldType)} {own : String} {Ks : State → Prop} {P : Nat → Heap → Prop} {index ml nL mc ms : Nat} {y : MethodName} {bb : ByteArray} {ret : Option FieldType} {rm : Room} {k : Nat}
theorem gn_callS (hC : gC p c cc s m args own D cl tys) (hml : c.maxLocals = nL) (hS : va_S A H0 H locs) (hA : ∀ q, H.size ≤ q → A q) (hks : ∀ U : State, U.heap = H → s.WarmedH U.vm → Ks U) (hbl : gBlind Ks) (hM : gNMet l y bb ml ret rm As H Ks P mc ms) (hw : gMS own index y bb ml ret k) (hrm : gRm R rm ml mc ms)
    (hn : As.length = k) (hsz : ls.size = nL) (hst : st = As.reverse ++ rest) (hroom : (rest.map fun v => v.category).sum ≤ 8) (hdg : decode cc pc = .ok (.invokestatic index, 3)) (hf : cells + mc ≤ R.cells ∧ slots + ms ≤ R.slots)
    (kk : ∀ (q : Nat) (H1 : Heap) (locs1 : List Loc), H.size ≤ q → P q H1 → va_S A H0 H1 locs1 → H.size ≤ H1.size → (∀ q, q < H.size → H1[q]? = H[q]?) → W p l e R s m args below meth c H1 locs1 (cells + mc) (slots + ms) Q (F0 m (pc + 3) ls (.ref q :: rest))) : W p l e R s m args below meth c H locs cells slots Q (F0 m pc ls st) := by
  obtain ⟨hx, hb, hown, hts, -⟩ := hC
  exact gn_ret (As := As) (va_runS ⟨hx, hb, hml, hown, hts⟩ hM ⟨gw_cb hts hw.1 hrm, hts _ hw.2⟩ ⟨gPc_blind hbl, fun U hU hWm => ⟨rfl, hU, hks U hU hWm⟩⟩ rfl hn hsz hst (lv_room hroom) hdg hf) hS hA kk
theorem gn_callV (hC : gC p c cc s m args own D cl tys) (hml : c.maxLocals = nL) (hS : va_S A H0 H locs) (hA : ∀ q, H.size ≤ q → A q) (hks : ∀ U : State, U.heap = H → s.WarmedH U.vm → Ks U) (hbl : gBlind Ks) (hM : gNMet l y bb ml ret rm (.ref a :: As) H Ks P mc ms) (hw : gMV own index y bb ml ret k) (hrecv : ∃ cell : Cell, H[a]? = some cell ∧ cell.vm.isStatics = false ∧ s.vm.findClass y.cls = some cell.cls) (hrm : gRm R rm ml mc ms)
    (hn : As.length = k) (hsz : ls.size = nL) (hst : st = As.reverse ++ .ref a :: rest) (hroom : (rest.map fun v => v.category).sum ≤ 8) (hdg : decode cc pc = .ok (.invokevirtual index, 3)) (hf : cells + mc ≤ R.cells ∧ slots + ms ≤ R.slots)
    (kk : ∀ (q : Nat) (H1 : Heap) (locs1 : List Loc), H.size ≤ q → P q H1 → va_S A H0 H1 locs1 → H.size ≤ H1.size → (∀ q, q < H.size → H1[q]? = H[q]?) → W p l e R s m args below meth c H1 locs1 (cells + mc) (slots + ms) Q (F0 m (pc + 3) ls (.ref q :: rest))) : W p l e R s m args below meth c H locs cells slots Q (F0 m pc ls st) := by
  obtain ⟨hx, hb, hown, hts, -⟩ := hC
  exact gn_ret (As := .ref a :: As) (va_runV ⟨hx, hb, hml, hown, hts⟩ hM ⟨gw_cb hts hw.1 hrm, hts _ hw.2.1, hts _ hw.2.2⟩ ⟨gPc_blind hbl, hrecv, fun U hU hWm => ⟨rfl, hU, hks U hU hWm⟩⟩ rfl hn hsz hst (lv_room hroom) hdg hf) hS hA kk
end GN
end SUB
