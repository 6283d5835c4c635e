/-! Making objects at known places; a letter of a String as a String of its own. -/
theorem dJ7_copyOfRange_39247_0 : decode cJ7_copyOfRange_39247 0 = .ok (.iload_n 1, 1) := by decide +kernel
theorem dJ7_copyOfRange_39247_1 : decode cJ7_copyOfRange_39247 1 = .ok (.ifCond .ne 9, 3) := by decide +kernel
theorem dJ7_copyOfRange_39247_4 : decode cJ7_copyOfRange_39247 4 = .ok (.iload_n 2, 1) := by decide +kernel
theorem dJ7_copyOfRange_39247_5 : decode cJ7_copyOfRange_39247 5 = .ok (.aload_n 0, 1) := by decide +kernel
theorem dJ7_copyOfRange_39247_6 : decode cJ7_copyOfRange_39247 6 = .ok (.arraylength, 1) := by decide +kernel
theorem dJ7_copyOfRange_39247_7 : decode cJ7_copyOfRange_39247 7 = .ok (.if_icmp .eq 10, 3) := by decide +kernel
theorem dJ7_copyOfRange_39247_10 : decode cJ7_copyOfRange_39247 10 = .ok (.aload_n 0, 1) := by decide +kernel
theorem dJ7_copyOfRange_39247_11 : decode cJ7_copyOfRange_39247 11 = .ok (.iload_n 1, 1) := by decide +kernel
theorem dJ7_copyOfRange_39247_12 : decode cJ7_copyOfRange_39247 12 = .ok (.iload_n 2, 1) := by decide +kernel
theorem dJ7_copyOfRange_39247_13 : decode cJ7_copyOfRange_39247 13 = .ok (.invokestatic 339, 3) := by decide +kernel
theorem dJ7_copyOfRange_39247_16 : decode cJ7_copyOfRange_39247 16 = .ok (.areturn, 1) := by decide +kernel
theorem dJ7_copyOfRange_39247_17 : decode cJ7_copyOfRange_39247 17 = .ok (.aload_n 0, 1) := by decide +kernel
theorem dJ7_copyOfRange_39247_18 : decode cJ7_copyOfRange_39247 18 = .ok (.invokevirtual 310, 3) := by decide +kernel
theorem dJ7_copyOfRange_39247_21 : decode cJ7_copyOfRange_39247 21 = .ok (.checkcast 311, 3) := by decide +kernel
theorem dJ7_copyOfRange_39247_24 : decode cJ7_copyOfRange_39247 24 = .ok (.areturn, 1) := by decide +kernel
theorem dJ7_copyOfRangeByte_39247_0 : decode cJ7_copyOfRangeByte_39247 0 = .ok (.iload_n 1, 1) := by decide +kernel
theorem dJ7_copyOfRangeByte_39247_1 : decode cJ7_copyOfRangeByte_39247 1 = .ok (.iload_n 2, 1) := by decide +kernel
theorem dJ7_copyOfRangeByte_39247_2 : decode cJ7_copyOfRangeByte_39247 2 = .ok (.invokestatic 343, 3) := by decide +kernel
theorem dJ7_copyOfRangeByte_39247_5 : decode cJ7_copyOfRangeByte_39247 5 = .ok (.iload_n 2, 1) := by decide +kernel
theorem dJ7_copyOfRangeByte_39247_6 : decode cJ7_copyOfRangeByte_39247 6 = .ok (.iload_n 1, 1) := by decide +kernel
theorem dJ7_copyOfRangeByte_39247_7 : decode cJ7_copyOfRangeByte_39247 7 = .ok (.isub, 1) := by decide +kernel
theorem dJ7_copyOfRangeByte_39247_8 : decode cJ7_copyOfRangeByte_39247 8 = .ok (.istore_n 3, 1) := by decide +kernel
theorem dJ7_copyOfRangeByte_39247_9 : decode cJ7_copyOfRangeByte_39247 9 = .ok (.iload_n 3, 1) := by decide +kernel
theorem dJ7_copyOfRangeByte_39247_10 : decode cJ7_copyOfRangeByte_39247 10 = .ok (.newarray .byte, 2) := by decide +kernel
theorem dJ7_copyOfRangeByte_39247_12 : decode cJ7_copyOfRangeByte_39247 12 = .ok (.astore 4, 2) := by decide +kernel
theorem dJ7_copyOfRangeByte_39247_14 : decode cJ7_copyOfRangeByte_39247 14 = .ok (.aload_n 0, 1) := by decide +kernel
theorem dJ7_copyOfRangeByte_39247_15 : decode cJ7_copyOfRangeByte_39247 15 = .ok (.iload_n 1, 1) := by decide +kernel
theorem dJ7_copyOfRangeByte_39247_16 : decode cJ7_copyOfRangeByte_39247 16 = .ok (.aload 4, 2) := by decide +kernel
theorem dJ7_copyOfRangeByte_39247_18 : decode cJ7_copyOfRangeByte_39247 18 = .ok (.iconst 0, 1) := by decide +kernel
theorem dJ7_copyOfRangeByte_39247_19 : decode cJ7_copyOfRangeByte_39247 19 = .ok (.aload_n 0, 1) := by decide +kernel
theorem dJ7_copyOfRangeByte_39247_20 : decode cJ7_copyOfRangeByte_39247 20 = .ok (.arraylength, 1) := by decide +kernel
theorem dJ7_copyOfRangeByte_39247_21 : decode cJ7_copyOfRangeByte_39247 21 = .ok (.iload_n 1, 1) := by decide +kernel
theorem dJ7_copyOfRangeByte_39247_22 : decode cJ7_copyOfRangeByte_39247 22 = .ok (.isub, 1) := by decide +kernel
theorem dJ7_copyOfRangeByte_39247_23 : decode cJ7_copyOfRangeByte_39247 23 = .ok (.iload_n 3, 1) := by decide +kernel
theorem dJ7_copyOfRangeByte_39247_24 : decode cJ7_copyOfRangeByte_39247 24 = .ok (.invokestatic 304, 3) := by decide +kernel
theorem dJ7_copyOfRangeByte_39247_27 : decode cJ7_copyOfRangeByte_39247 27 = .ok (.invokestatic 150, 3) := by decide +kernel
theorem dJ7_copyOfRangeByte_39247_30 : decode cJ7_copyOfRangeByte_39247 30 = .ok (.aload 4, 2) := by decide +kernel
theorem dJ7_copyOfRangeByte_39247_32 : decode cJ7_copyOfRangeByte_39247 32 = .ok (.areturn, 1) := by decide +kernel
theorem dJ7_checkLength_df160_0 : decode cJ7_checkLength_df160 0 = .ok (.iload_n 1, 1) := by decide +kernel
theorem dJ7_checkLength_df160_1 : decode cJ7_checkLength_df160 1 = .ok (.iload_n 0, 1) := by decide +kernel
theorem dJ7_checkLength_df160_2 : decode cJ7_checkLength_df160 2 = .ok (.if_icmp .ge 35, 3) := by decide +kernel
theorem dJ7_checkLength_df160_5 : decode cJ7_checkLength_df160 5 = .ok (.new 43, 3) := by decide +kernel
theorem dJ7_checkLength_df160_8 : decode cJ7_checkLength_df160 8 = .ok (.dup, 1) := by decide +kernel
theorem dJ7_checkLength_df160_9 : decode cJ7_checkLength_df160 9 = .ok (.new 45, 3) := by decide +kernel
theorem dJ7_checkLength_df160_12 : decode cJ7_checkLength_df160 12 = .ok (.dup, 1) := by decide +kernel
theorem dJ7_checkLength_df160_13 : decode cJ7_checkLength_df160 13 = .ok (.invokespecial 47, 3) := by decide +kernel
theorem dJ7_checkLength_df160_16 : decode cJ7_checkLength_df160 16 = .ok (.iload_n 0, 1) := by decide +kernel
theorem dJ7_checkLength_df160_17 : decode cJ7_checkLength_df160 17 = .ok (.invokevirtual 54, 3) := by decide +kernel
theorem dJ7_checkLength_df160_20 : decode cJ7_checkLength_df160 20 = .ok (.ldc_w 337, 3) := by decide +kernel
theorem dJ7_checkLength_df160_23 : decode cJ7_checkLength_df160 23 = .ok (.invokevirtual 50, 3) := by decide +kernel
theorem dJ7_checkLength_df160_26 : decode cJ7_checkLength_df160 26 = .ok (.iload_n 1, 1) := by decide +kernel
theorem dJ7_checkLength_df160_27 : decode cJ7_checkLength_df160 27 = .ok (.invokevirtual 54, 3) := by decide +kernel
theorem dJ7_checkLength_df160_30 : decode cJ7_checkLength_df160 30 = .ok (.invokevirtual 61, 3) := by decide +kernel
theorem dJ7_checkLength_df160_33 : decode cJ7_checkLength_df160 33 = .ok (.invokespecial 65, 3) := by decide +kernel
theorem dJ7_checkLength_df160_36 : decode cJ7_checkLength_df160 36 = .ok (.athrow, 1) := by decide +kernel
theorem dJ7_checkLength_df160_37 : decode cJ7_checkLength_df160 37 = .ok (.return_, 1) := by decide +kernel
theorem dJ0_checkBoundsBeginEnd_23922_0 : decode cJ0_checkBoundsBeginEnd_23922 0 = .ok (.iload_n 0, 1) := by decide +kernel
theorem dJ0_checkBoundsBeginEnd_23922_1 : decode cJ0_checkBoundsBeginEnd_23922 1 = .ok (.iload_n 1, 1) := by decide +kernel
theorem dJ0_checkBoundsBeginEnd_23922_2 : decode cJ0_checkBoundsBeginEnd_23922 2 = .ok (.iload_n 2, 1) := by decide +kernel
theorem dJ0_checkBoundsBeginEnd_23922_3 : decode cJ0_checkBoundsBeginEnd_23922 3 = .ok (.getstatic 1053, 3) := by decide +kernel
theorem dJ0_checkBoundsBeginEnd_23922_6 : decode cJ0_checkBoundsBeginEnd_23922 6 = .ok (.invokestatic 1062, 3) := by decide +kernel
theorem dJ0_checkBoundsBeginEnd_23922_9 : decode cJ0_checkBoundsBeginEnd_23922 9 = .ok (.pop, 1) := by decide +kernel
theorem dJ0_checkBoundsBeginEnd_23922_10 : decode cJ0_checkBoundsBeginEnd_23922 10 = .ok (.return_, 1) := by decide +kernel
theorem dJ3_checkFromToIndex_8c36e_0 : decode cJ3_checkFromToIndex_8c36e 0 = .ok (.iload_n 0, 1) := by decide +kernel
theorem dJ3_checkFromToIndex_8c36e_1 : decode cJ3_checkFromToIndex_8c36e 1 = .ok (.ifCond .lt 13, 3) := by decide +kernel
theorem dJ3_checkFromToIndex_8c36e_4 : decode cJ3_checkFromToIndex_8c36e 4 = .ok (.iload_n 0, 1) := by decide +kernel
theorem dJ3_checkFromToIndex_8c36e_5 : decode cJ3_checkFromToIndex_8c36e 5 = .ok (.iload_n 1, 1) := by decide +kernel
theorem dJ3_checkFromToIndex_8c36e_6 : decode cJ3_checkFromToIndex_8c36e 6 = .ok (.if_icmp .gt 8, 3) := by decide +kernel
theorem dJ3_checkFromToIndex_8c36e_9 : decode cJ3_checkFromToIndex_8c36e 9 = .ok (.iload_n 1, 1) := by decide +kernel
theorem dJ3_checkFromToIndex_8c36e_10 : decode cJ3_checkFromToIndex_8c36e 10 = .ok (.iload_n 2, 1) := by decide +kernel
theorem dJ3_checkFromToIndex_8c36e_11 : decode cJ3_checkFromToIndex_8c36e 11 = .ok (.if_icmp .le 11, 3) := by decide +kernel
theorem dJ3_checkFromToIndex_8c36e_14 : decode cJ3_checkFromToIndex_8c36e 14 = .ok (.aload_n 3, 1) := by decide +kernel
theorem dJ3_checkFromToIndex_8c36e_15 : decode cJ3_checkFromToIndex_8c36e 15 = .ok (.iload_n 0, 1) := by decide +kernel
theorem dJ3_checkFromToIndex_8c36e_16 : decode cJ3_checkFromToIndex_8c36e 16 = .ok (.iload_n 1, 1) := by decide +kernel
theorem dJ3_checkFromToIndex_8c36e_17 : decode cJ3_checkFromToIndex_8c36e 17 = .ok (.iload_n 2, 1) := by decide +kernel
theorem dJ3_checkFromToIndex_8c36e_18 : decode cJ3_checkFromToIndex_8c36e 18 = .ok (.invokestatic 99, 3) := by decide +kernel
theorem dJ3_checkFromToIndex_8c36e_21 : decode cJ3_checkFromToIndex_8c36e 21 = .ok (.athrow, 1) := by decide +kernel
theorem dJ3_checkFromToIndex_8c36e_22 : decode cJ3_checkFromToIndex_8c36e 22 = .ok (.iload_n 0, 1) := by decide +kernel
theorem dJ3_checkFromToIndex_8c36e_23 : decode cJ3_checkFromToIndex_8c36e 23 = .ok (.ireturn, 1) := by decide +kernel
theorem uw_J0 : ∀ w ∈ u_ws RJ0 TJ0 4, w ∈ WG := fun w h => List.mem_filter.mpr ⟨(by decide +kernel : ∀ w ∈ u_ws RJ0 TJ0 4, w ∈ lw_tbl) w h, (by decide +kernel : ∀ w ∈ u_ws RJ0 TJ0 4, goodWord w = true) w h⟩
theorem ml_J7_339 : gMS RJ7 339 yJ7_copyOfRangeByte_39247 cJ7_copyOfRangeByte_39247 5 (some (.array .byte)) 3 := ⟨⟨wg_t 1409 (by decide +kernel) (by decide +kernel), wg_t 1411 (by decide +kernel) (by decide +kernel), wg_t 30 (by decide +kernel) (by decide +kernel), by decide +kernel⟩, wg_t 1410 (by decide +kernel) (by decide +kernel)⟩
theorem ml_J7_343 : gMS RJ7 343 yJ7_checkLength_df160 cJ7_checkLength_df160 2 none 2 := ⟨⟨wg_t 1412 (by decide +kernel) (by decide +kernel), wg_t 1414 (by decide +kernel) (by decide +kernel), wg_t 30 (by decide +kernel) (by decide +kernel), by decide +kernel⟩, wg_t 1413 (by decide +kernel) (by decide +kernel)⟩
theorem ml_J0_1062 : gMS RJ0 1062 yJ3_checkFromToIndex_8c36e cJ3_checkFromToIndex_8c36e 4 (some .int) 4 := ⟨⟨wg_t 1299 (by decide +kernel) (by decide +kernel), wg_t 1301 (by decide +kernel) (by decide +kernel), wg_t 31 (by decide +kernel) (by decide +kernel), by decide +kernel⟩, wg_t 1300 (by decide +kernel) (by decide +kernel)⟩
theorem lm_J7_304 : Cond.methodLink RJ7 304 Lib.Math.min.name ∈ WG := wg_t 1278 (by decide +kernel) (by decide +kernel)
theorem lm_J7_150 : Cond.methodLink RJ7 150 arraycopyName ∈ WG := wg_t 1279 (by decide +kernel) (by decide +kernel)
theorem lo_J0_1 : Cond.methodLink RJ0 1 Lib.objectInit ∈ WG := wg_t 1391 (by decide +kernel) (by decide +kernel)
theorem lo_obj : Cond.instanceMethod Lib.objectInit ∈ WG ∧ Cond.code Lib.objectInit ⟨#[0xb1]⟩ 1 none ∈ WG := ⟨wg_t 44 (by decide +kernel) (by decide +kernel), wg_t 45 (by decide +kernel) (by decide +kernel)⟩
theorem lac_int : Cond.arrayClass .int ∈ WG := wg_t 117 (by decide +kernel) (by decide +kernel)
theorem lac_boolean : Cond.arrayClass .boolean ∈ WG := wg_t 206 (by decide +kernel) (by decide +kernel)
theorem lac_char : Cond.arrayClass .char ∈ WG := wg_t 273 (by decide +kernel) (by decide +kernel)
theorem lac_byte : Cond.arrayClass .byte ∈ WG := wg_t 306 (by decide +kernel) (by decide +kernel)
theorem lac_long : Cond.arrayClass .long ∈ WG := wg_t 1696 (by decide +kernel) (by decide +kernel)
theorem fl_J0_9 : gF vwCl RJ0 9 0 0 true := ⟨RJ0, TJ0, 4, tyJ0, rfl, uw_J0, by decide, wg_t 1436 (by decide +kernel) (by decide +kernel), tyJ0_ok, nmJ0, rfl⟩
theorem fl_J0_15 : gF vwCl RJ0 15 0 1 true := ⟨RJ0, TJ0, 4, tyJ0, rfl, uw_J0, by decide, wg_t 1437 (by decide +kernel) (by decide +kernel), tyJ0_ok, nmJ0, rfl⟩
def NA (H0 : Heap) : Nat → Prop := fun q => H0.size ≤ q
/-- answers what it made -/
def gQn (H0 : Heap) (P : Nat → Heap → Prop) : Array Value → State → Outcome → State → Prop := fun _ st o t => ∃ q, o = .returned (some (.ref q)) ∧ H0.size ≤ q ∧ P q t.heap ∧ va_F (NA H0) st t
abbrev gNMet (l : Launch) (y : MethodName) (b : ByteArray) (ml : Nat) (ret : Option FieldType) (rm : Room) (vals : List Value) (H0 : Heap) (Ks : State → Prop) (P : Nat → Heap → Prop) (mc ms : Nat) : Prop :=
  Met l y (.code y b ml ret :: WG) rm (gPc vals (eqH H0) Ks) (gQn H0 P) mc ms (NA H0)
theorem gNMet_of {l : Launch} {y : MethodName} {b : ByteArray} {ml : Nat} {ret : Option FieldType} {rm : Room} {vals : List Value} {H0 : Heap} {Ks : State → Prop} {P : Nat → Heap → Prop} {mc ms : Nat} (own : String) (hy : plainName y.cls = true) (ho : y.cls = own) (hL : (lg_sl vals).length ≤ ml)
    (body : ∀ (p : Program) (e : Env) (s : State) (m : MethodId) (below : List Frame) (meth : Method) (c : Code) (ls : Array Slot), p.tables.exec = Jvm.exec → c.code = b → meth.sig.returnType = ret → meth.locks = false → c.maxLocals = ml → s.vm.findClass own = some m.cls → (∀ w ∈ WG, w.before vals.toArray s = true) → meth.name = y.name → s.heap = H0 → Ks s → lv_has ls ml (lv_args 0 vals) →
      W p l e rm s m vals.toArray below meth c H0 [] 0 0 (MQ below (gQn H0 P) vals.toArray s mc ms (NA H0)) (F0 m 0 ls [])) : gNMet l y b ml ret rm vals H0 Ks P mc ms := by
  refine Met.ofW (cc := b) (maxL := ml) (ret := ret) hy rfl ?_
  intro p e s m args below meth c s₁ Bd hml hv
  obtain ⟨rfl, hW, hk⟩ := hv
  have hW : s.heap = H0 := hW
  have hts0 := atoms_spec (ws := .code y b ml ret :: WG) Bd.pre
  have hown : s.vm.findClass own = some m.cls := ho ▸ findClass_of_methodNamed Bd.named
  have hl := lv_entry vals (n := ml) hL
  rw [lg_entry_eq, hW]
  generalize (lg_sl vals ++ List.replicate (ml - (lg_sl vals).length) Slot.unset).toArray = ls at hl ⊢
  exact body p e s m below meth c ls Bd.exec Bd.bytes Bd.returns Bd.notSynchronized hml hown (fun w h => hts0 w (List.mem_cons_of_mem _ h)) (name_of_methodNamed Bd.named Bd.method).1 hW hk hl
section AL
variable {p : Program} {l : Launch} {e : Env} {R : Room} {s : State} {m : MethodId} {args : Array Value} {below : List Frame} {meth : Method} {c : Code} {H : Heap} {locs : List Loc} {cells slots : Nat} {Q : State → Prop}
variable {cc : ByteArray} {pc : Nat} {ls : Array Slot} {st rest As : List Value} {D : va_G} {cl : List vw_C} {A : Nat → Prop} {tys : List (ClassId × FieldType)} {H0 : Heap} {own : String} {ws : va_W} {Ks : State → Prop} {P : Nat → Heap → Prop}
theorem gn_ret {mc ms : Nat} (hr : va_Run p l e R s m args below meth c H locs cells slots mc ms (F0 m pc ls st) rest (gQn H P As.toArray) (NA H)) (hS : va_S A H0 H locs) (hA : ∀ q, H.size ≤ q → A q)
    (kk : ∀ (q : Nat) (H1 : Heap) (locs1 : List Loc), H.size ≤ q → P q H1 → va_S A H0 H1 locs1 → H.size ≤ H1.size → (∀ q, q < H.size → H1[q]? = H[q]?) → W p l e R s m args below meth c H1 locs1 (cells + mc) (slots + ms) Q (F0 m (pc + 3) ls (.ref q :: rest))) : W p l e R s m args below meth c H locs cells slots Q (F0 m pc ls st) := by
  intro T hT X
  obtain ⟨v', st₀, t, T', L, h0, X', hL, e1, e2, ⟨q, hv, hqs, hq, hz, hk⟩, go⟩ := hr T hT X
  cases hv
  rw [h0] at hz hk
  have hk2 : ∀ q, q < H.size → t.heap[q]? = H[q]? := fun q hq => hk q hq (fun z => absurd z (Nat.not_le.mpr hq))
  obtain ⟨t2, a1, b1⟩ := kk q T'.heap (locs ++ L) hqs (by rw [e1]; exact hq)
    ⟨Nat.le_trans hS.1 (by rw [e1]; exact hz), fun q h1 h2 => by rw [e1, hk2 q (Nat.lt_of_lt_of_le h1 hS.1)]; exact hS.2.1 q h1 h2, fun q hq => by
      rcases List.mem_append.mp hq with h | h
      · exact hS.2.2 q h
      · exact hA _ (hL q h)⟩ (by rw [e1]; exact hz) (fun q h1 => by rw [e1]; exact hk2 q h1) T' rfl X'
  exact ⟨t2, go t2 a1, b1⟩
theorem gn_aret {x : Nat} {rt : FieldType} {mc ms : Nat} (hx : p.tables.exec = Jvm.exec) (hb : c.code = cc) (hr : meth.sig.returnType = some rt) (hrt : (∃ n, rt = .object n) ∨ ∃ t, rt = .array t) (hlocks : meth.locks = false) (hq : H0.size ≤ x) (hP : P x H) (hH : s.heap = H0) (hS : va_S (NA H0) H0 H locs) (hc : cells ≤ mc) (hs : slots ≤ ms) (hdg : decode cc pc = .ok (.areturn, 1)) : W p l e R s m args below meth c H locs cells slots (MQ below (gQn H0 P) args s mc ms (NA H0)) (F0 m pc ls [.ref x]) :=
  W.widen hc hs (W.aret hx hb hr hrt (Or.inr ⟨x, rfl⟩) (fun t ht _ => ⟨x, rfl, hq, by rw [ht]; exact hP, va_S.F (by rw [hH]; exact hS) ht⟩) hS.2.2 hdg hlocks)
/-- a new array of numbers; its place is the heap's end -/
theorem al_arr {atype : ArrayType} {ty : FieldType} {t0 n0 : Nat} {cA : ClassId} {n : Int32} {a0 : vp_A} (hC : gC p c cc s m args own D cl tys) (harr : Cond.arrayClass ty ∈ WG) (hty : newarray.typeOf atype = ty) (ht : tys[t0]? = some (cA, ty)) (hP : va_P D cl ws H) (hS : va_S A H0 H locs) (ha : vp_cell cA a0 = arrV cA n0 (fun _ => defaultValue ty)) (hn : ¬ n < 0) (hN : n.toNatClampNeg = n0) (hbytes : n0 * componentBytes ty ≤ 536870912) (hcells : cells + 1 ≤ R.cells) (hslots : slots + n0 ≤ R.slots) (hdg : decode cc pc = .ok (.newarray atype, 2))
    (kk : ∀ (H1 : Heap), va_P D cl (ws ++ [(H.size, .inl (cA, a0))]) H1 → va_S A H0 H1 locs → H1.size = H.size + 1 → (∀ q, q < H.size → H1[q]? = H[q]?) →
      W p l e R s m args below meth c H1 locs (cells + 1) (slots + n0) Q (F0 m (pc + 2) ls (.ref H.size :: rest))) : W p l e R s m args below meth c H locs cells slots Q (F0 m pc ls (.int n :: rest)) := by
  obtain ⟨hx, hb, hown, hts, hK⟩ := hC
  subst hty
  refine va_newaK hx hb (hts _ harr) rfl hdg rfl hn hN hbytes hcells hslots rfl fun H1 cA' e1 z1 o1 hAr hNm => ?_
  have hcA : s.vm.findClass ("[" ++ (newarray.typeOf atype).toString) = some cA := by
    have := (hK.2 t0 _ ht).2
    cases atype <;> exact this
  obtain rfl : cA' = cA := Option.some.inj (hNm.symm.trans hcA)
  have hk : ∀ (k : Nat) (x : Nat × va_E), ws[k]? = some x → H1[x.1]? = H[x.1]? := fun k x hx => o1 x.1 ((hP k x hx).lt)
  refine kk H1 ((hP.kept hk).app (fun k x hx => ?_)) ⟨Nat.le_trans hS.1 (by omega), fun x h1 h2 => (o1 x (Nat.lt_of_lt_of_le h1 hS.1)).trans (hS.2.1 x h1 h2), hS.2.2⟩ z1 o1
  have hz : k < 1 := (List.getElem?_eq_some_iff.mp hx).1
  rw [show k = 0 by omega] at hx
  cases hx
  show H1[H.size]? = some (vp_cell _ _)
  rw [ha]
  exact e1
/-- a new object -/
theorem al_obj {C : String} {T : u_T} {N ci index : Nat} (ty : Nat → FieldType) (hC : gC p c cc s m args own D cl tys) (hcl : Cond.classLink own index C ∈ WG ∧ Cond.instantiable C N ∈ WG ∧ Cond.initialized C ∈ WG) (hin : ∀ w ∈ u_ws C T N, w ∈ WG) (hty : ∀ k, k < N → parseFieldDescriptor (T k).2.2.1 = some (ty k)) (hci : cl[ci]? = some (C, T, N)) {fs : List Value} (hfs : ∀ j, j < N → defaultValue (ty j) = vp_V fs j) (hP : va_P D cl ws H) (hS : va_S A H0 H locs) (hcells : cells + 1 ≤ R.cells) (hslots : slots + N ≤ R.slots) (hdg : decode cc pc = .ok (.new index, 3))
    (kk : ∀ (H1 : Heap), va_P D cl (ws ++ [(H.size, .inr (ci, fs))]) H1 → va_S A H0 H1 locs → H1.size = H.size + 1 → (∀ q, q < H.size → H1[q]? = H[q]?) →
      W p l e R s m args below meth c H1 locs (cells + 1) (slots + N) Q (F0 m (pc + 3) ls (.ref H.size :: rest))) : W p l e R s m args below meth c H locs cells slots Q (F0 m pc ls rest) := by
  obtain ⟨hx, hb, hown, hts, hK⟩ := hC
  have hKn := hK.1 ci _ hci
  refine W.newcK hx hb hown (hts _ hcl.1) (hts _ hcl.2.1) (hts _ hcl.2.2) rfl hdg hcells hslots hKn.2.1 rfl fun H1 kC hkC e1 z1 o1 => ?_
  have hk : ∀ (k : Nat) (x : Nat × va_E), ws[k]? = some x → H1[x.1]? = H[x.1]? := fun k x hx => o1 x.1 ((hP k x hx).lt)
  refine kk H1 ((hP.kept hk).app (fun k x hx => ?_)) ⟨Nat.le_trans hS.1 (by omega), fun x h1 h2 => (o1 x (Nat.lt_of_lt_of_le h1 hS.1)).trans (hS.2.1 x h1 h2), hS.2.2⟩ z1 o1
  have hz : k < 1 := (List.getElem?_eq_some_iff.mp hx).1
  rw [show k = 0 by omega] at hx
  cases hx
  exact ⟨_, hci, (u_born ty hts hin hKn hkC e1 hty).to hfs⟩
theorem al_init {idx a : Nat} (hC : gC p c cc s m args own D cl tys) (hlink : Cond.methodLink own idx Lib.objectInit ∈ WG) (hsize : ls.size = c.maxLocals) (hframes : 1 ≤ R.frames) (hlocals : (rest.map fun v => v.category).sum + 12 ≤ R.locals) (hdg : decode cc pc = .ok (.invokespecial idx, 3))
    (kk : W p l e R s m args below meth c H locs cells slots Q (F0 m (pc + 3) ls rest)) : W p l e R s m args below meth c H locs cells slots Q (F0 m pc ls (.ref a :: rest)) :=
  W.objInit hC.1 hC.2.1 hC.2.2.1 (hC.2.2.2.1 _ hlink) (hC.2.2.2.1 _ lo_obj.1) (hC.2.2.2.1 _ lo_obj.2) rfl hsize rfl hdg hframes (by show 2 * 0 + _ + 12 ≤ _; omega) kk
/-- a String read off a world's list -/
theorem SV_of {a v n q0 q1 h9 : Nat} {T : Nat → ClassId} {t : Nat → Nat} {row : Nat → Int32} {x y : Int32} (hts : ∀ w ∈ WG, w.before args s = true) (hK : va_K D vwCl (tysG T) s) (hP : va_P D vwCl ws H) (he : ws[q0]? = some (a, .inr (0, [.ref v, .int 0, .int x, .int y]))) (hv : ws[q1]? = some (v, .inl (T 7, n, .inl row))) (hn : n < 2 ^ 31) (ht : ∀ j, j < n → t j < 256 ∧ row j = sb_b (t j)) : SV a n t s H := by
  obtain ⟨r, h1, cell, c1, c2, c3, c4⟩ := hP q0 _ he
  have hr : r = (RJ0, TJ0, 4) := Option.some.inj (h1.symm.trans rfl)
  subst hr
  obtain ⟨hS, hfc, kC, hkC, hkind⟩ := hK.1 0 _ (rfl : vwCl[0]? = some (RJ0, TJ0, 4))
  have fld : ∀ k, k < 4 → va_OF (TJ0 k).1 (TJ0 k).2.1 (TJ0 k).2.2.1 (vp_V [.ref v, .int 0, .int x, .int y] k) a NF s H := fun k hk => by
    obtain ⟨cf, kf, fi, f, hi, hsl⟩ := hS k hk
    exact ⟨cf, kf, fi, f, cell, hi, (u_facts hfc hkC (u_lays hts uw_J0 hk) hi).1, c1, (by rw [c3]; exact fun h => by cases h), (by rw [hsl, c4 k hk]), fun z => z⟩
  refine ⟨hn, fun j hj => (ht j hj).1, v, ⟨cell, c1, (by rw [c3]; rfl), (by rw [c2]; exact hfc), fun z => z⟩, fld 1 (by decide), fld 0 (by decide), ?_⟩
  have hb := hP q1 _ hv
  refine ⟨arrV (T 7) n (fun j => .int (row j)), hb, ?_, ?_, ?_, ?_, fun j hj => ?_, fun z => z⟩
  · exact ((hK.2 7 _ (rfl : (tysG T)[7]? = some (T 7, .byte))).1 n (fun j => .int (row j)))
  · exact fun h => by cases h
  · rw [arrV_size]; exact Nat.le_refl _
  · rw [arrV_size]
  · rw [arrV_read _ _ hj, (ht j hj).2]
end AL
