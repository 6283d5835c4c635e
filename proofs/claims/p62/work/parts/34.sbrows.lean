/-! The text builder: rows for its calls; what is read of it. -/
theorem dJ5_isLatin1_aae02_0 : decode cJ5_isLatin1_aae02 0 = .ok (.getstatic 18, 3) := by decide +kernel
theorem dJ5_isLatin1_aae02_3 : decode cJ5_isLatin1_aae02 3 = .ok (.ifCond .eq 14, 3) := by decide +kernel
theorem dJ5_isLatin1_aae02_6 : decode cJ5_isLatin1_aae02 6 = .ok (.aload_n 0, 1) := by decide +kernel
theorem dJ5_isLatin1_aae02_7 : decode cJ5_isLatin1_aae02 7 = .ok (.getfield 22, 3) := by decide +kernel
theorem dJ5_isLatin1_aae02_10 : decode cJ5_isLatin1_aae02 10 = .ok (.ifCond .ne 7, 3) := by decide +kernel
theorem dJ5_isLatin1_aae02_13 : decode cJ5_isLatin1_aae02 13 = .ok (.iconst 1, 1) := by decide +kernel
theorem dJ5_isLatin1_aae02_14 : decode cJ5_isLatin1_aae02 14 = .ok (.goto 4, 3) := by decide +kernel
theorem dJ5_isLatin1_aae02_17 : decode cJ5_isLatin1_aae02 17 = .ok (.iconst 0, 1) := by decide +kernel
theorem dJ5_isLatin1_aae02_18 : decode cJ5_isLatin1_aae02 18 = .ok (.ireturn, 1) := by decide +kernel
theorem dJ5_length_8abf5_0 : decode cJ5_length_8abf5 0 = .ok (.aload_n 0, 1) := by decide +kernel
theorem dJ5_length_8abf5_1 : decode cJ5_length_8abf5 1 = .ok (.getfield 79, 3) := by decide +kernel
theorem dJ5_length_8abf5_4 : decode cJ5_length_8abf5 4 = .ok (.ireturn, 1) := by decide +kernel
theorem dJ4_length_8abf5_0 : decode cJ4_length_8abf5 0 = .ok (.aload_n 0, 1) := by decide +kernel
theorem dJ4_length_8abf5_1 : decode cJ4_length_8abf5 1 = .ok (.invokespecial 343, 3) := by decide +kernel
theorem dJ4_length_8abf5_4 : decode cJ4_length_8abf5 4 = .ok (.ireturn, 1) := by decide +kernel
theorem dJ5_charAt_5068e_0 : decode cJ5_charAt_5068e 0 = .ok (.aload_n 0, 1) := by decide +kernel
theorem dJ5_charAt_5068e_1 : decode cJ5_charAt_5068e 1 = .ok (.getfield 22, 3) := by decide +kernel
theorem dJ5_charAt_5068e_4 : decode cJ5_charAt_5068e 4 = .ok (.istore_n 2, 1) := by decide +kernel
theorem dJ5_charAt_5068e_5 : decode cJ5_charAt_5068e 5 = .ok (.aload_n 0, 1) := by decide +kernel
theorem dJ5_charAt_5068e_6 : decode cJ5_charAt_5068e 6 = .ok (.getfield 15, 3) := by decide +kernel
theorem dJ5_charAt_5068e_9 : decode cJ5_charAt_5068e 9 = .ok (.astore_n 3, 1) := by decide +kernel
theorem dJ5_charAt_5068e_10 : decode cJ5_charAt_5068e 10 = .ok (.aload_n 0, 1) := by decide +kernel
theorem dJ5_charAt_5068e_11 : decode cJ5_charAt_5068e 11 = .ok (.getfield 79, 3) := by decide +kernel
theorem dJ5_charAt_5068e_14 : decode cJ5_charAt_5068e 14 = .ok (.aload_n 3, 1) := by decide +kernel
theorem dJ5_charAt_5068e_15 : decode cJ5_charAt_5068e 15 = .ok (.arraylength, 1) := by decide +kernel
theorem dJ5_charAt_5068e_16 : decode cJ5_charAt_5068e 16 = .ok (.iload_n 2, 1) := by decide +kernel
theorem dJ5_charAt_5068e_17 : decode cJ5_charAt_5068e 17 = .ok (.ishr, 1) := by decide +kernel
theorem dJ5_charAt_5068e_18 : decode cJ5_charAt_5068e 18 = .ok (.invokestatic 138, 3) := by decide +kernel
theorem dJ5_charAt_5068e_21 : decode cJ5_charAt_5068e 21 = .ok (.istore 4, 2) := by decide +kernel
theorem dJ5_charAt_5068e_23 : decode cJ5_charAt_5068e 23 = .ok (.iload_n 1, 1) := by decide +kernel
theorem dJ5_charAt_5068e_24 : decode cJ5_charAt_5068e 24 = .ok (.iload 4, 2) := by decide +kernel
theorem dJ5_charAt_5068e_26 : decode cJ5_charAt_5068e 26 = .ok (.invokestatic 144, 3) := by decide +kernel
theorem dJ5_charAt_5068e_29 : decode cJ5_charAt_5068e 29 = .ok (.iload_n 2, 1) := by decide +kernel
theorem dJ5_charAt_5068e_30 : decode cJ5_charAt_5068e 30 = .ok (.ifCond .ne 12, 3) := by decide +kernel
theorem dJ5_charAt_5068e_33 : decode cJ5_charAt_5068e 33 = .ok (.aload_n 3, 1) := by decide +kernel
theorem dJ5_charAt_5068e_34 : decode cJ5_charAt_5068e 34 = .ok (.iload_n 1, 1) := by decide +kernel
theorem dJ5_charAt_5068e_35 : decode cJ5_charAt_5068e 35 = .ok (.baload, 1) := by decide +kernel
theorem dJ5_charAt_5068e_36 : decode cJ5_charAt_5068e 36 = .ok (.sipush 255, 3) := by decide +kernel
theorem dJ5_charAt_5068e_39 : decode cJ5_charAt_5068e 39 = .ok (.iand, 1) := by decide +kernel
theorem dJ5_charAt_5068e_40 : decode cJ5_charAt_5068e 40 = .ok (.i2c, 1) := by decide +kernel
theorem dJ5_charAt_5068e_41 : decode cJ5_charAt_5068e 41 = .ok (.ireturn, 1) := by decide +kernel
theorem dJ5_charAt_5068e_42 : decode cJ5_charAt_5068e 42 = .ok (.aload_n 3, 1) := by decide +kernel
theorem dJ5_charAt_5068e_43 : decode cJ5_charAt_5068e 43 = .ok (.iload_n 1, 1) := by decide +kernel
theorem dJ5_charAt_5068e_44 : decode cJ5_charAt_5068e 44 = .ok (.invokestatic 148, 3) := by decide +kernel
theorem dJ5_charAt_5068e_47 : decode cJ5_charAt_5068e 47 = .ok (.ireturn, 1) := by decide +kernel
theorem dJ4_charAt_5068e_0 : decode cJ4_charAt_5068e 0 = .ok (.aload_n 0, 1) := by decide +kernel
theorem dJ4_charAt_5068e_1 : decode cJ4_charAt_5068e 1 = .ok (.iload_n 1, 1) := by decide +kernel
theorem dJ4_charAt_5068e_2 : decode cJ4_charAt_5068e 2 = .ok (.invokespecial 329, 3) := by decide +kernel
theorem dJ4_charAt_5068e_5 : decode cJ4_charAt_5068e 5 = .ok (.ireturn, 1) := by decide +kernel
theorem uw_J4 : ∀ w ∈ u_ws RJ4 TJ4 4, w ∈ WG := fun w h => List.mem_filter.mpr ⟨(by decide +kernel : ∀ w ∈ u_ws RJ4 TJ4 4, w ∈ lw_tbl) w h, (by decide +kernel : ∀ w ∈ u_ws RJ4 TJ4 4, goodWord w = true) w h⟩
theorem fj_J5_15 : Cond.fieldLink RJ5 15 "java/lang/AbstractStringBuilder" "value" "[B" ∈ WG := wg_t 292 (by decide +kernel) (by decide +kernel)
theorem fj_J5_22 : Cond.fieldLink RJ5 22 "java/lang/AbstractStringBuilder" "coder" "B" ∈ WG := wg_t 293 (by decide +kernel) (by decide +kernel)
theorem fj_J5_73 : Cond.fieldLink RJ5 73 "java/lang/AbstractStringBuilder" "maybeLatin1" "Z" ∈ WG := wg_t 294 (by decide +kernel) (by decide +kernel)
theorem fj_J5_79 : Cond.fieldLink RJ5 79 "java/lang/AbstractStringBuilder" "count" "I" ∈ WG := wg_t 296 (by decide +kernel) (by decide +kernel)
theorem fj_J5_18 : Cond.fieldLink RJ5 18 "java/lang/String" "COMPACT_STRINGS" "Z" ∈ WG := wg_t 283 (by decide +kernel) (by decide +kernel)
theorem gm_J5_83 : gM RJ5 83 yJ5_isLatin1_aae02 cJ5_isLatin1_aae02 1 (some .boolean) 0 ∧ Cond.instanceMethod yJ5_isLatin1_aae02 ∈ WG := ⟨⟨wg_t 1280 (by decide +kernel) (by decide +kernel), wg_t 1284 (by decide +kernel) (by decide +kernel), wg_t 9 (by decide +kernel) (by decide +kernel), by decide +kernel⟩, wg_t 1281 (by decide +kernel) (by decide +kernel)⟩
theorem gm_J5_100 : gM RJ5 100 yJ5_ensureCapacityInternal_d00df cJ5_ensureCapacityInternal_d00df 3 none 1 ∧ Cond.instanceMethod yJ5_ensureCapacityInternal_d00df ∈ WG := ⟨⟨wg_t 1251 (by decide +kernel) (by decide +kernel), wg_t 1254 (by decide +kernel) (by decide +kernel), wg_t 9 (by decide +kernel) (by decide +kernel), by decide +kernel⟩, wg_t 1253 (by decide +kernel) (by decide +kernel)⟩
theorem gm_J5_104 : gM RJ5 104 yJ5_newCapacity_0f7a4 cJ5_newCapacity_0f7a4 6 (some .int) 1 ∧ Cond.instanceMethod yJ5_newCapacity_0f7a4 ∈ WG := ⟨⟨wg_t 1255 (by decide +kernel) (by decide +kernel), wg_t 1258 (by decide +kernel) (by decide +kernel), wg_t 9 (by decide +kernel) (by decide +kernel), by decide +kernel⟩, wg_t 1257 (by decide +kernel) (by decide +kernel)⟩
def gSU (own : String) (index : Nat) (y : MethodName) (b : ByteArray) (ml : Nat) (ret : Option FieldType) (n : Nat) : Prop :=
  (∀ w ∈ ([.methodLink own index y, .sameMethod y.cls y.cls y.name y.desc, .superclass own y.cls, .instanceMethod y, .initialized y.cls] : List Cond), w ∈ WG) ∧ Cond.code y b ml ret ∈ WG ∧ y.name ≠ "<init>" ∧ (parseMethodDescriptor y.desc).map (fun d => d.parameters.length) = some n
theorem su_J4_333 : gSU RJ4 333 yJ5_setLength_d00df cJ5_setLength_d00df 2 none 1 := by
  refine ⟨fun w hw => ?_, wg_t 1456 (by decide +kernel) (by decide +kernel), by decide +kernel, by decide +kernel⟩
  simp only [List.mem_cons, List.mem_nil_iff, or_false] at hw
  rcases hw with rfl | rfl | rfl | rfl | rfl
  · exact wg_t 1454 (by decide +kernel) (by decide +kernel)
  · exact wg_t 1706 (by decide +kernel) (by decide +kernel)
  · exact wg_t 305 (by decide +kernel) (by decide +kernel)
  · exact wg_t 1455 (by decide +kernel) (by decide +kernel)
  · exact wg_t 9 (by decide +kernel) (by decide +kernel)
theorem su_J4_343 : gSU RJ4 343 yJ5_length_8abf5 cJ5_length_8abf5 1 (some .int) 0 := by
  refine ⟨fun w hw => ?_, wg_t 1404 (by decide +kernel) (by decide +kernel), by decide +kernel, by decide +kernel⟩
  simp only [List.mem_cons, List.mem_nil_iff, or_false] at hw
  rcases hw with rfl | rfl | rfl | rfl | rfl
  · exact wg_t 1403 (by decide +kernel) (by decide +kernel)
  · exact wg_t 1399 (by decide +kernel) (by decide +kernel)
  · exact wg_t 305 (by decide +kernel) (by decide +kernel)
  · exact wg_t 1398 (by decide +kernel) (by decide +kernel)
  · exact wg_t 9 (by decide +kernel) (by decide +kernel)
theorem su_J4_50 : gSU RJ4 50 yJ5_append_3fe6f cJ5_append_3fe6f 2 (some (.object "java/lang/AbstractStringBuilder")) 1 := by
  refine ⟨fun w hw => ?_, wg_t 1508 (by decide +kernel) (by decide +kernel), by decide +kernel, by decide +kernel⟩
  simp only [List.mem_cons, List.mem_nil_iff, or_false] at hw
  rcases hw with rfl | rfl | rfl | rfl | rfl
  · exact wg_t 1506 (by decide +kernel) (by decide +kernel)
  · exact wg_t 1707 (by decide +kernel) (by decide +kernel)
  · exact wg_t 305 (by decide +kernel) (by decide +kernel)
  · exact wg_t 1507 (by decide +kernel) (by decide +kernel)
  · exact wg_t 9 (by decide +kernel) (by decide +kernel)
theorem su_J4_53 : gSU RJ4 53 yJ5_append_c97b9 cJ5_append_c97b9 4 (some (.object "java/lang/AbstractStringBuilder")) 1 := by
  refine ⟨fun w hw => ?_, wg_t 1361 (by decide +kernel) (by decide +kernel), by decide +kernel, by decide +kernel⟩
  simp only [List.mem_cons, List.mem_nil_iff, or_false] at hw
  rcases hw with rfl | rfl | rfl | rfl | rfl
  · exact wg_t 1359 (by decide +kernel) (by decide +kernel)
  · exact wg_t 1705 (by decide +kernel) (by decide +kernel)
  · exact wg_t 305 (by decide +kernel) (by decide +kernel)
  · exact wg_t 1360 (by decide +kernel) (by decide +kernel)
  · exact wg_t 9 (by decide +kernel) (by decide +kernel)
theorem su_J4_329 : gSU RJ4 329 yJ5_charAt_5068e cJ5_charAt_5068e 5 (some .char) 1 := by
  refine ⟨fun w hw => ?_, wg_t 1544 (by decide +kernel) (by decide +kernel), by decide +kernel, by decide +kernel⟩
  simp only [List.mem_cons, List.mem_nil_iff, or_false] at hw
  rcases hw with rfl | rfl | rfl | rfl | rfl
  · exact wg_t 1542 (by decide +kernel) (by decide +kernel)
  · exact wg_t 1709 (by decide +kernel) (by decide +kernel)
  · exact wg_t 305 (by decide +kernel) (by decide +kernel)
  · exact wg_t 1543 (by decide +kernel) (by decide +kernel)
  · exact wg_t 9 (by decide +kernel) (by decide +kernel)
theorem sel_isLatin : Cond.selects RJ4 yJ5_isLatin1_aae02 yJ5_isLatin1_aae02 ∈ WG := wg_t 1283 (by decide +kernel) (by decide +kernel)
theorem sel_privC {y y2 : MethodName} {C : String} {s : State} {args : Array Value} (hy : y.cls ≠ "java/lang/invoke/MethodHandle" ∧ y.cls ≠ "java/lang/invoke/VarHandle") (hs2 : (Cond.selects C y2 y2).before args s = true) (hcls : y2.cls = y.cls) (hpriv : (Cond.privateMethod y).before args s = true) (hinst : (Cond.instanceMethod y).before args s = true) : (Cond.selects C y y).before args s = true := by
  obtain ⟨c, r, m2, hc, -, hn2, -, k2, hk2, hni⟩ := Cond.selects_spec hs2
  obtain ⟨mk, methM, hnamed, hmethM, -, -⟩ := Cond.instanceMethod_spec hinst
  have hfound : s.methodFound? y.cls y.name y.desc = some mk := State.methodFound?_of_named hnamed hy
  have hsel : selectMethod {} s.vm c mk = .method mk := selectMethod_private hmethM (Cond.privateMethod_at hpriv mk methM hnamed hmethM)
  have e1 := findClass_of_methodNamed hnamed
  have e2 := findClass_of_methodNamed hn2
  rw [hcls] at e2
  have e3 : m2.cls = mk.cls := Option.some.inj (e2.symm.trans e1)
  rw [e3] at hk2
  simp only [Cond.before, Cond.holds, Cond.value, hc, hfound, hnamed, hsel, hk2]
  simp; exact hni
theorem zsel_ensureCapacityInternal {l : Launch} {s0 s : State} {b B : Nat} {D : va_G} {T : Nat → ClassId} {X : Nat → Prop} {args : Array Value} (F : FX l s0 b D T B) (hk : KC s0 X s) : (Cond.selects RJ4 yJ5_ensureCapacityInternal_d00df yJ5_ensureCapacityInternal_d00df).before args s = true :=
  word_at hk.1 (Or.inl rfl) (sel_privC (args := #[.ref b]) (y2 := yJ5_isLatin1_aae02) ⟨by decide, by decide⟩ (F.2.1 _ (List.mem_append_right _ (List.mem_of_getElem? (i := 1283) (by decide +kernel)))) rfl (F.2.1 _ (List.mem_append_right _ (List.mem_of_getElem? (i := 1252) (by decide +kernel)))) (F.2.1 _ (List.mem_append_right _ (List.mem_of_getElem? (i := 1253) (by decide +kernel)))))
theorem zsel_newCapacity {l : Launch} {s0 s : State} {b B : Nat} {D : va_G} {T : Nat → ClassId} {X : Nat → Prop} {args : Array Value} (F : FX l s0 b D T B) (hk : KC s0 X s) : (Cond.selects RJ4 yJ5_newCapacity_0f7a4 yJ5_newCapacity_0f7a4).before args s = true :=
  word_at hk.1 (Or.inl rfl) (sel_privC (args := #[.ref b]) (y2 := yJ5_isLatin1_aae02) ⟨by decide, by decide⟩ (F.2.1 _ (List.mem_append_right _ (List.mem_of_getElem? (i := 1283) (by decide +kernel)))) rfl (F.2.1 _ (List.mem_append_right _ (List.mem_of_getElem? (i := 1256) (by decide +kernel)))) (F.2.1 _ (List.mem_append_right _ (List.mem_of_getElem? (i := 1257) (by decide +kernel)))))
section SBR
variable {p : Program} {l : Launch} {e : Env} {R : Room} {s : State} {m : MethodId} {args : Array Value} {below : List Frame} {meth : Method} {c : Code} {H : Heap} {locs : List Loc} {cells slots : Nat} {Q : State → Prop}
variable {cc : ByteArray} {pc : Nat} {ls : Array Slot} {st rest As vals : List Value} {D : va_G} {cl : List vw_C} {A A1 : Nat → Prop} {tys : List (ClassId × FieldType)} {H0 : Heap} {own C : String} {index ml nL n mc ms a : Nat} {y : MethodName} {b : ByteArray} {ret : Option FieldType} {rm : Room} {Wp Wq : Heap → Prop} {Ks : State → Prop} {v : Option Value}
/-- a call on an object of class C of a method of its superclass -/
theorem gw_callVC (hC : gC p c cc s m args own D cl tys) (hml : c.maxLocals = nL) (hS : va_S A H0 H locs) (hW : Wp H) (hks : ∀ U : State, U.heap = H → s.WarmedH U.vm → Ks U) (hbl : gBlind Ks) (hM : gMet l y b ml ret rm (.ref a :: As) Wp Ks v Wq A1 mc ms) (hw : gM own index y b ml ret n ∧ Cond.instanceMethod y ∈ WG) (hsel : (Cond.selects C y y).before args s = true) (hrecv : ∃ cell : Cell, H[a]? = some cell ∧ cell.vm.isStatics = false ∧ s.vm.findClass C = some cell.cls) (hA : ∀ q, A1 q → A q) (hrm : gRm R rm ml mc ms)
    (hn : As.length = n) (hsz : ls.size = nL) (hst : st = As.reverse ++ .ref a :: rest) (hroom : (rest.map fun v => v.category).sum ≤ 8) (hdg : decode cc pc = .ok (.invokevirtual index, 3)) (hf : cells + mc ≤ R.cells ∧ slots + ms ≤ R.slots)
    (kk : ∀ (H1 : Heap) (locs1 : List Loc), Wq H1 → va_S A H0 H1 locs1 → H.size ≤ H1.size → (∀ q, q < H.size → ¬ A1 q → H1[q]? = H[q]?) → W p l e R s m args below meth c H1 locs1 (cells + mc) (slots + ms) Q (F0 m (pc + 3) ls (v.toList ++ rest))) : W p l e R s m args below meth c H locs cells slots Q (F0 m pc ls st) := by
  obtain ⟨hx, hb, hown, hts, -⟩ := hC
  exact gw_ret (As := .ref a :: As) (va_runV (C := C) ⟨hx, hb, hml, hown, hts⟩ hM ⟨gw_cb hts hw.1 hrm, hts _ hw.2, hsel⟩ ⟨gPc_blind hbl, hrecv, fun U hU hWm => ⟨rfl, by rw [hU]; exact hW, hks U hU hWm⟩⟩ rfl hn hsz hst (lv_room hroom) hdg hf) hS hA kk
/-- super.m(..) -/
theorem gw_callSU {cC : ClassId} (hat : ClassAt s C cC) (hC : gC p c cc s m args own D cl tys) (hml : c.maxLocals = nL) (hS : va_S A H0 H locs) (hW : Wp H) (hks : ∀ U : State, U.heap = H → s.WarmedH U.vm → Ks U) (hbl : gBlind Ks) (hM : gMet l y b ml ret rm (.ref a :: As) Wp Ks v Wq A1 mc ms) (hw : gSU own index y b ml ret n) (hrecv : ∃ cell : Cell, H[a]? = some cell ∧ cell.vm.isStatics = false ∧ s.vm.findClass C = some cell.cls) (hA : ∀ q, A1 q → A q) (hrm : gRm R rm ml mc ms)
    (hn : As.length = n) (hsz : ls.size = nL) (hst : st = As.reverse ++ .ref a :: rest) (hroom : (rest.map fun v => v.category).sum ≤ 8) (hdg : decode cc pc = .ok (.invokespecial index, 3)) (hf : cells + mc ≤ R.cells ∧ slots + ms ≤ R.slots)
    (kk : ∀ (H1 : Heap) (locs1 : List Loc), Wq H1 → va_S A H0 H1 locs1 → H.size ≤ H1.size → (∀ q, q < H.size → ¬ A1 q → H1[q]? = H[q]?) → W p l e R s m args below meth c H1 locs1 (cells + mc) (slots + ms) Q (F0 m (pc + 3) ls (v.toList ++ rest))) : W p l e R s m args below meth c H locs cells slots Q (F0 m pc ls st) := by
  obtain ⟨hx, hb, hown, hts, -⟩ := hC
  have hG : GoodIn WG (va_wsSU own index y (.code y b ml ret :: WG)) := fun w h => by
    rcases List.mem_append.mp h with h | h
    · exact ⟨hw.1 w h, wg_good (hw.1 w h)⟩
    · exact wg_in hw.2.1 w h
  exact gw_ret (As := .ref a :: As) (va_runSU (C := C) hat ⟨hx, hb, hml, hown, hts⟩ hM (va_cwSU n hts hG rfl hrm.1 hrm.2.1 hw.2.2 hrm.2.2) ⟨gPc_blind hbl, hrecv, fun U hU hWm => ⟨rfl, by rw [hU]; exact hW, hks U hU hWm⟩⟩ rfl hn hsz hst (lv_room hroom) hdg hf) hS hA kk
end SBR
/-- the text builder at sb, its bytes at v -/
abbrev SBp (T : Nat → ClassId) (sb v cap : Nat) (row : Nat → Int32) (mb n : Int32) : va_W := [(sb, .inr (1, [.ref v, .int 0, .int mb, .int n])), (v, .inl (T 7, cap, .inl row))]
