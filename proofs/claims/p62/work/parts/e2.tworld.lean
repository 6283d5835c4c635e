/-! The law's String constants; its texts in the heap. -/
theorem ml_L_384 : gMI RL 384 yJ4_init_da8c8 cJ4_init_da8c8 1 0 := ⟨⟨wg_t 1239 (by decide +kernel) (by decide +kernel), wg_t 278 (by decide +kernel) (by decide +kernel), wg_t 10 (by decide +kernel) (by decide +kernel), by decide +kernel⟩, wg_t 277 (by decide +kernel) (by decide +kernel)⟩
theorem ml_L_385 : gMV RL 385 yJ4_append_15ec4 cJ4_append_15ec4 2 (some (.object "java/lang/StringBuilder")) 1 := ⟨⟨wg_t 1240 (by decide +kernel) (by decide +kernel), wg_t 1243 (by decide +kernel) (by decide +kernel), wg_t 10 (by decide +kernel) (by decide +kernel), by decide +kernel⟩, wg_t 1241 (by decide +kernel) (by decide +kernel), wg_t 1242 (by decide +kernel) (by decide +kernel)⟩
theorem ml_L_391 : gMV RL 391 yJ4_append_bf812 cJ4_append_bf812 2 (some (.object "java/lang/StringBuilder")) 1 := ⟨⟨wg_t 1355 (by decide +kernel) (by decide +kernel), wg_t 1358 (by decide +kernel) (by decide +kernel), wg_t 10 (by decide +kernel) (by decide +kernel), by decide +kernel⟩, wg_t 1356 (by decide +kernel) (by decide +kernel), wg_t 1357 (by decide +kernel) (by decide +kernel)⟩
theorem ml_L_394 : gMV RL 394 yJ4_toString_0e30d cJ4_toString_0e30d 1 (some (.object "java/lang/String")) 0 := ⟨⟨wg_t 1380 (by decide +kernel) (by decide +kernel), wg_t 1383 (by decide +kernel) (by decide +kernel), wg_t 10 (by decide +kernel) (by decide +kernel), by decide +kernel⟩, wg_t 1381 (by decide +kernel) (by decide +kernel), wg_t 1382 (by decide +kernel) (by decide +kernel)⟩
theorem ml_L_176 : gMV RL 176 yJ0_length_8abf5 cJ0_length_8abf5 1 (some .int) 0 := ⟨⟨wg_t 1529 (by decide +kernel) (by decide +kernel), wg_t 1314 (by decide +kernel) (by decide +kernel), wg_t 11 (by decide +kernel) (by decide +kernel), by decide +kernel⟩, wg_t 1312 (by decide +kernel) (by decide +kernel), wg_t 1313 (by decide +kernel) (by decide +kernel)⟩
theorem ml_L_181 : gMV RL 181 yJ0_charAt_5068e cJ0_charAt_5068e 2 (some .char) 1 := ⟨⟨wg_t 1548 (by decide +kernel) (by decide +kernel), wg_t 1551 (by decide +kernel) (by decide +kernel), wg_t 11 (by decide +kernel) (by decide +kernel), by decide +kernel⟩, wg_t 1549 (by decide +kernel) (by decide +kernel), wg_t 1550 (by decide +kernel) (by decide +kernel)⟩
theorem cl_L_382 : Cond.classLink RL 382 RJ4 ∈ WG ∧ Cond.instantiable RJ4 4 ∈ WG ∧ Cond.initialized RJ4 ∈ WG := ⟨wg_t 1238 (by decide +kernel) (by decide +kernel), wg_t 275 (by decide +kernel) (by decide +kernel), wg_t 10 (by decide +kernel) (by decide +kernel)⟩
def lsa (s0 : State) (k : Nat) : Nat := match (Term.string RL k).eval #[] s0 none [] s0 with
  | some (.ref a) => a
  | _ => 0
/-- the letters of the law's String constant k -/
def lTx : Nat → List Nat
  | 380 => []
  | 389 => [47]
  | 404 => [48]
  | 406 => [62]
  | 410 => [61]
  | 443 => [100, 114, 111, 112, 32]
  | 445 => [32, 49, 44, 50, 43]
  | 447 => [59, 100, 97, 121, 32]
  | 449 => [59, 115, 101, 110, 100, 32]
  | _ => []
def lS (k : Nat) : Prop := k = 380 ∨ k = 389 ∨ k = 404 ∨ k = 406 ∨ k = 410 ∨ k = 443 ∨ k = 445 ∨ k = 447 ∨ k = 449
section LST
variable {l : Launch} {s0 s : State} {b B : Nat} {D : va_G} {T : Nat → ClassId} {X : Nat → Prop}
theorem zL_of (F : FX l s0 b D T B) {k : Nat} (hn : (lTx k).length < 2 ^ 31 ∧ ∀ j, j < (lTx k).length → (lTx k).getD j 0 < 256) (key : ∃ a v, (Term.string RL k).eval #[.ref b] s0 none [] s0 = some (.ref a) ∧ va_O "java/lang/String" a (fun q => s0.heap.size ≤ q) s0 s0.heap ∧ va_OF "java/lang/String" "coder" "B" (.int 0) a (fun q => s0.heap.size ≤ q) s0 s0.heap ∧ va_OF "java/lang/String" "value" "[B" (.ref v) a (fun q => s0.heap.size ≤ q) s0 s0.heap ∧ va_T .byte v (lTx k).length (fun j => .int (((lTx k).map sb_b).getD j 0)) (fun q => s0.heap.size ≤ q) s0 s0.heap) : (Term.string RL k).eval #[.ref b] s0 none [] s0 = some (.ref (lsa s0 k)) ∧ SVA (fun q => s0.heap.size ≤ q) (lsa s0 k) (lTx k) s0 s0.heap := by
  obtain ⟨a, v, e, q1, q2, q3, q4⟩ := key
  have e2 : (Term.string RL k).eval #[] s0 none [] s0 = some (.ref a) := e
  have ea : lsa s0 k = a := by unfold lsa; rw [e2]
  rw [ea]
  refine ⟨e, hn.1, hn.2, v, q1, q2, q3, ?_⟩
  obtain ⟨cell, h1, h2, h3, h4, h5, h6, h7⟩ := q4
  refine ⟨cell, h1, h2, h3, h4, h5, fun j hj => ?_, h7⟩
  rw [h6 j hj]
  simp only [List.getD_eq_getElem?_getD, List.getElem?_map, List.getElem?_eq_getElem hj, Option.map_some, Option.getD_some]
theorem zL_380 (F : FX l s0 b D T B) : (Term.string RL 380).eval #[.ref b] s0 none [] s0 = some (.ref (lsa s0 380)) ∧ SVA (fun q => s0.heap.size ≤ q) (lsa s0 380) (lTx 380) s0 s0.heap :=
  zL_of F (by decide +kernel) (zS_of F (own := RL) (k := 380) (n := (lTx 380).length) (byt := (lTx 380).map sb_b) (by decide +kernel) (List.mem_of_getElem? (i := 782) (by decide +kernel)) (List.mem_of_getElem? (i := 783) (by decide +kernel)) (List.mem_of_getElem? (i := 784) (by decide +kernel)) (List.mem_of_getElem? (i := 785) (by decide +kernel)) 0 (by decide +kernel))
theorem ls_L_380 : Cond.stringRef RL 380 "" ∈ lw_tbl := (List.mem_append_right _ (List.mem_of_getElem? (i := 1237) (by decide +kernel)))
theorem zL_389 (F : FX l s0 b D T B) : (Term.string RL 389).eval #[.ref b] s0 none [] s0 = some (.ref (lsa s0 389)) ∧ SVA (fun q => s0.heap.size ≤ q) (lsa s0 389) (lTx 389) s0 s0.heap :=
  zL_of F (by decide +kernel) (zS_of F (own := RL) (k := 389) (n := (lTx 389).length) (byt := (lTx 389).map sb_b) (by decide +kernel) (List.mem_of_getElem? (i := 786) (by decide +kernel)) (List.mem_of_getElem? (i := 787) (by decide +kernel)) (List.mem_of_getElem? (i := 788) (by decide +kernel)) (List.mem_of_getElem? (i := 789) (by decide +kernel)) 790 (by decide +kernel))
theorem ls_L_389 : Cond.stringRef RL 389 "/" ∈ lw_tbl := (List.mem_append_right _ (List.mem_of_getElem? (i := 1354) (by decide +kernel)))
theorem zL_404 (F : FX l s0 b D T B) : (Term.string RL 404).eval #[.ref b] s0 none [] s0 = some (.ref (lsa s0 404)) ∧ SVA (fun q => s0.heap.size ≤ q) (lsa s0 404) (lTx 404) s0 s0.heap :=
  zL_of F (by decide +kernel) (zS_of F (own := RL) (k := 404) (n := (lTx 404).length) (byt := (lTx 404).map sb_b) (by decide +kernel) (List.mem_of_getElem? (i := 930) (by decide +kernel)) (List.mem_of_getElem? (i := 931) (by decide +kernel)) (List.mem_of_getElem? (i := 932) (by decide +kernel)) (List.mem_of_getElem? (i := 933) (by decide +kernel)) 934 (by decide +kernel))
theorem ls_L_404 : Cond.stringRef RL 404 "0" ∈ lw_tbl := (List.mem_append_right _ (List.mem_of_getElem? (i := 1563) (by decide +kernel)))
theorem zL_406 (F : FX l s0 b D T B) : (Term.string RL 406).eval #[.ref b] s0 none [] s0 = some (.ref (lsa s0 406)) ∧ SVA (fun q => s0.heap.size ≤ q) (lsa s0 406) (lTx 406) s0 s0.heap :=
  zL_of F (by decide +kernel) (zS_of F (own := RL) (k := 406) (n := (lTx 406).length) (byt := (lTx 406).map sb_b) (by decide +kernel) (List.mem_of_getElem? (i := 935) (by decide +kernel)) (List.mem_of_getElem? (i := 936) (by decide +kernel)) (List.mem_of_getElem? (i := 937) (by decide +kernel)) (List.mem_of_getElem? (i := 938) (by decide +kernel)) 939 (by decide +kernel))
theorem ls_L_406 : Cond.stringRef RL 406 ">" ∈ lw_tbl := (List.mem_append_right _ (List.mem_of_getElem? (i := 1564) (by decide +kernel)))
theorem zL_410 (F : FX l s0 b D T B) : (Term.string RL 410).eval #[.ref b] s0 none [] s0 = some (.ref (lsa s0 410)) ∧ SVA (fun q => s0.heap.size ≤ q) (lsa s0 410) (lTx 410) s0 s0.heap :=
  zL_of F (by decide +kernel) (zS_of F (own := RL) (k := 410) (n := (lTx 410).length) (byt := (lTx 410).map sb_b) (by decide +kernel) (List.mem_of_getElem? (i := 940) (by decide +kernel)) (List.mem_of_getElem? (i := 941) (by decide +kernel)) (List.mem_of_getElem? (i := 942) (by decide +kernel)) (List.mem_of_getElem? (i := 943) (by decide +kernel)) 944 (by decide +kernel))
theorem ls_L_410 : Cond.stringRef RL 410 "=" ∈ lw_tbl := (List.mem_append_right _ (List.mem_of_getElem? (i := 1572) (by decide +kernel)))
theorem zL_443 (F : FX l s0 b D T B) : (Term.string RL 443).eval #[.ref b] s0 none [] s0 = some (.ref (lsa s0 443)) ∧ SVA (fun q => s0.heap.size ≤ q) (lsa s0 443) (lTx 443) s0 s0.heap :=
  zL_of F (by decide +kernel) (zS_of F (own := RL) (k := 443) (n := (lTx 443).length) (byt := (lTx 443).map sb_b) (by decide +kernel) (List.mem_of_getElem? (i := 945) (by decide +kernel)) (List.mem_of_getElem? (i := 946) (by decide +kernel)) (List.mem_of_getElem? (i := 947) (by decide +kernel)) (List.mem_of_getElem? (i := 948) (by decide +kernel)) 949 (by decide +kernel))
theorem ls_L_443 : Cond.stringRef RL 443 "drop " ∈ lw_tbl := (List.mem_append_right _ (List.mem_of_getElem? (i := 1613) (by decide +kernel)))
theorem zL_445 (F : FX l s0 b D T B) : (Term.string RL 445).eval #[.ref b] s0 none [] s0 = some (.ref (lsa s0 445)) ∧ SVA (fun q => s0.heap.size ≤ q) (lsa s0 445) (lTx 445) s0 s0.heap :=
  zL_of F (by decide +kernel) (zS_of F (own := RL) (k := 445) (n := (lTx 445).length) (byt := (lTx 445).map sb_b) (by decide +kernel) (List.mem_of_getElem? (i := 954) (by decide +kernel)) (List.mem_of_getElem? (i := 955) (by decide +kernel)) (List.mem_of_getElem? (i := 956) (by decide +kernel)) (List.mem_of_getElem? (i := 957) (by decide +kernel)) 958 (by decide +kernel))
theorem ls_L_445 : Cond.stringRef RL 445 " 1,2+" ∈ lw_tbl := (List.mem_append_right _ (List.mem_of_getElem? (i := 1614) (by decide +kernel)))
theorem zL_447 (F : FX l s0 b D T B) : (Term.string RL 447).eval #[.ref b] s0 none [] s0 = some (.ref (lsa s0 447)) ∧ SVA (fun q => s0.heap.size ≤ q) (lsa s0 447) (lTx 447) s0 s0.heap :=
  zL_of F (by decide +kernel) (zS_of F (own := RL) (k := 447) (n := (lTx 447).length) (byt := (lTx 447).map sb_b) (by decide +kernel) (List.mem_of_getElem? (i := 963) (by decide +kernel)) (List.mem_of_getElem? (i := 964) (by decide +kernel)) (List.mem_of_getElem? (i := 965) (by decide +kernel)) (List.mem_of_getElem? (i := 966) (by decide +kernel)) 967 (by decide +kernel))
theorem ls_L_447 : Cond.stringRef RL 447 ";day " ∈ lw_tbl := (List.mem_append_right _ (List.mem_of_getElem? (i := 1615) (by decide +kernel)))
theorem zL_449 (F : FX l s0 b D T B) : (Term.string RL 449).eval #[.ref b] s0 none [] s0 = some (.ref (lsa s0 449)) ∧ SVA (fun q => s0.heap.size ≤ q) (lsa s0 449) (lTx 449) s0 s0.heap :=
  zL_of F (by decide +kernel) (zS_of F (own := RL) (k := 449) (n := (lTx 449).length) (byt := (lTx 449).map sb_b) (by decide +kernel) (List.mem_of_getElem? (i := 972) (by decide +kernel)) (List.mem_of_getElem? (i := 973) (by decide +kernel)) (List.mem_of_getElem? (i := 974) (by decide +kernel)) (List.mem_of_getElem? (i := 975) (by decide +kernel)) 976 (by decide +kernel))
theorem ls_L_449 : Cond.stringRef RL 449 ";send " ∈ lw_tbl := (List.mem_append_right _ (List.mem_of_getElem? (i := 1616) (by decide +kernel)))
theorem zL (F : FX l s0 b D T B) {k : Nat} (hk : lS k) : (Term.string RL k).eval #[.ref b] s0 none [] s0 = some (.ref (lsa s0 k)) ∧ SVA (fun q => s0.heap.size ≤ q) (lsa s0 k) (lTx k) s0 s0.heap := by
  rcases hk with rfl | rfl | rfl | rfl | rfl | rfl | rfl | rfl | rfl
  · exact zL_380 F
  · exact zL_389 F
  · exact zL_404 F
  · exact zL_406 F
  · exact zL_410 F
  · exact zL_443 F
  · exact zL_445 F
  · exact zL_447 F
  · exact zL_449 F
theorem zLV (F : FX l s0 b D T B) (hk : KC s0 X s) {k : Nat} (h : lS k) : SVA (fun q => s0.heap.size ≤ q) (lsa s0 k) (lTx k) s s.heap :=
  ((zL F h).2.moved hk.1.alike).kept (fun z hz _ => hk.2.2.1 z hz)
end LST
section GL
variable {p : Program} {l : Launch} {e : Env} {R : Room} {s : State} {m : MethodId} {args : Array Value} {below : List Frame} {meth : Method} {c : Code} {H H1 : Heap} {locs : List Loc} {cells slots : Nat} {Q : State → Prop}
variable {cc : ByteArray} {pc : Nat} {ls : Array Slot} {st rest As : List Value} {D : va_G} {own : String} {T : Nat → ClassId} {X : Nat → Prop} {b B : Nat} {s0 : State} {index ml nL n mc ms : Nat} {y : MethodName} {bb : ByteArray} {ret : Option FieldType} {rm : Room} {Z : Nat → Int32} {hs : List (Nat → Int32)} {t tx u t2 : List Nat} {a a2 q N : Nat}
theorem g_ldcL {tx : String} {k : Nat} (F : FX l s0 b D T B) (hk : KC s0 X s) (hC : gC p c cc s m args RL D vwCl (tysG T)) (hw : Cond.stringRef RL k tx ∈ lw_tbl) (hl : lS k) (hdg : decode cc pc = .ok (.ldc_w k, 3))
    (kk : W p l e R s m args below meth c H locs cells slots Q (F0 m (pc + 3) ls (.ref (lsa s0 k) :: rest))) : W p l e R s m args below meth c H locs cells slots Q (F0 m pc ls rest) := by
  have hZ : vk_R RL k tx (lsa s0 k) s := vk_R.warm hk.1 (vk_R.of (A := #[.ref b]) (F.2.1 _ hw) (zL F hl).1)
  obtain ⟨hx, hb, hown, hts, -⟩ := hC
  intro T9 hT X9
  obtain ⟨t, a1, b1⟩ := kk T9 hT X9
  exact ⟨t, X9.ldcStringW hx hown (text := tx) (a := lsa s0 k) hZ.1 hZ.2 (g := F0 m pc ls rest) rfl (by rw [hb]; exact hdg) t a1, b1⟩
/-- what isn't safe: neither the start's nor the law's own -/
def TXA (s0 : State) (Y : Nat → Prop) : Nat → Prop := fun z => ¬ (z < s0.heap.size ∨ Y z)
def TY (X : Nat → Prop) (B : Nat) (Y : Nat → Prop) (H : Heap) : Prop := ∀ z, Y z → B + 561 ≤ z ∧ ¬ X z ∧ z < H.size
/-- a gallery and a text of the law's -/
def gTS (s0 : State) (D : va_G) (T : Nat → ClassId) (B : Nat) (X : Nat → Prop) (Z : Nat → Int32) (hs : List (Nat → Int32)) (t : List Nat) (s : State) (a : Nat) (tx : List Nat) : Heap → Prop := fun H => ∃ Y : Nat → Prop, gZ s0 D T B (fun z => X z ∨ Y z) Z hs t H ∧ TY X B Y H ∧ SVA (TXA s0 Y) a tx s H
/-- ... and a text builder of the law's -/
def gTB (s0 : State) (D : va_G) (T : Nat → ClassId) (B : Nat) (X : Nat → Prop) (Z : Nat → Int32) (hs : List (Nat → Int32)) (t : List Nat) (s : State) (a : Nat) (tx : List Nat) (q : Nat) (u : List Nat) : Heap → Prop := fun H => ∃ (Y : Nat → Prop) (v : Nat) (row : Nat → Int32) (mb : Int32) (cap : Nat), gZ s0 D T B (fun z => X z ∨ Y z) Z hs t H ∧ TY X B Y H ∧ SVA (fun z => TXA s0 Y z ∨ z = q ∨ z = v) a tx s H ∧ Y q ∧ Y v ∧ q ≠ v ∧ cap ≤ 70 ∧ u.length ≤ cap ∧ sb_Fit row ∧ sb_Lat (fun j => u.getD j 0) u.length row ∧ va_P D vwCl (SBp T q v cap row mb (nI u.length)) H
theorem gZ_step {X' Yk : Nat → Prop} (h : gZ s0 D T B X Z hs t H) (hk : ∀ z, z < H.size → ¬ Yk z → H1[z]? = H[z]?) (h1 : ∀ z, Yk z → X z) (h2 : ∀ z, Yk z → B + 561 ≤ z) (h3 : ∀ z, z < H.size → X' z → X z) : gZ s0 D T B X' Z hs t H1 := by
  have hgr := (gZ_grow (H1 := H) (X' := X') h (fun _ _ => rfl) h3).1
  obtain ⟨μ, cap, ⟨hg, v, row, mb, g1, g2, g3, g4, g5, g6, hP⟩, hc, hz⟩ := h
  have hv : v < H.size := (hP 1 _ rfl).lt
  refine ⟨μ, cap, ⟨hg.kept fun k x hx => ?_, v, row, mb, g1, fun z => g2 (h3 _ hv z), g3, g4, g5, g6, hP.kept fun k x hx => ?_⟩, hc, hz⟩
  · have hlt := (hg k x hx).lt
    obtain ⟨ho, rfl⟩ := gL_some hx
    refine hk _ hlt (fun z => ?_)
    have h3 : B + 561 ≤ B + k := h2 _ z
    omega
  · have hlt := (hP k x hx).lt
    have h9 := (List.getElem?_eq_some_iff.mp hx).1
    have h9 : k < 2 := h9
    rcases (show k = 0 ∨ k = 1 by omega) with rfl | rfl
    · cases hx
      refine hk _ hlt (fun z => ?_)
      have h3 : B + 561 ≤ B + 560 := h2 _ z
      omega
    · cases hx
      exact hk _ hlt (fun z => g2 (h1 _ z))
theorem gZ_561 (h : gZ s0 D T B X Z hs t H) : B + 561 < H.size := (gZ_grow (H1 := H) (X' := X) h (fun _ _ => rfl) (fun _ _ z => z)).2
theorem gTS_of (F : FX l s0 b D T B) (hk : KC s0 X s) (hS : va_S (gA B X) s.heap H locs) {k : Nat} (h : lS k) (hW : gZ s0 D T B X Z hs t H) : gTS s0 D T B X Z hs t s (lsa s0 k) (lTx k) H := by
  refine ⟨fun _ => False, gZ_cg hW (fun z hz => hz.elim id False.elim), fun z hz => hz.elim, ?_⟩
  refine ((zLV F hk h).kept (fun z hz hn => hS.2.1 z hz (fun w => ?_))).narrow (fun z hz => ?_)
  · have h1 := F.2.2.2.2
    have h2 : B ≤ z := w.1
    have h3 : ¬ s0.heap.size ≤ z := hn
    omega
  · have h3 : ¬ (z < s0.heap.size ∨ False) := hz
    show s0.heap.size ≤ z
    exact Nat.not_lt.mp (fun w => h3 (Or.inl w))
theorem gTS_out (h : gTS s0 D T B X Z hs t s a tx H) : gZ s0 D T B X Z hs t H := by
  obtain ⟨Y, hg, -⟩ := h
  exact gZ_cg hg (fun z hz => Or.inl hz)
theorem TY_nb (hX : ∀ o, o < 561 → ¬ X (B + o)) {Y : Nat → Prop} (hY : TY X B Y H) : ∀ o, o < 561 → ¬ (fun z => X z ∨ Y z) (B + o) := fun o ho z => by
  rcases z with z | z
  · exact hX o ho z
  · have := (hY _ z).1
    omega
theorem TXA_gA (F : FX l s0 b D T B) {Y : Nat → Prop} : ∀ z, gA B (fun z => X z ∨ Y z) z → TXA s0 Y z := fun z hz w => by
  rcases w with w | w
  · have h1 := F.2.2.2.2
    have h2 : B ≤ z := hz.1
    omega
  · exact hz.2 (Or.inr w)
/-- a new text builder -/
theorem tr_new {i1 i2 : Nat} (F : FX l s0 b D T B) (hk : KC s0 X s) (hC : gC p c cc s m args own D vwCl (tysG T)) (hml : c.maxLocals = nL) (hS : va_S (gA B X) s.heap H locs) (hW : gTS s0 D T B X Z hs t s a tx H) (hcl : Cond.classLink own i1 RJ4 ∈ WG ∧ Cond.instantiable RJ4 4 ∈ WG ∧ Cond.initialized RJ4 ∈ WG) (hw : gMI own i2 yJ4_init_da8c8 cJ4_init_da8c8 1 0) (hrm : gRm R rmiJ4 1 1 16) (hsz : ls.size = nL) (hroom : (rest.map fun v => v.category).sum ≤ 7) (hd1 : decode cc pc = .ok (.new i1, 3)) (hd2 : decode cc (pc + 3) = .ok (.dup, 1)) (hd3 : decode cc (pc + 4) = .ok (.invokespecial i2, 3)) (hf : cells + 2 ≤ R.cells ∧ slots + 20 ≤ R.slots)
    (kk : ∀ (q : Nat) (H1 : Heap) (locs1 : List Loc), gTB s0 D T B X Z hs t s a tx q [] H1 → va_S (gA B X) s.heap H1 locs1 → W p l e R s m args below meth c H1 locs1 (cells + 2) (slots + 20) Q (F0 m (pc + 7) ls (.ref q :: rest))) : W p l e R s m args below meth c H locs cells slots Q (F0 m pc ls rest) := by
  obtain ⟨Y, hg, hY, hV⟩ := hW
  have h561 := gZ_561 hg
  have hXs : ∀ z, X z → z < H.size := fun z hz => Nat.lt_of_lt_of_le (hk.2.2.2 z hz) hS.1
  have hh0 : s0.heap.size ≤ H.size := Nat.le_trans hk.2.1 hS.1
  refine al_obj (C := RJ4) (T := TJ4) (N := 4) (ci := 1) (ws := []) tyJ4 hC hcl uw_J4 tyJ4_ok rfl (fs := [.null, .int 0, .int 0, .int 0]) (fun j hj => by rcases (show j = 0 ∨ j = 1 ∨ j = 2 ∨ j = 3 by omega) with rfl | rfl | rfl | rfl <;> rfl) (fun k q h => by cases h) hS (by omega) (by omega) hd1 (fun H1 hP1 hS1 hz1 hk1 => ?_)
  refine lv_dup hC.1 hC.2.1 hd2 rfl ?_
  have F1 : FX l s0 b D T H.size := ⟨F.1, F.2.1, F.2.2.1, F.2.2.2.1, hh0⟩
  have hE : gE D H.size 1 (fun _ => .inr (1, [.null, .int 0, .int 0, .int 0])) H1 := ⟨hz1, fun o ho => by
    have e : o = 0 := by omega
    subst e
    exact hP1 0 _ rfl⟩
  refine gw_callI (a := H.size) (As := []) (rest := .ref H.size :: rest) (v := none) hC hml hS1 (Wp := gE D H.size 1 (fun _ => .inr (1, [.null, .int 0, .int 0, .int 0]))) hE (KC_at hk hS1 F.2.2.2.2) KC_blind (metJ4_init (o := 0) F1 rfl) hw rfl (fun z hz => ⟨?_, fun h => ?_⟩) hrm rfl hsz rfl (by rw [List.map_cons, List.sum_cons]; show 1 + _ ≤ 8; omega) hd3 ⟨by omega, by omega⟩ (fun H2 locs2 hE2 hS2 hz2 hk2 => ?_)
  · have hz : H.size + 0 ≤ z := hz
    omega
  · have hz : H.size + 0 ≤ z := hz
    have := hXs z h
    omega
  have hP2 : va_P D vwCl (SBp T H.size (H.size + 1) 16 z0 0 (nI ([] : List Nat).length)) H2 := fun k x hx => by
    have h9 := (List.getElem?_eq_some_iff.mp hx).1
    have h9 : k < 2 := h9
    rcases (show k = 0 ∨ k = 1 by omega) with rfl | rfl
    · cases hx
      exact hE2.2 0 (by omega)
    · cases hx
      exact hE2.2 1 (by omega)
  have hkp : ∀ z, z < H.size → H2[z]? = H[z]? := fun z hz => (hk2 z (by omega) (fun w => by
    have w : H.size + 0 ≤ z := w
    omega)).trans (hk1 z hz)
  have hsz2 : H2.size = H.size + 2 := hE2.1
  refine W.widen (k := cells + 2) (n := slots + 20) (by omega) (by omega) (kk H.size H2 locs2 ⟨fun z => Y z ∨ (H.size ≤ z ∧ z < H2.size), H.size + 1, z0, 0, 16, (gZ_grow hg hkp (fun z hz h => ?_)).1, fun z hz => ?_, (hV.kept (fun z hz _ => hkp z hz)).narrow (fun z hz => ?_), Or.inr ⟨Nat.le_refl _, by omega⟩, Or.inr ⟨by omega, by omega⟩, by omega, by omega, Nat.zero_le _, sb_fit0, fun j hj => absurd hj (Nat.not_lt_zero _), hP2⟩ hS2)
  · rcases h with h | h | h
    · exact Or.inl h
    · exact Or.inr h
    · omega
  · rcases hz with hz | hz
    · obtain ⟨g1, g2, g3⟩ := hY z hz
      exact ⟨g1, g2, by omega⟩
    · exact ⟨by omega, fun h => by have := hXs z h; omega, hz.2⟩
  · rcases hz with hz | hz | hz
    · exact fun w => hz (w.imp_right Or.inl)
    · intro w
      rcases w with w | w
      · omega
      · have := (hY z w).2.2
        omega
    · intro w
      rcases w with w | w
      · omega
      · have := (hY z w).2.2
        omega
/-- behind a step of the text builder -/
theorem tr_aft {Y : Nat → Prop} {v cap' : Nat} {u' : List Nat} {tt : Nat → Nat} (hY : TY X B Y H) (hXs : ∀ z, X z → z < H.size) (hh0 : s0.heap.size ≤ H.size) (hg : gZ s0 D T B (fun z => X z ∨ Y z) Z hs t H) (hV : SVA (fun z => TXA s0 Y z ∨ z = q ∨ z = v) a tx s H) (hq : Y q) (hv : Y v) (hne : q ≠ v) (hc : cap' ≤ 70) (hl : u'.length ≤ cap') (hW : WqA D T q v H.size cap' tt u'.length H1) (ht : ∀ j, j < u'.length → tt j = u'.getD j 0) (hz : H.size ≤ H1.size) (hk : ∀ z, z < H.size → ¬ AS q v H.size z → H1[z]? = H[z]?) : gTB s0 D T B X Z hs t s a tx q u' H1 := by
  obtain ⟨v', row', mb', h1, h2, h3, hP⟩ := hW
  have h561 := gZ_561 hg
  have hq9 := hY q hq
  have hv9 := hY v hv
  have hP0 := (hP 1 _ rfl).lt
  have hP0 : v' < H1.size := hP0
  have hkp : ∀ z, z < H.size → ¬ (fun z => z = q ∨ z = v) z → H1[z]? = H[z]? := fun z hz hn => hk z hz (fun w => w.elim (fun e => hn (Or.inl e)) (fun w => w.elim (fun e => hn (Or.inr e)) (fun e => by have e : H.size ≤ z := e; omega)))
  have hqv : q ≠ v' := fun e => h1.elim (fun h => hne (e.trans h)) (fun h => by omega)
  refine ⟨fun z => Y z ∨ (H.size ≤ z ∧ z < H1.size), v', row', mb', cap', gZ_step hg hkp (fun z hz => ?_) (fun z hz => ?_) (fun z hz h => ?_), fun z hz9 => ?_, (hV.kept (fun z hz hn => hkp z hz (fun w => hn (Or.inr w)))).narrow (fun z hz9 => ?_), Or.inl hq, ?_, hqv, hc, hl, h2, fun j hj => by have h9 := h3 j hj; rw [ht j hj] at h9; exact h9, hP⟩
  · rcases hz with rfl | rfl
    · exact Or.inr hq
    · exact Or.inr hv
  · rcases hz with rfl | rfl
    · exact hq9.1
    · exact hv9.1
  · rcases h with h | h | h
    · exact Or.inl h
    · exact Or.inr h
    · omega
  · rcases hz9 with hz9 | hz9
    · obtain ⟨g1, g2, g3⟩ := hY z hz9
      exact ⟨g1, g2, by omega⟩
    · exact ⟨by omega, fun h => by have := hXs z h; omega, hz9.2⟩
  · rcases hz9 with hz9 | hz9 | hz9
    · exact Or.inl (fun w => hz9 (w.imp_right Or.inl))
    · exact Or.inr (Or.inl hz9)
    · rcases h1 with h1 | h1
      · exact Or.inr (Or.inr (hz9.trans h1))
      · refine Or.inl (fun w => ?_)
        rcases w with w | w
        · omega
        · have := (hY z w).2.2
          omega
  · rcases h1 with h1 | h1
    · rw [h1]; exact Or.inl hv
    · exact Or.inr ⟨h1, hP0⟩

theorem AS_gA {Y : Nat → Prop} {v : Nat} (hk : KC s0 X s) (hS : va_S (gA B X) s.heap H locs) (h561 : B + 561 < H.size) (hY : TY X B Y H) (hq : Y q) (hv : Y v) : ∀ z, AS q v H.size z → gA B X z := fun z hz => by
  have h1 := hY q hq
  have h2 := hY v hv
  rcases hz with rfl | rfl | hz
  · exact ⟨by omega, h1.2.1⟩
  · exact ⟨by omega, h2.2.1⟩
  · exact ⟨by omega, fun h => by have := Nat.lt_of_lt_of_le (hk.2.2.2 z h) hS.1; omega⟩
set_option maxHeartbeats 1000000 in
/-- the builder takes a String -/
theorem tr_appG (F : FX l s0 b D T B) (hk : KC s0 X s) (hC : gC p c cc s m args own D vwCl (tysG T)) (hml : c.maxLocals = nL) (hS : va_S (gA B X) s.heap H locs) (hW : gTB s0 D T B X Z hs t s a tx q u H) (h2 : ∀ (Y : Nat → Prop) (v : Nat), TY X B Y H → SVA (fun z => TXA s0 Y z ∨ z = q ∨ z = v) a tx s H → Y q → Y v → SVA (AS q v H.size) a2 t2 s H) (hlen : (u ++ t2).length ≤ 35) (hw : gMV own index yJ4_append_15ec4 cJ4_append_15ec4 2 (some (.object RJ4)) 1) (hrm : gRm R rmh3 2 1 300)
    (hsz : ls.size = nL) (hroom : (rest.map fun v => v.category).sum ≤ 8) (hdg : decode cc pc = .ok (.invokevirtual index, 3)) (hf : cells + 1 ≤ R.cells ∧ slots + 300 ≤ R.slots)
    (kk : ∀ (H1 : Heap) (locs1 : List Loc), gTB s0 D T B X Z hs t s a tx q (u ++ t2) H1 → va_S (gA B X) s.heap H1 locs1 → W p l e R s m args below meth c H1 locs1 (cells + 1) (slots + 300) Q (F0 m (pc + 3) ls (.ref q :: rest))) : W p l e R s m args below meth c H locs cells slots Q (F0 m pc ls (.ref a2 :: .ref q :: rest)) := by
  obtain ⟨Y, v, row, mb, cap, hg, hY, hV, hq, hv, hne, hcap, hlc, hfit, hL, hP⟩ := hW
  have h561 := gZ_561 hg
  have hXs : ∀ z, X z → z < H.size := fun z hz => Nat.lt_of_lt_of_le (hk.2.2.2 z hz) hS.1
  have hh0 : s0.heap.size ≤ H.size := Nat.le_trans hk.2.1 hS.1
  have hB := F.2.2.2.2
  have hq9 := hY q hq
  have hv9 := hY v hv
  have hl9 : (u ++ t2).length = u.length + t2.length := List.length_append
  have hc70 : sb_cap (u.length + t2.length) cap ≤ 70 := sb_cap70 (by omega) hcap
  have hV2 := h2 Y v hY hV hq hv
  refine gw_callV (As := [.ref a2]) hC hml hS (Wp := fun H9 => H9.size = H.size ∧ va_P D vwCl (SBp T q v cap row mb (nI u.length)) H9) ⟨rfl, hP⟩ (fun U hU hWm => ⟨KC_at hk hS F.2.2.2.2 U hU hWm, by rw [hU]; exact hV2.moved hWm.alike⟩) KA_blind (metJ4_appendS (X := X) (a := a2) (t := t2) F hne (by omega) (by omega) hh0 hlc (by omega) (by omega) hfit hL) hw (sb_recv (q0 := 0) hC.2.2.2.2 hP rfl) (AS_gA hk hS h561 hY hq hv) hrm rfl hsz rfl hroom hdg hf (fun H1 locs1 hW1 hS1 hz1 hk1 => kk H1 locs1 (tr_aft (cap' := sb_cap (u.length + t2.length) cap) (tt := sb_cat (fun j => u.getD j 0) u.length (fun j => t2.getD j 0)) hY hXs hh0 hg hV hq hv hne hc70 (by rw [hl9]; exact sb_cap_ge _ _) (by rw [hl9]; exact hW1) (fun j hj => ?_) hz1 hk1) hS1)
  rw [cat_getD]
  rfl
theorem tr_appT (F : FX l s0 b D T B) (hk : KC s0 X s) (hC : gC p c cc s m args own D vwCl (tysG T)) (hml : c.maxLocals = nL) (hS : va_S (gA B X) s.heap H locs) (hW : gTB s0 D T B X Z hs t s a tx q u H) (hlen : (u ++ tx).length ≤ 35) (hw : gMV own index yJ4_append_15ec4 cJ4_append_15ec4 2 (some (.object RJ4)) 1) (hrm : gRm R rmh3 2 1 300)
    (hsz : ls.size = nL) (hroom : (rest.map fun v => v.category).sum ≤ 8) (hdg : decode cc pc = .ok (.invokevirtual index, 3)) (hf : cells + 1 ≤ R.cells ∧ slots + 300 ≤ R.slots)
    (kk : ∀ (H1 : Heap) (locs1 : List Loc), gTB s0 D T B X Z hs t s a tx q (u ++ tx) H1 → va_S (gA B X) s.heap H1 locs1 → W p l e R s m args below meth c H1 locs1 (cells + 1) (slots + 300) Q (F0 m (pc + 3) ls (.ref q :: rest))) : W p l e R s m args below meth c H locs cells slots Q (F0 m pc ls (.ref a :: .ref q :: rest)) :=
  tr_appG F hk hC hml hS hW (fun Y v hY hV hq hv => hV.narrow (fun z hz => by
    rcases hz with hz | hz | hz
    · exact Or.inr (Or.inl hz)
    · exact Or.inr (Or.inr hz)
    · refine Or.inl (fun w => ?_)
      have h1 : s0.heap.size ≤ H.size := Nat.le_trans hk.2.1 hS.1
      rcases w with w | w
      · omega
      · have := (hY z w).2.2
        omega)) hlen hw hrm hsz hroom hdg hf kk
theorem tr_appK {k : Nat} (F : FX l s0 b D T B) (hk : KC s0 X s) (hC : gC p c cc s m args own D vwCl (tysG T)) (hml : c.maxLocals = nL) (hS : va_S (gA B X) s.heap H locs) (hW : gTB s0 D T B X Z hs t s a tx q u H) (hl : lS k) (hlen : (u ++ lTx k).length ≤ 35) (hw : gMV own index yJ4_append_15ec4 cJ4_append_15ec4 2 (some (.object RJ4)) 1) (hrm : gRm R rmh3 2 1 300)
    (hsz : ls.size = nL) (hroom : (rest.map fun v => v.category).sum ≤ 8) (hdg : decode cc pc = .ok (.invokevirtual index, 3)) (hf : cells + 1 ≤ R.cells ∧ slots + 300 ≤ R.slots)
    (kk : ∀ (H1 : Heap) (locs1 : List Loc), gTB s0 D T B X Z hs t s a tx q (u ++ lTx k) H1 → va_S (gA B X) s.heap H1 locs1 → W p l e R s m args below meth c H1 locs1 (cells + 1) (slots + 300) Q (F0 m (pc + 3) ls (.ref q :: rest))) : W p l e R s m args below meth c H locs cells slots Q (F0 m pc ls (.ref (lsa s0 k) :: .ref q :: rest)) :=
  tr_appG F hk hC hml hS hW (fun Y v hY _ hq hv => ((zLV F hk hl).kept (fun z hz hn => hS.2.1 z hz (fun w => by
    have h1 := F.2.2.2.2
    have h2 : B ≤ z := w.1
    have h3 : ¬ s0.heap.size ≤ z := hn
    omega))).narrow (fun z hz => by
    have h1 := F.2.2.2.2
    have h2 : s0.heap.size ≤ H.size := Nat.le_trans hk.2.1 hS.1
    have h3 := (hY q hq).1
    have h4 := (hY v hv).1
    show s0.heap.size ≤ z
    rcases hz with rfl | rfl | hz
    · omega
    · omega
    · omega)) hlen hw hrm hsz hroom hdg hf kk
set_option maxHeartbeats 1000000 in
/-- the builder takes a number -/
theorem tr_num {x : Int32} {ds : List Nat} (F : FX l s0 b D T B) (hk : KC s0 X s) (hC : gC p c cc s m args own D vwCl (tysG T)) (hml : c.maxLocals = nL) (hS : va_S (gA B X) s.heap H locs) (hW : gTB s0 D T B X Z hs t s a tx q u H) (hx9 : NumP N x ds) (hlen : (u ++ ds).length ≤ 35) (hw : gMV own index yJ4_append_bf812 cJ4_append_bf812 2 (some (.object RJ4)) 1) (hrm : gRm R rmg4 2 1 300)
    (hsz : ls.size = nL) (hroom : (rest.map fun v => v.category).sum ≤ 8) (hdg : decode cc pc = .ok (.invokevirtual index, 3)) (hf : cells + 1 ≤ R.cells ∧ slots + 300 ≤ R.slots)
    (kk : ∀ (H1 : Heap) (locs1 : List Loc), gTB s0 D T B X Z hs t s a tx q (u ++ ds) H1 → va_S (gA B X) s.heap H1 locs1 → W p l e R s m args below meth c H1 locs1 (cells + 1) (slots + 300) Q (F0 m (pc + 3) ls (.ref q :: rest))) : W p l e R s m args below meth c H locs cells slots Q (F0 m pc ls (.int x :: .ref q :: rest)) := by
  obtain ⟨Y, v, row, mb, cap, hg, hY, hV, hq, hv, hne, hcap, hlc, hfit, hL, hP⟩ := hW
  have h561 := gZ_561 hg
  have hXs : ∀ z, X z → z < H.size := fun z hz => Nat.lt_of_lt_of_le (hk.2.2.2 z hz) hS.1
  have hh0 : s0.heap.size ≤ H.size := Nat.le_trans hk.2.1 hS.1
  have hB := F.2.2.2.2
  have hq9 := hY q hq
  have hv9 := hY v hv
  have hl9 : (u ++ ds).length = u.length + ds.length := List.length_append
  have hc70 : sb_cap (u.length + ds.length) cap ≤ 70 := sb_cap70 (by omega) hcap
  have hge := sb_cap_ge (u.length + ds.length) cap
  have hM := metJ4_appendI (X := X) (h0 := H.size) (sb := q) (v := v) (cap := cap) (n := u.length) (w := ds.length) (N := N) (row := row) (mb := mb) (x := x) (t2 := fun j => (u ++ ds).getD j 0) F hne (by omega) (by omega) hh0 (by omega) (by omega) hfit (hx9.1 _) (fun row1 hf1 hag => by
    obtain ⟨r, h1, h2, h3, h4⟩ := hx9.2 (sb_cap (u.length + ds.length) cap) u.length row1 hf1 hge (by omega)
    refine ⟨r, h1, h2, fun j hj => ?_⟩
    show (u ++ ds).getD j 0 < 256 ∧ r.1 0 j = sb_b ((u ++ ds).getD j 0)
    rw [cat_getD]
    by_cases h : j < u.length
    · rw [if_pos h, h3 j h, hag j (by omega)]
      exact hL j h
    · rw [if_neg h]
      have := h4 (j - u.length) (by omega)
      rw [show u.length + (j - u.length) = j by omega] at this
      exact this)
  refine gw_callV (As := [.int x]) hC hml hS (Wp := fun H9 => H9.size = H.size ∧ va_P D vwCl (SBp T q v cap row mb (nI u.length)) H9) ⟨rfl, hP⟩ (KC_at hk hS F.2.2.2.2) KC_blind hM hw (sb_recv (q0 := 0) hC.2.2.2.2 hP rfl) (AS_gA hk hS h561 hY hq hv) hrm rfl hsz rfl hroom hdg hf (fun H1 locs1 hW1 hS1 hz1 hk1 => kk H1 locs1 (tr_aft (cap' := sb_cap (u.length + ds.length) cap) (tt := fun j => (u ++ ds).getD j 0) hY hXs hh0 hg hV hq hv hne hc70 (by rw [hl9]; exact hge) (by rw [hl9]; exact hW1) (fun j hj => rfl) hz1 hk1) hS1)
set_option maxHeartbeats 1000000 in
/-- the builder's text as a String -/
theorem tr_str (F : FX l s0 b D T B) (hk : KC s0 X s) (hC : gC p c cc s m args own D vwCl (tysG T)) (hml : c.maxLocals = nL) (hS : va_S (gA B X) s.heap H locs) (hW : gTB s0 D T B X Z hs t s a tx q u H) (hw : gMV own index yJ4_toString_0e30d cJ4_toString_0e30d 1 (some (.object RJ0)) 0) (hrm : gRm R rmk3 1 2 304)
    (hsz : ls.size = nL) (hroom : (rest.map fun v => v.category).sum ≤ 8) (hdg : decode cc pc = .ok (.invokevirtual index, 3)) (hf : cells + 2 ≤ R.cells ∧ slots + 304 ≤ R.slots)
    (kk : ∀ (a' : Nat) (H1 : Heap) (locs1 : List Loc), gTS s0 D T B X Z hs t s a' u H1 → va_S (gA B X) s.heap H1 locs1 → W p l e R s m args below meth c H1 locs1 (cells + 2) (slots + 304) Q (F0 m (pc + 3) ls (.ref a' :: rest))) : W p l e R s m args below meth c H locs cells slots Q (F0 m pc ls (.ref q :: rest)) := by
  obtain ⟨Y, v, row, mb, cap, hg, hY, hV, hq, hv, hne, hcap, hlc, hfit, hL, hP⟩ := hW
  have h561 := gZ_561 hg
  have hXs : ∀ z, X z → z < H.size := fun z hz => Nat.lt_of_lt_of_le (hk.2.2.2 z hz) hS.1
  have hts := hC.2.2.2.1
  have hK := hC.2.2.2.2
  refine gn_callV (As := []) hC hml hS (fun z hz => ⟨by have hz : H.size ≤ z := hz; omega, fun h => by have := hXs z h; have hz : H.size ≤ z := hz; omega⟩) (fun U hU hWm => ⟨KC_at hk hS F.2.2.2.2 U hU hWm, by rw [hU]; exact hP⟩) KS_blind (metJ4_toString (X := X) F hlc (by omega) hfit) hw (sb_recv (q0 := 0) hK hP rfl) hrm rfl hsz rfl hroom hdg hf (fun a' H1 locs1 ha hPn hS1 hz1 hk1 => ?_)
  obtain ⟨w, row', hw0, hr1, hP2⟩ := hPn
  have ha1 : a' < H1.size := (hP2 0 _ rfl).lt
  have hw1 : w < H1.size := (hP2 1 _ rfl).lt
  refine kk a' H1 locs1 ⟨fun z => Y z ∨ (H.size ≤ z ∧ z < H1.size), (gZ_grow hg hk1 (fun z hz h => ?_)).1, fun z hz9 => ?_, SVA_of hts hK hP2 (q0 := 0) (q1 := 1) rfl rfl (by omega) (fun j hj => ?_) (fun z => z (Or.inr (Or.inr ⟨ha, ha1⟩))) (fun z => z (Or.inr (Or.inr ⟨hw0, hw1⟩)))⟩ hS1
  · rcases h with h | h | h
    · exact Or.inl h
    · exact Or.inr h
    · omega
  · rcases hz9 with hz9 | hz9
    · obtain ⟨g1, g2, g3⟩ := hY z hz9
      exact ⟨g1, g2, by omega⟩
    · exact ⟨by omega, fun h => by have := hXs z h; omega, hz9.2⟩
  · have h9 := hL j hj
    exact ⟨h9.1, by rw [hr1 j hj]; exact h9.2⟩
set_option maxHeartbeats 1000000 in
/-- the law calls the gallery itself, with a text builder beside it -/
theorem tr_dx {q9 : Nat} {α : Type} {f : Mem → Option (Mem × (Nat ⊕ α))} {o : Nat ⊕ α → Nat ⊕ Option Value} {A : Nat ⊕ α} {v : α} {w : Value} (hX : ∀ o, o < 561 → ¬ X (B + o)) (F : FX l s0 b D T B) (hk : KC s0 X s) (hC : gC p c cc s m args own D vwCl (tysG T)) (hml : c.maxLocals = nL) (hS : va_S (gA B X) s.heap H locs) (hW : gTB s0 D T B X Z hs t s a tx q9 u H) (q : ∀ μ, PZ μ t Z hs → Ok (f μ) (fun r => PZ r.1 t Z hs ∧ r.2 = A)) (hM : ∀ (μ : Mem) (r : Mem × (Nat ⊕ α)), f μ = some r → ∀ X' : Nat → Prop, (∀ o, o < 560 → ¬ X' (B + o)) → gXMet l y bb ml ret rm (.ref (B + 0) :: As) (gWC s0 D T B μ) (KC s0 X') (o r.2) (gWC s0 D T B r.1) (gA B X') mc ms) (hA : A = .inr v) (ho : o (.inr v) = .inr (some w)) (hw : gMV own index y bb ml ret n) (hy : y.cls = RX10) (hrm : gRm R rm ml mc ms)
    (hn : As.length = n) (hsz : ls.size = nL) (hst : st = As.reverse ++ .ref (B + 0) :: rest) (hroom : (rest.map fun v => v.category).sum ≤ 8) (hdg : decode cc pc = .ok (.invokevirtual index, 3)) (hf : cells + mc ≤ R.cells ∧ slots + ms ≤ R.slots)
    (kk : ∀ (H1 : Heap) (locs1 : List Loc), gTB s0 D T B X Z hs t s a tx q9 u H1 → va_S (gA B X) s.heap H1 locs1 → W p l e R s m args below meth c H1 locs1 (cells + mc) (slots + ms) Q (F0 m (pc + 3) ls (w :: rest))) : W p l e R s m args below meth c H locs cells slots Q (F0 m pc ls st) := by
  obtain ⟨Y, vb, row, mb, cp, hg0, hY, hV, hq, hv, hne, hcp, hlc, hfit, hL, hPb⟩ := hW
  have hX1 := TY_nb hX hY
  obtain ⟨μ, cap, hg, hcap, hP⟩ := hg0
  obtain ⟨r, hf9, hP2, hr⟩ := q μ hP
  have hr2 : o r.2 = .inr (some w) := by rw [hr, hA]; exact ho
  obtain ⟨X', h1, h2, h3, h4⟩ := SBs_frame hX1 hg.2
  have hrecv : ∃ cell : Cell, H[B + 0]? = some cell ∧ cell.vm.isStatics = false ∧ s.vm.findClass y.cls = some cell.cls := by rw [hy]; exact gw_recv hC hg.1 is_Ga.1 (is_Ga.2.2.1 (gfm s0) T B (μ 0)) rfl
  obtain ⟨hx, hb, hown, hts, -⟩ := hC
  exact gw_xret (xk := 0) (As := .ref (B + 0) :: As) (vx_runV ⟨hx, hb, hml, hown, hts⟩ (hM μ r hf9 X' h1) ⟨gw_cb hts hw.1 hrm, hts _ hw.2.1, hts _ hw.2.2⟩ ⟨gPc_blind KC_blind, hrecv, fun U hU hWm => ⟨rfl, by rw [hU]; exact hg.1, KC_frame F hk hS (fun z hz => (h3 z hz).elim (fun h => h.imp id (fun h => (hY z h).2.2)) Or.inr) U hU hWm⟩⟩ rfl hn hsz hst (lv_room hroom) hdg hf) hS (fun z hz => ⟨(h2 z hz).1, fun q => (h2 z hz).2 (Or.inl q)⟩) (fun v9 h9 H1 locs1 g1 g2 gz g4 => by
    rw [hr2] at h9
    cases h9
    have hkY : ∀ z, Y z → H1[z]? = H[z]? := fun z hz => g4 z (hY z hz).2.2 (fun w => (h2 z w).2 (Or.inr hz))
    exact kk H1 locs1 ⟨Y, vb, row, mb, cp, ⟨r.1, cap, ⟨g1, h4 H1 g4⟩, hcap, hP2⟩, fun z hz => ⟨(hY z hz).1, (hY z hz).2.1, by have := (hY z hz).2.2; omega⟩, hV.kept (fun z hz hn => g4 z hz (fun w => hn (Or.inl (TXA_gA F z (h2 z w))))), hq, hv, hne, hcp, hlc, hfit, hL, hPb.kept (fun k x hx9 => by
      have h9 := (List.getElem?_eq_some_iff.mp hx9).1
      have h9 : k < 2 := h9
      rcases (show k = 0 ∨ k = 1 by omega) with rfl | rfl
      · cases hx9
        exact hkY _ hq
      · cases hx9
        exact hkY _ hv)⟩ g2) (fun k9 h9 => by rw [hr2] at h9; cases h9)
/-- the law calls a wrapper, with a text beside it -/
theorem tr_wr {hh : List (Nat × Nat × Nat × Nat)} {S : RSt} {w : Nat ⊕ Int32 → Int32} (F : FX l s0 b D T B) (hX : ∀ o, o < 561 → ¬ X (B + o)) (hk : KC s0 X s) (hC : gC p c cc s m args own D vwCl (tysG T)) (hml : c.maxLocals = nL) (hS : va_S (gA B X) s.heap H locs) (hW : gTS s0 D T B X Z hs t s a tx H) (hM : ∀ X1 : Nat → Prop, (∀ o, o < 561 → ¬ X1 (B + o)) → gMetR l y bb ml hh rm As (gZ s0 D T B X1 Z hs t) (KC s0 X1) (gRS s0 D T B X1 S w) (gA B X1) mc ms) (hw : gML own index y bb ml hh n) (hrm : gRm R rm ml mc ms)
    (hn : As.length = n) (hsz : ls.size = nL) (hst : st = As.reverse ++ rest) (hroom : (rest.map fun v => v.category).sum ≤ 8) (hdg : decode cc pc = .ok (.invokestatic index, 3)) (hf : cells + mc ≤ R.cells ∧ slots + ms ≤ R.slots)
    (kk : ∀ (Z2 : Nat → Int32) (hs2 : List (Nat → Int32)) (t9 : List Nat) (out : Nat ⊕ Int32) (H1 : Heap) (locs1 : List Loc), S Z2 hs2 t9 out → gTS s0 D T B X Z2 hs2 t9 s a tx H1 → va_S (gA B X) s.heap H1 locs1 → W p l e R s m args below meth c H1 locs1 (cells + mc) (slots + ms) Q (F0 m (pc + 3) ls (.int (w out) :: rest))) : W p l e R s m args below meth c H locs cells slots Q (F0 m pc ls st) := by
  obtain ⟨Y, hg, hY, hV⟩ := hW
  refine gr_callS hC hml hS hg (KC_frame F hk hS (fun z hz => hz.imp id (fun h => (hY z h).2.2))) KC_blind (hM _ (TY_nb hX hY)) hw (fun z hz => ⟨hz.1, fun q => hz.2 (Or.inl q)⟩) hrm hn hsz hst hroom hdg hf (fun v H1 locs1 hq hS1 hz hkp => ?_)
  obtain ⟨Z2, hs2, t9, out, hS2, rfl, hZ⟩ := hq
  exact kk Z2 hs2 t9 out H1 locs1 hS2 ⟨Y, hZ, fun z hz9 => ⟨(hY z hz9).1, (hY z hz9).2.1, by have := (hY z hz9).2.2; omega⟩, hV.kept (fun z hz9 hn9 => hkp z hz9 (fun w9 => hn9 (TXA_gA F z w9)))⟩ hS1
/-- the law hands a text on to a method of its own -/
theorem tr_in {v : Option Value} {Wq : (Nat → Prop) → Heap → Prop} (F : FX l s0 b D T B) (hX : ∀ o, o < 561 → ¬ X (B + o)) (hk : KC s0 X s) (hC : gC p c cc s m args own D vwCl (tysG T)) (hml : c.maxLocals = nL) (hS : va_S (gA B X) s.heap H locs) (hW : gTS s0 D T B X Z hs t s a tx H) (hM : ∀ X1 : Nat → Prop, (∀ o, o < 561 → ¬ X1 (B + o)) → gMet l y bb ml ret rm As (gZ s0 D T B X1 Z hs t) (KA s0 X1 (gA B X1) a tx) v (Wq X1) (gA B X1) mc ms) (hq : ∀ (X1 : Nat → Prop) (H1 : Heap), (∀ z, X z → X1 z) → Wq X1 H1 → Wq X H1) (hw : gMS own index y bb ml ret n) (hrm : gRm R rm ml mc ms)
    (hn : As.length = n) (hsz : ls.size = nL) (hst : st = As.reverse ++ rest) (hroom : (rest.map fun v => v.category).sum ≤ 8) (hdg : decode cc pc = .ok (.invokestatic index, 3)) (hf : cells + mc ≤ R.cells ∧ slots + ms ≤ R.slots)
    (kk : ∀ (H1 : Heap) (locs1 : List Loc), Wq X H1 → va_S (gA B X) s.heap H1 locs1 → W p l e R s m args below meth c H1 locs1 (cells + mc) (slots + ms) Q (F0 m (pc + 3) ls (v.toList ++ rest))) : W p l e R s m args below meth c H locs cells slots Q (F0 m pc ls st) := by
  obtain ⟨Y, hg, hY, hV⟩ := hW
  exact gw_callS hC hml hS hg (fun U hU hWm => ⟨KC_frame F hk hS (fun z hz => hz.imp id (fun h => (hY z h).2.2)) U hU hWm, by rw [hU]; exact (hV.moved hWm.alike).narrow (TXA_gA F)⟩) KA_blind (hM _ (TY_nb hX hY)) hw (fun z hz => ⟨hz.1, fun q => hz.2 (Or.inl q)⟩) hrm hn hsz hst hroom hdg hf (fun H1 locs1 h1 h2 _ _ => kk H1 locs1 (hq _ H1 (fun z hz => Or.inl hz) h1) h2)
/-- length and letters of a text -/
theorem tr_len (F : FX l s0 b D T B) (hk : KA s0 X (gA B X) a tx s) (hC : gC p c cc s m args own D vwCl (tysG T)) (hml : c.maxLocals = nL) (hS : va_S (gA B X) s.heap H locs) (hw : gMV own index yJ0_length_8abf5 cJ0_length_8abf5 1 (some .int) 0) (hrm : gRm R rms1 1 0 0) (hsz : ls.size = nL) (hroom : (rest.map fun v => v.category).sum ≤ 8) (hdg : decode cc pc = .ok (.invokevirtual index, 3)) (hf : cells ≤ R.cells ∧ slots ≤ R.slots)
    (kk : ∀ (locs1 : List Loc), va_S (gA B X) s.heap H locs1 → W p l e R s m args below meth c H locs1 cells slots Q (F0 m (pc + 3) ls (.int (nI tx.length) :: rest))) : W p l e R s m args below meth c H locs cells slots Q (F0 m pc ls (.ref a :: rest)) := by
  have hV := (hk.2.kept hS.2.1).sv
  have hO : ∃ v, va_O "java/lang/String" a NF s H ∧ va_OF "java/lang/String" "coder" "B" (.int 0) a NF s H ∧ va_OF "java/lang/String" "value" "[B" (.ref v) a NF s H ∧ _ := hV.2.2
  obtain ⟨v2, hO, -⟩ := hO
  exact gw_callV (As := []) hC hml hS (Wp := eqH H) rfl (KV_at hk.1 hS F.2.2.2.2 hV) KV_blind (metJ0_length (X := X) F) hw (by obtain ⟨cell, h1, h2, h3, -⟩ := hO; exact ⟨cell, h1, h2, h3⟩) (fun q (z : False) => z.elim) hrm rfl hsz rfl hroom hdg hf (fun H1 locs1 h1 h2 _ _ => by cases h1; exact kk locs1 h2)
theorem tr_chr {i : Nat} (hi : i < tx.length) (F : FX l s0 b D T B) (hk : KA s0 X (gA B X) a tx s) (hC : gC p c cc s m args own D vwCl (tysG T)) (hml : c.maxLocals = nL) (hS : va_S (gA B X) s.heap H locs) (hw : gMV own index yJ0_charAt_5068e cJ0_charAt_5068e 2 (some .char) 1) (hrm : gRm R rms3 2 0 0) (hsz : ls.size = nL) (hroom : (rest.map fun v => v.category).sum ≤ 8) (hdg : decode cc pc = .ok (.invokevirtual index, 3)) (hf : cells ≤ R.cells ∧ slots ≤ R.slots)
    (kk : ∀ (locs1 : List Loc), va_S (gA B X) s.heap H locs1 → W p l e R s m args below meth c H locs1 cells slots Q (F0 m (pc + 3) ls (.int (nI (tx.getD i 0)) :: rest))) : W p l e R s m args below meth c H locs cells slots Q (F0 m pc ls (.int (nI i) :: .ref a :: rest)) := by
  have hV := (hk.2.kept hS.2.1).sv
  have hO : ∃ v, va_O "java/lang/String" a NF s H ∧ va_OF "java/lang/String" "coder" "B" (.int 0) a NF s H ∧ va_OF "java/lang/String" "value" "[B" (.ref v) a NF s H ∧ _ := hV.2.2
  obtain ⟨v2, hO, -⟩ := hO
  exact gw_callV (As := [.int (nI i)]) hC hml hS (Wp := eqH H) rfl (KV_at hk.1 hS F.2.2.2.2 hV) KV_blind (metJ0_charAt (X := X) F hi) hw (by obtain ⟨cell, h1, h2, h3, -⟩ := hO; exact ⟨cell, h1, h2, h3⟩) (fun q (z : False) => z.elim) hrm rfl hsz rfl hroom hdg hf (fun H1 locs1 h1 h2 _ _ => by cases h1; exact kk locs1 h2)
end GL
