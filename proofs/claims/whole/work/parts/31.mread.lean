/-! The reference reads commands. -/
theorem ls_X11_288 : Cond.stringRef RX11 288 "room 1" ∈ lw_tbl ∧ Cond.exactly (.string RX11 288) "java/lang/String" ∈ nwC := ⟨(List.mem_append_right _ (List.mem_of_getElem? (i := 2154) (by decide +kernel))), List.mem_of_getElem? (i := 1097) (by decide +kernel)⟩
theorem ls_X11_294 : Cond.stringRef RX11 294 "leg 1-1 2*1" ∈ lw_tbl ∧ Cond.exactly (.string RX11 294) "java/lang/String" ∈ nwC := ⟨(List.mem_append_right _ (List.mem_of_getElem? (i := 2197) (by decide +kernel))), List.mem_of_getElem? (i := 1116) (by decide +kernel)⟩
theorem ls_X11_296 : Cond.stringRef RX11 296 "pile 1*1" ∈ lw_tbl ∧ Cond.exactly (.string RX11 296) "java/lang/String" ∈ nwC := ⟨(List.mem_append_right _ (List.mem_of_getElem? (i := 2198) (by decide +kernel))), List.mem_of_getElem? (i := 1131) (by decide +kernel)⟩
theorem ls_X11_298 : Cond.stringRef RX11 298 "send 1>1" ∈ lw_tbl ∧ Cond.exactly (.string RX11 298) "java/lang/String" ∈ nwC := ⟨(List.mem_append_right _ (List.mem_of_getElem? (i := 2199) (by decide +kernel))), List.mem_of_getElem? (i := 1143) (by decide +kernel)⟩
theorem ls_X11_300 : Cond.stringRef RX11 300 "ask 1 2-2+2" ∈ lw_tbl ∧ Cond.exactly (.string RX11 300) "java/lang/String" ∈ nwC := ⟨(List.mem_append_right _ (List.mem_of_getElem? (i := 2200) (by decide +kernel))), List.mem_of_getElem? (i := 1155) (by decide +kernel)⟩
theorem ls_X11_302 : Cond.stringRef RX11 302 "take 1" ∈ lw_tbl ∧ Cond.exactly (.string RX11 302) "java/lang/String" ∈ nwC := ⟨(List.mem_append_right _ (List.mem_of_getElem? (i := 2201) (by decide +kernel))), List.mem_of_getElem? (i := 1170) (by decide +kernel)⟩
theorem ls_X11_304 : Cond.stringRef RX11 304 "day 2" ∈ lw_tbl ∧ Cond.exactly (.string RX11 304) "java/lang/String" ∈ nwC := ⟨(List.mem_append_right _ (List.mem_of_getElem? (i := 2202) (by decide +kernel))), List.mem_of_getElem? (i := 1180) (by decide +kernel)⟩
theorem ls_X11_306 : Cond.stringRef RX11 306 "drop 1 1,1+2" ∈ lw_tbl ∧ Cond.exactly (.string RX11 306) "java/lang/String" ∈ nwC := ⟨(List.mem_append_right _ (List.mem_of_getElem? (i := 2203) (by decide +kernel))), List.mem_of_getElem? (i := 1189) (by decide +kernel)⟩
theorem sok_1 : sOK 1 := ⟨by decide, by decide⟩
theorem sok_2 : sOK 2 := ⟨by decide, by decide⟩
theorem sok_3 : sOK 3 := ⟨by decide, by decide⟩
theorem sok_4 : sOK 4 := ⟨by decide, by decide⟩
theorem sok_5 : sOK 5 := ⟨by decide, by decide⟩
theorem sok_6 : sOK 6 := ⟨by decide, by decide⟩
theorem sok_7 : sOK 7 := ⟨by decide, by decide⟩
theorem sok_8 : sOK 8 := ⟨by decide, by decide⟩
theorem sok_9 : sOK 9 := ⟨by decide, by decide⟩
theorem sok_10 : sOK 10 := ⟨by decide, by decide⟩
theorem sok_11 : sOK 11 := ⟨by decide, by decide⟩
theorem sok_12 : sOK 12 := ⟨by decide, by decide⟩
theorem sok_13 : sOK 13 := ⟨by decide, by decide⟩
theorem sok_14 : sOK 14 := ⟨by decide, by decide⟩
theorem sok_15 : sOK 15 := ⟨by decide, by decide⟩
theorem sok_16 : sOK 16 := ⟨by decide, by decide⟩
theorem sTx2 {c : Nat} (h : sOK c) : 2 ≤ (sTx c).length := by
  obtain ⟨h1, h2⟩ := h
  rcases (show c = 1 ∨ c = 2 ∨ c = 3 ∨ c = 4 ∨ c = 5 ∨ c = 6 ∨ c = 7 ∨ c = 8 ∨ c = 9 ∨ c = 10 ∨ c = 11 ∨ c = 12 ∨ c = 13 ∨ c = 14 ∨ c = 15 ∨ c = 16 by omega) with rfl | rfl | rfl | rfl | rfl | rfl | rfl | rfl | rfl | rfl | rfl | rfl | rfl | rfl | rfl | rfl <;> decide +kernel
/-- a String of a walk -/
def SVA (A : Nat → Prop) (a : Nat) (t : List Nat) (U : State) (H : Heap) : Prop := t.length < 2 ^ 31 ∧ (∀ j, j < t.length → t.getD j 0 < 256) ∧ ∃ v, va_O "java/lang/String" a A U H ∧ va_OF "java/lang/String" "coder" "B" (.int 0) a A U H ∧ va_OF "java/lang/String" "value" "[B" (.ref v) a A U H ∧ va_T .byte v t.length (fun j => .int (sb_b (t.getD j 0))) A U H
theorem SVA.moved {A : Nat → Prop} {a : Nat} {t : List Nat} {u U : State} {H : Heap} (hvm : u.vm.Alike U.vm) (h : SVA A a t u H) : SVA A a t U H := by
  obtain ⟨h0, h1, v, h2, h3, h4, h5⟩ := h
  exact ⟨h0, h1, v, va_O.moved hvm h2, va_OF.moved hvm h3, va_OF.moved hvm h4, va_T.moved hvm h5⟩
theorem SVA.sv {A : Nat → Prop} {a : Nat} {t : List Nat} {s : State} {H : Heap} {locs : List Loc} (h : SVA A a t s s.heap) (hS : va_S A s.heap H locs) : SV a t.length (fun j => t.getD j 0) s H := by
  obtain ⟨h0, h1, v, h2, h3, h4, h5⟩ := h
  exact ⟨h0, h1, v, (h2.kept hS.2.1).narrow (fun q (z : False) => z.elim), (h3.kept hS.2.1).narrow (fun q (z : False) => z.elim), (h4.kept hS.2.1).narrow (fun q (z : False) => z.elim), (h5.kept hS.2.1).narrow (fun q (z : False) => z.elim)⟩
theorem SVA_of {args : Array Value} {s : State} {D : va_G} {ws : va_W} {H : Heap} {A : Nat → Prop} {a v q0 q1 : Nat} {T : Nat → ClassId} {t : List Nat} {row : Nat → Int32} {x y : Int32} (hts : ∀ w ∈ WG, w.before args s = true) (hK : va_K D vwCl (tysG T) s) (hP : va_P D vwCl ws H) (he : ws[q0]? = some (a, .inr (0, [.ref v, .int 0, .int x, .int y]))) (hv : ws[q1]? = some (v, .inl (T 7, t.length, .inl row))) (hn : t.length < 2 ^ 31) (ht : ∀ j, j < t.length → t.getD j 0 < 256 ∧ row j = sb_b (t.getD j 0)) (hA1 : ¬ A a) (hA2 : ¬ A v) : SVA A a t s H := by
  obtain ⟨r, h1, cell, c1, c2, c3, c4⟩ := hP q0 _ he
  have hr : r = (RJ0, TJ0, 4) := Option.some.inj (h1.symm.trans rfl)
  subst hr
  obtain ⟨hS, hfc, kC, hkC, hkind⟩ := hK.1 0 _ (rfl : vwCl[0]? = some (RJ0, TJ0, 4))
  have fld : ∀ k, k < 4 → va_OF (TJ0 k).1 (TJ0 k).2.1 (TJ0 k).2.2.1 (vp_V [.ref v, .int 0, .int x, .int y] k) a A s H := fun k hk => by
    obtain ⟨cf, kf, fi, f, hi, hsl⟩ := hS k hk
    exact ⟨cf, kf, fi, f, cell, hi, (u_facts hfc hkC (u_lays hts uw_J0 hk) hi).1, c1, (by rw [c3]; exact fun h => by cases h), (by rw [hsl, c4 k hk]), hA1⟩
  refine ⟨hn, fun j hj => (ht j hj).1, v, ⟨cell, c1, (by rw [c3]; rfl), (by rw [c2]; exact hfc), hA1⟩, fld 1 (by decide), fld 0 (by decide), ?_⟩
  have hb := hP q1 _ hv
  refine ⟨arrV (T 7) t.length (fun j => .int (row j)), hb, ?_, ?_, ?_, ?_, fun j hj => ?_, hA2⟩
  · exact ((hK.2 7 _ (rfl : (tysG T)[7]? = some (T 7, .byte))).1 t.length (fun j => .int (row j)))
  · exact fun h => by cases h
  · rw [arrV_size]; exact Nat.le_refl _
  · rw [arrV_size]
  · rw [arrV_read _ _ hj, (ht j hj).2]
def KG (s0 : State) (B : Nat) (X : Nat → Prop) (a : Nat) (t : List Nat) (U : State) : Prop := KC s0 X U ∧ SVA (gA B X) a t U U.heap
theorem KG_blind {s0 : State} {B : Nat} {X : Nat → Prop} {a : Nat} {t : List Nat} : gBlind (KG s0 B X a t) := fun U g mk ar h => h
theorem satG_o {O : Type} {t : List Nat} {i : Int32} {k : Int32 → Option O} {z : O} (h : satG t i k = some z) : ∃ v, v = nI (t.getD i.toNatClampNeg 0) ∧ vp_in i t.length ∧ k v = some z := by
  unfold satG at h
  by_cases hc : i < 0 ∨ t.length ≤ i.toNatClampNeg
  · rw [if_pos hc] at h; cases h
  · rw [if_neg hc] at h; exact ⟨_, rfl, hc, h⟩
theorem sub1_o {O : Type} {c : Nat} {i : Int32} {k : List Nat → Option O} {z : O} (h : sub1 c i k = some z) : ∃ t, t = [(sTx c).getD i.toNatClampNeg 0] ∧ vp_in i (sTx c).length ∧ k t = some z := by
  unfold sub1 at h
  by_cases hc : i < 0 ∨ (sTx c).length ≤ i.toNatClampNeg
  · rw [if_pos hc] at h; cases h
  · rw [if_neg hc] at h; exact ⟨_, rfl, hc, h⟩
section GG
variable {p : Program} {l : Launch} {e : Env} {R : Room} {s : State} {m : MethodId} {args : Array Value} {below : List Frame} {meth : Method} {c : Code} {H : Heap} {locs : List Loc} {cells slots : Nat} {Q : State → Prop}
variable {cc : ByteArray} {pc : Nat} {ls : Array Slot} {rest : List Value} {D : va_G} {cl : List vw_C} {tys : List (ClassId × FieldType)} {B : Nat} {μ μ1 : Mem} {own : String} {s0 : State} {b : Nat} {T : Nat → ClassId} {X : Nat → Prop} {nL index ga : Nat} {t : List Nat}
theorem g_slenG (F : FX l s0 b D T B) (hk : KC s0 X s) (hC : gC p c cc s m args own D cl tys) (hml : c.maxLocals = nL) (hS : va_S (gA B X) s.heap H locs) (hg : SVA (gA B X) ga t s s.heap) (hw : gMV own index yJ0_length_8abf5 cJ0_length_8abf5 1 (some .int) 0) (hrm : gRm R rms1 1 0 0) (hsz : ls.size = nL) (hroom : (rest.map fun v => v.category).sum ≤ 8) (hdg : decode cc pc = .ok (.invokevirtual index, 3)) (hf : cells ≤ R.cells ∧ slots ≤ R.slots)
    (kk : ∀ (locs1 : List Loc), va_S (gA B X) s.heap H locs1 → W p l e R s m args below meth c H locs1 cells slots Q (F0 m (pc + 3) ls (.int (nI t.length) :: rest))) : W p l e R s m args below meth c H locs cells slots Q (F0 m pc ls (.ref ga :: rest)) :=
  have hV := hg.sv hS
  gw_callV (As := []) hC hml hS (Wp := eqH H) rfl (KV_at hk hS F.2.2.2.2 hV) KV_blind (metJ0_length (X := X) F) hw (by obtain ⟨-, -, v, ⟨cell, h1, h2, h3, -⟩, -⟩ := hV; exact ⟨cell, h1, h2, h3⟩) (fun q (z : False) => z.elim) hrm rfl hsz rfl hroom hdg hf (fun H1 locs1 h1 h2 _ _ => by cases h1; exact kk locs1 h2)
theorem g_scharG {i v : Int32} (F : FX l s0 b D T B) (hk : KC s0 X s) (hC : gC p c cc s m args own D cl tys) (hml : c.maxLocals = nL) (hS : va_S (gA B X) s.heap H locs) (hg : SVA (gA B X) ga t s s.heap) (hv : v = nI (t.getD i.toNatClampNeg 0)) (hin : vp_in i t.length) (hw : gMV own index yJ0_charAt_5068e cJ0_charAt_5068e 2 (some .char) 1) (hrm : gRm R rms3 2 0 0) (hsz : ls.size = nL) (hroom : (rest.map fun v => v.category).sum ≤ 8) (hdg : decode cc pc = .ok (.invokevirtual index, 3)) (hf : cells ≤ R.cells ∧ slots ≤ R.slots)
    (kk : ∀ (locs1 : List Loc), va_S (gA B X) s.heap H locs1 → W p l e R s m args below meth c H locs1 cells slots Q (F0 m (pc + 3) ls (.int v :: rest))) : W p l e R s m args below meth c H locs cells slots Q (F0 m pc ls (.int i :: .ref ga :: rest)) := by
  have hV := hg.sv hS
  subst hv
  have hM : gMet l yJ0_charAt_5068e cJ0_charAt_5068e 2 (some .char) rms3 [.ref ga, .int i] (eqH H) (KV s0 X ga t.length fun j => t.getD j 0) (some (.int (nI (t.getD i.toNatClampNeg 0)))) (eqH H) NF 0 0 := by
    have h9 := metJ0_charAt (X := X) (H0 := H) (a := ga) (n := t.length) (t := fun j => t.getD j 0) F (vp_in_lt hin)
    rw [nI_tn fun q => hin (Or.inl q)] at h9
    exact h9
  exact gw_callV (As := [.int i]) hC hml hS (Wp := eqH H) rfl (KV_at hk hS F.2.2.2.2 hV) KV_blind hM hw (by obtain ⟨-, -, v, ⟨cell, h1, h2, h3, -⟩, -⟩ := hV; exact ⟨cell, h1, h2, h3⟩) (fun q (z : False) => z.elim) hrm rfl hsz rfl hroom hdg hf (fun H1 locs1 h1 h2 _ _ => by cases h1; exact kk locs1 h2)
theorem g_ldcS {tx : String} (F : FX l s0 b D T B) (hk : KC s0 X s) (hC : gC p c cc s m args own D cl tys) (hw : Cond.stringRef own index tx ∈ lw_tbl ∧ Cond.exactly (.string own index) "java/lang/String" ∈ nwC) {c0 : Nat} (he : sKey c0 = (own, index)) (hdg : decode cc pc = .ok (.ldc_w index, 3))
    (kk : W p l e R s m args below meth c H locs cells slots Q (F0 m (pc + 3) ls (.ref (gsa s0 c0) :: rest))) : W p l e R s m args below meth c H locs cells slots Q (F0 m pc ls rest) := by
  have e1 : own = (sKey c0).1 := by rw [he]
  have e2 : index = (sKey c0).2 := by rw [he]
  have ev : (Term.string own index).eval #[.ref b] s0 none [] s0 = some (.ref (gsa s0 c0)) := by
    have := gsa_ev F (c := c0) (by rw [← e1, ← e2]; exact hw.2)
    rw [← e1, ← e2] at this
    exact this
  have hZ : vk_R own index tx (gsa s0 c0) s := vk_R.warm hk.1 (vk_R.of (A := #[.ref b]) (F.2.1 _ hw.1) ev)
  obtain ⟨hx, hb, hown, hts, -⟩ := hC
  intro T hT X9
  obtain ⟨t, a1, b1⟩ := kk T hT X9
  exact ⟨t, X9.ldcStringW hx hown (text := tx) (a := gsa s0 c0) hZ.1 hZ.2 (g := F0 m pc ls rest) rfl (by rw [hb]; exact hdg) t a1, b1⟩
end GG
theorem dX11_skip_0 : decode cX11_skip 0 = .ok (.iconst 0, 1) := by decide +kernel
theorem dX11_skip_1 : decode cX11_skip 1 = .ok (.istore_n 2, 1) := by decide +kernel
theorem dX11_skip_2 : decode cX11_skip 2 = .ok (.iload_n 2, 1) := by decide +kernel
theorem dX11_skip_3 : decode cX11_skip 3 = .ok (.aload_n 1, 1) := by decide +kernel
theorem dX11_skip_4 : decode cX11_skip 4 = .ok (.invokevirtual 255, 3) := by decide +kernel
theorem dX11_skip_7 : decode cX11_skip 7 = .ok (.if_icmp .ge 59, 3) := by decide +kernel
theorem dX11_skip_10 : decode cX11_skip 10 = .ok (.aload_n 0, 1) := by decide +kernel
theorem dX11_skip_11 : decode cX11_skip 11 = .ok (.getfield 259, 3) := by decide +kernel
theorem dX11_skip_14 : decode cX11_skip 14 = .ok (.ifCond .ne 52, 3) := by decide +kernel
theorem dX11_skip_17 : decode cX11_skip 17 = .ok (.aload_n 0, 1) := by decide +kernel
theorem dX11_skip_18 : decode cX11_skip 18 = .ok (.aload_n 0, 1) := by decide +kernel
theorem dX11_skip_19 : decode cX11_skip 19 = .ok (.iconst 0, 1) := by decide +kernel
theorem dX11_skip_20 : decode cX11_skip 20 = .ok (.invokevirtual 263, 3) := by decide +kernel
theorem dX11_skip_23 : decode cX11_skip 23 = .ok (.aload_n 1, 1) := by decide +kernel
theorem dX11_skip_24 : decode cX11_skip 24 = .ok (.iload_n 2, 1) := by decide +kernel
theorem dX11_skip_25 : decode cX11_skip 25 = .ok (.invokevirtual 266, 3) := by decide +kernel
theorem dX11_skip_28 : decode cX11_skip 28 = .ok (.if_icmp .eq 7, 3) := by decide +kernel
theorem dX11_skip_31 : decode cX11_skip 31 = .ok (.iconst 1, 1) := by decide +kernel
theorem dX11_skip_32 : decode cX11_skip 32 = .ok (.goto 4, 3) := by decide +kernel
theorem dX11_skip_35 : decode cX11_skip 35 = .ok (.iconst 0, 1) := by decide +kernel
theorem dX11_skip_36 : decode cX11_skip 36 = .ok (.putfield 259, 3) := by decide +kernel
theorem dX11_skip_39 : decode cX11_skip 39 = .ok (.aload_n 0, 1) := by decide +kernel
theorem dX11_skip_40 : decode cX11_skip 40 = .ok (.dup, 1) := by decide +kernel
theorem dX11_skip_41 : decode cX11_skip 41 = .ok (.getfield 252, 3) := by decide +kernel
theorem dX11_skip_44 : decode cX11_skip 44 = .ok (.aload_n 0, 1) := by decide +kernel
theorem dX11_skip_45 : decode cX11_skip 45 = .ok (.getfield 259, 3) := by decide +kernel
theorem dX11_skip_48 : decode cX11_skip 48 = .ok (.ifCond .eq 7, 3) := by decide +kernel
theorem dX11_skip_51 : decode cX11_skip 51 = .ok (.iconst 0, 1) := by decide +kernel
theorem dX11_skip_52 : decode cX11_skip 52 = .ok (.goto 4, 3) := by decide +kernel
theorem dX11_skip_55 : decode cX11_skip 55 = .ok (.iconst 1, 1) := by decide +kernel
theorem dX11_skip_56 : decode cX11_skip 56 = .ok (.iadd, 1) := by decide +kernel
theorem dX11_skip_57 : decode cX11_skip 57 = .ok (.putfield 252, 3) := by decide +kernel
theorem dX11_skip_60 : decode cX11_skip 60 = .ok (.iinc 2 1, 3) := by decide +kernel
theorem dX11_skip_63 : decode cX11_skip 63 = .ok (.goto (-61), 3) := by decide +kernel
theorem dX11_skip_66 : decode cX11_skip 66 = .ok (.return_, 1) := by decide +kernel
abbrev rmX11_skip : Room := { frames := 6, cells := 0, slots := 0, locals := 200 }
set_option maxHeartbeats 4000000 in
set_option maxRecDepth 100000 in
theorem metX11_skip {l : Launch} {s0 : State} {b B : Nat} {D : va_G} {T : Nat → ClassId} (F : FX l s0 b D T B) {X : Nat → Prop} (hX : ∀ o, o < 12 → ¬ X (B + o)) {N : Nat} {ga : Nat} {μ : Mem} {a0 : Nat} {a1 : List Nat} {r : Mem} (k0 : IsMo a0) (h : fX11_skip N μ a0 a1 = some r) : gMet l yX11_skip cX11_skip 3 none rmX11_skip [.ref (B + a0), .ref ga] (gWM D T B μ) (KG s0 B X ga a1) none (gWM D T B r) (gA B X) 0 0 := by
  refine gV_of RX11 (by decide +kernel) rfl (Nat.le_of_ble_eq_true rfl) ?_
  intro p e s m args below meth c ls Q hx hb hlocks hml hown hts hW hk hl hS hend
  obtain ⟨hk, hg⟩ := hk
  have hC := FX_C F hk hx hb hown hts
  have hA := gA_allM hX
  have hl : lv_has ls 3 [(0, .ref (B + a0)), (1, .ref ga)] := hl
  unfold fX11_skip at h
  refine lv_iconst (v := 0) hx hb dX11_skip_0 (by decide) ?_
  refine lv_istore_n (lv' := [(2, .int 0), (0, .ref (B + a0)), (1, .ref ga)]) hx hb dX11_skip_1 rfl hl (by decide) rfl (fun ls hl => ?_)
  refine fix2_ind (fun (x1 : Int32) (μ2 : Mem) => ∀ (H : Heap) (locs : List Loc) (ls : Array Slot), gWM D T B μ2 H → va_S (gA B X) s.heap H locs → lv_has ls 3 [(0, .ref (B + a0)), (1, .ref ga), (2, .int x1)] → W p l e rmX11_skip s m args below meth c H locs 0 0 Q (F0 m 2 ls [])) ?_ N _ _ h _ _ _ hW hS (lv_sub hl [1, 2, 0] rfl)
  clear h hW hS hl
  intro self3 IH4 x1 μ2 h H locs ls hW hS hl
  refine lv_iload_n hx hb dX11_skip_2 rfl (lv_at hl 2 rfl) ?_
  refine lv_aload_n hx hb dX11_skip_3 rfl (lv_at hl 1 rfl) ?_
  refine g_slenG F hk hC hml hS hg ml_X11_255 ⟨rfl, rfl, (Nat.le_of_ble_eq_true rfl), (Nat.le_of_ble_eq_true rfl)⟩ hl.1 (Nat.le_of_ble_eq_true rfl) dX11_skip_4 ⟨(Nat.le_of_ble_eq_true rfl), (Nat.le_of_ble_eq_true rfl)⟩ (fun locs hS => ?_)
  obtain ⟨j6, hj8, h⟩ := jn1_o h
  have J7 : ∀ (u5 : Unit), j6 u5 = some r → ∀ (H : Heap) (locs : List Loc) (ls : Array Slot), gWM D T B μ2 H → va_S (gA B X) s.heap H locs → lv_has ls 3 [] → W p l e rmX11_skip s m args below meth c H locs 0 0 Q (F0 m 66 ls []) := by
    clear h hW hS hl
    intro u5 h H locs ls hW hS hl
    replace h := (hj8 u5).symm.trans h
    cases h
    exact hend dX11_skip_66 hW hS (Nat.le_of_ble_eq_true rfl) (Nat.le_of_ble_eq_true rfl)
  refine lv_icmp_ge (tgt := 66) hx hb dX11_skip_7 (by decide) (fun c9 => ?_) (fun c9 => ?_)
  · replace h := ite_t c9 h
    exact J7 _ h _ _ _ hW hS (lv_sub hl [] rfl)
  · replace h := ite_f c9 h
    refine lv_aload_n hx hb dX11_skip_10 rfl (lv_at hl 0 rfl) ?_
    refine gw_get (v := .int (μ2 a0 19)) hC hW fl_X11_259.1 k0.1 (k0.2.1 T B (μ2 a0)) rfl dX11_skip_11 ?_
    refine lv_if_ne (tgt := 66) hx hb dX11_skip_14 (by decide) (fun c10 => ?_) (fun c10 => ?_)
    · replace h := ite_f c10 h
      exact J7 _ h _ _ _ hW hS (lv_sub hl [] rfl)
    · replace h := ite_t c10 h
      refine lv_aload_n hx hb dX11_skip_17 rfl (lv_at hl 0 rfl) ?_
      refine lv_aload_n hx hb dX11_skip_18 rfl (lv_at hl 0 rfl) ?_
      refine lv_iconst (v := 0) hx hb dX11_skip_19 (by decide) ?_
      obtain ⟨r11, hcall, h⟩ := bd_out h
      refine g0_callV (As := [.int 0]) hC hml hS hW (KC_at hk hS F.2.2.2.2) KC_blind (metX11_behind F hX k0 hcall) ml_X11_263 (gw_recv hC hW k0.1 (k0.2.1 T B (μ2 a0)) rfl) ⟨rfl, rfl, (Nat.le_of_ble_eq_true rfl), (Nat.le_of_ble_eq_true rfl)⟩ rfl hl.1 rfl (Nat.le_of_ble_eq_true rfl) dX11_skip_20 ⟨(Nat.le_of_ble_eq_true rfl), (Nat.le_of_ble_eq_true rfl)⟩ (fun H locs hW hS => ?_)
      refine lv_aload_n hx hb dX11_skip_23 rfl (lv_at hl 1 rfl) ?_
      refine lv_iload_n hx hb dX11_skip_24 rfl (lv_at hl 2 rfl) ?_
      obtain ⟨v12, e13, hi14, h⟩ := satG_o h
      refine g_scharG F hk hC hml hS hg e13 hi14 ml_X11_266 ⟨rfl, rfl, (Nat.le_of_ble_eq_true rfl), (Nat.le_of_ble_eq_true rfl)⟩ hl.1 (Nat.le_of_ble_eq_true rfl) dX11_skip_25 ⟨(Nat.le_of_ble_eq_true rfl), (Nat.le_of_ble_eq_true rfl)⟩ (fun locs hS => ?_)
      obtain ⟨j16, hj18, h⟩ := jn1_o h
      have J17 : ∀ (y15 : Bool), j16 y15 = some r → ∀ (H : Heap) (locs : List Loc) (ls : Array Slot), gWM D T B μ2 H → va_S (gA B X) s.heap H locs → lv_has ls 3 [(0, .ref (B + a0)), (1, .ref ga), (2, .int x1)] → W p l e rmX11_skip s m args below meth c H locs 0 0 Q (F0 m 36 ls [.int (b2i y15), .ref (B + a0)]) := by
        clear h hW hS hl
        intro y15 h H locs ls hW hS hl
        replace h := (hj18 y15).symm.trans h
        obtain ⟨μ19, e20, h⟩ := lt_out h
        refine gq_put hC hS hW hA fl_X11_259 k0.1 (k0.2.1 T B) (Nat.le_of_ble_eq_true rfl) rfl (nar_b y15) (fit_b y15) e20 dX11_skip_36 (fun H locs hW hS => ?_)
        refine lv_aload_n hx hb dX11_skip_39 rfl (lv_at hl 0 rfl) ?_
        refine lv_dup hx hb dX11_skip_40 rfl ?_
        refine gw_get (v := .int (μ19 a0 18)) hC hW fl_X11_252.1 k0.1 (k0.2.1 T B (μ19 a0)) rfl dX11_skip_41 ?_
        refine lv_aload_n hx hb dX11_skip_44 rfl (lv_at hl 0 rfl) ?_
        refine gw_get (v := .int (μ19 a0 19)) hC hW fl_X11_259.1 k0.1 (k0.2.1 T B (μ19 a0)) rfl dX11_skip_45 ?_
        obtain ⟨j22, hj24, h⟩ := jn1_o h
        have J23 : ∀ (y21 : Bool), j22 y21 = some r → ∀ (H : Heap) (locs : List Loc) (ls : Array Slot), gWM D T B μ19 H → va_S (gA B X) s.heap H locs → lv_has ls 3 [(0, .ref (B + a0)), (1, .ref ga), (2, .int x1)] → W p l e rmX11_skip s m args below meth c H locs 0 0 Q (F0 m 56 ls [.int (b2i y21), .int (μ19 a0 18), .ref (B + a0)]) := by
          clear h hW hS hl
          intro y21 h H locs ls hW hS hl
          replace h := (hj24 y21).symm.trans h
          refine lv_iadd hx hb dX11_skip_56 ?_
          obtain ⟨μ25, e26, h⟩ := lt_out h
          refine gq_put hC hS hW hA fl_X11_252 k0.1 (k0.2.1 T B) (Nat.le_of_ble_eq_true rfl) rfl rfl rfl e26 dX11_skip_57 (fun H locs hW hS => ?_)
          obtain ⟨v27, e28, h⟩ := lt_out h
          refine lv_iinc (v := v27) (lv' := [(2, .int v27), (0, .ref (B + a0)), (1, .ref ga)]) hx hb dX11_skip_60 hl (k := 2) rfl (by rw [e28]; rfl) (by decide) rfl (fun ls hl => ?_)
          refine lv_goto (tgt := 2) hx hb dX11_skip_63 (by decide) ?_
          exact IH4 _ _ h _ _ _ hW hS (lv_sub hl [1, 2, 0] rfl)
        refine lv_if_eq (tgt := 55) hx hb dX11_skip_48 (by decide) (fun c29 => ?_) (fun c29 => ?_)
        · replace h := ite_t c29 h
          refine lv_iconst (v := 1) hx hb dX11_skip_55 (by decide) ?_
          exact J23 _ h _ _ _ hW hS (lv_sub hl [0, 1, 2] rfl)
        · replace h := ite_f c29 h
          refine lv_iconst (v := 0) hx hb dX11_skip_51 (by decide) ?_
          refine lv_goto (tgt := 56) hx hb dX11_skip_52 (by decide) ?_
          exact J23 _ h _ _ _ hW hS (lv_sub hl [0, 1, 2] rfl)
      refine lv_icmp_eq (tgt := 35) hx hb dX11_skip_28 (by decide) (fun c30 => ?_) (fun c30 => ?_)
      · replace h := ite_t c30 h
        refine lv_iconst (v := 0) hx hb dX11_skip_35 (by decide) ?_
        exact J17 _ h _ _ _ hW hS (lv_sub hl [0, 1, 2] rfl)
      · replace h := ite_f c30 h
        refine lv_iconst (v := 1) hx hb dX11_skip_31 (by decide) ?_
        refine lv_goto (tgt := 36) hx hb dX11_skip_32 (by decide) ?_
        exact J17 _ h _ _ _ hW hS (lv_sub hl [0, 1, 2] rfl)

section GS
variable {p : Program} {l : Launch} {e : Env} {R : Room} {s : State} {m : MethodId} {args : Array Value} {below : List Frame} {meth : Method} {c : Code} {H : Heap} {locs : List Loc} {cells slots : Nat} {Q : State → Prop}
variable {cc : ByteArray} {pc : Nat} {ls : Array Slot} {rest : List Value} {D : va_G} {B : Nat} {μ μ1 : Mem} {own : String} {s0 : State} {b : Nat} {T : Nat → ClassId} {X : Nat → Prop} {nL i1 i2 o k N : Nat} {t : List Nat} {i : Int32}
theorem g_subskip (F : FX l s0 b D T B) (hX : ∀ o, o < 12 → ¬ X (B + o)) (hk : KC s0 X s) (hC : gC p c cc s m args own D vwCl (tysG T)) (hml : c.maxLocals = nL) (hS : va_S (gA B X) s.heap H locs) (hW : gWM D T B μ H) (ho : IsMo o) (hc : sOK k) (ht : t = [(sTx k).getD i.toNatClampNeg 0]) (hin : vp_in i (sTx k).length) (hcall : fX11_skip N μ o t = some μ1) (hw1 : gMV own i1 yJ0_substring_37a41 cJ0_substring_37a41 5 (some (.object RJ0)) 2) (hw2 : gMV own i2 yX11_skip cX11_skip 3 none 1) (hsz : ls.size = nL)
    (hfr : 9 ≤ R.frames) (hlo : 240 ≤ R.locals) (hroom : (rest.map fun v => v.category).sum ≤ 6) (hfc : cells + 2 ≤ R.cells) (hfs : slots + 5 ≤ R.slots) (hd1 : decode cc pc = .ok (.invokevirtual i1, 3)) (hd2 : decode cc (pc + 3) = .ok (.invokevirtual i2, 3))
    (kk : ∀ (H1 : Heap) (locs1 : List Loc), gWM D T B μ1 H1 → va_S (gA B X) s.heap H1 locs1 → W p l e R s m args below meth c H1 locs1 (cells + 2) (slots + 5) Q (F0 m (pc + 6) ls rest)) : W p l e R s m args below meth c H locs cells slots Q (F0 m pc ls (.int (i + 1) :: .int i :: .ref (gsa s0 k) :: .ref (B + o) :: rest)) := by
  have hV := zSV F hk hc hS
  have hlt := vp_in_lt hin
  have ei : nI i.toNatClampNeg = i := nI_tn fun q => hin (Or.inl q)
  have hM := metJ0_substring (X := X) (H0 := H) (a := gsa s0 k) (n := (sTx k).length) (t := fun j => (sTx k).getD j 0) F hlt (sTx2 hc)
  rw [← nI_1, ei] at hM
  have hA9 : ∀ q, H.size ≤ q → gA B X q := fun q hq => ⟨by
    have h9 := (hW 0 _ (gL_get (by decide))).lt
    have h9 : B + 0 < H.size := h9
    omega, fun z => absurd (hk.2.2.2 q z) (Nat.not_lt.mpr (Nat.le_trans hS.1 hq))⟩
  refine gn_callV (As := [.int i, .int (i + 1)]) (rest := .ref (B + o) :: rest) hC hml hS hA9 (KV_at hk hS F.2.2.2.2 hV) KV_blind hM hw1 (by obtain ⟨-, -, v, ⟨cell, h1, h2, h3, -⟩, -⟩ := hV; exact ⟨cell, h1, h2, h3⟩) ⟨rfl, rfl, by show 7 + 1 ≤ _; omega, by show 8 + (5 + 11) + 200 ≤ _; omega⟩ rfl hsz rfl (by show 1 + (rest.map fun v => v.category).sum ≤ 8; omega) hd1 ⟨hfc, hfs⟩ (fun q H1 locs1 hq hPS hS1 hz1 hk1 => ?_)
  obtain ⟨v, row, hne, hr0, hPl⟩ := hPS
  have hqs : q < H1.size := (hPl 1 _ rfl).lt
  have hvs : v < H1.size := (hPl 0 _ rfl).lt
  have hW1 : gWM D T B μ H1 := hW.kept fun k x hx => hk1 x.1 (hW k x hx).lt
  have hc1 : (sTx k).getD i.toNatClampNeg 0 < 256 := (sTx_ok hc).2 _ hlt
  have hBH : B + 12 ≤ H.size := by
    have h9 := (hW 11 _ (gL_get (by decide))).lt
    have h9 : B + 11 < H.size := h9
    omega
  have hX2 : ∀ o, o < 12 → ¬ (fun z => X z ∨ (H.size ≤ z ∧ z < H1.size)) (B + o) := fun o9 ho9 z => z.elim (fun z => hX o9 ho9 z) (fun z => by omega)
  refine gw_callV (As := [.ref q]) (rest := rest) (A1 := gA B (fun z => X z ∨ (H.size ≤ z ∧ z < H1.size))) hC hml hS1 hW1 (Ks := KG s0 B (fun z => X z ∨ (H.size ≤ z ∧ z < H1.size)) q t) (fun U hU hWm => ?_) KG_blind (metX11_skip (ga := q) F hX2 ho hcall) hw2 (gw_recv hC hW1 ho.1 (ho.2.1 T B (μ o)) rfl) (fun z hz => ⟨hz.1, fun h => hz.2 (Or.inl h)⟩) ⟨rfl, rfl, by show rmX11_skip.frames + 1 ≤ _; exact Nat.le_trans (Nat.le_of_ble_eq_true rfl) hfr, by show 8 + (3 + 11) + rmX11_skip.locals ≤ _; exact Nat.le_trans (Nat.le_of_ble_eq_true rfl) hlo⟩ rfl hsz rfl (by omega) hd2 ⟨hfc, hfs⟩ (fun H2 locs2 hW2 hS2 _ _ => kk H2 locs2 hW2 hS2)
  have hKU := KC_at hk hS1 F.2.2.2.2 U hU hWm
  refine ⟨⟨hKU.1, hKU.2.1, hKU.2.2.1, fun z hz => hz.elim (hKU.2.2.2 z) (fun h => by rw [hU]; exact h.2)⟩, ?_⟩
  rw [hU]
  refine SVA.moved hWm.alike (SVA_of (q0 := 1) (q1 := 0) hC.2.2.2.1 hC.2.2.2.2 hPl rfl (by rw [ht]; rfl) (by rw [ht]; show 1 < 2 ^ 31; decide) (fun j hj => ?_) (fun z => z.2 (Or.inr ⟨hq, hqs⟩)) (fun z => z.2 (Or.inr ⟨Nat.le_trans hq (Nat.le_of_lt hne), hvs⟩)))
  rw [ht] at hj ⊢
  have hj : j < 1 := hj
  obtain rfl : j = 0 := by omega
  exact ⟨hc1, hr0⟩
end GS
