/-! Printed by program: what answers a float or a double. -/
def oD : Nat ⊕ UInt64 → Nat ⊕ Option Value
  | .inl k => .inl k
  | .inr x => .inr (some (.double x))
def oF : Nat ⊕ UInt32 → Nat ⊕ Option Value
  | .inl k => .inl k
  | .inr x => .inr (some (.float x))
section FEN
variable {p : Program} {l : Launch} {e : Env} {R : Room} {s : State} {m : MethodId} {args : Array Value} {below : List Frame} {meth : Method} {c : Code} {H : Heap} {locs : List Loc} {cells slots : Nat} {Q : State → Prop}
variable {cc : ByteArray} {pc : Nat} {ls : Array Slot} {A : Nat → Prop} {ml mc ms : Nat} {y : MethodName} {b : ByteArray} {rm : Room} {vals : List Value} {Wp Wq : Heap → Prop} {Ks : State → Prop}
theorem gw_dret {x : UInt64} (hx : p.tables.exec = Jvm.exec) (hb : c.code = cc) (hr : meth.sig.returnType = some .double) (hlocks : meth.locks = false) (hW : Wq H) (hS : va_S A s.heap H locs) (hc : cells ≤ mc) (hs : slots ≤ ms) (hdg : decode cc pc = .ok (.dreturn, 1)) : W p l e R s m args below meth c H locs cells slots (MQ below (gQc (some (.double x)) Wq A) args s mc ms A) (F0 m pc ls [.double x]) :=
  W.widen hc hs (W.dret hx hb hr (fun t ht _ => ⟨rfl, by rw [ht]; exact hW, hS.F ht⟩) hS.2.2 hdg hlocks)
theorem gw_fret {x : UInt32} (hx : p.tables.exec = Jvm.exec) (hb : c.code = cc) (hr : meth.sig.returnType = some .float) (hlocks : meth.locks = false) (hW : Wq H) (hS : va_S A s.heap H locs) (hc : cells ≤ mc) (hs : slots ≤ ms) (hdg : decode cc pc = .ok (.freturn, 1)) : W p l e R s m args below meth c H locs cells slots (MQ below (gQc (some (.float x)) Wq A) args s mc ms A) (F0 m pc ls [.float x]) :=
  W.widen hc hs (W.fret hx hb hr (fun t ht _ => ⟨rfl, by rw [ht]; exact hW, hS.F ht⟩) hS.2.2 hdg hlocks)
theorem gD_of {x : UInt64} (own : String) (hy : plainName y.cls = true) (ho : y.cls = own) (hL : (lg_sl vals).length ≤ ml)
    (body : gBody l b ml own rm vals Wp Ks A (fun p e s m args below meth c Q => ∀ {H : Heap} {locs : List Loc} {cells slots pc : Nat} {ls : Array Slot}, decode b pc = .ok (.dreturn, 1) → Wq H → va_S A s.heap H locs → cells ≤ mc → slots ≤ ms → W p l e rm s m args below meth c H locs cells slots Q (F0 m pc ls [.double x]))) : gMet l y b ml (some .double) rm vals Wp Ks (some (.double x)) Wq A mc ms :=
  gMet_of own hy ho hL (fun p e s m below meth c ls hx hb hr hlocks hml hown hts _ hW hk hl hS => body p e s m _ below meth c ls _ hx hb hlocks hml hown hts hW hk hl hS (fun hd hW hS hc hs => gw_dret hx hb hr hlocks hW hS hc hs hd))
theorem gXD_of {r : Nat ⊕ UInt64} (own : String) (hy : plainName y.cls = true) (ho : y.cls = own) (hL : (lg_sl vals).length ≤ ml)
    (body : gBody l b ml own rm vals Wp Ks A (fun p e s m args below meth c Q => (∀ x, r = .inr x → ∀ {H : Heap} {locs : List Loc} {cells slots pc : Nat} {ls : Array Slot}, decode b pc = .ok (.dreturn, 1) → Wq H → va_S A s.heap H locs → cells ≤ mc → slots ≤ ms → W p l e rm s m args below meth c H locs cells slots Q (F0 m pc ls [.double x])) ∧ (∀ k, r = .inl k → gThr l rm Wq A mc ms k p e s m args below meth c Q) ∧ (∀ x ∈ c.exceptionTable.toList, False) ∧ Q = vx_MQ below (gXQ (oD r) Wq A) (gXC (oD r) Wq A) args s mc ms A)) : gXMet l y b ml (some .double) rm vals Wp Ks (oD r) Wq A mc ms :=
  gXMet_of own hy ho hL (fun p e s m below meth c ls hx hb hr hlocks hml hown hts _ hW hk hl hS htb => body p e s m _ below meth c ls _ hx hb hlocks hml hown hts hW hk hl hS ⟨fun x h {_ _ _ _ _ _} hd hW hS hc hs => by rw [h]; exact gx_ret hW (gw_dret hx hb hr hlocks hW hS hc hs hd), fun k h => gx_thr htb hlocks (by rw [h]; rfl), htb, rfl⟩)
theorem gF_of {x : UInt32} (own : String) (hy : plainName y.cls = true) (ho : y.cls = own) (hL : (lg_sl vals).length ≤ ml)
    (body : gBody l b ml own rm vals Wp Ks A (fun p e s m args below meth c Q => ∀ {H : Heap} {locs : List Loc} {cells slots pc : Nat} {ls : Array Slot}, decode b pc = .ok (.freturn, 1) → Wq H → va_S A s.heap H locs → cells ≤ mc → slots ≤ ms → W p l e rm s m args below meth c H locs cells slots Q (F0 m pc ls [.float x]))) : gMet l y b ml (some .float) rm vals Wp Ks (some (.float x)) Wq A mc ms :=
  gMet_of own hy ho hL (fun p e s m below meth c ls hx hb hr hlocks hml hown hts _ hW hk hl hS => body p e s m _ below meth c ls _ hx hb hlocks hml hown hts hW hk hl hS (fun hd hW hS hc hs => gw_fret hx hb hr hlocks hW hS hc hs hd))
theorem gXF_of {r : Nat ⊕ UInt32} (own : String) (hy : plainName y.cls = true) (ho : y.cls = own) (hL : (lg_sl vals).length ≤ ml)
    (body : gBody l b ml own rm vals Wp Ks A (fun p e s m args below meth c Q => (∀ x, r = .inr x → ∀ {H : Heap} {locs : List Loc} {cells slots pc : Nat} {ls : Array Slot}, decode b pc = .ok (.freturn, 1) → Wq H → va_S A s.heap H locs → cells ≤ mc → slots ≤ ms → W p l e rm s m args below meth c H locs cells slots Q (F0 m pc ls [.float x])) ∧ (∀ k, r = .inl k → gThr l rm Wq A mc ms k p e s m args below meth c Q) ∧ (∀ x ∈ c.exceptionTable.toList, False) ∧ Q = vx_MQ below (gXQ (oF r) Wq A) (gXC (oF r) Wq A) args s mc ms A)) : gXMet l y b ml (some .float) rm vals Wp Ks (oF r) Wq A mc ms :=
  gXMet_of own hy ho hL (fun p e s m below meth c ls hx hb hr hlocks hml hown hts _ hW hk hl hS htb => body p e s m _ below meth c ls _ hx hb hlocks hml hown hts hW hk hl hS ⟨fun x h {_ _ _ _ _ _} hd hW hS hc hs => by rw [h]; exact gx_ret hW (gw_fret hx hb hr hlocks hW hS hc hs hd), fun k h => gx_thr htb hlocks (by rw [h]; rfl), htb, rfl⟩)
end FEN
theorem dX10_meanGrains_0 : decode cX10_meanGrains 0 = .ok (.aload_n 0, 1) := by decide +kernel
theorem dX10_meanGrains_1 : decode cX10_meanGrains 1 = .ok (.getfield 12, 3) := by decide +kernel
theorem dX10_meanGrains_4 : decode cX10_meanGrains 4 = .ok (.getfield 192, 3) := by decide +kernel
theorem dX10_meanGrains_7 : decode cX10_meanGrains 7 = .ok (.istore_n 1, 1) := by decide +kernel
theorem dX10_meanGrains_8 : decode cX10_meanGrains 8 = .ok (.iload_n 1, 1) := by decide +kernel
theorem dX10_meanGrains_9 : decode cX10_meanGrains 9 = .ok (.ifCond .ne 14, 3) := by decide +kernel
theorem dX10_meanGrains_12 : decode cX10_meanGrains 12 = .ok (.new 309, 3) := by decide +kernel
theorem dX10_meanGrains_15 : decode cX10_meanGrains 15 = .ok (.dup, 1) := by decide +kernel
theorem dX10_meanGrains_16 : decode cX10_meanGrains 16 = .ok (.ldc_w 311, 3) := by decide +kernel
theorem dX10_meanGrains_19 : decode cX10_meanGrains 19 = .ok (.invokespecial 313, 3) := by decide +kernel
theorem dX10_meanGrains_22 : decode cX10_meanGrains 22 = .ok (.athrow, 1) := by decide +kernel
theorem dX10_meanGrains_23 : decode cX10_meanGrains 23 = .ok (.iconst 0, 1) := by decide +kernel
theorem dX10_meanGrains_24 : decode cX10_meanGrains 24 = .ok (.istore_n 2, 1) := by decide +kernel
theorem dX10_meanGrains_25 : decode cX10_meanGrains 25 = .ok (.iconst 0, 1) := by decide +kernel
theorem dX10_meanGrains_26 : decode cX10_meanGrains 26 = .ok (.istore_n 3, 1) := by decide +kernel
theorem dX10_meanGrains_27 : decode cX10_meanGrains 27 = .ok (.iload_n 3, 1) := by decide +kernel
theorem dX10_meanGrains_28 : decode cX10_meanGrains 28 = .ok (.iload_n 1, 1) := by decide +kernel
theorem dX10_meanGrains_29 : decode cX10_meanGrains 29 = .ok (.if_icmp .ge 27, 3) := by decide +kernel
theorem dX10_meanGrains_32 : decode cX10_meanGrains 32 = .ok (.iload_n 2, 1) := by decide +kernel
theorem dX10_meanGrains_33 : decode cX10_meanGrains 33 = .ok (.aload_n 0, 1) := by decide +kernel
theorem dX10_meanGrains_34 : decode cX10_meanGrains 34 = .ok (.getfield 12, 3) := by decide +kernel
theorem dX10_meanGrains_37 : decode cX10_meanGrains 37 = .ok (.getfield 167, 3) := by decide +kernel
theorem dX10_meanGrains_40 : decode cX10_meanGrains 40 = .ok (.iload_n 3, 1) := by decide +kernel
theorem dX10_meanGrains_41 : decode cX10_meanGrains 41 = .ok (.aaload, 1) := by decide +kernel
theorem dX10_meanGrains_42 : decode cX10_meanGrains 42 = .ok (.getfield 201, 3) := by decide +kernel
theorem dX10_meanGrains_45 : decode cX10_meanGrains 45 = .ok (.invokestatic 204, 3) := by decide +kernel
theorem dX10_meanGrains_48 : decode cX10_meanGrains 48 = .ok (.iadd, 1) := by decide +kernel
theorem dX10_meanGrains_49 : decode cX10_meanGrains 49 = .ok (.istore_n 2, 1) := by decide +kernel
theorem dX10_meanGrains_50 : decode cX10_meanGrains 50 = .ok (.iinc 3 1, 3) := by decide +kernel
theorem dX10_meanGrains_53 : decode cX10_meanGrains 53 = .ok (.goto (-26), 3) := by decide +kernel
theorem dX10_meanGrains_56 : decode cX10_meanGrains 56 = .ok (.iload_n 2, 1) := by decide +kernel
theorem dX10_meanGrains_57 : decode cX10_meanGrains 57 = .ok (.i2d, 1) := by decide +kernel
theorem dX10_meanGrains_58 : decode cX10_meanGrains 58 = .ok (.iload_n 1, 1) := by decide +kernel
theorem dX10_meanGrains_59 : decode cX10_meanGrains 59 = .ok (.i2d, 1) := by decide +kernel
theorem dX10_meanGrains_60 : decode cX10_meanGrains 60 = .ok (.ddiv, 1) := by decide +kernel
theorem dX10_meanGrains_61 : decode cX10_meanGrains 61 = .ok (.dreturn, 1) := by decide +kernel
def fX10_meanGrains (N : Nat) (μ : Mem) (a0 : Nat) : Option (Mem × (Nat ⊕ UInt64)) :=
  lt (μ 1 4) fun v1 =>
  if v1 = 0 then
  (some (μ, .inl 5))
  else (fix2 (fun self6 (x4 : Int32) (x5 : Int32) =>
  if v1 ≤ x5 then
  (gd ((FP.ddiv (FP.i2d x4) (FP.i2d v1)) &&& 0x7fffffffffffffff ≤ 0x7ff0000000000000) <|
  some (μ, .inr (FP.ddiv (FP.i2d x4) (FP.i2d v1))))
  else (ar 5 x5 fun q10 =>
  (fX6_countGrains N μ (((1 + 16) + 1 + 6 * q10) + 1)).bind fun r14 =>
  lt (x4 + r14) fun v15 =>
  lt (x5 + 1) fun v17 =>
  self6 v15 v17)) N 0 0)
abbrev rmX10_meanGrains : Room := { frames := 6, cells := 1, slots := 6, locals := 120 }
set_option maxHeartbeats 4000000 in
set_option maxRecDepth 100000 in
theorem metX10_meanGrains {l : Launch} {s0 : State} {b B : Nat} {D : va_G} {T : Nat → ClassId} (F : FX l s0 b D T B) {X : Nat → Prop} (hX : ∀ o, o < 560 → ¬ X (B + o)) {N : Nat} {μ : Mem} {a0 : Nat} {r : Mem × (Nat ⊕ UInt64)} (k0 : IsGa a0) (h : fX10_meanGrains N μ a0 = some r) : gXMet l yX10_meanGrains cX10_meanGrains 4 (some .double) rmX10_meanGrains [.ref (B + a0)] (gWC s0 D T B μ) (KC s0 X) (oD r.2) (gWC s0 D T B r.1) (gA B X) 1 6 := by
  refine gXD_of RX10 (by decide +kernel) rfl (Nat.le_of_ble_eq_true rfl) ?_
  intro p e s m args below meth c ls Q hx hb hlocks hml hown hts hW hk hl hS hE
  obtain ⟨hend, hthr, htb, hQ⟩ := hE
  have hC := FX_C F hk hx hb hown hts
  have hA := gA_all hX
  have hl : lv_has ls 4 [(0, .ref (B + a0))] := hl
  unfold fX10_meanGrains at h
  refine lv_aload_n hx hb dX10_meanGrains_0 rfl (lv_at hl 0 rfl) ?_
  refine gw_get (v := .ref (B + 1)) hC hW fl_X10_12 k0.1 (k0.2.2.1 (gfm s0) T B (μ a0)) rfl dX10_meanGrains_1 ?_
  refine gw_get (v := .int (μ 1 4)) hC hW fl_X10_192.1 k0.2.2.2.1.1 (k0.2.2.2.1.2.1 (gfm s0) T B (μ 1)) rfl dX10_meanGrains_4 ?_
  obtain ⟨v1, e2, h⟩ := lt_out h
  rw [← e2]
  refine lv_istore_n (lv' := [(1, .int v1), (0, .ref (B + a0))]) hx hb dX10_meanGrains_7 rfl hl (by decide) rfl (fun ls hl => ?_)
  refine lv_iload_n hx hb dX10_meanGrains_8 rfl (lv_at hl 0 rfl) ?_
  refine lv_if_ne (tgt := 23) hx hb dX10_meanGrains_9 (by decide) (fun c3 => ?_) (fun c3 => ?_)
  · replace h := ite_f c3 h
    refine lv_iconst (v := 0) hx hb dX10_meanGrains_23 (by decide) ?_
    refine lv_istore_n (lv' := [(2, .int 0), (1, .int v1), (0, .ref (B + a0))]) hx hb dX10_meanGrains_24 rfl hl (by decide) rfl (fun ls hl => ?_)
    refine lv_iconst (v := 0) hx hb dX10_meanGrains_25 (by decide) ?_
    refine lv_istore_n (lv' := [(3, .int 0), (2, .int 0), (1, .int v1), (0, .ref (B + a0))]) hx hb dX10_meanGrains_26 rfl hl (by decide) rfl (fun ls hl => ?_)
    refine fix2_ind (fun (x4 : Int32) (x5 : Int32) => ∀ (H : Heap) (locs : List Loc) (ls : Array Slot), gWC s0 D T B μ H → va_S (gA B X) s.heap H locs → lv_has ls 4 [(0, .ref (B + a0)), (1, .int v1), (2, .int x4), (3, .int x5)] → W p l e rmX10_meanGrains s m args below meth c H locs 0 0 Q (F0 m 27 ls [])) ?_ N _ _ h _ _ _ hW hS (lv_sub hl [3, 2, 1, 0] rfl)
    clear h hW hS hl
    intro self6 IH7 x4 x5 h H locs ls hW hS hl
    refine lv_iload_n hx hb dX10_meanGrains_27 rfl (lv_at hl 3 rfl) ?_
    refine lv_iload_n hx hb dX10_meanGrains_28 rfl (lv_at hl 1 rfl) ?_
    refine lv_icmp_ge (tgt := 56) hx hb dX10_meanGrains_29 (by decide) (fun c8 => ?_) (fun c8 => ?_)
    · replace h := ite_t c8 h
      refine lv_iload_n hx hb dX10_meanGrains_56 rfl (lv_at hl 2 rfl) ?_
      refine lv_i2d hx hb dX10_meanGrains_57 ?_
      refine lv_iload_n hx hb dX10_meanGrains_58 rfl (lv_at hl 1 rfl) ?_
      refine lv_i2d hx hb dX10_meanGrains_59 ?_
      obtain ⟨c9, h⟩ := gd_out h
      refine lv_ddiv hx hb dX10_meanGrains_60 c9 ?_
      cases h
      exact hend _ rfl dX10_meanGrains_61 hW hS (Nat.le_of_ble_eq_true rfl) (Nat.le_of_ble_eq_true rfl)
    · replace h := ite_f c8 h
      refine lv_iload_n hx hb dX10_meanGrains_32 rfl (lv_at hl 2 rfl) ?_
      refine lv_aload_n hx hb dX10_meanGrains_33 rfl (lv_at hl 0 rfl) ?_
      refine gw_get (v := .ref (B + 1)) hC hW fl_X10_12 k0.1 (k0.2.2.1 (gfm s0) T B (μ a0)) rfl dX10_meanGrains_34 ?_
      refine gw_get (v := .ref (B + (1 + 16))) hC hW fl_X10_167 k0.2.2.2.1.1 (k0.2.2.2.1.2.1 (gfm s0) T B (μ 1)) rfl dX10_meanGrains_37 ?_
      refine lv_iload_n hx hb dX10_meanGrains_40 rfl (lv_at hl 3 rfl) ?_
      obtain ⟨q10, e11, hq12, hi13, h⟩ := ar_o h
      refine gq_aald hC hW k0.2.2.2.1.2.2.2.2.2.1 (k0.2.2.2.1.2.2.2.2.2.2.1 (gfm s0) T B (μ (1 + 16))) (t0 := 5) rfl rfl e11 hi13 dX10_meanGrains_41 ?_
      refine gw_get (v := .ref (B + (((1 + 16) + 1 + 6 * q10) + 1))) hC hW fl_X10_201 (k0.2.2.2.1.2.2.2.2.2.2.2 q10 hq12).1 ((k0.2.2.2.1.2.2.2.2.2.2.2 q10 hq12).2.1 (gfm s0) T B (μ ((1 + 16) + 1 + 6 * q10))) rfl dX10_meanGrains_42 ?_
      obtain ⟨r14, hcall, h⟩ := bd_out h
      refine g0_callS (As := [.ref (B + (((1 + 16) + 1 + 6 * q10) + 1))]) hC hml hS hW (KC_at hk hS F.2.2.2.2) KC_blind (metX6_countGrains F hX (k0.2.2.2.1.2.2.2.2.2.2.2 q10 hq12).2.2.1 hcall) ml_X10_204 ⟨rfl, rfl, (Nat.le_of_ble_eq_true rfl), (Nat.le_of_ble_eq_true rfl)⟩ rfl hl.1 rfl (Nat.le_of_ble_eq_true rfl) dX10_meanGrains_45 ⟨(Nat.le_of_ble_eq_true rfl), (Nat.le_of_ble_eq_true rfl)⟩ (fun H locs hW hS => ?_)
      refine lv_iadd hx hb dX10_meanGrains_48 ?_
      obtain ⟨v15, e16, h⟩ := lt_out h
      rw [← e16]
      refine lv_istore_n (lv' := [(2, .int v15), (0, .ref (B + a0)), (1, .int v1), (3, .int x5)]) hx hb dX10_meanGrains_49 rfl hl (by decide) rfl (fun ls hl => ?_)
      obtain ⟨v17, e18, h⟩ := lt_out h
      refine lv_iinc (v := v17) (lv' := [(3, .int v17), (2, .int v15), (0, .ref (B + a0)), (1, .int v1)]) hx hb dX10_meanGrains_50 hl (k := 3) rfl (by rw [e18]; rfl) (by decide) rfl (fun ls hl => ?_)
      refine lv_goto (tgt := 27) hx hb dX10_meanGrains_53 (by decide) ?_
      exact IH7 _ _ h _ _ _ hW hS (lv_sub hl [2, 3, 1, 0] rfl)
  · replace h := ite_t c3 h
    cases h
    exact gx_throwW (k := 5) F hk hC hml hlocks htb hQ rfl hW hS dX10_meanGrains_12 dX10_meanGrains_15 dX10_meanGrains_16 dX10_meanGrains_19 dX10_meanGrains_22 tw_X10_309_311_313 hl.1 (Nat.le_of_ble_eq_true rfl) (Nat.le_of_ble_eq_true rfl) ⟨Nat.le_of_ble_eq_true rfl, Nat.le_of_ble_eq_true rfl⟩ (Nat.le_of_ble_eq_true rfl) (Nat.le_of_ble_eq_true rfl)

theorem dX10_lentFraction_0 : decode cX10_lentFraction 0 = .ok (.aload_n 0, 1) := by decide +kernel
theorem dX10_lentFraction_1 : decode cX10_lentFraction 1 = .ok (.getfield 12, 3) := by decide +kernel
theorem dX10_lentFraction_4 : decode cX10_lentFraction 4 = .ok (.getfield 192, 3) := by decide +kernel
theorem dX10_lentFraction_7 : decode cX10_lentFraction 7 = .ok (.istore_n 1, 1) := by decide +kernel
theorem dX10_lentFraction_8 : decode cX10_lentFraction 8 = .ok (.iload_n 1, 1) := by decide +kernel
theorem dX10_lentFraction_9 : decode cX10_lentFraction 9 = .ok (.ifCond .ne 14, 3) := by decide +kernel
theorem dX10_lentFraction_12 : decode cX10_lentFraction 12 = .ok (.new 309, 3) := by decide +kernel
theorem dX10_lentFraction_15 : decode cX10_lentFraction 15 = .ok (.dup, 1) := by decide +kernel
theorem dX10_lentFraction_16 : decode cX10_lentFraction 16 = .ok (.ldc_w 311, 3) := by decide +kernel
theorem dX10_lentFraction_19 : decode cX10_lentFraction 19 = .ok (.invokespecial 313, 3) := by decide +kernel
theorem dX10_lentFraction_22 : decode cX10_lentFraction 22 = .ok (.athrow, 1) := by decide +kernel
theorem dX10_lentFraction_23 : decode cX10_lentFraction 23 = .ok (.iconst 0, 1) := by decide +kernel
theorem dX10_lentFraction_24 : decode cX10_lentFraction 24 = .ok (.istore_n 2, 1) := by decide +kernel
theorem dX10_lentFraction_25 : decode cX10_lentFraction 25 = .ok (.iconst 0, 1) := by decide +kernel
theorem dX10_lentFraction_26 : decode cX10_lentFraction 26 = .ok (.istore_n 3, 1) := by decide +kernel
theorem dX10_lentFraction_27 : decode cX10_lentFraction 27 = .ok (.iload_n 3, 1) := by decide +kernel
theorem dX10_lentFraction_28 : decode cX10_lentFraction 28 = .ok (.iload_n 1, 1) := by decide +kernel
theorem dX10_lentFraction_29 : decode cX10_lentFraction 29 = .ok (.if_icmp .ge 35, 3) := by decide +kernel
theorem dX10_lentFraction_32 : decode cX10_lentFraction 32 = .ok (.aload_n 0, 1) := by decide +kernel
theorem dX10_lentFraction_33 : decode cX10_lentFraction 33 = .ok (.getfield 12, 3) := by decide +kernel
theorem dX10_lentFraction_36 : decode cX10_lentFraction 36 = .ok (.getfield 167, 3) := by decide +kernel
theorem dX10_lentFraction_39 : decode cX10_lentFraction 39 = .ok (.iload_n 3, 1) := by decide +kernel
theorem dX10_lentFraction_40 : decode cX10_lentFraction 40 = .ok (.aaload, 1) := by decide +kernel
theorem dX10_lentFraction_41 : decode cX10_lentFraction 41 = .ok (.aload_n 0, 1) := by decide +kernel
theorem dX10_lentFraction_42 : decode cX10_lentFraction 42 = .ok (.getfield 12, 3) := by decide +kernel
theorem dX10_lentFraction_45 : decode cX10_lentFraction 45 = .ok (.getfield 260, 3) := by decide +kernel
theorem dX10_lentFraction_48 : decode cX10_lentFraction 48 = .ok (.invokevirtual 293, 3) := by decide +kernel
theorem dX10_lentFraction_51 : decode cX10_lentFraction 51 = .ok (.iconst (-1), 1) := by decide +kernel
theorem dX10_lentFraction_52 : decode cX10_lentFraction 52 = .ok (.if_icmp .eq 6, 3) := by decide +kernel
theorem dX10_lentFraction_55 : decode cX10_lentFraction 55 = .ok (.iinc 2 1, 3) := by decide +kernel
theorem dX10_lentFraction_58 : decode cX10_lentFraction 58 = .ok (.iinc 3 1, 3) := by decide +kernel
theorem dX10_lentFraction_61 : decode cX10_lentFraction 61 = .ok (.goto (-34), 3) := by decide +kernel
theorem dX10_lentFraction_64 : decode cX10_lentFraction 64 = .ok (.iload_n 2, 1) := by decide +kernel
theorem dX10_lentFraction_65 : decode cX10_lentFraction 65 = .ok (.i2f, 1) := by decide +kernel
theorem dX10_lentFraction_66 : decode cX10_lentFraction 66 = .ok (.iload_n 1, 1) := by decide +kernel
theorem dX10_lentFraction_67 : decode cX10_lentFraction 67 = .ok (.i2f, 1) := by decide +kernel
theorem dX10_lentFraction_68 : decode cX10_lentFraction 68 = .ok (.fdiv, 1) := by decide +kernel
theorem dX10_lentFraction_69 : decode cX10_lentFraction 69 = .ok (.freturn, 1) := by decide +kernel
def fX10_lentFraction (N : Nat) (μ : Mem) (a0 : Nat) : Option (Mem × (Nat ⊕ UInt32)) :=
  lt (μ 1 4) fun v1 =>
  if v1 = 0 then
  (some (μ, .inl 5))
  else (fix2 (fun self6 (x4 : Int32) (x5 : Int32) =>
  if v1 ≤ x5 then
  (gd ((FP.fdiv (FP.i2f x4) (FP.i2f v1)) &&& 0x7fffffff ≤ 0x7f800000) <|
  some (μ, .inr (FP.fdiv (FP.i2f x4) (FP.i2f v1))))
  else (ar 5 x5 fun q10 =>
  (fX1_loanEndOn N μ ((1 + 16) + 1 + 6 * q10) (μ 1 6)).bind fun r14 =>
  jn (fun (y15 : Int32) =>
  lt (x5 + 1) fun v19 =>
  self6 y15 v19) fun j16 =>
  if r14 = (-1) then
  (j16 x4)
  else (lt (x4 + 1) fun v22 =>
  j16 v22))) N 0 0)
abbrev rmX10_lentFraction : Room := { frames := 6, cells := 1, slots := 6, locals := 120 }
set_option maxHeartbeats 4000000 in
set_option maxRecDepth 100000 in
theorem metX10_lentFraction {l : Launch} {s0 : State} {b B : Nat} {D : va_G} {T : Nat → ClassId} (F : FX l s0 b D T B) {X : Nat → Prop} (hX : ∀ o, o < 560 → ¬ X (B + o)) {N : Nat} {μ : Mem} {a0 : Nat} {r : Mem × (Nat ⊕ UInt32)} (k0 : IsGa a0) (h : fX10_lentFraction N μ a0 = some r) : gXMet l yX10_lentFraction cX10_lentFraction 4 (some .float) rmX10_lentFraction [.ref (B + a0)] (gWC s0 D T B μ) (KC s0 X) (oF r.2) (gWC s0 D T B r.1) (gA B X) 1 6 := by
  refine gXF_of RX10 (by decide +kernel) rfl (Nat.le_of_ble_eq_true rfl) ?_
  intro p e s m args below meth c ls Q hx hb hlocks hml hown hts hW hk hl hS hE
  obtain ⟨hend, hthr, htb, hQ⟩ := hE
  have hC := FX_C F hk hx hb hown hts
  have hA := gA_all hX
  have hl : lv_has ls 4 [(0, .ref (B + a0))] := hl
  unfold fX10_lentFraction at h
  refine lv_aload_n hx hb dX10_lentFraction_0 rfl (lv_at hl 0 rfl) ?_
  refine gw_get (v := .ref (B + 1)) hC hW fl_X10_12 k0.1 (k0.2.2.1 (gfm s0) T B (μ a0)) rfl dX10_lentFraction_1 ?_
  refine gw_get (v := .int (μ 1 4)) hC hW fl_X10_192.1 k0.2.2.2.1.1 (k0.2.2.2.1.2.1 (gfm s0) T B (μ 1)) rfl dX10_lentFraction_4 ?_
  obtain ⟨v1, e2, h⟩ := lt_out h
  rw [← e2]
  refine lv_istore_n (lv' := [(1, .int v1), (0, .ref (B + a0))]) hx hb dX10_lentFraction_7 rfl hl (by decide) rfl (fun ls hl => ?_)
  refine lv_iload_n hx hb dX10_lentFraction_8 rfl (lv_at hl 0 rfl) ?_
  refine lv_if_ne (tgt := 23) hx hb dX10_lentFraction_9 (by decide) (fun c3 => ?_) (fun c3 => ?_)
  · replace h := ite_f c3 h
    refine lv_iconst (v := 0) hx hb dX10_lentFraction_23 (by decide) ?_
    refine lv_istore_n (lv' := [(2, .int 0), (1, .int v1), (0, .ref (B + a0))]) hx hb dX10_lentFraction_24 rfl hl (by decide) rfl (fun ls hl => ?_)
    refine lv_iconst (v := 0) hx hb dX10_lentFraction_25 (by decide) ?_
    refine lv_istore_n (lv' := [(3, .int 0), (2, .int 0), (1, .int v1), (0, .ref (B + a0))]) hx hb dX10_lentFraction_26 rfl hl (by decide) rfl (fun ls hl => ?_)
    refine fix2_ind (fun (x4 : Int32) (x5 : Int32) => ∀ (H : Heap) (locs : List Loc) (ls : Array Slot), gWC s0 D T B μ H → va_S (gA B X) s.heap H locs → lv_has ls 4 [(0, .ref (B + a0)), (1, .int v1), (2, .int x4), (3, .int x5)] → W p l e rmX10_lentFraction s m args below meth c H locs 0 0 Q (F0 m 27 ls [])) ?_ N _ _ h _ _ _ hW hS (lv_sub hl [3, 2, 1, 0] rfl)
    clear h hW hS hl
    intro self6 IH7 x4 x5 h H locs ls hW hS hl
    refine lv_iload_n hx hb dX10_lentFraction_27 rfl (lv_at hl 3 rfl) ?_
    refine lv_iload_n hx hb dX10_lentFraction_28 rfl (lv_at hl 1 rfl) ?_
    refine lv_icmp_ge (tgt := 64) hx hb dX10_lentFraction_29 (by decide) (fun c8 => ?_) (fun c8 => ?_)
    · replace h := ite_t c8 h
      refine lv_iload_n hx hb dX10_lentFraction_64 rfl (lv_at hl 2 rfl) ?_
      refine lv_i2f hx hb dX10_lentFraction_65 ?_
      refine lv_iload_n hx hb dX10_lentFraction_66 rfl (lv_at hl 1 rfl) ?_
      refine lv_i2f hx hb dX10_lentFraction_67 ?_
      obtain ⟨c9, h⟩ := gd_out h
      refine lv_fdiv hx hb dX10_lentFraction_68 c9 ?_
      cases h
      exact hend _ rfl dX10_lentFraction_69 hW hS (Nat.le_of_ble_eq_true rfl) (Nat.le_of_ble_eq_true rfl)
    · replace h := ite_f c8 h
      refine lv_aload_n hx hb dX10_lentFraction_32 rfl (lv_at hl 0 rfl) ?_
      refine gw_get (v := .ref (B + 1)) hC hW fl_X10_12 k0.1 (k0.2.2.1 (gfm s0) T B (μ a0)) rfl dX10_lentFraction_33 ?_
      refine gw_get (v := .ref (B + (1 + 16))) hC hW fl_X10_167 k0.2.2.2.1.1 (k0.2.2.2.1.2.1 (gfm s0) T B (μ 1)) rfl dX10_lentFraction_36 ?_
      refine lv_iload_n hx hb dX10_lentFraction_39 rfl (lv_at hl 3 rfl) ?_
      obtain ⟨q10, e11, hq12, hi13, h⟩ := ar_o h
      refine gq_aald hC hW k0.2.2.2.1.2.2.2.2.2.1 (k0.2.2.2.1.2.2.2.2.2.2.1 (gfm s0) T B (μ (1 + 16))) (t0 := 5) rfl rfl e11 hi13 dX10_lentFraction_40 ?_
      refine lv_aload_n hx hb dX10_lentFraction_41 rfl (lv_at hl 0 rfl) ?_
      refine gw_get (v := .ref (B + 1)) hC hW fl_X10_12 k0.1 (k0.2.2.1 (gfm s0) T B (μ a0)) rfl dX10_lentFraction_42 ?_
      refine gw_get (v := .int (μ 1 6)) hC hW fl_X10_260.1 k0.2.2.2.1.1 (k0.2.2.2.1.2.1 (gfm s0) T B (μ 1)) rfl dX10_lentFraction_45 ?_
      obtain ⟨r14, hcall, h⟩ := bd_out h
      refine g0_callV (As := [.int (μ 1 6)]) hC hml hS hW (KC_at hk hS F.2.2.2.2) KC_blind (metX1_loanEndOn F hX (k0.2.2.2.1.2.2.2.2.2.2.2 q10 hq12) hcall) ml_X10_293 (gw_recv hC hW (k0.2.2.2.1.2.2.2.2.2.2.2 q10 hq12).1 ((k0.2.2.2.1.2.2.2.2.2.2.2 q10 hq12).2.1 (gfm s0) T B (μ ((1 + 16) + 1 + 6 * q10))) rfl) ⟨rfl, rfl, (Nat.le_of_ble_eq_true rfl), (Nat.le_of_ble_eq_true rfl)⟩ rfl hl.1 rfl (Nat.le_of_ble_eq_true rfl) dX10_lentFraction_48 ⟨(Nat.le_of_ble_eq_true rfl), (Nat.le_of_ble_eq_true rfl)⟩ (fun H locs hW hS => ?_)
      refine lv_iconst (v := (-1)) hx hb dX10_lentFraction_51 (by decide) ?_
      obtain ⟨j16, hj18, h⟩ := jn1_o h
      have J17 : ∀ (y15 : Int32), j16 y15 = some r → ∀ (H : Heap) (locs : List Loc) (ls : Array Slot), gWC s0 D T B μ H → va_S (gA B X) s.heap H locs → lv_has ls 4 [(0, .ref (B + a0)), (1, .int v1), (2, .int y15), (3, .int x5)] → W p l e rmX10_lentFraction s m args below meth c H locs 0 0 Q (F0 m 58 ls []) := by
        clear h hW hS hl
        intro y15 h H locs ls hW hS hl
        replace h := (hj18 y15).symm.trans h
        obtain ⟨v19, e20, h⟩ := lt_out h
        refine lv_iinc (v := v19) (lv' := [(3, .int v19), (0, .ref (B + a0)), (1, .int v1), (2, .int y15)]) hx hb dX10_lentFraction_58 hl (k := 3) rfl (by rw [e20]; rfl) (by decide) rfl (fun ls hl => ?_)
        refine lv_goto (tgt := 27) hx hb dX10_lentFraction_61 (by decide) ?_
        exact IH7 _ _ h _ _ _ hW hS (lv_sub hl [1, 2, 3, 0] rfl)
      refine lv_icmp_eq (tgt := 58) hx hb dX10_lentFraction_52 (by decide) (fun c21 => ?_) (fun c21 => ?_)
      · replace h := ite_t c21 h
        exact J17 _ h _ _ _ hW hS (lv_sub hl [0, 1, 2, 3] rfl)
      · replace h := ite_f c21 h
        obtain ⟨v22, e23, h⟩ := lt_out h
        refine lv_iinc (v := v22) (lv' := [(2, .int v22), (0, .ref (B + a0)), (1, .int v1), (3, .int x5)]) hx hb dX10_lentFraction_55 hl (k := 2) rfl (by rw [e23]; rfl) (by decide) rfl (fun ls hl => ?_)
        exact J17 _ h _ _ _ hW hS (lv_sub hl [1, 2, 0, 3] rfl)
  · replace h := ite_t c3 h
    cases h
    exact gx_throwW (k := 5) F hk hC hml hlocks htb hQ rfl hW hS dX10_lentFraction_12 dX10_lentFraction_15 dX10_lentFraction_16 dX10_lentFraction_19 dX10_lentFraction_22 tw_X10_309_311_313 hl.1 (Nat.le_of_ble_eq_true rfl) (Nat.le_of_ble_eq_true rfl) ⟨Nat.le_of_ble_eq_true rfl, Nat.le_of_ble_eq_true rfl⟩ (Nat.le_of_ble_eq_true rfl) (Nat.le_of_ble_eq_true rfl)
