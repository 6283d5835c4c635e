/-! The class and its text builder. -/
theorem dX10_outputCharacter_0 : decode cX10_outputCharacter 0 = .ok (.iload_n 1, 1) := by decide +kernel
theorem dX10_outputCharacter_1 : decode cX10_outputCharacter 1 = .ok (.ifCond .lt 14, 3) := by decide +kernel
theorem dX10_outputCharacter_4 : decode cX10_outputCharacter 4 = .ok (.iload_n 1, 1) := by decide +kernel
theorem dX10_outputCharacter_5 : decode cX10_outputCharacter 5 = .ok (.aload_n 0, 1) := by decide +kernel
theorem dX10_outputCharacter_6 : decode cX10_outputCharacter 6 = .ok (.getfield 57, 3) := by decide +kernel
theorem dX10_outputCharacter_9 : decode cX10_outputCharacter 9 = .ok (.invokevirtual 325, 3) := by decide +kernel
theorem dX10_outputCharacter_12 : decode cX10_outputCharacter 12 = .ok (.if_icmp .lt 14, 3) := by decide +kernel
theorem dX10_outputCharacter_15 : decode cX10_outputCharacter 15 = .ok (.new 331, 3) := by decide +kernel
theorem dX10_outputCharacter_18 : decode cX10_outputCharacter 18 = .ok (.dup, 1) := by decide +kernel
theorem dX10_outputCharacter_19 : decode cX10_outputCharacter 19 = .ok (.ldc_w 333, 3) := by decide +kernel
theorem dX10_outputCharacter_22 : decode cX10_outputCharacter 22 = .ok (.invokespecial 335, 3) := by decide +kernel
theorem dX10_outputCharacter_25 : decode cX10_outputCharacter 25 = .ok (.athrow, 1) := by decide +kernel
theorem dX10_outputCharacter_26 : decode cX10_outputCharacter 26 = .ok (.aload_n 0, 1) := by decide +kernel
theorem dX10_outputCharacter_27 : decode cX10_outputCharacter 27 = .ok (.getfield 57, 3) := by decide +kernel
theorem dX10_outputCharacter_30 : decode cX10_outputCharacter 30 = .ok (.iload_n 1, 1) := by decide +kernel
theorem dX10_outputCharacter_31 : decode cX10_outputCharacter 31 = .ok (.invokevirtual 336, 3) := by decide +kernel
theorem dX10_outputCharacter_34 : decode cX10_outputCharacter 34 = .ok (.ireturn, 1) := by decide +kernel
/-- the text builder behind the class's objects: room cap, letters t -/
def SBs (D : va_G) (T : Nat → ClassId) (B : Nat) (X : Nat → Prop) (cap : Nat) (t : List Nat) : Heap → Prop := fun H => ∃ (v : Nat) (row : Nat → Int32) (mb : Int32), B + 560 < v ∧ ¬ X v ∧ cap ≤ 300 ∧ t.length ≤ cap ∧ sb_Fit row ∧ sb_Lat (fun j => t.getD j 0) t.length row ∧ va_P D vwCl (SBp T (B + 560) v cap row mb (nI t.length)) H
theorem SBs.grow {D : va_G} {T : Nat → ClassId} {B cap : Nat} {X : Nat → Prop} {t : List Nat} {H H1 : Heap} (h : SBs D T B X cap t H) (hq : ∀ q : Nat, q < H.size → H1[q]? = H[q]?) : SBs D T B X cap t H1 := by
  obtain ⟨v, row, mb, h1, h2, h3, h4, h5, h6, hP⟩ := h
  exact ⟨v, row, mb, h1, h2, h3, h4, h5, h6, hP.kept fun k x hx => hq x.1 (hP k x hx).lt⟩
abbrev gWS (s0 : State) (D : va_G) (T : Nat → ClassId) (B : Nat) (X : Nat → Prop) (μ : Mem) (cap : Nat) (t : List Nat) : Heap → Prop := fun H => gWC s0 D T B μ H ∧ SBs D T B X cap t H
theorem gWS_grow {s0 : State} {D : va_G} {T : Nat → ClassId} {B cap : Nat} {X : Nat → Prop} {μ : Mem} {t : List Nat} {H H1 : Heap} (h : gWS s0 D T B X μ cap t H) (hq : ∀ q : Nat, q < H.size → H1[q]? = H[q]?) : gWS s0 D T B X μ cap t H1 := ⟨gw_grow h.1 hq, h.2.grow hq⟩
section SB5
variable {l : Launch} {s0 s : State} {b B : Nat} {D : va_G} {T : Nat → ClassId} {X : Nat → Prop}
variable {p : Program} {e : Env} {R : Room} {m : MethodId} {args : Array Value} {below : List Frame} {meth : Method} {c : Code} {H : Heap} {locs : List Loc} {cells slots : Nat} {Q : State → Prop} {cc : ByteArray} {pc : Nat} {ls : Array Slot} {rest st As : List Value} {own text : String} {ik is ic k nL mc ms : Nat} {out : Nat ⊕ Option Value} {Wq : Heap → Prop} {tys : List (ClassId × FieldType)}
theorem gx_throwWg (F : FX l s0 b D T B) (hk : KC s0 X s) (hC : gC p c cc s m args own D vwCl tys) (hml : c.maxLocals = nL) (hlocks : meth.locks = false) (htb : ∀ x ∈ c.exceptionTable.toList, False) (hQ : Q = vx_MQ below (gXQ out Wq (gA B X)) (gXC out Wq (gA B X)) args s mc ms (gA B X)) (ho : out = .inl k) (hW : ∀ H1 : Heap, (∀ q : Nat, q < H.size → H1[q]? = H[q]?) → Wq H1) (hS : va_S (gA B X) s.heap H locs)
    (d0 : decode cc pc = .ok (.new ik, 3)) (d3 : decode cc (pc + 3) = .ok (.dup, 1)) (d4 : decode cc (pc + 4) = .ok (.ldc_w is, 3)) (d7 : decode cc (pc + 7) = .ok (.invokespecial ic, 3)) (d10 : decode cc (pc + 10) = .ok (.athrow, 1)) (tw : gTW own (exn k) text ik is ic) (hsz : ls.size = nL) (hr1 : 5 < R.frames) (hr2 : (rest.map fun v => v.category).sum + 82 ≤ R.locals) (hr3 : cells + 1 ≤ R.cells ∧ slots + 6 ≤ R.slots) (hc : cells + 1 ≤ mc) (hs : slots + 6 ≤ ms) : W p l e R s m args below meth c H locs cells slots Q (F0 m pc ls rest) := by
  obtain ⟨t1, t2, t3, t4, t5, t6, t7, t8, t9⟩ := tw
  obtain ⟨sa, hsa⟩ := KC_R F hk t8 t9
  have hts := hC.2.2.2.1
  rw [hQ]
  refine vx_throwSW hC.1 hC.2.1 (FX_tr F) hC.2.2.1 t7 nmX_fit (hts _ t1) (hts _ t2) hsa (vx_hat (fun w h => hts w (t3 w h)) t4 (FX_bg F hk t5)) t6 (KC_Zq F hk (List.mem_append_right _ (List.mem_of_getElem? (i := 407) (by decide +kernel))) (List.mem_append_right _ (List.mem_of_getElem? (i := 15) (by decide +kernel))) (by decide +kernel)) (KC_Zq F hk (List.mem_append_right _ (List.mem_of_getElem? (i := 409) (by decide +kernel))) (List.mem_append_right _ (List.mem_of_getElem? (i := 15) (by decide +kernel))) (by decide +kernel)) hS (hsz.trans hml.symm) d0 d3 d4 d7 d10 (fun x hx => (htb x hx).elim) hr1 hr2 hr3.1 hr3.2 hlocks (fun t _ h1 h2 => ⟨k, ho, rfl, hW _ h2, Nat.le_trans hS.1 h1, fun q g1 g2 => by rw [h2 q (Nat.lt_of_lt_of_le g1 hS.1)]; exact hS.2.1 q g1 g2⟩) hS.2.2 hc hs
abbrev rmo0 : Room := { frames := 8, cells := 1, slots := 6, locals := 220 }
set_option maxHeartbeats 4000000 in
set_option maxRecDepth 100000 in
theorem metX10_outputCharacter (F : FX l s0 b D T B) {μ : Mem} {cap : Nat} {t : List Nat} {i : Int32} : gXMet l yX10_outputCharacter cX10_outputCharacter 2 (some .char) rmo0 [.ref (B + 0), .int i] (gWS s0 D T B X μ cap t) (KC s0 X) (if i < 0 ∨ t.length ≤ i.toNatClampNeg then .inl 0 else .inr (some (.int (nI (t.getD i.toNatClampNeg 0))))) (gWS s0 D T B X μ cap t) (gA B X) 1 6 := by
  refine gXMet_of RX10 (by decide +kernel) rfl (Nat.le_of_ble_eq_true rfl) ?_
  intro p e s m below meth c ls hx hb hr hlocks hml hown hts hnm hWW hk hl hS htb
  obtain ⟨hW, v, row, mb, hv, hXv, hcap, hlen, hfit, hL, hP⟩ := id hWW
  have hC := FX_C F hk hx hb hown hts
  have hl : lv_has ls 2 [(0, .ref (B + 0)), (1, .int i)] := hl
  have hKS : ∀ {locs : List Loc}, va_S (gA B X) s.heap s.heap locs → ∀ U : State, U.heap = s.heap → s.WarmedH U.vm → KS s0 X D (SBp T (B + 560) v cap row mb (nI t.length)) U := fun hS U hU hWm => ⟨KC_at hk hS F.2.2.2.2 U hU hWm, by rw [hU]; exact hP⟩
  refine lv_iload_n hx hb dX10_outputCharacter_0 rfl (lv_at hl 1 rfl) ?_
  refine lv_if_lt (tgt := 15) hx hb dX10_outputCharacter_1 (by decide) (fun h0 => ?_) (fun h0 => ?_)
  · exact gx_throwWg (k := 0) F hk hC hml hlocks htb rfl (if_pos (Or.inl h0)) (fun H1 h => gWS_grow hWW h) hS dX10_outputCharacter_15 dX10_outputCharacter_18 dX10_outputCharacter_19 dX10_outputCharacter_22 dX10_outputCharacter_25 tw_X10_331_333_335 hl.1 (Nat.le_of_ble_eq_true rfl) (Nat.le_of_ble_eq_true rfl) ⟨(Nat.le_of_ble_eq_true rfl), (Nat.le_of_ble_eq_true rfl)⟩ (Nat.le_of_ble_eq_true rfl) (Nat.le_of_ble_eq_true rfl)
  refine lv_iload_n hx hb dX10_outputCharacter_4 rfl (lv_at hl 1 rfl) ?_
  refine lv_aload_n hx hb dX10_outputCharacter_5 rfl (lv_at hl 0 rfl) ?_
  refine gw_get (v := .ref (B + 560)) hC hW fl_X10_57 is_Ga.1 (is_Ga.2.2.1 (gfm s0) T B (μ 0)) rfl dX10_outputCharacter_6 ?_
  refine gw_callV (As := []) (rest := [.int i]) hC hml hS (Wp := eqH s.heap) rfl (hKS hS) KS_blind (metJ4_length (X := X) F) ml_X10_325 (sb_recv (q0 := 0) hC.2.2.2.2 hP rfl) (fun q (z : False) => z.elim) ⟨rfl, rfl, (Nat.le_of_ble_eq_true rfl), (Nat.le_of_ble_eq_true rfl)⟩ rfl hl.1 rfl (Nat.le_of_ble_eq_true rfl) dX10_outputCharacter_9 ⟨(Nat.le_of_ble_eq_true rfl), (Nat.le_of_ble_eq_true rfl)⟩ (fun H locs hW1 hS _ _ => ?_)
  cases hW1
  refine lv_icmp_lt (tgt := 26) hx hb dX10_outputCharacter_12 (by decide) (fun h1 => ?_) (fun h1 => ?_)
  · have hi : i.toNatClampNeg < t.length := Nat.not_le.mp fun h2 => by
      rw [← nI_tn h0] at h1
      have hb9 : i.toNatClampNeg < 2 ^ 31 := by
        have h8 : i.toInt < 2 ^ 31 := Int32.toInt_lt i
        have h7 : i.toNatClampNeg = i.toInt.toNat := rfl
        omega
      exact absurd h1 (nI_nlt h2 hb9)
    refine lv_aload_n hx hb dX10_outputCharacter_26 rfl (lv_at hl 0 rfl) ?_
    refine gw_get (v := .ref (B + 560)) hC hW fl_X10_57 is_Ga.1 (is_Ga.2.2.1 (gfm s0) T B (μ 0)) rfl dX10_outputCharacter_27 ?_
    refine lv_iload_n hx hb dX10_outputCharacter_30 rfl (lv_at hl 1 rfl) ?_
    have hM := metJ4_charAt (X := X) (H0 := s.heap) (sb := B + 560) (v := v) (mb := mb) F hi hlen (by omega) (hL _ hi).1 (hL _ hi).2
    rw [nI_tn h0] at hM
    refine gw_callV (As := [.int i]) (rest := []) hC hml hS (Wp := eqH s.heap) rfl (hKS hS) KS_blind hM ml_X10_336 (sb_recv (q0 := 0) hC.2.2.2.2 hP rfl) (fun q (z : False) => z.elim) ⟨rfl, rfl, (Nat.le_of_ble_eq_true rfl), (Nat.le_of_ble_eq_true rfl)⟩ rfl hl.1 rfl (Nat.le_of_ble_eq_true rfl) dX10_outputCharacter_31 ⟨(Nat.le_of_ble_eq_true rfl), (Nat.le_of_ble_eq_true rfl)⟩ (fun H locs hW1 hS _ _ => ?_)
    cases hW1
    rw [if_neg (show ¬ (i < 0 ∨ t.length ≤ i.toNatClampNeg) from fun h2 => h2.elim h0 (fun h2 => by omega))]
    exact gx_ret hWW (gw_zret hx hb hr (sb_nc _ (hL _ hi).1) hlocks hWW hS (Nat.le_of_ble_eq_true rfl) (Nat.le_of_ble_eq_true rfl) dX10_outputCharacter_34)
  · have hi : t.length ≤ i.toNatClampNeg := Nat.not_lt.mp fun h2 => h1 (by
      rw [← nI_tn h0]
      exact nI_lt h2 (by omega))
    exact gx_throwWg (k := 0) F hk hC hml hlocks htb rfl (if_pos (Or.inr hi)) (fun H1 h => gWS_grow hWW h) hS dX10_outputCharacter_15 dX10_outputCharacter_18 dX10_outputCharacter_19 dX10_outputCharacter_22 dX10_outputCharacter_25 tw_X10_331_333_335 hl.1 (Nat.le_of_ble_eq_true rfl) (Nat.le_of_ble_eq_true rfl) ⟨(Nat.le_of_ble_eq_true rfl), (Nat.le_of_ble_eq_true rfl)⟩ (Nat.le_of_ble_eq_true rfl) (Nat.le_of_ble_eq_true rfl)
end SB5
