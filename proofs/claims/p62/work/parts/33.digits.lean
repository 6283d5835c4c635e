/-! Numbers as letters: the JDK's code over one array of bytes. -/
theorem fj_J6_83 : Cond.fieldLink RJ6 83 "java/lang/Integer" "DigitOnes" "[B" ∈ WG := wg_t 1368 (by decide +kernel) (by decide +kernel)
theorem fj_J6_87 : Cond.fieldLink RJ6 87 "java/lang/Integer" "DigitTens" "[B" ∈ WG := wg_t 1370 (by decide +kernel) (by decide +kernel)
def dgO (j : Nat) : Int32 := nI (48 + j % 10)
def dgT (j : Nat) : Int32 := nI (48 + j / 10)
def dg {O : Type} (f : Nat → Int32) (i : Int32) (k : Int32 → Option O) : Option O := if i < 0 ∨ 100 ≤ i.toNatClampNeg then none else k (f i.toNatClampNeg)
theorem dg_o {O : Type} {f : Nat → Int32} {i : Int32} {k : Int32 → Option O} {z : O} (h : dg f i k = some z) : ∃ v, v = f i.toNatClampNeg ∧ vp_in i 100 ∧ k v = some z := by
  unfold dg at h
  by_cases hc : i < 0 ∨ 100 ≤ i.toNatClampNeg
  · rw [if_pos hc] at h; cases h
  · rw [if_neg hc] at h; exact ⟨_, rfl, hc, h⟩
/-- a world of one array of bytes -/
abbrev shB (T : Nat → ClassId) (cap : Nat) (r : Nat → Int32) (_ : Nat) : va_E := .inl (T 7, cap, .inl r)
abbrev gWB (D : va_G) (T : Nat → ClassId) (cap B : Nat) (μ : Mem) : Heap → Prop := gW D vwCl (shB T cap) 1 B μ
def BA (n o : Nat) : Prop := o < 1 ∧ ∀ (T : Nat → ClassId) r, shB T n r o = .inl (T 7, n, .inl r)
theorem is_BA {n : Nat} : BA n 0 := ⟨Nat.zero_lt_one, fun T r => rfl⟩
theorem gA_allB {B : Nat} {X : Nat → Prop} (hX : ∀ o, o < 1 → ¬ X (B + o)) : ∀ o, o < 1 → gA B X (B + o) := fun o ho => ⟨Nat.le_add_right _ _, hX o ho⟩
section DG
variable {l : Launch} {s0 s : State} {b B : Nat} {D : va_G} {T : Nat → ClassId} {X : Nat → Prop}
theorem zDO (F : FX l s0 b D T B) (hk : KC s0 X s) : ∃ t, va_Z RJ6 "DigitOnes" "[B" (.ref t) (gA B X) s s.heap ∧ va_T .byte t 100 (fun j => .int (dgO j)) (gA B X) s s.heap := by
  have tab : ∀ j, j < 100 → nwC[41 + j]? = some (Cond.eq (.elem (.static RJ6 "DigitOnes" "[B") (.int (Int32.ofNat j))) (.int (dgO j))) := by decide +kernel
  obtain ⟨t, ht, hT⟩ := va_Tof (args := #[.ref b]) (s := s0) (tm := .static RJ6 "DigitOnes" "[B") (ty := .byte) (N := 100) (f := fun j => .int (dgO j)) (A := fun q => s0.heap.size ≤ q) (by decide) (FX_narrow F (List.mem_of_getElem? (i := 39) (by decide +kernel))) (va_eqt (FX_narrow F (List.mem_of_getElem? (i := 40) (by decide +kernel)))) (fun j hj => va_eqt (FX_narrow F (List.mem_of_getElem? (tab j hj)))) (fun a ha => Nat.not_le.mpr ha)
  have k0 : ∀ a : Nat, a < s0.heap.size → ¬ s0.heap.size ≤ a → s.heap[a]? = s0.heap[a]? := fun a ha _ => hk.2.2.1 a ha
  exact ⟨t, KC_Z F hk (va_Zof (args := #[.ref b]) (F.2.1 _ (List.mem_append_right _ (List.mem_of_getElem? (i := 1369) (by decide +kernel)))) (F.2.1 _ (List.mem_append_right _ (List.mem_of_getElem? (i := 27) (by decide +kernel)))) ht (fun a ha => Nat.not_le.mpr ha)), ((va_T.moved hk.1.alike hT).kept k0).narrow (gA_old F.2.2.2.2)⟩
theorem zDT (F : FX l s0 b D T B) (hk : KC s0 X s) : ∃ t, va_Z RJ6 "DigitTens" "[B" (.ref t) (gA B X) s s.heap ∧ va_T .byte t 100 (fun j => .int (dgT j)) (gA B X) s s.heap := by
  have tab : ∀ j, j < 100 → nwC[144 + j]? = some (Cond.eq (.elem (.static RJ6 "DigitTens" "[B") (.int (Int32.ofNat j))) (.int (dgT j))) := by decide +kernel
  obtain ⟨t, ht, hT⟩ := va_Tof (args := #[.ref b]) (s := s0) (tm := .static RJ6 "DigitTens" "[B") (ty := .byte) (N := 100) (f := fun j => .int (dgT j)) (A := fun q => s0.heap.size ≤ q) (by decide) (FX_narrow F (List.mem_of_getElem? (i := 142) (by decide +kernel))) (va_eqt (FX_narrow F (List.mem_of_getElem? (i := 143) (by decide +kernel)))) (fun j hj => va_eqt (FX_narrow F (List.mem_of_getElem? (tab j hj)))) (fun a ha => Nat.not_le.mpr ha)
  have k0 : ∀ a : Nat, a < s0.heap.size → ¬ s0.heap.size ≤ a → s.heap[a]? = s0.heap[a]? := fun a ha _ => hk.2.2.1 a ha
  exact ⟨t, KC_Z F hk (va_Zof (args := #[.ref b]) (F.2.1 _ (List.mem_append_right _ (List.mem_of_getElem? (i := 1371) (by decide +kernel)))) (F.2.1 _ (List.mem_append_right _ (List.mem_of_getElem? (i := 27) (by decide +kernel)))) ht (fun a ha => Nat.not_le.mpr ha)), ((va_T.moved hk.1.alike hT).kept k0).narrow (gA_old F.2.2.2.2)⟩
variable {p : Program} {e : Env} {R : Room} {m : MethodId} {args : Array Value} {below : List Frame} {meth : Method} {c : Code} {H : Heap} {locs : List Loc} {cells slots : Nat} {Q : State → Prop}
variable {cc : ByteArray} {pc : Nat} {ls : Array Slot} {rest : List Value} {cl : List vw_C} {A : Nat → Prop} {tys : List (ClassId × FieldType)} {H0 : Heap} {sh : (Nat → Int32) → Nat → va_E} {K : Nat} {μ μ1 : Mem} {own : String}
theorem gq_bast {o t0 n : Nat} {cA : ClassId} {i x : Int32} (hC : gC p c cc s m args own D cl tys) (hS : va_S A H0 H locs) (hW : gW D cl sh K B μ H) (hA : ∀ o, o < K → A (B + o)) (ho : o < K) (he : ∀ r, sh r o = .inl (cA, n, .inl r)) (ht : tys[t0]? = some (cA, .byte)) (hv : μ1 = mset μ o i.toNatClampNeg (vp_nar .byte x)) (hin : vp_in i n) (hdg : decode cc pc = .ok (.bastore, 1))
    (kk : ∀ (H1 : Heap) (locs1 : List Loc), gW D cl sh K B μ1 H1 → va_S A H0 H1 locs1 → W p l e R s m args below meth c H1 locs1 cells slots Q (F0 m (pc + 1) ls rest)) : W p l e R s m args below meth c H locs cells slots Q (F0 m pc ls (.int x :: .int i :: .ref (B + o) :: rest)) := by
  subst hv
  exact va_bast hC.1 hC.2.1 hC.2.2.2.2 hW (gL_D hA) hS o t0 (by rw [gL_get ho, he]) ht hin hdg (fun H1 locs1 h1 _ h3 => kk H1 locs1 (by rw [gw_aset ho he] at h1; exact h1) h3)
end DG
theorem dJ6_stringSize_0f7a4_0 : decode cJ6_stringSize_0f7a4 0 = .ok (.iconst 1, 1) := by decide +kernel
theorem dJ6_stringSize_0f7a4_1 : decode cJ6_stringSize_0f7a4 1 = .ok (.istore_n 1, 1) := by decide +kernel
theorem dJ6_stringSize_0f7a4_2 : decode cJ6_stringSize_0f7a4 2 = .ok (.iload_n 0, 1) := by decide +kernel
theorem dJ6_stringSize_0f7a4_3 : decode cJ6_stringSize_0f7a4 3 = .ok (.ifCond .lt 8, 3) := by decide +kernel
theorem dJ6_stringSize_0f7a4_6 : decode cJ6_stringSize_0f7a4 6 = .ok (.iconst 0, 1) := by decide +kernel
theorem dJ6_stringSize_0f7a4_7 : decode cJ6_stringSize_0f7a4 7 = .ok (.istore_n 1, 1) := by decide +kernel
theorem dJ6_stringSize_0f7a4_8 : decode cJ6_stringSize_0f7a4 8 = .ok (.iload_n 0, 1) := by decide +kernel
theorem dJ6_stringSize_0f7a4_9 : decode cJ6_stringSize_0f7a4 9 = .ok (.ineg, 1) := by decide +kernel
theorem dJ6_stringSize_0f7a4_10 : decode cJ6_stringSize_0f7a4 10 = .ok (.istore_n 0, 1) := by decide +kernel
theorem dJ6_stringSize_0f7a4_11 : decode cJ6_stringSize_0f7a4 11 = .ok (.bipush (-10), 2) := by decide +kernel
theorem dJ6_stringSize_0f7a4_13 : decode cJ6_stringSize_0f7a4 13 = .ok (.istore_n 2, 1) := by decide +kernel
theorem dJ6_stringSize_0f7a4_14 : decode cJ6_stringSize_0f7a4 14 = .ok (.iconst 1, 1) := by decide +kernel
theorem dJ6_stringSize_0f7a4_15 : decode cJ6_stringSize_0f7a4 15 = .ok (.istore_n 3, 1) := by decide +kernel
theorem dJ6_stringSize_0f7a4_16 : decode cJ6_stringSize_0f7a4 16 = .ok (.iload_n 3, 1) := by decide +kernel
theorem dJ6_stringSize_0f7a4_17 : decode cJ6_stringSize_0f7a4 17 = .ok (.bipush 10, 2) := by decide +kernel
theorem dJ6_stringSize_0f7a4_19 : decode cJ6_stringSize_0f7a4 19 = .ok (.if_icmp .ge 23, 3) := by decide +kernel
theorem dJ6_stringSize_0f7a4_22 : decode cJ6_stringSize_0f7a4 22 = .ok (.iload_n 0, 1) := by decide +kernel
theorem dJ6_stringSize_0f7a4_23 : decode cJ6_stringSize_0f7a4 23 = .ok (.iload_n 2, 1) := by decide +kernel
theorem dJ6_stringSize_0f7a4_24 : decode cJ6_stringSize_0f7a4 24 = .ok (.if_icmp .le 7, 3) := by decide +kernel
theorem dJ6_stringSize_0f7a4_27 : decode cJ6_stringSize_0f7a4 27 = .ok (.iload_n 3, 1) := by decide +kernel
theorem dJ6_stringSize_0f7a4_28 : decode cJ6_stringSize_0f7a4 28 = .ok (.iload_n 1, 1) := by decide +kernel
theorem dJ6_stringSize_0f7a4_29 : decode cJ6_stringSize_0f7a4 29 = .ok (.iadd, 1) := by decide +kernel
theorem dJ6_stringSize_0f7a4_30 : decode cJ6_stringSize_0f7a4 30 = .ok (.ireturn, 1) := by decide +kernel
theorem dJ6_stringSize_0f7a4_31 : decode cJ6_stringSize_0f7a4 31 = .ok (.bipush 10, 2) := by decide +kernel
theorem dJ6_stringSize_0f7a4_33 : decode cJ6_stringSize_0f7a4 33 = .ok (.iload_n 2, 1) := by decide +kernel
theorem dJ6_stringSize_0f7a4_34 : decode cJ6_stringSize_0f7a4 34 = .ok (.imul, 1) := by decide +kernel
theorem dJ6_stringSize_0f7a4_35 : decode cJ6_stringSize_0f7a4 35 = .ok (.istore_n 2, 1) := by decide +kernel
theorem dJ6_stringSize_0f7a4_36 : decode cJ6_stringSize_0f7a4 36 = .ok (.iinc 3 1, 3) := by decide +kernel
theorem dJ6_stringSize_0f7a4_39 : decode cJ6_stringSize_0f7a4 39 = .ok (.goto (-23), 3) := by decide +kernel
theorem dJ6_stringSize_0f7a4_42 : decode cJ6_stringSize_0f7a4 42 = .ok (.bipush 10, 2) := by decide +kernel
theorem dJ6_stringSize_0f7a4_44 : decode cJ6_stringSize_0f7a4 44 = .ok (.iload_n 1, 1) := by decide +kernel
theorem dJ6_stringSize_0f7a4_45 : decode cJ6_stringSize_0f7a4 45 = .ok (.iadd, 1) := by decide +kernel
theorem dJ6_stringSize_0f7a4_46 : decode cJ6_stringSize_0f7a4 46 = .ok (.ireturn, 1) := by decide +kernel
def fJ6_stringSize_0f7a4 (N : Nat) (μ : Mem) (a0 : Int32) : Option Int32 :=
  jn (fun (y1 : Int32) (y2 : Bool) =>
  fix2 (fun self8 (x6 : Int32) (x7 : Int32) =>
  if 10 ≤ x7 then
  (some (10 + (b2i y2)))
  else (if y1 ≤ x6 then
  (lt (10 * x6) fun v12 =>
  lt (x7 + 1) fun v14 =>
  self8 v12 v14)
  else (some (x7 + (b2i y2))))) N (-10) 1) fun j3 =>
  if a0 < 0 then
  (j3 a0 true)
  else (lt (-a0) fun v17 =>
  j3 v17 false)
abbrev rmJ6_stringSize_0f7a4 : Room := { frames := 2, cells := 0, slots := 0, locals := 60 }
set_option maxHeartbeats 4000000 in
set_option maxRecDepth 100000 in
theorem metJ6_stringSize_0f7a4 {l : Launch} {s0 : State} {b B : Nat} {D : va_G} {T : Nat → ClassId} (F : FX l s0 b D T B) {X : Nat → Prop} (hX : ∀ o, o < 1 → ¬ X (B + o)) {N : Nat} {cap : Nat} {μ : Mem} {a0 : Int32} {r : Int32}  (h : fJ6_stringSize_0f7a4 N μ a0 = some r) : gMet l yJ6_stringSize_0f7a4 cJ6_stringSize_0f7a4 4 (some .int) rmJ6_stringSize_0f7a4 [.int a0] (gWB D T cap B μ) (KC s0 X) (some (.int r)) (gWB D T cap B μ) (gA B X) 0 0 := by
  refine gI_of RJ6 (by decide +kernel) rfl (Nat.le_of_ble_eq_true rfl) ?_
  intro p e s m args below meth c ls Q hx hb hlocks hml hown hts hW hk hl hS hend
  have hC := FX_C F hk hx hb hown hts
  have hA := gA_allB hX
  have hl : lv_has ls 4 [(0, .int a0)] := hl
  unfold fJ6_stringSize_0f7a4 at h
  refine lv_iconst (v := 1) hx hb dJ6_stringSize_0f7a4_0 (by decide) ?_
  refine lv_istore_n (lv' := [(1, .int 1), (0, .int a0)]) hx hb dJ6_stringSize_0f7a4_1 rfl hl (by decide) rfl (fun ls hl => ?_)
  refine lv_iload_n hx hb dJ6_stringSize_0f7a4_2 rfl (lv_at hl 1 rfl) ?_
  obtain ⟨j3, hj5, h⟩ := jn2_o h
  have J4 : ∀ (y1 : Int32) (y2 : Bool), j3 y1 y2 = some r → ∀ (H : Heap) (locs : List Loc) (ls : Array Slot), gWB D T cap B μ H → va_S (gA B X) s.heap H locs → lv_has ls 4 [(0, .int y1), (1, .int (b2i y2))] → W p l e rmJ6_stringSize_0f7a4 s m args below meth c H locs 0 0 Q (F0 m 11 ls []) := by
    clear h hW hS hl
    intro y1 y2 h H locs ls hW hS hl
    replace h := (hj5 y1 y2).symm.trans h
    refine lv_bipush (v := (-10)) hx hb dJ6_stringSize_0f7a4_11 (by decide) ?_
    refine lv_istore_n (lv' := [(2, .int (-10)), (0, .int y1), (1, .int (b2i y2))]) hx hb dJ6_stringSize_0f7a4_13 rfl hl (by decide) rfl (fun ls hl => ?_)
    refine lv_iconst (v := 1) hx hb dJ6_stringSize_0f7a4_14 (by decide) ?_
    refine lv_istore_n (lv' := [(3, .int 1), (2, .int (-10)), (0, .int y1), (1, .int (b2i y2))]) hx hb dJ6_stringSize_0f7a4_15 rfl hl (by decide) rfl (fun ls hl => ?_)
    refine fix2_ind (fun (x6 : Int32) (x7 : Int32) => ∀ (H : Heap) (locs : List Loc) (ls : Array Slot), gWB D T cap B μ H → va_S (gA B X) s.heap H locs → lv_has ls 4 [(0, .int y1), (1, .int (b2i y2)), (2, .int x6), (3, .int x7)] → W p l e rmJ6_stringSize_0f7a4 s m args below meth c H locs 0 0 Q (F0 m 16 ls [])) ?_ N _ _ h _ _ _ hW hS (lv_sub hl [2, 3, 1, 0] rfl)
    clear h hW hS hl
    intro self8 IH9 x6 x7 h H locs ls hW hS hl
    refine lv_iload_n hx hb dJ6_stringSize_0f7a4_16 rfl (lv_at hl 3 rfl) ?_
    refine lv_bipush (v := 10) hx hb dJ6_stringSize_0f7a4_17 (by decide) ?_
    refine lv_icmp_ge (tgt := 42) hx hb dJ6_stringSize_0f7a4_19 (by decide) (fun c10 => ?_) (fun c10 => ?_)
    · replace h := ite_t c10 h
      refine lv_bipush (v := 10) hx hb dJ6_stringSize_0f7a4_42 (by decide) ?_
      refine lv_iload_n hx hb dJ6_stringSize_0f7a4_44 rfl (lv_at hl 1 rfl) ?_
      refine lv_iadd hx hb dJ6_stringSize_0f7a4_45 ?_
      cases h
      exact hend dJ6_stringSize_0f7a4_46 hW hS (Nat.le_of_ble_eq_true rfl) (Nat.le_of_ble_eq_true rfl)
    · replace h := ite_f c10 h
      refine lv_iload_n hx hb dJ6_stringSize_0f7a4_22 rfl (lv_at hl 0 rfl) ?_
      refine lv_iload_n hx hb dJ6_stringSize_0f7a4_23 rfl (lv_at hl 2 rfl) ?_
      refine lv_icmp_le (tgt := 31) hx hb dJ6_stringSize_0f7a4_24 (by decide) (fun c11 => ?_) (fun c11 => ?_)
      · replace h := ite_t c11 h
        refine lv_bipush (v := 10) hx hb dJ6_stringSize_0f7a4_31 (by decide) ?_
        refine lv_iload_n hx hb dJ6_stringSize_0f7a4_33 rfl (lv_at hl 2 rfl) ?_
        refine lv_imul hx hb dJ6_stringSize_0f7a4_34 ?_
        obtain ⟨v12, e13, h⟩ := lt_out h
        rw [← e13]
        refine lv_istore_n (lv' := [(2, .int v12), (0, .int y1), (1, .int (b2i y2)), (3, .int x7)]) hx hb dJ6_stringSize_0f7a4_35 rfl hl (by decide) rfl (fun ls hl => ?_)
        obtain ⟨v14, e15, h⟩ := lt_out h
        refine lv_iinc (v := v14) (lv' := [(3, .int v14), (2, .int v12), (0, .int y1), (1, .int (b2i y2))]) hx hb dJ6_stringSize_0f7a4_36 hl (k := 3) rfl (by rw [e15]; rfl) (by decide) rfl (fun ls hl => ?_)
        refine lv_goto (tgt := 16) hx hb dJ6_stringSize_0f7a4_39 (by decide) ?_
        exact IH9 _ _ h _ _ _ hW hS (lv_sub hl [2, 3, 1, 0] rfl)
      · replace h := ite_f c11 h
        refine lv_iload_n hx hb dJ6_stringSize_0f7a4_27 rfl (lv_at hl 3 rfl) ?_
        refine lv_iload_n hx hb dJ6_stringSize_0f7a4_28 rfl (lv_at hl 1 rfl) ?_
        refine lv_iadd hx hb dJ6_stringSize_0f7a4_29 ?_
        cases h
        exact hend dJ6_stringSize_0f7a4_30 hW hS (Nat.le_of_ble_eq_true rfl) (Nat.le_of_ble_eq_true rfl)
  refine lv_if_lt (tgt := 11) hx hb dJ6_stringSize_0f7a4_3 (by decide) (fun c16 => ?_) (fun c16 => ?_)
  · replace h := ite_t c16 h
    exact J4 _ _ h _ _ _ hW hS (lv_sub hl [1, 0] rfl)
  · replace h := ite_f c16 h
    refine lv_iconst (v := 0) hx hb dJ6_stringSize_0f7a4_6 (by decide) ?_
    refine lv_istore_n (lv' := [(1, .int 0), (0, .int a0)]) hx hb dJ6_stringSize_0f7a4_7 rfl hl (by decide) rfl (fun ls hl => ?_)
    refine lv_iload_n hx hb dJ6_stringSize_0f7a4_8 rfl (lv_at hl 1 rfl) ?_
    refine lv_ineg hx hb dJ6_stringSize_0f7a4_9 ?_
    obtain ⟨v17, e18, h⟩ := lt_out h
    rw [← e18]
    refine lv_istore_n (lv' := [(0, .int v17), (1, .int 0)]) hx hb dJ6_stringSize_0f7a4_10 rfl hl (by decide) rfl (fun ls hl => ?_)
    exact J4 _ _ h _ _ _ hW hS (lv_sub hl [0, 1] rfl)

theorem dJ6_getChars_ba4f3_0 : decode cJ6_getChars_ba4f3 0 = .ok (.iload_n 1, 1) := by decide +kernel
theorem dJ6_getChars_ba4f3_1 : decode cJ6_getChars_ba4f3 1 = .ok (.istore 5, 2) := by decide +kernel
theorem dJ6_getChars_ba4f3_3 : decode cJ6_getChars_ba4f3 3 = .ok (.iload_n 0, 1) := by decide +kernel
theorem dJ6_getChars_ba4f3_4 : decode cJ6_getChars_ba4f3 4 = .ok (.ifCond .ge 7, 3) := by decide +kernel
theorem dJ6_getChars_ba4f3_7 : decode cJ6_getChars_ba4f3 7 = .ok (.iconst 1, 1) := by decide +kernel
theorem dJ6_getChars_ba4f3_8 : decode cJ6_getChars_ba4f3 8 = .ok (.goto 4, 3) := by decide +kernel
theorem dJ6_getChars_ba4f3_11 : decode cJ6_getChars_ba4f3 11 = .ok (.iconst 0, 1) := by decide +kernel
theorem dJ6_getChars_ba4f3_12 : decode cJ6_getChars_ba4f3 12 = .ok (.istore 6, 2) := by decide +kernel
theorem dJ6_getChars_ba4f3_14 : decode cJ6_getChars_ba4f3 14 = .ok (.iload 6, 2) := by decide +kernel
theorem dJ6_getChars_ba4f3_16 : decode cJ6_getChars_ba4f3 16 = .ok (.ifCond .ne 6, 3) := by decide +kernel
theorem dJ6_getChars_ba4f3_19 : decode cJ6_getChars_ba4f3 19 = .ok (.iload_n 0, 1) := by decide +kernel
theorem dJ6_getChars_ba4f3_20 : decode cJ6_getChars_ba4f3 20 = .ok (.ineg, 1) := by decide +kernel
theorem dJ6_getChars_ba4f3_21 : decode cJ6_getChars_ba4f3 21 = .ok (.istore_n 0, 1) := by decide +kernel
theorem dJ6_getChars_ba4f3_22 : decode cJ6_getChars_ba4f3 22 = .ok (.iload_n 0, 1) := by decide +kernel
theorem dJ6_getChars_ba4f3_23 : decode cJ6_getChars_ba4f3 23 = .ok (.bipush (-100), 2) := by decide +kernel
theorem dJ6_getChars_ba4f3_25 : decode cJ6_getChars_ba4f3 25 = .ok (.if_icmp .gt 47, 3) := by decide +kernel
theorem dJ6_getChars_ba4f3_28 : decode cJ6_getChars_ba4f3 28 = .ok (.iload_n 0, 1) := by decide +kernel
theorem dJ6_getChars_ba4f3_29 : decode cJ6_getChars_ba4f3 29 = .ok (.bipush 100, 2) := by decide +kernel
theorem dJ6_getChars_ba4f3_31 : decode cJ6_getChars_ba4f3 31 = .ok (.idiv, 1) := by decide +kernel
theorem dJ6_getChars_ba4f3_32 : decode cJ6_getChars_ba4f3 32 = .ok (.istore_n 3, 1) := by decide +kernel
theorem dJ6_getChars_ba4f3_33 : decode cJ6_getChars_ba4f3 33 = .ok (.iload_n 3, 1) := by decide +kernel
theorem dJ6_getChars_ba4f3_34 : decode cJ6_getChars_ba4f3 34 = .ok (.bipush 100, 2) := by decide +kernel
theorem dJ6_getChars_ba4f3_36 : decode cJ6_getChars_ba4f3 36 = .ok (.imul, 1) := by decide +kernel
theorem dJ6_getChars_ba4f3_37 : decode cJ6_getChars_ba4f3 37 = .ok (.iload_n 0, 1) := by decide +kernel
theorem dJ6_getChars_ba4f3_38 : decode cJ6_getChars_ba4f3 38 = .ok (.isub, 1) := by decide +kernel
theorem dJ6_getChars_ba4f3_39 : decode cJ6_getChars_ba4f3 39 = .ok (.istore 4, 2) := by decide +kernel
theorem dJ6_getChars_ba4f3_41 : decode cJ6_getChars_ba4f3 41 = .ok (.iload_n 3, 1) := by decide +kernel
theorem dJ6_getChars_ba4f3_42 : decode cJ6_getChars_ba4f3 42 = .ok (.istore_n 0, 1) := by decide +kernel
theorem dJ6_getChars_ba4f3_43 : decode cJ6_getChars_ba4f3 43 = .ok (.aload_n 2, 1) := by decide +kernel
theorem dJ6_getChars_ba4f3_44 : decode cJ6_getChars_ba4f3 44 = .ok (.iinc 5 (-1), 3) := by decide +kernel
theorem dJ6_getChars_ba4f3_47 : decode cJ6_getChars_ba4f3 47 = .ok (.iload 5, 2) := by decide +kernel
theorem dJ6_getChars_ba4f3_49 : decode cJ6_getChars_ba4f3 49 = .ok (.getstatic 83, 3) := by decide +kernel
theorem dJ6_getChars_ba4f3_52 : decode cJ6_getChars_ba4f3 52 = .ok (.iload 4, 2) := by decide +kernel
theorem dJ6_getChars_ba4f3_54 : decode cJ6_getChars_ba4f3 54 = .ok (.baload, 1) := by decide +kernel
theorem dJ6_getChars_ba4f3_55 : decode cJ6_getChars_ba4f3 55 = .ok (.bastore, 1) := by decide +kernel
theorem dJ6_getChars_ba4f3_56 : decode cJ6_getChars_ba4f3 56 = .ok (.aload_n 2, 1) := by decide +kernel
theorem dJ6_getChars_ba4f3_57 : decode cJ6_getChars_ba4f3 57 = .ok (.iinc 5 (-1), 3) := by decide +kernel
theorem dJ6_getChars_ba4f3_60 : decode cJ6_getChars_ba4f3 60 = .ok (.iload 5, 2) := by decide +kernel
theorem dJ6_getChars_ba4f3_62 : decode cJ6_getChars_ba4f3 62 = .ok (.getstatic 87, 3) := by decide +kernel
theorem dJ6_getChars_ba4f3_65 : decode cJ6_getChars_ba4f3 65 = .ok (.iload 4, 2) := by decide +kernel
theorem dJ6_getChars_ba4f3_67 : decode cJ6_getChars_ba4f3 67 = .ok (.baload, 1) := by decide +kernel
theorem dJ6_getChars_ba4f3_68 : decode cJ6_getChars_ba4f3 68 = .ok (.bastore, 1) := by decide +kernel
theorem dJ6_getChars_ba4f3_69 : decode cJ6_getChars_ba4f3 69 = .ok (.goto (-47), 3) := by decide +kernel
theorem dJ6_getChars_ba4f3_72 : decode cJ6_getChars_ba4f3 72 = .ok (.aload_n 2, 1) := by decide +kernel
theorem dJ6_getChars_ba4f3_73 : decode cJ6_getChars_ba4f3 73 = .ok (.iinc 5 (-1), 3) := by decide +kernel
theorem dJ6_getChars_ba4f3_76 : decode cJ6_getChars_ba4f3 76 = .ok (.iload 5, 2) := by decide +kernel
theorem dJ6_getChars_ba4f3_78 : decode cJ6_getChars_ba4f3 78 = .ok (.getstatic 83, 3) := by decide +kernel
theorem dJ6_getChars_ba4f3_81 : decode cJ6_getChars_ba4f3 81 = .ok (.iload_n 0, 1) := by decide +kernel
theorem dJ6_getChars_ba4f3_82 : decode cJ6_getChars_ba4f3 82 = .ok (.ineg, 1) := by decide +kernel
theorem dJ6_getChars_ba4f3_83 : decode cJ6_getChars_ba4f3 83 = .ok (.baload, 1) := by decide +kernel
theorem dJ6_getChars_ba4f3_84 : decode cJ6_getChars_ba4f3 84 = .ok (.bastore, 1) := by decide +kernel
theorem dJ6_getChars_ba4f3_85 : decode cJ6_getChars_ba4f3 85 = .ok (.iload_n 0, 1) := by decide +kernel
theorem dJ6_getChars_ba4f3_86 : decode cJ6_getChars_ba4f3 86 = .ok (.bipush (-9), 2) := by decide +kernel
theorem dJ6_getChars_ba4f3_88 : decode cJ6_getChars_ba4f3 88 = .ok (.if_icmp .ge 16, 3) := by decide +kernel
theorem dJ6_getChars_ba4f3_91 : decode cJ6_getChars_ba4f3 91 = .ok (.aload_n 2, 1) := by decide +kernel
theorem dJ6_getChars_ba4f3_92 : decode cJ6_getChars_ba4f3 92 = .ok (.iinc 5 (-1), 3) := by decide +kernel
theorem dJ6_getChars_ba4f3_95 : decode cJ6_getChars_ba4f3 95 = .ok (.iload 5, 2) := by decide +kernel
theorem dJ6_getChars_ba4f3_97 : decode cJ6_getChars_ba4f3 97 = .ok (.getstatic 87, 3) := by decide +kernel
theorem dJ6_getChars_ba4f3_100 : decode cJ6_getChars_ba4f3 100 = .ok (.iload_n 0, 1) := by decide +kernel
theorem dJ6_getChars_ba4f3_101 : decode cJ6_getChars_ba4f3 101 = .ok (.ineg, 1) := by decide +kernel
theorem dJ6_getChars_ba4f3_102 : decode cJ6_getChars_ba4f3 102 = .ok (.baload, 1) := by decide +kernel
theorem dJ6_getChars_ba4f3_103 : decode cJ6_getChars_ba4f3 103 = .ok (.bastore, 1) := by decide +kernel
theorem dJ6_getChars_ba4f3_104 : decode cJ6_getChars_ba4f3 104 = .ok (.iload 6, 2) := by decide +kernel
theorem dJ6_getChars_ba4f3_106 : decode cJ6_getChars_ba4f3 106 = .ok (.ifCond .eq 12, 3) := by decide +kernel
theorem dJ6_getChars_ba4f3_109 : decode cJ6_getChars_ba4f3 109 = .ok (.aload_n 2, 1) := by decide +kernel
theorem dJ6_getChars_ba4f3_110 : decode cJ6_getChars_ba4f3 110 = .ok (.iinc 5 (-1), 3) := by decide +kernel
theorem dJ6_getChars_ba4f3_113 : decode cJ6_getChars_ba4f3 113 = .ok (.iload 5, 2) := by decide +kernel
theorem dJ6_getChars_ba4f3_115 : decode cJ6_getChars_ba4f3 115 = .ok (.bipush 45, 2) := by decide +kernel
theorem dJ6_getChars_ba4f3_117 : decode cJ6_getChars_ba4f3 117 = .ok (.bastore, 1) := by decide +kernel
theorem dJ6_getChars_ba4f3_118 : decode cJ6_getChars_ba4f3 118 = .ok (.iload 5, 2) := by decide +kernel
theorem dJ6_getChars_ba4f3_120 : decode cJ6_getChars_ba4f3 120 = .ok (.ireturn, 1) := by decide +kernel
def fJ6_getChars_ba4f3 (N : Nat) (cap : Nat) (μ : Mem) (a0 : Int32) (a1 : Int32) (a2 : Nat) : Option (Mem × Int32) :=
  jn (fun (y1 : Bool) =>
  jn (fun (y5 : Int32) =>
  fix3 (fun self12 (x9 : Int32) (x10 : Int32) (μ11 : Mem) =>
  if (-100) < x9 then
  (lt (x10 + (-1)) fun v15 =>
  dg dgO (-x9) fun v20 =>
  aw μ11 a2 cap v15 (vp_nar .byte v20) fun μ23 =>
  jn (fun (y26 : Int32) (μ27 : Mem) =>
  jn (fun (y31 : Int32) (μ32 : Mem) =>
  some (μ32, y31)) fun j33 =>
  cond y1
  (lt (y26 + (-1)) fun v37 =>
  aw μ27 a2 cap v37 (vp_nar .byte 45) fun μ39 =>
  j33 v37 μ39)
  (j33 y26 μ27)) fun j28 =>
  if (-9) ≤ x9 then
  (j28 v15 μ23)
  else (lt (v15 + (-1)) fun v43 =>
  dg dgT (-x9) fun v48 =>
  aw μ23 a2 cap v43 (vp_nar .byte v48) fun μ51 =>
  j28 v43 μ51))
  else (lt (x9 / 100) fun v54 =>
  lt ((v54 * 100) - x9) fun v56 =>
  lt (x10 + (-1)) fun v58 =>
  dg dgO v56 fun v63 =>
  aw μ11 a2 cap v58 (vp_nar .byte v63) fun μ66 =>
  lt (v58 + (-1)) fun v69 =>
  dg dgT v56 fun v74 =>
  aw μ66 a2 cap v69 (vp_nar .byte v74) fun μ77 =>
  self12 v54 v69 μ77)) N y5 a1 μ) fun j6 =>
  cond y1
  (j6 a0)
  (lt (-a0) fun v81 =>
  j6 v81)) fun j2 =>
  if 0 ≤ a0 then
  (j2 false)
  else (j2 true)
abbrev rmJ6_getChars_ba4f3 : Room := { frames := 2, cells := 0, slots := 0, locals := 60 }
set_option maxHeartbeats 4000000 in
set_option maxRecDepth 100000 in
theorem metJ6_getChars_ba4f3 {l : Launch} {s0 : State} {b B : Nat} {D : va_G} {T : Nat → ClassId} (F : FX l s0 b D T B) {X : Nat → Prop} (hX : ∀ o, o < 1 → ¬ X (B + o)) {N : Nat} {cap : Nat} {μ : Mem} {a0 : Int32} {a1 : Int32} {a2 : Nat} {r : Mem × Int32} (k2 : (BA cap) a2) (h : fJ6_getChars_ba4f3 N cap μ a0 a1 a2 = some r) : gMet l yJ6_getChars_ba4f3 cJ6_getChars_ba4f3 7 (some .int) rmJ6_getChars_ba4f3 [.int a0, .int a1, .ref (B + a2)] (gWB D T cap B μ) (KC s0 X) (some (.int r.2)) (gWB D T cap B r.1) (gA B X) 0 0 := by
  refine gI_of RJ6 (by decide +kernel) rfl (Nat.le_of_ble_eq_true rfl) ?_
  intro p e s m args below meth c ls Q hx hb hlocks hml hown hts hW hk hl hS hend
  have hC := FX_C F hk hx hb hown hts
  have hA := gA_allB hX
  have hl : lv_has ls 7 [(0, .int a0), (1, .int a1), (2, .ref (B + a2))] := hl
  unfold fJ6_getChars_ba4f3 at h
  refine lv_iload_n hx hb dJ6_getChars_ba4f3_0 rfl (lv_at hl 1 rfl) ?_
  refine lv_istore (lv' := [(5, .int a1), (0, .int a0), (1, .int a1), (2, .ref (B + a2))]) hx hb dJ6_getChars_ba4f3_1 hl (by decide) rfl (fun ls hl => ?_)
  refine lv_iload_n hx hb dJ6_getChars_ba4f3_3 rfl (lv_at hl 1 rfl) ?_
  obtain ⟨j2, hj4, h⟩ := jn1_o h
  have J3 : ∀ (y1 : Bool), j2 y1 = some r → ∀ (H : Heap) (locs : List Loc) (ls : Array Slot), gWB D T cap B μ H → va_S (gA B X) s.heap H locs → lv_has ls 7 [(0, .int a0), (2, .ref (B + a2)), (5, .int a1)] → W p l e rmJ6_getChars_ba4f3 s m args below meth c H locs 0 0 Q (F0 m 12 ls [.int (b2i y1)]) := by
    clear h hW hS hl
    intro y1 h H locs ls hW hS hl
    replace h := (hj4 y1).symm.trans h
    refine lv_istore (lv' := [(6, .int (b2i y1)), (0, .int a0), (2, .ref (B + a2)), (5, .int a1)]) hx hb dJ6_getChars_ba4f3_12 hl (by decide) rfl (fun ls hl => ?_)
    refine lv_iload hx hb dJ6_getChars_ba4f3_14 (lv_at hl 0 rfl) ?_
    obtain ⟨j6, hj8, h⟩ := jn1_o h
    have J7 : ∀ (y5 : Int32), j6 y5 = some r → ∀ (H : Heap) (locs : List Loc) (ls : Array Slot), gWB D T cap B μ H → va_S (gA B X) s.heap H locs → lv_has ls 7 [(0, .int y5), (2, .ref (B + a2)), (5, .int a1), (6, .int (b2i y1))] → W p l e rmJ6_getChars_ba4f3 s m args below meth c H locs 0 0 Q (F0 m 22 ls []) := by
      clear h hW hS hl
      intro y5 h H locs ls hW hS hl
      replace h := (hj8 y5).symm.trans h
      refine fix3_ind (fun (x9 : Int32) (x10 : Int32) (μ11 : Mem) => ∀ (H : Heap) (locs : List Loc) (ls : Array Slot), gWB D T cap B μ11 H → va_S (gA B X) s.heap H locs → lv_has ls 7 [(0, .int x9), (2, .ref (B + a2)), (5, .int x10), (6, .int (b2i y1))] → W p l e rmJ6_getChars_ba4f3 s m args below meth c H locs 0 0 Q (F0 m 22 ls [])) ?_ N _ _ _ h _ _ _ hW hS (lv_sub hl [0, 1, 2, 3] rfl)
      clear h hW hS hl
      intro self12 IH13 x9 x10 μ11 h H locs ls hW hS hl
      refine lv_iload_n hx hb dJ6_getChars_ba4f3_22 rfl (lv_at hl 0 rfl) ?_
      refine lv_bipush (v := (-100)) hx hb dJ6_getChars_ba4f3_23 (by decide) ?_
      refine lv_icmp_gt (tgt := 72) hx hb dJ6_getChars_ba4f3_25 (by decide) (fun c14 => ?_) (fun c14 => ?_)
      · replace h := ite_t c14 h
        refine lv_aload_n hx hb dJ6_getChars_ba4f3_72 rfl (lv_at hl 1 rfl) ?_
        obtain ⟨v15, e16, h⟩ := lt_out h
        refine lv_iinc (v := v15) (lv' := [(5, .int v15), (0, .int x9), (2, .ref (B + a2)), (6, .int (b2i y1))]) hx hb dJ6_getChars_ba4f3_73 hl (k := 2) rfl (by rw [e16]; rfl) (by decide) rfl (fun ls hl => ?_)
        refine lv_iload hx hb dJ6_getChars_ba4f3_76 (lv_at hl 0 rfl) ?_
        obtain ⟨t17, hz18, ht19⟩ := zDO F hk
        refine gw_gets hC hz18 hS fj_J6_83 dJ6_getChars_ba4f3_78 ?_
        refine lv_iload_n hx hb dJ6_getChars_ba4f3_81 rfl (lv_at hl 1 rfl) ?_
        refine lv_ineg hx hb dJ6_getChars_ba4f3_82 ?_
        obtain ⟨v20, e21, hi22, h⟩ := dg_o h
        refine va_tb hx hb ht19 hS hi22 (v := .int v20) (by rw [e21]) dJ6_getChars_ba4f3_83 ?_
        obtain ⟨μ23, e24, hi25, h⟩ := aw_o h
        refine gq_bast hC hS hW hA k2.1 (k2.2 T) (t0 := 7) rfl e24 hi25 dJ6_getChars_ba4f3_84 (fun H locs hW hS => ?_)
        refine lv_iload_n hx hb dJ6_getChars_ba4f3_85 rfl (lv_at hl 1 rfl) ?_
        refine lv_bipush (v := (-9)) hx hb dJ6_getChars_ba4f3_86 (by decide) ?_
        obtain ⟨j28, hj30, h⟩ := jn2_o h
        have J29 : ∀ (y26 : Int32) (μ27 : Mem), j28 y26 μ27 = some r → ∀ (H : Heap) (locs : List Loc) (ls : Array Slot), gWB D T cap B μ27 H → va_S (gA B X) s.heap H locs → lv_has ls 7 [(2, .ref (B + a2)), (5, .int y26), (6, .int (b2i y1))] → W p l e rmJ6_getChars_ba4f3 s m args below meth c H locs 0 0 Q (F0 m 104 ls []) := by
          clear h hW hS hl
          intro y26 μ27 h H locs ls hW hS hl
          replace h := (hj30 y26 μ27).symm.trans h
          refine lv_iload hx hb dJ6_getChars_ba4f3_104 (lv_at hl 2 rfl) ?_
          obtain ⟨j33, hj35, h⟩ := jn2_o h
          have J34 : ∀ (y31 : Int32) (μ32 : Mem), j33 y31 μ32 = some r → ∀ (H : Heap) (locs : List Loc) (ls : Array Slot), gWB D T cap B μ32 H → va_S (gA B X) s.heap H locs → lv_has ls 7 [(5, .int y31)] → W p l e rmJ6_getChars_ba4f3 s m args below meth c H locs 0 0 Q (F0 m 118 ls []) := by
            clear h hW hS hl
            intro y31 μ32 h H locs ls hW hS hl
            replace h := (hj35 y31 μ32).symm.trans h
            refine lv_iload hx hb dJ6_getChars_ba4f3_118 (lv_at hl 0 rfl) ?_
            cases h
            exact hend dJ6_getChars_ba4f3_120 hW hS (Nat.le_of_ble_eq_true rfl) (Nat.le_of_ble_eq_true rfl)
          refine gw_if_eqZ (tgt := 118) hx hb dJ6_getChars_ba4f3_106 (by decide) (fun c36 => ?_) (fun c36 => ?_)
          · replace h := cond_f c36 h
            exact J34 _ _ h _ _ _ hW hS (lv_sub hl [1] rfl)
          · replace h := cond_t c36 h
            refine lv_aload_n hx hb dJ6_getChars_ba4f3_109 rfl (lv_at hl 0 rfl) ?_
            obtain ⟨v37, e38, h⟩ := lt_out h
            refine lv_iinc (v := v37) (lv' := [(5, .int v37), (2, .ref (B + a2)), (6, .int (b2i y1))]) hx hb dJ6_getChars_ba4f3_110 hl (k := 1) rfl (by rw [e38]; rfl) (by decide) rfl (fun ls hl => ?_)
            refine lv_iload hx hb dJ6_getChars_ba4f3_113 (lv_at hl 0 rfl) ?_
            refine lv_bipush (v := 45) hx hb dJ6_getChars_ba4f3_115 (by decide) ?_
            obtain ⟨μ39, e40, hi41, h⟩ := aw_o h
            refine gq_bast hC hS hW hA k2.1 (k2.2 T) (t0 := 7) rfl e40 hi41 dJ6_getChars_ba4f3_117 (fun H locs hW hS => ?_)
            exact J34 _ _ h _ _ _ hW hS (lv_sub hl [0] rfl)
        refine lv_icmp_ge (tgt := 104) hx hb dJ6_getChars_ba4f3_88 (by decide) (fun c42 => ?_) (fun c42 => ?_)
        · replace h := ite_t c42 h
          exact J29 _ _ h _ _ _ hW hS (lv_sub hl [2, 0, 3] rfl)
        · replace h := ite_f c42 h
          refine lv_aload_n hx hb dJ6_getChars_ba4f3_91 rfl (lv_at hl 2 rfl) ?_
          obtain ⟨v43, e44, h⟩ := lt_out h
          refine lv_iinc (v := v43) (lv' := [(5, .int v43), (0, .int x9), (2, .ref (B + a2)), (6, .int (b2i y1))]) hx hb dJ6_getChars_ba4f3_92 hl (k := 0) rfl (by rw [e44]; rfl) (by decide) rfl (fun ls hl => ?_)
          refine lv_iload hx hb dJ6_getChars_ba4f3_95 (lv_at hl 0 rfl) ?_
          obtain ⟨t45, hz46, ht47⟩ := zDT F hk
          refine gw_gets hC hz46 hS fj_J6_87 dJ6_getChars_ba4f3_97 ?_
          refine lv_iload_n hx hb dJ6_getChars_ba4f3_100 rfl (lv_at hl 1 rfl) ?_
          refine lv_ineg hx hb dJ6_getChars_ba4f3_101 ?_
          obtain ⟨v48, e49, hi50, h⟩ := dg_o h
          refine va_tb hx hb ht47 hS hi50 (v := .int v48) (by rw [e49]) dJ6_getChars_ba4f3_102 ?_
          obtain ⟨μ51, e52, hi53, h⟩ := aw_o h
          refine gq_bast hC hS hW hA k2.1 (k2.2 T) (t0 := 7) rfl e52 hi53 dJ6_getChars_ba4f3_103 (fun H locs hW hS => ?_)
          exact J29 _ _ h _ _ _ hW hS (lv_sub hl [2, 0, 3] rfl)
      · replace h := ite_f c14 h
        refine lv_iload_n hx hb dJ6_getChars_ba4f3_28 rfl (lv_at hl 0 rfl) ?_
        refine lv_bipush (v := 100) hx hb dJ6_getChars_ba4f3_29 (by decide) ?_
        refine lv_idiv hx hb dJ6_getChars_ba4f3_31 (by decide) ?_
        obtain ⟨v54, e55, h⟩ := lt_out h
        rw [← e55]
        refine lv_istore_n (lv' := [(3, .int v54), (0, .int x9), (2, .ref (B + a2)), (5, .int x10), (6, .int (b2i y1))]) hx hb dJ6_getChars_ba4f3_32 rfl hl (by decide) rfl (fun ls hl => ?_)
        refine lv_iload_n hx hb dJ6_getChars_ba4f3_33 rfl (lv_at hl 0 rfl) ?_
        refine lv_bipush (v := 100) hx hb dJ6_getChars_ba4f3_34 (by decide) ?_
        refine lv_imul hx hb dJ6_getChars_ba4f3_36 ?_
        refine lv_iload_n hx hb dJ6_getChars_ba4f3_37 rfl (lv_at hl 1 rfl) ?_
        refine lv_isub hx hb dJ6_getChars_ba4f3_38 ?_
        obtain ⟨v56, e57, h⟩ := lt_out h
        rw [← e57]
        refine lv_istore (lv' := [(4, .int v56), (3, .int v54), (0, .int x9), (2, .ref (B + a2)), (5, .int x10), (6, .int (b2i y1))]) hx hb dJ6_getChars_ba4f3_39 hl (by decide) rfl (fun ls hl => ?_)
        refine lv_iload_n hx hb dJ6_getChars_ba4f3_41 rfl (lv_at hl 1 rfl) ?_
        refine lv_istore_n (lv' := [(0, .int v54), (4, .int v56), (3, .int v54), (2, .ref (B + a2)), (5, .int x10), (6, .int (b2i y1))]) hx hb dJ6_getChars_ba4f3_42 rfl hl (by decide) rfl (fun ls hl => ?_)
        refine lv_aload_n hx hb dJ6_getChars_ba4f3_43 rfl (lv_at hl 3 rfl) ?_
        obtain ⟨v58, e59, h⟩ := lt_out h
        refine lv_iinc (v := v58) (lv' := [(5, .int v58), (0, .int v54), (4, .int v56), (3, .int v54), (2, .ref (B + a2)), (6, .int (b2i y1))]) hx hb dJ6_getChars_ba4f3_44 hl (k := 4) rfl (by rw [e59]; rfl) (by decide) rfl (fun ls hl => ?_)
        refine lv_iload hx hb dJ6_getChars_ba4f3_47 (lv_at hl 0 rfl) ?_
        obtain ⟨t60, hz61, ht62⟩ := zDO F hk
        refine gw_gets hC hz61 hS fj_J6_83 dJ6_getChars_ba4f3_49 ?_
        refine lv_iload hx hb dJ6_getChars_ba4f3_52 (lv_at hl 2 rfl) ?_
        obtain ⟨v63, e64, hi65, h⟩ := dg_o h
        refine va_tb hx hb ht62 hS hi65 (v := .int v63) (by rw [e64]) dJ6_getChars_ba4f3_54 ?_
        obtain ⟨μ66, e67, hi68, h⟩ := aw_o h
        refine gq_bast hC hS hW hA k2.1 (k2.2 T) (t0 := 7) rfl e67 hi68 dJ6_getChars_ba4f3_55 (fun H locs hW hS => ?_)
        refine lv_aload_n hx hb dJ6_getChars_ba4f3_56 rfl (lv_at hl 4 rfl) ?_
        obtain ⟨v69, e70, h⟩ := lt_out h
        refine lv_iinc (v := v69) (lv' := [(5, .int v69), (0, .int v54), (4, .int v56), (3, .int v54), (2, .ref (B + a2)), (6, .int (b2i y1))]) hx hb dJ6_getChars_ba4f3_57 hl (k := 0) rfl (by rw [e70]; rfl) (by decide) rfl (fun ls hl => ?_)
        refine lv_iload hx hb dJ6_getChars_ba4f3_60 (lv_at hl 0 rfl) ?_
        obtain ⟨t71, hz72, ht73⟩ := zDT F hk
        refine gw_gets hC hz72 hS fj_J6_87 dJ6_getChars_ba4f3_62 ?_
        refine lv_iload hx hb dJ6_getChars_ba4f3_65 (lv_at hl 2 rfl) ?_
        obtain ⟨v74, e75, hi76, h⟩ := dg_o h
        refine va_tb hx hb ht73 hS hi76 (v := .int v74) (by rw [e75]) dJ6_getChars_ba4f3_67 ?_
        obtain ⟨μ77, e78, hi79, h⟩ := aw_o h
        refine gq_bast hC hS hW hA k2.1 (k2.2 T) (t0 := 7) rfl e78 hi79 dJ6_getChars_ba4f3_68 (fun H locs hW hS => ?_)
        refine lv_goto (tgt := 22) hx hb dJ6_getChars_ba4f3_69 (by decide) ?_
        exact IH13 _ _ _ h _ _ _ hW hS (lv_sub hl [1, 4, 0, 5] rfl)
    refine gw_if_neZ (tgt := 22) hx hb dJ6_getChars_ba4f3_16 (by decide) (fun c80 => ?_) (fun c80 => ?_)
    · replace h := cond_t c80 h
      exact J7 _ h _ _ _ hW hS (lv_sub hl [1, 2, 3, 0] rfl)
    · replace h := cond_f c80 h
      refine lv_iload_n hx hb dJ6_getChars_ba4f3_19 rfl (lv_at hl 1 rfl) ?_
      refine lv_ineg hx hb dJ6_getChars_ba4f3_20 ?_
      obtain ⟨v81, e82, h⟩ := lt_out h
      rw [← e82]
      refine lv_istore_n (lv' := [(0, .int v81), (6, .int (b2i y1)), (2, .ref (B + a2)), (5, .int a1)]) hx hb dJ6_getChars_ba4f3_21 rfl hl (by decide) rfl (fun ls hl => ?_)
      exact J7 _ h _ _ _ hW hS (lv_sub hl [0, 2, 3, 1] rfl)
  refine lv_if_ge (tgt := 11) hx hb dJ6_getChars_ba4f3_4 (by decide) (fun c83 => ?_) (fun c83 => ?_)
  · replace h := ite_t c83 h
    refine lv_iconst (v := 0) hx hb dJ6_getChars_ba4f3_11 (by decide) ?_
    exact J3 _ h _ _ _ hW hS (lv_sub hl [1, 3, 0] rfl)
  · replace h := ite_f c83 h
    refine lv_iconst (v := 1) hx hb dJ6_getChars_ba4f3_7 (by decide) ?_
    refine lv_goto (tgt := 12) hx hb dJ6_getChars_ba4f3_8 (by decide) ?_
    exact J3 _ h _ _ _ hW hS (lv_sub hl [1, 3, 0] rfl)
