/-! The law's loop: what stands at its head, and what a call leaves of it. -/
abbrev Xc (B : Nat) : Nat → Prop := fun q => B + 562 ≤ q ∧ q < B + 576
abbrev Xm (B n : Nat) : Nat → Prop := fun q => q < n ∧ ¬ (B + 562 ≤ q ∧ q < B + 574)
abbrev AL (B : Nat) : Nat → Prop := fun q => B ≤ q
def LI (s0 : State) (D : va_G) (T : Nat → ClassId) (B : Nat) (μ : Mem) (cap : Nat) (t : List Nat) (ν : Mem) (f : Nat → Int64) (g : Nat → UInt64) (H : Heap) : Prop := gWS s0 D T B (Xc B) μ cap t H ∧ gWM D T (B + 562) ν H ∧ va_at D vwCl (B + 574, eLo T f) H ∧ va_at D vwCl (B + 575, eDo T g) H
abbrev LV (b B : Nat) (x5 : Int32) : List (Nat × Value) := [(5, .int x5), (4, .ref (B + 575)), (3, .ref (B + 574)), (2, .ref (B + 562 + 0)), (1, .ref (B + 0)), (0, .ref b)]
theorem Xc_g {B : Nat} : ∀ o, o < 561 → ¬ Xc B (B + o) := fun o ho z => by have := z.1; omega
theorem Xc_g0 {B : Nat} : ∀ o, o < 560 → ¬ Xc B (B + o) := fun o ho z => by have := z.1; omega
theorem Xm_m {B n : Nat} : ∀ o, o < 12 → ¬ Xm B n (B + 562 + o) := fun o ho z => z.2 ⟨by omega, by omega⟩
theorem Xc_ob {B : Nat} : Xc B (B + 574) := ⟨by omega, by omega⟩
theorem Xc_od {B : Nat} : Xc B (B + 575) := ⟨by omega, by omega⟩
section LP
variable {p : Program} {l : Launch} {e : Env} {s : State} {m : MethodId} {args : Array Value} {below : List Frame} {meth : Method} {c : Code} {H H1 : Heap} {locs : List Loc} {cells slots : Nat} {Q : State → Prop}
variable {cc : ByteArray} {pc : Nat} {ls : Array Slot} {st rest As : List Value} {D : va_G} {T : Nat → ClassId} {b B : Nat} {μ μ' ν ν' : Mem} {cap cap' : Nat} {t t' : List Nat} {f f' : Nat → Int64} {g g' : Nat → UInt64}
theorem LI_sz (h : LI s D T B μ cap t ν f g H) : B + 576 ≤ H.size := h.2.2.2.lt
theorem LI_wr (hI : LI s D T B μ cap t ν f g H) (h : gWL s D T B (Xc B) μ' cap' t' (B + 574) f' H1) (hk : ∀ q, q < H.size → ¬ gAo B (Xc B) (B + 574) q → H1[q]? = H[q]?) : LI s D T B μ' cap' t' ν f' g H1 := by
  have hz := LI_sz hI
  refine ⟨h.1, va_P.kept hI.2.1 (fun k q hq => ?_), h.2, hI.2.2.2.kept (hk _ hI.2.2.2.lt (fun z => ?_))⟩
  · obtain ⟨ho, rfl⟩ := gL_some hq
    refine hk _ (by show B + 562 + k < H.size; omega) (fun z => ?_)
    rcases z with z | z
    · exact z.2 ⟨by show B + 562 ≤ B + 562 + k; omega, by show B + 562 + k < B + 576; omega⟩
    · have z : B + 562 + k = B + 574 := z
      omega
  · rcases z with z | z
    · exact z.2 Xc_od
    · have z : B + 575 = B + 574 := z
      omega
theorem LI_wrD (hI : LI s D T B μ cap t ν f g H) (h : gWD s D T B (Xc B) μ' cap' t' (B + 575) g' H1) (hk : ∀ q, q < H.size → ¬ gAo B (Xc B) (B + 575) q → H1[q]? = H[q]?) : LI s D T B μ' cap' t' ν f g' H1 := by
  have hz := LI_sz hI
  refine ⟨h.1, va_P.kept hI.2.1 (fun k q hq => ?_), hI.2.2.1.kept (hk _ hI.2.2.1.lt (fun z => ?_)), h.2⟩
  · obtain ⟨ho, rfl⟩ := gL_some hq
    refine hk _ (by show B + 562 + k < H.size; omega) (fun z => ?_)
    rcases z with z | z
    · exact z.2 ⟨by show B + 562 ≤ B + 562 + k; omega, by show B + 562 + k < B + 576; omega⟩
    · have z : B + 562 + k = B + 575 := z
      omega
  · rcases z with z | z
    · exact z.2 Xc_ob
    · have z : B + 574 = B + 575 := z
      omega
theorem LI_mo (hI : LI s D T B μ cap t ν f g H) (h : gWM D T (B + 562) ν' H1) (hk : ∀ q, q < H.size → ¬ gA (B + 562) (Xm B H.size) q → H1[q]? = H[q]?) : LI s D T B μ cap t ν' f g H1 := by
  have hz := LI_sz hI
  obtain ⟨⟨hg, v, row, mb, h1, h2, h3, h4, h5, h6, hP⟩, hM, hO, hD⟩ := hI
  have hv : v < H.size := (hP 1 _ rfl).lt
  refine ⟨⟨hg.kept fun k q hq => ?_, v, row, mb, h1, h2, h3, h4, h5, h6, hP.kept fun k q hq => ?_⟩, h, hO.kept (hk _ hO.lt (fun z => ?_)), hD.kept (hk _ hD.lt (fun z => ?_))⟩
  · obtain ⟨ho, rfl⟩ := gL_some hq
    refine hk _ (by show B + k < H.size; omega) (fun z => ?_)
    have z : B + 562 ≤ B + k := z.1
    omega
  · have h9 : k < 2 := (List.getElem?_eq_some_iff.mp hq).1
    rcases (show k = 0 ∨ k = 1 by omega) with rfl | rfl
    · cases hq
      refine hk _ (by show B + 560 < H.size; omega) (fun z => ?_)
      have z : B + 562 ≤ B + 560 := z.1
      omega
    · cases hq
      refine hk _ hv (fun z => ?_)
      exact z.2 ⟨hv, fun z9 => h2 ⟨z9.1, by have := z9.2; show v < B + 576; omega⟩⟩
  · exact z.2 ⟨by show B + 574 < H.size; omega, fun z9 => by have : B + 574 < B + 574 := z9.2; omega⟩
  · exact z.2 ⟨by show B + 575 < H.size; omega, fun z9 => by have : B + 575 < B + 574 := z9.2; omega⟩
theorem KC_law {X : Nat → Prop} (hB : s.heap.size ≤ B) (hS : va_S (AL B) s.heap H locs) (hX : ∀ q, X q → q < H.size) : ∀ U : State, U.heap = H → s.WarmedH U.vm → KC s X U := fun U hU hW =>
  ⟨hW, by rw [hU]; exact hS.1, fun q hq => by rw [hU]; exact hS.2.1 q hq (fun z => absurd (Nat.lt_of_lt_of_le hq hB) (Nat.not_lt.mpr z)), fun q hq => by rw [hU]; exact hX q hq⟩
/-- the law calls one of its own methods -/
theorem gl_wr {index ml n mc ms : Nat} {y : MethodName} {bb : ByteArray} {hh : List (Nat × Nat × Nat × Nat)} {rm : Room} {v : Option Value} (F : FX l s b D T B) (hC : gC p c cc s m args RL D vwCl (tysG T)) (hml : c.maxLocals = 9) (hS : va_S (AL B) s.heap H locs) (hI : LI s D T B μ cap t ν f g H) (hM : gMetH l y bb ml hh rm As (gWL s D T B (Xc B) μ cap t (B + 574) f) (KC s (Xc B)) v (gWL s D T B (Xc B) μ' cap' t' (B + 574) f') (gAo B (Xc B) (B + 574)) mc ms) (hw : gML RL index y bb ml hh n) (hrm : gRm room_1 rm ml mc ms)
    (hn : As.length = n) (hsz : ls.size = 9) (hst : st = As.reverse ++ rest) (hroom : (rest.map fun v => v.category).sum ≤ 8) (hdg : decode cc pc = .ok (.invokestatic index, 3)) (hf : cells + mc ≤ room_1.cells ∧ slots + ms ≤ room_1.slots)
    (kk : ∀ (H1 : Heap) (locs1 : List Loc), LI s D T B μ' cap' t' ν f' g H1 → va_S (AL B) s.heap H1 locs1 → W p l e room_1 s m args below meth c H1 locs1 (cells + mc) (slots + ms) Q (F0 m (pc + 3) ls (v.toList ++ rest))) : W p l e room_1 s m args below meth c H locs cells slots Q (F0 m pc ls st) :=
  gl_callS hC hml hS ⟨hI.1, hI.2.2.1⟩ (KC_law F.2.2.2.2 hS (fun q z => Nat.lt_of_lt_of_le z.2 (LI_sz hI))) KC_blind hM hw (fun q z => z.elim (fun z => z.1) (fun z => by show B ≤ q; omega)) hrm hn hsz hst hroom hdg hf (fun H1 locs1 g1 g2 _ g4 => kk H1 locs1 (LI_wr hI g1 g4) g2)
theorem gl_wrD {index ml n mc ms : Nat} {y : MethodName} {bb : ByteArray} {hh : List (Nat × Nat × Nat × Nat)} {rm : Room} {v : Option Value} (F : FX l s b D T B) (hC : gC p c cc s m args RL D vwCl (tysG T)) (hml : c.maxLocals = 9) (hS : va_S (AL B) s.heap H locs) (hI : LI s D T B μ cap t ν f g H) (hM : gMetH l y bb ml hh rm As (gWD s D T B (Xc B) μ cap t (B + 575) g) (KC s (Xc B)) v (gWD s D T B (Xc B) μ' cap' t' (B + 575) g') (gAo B (Xc B) (B + 575)) mc ms) (hw : gML RL index y bb ml hh n) (hrm : gRm room_1 rm ml mc ms)
    (hn : As.length = n) (hsz : ls.size = 9) (hst : st = As.reverse ++ rest) (hroom : (rest.map fun v => v.category).sum ≤ 8) (hdg : decode cc pc = .ok (.invokestatic index, 3)) (hf : cells + mc ≤ room_1.cells ∧ slots + ms ≤ room_1.slots)
    (kk : ∀ (H1 : Heap) (locs1 : List Loc), LI s D T B μ' cap' t' ν f g' H1 → va_S (AL B) s.heap H1 locs1 → W p l e room_1 s m args below meth c H1 locs1 (cells + mc) (slots + ms) Q (F0 m (pc + 3) ls (v.toList ++ rest))) : W p l e room_1 s m args below meth c H locs cells slots Q (F0 m pc ls st) :=
  gl_callS hC hml hS ⟨hI.1, hI.2.2.2⟩ (KC_law F.2.2.2.2 hS (fun q z => Nat.lt_of_lt_of_le z.2 (LI_sz hI))) KC_blind hM hw (fun q z => z.elim (fun z => z.1) (fun z => by show B ≤ q; omega)) hrm hn hsz hst hroom hdg hf (fun H1 locs1 g1 g2 _ g4 => kk H1 locs1 (LI_wrD hI g1 g4) g2)
/-- the law calls the reference -/
theorem gl_mo {index ml n mc ms : Nat} {y : MethodName} {bb : ByteArray} {ret : Option FieldType} {rm : Room} {v : Option Value} (F : FX l s b D T B) (hC : gC p c cc s m args RL D vwCl (tysG T)) (hml : c.maxLocals = 9) (hS : va_S (AL B) s.heap H locs) (hI : LI s D T B μ cap t ν f g H) (hM : ∀ X : Nat → Prop, (∀ o, o < 12 → ¬ X (B + 562 + o)) → gMet l y bb ml ret rm (.ref (B + 562 + 0) :: As) (gWM D T (B + 562) ν) (KC s X) v (gWM D T (B + 562) ν') (gA (B + 562) X) mc ms) (hw : gMV RL index y bb ml ret n) (hy : y.cls = RX11) (hrm : gRm room_1 rm ml mc ms)
    (hn : As.length = n) (hsz : ls.size = 9) (hst : st = As.reverse ++ .ref (B + 562 + 0) :: rest) (hroom : (rest.map fun v => v.category).sum ≤ 8) (hdg : decode cc pc = .ok (.invokevirtual index, 3)) (hf : cells + mc ≤ room_1.cells ∧ slots + ms ≤ room_1.slots)
    (kk : ∀ (H1 : Heap) (locs1 : List Loc), LI s D T B μ cap t ν' f g H1 → va_S (AL B) s.heap H1 locs1 → W p l e room_1 s m args below meth c H1 locs1 (cells + mc) (slots + ms) Q (F0 m (pc + 3) ls (v.toList ++ rest))) : W p l e room_1 s m args below meth c H locs cells slots Q (F0 m pc ls st) :=
  gw_callV hC hml hS hI.2.1 (KC_law F.2.2.2.2 hS (fun q z => z.1)) KC_blind (hM (Xm B H.size) Xm_m) hw (by rw [hy]; exact gw_recv hC hI.2.1 is_Mo.1 (is_Mo.2.1 T (B + 562) (ν 0)) rfl) (fun q z => by have := z.1; show B ≤ q; omega) hrm hn hsz hst hroom hdg hf (fun H1 locs1 g1 g2 _ g4 => kk H1 locs1 (LI_mo hI g1 g4) g2)
/-- the law calls the gallery itself -/
theorem gl_cl {index ml n : Nat} {y : MethodName} {bb : ByteArray} {ret : Option FieldType} {rm : Room} {v : Option Value} (F : FX l s b D T B) (hC : gC p c cc s m args RL D vwCl (tysG T)) (hml : c.maxLocals = 9) (hS : va_S (AL B) s.heap H locs) (hI : LI s D T B μ cap t ν f g H) (hM : ∀ X : Nat → Prop, (∀ o, o < 560 → ¬ X (B + o)) → gMet l y bb ml ret rm (.ref (B + 0) :: As) (gWC s D T B μ) (KC s X) v (gWC s D T B μ') (gA B X) 0 0) (hw : gMV RL index y bb ml ret n) (hy : y.cls = RX10) (hrm : gRm room_1 rm ml 0 0)
    (hn : As.length = n) (hsz : ls.size = 9) (hst : st = As.reverse ++ .ref (B + 0) :: rest) (hroom : (rest.map fun v => v.category).sum ≤ 8) (hdg : decode cc pc = .ok (.invokevirtual index, 3)) (hf : cells ≤ room_1.cells ∧ slots ≤ room_1.slots)
    (kk : ∀ (H1 : Heap) (locs1 : List Loc), LI s D T B μ' cap t ν f g H1 → va_S (AL B) s.heap H1 locs1 → W p l e room_1 s m args below meth c H1 locs1 cells slots Q (F0 m (pc + 3) ls (v.toList ++ rest))) : W p l e room_1 s m args below meth c H locs cells slots Q (F0 m pc ls st) := by
  have hz := LI_sz hI
  obtain ⟨X', h1, h2, h3, h4⟩ := SBs_frame Xc_g hI.1.2
  refine gw_callV hC hml hS hI.1.1 (KC_law F.2.2.2.2 hS (fun q z => (h3 q z).elim (fun z => Nat.lt_of_lt_of_le z.2 hz) (fun z => z))) KC_blind (hM X' h1) hw (by rw [hy]; exact gw_recv hC hI.1.1 is_Ga.1 (is_Ga.2.2.1 (gfm s) T B (μ 0)) rfl) (fun q z => z.1) hrm hn hsz hst hroom hdg hf (fun H1 locs1 g1 g2 _ g4 => kk H1 locs1 ⟨⟨g1, h4 H1 g4⟩, ?_⟩ g2)
  have h5 : ∀ q, q < H.size → Xc B q → H1[q]? = H[q]? := fun q hq hx => g4 q hq (fun z => (h2 q z).2 hx)
  refine ⟨va_P.kept hI.2.1 (fun k q hq => ?_), hI.2.2.1.kept (h5 _ hI.2.2.1.lt Xc_ob), hI.2.2.2.kept (h5 _ hI.2.2.2.lt Xc_od)⟩
  obtain ⟨ho, rfl⟩ := gL_some hq
  exact h5 _ (by show B + 562 + k < H.size; omega) ⟨by show B + 562 ≤ B + 562 + k; omega, by show B + 562 + k < B + 576; omega⟩
/-- the next turn of the loop -/
def LK (p : Program) (l : Launch) (e : Env) (s : State) (m : MethodId) (b : Nat) (below : List Frame) (meth : Method) (c : Code) (D : va_G) (T : Nat → ClassId) (B j cells slots : Nat) (Q : State → Prop) : Prop :=
  ∀ (μ : Mem) (cap : Nat) (t : List Nat) (ν : Mem) (f : Nat → Int64) (g : Nat → UInt64) (H : Heap) (locs : List Loc) (ls : Array Slot), RR μ ν 0 t → cap ≤ 70 → LI s D T B μ cap t ν f g H → va_S (AL B) s.heap H locs → lv_has ls 9 (LV b B (nI (5 * j))) → W p l e room_1 s m #[.ref b] below meth c H locs (cells + 1450) (slots + 13186) Q (F0 m 3665 ls [])
theorem lk_end {j c1 s1 : Nat} (kk : LK p l e s m b below meth c D T B j cells slots Q) (h1 : c1 ≤ cells + 1450) (h2 : s1 ≤ slots + 13186) (hR : RR μ ν 0 t) (hcap : cap ≤ 70) (hI : LI s D T B μ cap t ν f g H) (hS : va_S (AL B) s.heap H locs) (hl : lv_has ls 9 (LV b B (nI (5 * j)))) : W p l e room_1 s m #[.ref b] below meth c H locs c1 s1 Q (F0 m 3665 ls []) :=
  W.widen h1 h2 (kk μ cap t ν f g H locs ls hR hcap hI hS hl)
theorem sc_in {j L : Nat} (k : Nat) (hj : 5 * j + 5 ≤ L) (hL : L ≤ 2560) (hk : k ≤ 4) : vp_in (nI (5 * j) + nI k) L := by
  rw [nI_add]
  exact vp_in_nI (by omega) (by omega)
theorem gl_lald {f : Nat → Int64} (hC : gC p c cc s m args RL D vwCl (tysG T)) (hE : va_at D vwCl (B + 574, eLo T f) H) (hdg : decode cc pc = .ok (.laload, 1)) (kk : W p l e room_1 s m args below meth c H locs cells slots Q (F0 m (pc + 1) ls (.long (f 0) :: rest))) : W p l e room_1 s m args below meth c H locs cells slots Q (F0 m pc ls (.int 0 :: .ref (B + 574) :: rest)) :=
  va_lald hC.1 hC.2.1 hC.2.2.2.2 (va_P1 hE) 0 8 rfl rfl (show vp_in (nI 0) 1 from vp_in_nI (by decide) (by decide)) hdg kk
theorem gl_dald {f : Nat → UInt64} (hC : gC p c cc s m args RL D vwCl (tysG T)) (hE : va_at D vwCl (B + 575, eDo T f) H) (hdg : decode cc pc = .ok (.daload, 1)) (kk : W p l e room_1 s m args below meth c H locs cells slots Q (F0 m (pc + 1) ls (.double (f 0) :: rest))) : W p l e room_1 s m args below meth c H locs cells slots Q (F0 m pc ls (.int 0 :: .ref (B + 575) :: rest)) :=
  va_dald hC.1 hC.2.1 hC.2.2.2.2 (va_P1 hE) 0 9 rfl rfl (show vp_in (nI 0) 1 from vp_in_nI (by decide) (by decide)) hdg kk
end LP
/-! what the two answers say of each other -/
theorem Sm1 {A : Type} {a : Nat} {out : Nat ⊕ A} {ν : Mem} {a0 : Nat} {ans : A} (h : Sm [a] out ν a0 ans) : ∀ k, out = .inl k → k = a := by
  intro k hk
  rcases h with ⟨v, hv, -⟩ | ⟨i, k', hi, hv, -⟩
  · rw [hk] at hv; cases hv
  · rw [hk] at hv
    cases hv
    have := List.mem_of_getElem? hi
    simpa using this
theorem Sm2 {A : Type} {a b : Nat} {out : Nat ⊕ A} {ν : Mem} {a0 : Nat} {ans : A} (h : Sm [a, b] out ν a0 ans) : ∀ k, out = .inl k → k = a ∨ k = b := by
  intro k hk
  rcases h with ⟨v, hv, -⟩ | ⟨i, k', hi, hv, -⟩
  · rw [hk] at hv; cases hv
  · rw [hk] at hv
    cases hv
    have := List.mem_of_getElem? hi
    simpa using this
theorem Sm3 {A : Type} {a b d : Nat} {out : Nat ⊕ A} {ν : Mem} {a0 : Nat} {ans : A} (h : Sm [a, b, d] out ν a0 ans) : ∀ k, out = .inl k → k = a ∨ k = b ∨ k = d := by
  intro k hk
  rcases h with ⟨v, hv, -⟩ | ⟨i, k', hi, hv, -⟩
  · rw [hk] at hv; cases hv
  · rw [hk] at hv
    cases hv
    have := List.mem_of_getElem? hi
    simpa using this
/-- the number of what was thrown, or zero and the same answer -/
theorem Sm_k {A : Type} {L : List Nat} {out : Nat ⊕ A} {ν : Mem} {a0 : Nat} {ans : A} (h : Sm L out ν a0 ans) (hL : ∀ i, i < L.length → L.idxOf (L.getD i 0) = i) (hz : L.length < 10) : ν a0 6 = kL L out ∧ (kL L out = 0 → out = .inr ans) := by
  rcases h with ⟨v, rfl, h6, rfl⟩ | ⟨i, k, hi, rfl, h6⟩
  · exact ⟨h6, fun _ => rfl⟩
  · have hi9 := (List.getElem?_eq_some_iff.mp hi).1
    have e : kL L (.inl k : Nat ⊕ A) = nI (i + 1) := by
      show nI (L.idxOf k + 1) = _
      have e9 := hL i hi9
      rw [List.getD_eq_getElem?_getD, hi] at e9
      have e9 : L.idxOf k = i := e9
      rw [e9]
    rw [e, h6]
    refine ⟨rfl, fun h0 => ?_⟩
    have := (nI_eq (a := i + 1) (b := 0) (by omega) (by omega)).mp h0
    omega
theorem lg_cmp_self (x : Int64) : lg_cmp x x = 0 := by
  simp [lg_cmp]
theorem i2c_n (x : Int32) : ∃ ch, ch < 65536 ∧ (x.toUInt32 % 65536).toInt32 = nI ch := by
  refine ⟨(x.toUInt32 % 65536).toNat, ?_, ?_⟩
  · rw [UInt32.toNat_mod]
    exact Nat.mod_lt _ (by decide)
  · apply Int32.toBitVec_inj.mp
    show (x.toUInt32 % 65536).toBitVec = BitVec.ofNat 32 (x.toUInt32 % 65536).toBitVec.toNat
    rw [BitVec.ofNat_toNat]
    exact (BitVec.setWidth_eq _).symm
theorem upI_0 {f : Nat → Int64} {out : Nat ⊕ Int32} {v : Int32} (h : out = .inr v) : upI f out 0 = v.toInt64 := by
  subst h; rfl
theorem upZ_0 {f : Nat → Int64} {out : Nat ⊕ Bool} {v : Bool} {z : Int64} (h : out = .inr v) (hz : (if v = true then (1 : Int64) else 0) = z) : upZ f out 0 = z := by
  subst h; exact hz
theorem upD_0 {f : Nat → UInt64} {out : Nat ⊕ UInt64} {v : UInt64} (h : out = .inr v) : upD f out 0 = v := by
  subst h; rfl
theorem upF_0 {f : Nat → UInt64} {out : Nat ⊕ UInt32} {v : UInt32} (h : out = .inr v) : upF f out 0 = FP.f2d v := by
  subst h; rfl
theorem va_S_tr {B B2 : Nat} {H0 H1 H : Heap} {L1 locs : List Loc} (h1 : va_S (AL B) H0 H1 L1) (h2 : va_S (AL B2) H1 H locs) (hB : B ≤ B2) : va_S (AL B) H0 H locs :=
  ⟨Nat.le_trans h1.1 h2.1, fun q hq hn => (h2.2.1 q (Nat.lt_of_lt_of_le hq h1.1) (fun z => hn (Nat.le_trans hB z))).trans (h1.2.1 q hq hn), fun z hz => Nat.le_trans hB (h2.2.2 z hz)⟩
