/-! Printed by program from the text rows: a text of the law's with its nine longs beside it. -/
/-- the nine longs stand outside A -/
def SVJ (D : va_G) (T : Nat → ClassId) (A : Nat → Prop) (j : Nat) (f : Nat → Int64) (H : Heap) : Prop := ¬ A j ∧ va_at D vwCl (j, .inl (T 8, 9, .inr (.inl f))) H
theorem SVJ.kept {D : va_G} {T : Nat → ClassId} {A : Nat → Prop} {j : Nat} {f : Nat → Int64} {H H1 : Heap} (h : SVJ D T A j f H) (hq : ∀ z : Nat, z < H.size → ¬ A z → H1[z]? = H[z]?) : SVJ D T A j f H1 := ⟨h.1, h.2.kept (hq j h.2.lt h.1)⟩
theorem SVJ.narrow {D : va_G} {T : Nat → ClassId} {A A2 : Nat → Prop} {j : Nat} {f : Nat → Int64} {H : Heap} (h : SVJ D T A j f H) (hA : ∀ q, A2 q → A q) : SVJ D T A2 j f H := ⟨fun z => h.1 (hA j z), h.2⟩
def gJS (s0 : State) (D : va_G) (T : Nat → ClassId) (B : Nat) (X : Nat → Prop) (Z : Nat → Int32) (hs : List (Nat → Int32)) (t : List Nat) (j : Nat) (f : Nat → Int64) : Heap → Prop := fun H => ∃ Y : Nat → Prop, gZ s0 D T B (fun z => X z ∨ Y z) Z hs t H ∧ TY X B Y H ∧ SVJ D T (TXA s0 Y) j f H
def gJT (s0 : State) (D : va_G) (T : Nat → ClassId) (B : Nat) (X : Nat → Prop) (Z : Nat → Int32) (hs : List (Nat → Int32)) (t : List Nat) (j : Nat) (f : Nat → Int64) (s : State) (a : Nat) (tx : List Nat) : Heap → Prop := fun H => ∃ Y : Nat → Prop, gZ s0 D T B (fun z => X z ∨ Y z) Z hs t H ∧ TY X B Y H ∧ SVJ D T (TXA s0 Y) j f H ∧ SVA (TXA s0 Y) a tx s H
def gJB (s0 : State) (D : va_G) (T : Nat → ClassId) (B : Nat) (X : Nat → Prop) (Z : Nat → Int32) (hs : List (Nat → Int32)) (t : List Nat) (j : Nat) (f : Nat → Int64) (q : Nat) (u : List Nat) : Heap → Prop := fun H => ∃ (Y : Nat → Prop) (v : Nat) (row : Nat → Int32) (mb : Int32) (cap : Nat), gZ s0 D T B (fun z => X z ∨ Y z) Z hs t H ∧ TY X B Y H ∧ SVJ D T (fun z => TXA s0 Y z ∨ z = q ∨ z = v) j f H ∧ Y q ∧ Y v ∧ q ≠ v ∧ cap ≤ 70 ∧ u.length ≤ cap ∧ sb_Fit row ∧ sb_Lat (fun j => u.getD j 0) u.length row ∧ va_P D vwCl (SBp T q v cap row mb (nI u.length)) H
section GTJ
variable {p : Program} {l : Launch} {e : Env} {R : Room} {s : State} {m : MethodId} {args : Array Value} {below : List Frame} {meth : Method} {c : Code} {H H1 : Heap} {locs : List Loc} {cells slots : Nat} {Q : State → Prop}
variable {cc : ByteArray} {pc : Nat} {ls : Array Slot} {st rest As : List Value} {D : va_G} {own : String} {T : Nat → ClassId} {X : Nat → Prop} {b B : Nat} {s0 : State} {index ml nL n mc ms : Nat} {y : MethodName} {bb : ByteArray} {ret : Option FieldType} {rm : Room} {Z : Nat → Int32} {hs : List (Nat → Int32)} {t tx u t2 : List Nat} {a a2 q N : Nat} {j : Nat} {f : Nat → Int64}
theorem gJS_of (hW : gZJ s0 D T B X Z hs t j f H) : gJS s0 D T B X Z hs t j f H := ⟨fun z => z = j, hW.1, fun z hz => by rw [hz]; exact ⟨hW.2.1.1, hW.2.1.2, hW.2.2.lt⟩, fun w => w (Or.inr rfl), hW.2.2⟩
set_option maxHeartbeats 1000000 in
theorem tj_new {i1 i2 : Nat} (F : FX l s0 b D T B) (hk : KC s0 X s) (hC : gC p c cc s m args own D vwCl (tysG T)) (hml : c.maxLocals = nL) (hS : va_S (gA B X) s.heap H locs) (hW : gJS s0 D T B X Z hs t j f H) (hcl : Cond.classLink own i1 RJ4 ∈ WG ∧ Cond.instantiable RJ4 4 ∈ WG ∧ Cond.initialized RJ4 ∈ WG) (hw : gMI own i2 yJ4_init_da8c8 cJ4_init_da8c8 1 0) (hrm : gRm R rmiJ4 1 1 16) (hsz : ls.size = nL) (hroom : (rest.map fun v => v.category).sum ≤ 7) (hd1 : decode cc pc = .ok (.new i1, 3)) (hd2 : decode cc (pc + 3) = .ok (.dup, 1)) (hd3 : decode cc (pc + 4) = .ok (.invokespecial i2, 3)) (hf : cells + 2 ≤ R.cells ∧ slots + 20 ≤ R.slots)
    (kk : ∀ (q : Nat) (H1 : Heap) (locs1 : List Loc), gJB s0 D T B X Z hs t j f q [] H1 → va_S (gA B X) s.heap H1 locs1 → W p l e R s m args below meth c H1 locs1 (cells + 2) (slots + 20) Q (F0 m (pc + 7) ls (.ref q :: rest))) : W p l e R s m args below meth c H locs cells slots Q (F0 m pc ls rest) := by
  obtain ⟨Y, hg, hY, hV⟩ := hW
  have h561 := gZ_561 hg
  have hXs : ∀ z, X z → z < H.size := fun z hz => Nat.lt_of_lt_of_le (hk.2.2.2 z hz) hS.1
  have hh0 : s0.heap.size ≤ H.size := Nat.le_trans hk.2.1 hS.1
  refine al_obj (C := RJ4) (T := TJ4) (N := 4) (ci := 1) (ws := []) tyJ4 hC hcl uw_J4 tyJ4_ok rfl (fs := [.null, .int 0, .int 0, .int 0]) (fun j hj => by rcases (show j = 0 ∨ j = 1 ∨ j = 2 ∨ j = 3 by omega) with rfl | rfl | rfl | rfl <;> rfl) (fun k q h => by cases h) hS (by omega) (by omega) hd1 (fun H1 hP1 hS1 hz1 hk1 => ?_)
  refine lv_dup hC.1 hC.2.1 hd2 rfl ?_
  have F1 : FX l s0 b D T H.size := ⟨F.1, F.2.1, F.2.2.1, F.2.2.2.1, hh0⟩
  have hE : gE D H.size 1 (fun _ => .inr (1, [.null, .int 0, .int 0, .int 0])) H1 := ⟨hz1, fun o ho => by
    have e : o = 0 := by omega
    subst e
    exact hP1 0 _ rfl⟩
  refine gw_callI (a := H.size) (As := []) (rest := .ref H.size :: rest) (v := none) hC hml hS1 (Wp := gE D H.size 1 (fun _ => .inr (1, [.null, .int 0, .int 0, .int 0]))) hE (KC_at hk hS1 F.2.2.2.2) KC_blind (metJ4_init (o := 0) F1 rfl) hw rfl (fun z hz => ⟨?_, fun h => ?_⟩) hrm rfl hsz rfl (by rw [List.map_cons, List.sum_cons]; show 1 + _ ≤ 8; omega) hd3 ⟨by omega, by omega⟩ (fun H2 locs2 hE2 hS2 hz2 hk2 => ?_)
  · have hz : H.size + 0 ≤ z := hz
    omega
  · have hz : H.size + 0 ≤ z := hz
    have := hXs z h
    omega
  have hP2 : va_P D vwCl (SBp T H.size (H.size + 1) 16 z0 0 (nI ([] : List Nat).length)) H2 := fun k x hx => by
    have h9 := (List.getElem?_eq_some_iff.mp hx).1
    have h9 : k < 2 := h9
    rcases (show k = 0 ∨ k = 1 by omega) with rfl | rfl
    · cases hx
      exact hE2.2 0 (by omega)
    · cases hx
      exact hE2.2 1 (by omega)
  have hkp : ∀ z, z < H.size → H2[z]? = H[z]? := fun z hz => (hk2 z (by omega) (fun w => by
    have w : H.size + 0 ≤ z := w
    omega)).trans (hk1 z hz)
  have hsz2 : H2.size = H.size + 2 := hE2.1
  refine W.widen (k := cells + 2) (n := slots + 20) (by omega) (by omega) (kk H.size H2 locs2 ⟨fun z => Y z ∨ (H.size ≤ z ∧ z < H2.size), H.size + 1, z0, 0, 16, (gZ_grow hg hkp (fun z hz h => ?_)).1, fun z hz => ?_, (hV.kept (fun z hz _ => hkp z hz)).narrow (fun z hz => ?_), Or.inr ⟨Nat.le_refl _, by omega⟩, Or.inr ⟨by omega, by omega⟩, by omega, by omega, Nat.zero_le _, sb_fit0, fun j hj => absurd hj (Nat.not_lt_zero _), hP2⟩ hS2)
  · rcases h with h | h | h
    · exact Or.inl h
    · exact Or.inr h
    · omega
  · rcases hz with hz | hz
    · obtain ⟨g1, g2, g3⟩ := hY z hz
      exact ⟨g1, g2, by omega⟩
    · exact ⟨by omega, fun h => by have := hXs z h; omega, hz.2⟩
  · rcases hz with hz | hz | hz
    · exact fun w => hz (w.imp_right Or.inl)
    · intro w
      rcases w with w | w
      · omega
      · have := (hY z w).2.2
        omega
    · intro w
      rcases w with w | w
      · omega
      · have := (hY z w).2.2
        omega
theorem tj_aft {Y : Nat → Prop} {v cap' : Nat} {u' : List Nat} {tt : Nat → Nat} (hY : TY X B Y H) (hXs : ∀ z, X z → z < H.size) (hh0 : s0.heap.size ≤ H.size) (hg : gZ s0 D T B (fun z => X z ∨ Y z) Z hs t H) (hV : SVJ D T (fun z => TXA s0 Y z ∨ z = q ∨ z = v) j f H) (hq : Y q) (hv : Y v) (hne : q ≠ v) (hc : cap' ≤ 70) (hl : u'.length ≤ cap') (hW : WqA D T q v H.size cap' tt u'.length H1) (ht : ∀ j, j < u'.length → tt j = u'.getD j 0) (hz : H.size ≤ H1.size) (hk : ∀ z, z < H.size → ¬ AS q v H.size z → H1[z]? = H[z]?) : gJB s0 D T B X Z hs t j f q u' H1 := by
  obtain ⟨v', row', mb', h1, h2, h3, hP⟩ := hW
  have h561 := gZ_561 hg
  have hq9 := hY q hq
  have hv9 := hY v hv
  have hP0 := (hP 1 _ rfl).lt
  have hP0 : v' < H1.size := hP0
  have hkp : ∀ z, z < H.size → ¬ (fun z => z = q ∨ z = v) z → H1[z]? = H[z]? := fun z hz hn => hk z hz (fun w => w.elim (fun e => hn (Or.inl e)) (fun w => w.elim (fun e => hn (Or.inr e)) (fun e => by have e : H.size ≤ z := e; omega)))
  have hqv : q ≠ v' := fun e => h1.elim (fun h => hne (e.trans h)) (fun h => by omega)
  refine ⟨fun z => Y z ∨ (H.size ≤ z ∧ z < H1.size), v', row', mb', cap', gZ_step hg hkp (fun z hz => ?_) (fun z hz => ?_) (fun z hz h => ?_), fun z hz9 => ?_, (hV.kept (fun z hz hn => hkp z hz (fun w => hn (Or.inr w)))).narrow (fun z hz9 => ?_), Or.inl hq, ?_, hqv, hc, hl, h2, fun j hj => by have h9 := h3 j hj; rw [ht j hj] at h9; exact h9, hP⟩
  · rcases hz with rfl | rfl
    · exact Or.inr hq
    · exact Or.inr hv
  · rcases hz with rfl | rfl
    · exact hq9.1
    · exact hv9.1
  · rcases h with h | h | h
    · exact Or.inl h
    · exact Or.inr h
    · omega
  · rcases hz9 with hz9 | hz9
    · obtain ⟨g1, g2, g3⟩ := hY z hz9
      exact ⟨g1, g2, by omega⟩
    · exact ⟨by omega, fun h => by have := hXs z h; omega, hz9.2⟩
  · rcases hz9 with hz9 | hz9 | hz9
    · exact Or.inl (fun w => hz9 (w.imp_right Or.inl))
    · exact Or.inr (Or.inl hz9)
    · rcases h1 with h1 | h1
      · exact Or.inr (Or.inr (hz9.trans h1))
      · refine Or.inl (fun w => ?_)
        rcases w with w | w
        · omega
        · have := (hY z w).2.2
          omega
  · rcases h1 with h1 | h1
    · rw [h1]; exact Or.inl hv
    · exact Or.inr ⟨h1, hP0⟩
set_option maxHeartbeats 1000000 in
theorem tj_appG (F : FX l s0 b D T B) (hk : KC s0 X s) (hC : gC p c cc s m args own D vwCl (tysG T)) (hml : c.maxLocals = nL) (hS : va_S (gA B X) s.heap H locs) (hW : gJB s0 D T B X Z hs t j f q u H) (h2 : ∀ (Y : Nat → Prop) (v : Nat), TY X B Y H → SVJ D T (fun z => TXA s0 Y z ∨ z = q ∨ z = v) j f H → Y q → Y v → SVA (AS q v H.size) a2 t2 s H) (hlen : (u ++ t2).length ≤ 35) (hw : gMV own index yJ4_append_15ec4 cJ4_append_15ec4 2 (some (.object RJ4)) 1) (hrm : gRm R rmh3 2 1 300)
    (hsz : ls.size = nL) (hroom : (rest.map fun v => v.category).sum ≤ 8) (hdg : decode cc pc = .ok (.invokevirtual index, 3)) (hf : cells + 1 ≤ R.cells ∧ slots + 300 ≤ R.slots)
    (kk : ∀ (H1 : Heap) (locs1 : List Loc), gJB s0 D T B X Z hs t j f q (u ++ t2) H1 → va_S (gA B X) s.heap H1 locs1 → W p l e R s m args below meth c H1 locs1 (cells + 1) (slots + 300) Q (F0 m (pc + 3) ls (.ref q :: rest))) : W p l e R s m args below meth c H locs cells slots Q (F0 m pc ls (.ref a2 :: .ref q :: rest)) := by
  obtain ⟨Y, v, row, mb, cap, hg, hY, hV, hq, hv, hne, hcap, hlc, hfit, hL, hP⟩ := hW
  have h561 := gZ_561 hg
  have hXs : ∀ z, X z → z < H.size := fun z hz => Nat.lt_of_lt_of_le (hk.2.2.2 z hz) hS.1
  have hh0 : s0.heap.size ≤ H.size := Nat.le_trans hk.2.1 hS.1
  have hB := F.2.2.2.2
  have hq9 := hY q hq
  have hv9 := hY v hv
  have hl9 : (u ++ t2).length = u.length + t2.length := List.length_append
  have hc70 : sb_cap (u.length + t2.length) cap ≤ 70 := sb_cap70 (by omega) hcap
  have hV2 := h2 Y v hY hV hq hv
  refine gw_callV (As := [.ref a2]) hC hml hS (Wp := fun H9 => H9.size = H.size ∧ va_P D vwCl (SBp T q v cap row mb (nI u.length)) H9) ⟨rfl, hP⟩ (fun U hU hWm => ⟨KC_at hk hS F.2.2.2.2 U hU hWm, by rw [hU]; exact hV2.moved hWm.alike⟩) KA_blind (metJ4_appendS (X := X) (a := a2) (t := t2) F hne (by omega) (by omega) hh0 hlc (by omega) (by omega) hfit hL) hw (sb_recv (q0 := 0) hC.2.2.2.2 hP rfl) (AS_gA hk hS h561 hY hq hv) hrm rfl hsz rfl hroom hdg hf (fun H1 locs1 hW1 hS1 hz1 hk1 => kk H1 locs1 (tj_aft (cap' := sb_cap (u.length + t2.length) cap) (tt := sb_cat (fun j => u.getD j 0) u.length (fun j => t2.getD j 0)) hY hXs hh0 hg hV hq hv hne hc70 (by rw [hl9]; exact sb_cap_ge _ _) (by rw [hl9]; exact hW1) (fun j hj => ?_) hz1 hk1) hS1)
  rw [cat_getD]
  rfl
theorem tj_appK {k : Nat} (F : FX l s0 b D T B) (hk : KC s0 X s) (hC : gC p c cc s m args own D vwCl (tysG T)) (hml : c.maxLocals = nL) (hS : va_S (gA B X) s.heap H locs) (hW : gJB s0 D T B X Z hs t j f q u H) (hl : lS k) (hlen : (u ++ lTx k).length ≤ 35) (hw : gMV own index yJ4_append_15ec4 cJ4_append_15ec4 2 (some (.object RJ4)) 1) (hrm : gRm R rmh3 2 1 300)
    (hsz : ls.size = nL) (hroom : (rest.map fun v => v.category).sum ≤ 8) (hdg : decode cc pc = .ok (.invokevirtual index, 3)) (hf : cells + 1 ≤ R.cells ∧ slots + 300 ≤ R.slots)
    (kk : ∀ (H1 : Heap) (locs1 : List Loc), gJB s0 D T B X Z hs t j f q (u ++ lTx k) H1 → va_S (gA B X) s.heap H1 locs1 → W p l e R s m args below meth c H1 locs1 (cells + 1) (slots + 300) Q (F0 m (pc + 3) ls (.ref q :: rest))) : W p l e R s m args below meth c H locs cells slots Q (F0 m pc ls (.ref (lsa s0 k) :: .ref q :: rest)) :=
  tj_appG F hk hC hml hS hW (fun Y v hY _ hq hv => ((zLV F hk hl).kept (fun z hz hn => hS.2.1 z hz (fun w => by
    have h1 := F.2.2.2.2
    have h2 : B ≤ z := w.1
    have h3 : ¬ s0.heap.size ≤ z := hn
    omega))).narrow (fun z hz => by
    have h1 := F.2.2.2.2
    have h2 : s0.heap.size ≤ H.size := Nat.le_trans hk.2.1 hS.1
    have h3 := (hY q hq).1
    have h4 := (hY v hv).1
    show s0.heap.size ≤ z
    rcases hz with rfl | rfl | hz
    · omega
    · omega
    · omega)) hlen hw hrm hsz hroom hdg hf kk
set_option maxHeartbeats 1000000 in
theorem tj_num {x : Int32} {ds : List Nat} (F : FX l s0 b D T B) (hk : KC s0 X s) (hC : gC p c cc s m args own D vwCl (tysG T)) (hml : c.maxLocals = nL) (hS : va_S (gA B X) s.heap H locs) (hW : gJB s0 D T B X Z hs t j f q u H) (hx9 : NumP N x ds) (hlen : (u ++ ds).length ≤ 35) (hw : gMV own index yJ4_append_bf812 cJ4_append_bf812 2 (some (.object RJ4)) 1) (hrm : gRm R rmg4 2 1 300)
    (hsz : ls.size = nL) (hroom : (rest.map fun v => v.category).sum ≤ 8) (hdg : decode cc pc = .ok (.invokevirtual index, 3)) (hf : cells + 1 ≤ R.cells ∧ slots + 300 ≤ R.slots)
    (kk : ∀ (H1 : Heap) (locs1 : List Loc), gJB s0 D T B X Z hs t j f q (u ++ ds) H1 → va_S (gA B X) s.heap H1 locs1 → W p l e R s m args below meth c H1 locs1 (cells + 1) (slots + 300) Q (F0 m (pc + 3) ls (.ref q :: rest))) : W p l e R s m args below meth c H locs cells slots Q (F0 m pc ls (.int x :: .ref q :: rest)) := by
  obtain ⟨Y, v, row, mb, cap, hg, hY, hV, hq, hv, hne, hcap, hlc, hfit, hL, hP⟩ := hW
  have h561 := gZ_561 hg
  have hXs : ∀ z, X z → z < H.size := fun z hz => Nat.lt_of_lt_of_le (hk.2.2.2 z hz) hS.1
  have hh0 : s0.heap.size ≤ H.size := Nat.le_trans hk.2.1 hS.1
  have hB := F.2.2.2.2
  have hq9 := hY q hq
  have hv9 := hY v hv
  have hl9 : (u ++ ds).length = u.length + ds.length := List.length_append
  have hc70 : sb_cap (u.length + ds.length) cap ≤ 70 := sb_cap70 (by omega) hcap
  have hge := sb_cap_ge (u.length + ds.length) cap
  have hM := metJ4_appendI (X := X) (h0 := H.size) (sb := q) (v := v) (cap := cap) (n := u.length) (w := ds.length) (N := N) (row := row) (mb := mb) (x := x) (t2 := fun j => (u ++ ds).getD j 0) F hne (by omega) (by omega) hh0 (by omega) (by omega) hfit (hx9.1 _) (fun row1 hf1 hag => by
    obtain ⟨r, h1, h2, h3, h4⟩ := hx9.2 (sb_cap (u.length + ds.length) cap) u.length row1 hf1 hge (by omega)
    refine ⟨r, h1, h2, fun j hj => ?_⟩
    show (u ++ ds).getD j 0 < 256 ∧ r.1 0 j = sb_b ((u ++ ds).getD j 0)
    rw [cat_getD]
    by_cases h : j < u.length
    · rw [if_pos h, h3 j h, hag j (by omega)]
      exact hL j h
    · rw [if_neg h]
      have := h4 (j - u.length) (by omega)
      rw [show u.length + (j - u.length) = j by omega] at this
      exact this)
  refine gw_callV (As := [.int x]) hC hml hS (Wp := fun H9 => H9.size = H.size ∧ va_P D vwCl (SBp T q v cap row mb (nI u.length)) H9) ⟨rfl, hP⟩ (KC_at hk hS F.2.2.2.2) KC_blind hM hw (sb_recv (q0 := 0) hC.2.2.2.2 hP rfl) (AS_gA hk hS h561 hY hq hv) hrm rfl hsz rfl hroom hdg hf (fun H1 locs1 hW1 hS1 hz1 hk1 => kk H1 locs1 (tj_aft (cap' := sb_cap (u.length + ds.length) cap) (tt := fun j => (u ++ ds).getD j 0) hY hXs hh0 hg hV hq hv hne hc70 (by rw [hl9]; exact hge) (by rw [hl9]; exact hW1) (fun j hj => rfl) hz1 hk1) hS1)
set_option maxHeartbeats 1000000 in
theorem tj_str (F : FX l s0 b D T B) (hk : KC s0 X s) (hC : gC p c cc s m args own D vwCl (tysG T)) (hml : c.maxLocals = nL) (hS : va_S (gA B X) s.heap H locs) (hW : gJB s0 D T B X Z hs t j f q u H) (hw : gMV own index yJ4_toString_0e30d cJ4_toString_0e30d 1 (some (.object RJ0)) 0) (hrm : gRm R rmk3 1 2 304)
    (hsz : ls.size = nL) (hroom : (rest.map fun v => v.category).sum ≤ 8) (hdg : decode cc pc = .ok (.invokevirtual index, 3)) (hf : cells + 2 ≤ R.cells ∧ slots + 304 ≤ R.slots)
    (kk : ∀ (a' : Nat) (H1 : Heap) (locs1 : List Loc), gJT s0 D T B X Z hs t j f s a' u H1 → va_S (gA B X) s.heap H1 locs1 → W p l e R s m args below meth c H1 locs1 (cells + 2) (slots + 304) Q (F0 m (pc + 3) ls (.ref a' :: rest))) : W p l e R s m args below meth c H locs cells slots Q (F0 m pc ls (.ref q :: rest)) := by
  obtain ⟨Y, v, row, mb, cap, hg, hY, hV, hq, hv, hne, hcap, hlc, hfit, hL, hP⟩ := hW
  have h561 := gZ_561 hg
  have hXs : ∀ z, X z → z < H.size := fun z hz => Nat.lt_of_lt_of_le (hk.2.2.2 z hz) hS.1
  have hts := hC.2.2.2.1
  have hK := hC.2.2.2.2
  refine gn_callV (As := []) hC hml hS (fun z hz => ⟨by have hz : H.size ≤ z := hz; omega, fun h => by have := hXs z h; have hz : H.size ≤ z := hz; omega⟩) (fun U hU hWm => ⟨KC_at hk hS F.2.2.2.2 U hU hWm, by rw [hU]; exact hP⟩) KS_blind (metJ4_toString (X := X) F hlc (by omega) hfit) hw (sb_recv (q0 := 0) hK hP rfl) hrm rfl hsz rfl hroom hdg hf (fun a' H1 locs1 ha hPn hS1 hz1 hk1 => ?_)
  obtain ⟨w, row', hw0, hr1, hP2⟩ := hPn
  have ha1 : a' < H1.size := (hP2 0 _ rfl).lt
  have hw1 : w < H1.size := (hP2 1 _ rfl).lt
  refine kk a' H1 locs1 ⟨fun z => Y z ∨ (H.size ≤ z ∧ z < H1.size), (gZ_grow hg hk1 (fun z hz h => ?_)).1, fun z hz9 => ?_, (hV.kept (fun z hz _ => hk1 z hz)).narrow (fun z hz => Or.inl (fun w => hz (w.imp_right Or.inl))), SVA_of hts hK hP2 (q0 := 0) (q1 := 1) rfl rfl (by omega) (fun j hj => ?_) (fun z => z (Or.inr (Or.inr ⟨ha, ha1⟩))) (fun z => z (Or.inr (Or.inr ⟨hw0, hw1⟩)))⟩ hS1
  · rcases h with h | h | h
    · exact Or.inl h
    · exact Or.inr h
    · omega
  · rcases hz9 with hz9 | hz9
    · obtain ⟨g1, g2, g3⟩ := hY z hz9
      exact ⟨g1, g2, by omega⟩
    · exact ⟨by omega, fun h => by have := hXs z h; omega, hz9.2⟩
  · have h9 := hL j hj
    exact ⟨h9.1, by rw [hr1 j hj]; exact h9.2⟩
/-- the law executes a text, with the longs beside it -/
theorem tj_exec (F : FX l s0 b D T B) (hX : ∀ o, o < 561 → ¬ X (B + o)) (hk : KC s0 X s) (hC : gC p c cc s m args own D vwCl (tysG T)) (hml : c.maxLocals = nL) (hS : va_S (gA B X) s.heap H locs) (hj : B + 561 ≤ j ∧ ¬ X j) (hW : gJT s0 D T B X Z hs t j f s a tx H) (hM : ∀ X1 : Nat → Prop, (∀ o, o < 561 → ¬ X1 (B + o)) → gMetQ l y bb ml ret rm As (gZ s0 D T B X1 Z hs t) (KA s0 X1 (gA B X1) a tx) (gCH s0 D T B X1 Z hs t (fun _ => True) (fun _ _ => True)) (gA B X1) mc ms) (hw : gMS own index y bb ml ret n) (hrm : gRm R rm ml mc ms)
    (hn : As.length = n) (hsz : ls.size = nL) (hst : st = As.reverse ++ rest) (hroom : (rest.map fun v => v.category).sum ≤ 8) (hdg : decode cc pc = .ok (.invokestatic index, 3)) (hf : cells + mc ≤ R.cells ∧ slots + ms ≤ R.slots)
    (kk : ∀ (x : Int32) (Z2 : Nat → Int32) (hs2 : List (Nat → Int32)) (H1 : Heap) (locs1 : List Loc), RCH Z hs (fun _ => True) (fun _ _ => True) x Z2 hs2 → gZJ s0 D T B X Z2 hs2 t j f H1 → va_S (gA B X) s.heap H1 locs1 → W p l e R s m args below meth c H1 locs1 (cells + mc) (slots + ms) Q (F0 m (pc + 3) ls (.int x :: rest))) : W p l e R s m args below meth c H locs cells slots Q (F0 m pc ls st) := by
  obtain ⟨Y, hg, hY, hJ, hV⟩ := hW
  obtain ⟨hx, hb, hown, hts, -⟩ := hC
  have hB := F.2.2.2.2
  have hYj : Y j := Classical.byContradiction fun hn9 => hJ.1 (fun w => w.elim (fun h => by omega) hn9)
  refine gr_ret (As := As) (va_runS ⟨hx, hb, hml, hown, hts⟩ (hM (fun z => X z ∨ Y z) (TY_nb hX hY)) ⟨gw_cb hts hw.1 hrm, hts _ hw.2⟩ ⟨gPc_blind KA_blind, fun U hU hWm => ⟨rfl, by rw [hU]; exact hg, KC_frame F hk hS (fun z hz => hz.imp id (fun h => (hY z h).2.2)) U hU hWm, by rw [hU]; exact (hV.moved hWm.alike).narrow (TXA_gA F)⟩⟩ rfl hn hsz hst (lv_room hroom) hdg hf) hS (fun z hz => ⟨hz.1, fun q => hz.2 (Or.inl q)⟩) (fun v H1 locs1 hq hS1 hle hkp => ?_)
  obtain ⟨x, Z2, hs2, rfl, hR, hZ⟩ := rr_execute hq
  exact kk x Z2 hs2 H1 locs1 hR ⟨gZ_cg hZ (fun z hz => hz.imp id (fun e => by rw [e]; exact hYj)), hj, hJ.2.kept (hkp j hJ.2.lt (fun z => z.2 (Or.inr hYj)))⟩ hS1
end GTJ
