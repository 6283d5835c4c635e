/-! What the class asks of its text builder. -/
section SB6
variable {l : Launch} {s0 s : State} {b B : Nat} {D : va_G} {T : Nat → ClassId} {X : Nat → Prop}
variable {p : Program} {e : Env} {R : Room} {m : MethodId} {args : Array Value} {below : List Frame} {meth : Method} {c : Code} {H : Heap} {locs : List Loc} {cells slots : Nat} {Q : State → Prop} {cc : ByteArray} {pc : Nat} {ls : Array Slot} {rest : List Value} {own : String} {nL index cap N : Nat} {μ : Mem} {t : List Nat}
theorem sbs_of {v h0 cap' : Nat} {t' : List Nat} {t2 : Nat → Nat} {H1 : Heap} (hv : B + 560 < v) (hXv : ¬ X v) (hXs : ∀ z, X z → z < h0) (hh : B + 560 < h0) (hcap : cap' ≤ 300) (hlen : t'.length ≤ cap') (h : WqA D T (B + 560) v h0 cap' t2 t'.length H1) (ht : ∀ j, j < t'.length → t2 j = t'.getD j 0) : SBs D T B X cap' t' H1 := by
  obtain ⟨v', row', mb', h1, h2, h3, h4⟩ := h
  refine ⟨v', row', mb', ?_, ?_, hcap, hlen, h2, fun j hj => ?_, h4⟩
  · rcases h1 with rfl | h1
    · exact hv
    · omega
  · rcases h1 with rfl | h1
    · exact hXv
    · exact fun z => absurd (hXs _ z) (by omega)
  · have := h3 j hj
    rw [ht j hj] at this
    exact this
theorem cat_getD {u : List Nat} {j : Nat} : (t ++ u).getD j 0 = if j < t.length then t.getD j 0 else u.getD (j - t.length) 0 := by
  by_cases h : j < t.length
  · rw [if_pos h, List.getD_eq_getElem?_getD, List.getD_eq_getElem?_getD, List.getElem?_append_left h]
  · rw [if_neg h, List.getD_eq_getElem?_getD, List.getD_eq_getElem?_getD, List.getElem?_append_right (by omega)]
set_option maxHeartbeats 4000000 in
set_option maxRecDepth 100000 in
theorem g_sbChr (F : FX l s0 b D T B) (hX : ∀ o, o < 561 → ¬ X (B + o)) (hk : KC s0 X s) (hC : gC p c cc s m args own D vwCl (tysG T)) (hml : c.maxLocals = nL) (hS : va_S (gA B X) s.heap H locs) (hW : gWS s0 D T B X μ cap t H) {c0 : Nat} (hc : c0 < 256) (hq3 : sb_cap (t.length + 1) cap ≤ 300) (hw : gMV own index yJ4_append_cf468 cJ4_append_cf468 2 (some (.object RJ4)) 1) (hrm : gRm R rmg4 2 1 300) (hsz : ls.size = nL) (hroom : (rest.map fun v => v.category).sum ≤ 8) (hdg : decode cc pc = .ok (.invokevirtual index, 3)) (hf : cells + 1 ≤ R.cells ∧ slots + 300 ≤ R.slots)
    (kk : ∀ (H1 : Heap) (locs1 : List Loc), gWS s0 D T B X μ (sb_cap (t.length + 1) cap) (t ++ [c0]) H1 → va_S (gA B X) s.heap H1 locs1 → W p l e R s m args below meth c H1 locs1 (cells + 1) (slots + 300) Q (F0 m (pc + 3) ls (.ref (B + 560) :: rest))) : W p l e R s m args below meth c H locs cells slots Q (F0 m pc ls (.int (nI c0) :: .ref (B + 560) :: rest)) := by
  obtain ⟨hWc, v, row, mb, hv, hXv, hcap, hlen, hfit, hL, hP⟩ := id hW
  have hsbl : B + 560 < H.size := (hP 0 _ rfl).lt
  have hXs : ∀ z, X z → z < H.size := fun z hz => Nat.lt_of_lt_of_le (hk.2.2.2 z hz) hS.1
  have hh0 : s0.heap.size ≤ H.size := Nat.le_trans hk.2.1 hS.1
  have hB := F.2.2.2.2
  have hA : ∀ z, AS (B + 560) v H.size z → gA B X z := fun z hz => hz.elim (fun e => e ▸ ⟨by omega, hX 560 (by omega)⟩) (fun hz => hz.elim (fun e => e ▸ ⟨by omega, hXv⟩) (fun e => ⟨by omega, fun h => absurd (hXs z h) (by omega)⟩))
  have hkeep : ∀ {H1 : Heap}, (∀ q, q < H.size → ¬ AS (B + 560) v H.size q → H1[q]? = H[q]?) → gWC s0 D T B μ H1 := fun hk1 => hWc.kept fun k x hx => by
    obtain ⟨h1, rfl⟩ := gL_some hx
    exact hk1 _ (by show B + k < H.size; omega) (fun z => z.elim (fun e => by have e : B + k = B + 560 := e; omega) (fun z => z.elim (fun e => by have e : B + k = v := e; omega) (fun e => by have e : H.size ≤ B + k := e; omega)))
  refine gw_callV (As := [.int (nI c0)]) hC hml hS (Wp := fun H9 => H9.size = H.size ∧ va_P D vwCl (SBp T (B + 560) v cap row mb (nI t.length)) H9) ⟨rfl, hP⟩ (KC_at hk hS F.2.2.2.2) KC_blind (metJ4_appendC (X := X) F (by omega) (by omega) (by omega) hh0 hlen hcap hq3 hfit hL hc) hw (sb_recv (q0 := 0) hC.2.2.2.2 hP rfl) hA hrm rfl hsz rfl hroom hdg hf (fun H1 locs1 hW1 hS1 _ hk1 => kk H1 locs1 ⟨hkeep hk1, ?_⟩ hS1)
  have hl9 : (t ++ [c0]).length = t.length + 1 := by rw [List.length_append]; rfl
  refine sbs_of hv hXv hXs hsbl hq3 (by rw [hl9]; exact sb_cap_ge _ _) (by rw [hl9]; exact hW1) (fun j hj => ?_)
  rw [hl9] at hj
  rw [cat_getD]
  show (if j < t.length then t.getD j 0 else c0) = _
  by_cases h : j < t.length
  · rw [if_pos h, if_pos h]
  · rw [if_neg h, if_neg h, show j - t.length = 0 by omega]
    rfl
set_option maxHeartbeats 4000000 in
set_option maxRecDepth 100000 in
theorem g_sbNil (F : FX l s0 b D T B) (hX : ∀ o, o < 561 → ¬ X (B + o)) (hk : KC s0 X s) (hC : gC p c cc s m args own D vwCl (tysG T)) (hml : c.maxLocals = nL) (hS : va_S (gA B X) s.heap H locs) (hW : gWS s0 D T B X μ cap t H) (hw : gMV own index yJ4_setLength_d00df cJ4_setLength_d00df 2 none 1) (hrm : gRm R rmg4 2 1 300) (hsz : ls.size = nL) (hroom : (rest.map fun v => v.category).sum ≤ 8) (hdg : decode cc pc = .ok (.invokevirtual index, 3)) (hf : cells + 1 ≤ R.cells ∧ slots + 300 ≤ R.slots)
    (kk : ∀ (H1 : Heap) (locs1 : List Loc), gWS s0 D T B X μ cap [] H1 → va_S (gA B X) s.heap H1 locs1 → W p l e R s m args below meth c H1 locs1 (cells + 1) (slots + 300) Q (F0 m (pc + 3) ls (rest))) : W p l e R s m args below meth c H locs cells slots Q (F0 m pc ls (.int 0 :: .ref (B + 560) :: rest)) := by
  obtain ⟨hWc, v, row, mb, hv, hXv, hcap, hlen, hfit, hL, hP⟩ := id hW
  have hsbl : B + 560 < H.size := (hP 0 _ rfl).lt
  have hXs : ∀ z, X z → z < H.size := fun z hz => Nat.lt_of_lt_of_le (hk.2.2.2 z hz) hS.1
  have hh0 : s0.heap.size ≤ H.size := Nat.le_trans hk.2.1 hS.1
  have hB := F.2.2.2.2
  have hA : ∀ z, AS (B + 560) v H.size z → gA B X z := fun z hz => hz.elim (fun e => e ▸ ⟨by omega, hX 560 (by omega)⟩) (fun hz => hz.elim (fun e => e ▸ ⟨by omega, hXv⟩) (fun e => ⟨by omega, fun h => absurd (hXs z h) (by omega)⟩))
  have hkeep : ∀ {H1 : Heap}, (∀ q, q < H.size → ¬ AS (B + 560) v H.size q → H1[q]? = H[q]?) → gWC s0 D T B μ H1 := fun hk1 => hWc.kept fun k x hx => by
    obtain ⟨h1, rfl⟩ := gL_some hx
    exact hk1 _ (by show B + k < H.size; omega) (fun z => z.elim (fun e => by have e : B + k = B + 560 := e; omega) (fun z => z.elim (fun e => by have e : B + k = v := e; omega) (fun e => by have e : H.size ≤ B + k := e; omega)))
  refine gw_callV (As := [.int 0]) hC hml hS (Wp := fun H9 => H9.size = H.size ∧ va_P D vwCl (SBp T (B + 560) v cap row mb (nI t.length)) H9) ⟨rfl, hP⟩ (KC_at hk hS F.2.2.2.2) KC_blind (metJ4_setLength0 (X := X) (t := fun _ => 0) F (by omega) (by omega) (by omega) hh0 hlen hcap hfit) hw (sb_recv (q0 := 0) hC.2.2.2.2 hP rfl) hA hrm rfl hsz rfl hroom hdg hf (fun H1 locs1 hW1 hS1 _ hk1 => kk H1 locs1 ⟨hkeep hk1, ?_⟩ hS1)
  exact sbs_of hv hXv hXs hsbl hcap (Nat.zero_le _) hW1 (fun j hj => absurd hj (Nat.not_lt_zero j))
/-- the JDK writes x as the letters ds -/
def NumP (N : Nat) (x : Int32) (ds : List Nat) : Prop := (∀ μ : Mem, fJ6_stringSize_0f7a4 N μ x = some (nI ds.length)) ∧ ∀ (cap n : Nat) (row : Nat → Int32), sb_Fit row → n + ds.length ≤ cap → cap ≤ 300 → ∃ r, fJ6_getChars_ba4f3 N cap (fun _ => row) x (nI (n + ds.length)) 0 = some r ∧ sb_Fit (r.1 0) ∧ (∀ j, j < n → r.1 0 j = row j) ∧ ∀ j, j < ds.length → ds.getD j 0 < 256 ∧ r.1 0 (n + j) = sb_b (ds.getD j 0)
set_option maxHeartbeats 4000000 in
set_option maxRecDepth 100000 in
theorem g_sbNum (F : FX l s0 b D T B) (hX : ∀ o, o < 561 → ¬ X (B + o)) (hk : KC s0 X s) (hC : gC p c cc s m args own D vwCl (tysG T)) (hml : c.maxLocals = nL) (hS : va_S (gA B X) s.heap H locs) (hW : gWS s0 D T B X μ cap t H) {x : Int32} {ds : List Nat} (hx9 : NumP N x ds) (hq3 : sb_cap (t.length + ds.length) cap ≤ 300) (hw : gMV own index yJ4_append_bf812 cJ4_append_bf812 2 (some (.object RJ4)) 1) (hrm : gRm R rmg4 2 1 300) (hsz : ls.size = nL) (hroom : (rest.map fun v => v.category).sum ≤ 8) (hdg : decode cc pc = .ok (.invokevirtual index, 3)) (hf : cells + 1 ≤ R.cells ∧ slots + 300 ≤ R.slots)
    (kk : ∀ (H1 : Heap) (locs1 : List Loc), gWS s0 D T B X μ (sb_cap (t.length + ds.length) cap) (t ++ ds) H1 → va_S (gA B X) s.heap H1 locs1 → W p l e R s m args below meth c H1 locs1 (cells + 1) (slots + 300) Q (F0 m (pc + 3) ls (.ref (B + 560) :: rest))) : W p l e R s m args below meth c H locs cells slots Q (F0 m pc ls (.int x :: .ref (B + 560) :: rest)) := by
  obtain ⟨hWc, v, row, mb, hv, hXv, hcap, hlen, hfit, hL, hP⟩ := id hW
  have hsbl : B + 560 < H.size := (hP 0 _ rfl).lt
  have hXs : ∀ z, X z → z < H.size := fun z hz => Nat.lt_of_lt_of_le (hk.2.2.2 z hz) hS.1
  have hh0 : s0.heap.size ≤ H.size := Nat.le_trans hk.2.1 hS.1
  have hB := F.2.2.2.2
  have hA : ∀ z, AS (B + 560) v H.size z → gA B X z := fun z hz => hz.elim (fun e => e ▸ ⟨by omega, hX 560 (by omega)⟩) (fun hz => hz.elim (fun e => e ▸ ⟨by omega, hXv⟩) (fun e => ⟨by omega, fun h => absurd (hXs z h) (by omega)⟩))
  have hkeep : ∀ {H1 : Heap}, (∀ q, q < H.size → ¬ AS (B + 560) v H.size q → H1[q]? = H[q]?) → gWC s0 D T B μ H1 := fun hk1 => hWc.kept fun k x hx => by
    obtain ⟨h1, rfl⟩ := gL_some hx
    exact hk1 _ (by show B + k < H.size; omega) (fun z => z.elim (fun e => by have e : B + k = B + 560 := e; omega) (fun z => z.elim (fun e => by have e : B + k = v := e; omega) (fun e => by have e : H.size ≤ B + k := e; omega)))
  have hge := sb_cap_ge (t.length + ds.length) cap
  have hM := metJ4_appendI (X := X) (h0 := H.size) (sb := B + 560) (v := v) (cap := cap) (n := t.length) (w := ds.length) (N := N) (row := row) (mb := mb) (x := x) (t2 := fun j => (t ++ ds).getD j 0) F (by omega) (by omega) (by omega) hh0 hcap hq3 hfit (hx9.1 _) (fun row1 hf1 hag => by
    obtain ⟨r, h1, h2, h3, h4⟩ := hx9.2 (sb_cap (t.length + ds.length) cap) t.length row1 hf1 hge hq3
    refine ⟨r, h1, h2, fun j hj => ?_⟩
    show (t ++ ds).getD j 0 < 256 ∧ r.1 0 j = sb_b ((t ++ ds).getD j 0)
    rw [cat_getD]
    by_cases h : j < t.length
    · rw [if_pos h, h3 j h, hag j (by omega)]
      exact hL j h
    · rw [if_neg h]
      have := h4 (j - t.length) (by omega)
      rw [show t.length + (j - t.length) = j by omega] at this
      exact this)
  refine gw_callV (As := [.int x]) hC hml hS (Wp := fun H9 => H9.size = H.size ∧ va_P D vwCl (SBp T (B + 560) v cap row mb (nI t.length)) H9) ⟨rfl, hP⟩ (KC_at hk hS F.2.2.2.2) KC_blind hM hw (sb_recv (q0 := 0) hC.2.2.2.2 hP rfl) hA hrm rfl hsz rfl hroom hdg hf (fun H1 locs1 hW1 hS1 _ hk1 => kk H1 locs1 ⟨hkeep hk1, ?_⟩ hS1)
  have hl9 : (t ++ ds).length = t.length + ds.length := List.length_append
  exact sbs_of hv hXv hXs hsbl hq3 (by rw [hl9]; exact hge) (by rw [hl9]; exact hW1) (fun j hj => rfl)
set_option maxHeartbeats 4000000 in
set_option maxRecDepth 100000 in
theorem g_sbLen (F : FX l s0 b D T B) (hk : KC s0 X s) (hC : gC p c cc s m args own D vwCl (tysG T)) (hml : c.maxLocals = nL) (hS : va_S (gA B X) s.heap H locs) (hW : gWS s0 D T B X μ cap t H) (hw : gMV own index yJ4_length_8abf5 cJ4_length_8abf5 1 (some .int) 0) (hrm : gRm R rms1 1 0 0) (hsz : ls.size = nL) (hroom : (rest.map fun v => v.category).sum ≤ 8) (hdg : decode cc pc = .ok (.invokevirtual index, 3)) (hf : cells ≤ R.cells ∧ slots ≤ R.slots)
    (kk : ∀ (locs1 : List Loc), va_S (gA B X) s.heap H locs1 → W p l e R s m args below meth c H locs1 cells slots Q (F0 m (pc + 3) ls (.int (nI t.length) :: rest))) : W p l e R s m args below meth c H locs cells slots Q (F0 m pc ls (.ref (B + 560) :: rest)) := by
  obtain ⟨hWc, v, row, mb, hv, hXv, hcap, hlen, hfit, hL, hP⟩ := id hW
  exact gw_callV (As := []) hC hml hS (Wp := eqH H) rfl (fun U hU hWm => ⟨KC_at hk hS F.2.2.2.2 U hU hWm, by rw [hU]; exact hP⟩) KS_blind (metJ4_length (X := X) F) hw (sb_recv (q0 := 0) hC.2.2.2.2 hP rfl) (fun q (z : False) => z.elim) hrm rfl hsz rfl hroom hdg hf (fun H1 locs1 h1 h2 _ _ => by cases h1; exact kk locs1 h2)
end SB6
