/-! Calls of the class's own methods with the text builder behind. -/
section SB7
variable {l : Launch} {s0 s : State} {b B : Nat} {D : va_G} {T : Nat → ClassId} {X : Nat → Prop}
variable {p : Program} {e : Env} {R : Room} {m : MethodId} {args : Array Value} {below : List Frame} {meth : Method} {c : Code} {H : Heap} {locs : List Loc} {cells slots : Nat} {Q : State → Prop} {cc : ByteArray} {pc : Nat} {ls : Array Slot} {rest st As : List Value} {own : String} {nL index cap n ml mc ms a : Nat} {μ μ1 : Mem} {t : List Nat} {y : MethodName} {bb : ByteArray} {ret : Option FieldType} {rm : Room} {out : Nat ⊕ Option Value} {v : Option Value}
theorem SBs_frame (hX : ∀ o, o < 561 → ¬ X (B + o)) (h : SBs D T B X cap t H) : ∃ X' : Nat → Prop, (∀ o, o < 560 → ¬ X' (B + o)) ∧ (∀ z, gA B X' z → gA B X z) ∧ (∀ z, X' z → X z ∨ z < H.size) ∧ ∀ H1 : Heap, (∀ q, q < H.size → ¬ gA B X' q → H1[q]? = H[q]?) → SBs D T B X cap t H1 := by
  obtain ⟨v, row, mb, h1, h2, h3, h4, h5, h6, hP⟩ := h
  have hs : B + 560 < H.size := (hP 0 _ rfl).lt
  have hv : v < H.size := (hP 1 _ rfl).lt
  refine ⟨fun z => X z ∨ z = B + 560 ∨ z = v, fun o ho z => z.elim (hX o (by omega)) (fun z => z.elim (fun e => by omega) (fun e => by omega)), fun z hz => ⟨hz.1, fun h => hz.2 (Or.inl h)⟩, fun z hz => hz.imp id (fun hz => hz.elim (fun e => by omega) (fun e => by omega)), fun H1 hk => ⟨v, row, mb, h1, h2, h3, h4, h5, h6, hP.kept fun k x hx => ?_⟩⟩
  have h9 := (List.getElem?_eq_some_iff.mp hx).1
  have h9 : k < 2 := h9
  rcases (show k = 0 ∨ k = 1 by omega) with rfl | rfl
  · cases hx
    exact hk _ hs (fun z => z.2 (Or.inr (Or.inl rfl)))
  · cases hx
    exact hk _ hv (fun z => z.2 (Or.inr (Or.inr rfl)))
theorem KC_frame {X' : Nat → Prop} (F : FX l s0 b D T B) (hk : KC s0 X s) (hS : va_S (gA B X) s.heap H locs) (h3 : ∀ z, X' z → X z ∨ z < H.size) : ∀ U : State, U.heap = H → s.WarmedH U.vm → KC s0 X' U := fun U hU hWm => by
  obtain ⟨a1, a2, a3, a4⟩ := KC_at hk hS F.2.2.2.2 U hU hWm
  exact ⟨a1, a2, a3, fun z hz => (h3 z hz).elim (a4 z) (fun h => by rw [hU]; exact h)⟩
theorem gs_callXV (F : FX l s0 b D T B) (hX : ∀ o, o < 561 → ¬ X (B + o)) (hk : KC s0 X s) (hC : gC p c cc s m args own D vwCl (tysG T)) (hml : c.maxLocals = nL) (hS : va_S (gA B X) s.heap H locs) (hW : gWS s0 D T B X μ cap t H) (hM : ∀ X' : Nat → Prop, (∀ o, o < 560 → ¬ X' (B + o)) → gXMet l y bb ml ret rm (.ref a :: As) (gWC s0 D T B μ) (KC s0 X') out (gWC s0 D T B μ1) (gA B X') mc ms) (hw : gMV own index y bb ml ret n) (hrecv : ∃ cell : Cell, H[a]? = some cell ∧ cell.vm.isStatics = false ∧ s.vm.findClass y.cls = some cell.cls) (hrm : gRm R rm ml mc ms)
    (hn : As.length = n) (hsz : ls.size = nL) (hst : st = As.reverse ++ .ref a :: rest) (hroom : (rest.map fun v => v.category).sum ≤ 8) (hdg : decode cc pc = .ok (.invokevirtual index, 3)) (hf : cells + mc ≤ R.cells ∧ slots + ms ≤ R.slots)
    (kk : ∀ v, out = .inr v → ∀ (H1 : Heap) (locs1 : List Loc), gWS s0 D T B X μ1 cap t H1 → va_S (gA B X) s.heap H1 locs1 → W p l e R s m args below meth c H1 locs1 (cells + mc) (slots + ms) Q (F0 m (pc + 3) ls (v.toList ++ rest)))
    (kx : ∀ k, out = .inl k → ∀ (H1 : Heap) (locs1 : List Loc) (q : Addr) (ce : Cell), gWS s0 D T B X μ1 cap t H1 → va_S (gA B X) s.heap H1 locs1 → H1[q]? = some ce → ce.vm = .none → s.vm.findClass (exn k) = some ce.cls → vx_W p l e R s m args below meth c H1 locs1 (cells + mc) (slots + ms) Q (F0 m pc ls rest) q) : W p l e R s m args below meth c H locs cells slots Q (F0 m pc ls st) := by
  obtain ⟨hx, hb, hown, hts, -⟩ := hC
  obtain ⟨X', h1, h2, h3, h4⟩ := SBs_frame hX hW.2
  exact gw_xret (xk := 0) (As := .ref a :: As) (vx_runV ⟨hx, hb, hml, hown, hts⟩ (hM X' h1) ⟨gw_cb hts hw.1 hrm, hts _ hw.2.1, hts _ hw.2.2⟩ ⟨gPc_blind KC_blind, hrecv, fun U hU hWm => ⟨rfl, by rw [hU]; exact hW.1, KC_frame F hk hS h3 U hU hWm⟩⟩ rfl hn hsz hst (lv_room hroom) hdg hf) hS h2 (fun v hv H1 locs1 g1 g2 _ g4 => kk v hv H1 locs1 ⟨g1, h4 H1 g4⟩ g2) (fun k hk H1 locs1 q ce g1 g2 _ g4 h5 h6 h7 => kx k hk H1 locs1 q ce ⟨g1, h4 H1 g4⟩ g2 h5 h6 h7)
theorem gs_callXS (F : FX l s0 b D T B) (hX : ∀ o, o < 561 → ¬ X (B + o)) (hk : KC s0 X s) (hC : gC p c cc s m args own D vwCl (tysG T)) (hml : c.maxLocals = nL) (hS : va_S (gA B X) s.heap H locs) (hW : gWS s0 D T B X μ cap t H) (hM : ∀ X' : Nat → Prop, (∀ o, o < 560 → ¬ X' (B + o)) → gXMet l y bb ml ret rm As (gWC s0 D T B μ) (KC s0 X') out (gWC s0 D T B μ1) (gA B X') mc ms) (hw : gMS own index y bb ml ret n) (hrm : gRm R rm ml mc ms)
    (hn : As.length = n) (hsz : ls.size = nL) (hst : st = As.reverse ++ rest) (hroom : (rest.map fun v => v.category).sum ≤ 8) (hdg : decode cc pc = .ok (.invokestatic index, 3)) (hf : cells + mc ≤ R.cells ∧ slots + ms ≤ R.slots)
    (kk : ∀ v, out = .inr v → ∀ (H1 : Heap) (locs1 : List Loc), gWS s0 D T B X μ1 cap t H1 → va_S (gA B X) s.heap H1 locs1 → W p l e R s m args below meth c H1 locs1 (cells + mc) (slots + ms) Q (F0 m (pc + 3) ls (v.toList ++ rest)))
    (kx : ∀ k, out = .inl k → ∀ (H1 : Heap) (locs1 : List Loc) (q : Addr) (ce : Cell), gWS s0 D T B X μ1 cap t H1 → va_S (gA B X) s.heap H1 locs1 → H1[q]? = some ce → ce.vm = .none → s.vm.findClass (exn k) = some ce.cls → vx_W p l e R s m args below meth c H1 locs1 (cells + mc) (slots + ms) Q (F0 m pc ls rest) q) : W p l e R s m args below meth c H locs cells slots Q (F0 m pc ls st) := by
  obtain ⟨hx, hb, hown, hts, -⟩ := hC
  obtain ⟨X', h1, h2, h3, h4⟩ := SBs_frame hX hW.2
  exact gw_xret (xk := 0) (As := As) (vx_runS ⟨hx, hb, hml, hown, hts⟩ (hM X' h1) ⟨gw_cb hts hw.1 hrm, hts _ hw.2⟩ ⟨gPc_blind KC_blind, fun U hU hWm => ⟨rfl, by rw [hU]; exact hW.1, KC_frame F hk hS h3 U hU hWm⟩⟩ rfl hn hsz hst (lv_room hroom) hdg hf) hS h2 (fun v hv H1 locs1 g1 g2 _ g4 => kk v hv H1 locs1 ⟨g1, h4 H1 g4⟩ g2) (fun k hk H1 locs1 q ce g1 g2 _ g4 h5 h6 h7 => kx k hk H1 locs1 q ce ⟨g1, h4 H1 g4⟩ g2 h5 h6 h7)
theorem gs_callV (F : FX l s0 b D T B) (hX : ∀ o, o < 561 → ¬ X (B + o)) (hk : KC s0 X s) (hC : gC p c cc s m args own D vwCl (tysG T)) (hml : c.maxLocals = nL) (hS : va_S (gA B X) s.heap H locs) (hW : gWS s0 D T B X μ cap t H) (hM : ∀ X' : Nat → Prop, (∀ o, o < 560 → ¬ X' (B + o)) → gMet l y bb ml ret rm (.ref a :: As) (gWC s0 D T B μ) (KC s0 X') v (gWC s0 D T B μ1) (gA B X') 0 0) (hw : gMV own index y bb ml ret n) (hrecv : ∃ cell : Cell, H[a]? = some cell ∧ cell.vm.isStatics = false ∧ s.vm.findClass y.cls = some cell.cls) (hrm : gRm R rm ml 0 0)
    (hn : As.length = n) (hsz : ls.size = nL) (hst : st = As.reverse ++ .ref a :: rest) (hroom : (rest.map fun v => v.category).sum ≤ 8) (hdg : decode cc pc = .ok (.invokevirtual index, 3)) (hf : cells ≤ R.cells ∧ slots ≤ R.slots)
    (kk : ∀ (H1 : Heap) (locs1 : List Loc), gWS s0 D T B X μ1 cap t H1 → va_S (gA B X) s.heap H1 locs1 → W p l e R s m args below meth c H1 locs1 cells slots Q (F0 m (pc + 3) ls (v.toList ++ rest))) : W p l e R s m args below meth c H locs cells slots Q (F0 m pc ls st) := by
  obtain ⟨X', h1, h2, h3, h4⟩ := SBs_frame hX hW.2
  exact gw_callV hC hml hS hW.1 (KC_frame F hk hS h3) KC_blind (hM X' h1) hw hrecv h2 hrm hn hsz hst hroom hdg hf (fun H1 locs1 g1 g2 _ g4 => kk H1 locs1 ⟨g1, h4 H1 g4⟩ g2)
end SB7
