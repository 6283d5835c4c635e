/-! Own rows, 2: contracts that answer one value (or throw one exception) and leave one world; calling them, ending by them. -/
/-- the exceptions by number -/
def exn : Nat → String := fun k => match k with
  | 0 => "java/lang/IndexOutOfBoundsException"
  | 1 => "java/lang/IllegalArgumentException"
  | 2 => "java/lang/IllegalStateException"
  | 3 => "java/util/NoSuchElementException"
  | 4 => "java/lang/UnsupportedOperationException"
  | _ => "java/lang/ArithmeticException"
def gPc (vals : List Value) (Wp : Heap → Prop) (Ks : State → Prop) : Array Value → State → Prop := va_Pc vals (fun U => Wp U.heap ∧ Ks U)
def gQc (v : Option Value) (Wq : Heap → Prop) (A : Nat → Prop) : Array Value → State → Outcome → State → Prop := fun _ st o t => o = .returned v ∧ Wq t.heap ∧ va_F A st t
def gXQ (out : Nat ⊕ Option Value) (Wq : Heap → Prop) (A : Nat → Prop) : Array Value → State → Outcome → State → Prop := fun _ st o t => ∃ v, out = .inr v ∧ o = .returned v ∧ Wq t.heap ∧ va_F A st t
def gXC (out : Nat ⊕ Option Value) (Wq : Heap → Prop) (A : Nat → Prop) : String → State → State → Prop := fun E st t => ∃ k, out = .inl k ∧ E = exn k ∧ Wq t.heap ∧ va_F A st t
abbrev gMet (l : Launch) (y : MethodName) (b : ByteArray) (ml : Nat) (ret : Option FieldType) (rm : Room) (vals : List Value) (Wp : Heap → Prop) (Ks : State → Prop) (v : Option Value) (Wq : Heap → Prop) (A : Nat → Prop) (mc ms : Nat) : Prop :=
  Met l y (.code y b ml ret :: WG) rm (gPc vals Wp Ks) (gQc v Wq A) mc ms A
abbrev gXMet (l : Launch) (y : MethodName) (b : ByteArray) (ml : Nat) (ret : Option FieldType) (rm : Room) (vals : List Value) (Wp : Heap → Prop) (Ks : State → Prop) (out : Nat ⊕ Option Value) (Wq : Heap → Prop) (A : Nat → Prop) (mc ms : Nat) : Prop :=
  vx_Met l y (.code y b ml ret :: WG) rm (gPc vals Wp Ks) (gXQ out Wq A) (gXC out Wq A) mc ms A
def gBlind (Ks : State → Prop) : Prop := ∀ (U : State) (g : JFrame) (mk : MethodId) (a : Array Value), Ks U → Ks (U.calling g mk a)
theorem gPc_blind {vals : List Value} {Wp : Heap → Prop} {Ks : State → Prop} (h : gBlind Ks) : FrameBlind (gPc vals Wp Ks) := fun a U g mk q => ⟨q.1, q.2.1, h U g mk a q.2.2⟩
/-- a method that can be called: from class own, by the constant index -/
def gM (own : String) (index : Nat) (y : MethodName) (b : ByteArray) (ml : Nat) (ret : Option FieldType) (n : Nat) : Prop :=
  Cond.methodLink own index y ∈ WG ∧ Cond.code y b ml ret ∈ WG ∧ Cond.initialized y.cls ∈ WG ∧ (y.cls ≠ "java/lang/invoke/MethodHandle" ∧ y.cls ≠ "java/lang/invoke/VarHandle" ∧ (parseMethodDescriptor y.desc).map (fun d => d.parameters.length) = some n)
def gMV (own : String) (index : Nat) (y : MethodName) (b : ByteArray) (ml : Nat) (ret : Option FieldType) (n : Nat) : Prop := gM own index y b ml ret n ∧ Cond.instanceMethod y ∈ WG ∧ Cond.selects y.cls y y ∈ WG
def gMS (own : String) (index : Nat) (y : MethodName) (b : ByteArray) (ml : Nat) (ret : Option FieldType) (n : Nat) : Prop := gM own index y b ml ret n ∧ Cond.static y ∈ WG
def gMI (own : String) (index : Nat) (y : MethodName) (b : ByteArray) (ml : Nat) (n : Nat) : Prop := gM own index y b ml none n ∧ Cond.instanceMethod y ∈ WG
theorem wg_in {y : MethodName} {b : ByteArray} {ml : Nat} {ret : Option FieldType} (h : Cond.code y b ml ret ∈ WG) : GoodIn WG (.code y b ml ret :: WG) := fun w hw => by
  rcases List.mem_cons.mp hw with rfl | hw
  · exact ⟨h, wg_good h⟩
  · exact ⟨hw, wg_good hw⟩
section GC
variable {p : Program} {l : Launch} {e : Env} {R : Room} {s : State} {m : MethodId} {args : Array Value} {below : List Frame} {meth : Method} {c : Code} {H : Heap} {locs : List Loc} {cells slots : Nat} {Q : State → Prop}
variable {cc : ByteArray} {pc : Nat} {ls : Array Slot} {st rest As vals : List Value} {D : va_G} {cl : List vw_C} {A A1 : Nat → Prop} {tys : List (ClassId × FieldType)} {H0 : Heap} {own : String} {index ml nL n mc ms a : Nat} {y : MethodName} {b : ByteArray} {ret : Option FieldType} {rm : Room} {Wp Wq : Heap → Prop} {Ks : State → Prop} {v : Option Value} {out : Nat ⊕ Option Value}
abbrev gRm (R rm : Room) (ml mc ms : Nat) : Prop := rm.cells = mc ∧ rm.slots = ms ∧ rm.frames + 1 ≤ R.frames ∧ 8 + (ml + 11) + rm.locals ≤ R.locals
theorem gw_cb (hts : ∀ w ∈ WG, w.before args s = true) (hw : gM own index y b ml ret n) (hrm : gRm R rm ml mc ms) : CallB R s args own index y b ml ret (.code y b ml ret :: WG) rm mc ms n :=
  callB_of n hts (wg_in hw.2.1) rfl hrm.1 hrm.2.1 (hts _ hw.2.2.1) (hts _ hw.1) hw.2.2.2 hrm.2.2
theorem gw_ret {mc ms : Nat} (hr : va_Run p l e R s m args below meth c H locs cells slots mc ms (F0 m pc ls st) rest (gQc v Wq A1 As.toArray) A1) (hS : va_S A H0 H locs) (hA : ∀ q, A1 q → A q)
    (kk : ∀ (H1 : Heap) (locs1 : List Loc), Wq H1 → va_S A H0 H1 locs1 → H.size ≤ H1.size → (∀ q, q < H.size → ¬ A1 q → H1[q]? = H[q]?) → W p l e R s m args below meth c H1 locs1 (cells + mc) (slots + ms) Q (F0 m (pc + 3) ls (v.toList ++ rest))) : W p l e R s m args below meth c H locs cells slots Q (F0 m pc ls st) := by
  intro T hT X
  obtain ⟨v', st₀, t, T', L, h0, X', hL, e1, e2, ⟨hv, hq, hz, hk⟩, go⟩ := hr T hT X
  cases hv
  rw [h0] at hz hk
  obtain ⟨t2, a1, b1⟩ := kk T'.heap (locs ++ L) (by rw [e1]; exact hq)
    ⟨Nat.le_trans hS.1 (by rw [e1]; exact hz), fun q h1 h2 => by rw [e1, hk q (Nat.lt_of_lt_of_le h1 hS.1) (fun z => h2 (hA q z))]; exact hS.2.1 q h1 h2, fun q hq => by
      rcases List.mem_append.mp hq with h | h
      · exact hS.2.2 q h
      · exact hA _ (hL q h)⟩ (by rw [e1]; exact hz) (fun q h1 h2 => by rw [e1]; exact hk q h1 h2) T' rfl X'
  exact ⟨t2, go t2 a1, b1⟩
theorem gw_callV (hC : gC p c cc s m args own D cl tys) (hml : c.maxLocals = nL) (hS : va_S A H0 H locs) (hW : Wp H) (hks : ∀ U : State, U.heap = H → s.WarmedH U.vm → Ks U) (hbl : gBlind Ks) (hM : gMet l y b ml ret rm (.ref a :: As) Wp Ks v Wq A1 mc ms) (hw : gMV own index y b ml ret n) (hrecv : ∃ cell : Cell, H[a]? = some cell ∧ cell.vm.isStatics = false ∧ s.vm.findClass y.cls = some cell.cls) (hA : ∀ q, A1 q → A q) (hrm : gRm R rm ml mc ms)
    (hn : As.length = n) (hsz : ls.size = nL) (hst : st = As.reverse ++ .ref a :: rest) (hroom : (rest.map fun v => v.category).sum ≤ 8) (hdg : decode cc pc = .ok (.invokevirtual index, 3)) (hf : cells + mc ≤ R.cells ∧ slots + ms ≤ R.slots)
    (kk : ∀ (H1 : Heap) (locs1 : List Loc), Wq H1 → va_S A H0 H1 locs1 → H.size ≤ H1.size → (∀ q, q < H.size → ¬ A1 q → H1[q]? = H[q]?) → W p l e R s m args below meth c H1 locs1 (cells + mc) (slots + ms) Q (F0 m (pc + 3) ls (v.toList ++ rest))) : W p l e R s m args below meth c H locs cells slots Q (F0 m pc ls st) := by
  obtain ⟨hx, hb, hown, hts, -⟩ := hC
  exact gw_ret (As := .ref a :: As) (va_runV ⟨hx, hb, hml, hown, hts⟩ hM ⟨gw_cb hts hw.1 hrm, hts _ hw.2.1, hts _ hw.2.2⟩ ⟨gPc_blind hbl, hrecv, fun U hU hWm => ⟨rfl, by rw [hU]; exact hW, hks U hU hWm⟩⟩ rfl hn hsz hst (lv_room hroom) hdg hf) hS hA kk
theorem gw_callS (hC : gC p c cc s m args own D cl tys) (hml : c.maxLocals = nL) (hS : va_S A H0 H locs) (hW : Wp H) (hks : ∀ U : State, U.heap = H → s.WarmedH U.vm → Ks U) (hbl : gBlind Ks) (hM : gMet l y b ml ret rm As Wp Ks v Wq A1 mc ms) (hw : gMS own index y b ml ret n) (hA : ∀ q, A1 q → A q) (hrm : gRm R rm ml mc ms)
    (hn : As.length = n) (hsz : ls.size = nL) (hst : st = As.reverse ++ rest) (hroom : (rest.map fun v => v.category).sum ≤ 8) (hdg : decode cc pc = .ok (.invokestatic index, 3)) (hf : cells + mc ≤ R.cells ∧ slots + ms ≤ R.slots)
    (kk : ∀ (H1 : Heap) (locs1 : List Loc), Wq H1 → va_S A H0 H1 locs1 → H.size ≤ H1.size → (∀ q, q < H.size → ¬ A1 q → H1[q]? = H[q]?) → W p l e R s m args below meth c H1 locs1 (cells + mc) (slots + ms) Q (F0 m (pc + 3) ls (v.toList ++ rest))) : W p l e R s m args below meth c H locs cells slots Q (F0 m pc ls st) := by
  obtain ⟨hx, hb, hown, hts, -⟩ := hC
  exact gw_ret (As := As) (va_runS ⟨hx, hb, hml, hown, hts⟩ hM ⟨gw_cb hts hw.1 hrm, hts _ hw.2⟩ ⟨gPc_blind hbl, fun U hU hWm => ⟨rfl, by rw [hU]; exact hW, hks U hU hWm⟩⟩ rfl hn hsz hst (lv_room hroom) hdg hf) hS hA kk
theorem gw_callI (hC : gC p c cc s m args own D cl tys) (hml : c.maxLocals = nL) (hS : va_S A H0 H locs) (hW : Wp H) (hks : ∀ U : State, U.heap = H → s.WarmedH U.vm → Ks U) (hbl : gBlind Ks) (hM : gMet l y b ml none rm (.ref a :: As) Wp Ks v Wq A1 mc ms) (hw : gMI own index y b ml n) (hini : y.name = "<init>") (hA : ∀ q, A1 q → A q) (hrm : gRm R rm ml mc ms)
    (hn : As.length = n) (hsz : ls.size = nL) (hst : st = As.reverse ++ .ref a :: rest) (hroom : (rest.map fun v => v.category).sum ≤ 8) (hdg : decode cc pc = .ok (.invokespecial index, 3)) (hf : cells + mc ≤ R.cells ∧ slots + ms ≤ R.slots)
    (kk : ∀ (H1 : Heap) (locs1 : List Loc), Wq H1 → va_S A H0 H1 locs1 → H.size ≤ H1.size → (∀ q, q < H.size → ¬ A1 q → H1[q]? = H[q]?) → W p l e R s m args below meth c H1 locs1 (cells + mc) (slots + ms) Q (F0 m (pc + 3) ls (v.toList ++ rest))) : W p l e R s m args below meth c H locs cells slots Q (F0 m pc ls st) := by
  obtain ⟨hx, hb, hown, hts, -⟩ := hC
  exact gw_ret (As := .ref a :: As) (va_runI ⟨hx, hb, hml, hown, hts⟩ hM ⟨gw_cb hts hw.1 hrm, hini, hts _ hw.2⟩ ⟨gPc_blind hbl, fun U hU hWm => ⟨rfl, by rw [hU]; exact hW, hks U hU hWm⟩⟩ rfl hn hsz hst (lv_room hroom) hdg hf) hS hA kk
/-- the ends of a plain method -/
theorem gw_iret {x : Int32} (hx : p.tables.exec = Jvm.exec) (hb : c.code = cc) (hr : meth.sig.returnType = some .int) (hlocks : meth.locks = false) (hW : Wq H) (hS : va_S A s.heap H locs) (hc : cells ≤ mc) (hs : slots ≤ ms) (hdg : decode cc pc = .ok (.ireturn, 1)) : W p l e R s m args below meth c H locs cells slots (MQ below (gQc (some (.int x)) Wq A) args s mc ms A) (F0 m pc ls [.int x]) :=
  W.widen hc hs (W.iret hx hb hr (fun t ht _ => ⟨rfl, by rw [ht]; exact hW, hS.F ht⟩) hS.2.2 hdg hlocks)
theorem gw_zret {x : Int32} {ty : FieldType} (hx : p.tables.exec = Jvm.exec) (hb : c.code = cc) (hr : meth.sig.returnType = some ty) (hn : narrow ty (.int x) = .int x) (hlocks : meth.locks = false) (hW : Wq H) (hS : va_S A s.heap H locs) (hc : cells ≤ mc) (hs : slots ≤ ms) (hdg : decode cc pc = .ok (.ireturn, 1)) : W p l e R s m args below meth c H locs cells slots (MQ below (gQc (some (.int x)) Wq A) args s mc ms A) (F0 m pc ls [.int x]) :=
  W.widen hc hs (W.zret hx hb hr hn (fun t ht _ => ⟨rfl, by rw [ht]; exact hW, hS.F ht⟩) hS.2.2 hdg hlocks)
theorem gw_vret (hx : p.tables.exec = Jvm.exec) (hb : c.code = cc) (hr : meth.sig.returnType = none) (hlocks : meth.locks = false) (hW : Wq H) (hS : va_S A s.heap H locs) (hc : cells ≤ mc) (hs : slots ≤ ms) (hdg : decode cc pc = .ok (.return_, 1)) : W p l e R s m args below meth c H locs cells slots (MQ below (gQc none Wq A) args s mc ms A) (F0 m pc ls []) :=
  W.widen hc hs (W.vret hx hb hr (fun t ht _ => ⟨rfl, by rw [ht]; exact hW, hS.F ht⟩) hS.2.2 hdg hlocks)
theorem gw_aret {x : Nat} {nm : String} (hx : p.tables.exec = Jvm.exec) (hb : c.code = cc) (hr : meth.sig.returnType = some (.object nm)) (hlocks : meth.locks = false) (hW : Wq H) (hS : va_S A s.heap H locs) (hc : cells ≤ mc) (hs : slots ≤ ms) (hdg : decode cc pc = .ok (.areturn, 1)) : W p l e R s m args below meth c H locs cells slots (MQ below (gQc (some (.ref x)) Wq A) args s mc ms A) (F0 m pc ls [.ref x]) :=
  W.widen hc hs (W.aret hx hb hr (Or.inl ⟨nm, rfl⟩) (Or.inr ⟨x, rfl⟩) (fun t ht _ => ⟨rfl, by rw [ht]; exact hW, hS.F ht⟩) hS.2.2 hdg hlocks)
/-- the ends of a method that may throw -/
theorem gx_ret {g : JFrame} (hW : Wq H) (k : W p l e R s m args below meth c H locs cells slots (MQ below (gQc v Wq A) args s mc ms A) g) : W p l e R s m args below meth c H locs cells slots (vx_MQ below (gXQ (.inr v) Wq A) (gXC (.inr v) Wq A) args s mc ms A) g := by
  intro T hT X
  obtain ⟨t, a1, o, b1, b2, b3, b4⟩ := k T hT X
  exact ⟨t, a1, o, b1, b2, Or.inl ⟨⟨v, rfl, b3⟩, b4⟩⟩
/-- a call of what may throw; both ends -/
theorem gw_xret {xk : Nat} {Qz : State → Prop} (hr : vx_Run p l e R s m args below meth c H locs cells slots mc ms (F0 m pc ls st) rest (gXQ out Wq A1 As.toArray) (gXC out Wq A1) A1) (hS : va_S A H0 H locs) (hA : ∀ q, A1 q → A q)
    (kk : ∀ v, out = .inr v → ∀ (H1 : Heap) (locs1 : List Loc), Wq H1 → va_S A H0 H1 locs1 → H.size ≤ H1.size → (∀ q, q < H.size → ¬ A1 q → H1[q]? = H[q]?) → W p l e R s m args below meth c H1 locs1 (cells + mc) (slots + ms) Qz (F0 m (pc + 3) ls (v.toList ++ rest)))
    (kx : ∀ k, out = .inl k → ∀ (H1 : Heap) (locs1 : List Loc) (q : Addr) (ce : Cell), Wq H1 → va_S A H0 H1 locs1 → H.size ≤ H1.size → (∀ q, q < H.size → ¬ A1 q → H1[q]? = H[q]?) → H1[q]? = some ce → ce.vm = .none → s.vm.findClass (exn k) = some ce.cls → vx_W p l e R s m args below meth c H1 locs1 (cells + mc) (slots + ms) Qz (F0 m pc ls rest) q) : W p l e R s m args below meth c H locs cells slots Qz (F0 m pc ls st) := by
  intro T hT X
  rcases hr T hT X with ⟨v', st₀, t, T', L, h0, X', hL, e1, e2, ⟨v, ho, hv, hq, hz, hk⟩, go⟩ | ⟨q, st₀, t, T', L, E, ce, h0, X', hL, e1, e2, ⟨k, ho, rfl, hq, hz, hk⟩, hce, hvm, hcl, go⟩
  · cases hv
    rw [h0] at hz hk
    obtain ⟨t2, a1, b1⟩ := kk v' ho T'.heap (locs ++ L) (by rw [e1]; exact hq)
      ⟨Nat.le_trans hS.1 (by rw [e1]; exact hz), fun q h1 h2 => by rw [e1, hk q (Nat.lt_of_lt_of_le h1 hS.1) (fun z => h2 (hA q z))]; exact hS.2.1 q h1 h2, fun q hq => by
        rcases List.mem_append.mp hq with h | h
        · exact hS.2.2 q h
        · exact hA _ (hL q h)⟩ (by rw [e1]; exact hz) (fun q h1 h2 => by rw [e1]; exact hk q h1 h2) T' rfl X'
    exact ⟨t2, go t2 a1, b1⟩
  · rw [h0] at hz hk
    obtain ⟨t2, a1, b1⟩ := kx k ho T'.heap (locs ++ L) q ce (by rw [e1]; exact hq)
      ⟨Nat.le_trans hS.1 (by rw [e1]; exact hz), fun q h1 h2 => by rw [e1, hk q (Nat.lt_of_lt_of_le h1 hS.1) (fun z => h2 (hA q z))]; exact hS.2.1 q h1 h2, fun q hq => by
        rcases List.mem_append.mp hq with h | h
        · exact hS.2.2 q h
        · exact hA _ (hL q h)⟩ (by rw [e1]; exact hz) (fun q h1 h2 => by rw [e1]; exact hk q h1 h2) (by rw [e1]; exact hce) hvm hcl T' rfl X'
    exact ⟨t2, go.trans a1, b1⟩
end GC
