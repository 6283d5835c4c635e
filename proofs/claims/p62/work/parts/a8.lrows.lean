/-! The law's own methods: what they are called with and what they leave. -/
theorem FX_nc {l : Launch} {s0 s : State} {b B : Nat} {D : va_G} {T : Nat → ClassId} {X : Nat → Prop} {C E : String} (F : FX l s0 b D T B) (hk : KC s0 X s) (h : Cond.not (.castable C E) ∈ flatC (Jvm.Cond.and given_1 narrow_1)) : va_Nc C E s := (va_Nc.of (FX_narrow F h)).moved hk.1.alike
theorem nc_1_0 : Cond.not (.castable (exn 1) (exn 0)) ∈ flatC (Jvm.Cond.and given_1 narrow_1) := by decide +kernel
theorem nc_2_0 : Cond.not (.castable (exn 2) (exn 0)) ∈ flatC (Jvm.Cond.and given_1 narrow_1) := by decide +kernel
theorem nc_2_1 : Cond.not (.castable (exn 2) (exn 1)) ∈ flatC (Jvm.Cond.and given_1 narrow_1) := by decide +kernel
theorem nc_3_0 : Cond.not (.castable (exn 3) (exn 0)) ∈ flatC (Jvm.Cond.and given_1 narrow_1) := by decide +kernel
theorem nc_4_0 : Cond.not (.castable (exn 4) (exn 0)) ∈ flatC (Jvm.Cond.and given_1 narrow_1) := by decide +kernel
theorem nc_4_1 : Cond.not (.castable (exn 4) (exn 1)) ∈ flatC (Jvm.Cond.and given_1 narrow_1) := by decide +kernel

def HS (ν : Mem) (hs : List (Nat → Int32)) : Prop := ν 0 5 = nI hs.length ∧ hs.length ≤ 8 ∧ ∀ i, i < hs.length → ∀ j, j < 817 → ν 4 (817 * i + j) = (hs.getD i z0) j
/-- a gallery's memory with the state Z, the states hs that can be undone to, the letters t written -/
def PZ (μ : Mem) (t : List Nat) (Z : Nat → Int32) (hs : List (Nat → Int32)) : Prop := ∃ ν : Mem, RR μ ν 0 t ∧ (∀ j, j < 817 → ν 1 j = Z j) ∧ HS ν hs
def gZ (s0 : State) (D : va_G) (T : Nat → ClassId) (B : Nat) (X : Nat → Prop) (Z : Nat → Int32) (hs : List (Nat → Int32)) (t : List Nat) : Heap → Prop := fun H => ∃ (μ : Mem) (cap : Nat), gWS s0 D T B X μ cap t H ∧ cap ≤ 70 ∧ PZ μ t Z hs
/-- what a wrapper answers: the answer, or the number of what was thrown -/
def wr (L : List (Nat × Int32)) : Nat ⊕ Int32 → Int32
  | .inr x => x
  | .inl k => (L.lookup k).getD 0
def oB : Nat ⊕ Bool → Nat ⊕ Int32
  | .inl k => .inl k
  | .inr x => .inr (b2i x)
abbrev RSt := (Nat → Int32) → List (Nat → Int32) → List Nat → (Nat ⊕ Int32) → Prop
def gRS (s0 : State) (D : va_G) (T : Nat → ClassId) (B : Nat) (X : Nat → Prop) (S : RSt) (w : Nat ⊕ Int32 → Int32) : Value → Heap → Prop := fun v H => ∃ Z' hs' t' out, S Z' hs' t' out ∧ v = .int (w out) ∧ gZ s0 D T B X Z' hs' t' H
def gQr (Q : Value → Heap → Prop) (A : Nat → Prop) : Array Value → State → Outcome → State → Prop := fun _ st o t => ∃ v, o = .returned (some v) ∧ Q v t.heap ∧ va_F A st t
abbrev gMetR (l : Launch) (y : MethodName) (b : ByteArray) (ml : Nat) (hh : List (Nat × Nat × Nat × Nat)) (rm : Room) (vals : List Value) (Wp : Heap → Prop) (Ks : State → Prop) (Q : Value → Heap → Prop) (A : Nat → Prop) (mc ms : Nat) : Prop :=
  Met l y (.codeWith y b ml (some .int) hh :: WG) rm (gPc vals Wp Ks) (gQr Q A) mc ms A
/-- the same without a table of handlers, with any type -/
abbrev gMetQ (l : Launch) (y : MethodName) (b : ByteArray) (ml : Nat) (ret : Option FieldType) (rm : Room) (vals : List Value) (Wp : Heap → Prop) (Ks : State → Prop) (Q : Value → Heap → Prop) (A : Nat → Prop) (mc ms : Nat) : Prop :=
  Met l y (.code y b ml ret :: WG) rm (gPc vals Wp Ks) (gQr Q A) mc ms A
theorem gMetR_of {l : Launch} {y : MethodName} {b : ByteArray} {ml : Nat} {hh : List (Nat × Nat × Nat × Nat)} {rm : Room} {vals : List Value} {Wp : Heap → Prop} {Q : Value → Heap → Prop} {Ks : State → Prop}  {A : Nat → Prop} {mc ms : Nat} (own : String) (hy : plainName y.cls = true) (ho : y.cls = own) (hL : (lg_sl vals).length ≤ ml)
    (body : ∀ (p : Program) (e : Env) (s : State) (m : MethodId) (below : List Frame) (meth : Method) (c : Code) (ls : Array Slot), p.tables.exec = Jvm.exec → c.code = b → meth.sig.returnType = some .int → meth.locks = false → c.maxLocals = ml → s.vm.findClass own = some m.cls → (∀ w ∈ WG, w.before vals.toArray s = true) → c.exceptionTable.toList = tableOf hh → Wp s.heap → Ks s → lv_has ls ml (lv_args 0 vals) → va_S A s.heap s.heap [] →
      W p l e rm s m vals.toArray below meth c s.heap [] 0 0 (MQ below (gQr Q A) vals.toArray s mc ms A) (F0 m 0 ls [])) : gMetR l y b ml hh rm vals Wp Ks Q A mc ms := by
  refine MetFree.of_bodyS (code := b) (maxLocals := ml) (ret := some .int) hy ?_ ?_
  · intro args s m h hn
    obtain ⟨m9, meth, c, hn9, h1, h2, h3, h4, -, h5, h6, -⟩ := Cond.codeWith_spec (atoms_spec (ws := .codeWith y b ml (some .int) hh :: WG) h _ List.mem_cons_self)
    cases hn.symm.trans hn9
    exact ⟨meth, c, h1, h2, h3, h4, h5, h6⟩
  · intro p e s m args below meth c s₁ Bd hml hP _
    have hh0 : s₁.heap = s.heap := by rw [Bd.state]; rfl
    obtain ⟨rfl, hW, hk⟩ := hP
    have hts0 := atoms_spec (ws := .codeWith y b ml (some .int) hh :: WG) Bd.pre
    have hown : s.vm.findClass own = some m.cls := ho ▸ findClass_of_methodNamed Bd.named
    have hl := lv_entry vals (n := ml) hL
    have hb := body p e s m below meth c _ Bd.exec Bd.bytes Bd.returns Bd.notSynchronized hml hown (fun w h => hts0 w (List.mem_cons_of_mem _ h)) (vx_table (x := y) Bd (hts0 _ List.mem_cons_self)) hW hk hl va_S.rf
    rw [← lg_entry_eq] at hb
    obtain ⟨t, a1, o, b1, b2, b3⟩ := hb s₁ hh0 (Stand.of_body Bd)
    exact ⟨t, o, a1, b1, b2, ⟨b3.1, b3.2⟩⟩
def gML (own : String) (index : Nat) (y : MethodName) (b : ByteArray) (ml : Nat) (hh : List (Nat × Nat × Nat × Nat)) (n : Nat) : Prop :=
  Cond.methodLink own index y ∈ WG ∧ Cond.codeWith y b ml (some .int) hh ∈ WG ∧ Cond.initialized y.cls ∈ WG ∧ (y.cls ≠ "java/lang/invoke/MethodHandle" ∧ y.cls ≠ "java/lang/invoke/VarHandle" ∧ (parseMethodDescriptor y.desc).map (fun d => d.parameters.length) = some n) ∧ Cond.static y ∈ WG
theorem oI_r {r : Nat ⊕ Int32} {v : Option Value} (h : oI r = .inr v) : ∃ x, r = .inr x ∧ v = some (.int x) := by
  cases r with
  | inl k => cases h
  | inr x => cases h; exact ⟨x, rfl, rfl⟩
theorem oI_l {r : Nat ⊕ Int32} {k : Nat} (h : oI r = .inl k) : r = .inl k := by
  cases r with
  | inl k => cases h; rfl
  | inr x => cases h
theorem oZ_r {r : Nat ⊕ Bool} {v : Option Value} (h : oZ r = .inr v) : ∃ x, r = .inr x ∧ v = some (.int (b2i x)) := by
  cases r with
  | inl k => cases h
  | inr x => cases h; exact ⟨x, rfl, rfl⟩
theorem oZ_l {r : Nat ⊕ Bool} {k : Nat} (h : oZ r = .inl k) : r = .inl k := by
  cases r with
  | inl k => cases h; rfl
  | inr x => cases h
theorem oD_r {r : Nat ⊕ UInt64} {v : Option Value} (h : oD r = .inr v) : ∃ x, r = .inr x ∧ v = some (.double x) := by
  cases r with
  | inl k => cases h
  | inr x => cases h; exact ⟨x, rfl, rfl⟩
theorem oD_l {r : Nat ⊕ UInt64} {k : Nat} (h : oD r = .inl k) : r = .inl k := by
  cases r with
  | inl k => cases h; rfl
  | inr x => cases h
theorem oF_r {r : Nat ⊕ UInt32} {v : Option Value} (h : oF r = .inr v) : ∃ x, r = .inr x ∧ v = some (.float x) := by
  cases r with
  | inl k => cases h
  | inr x => cases h; exact ⟨x, rfl, rfl⟩
theorem oF_l {r : Nat ⊕ UInt32} {k : Nat} (h : oF r = .inl k) : r = .inl k := by
  cases r with
  | inl k => cases h; rfl
  | inr x => cases h
section LR
variable {p : Program} {l : Launch} {e : Env} {R : Room} {s : State} {m : MethodId} {args : Array Value} {below : List Frame} {meth : Method} {c : Code} {H : Heap} {locs : List Loc} {cells slots : Nat} {Q : State → Prop}
variable {cc : ByteArray} {pc : Nat} {ls : Array Slot} {st rest As : List Value} {D : va_G} {cl : List vw_C} {A A1 : Nat → Prop} {tys : List (ClassId × FieldType)} {H0 : Heap} {own : String} {T : Nat → ClassId} {X : Nat → Prop} {B ob : Nat} {s0 : State} {μ : Mem} {cap : Nat} {t : List Nat}
theorem gr_iret {Qv : Value → Heap → Prop} {x : Int32} {mc ms : Nat} (hx : p.tables.exec = Jvm.exec) (hb : c.code = cc) (hr : meth.sig.returnType = some .int) (hlocks : meth.locks = false) (hW : Qv (.int x) H) (hS : va_S A s.heap H locs) (hc : cells ≤ mc) (hs : slots ≤ ms) (hdg : decode cc pc = .ok (.ireturn, 1)) : W p l e R s m args below meth c H locs cells slots (MQ below (gQr Qv A) args s mc ms A) (F0 m pc ls [.int x]) :=
  W.widen hc hs (W.iret hx hb hr (fun t ht _ => ⟨_, rfl, by rw [ht]; exact hW, hS.F ht⟩) hS.2.2 hdg hlocks)
/-- behind a call whose answer is only related -/
theorem gr_ret {mc ms : Nat} {Qv : Value → Heap → Prop} (hr : va_Run p l e R s m args below meth c H locs cells slots mc ms (F0 m pc ls st) rest (gQr Qv A1 As.toArray) A1) (hS : va_S A H0 H locs) (hA : ∀ q, A1 q → A q)
    (kk : ∀ (v : Value) (H1 : Heap) (locs1 : List Loc), Qv v H1 → va_S A H0 H1 locs1 → H.size ≤ H1.size → (∀ q, q < H.size → ¬ A1 q → H1[q]? = H[q]?) → W p l e R s m args below meth c H1 locs1 (cells + mc) (slots + ms) Q (F0 m (pc + 3) ls (v :: rest))) : W p l e R s m args below meth c H locs cells slots Q (F0 m pc ls st) := by
  intro T hT X
  obtain ⟨v', st₀, t, T', L, h0, X', hL, e1, e2, ⟨v, hv, hq, hz, hk⟩, go⟩ := hr T hT X
  cases hv
  rw [h0] at hz hk
  obtain ⟨t2, a1, b1⟩ := kk v T'.heap (locs ++ L) (by rw [e1]; exact hq)
    ⟨Nat.le_trans hS.1 (by rw [e1]; exact hz), fun q h1 h2 => by rw [e1, hk q (Nat.lt_of_lt_of_le h1 hS.1) (fun z => h2 (hA q z))]; exact hS.2.1 q h1 h2, fun q hq => by
      rcases List.mem_append.mp hq with h | h
      · exact hS.2.2 q h
      · exact hA _ (hL q h)⟩ (by rw [e1]; exact hz) (fun q h1 h2 => by rw [e1]; exact hk q h1 h2) T' rfl X'
  exact ⟨t2, go t2 a1, b1⟩
theorem gr_callS {index ml nL n mc ms : Nat} {y : MethodName} {b : ByteArray} {hh : List (Nat × Nat × Nat × Nat)} {rm : Room} {Wp : Heap → Prop} {Ks : State → Prop} {Qv : Value → Heap → Prop} (hC : gC p c cc s m args own D cl tys) (hml : c.maxLocals = nL) (hS : va_S A H0 H locs) (hW : Wp H) (hks : ∀ U : State, U.heap = H → s.WarmedH U.vm → Ks U) (hbl : gBlind Ks) (hM : gMetR l y b ml hh rm As Wp Ks Qv A1 mc ms) (hw : gML own index y b ml hh n) (hA : ∀ q, A1 q → A q) (hrm : gRm R rm ml mc ms)
    (hn : As.length = n) (hsz : ls.size = nL) (hst : st = As.reverse ++ rest) (hroom : (rest.map fun v => v.category).sum ≤ 8) (hdg : decode cc pc = .ok (.invokestatic index, 3)) (hf : cells + mc ≤ R.cells ∧ slots + ms ≤ R.slots)
    (kk : ∀ (v : Value) (H1 : Heap) (locs1 : List Loc), Qv v H1 → va_S A H0 H1 locs1 → H.size ≤ H1.size → (∀ q, q < H.size → ¬ A1 q → H1[q]? = H[q]?) → W p l e R s m args below meth c H1 locs1 (cells + mc) (slots + ms) Q (F0 m (pc + 3) ls (v :: rest))) : W p l e R s m args below meth c H locs cells slots Q (F0 m pc ls st) := by
  obtain ⟨hx, hb, hown, hts, -⟩ := hC
  have hg : GoodIn WG (va_wsS own index y (.codeWith y b ml (some .int) hh :: WG)) := fun w hw9 => by
    have : w ∈ WG := by
      unfold va_wsS at hw9
      rcases List.mem_append.mp hw9 with h | h
      · simp only [List.mem_cons, List.not_mem_nil, or_false] at h
        rcases h with rfl | rfl | rfl
        · exact hw.1
        · exact hw.2.2.2.2
        · exact hw.2.2.1
      · rcases List.mem_cons.mp h with rfl | h
        · exact hw.2.1
        · exact h
    exact ⟨this, wg_good this⟩
  exact gr_ret (As := As) (vx_runSW ⟨hx, hb, hml, hown, hts⟩ hM (vx_cwSW n hts hg rfl hrm.1 hrm.2.1 hw.2.2.2.1 hrm.2.2) ⟨gPc_blind hbl, fun U hU hWm => ⟨rfl, by rw [hU]; exact hW, hks U hU hWm⟩⟩ rfl hn hsz hst (lv_room hroom) hdg hf) hS hA kk
end LR
def oC (t : List Nat) (i : Int32) : Nat ⊕ Int32 := if i < 0 ∨ t.length ≤ i.toNatClampNeg then .inl 0 else .inr (nI (t.getD i.toNatClampNeg 0))
theorem oI_oC {t : List Nat} {i : Int32} : oI (oC t i) = (if i < 0 ∨ t.length ≤ i.toNatClampNeg then .inl 0 else .inr (some (.int (nI (t.getD i.toNatClampNeg 0))))) := by
  unfold oC
  split <;> rfl
theorem oC_met {l : Launch} {s0 : State} {b B : Nat} {D : va_G} {T : Nat → ClassId} {X : Nat → Prop} (F : FX l s0 b D T B) {μ : Mem} {cap : Nat} {t : List Nat} {i : Int32} : gXMet l yX10_outputCharacter cX10_outputCharacter 2 (some .char) rmo0 [.ref (B + 0), .int i] (gWS s0 D T B X μ cap t) (KC s0 X) (oI (oC t i)) (gWS s0 D T B X μ cap t) (gA B X) 1 6 := by
  rw [oI_oC]
  exact metX10_outputCharacter F
theorem FX_cs {l : Launch} {s0 s : State} {b B : Nat} {D : va_G} {T : Nat → ClassId} {X : Nat → Prop} {C E : String} {args : Array Value} (F : FX l s0 b D T B) (hk : KC s0 X s) (h : Cond.castable C E ∈ lw_tbl) : (Cond.castable C E).before args s = true := va_Nw.use rfl (va_Nw.warmC hk.1 (va_Nw.of rfl (F.2.1 _ h)))
