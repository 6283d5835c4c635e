/-! The law's own methods: a call of the gallery, the answer put into an array, what was thrown told by its place among the handlers. -/
abbrev gMetH (l : Launch) (y : MethodName) (b : ByteArray) (ml : Nat) (hh : List (Nat × Nat × Nat × Nat)) (rm : Room) (vals : List Value) (Wp : Heap → Prop) (Ks : State → Prop) (v : Option Value) (Wq : Heap → Prop) (A : Nat → Prop) (mc ms : Nat) : Prop :=
  Met l y (.codeWith y b ml (some .int) hh :: WG) rm (gPc vals Wp Ks) (gQc v Wq A) mc ms A
theorem gMetH_of {l : Launch} {y : MethodName} {b : ByteArray} {ml : Nat} {hh : List (Nat × Nat × Nat × Nat)} {rm : Room} {vals : List Value} {Wp Wq : Heap → Prop} {Ks : State → Prop} {v : Option Value} {A : Nat → Prop} {mc ms : Nat} (own : String) (hy : plainName y.cls = true) (ho : y.cls = own) (hL : (lg_sl vals).length ≤ ml)
    (body : ∀ (p : Program) (e : Env) (s : State) (m : MethodId) (below : List Frame) (meth : Method) (c : Code) (ls : Array Slot), p.tables.exec = Jvm.exec → c.code = b → meth.sig.returnType = some .int → meth.locks = false → c.maxLocals = ml → s.vm.findClass own = some m.cls → (∀ w ∈ WG, w.before vals.toArray s = true) → c.exceptionTable.toList = tableOf hh → Wp s.heap → Ks s → lv_has ls ml (lv_args 0 vals) → va_S A s.heap s.heap [] →
      W p l e rm s m vals.toArray below meth c s.heap [] 0 0 (MQ below (gQc v Wq A) vals.toArray s mc ms A) (F0 m 0 ls [])) : gMetH l y b ml hh rm vals Wp Ks v Wq A mc ms := by
  refine MetFree.of_bodyS (code := b) (maxLocals := ml) (ret := some .int) hy ?_ ?_
  · intro args s m h hn
    obtain ⟨m9, meth, c, hn9, h1, h2, h3, h4, -, h5, h6, -⟩ := Cond.codeWith_spec (atoms_spec (ws := .codeWith y b ml (some .int) hh :: WG) h _ List.mem_cons_self)
    cases hn.symm.trans hn9
    exact ⟨meth, c, h1, h2, h3, h4, h5, h6⟩
  · intro p e s m args below meth c s₁ Bd hml hP _
    have hh0 : s₁.heap = s.heap := by rw [Bd.state]; rfl
    obtain ⟨rfl, hW, hk⟩ := hP
    have hts0 := atoms_spec (ws := .codeWith y b ml (some .int) hh :: WG) Bd.pre
    have hown : s.vm.findClass own = some m.cls := ho ▸ findClass_of_methodNamed Bd.named
    have hl := lv_entry vals (n := ml) hL
    have hb := body p e s m below meth c _ Bd.exec Bd.bytes Bd.returns Bd.notSynchronized hml hown (fun w h => hts0 w (List.mem_cons_of_mem _ h)) (vx_table (x := y) Bd (hts0 _ List.mem_cons_self)) hW hk hl va_S.rf
    rw [← lg_entry_eq] at hb
    obtain ⟨t, a1, o, b1, b2, b3⟩ := hb s₁ hh0 (Stand.of_body Bd)
    exact ⟨t, o, a1, b1, b2, ⟨b3.1, b3.2⟩⟩
theorem FX_nc {l : Launch} {s0 s : State} {b B : Nat} {D : va_G} {T : Nat → ClassId} {X : Nat → Prop} {C E : String} (F : FX l s0 b D T B) (hk : KC s0 X s) (h : Cond.not (.castable C E) ∈ flatC (Jvm.Cond.and given_1 narrow_1)) : va_Nc C E s := (va_Nc.of (FX_narrow F h)).moved hk.1.alike
theorem nc_1_0 : Cond.not (.castable (exn 1) (exn 0)) ∈ flatC (Jvm.Cond.and given_1 narrow_1) := by decide +kernel
theorem nc_2_0 : Cond.not (.castable (exn 2) (exn 0)) ∈ flatC (Jvm.Cond.and given_1 narrow_1) := by decide +kernel
theorem nc_2_1 : Cond.not (.castable (exn 2) (exn 1)) ∈ flatC (Jvm.Cond.and given_1 narrow_1) := by decide +kernel
theorem nc_3_0 : Cond.not (.castable (exn 3) (exn 0)) ∈ flatC (Jvm.Cond.and given_1 narrow_1) := by decide +kernel
theorem nc_4_0 : Cond.not (.castable (exn 4) (exn 0)) ∈ flatC (Jvm.Cond.and given_1 narrow_1) := by decide +kernel
theorem nc_4_1 : Cond.not (.castable (exn 4) (exn 1)) ∈ flatC (Jvm.Cond.and given_1 narrow_1) := by decide +kernel
/-- a method with a table, to be called: from class own, by the constant index -/
def gML (own : String) (index : Nat) (y : MethodName) (b : ByteArray) (ml : Nat) (hh : List (Nat × Nat × Nat × Nat)) (n : Nat) : Prop :=
  Cond.methodLink own index y ∈ WG ∧ Cond.codeWith y b ml (some .int) hh ∈ WG ∧ Cond.initialized y.cls ∈ WG ∧ (y.cls ≠ "java/lang/invoke/MethodHandle" ∧ y.cls ≠ "java/lang/invoke/VarHandle" ∧ (parseMethodDescriptor y.desc).map (fun d => d.parameters.length) = some n) ∧ Cond.static y ∈ WG
abbrev eLo (T : Nat → ClassId) (f : Nat → Int64) : va_E := .inl (T 8, 1, .inr (.inl f))
abbrev eDo (T : Nat → ClassId) (f : Nat → UInt64) : va_E := .inl (T 9, 1, .inr (.inr (.inr (.inl f))))
abbrev gAo (B : Nat) (X : Nat → Prop) (ob : Nat) : Nat → Prop := fun q => gA B X q ∨ q = ob
abbrev gWL (s0 : State) (D : va_G) (T : Nat → ClassId) (B : Nat) (X : Nat → Prop) (μ : Mem) (cap : Nat) (t : List Nat) (ob : Nat) (f : Nat → Int64) : Heap → Prop := fun H => gWS s0 D T B X μ cap t H ∧ va_at D vwCl (ob, eLo T f) H
abbrev gWD (s0 : State) (D : va_G) (T : Nat → ClassId) (B : Nat) (X : Nat → Prop) (μ : Mem) (cap : Nat) (t : List Nat) (ob : Nat) (f : Nat → UInt64) : Heap → Prop := fun H => gWS s0 D T B X μ cap t H ∧ va_at D vwCl (ob, eDo T f) H
/-- what a wrapper answers, and what lies in the array behind it -/
def kL {α : Type} (L : List Nat) (r : Nat ⊕ α) : Int32 := match r with
  | .inl k => nI (L.idxOf k + 1)
  | .inr _ => 0
def upI (f : Nat → Int64) (r : Nat ⊕ Int32) : Nat → Int64 := match r with
  | .inl _ => f
  | .inr x => vp_updL f 0 x.toInt64
def upZ (f : Nat → Int64) (r : Nat ⊕ Bool) : Nat → Int64 := match r with
  | .inl _ => f
  | .inr x => vp_updL f 0 (if x then 1 else 0)
def upD (f : Nat → UInt64) (r : Nat ⊕ UInt64) : Nat → UInt64 := match r with
  | .inl _ => f
  | .inr x => vf_upd f 0 x
def upF (f : Nat → UInt64) (r : Nat ⊕ UInt32) : Nat → UInt64 := match r with
  | .inl _ => f
  | .inr x => vf_upd f 0 (FP.f2d x)
theorem oI_r {r : Nat ⊕ Int32} {v : Option Value} (h : oI r = .inr v) : ∃ x, r = .inr x ∧ v = some (.int x) := by
  cases r with
  | inl k => cases h
  | inr x => cases h; exact ⟨x, rfl, rfl⟩
theorem oI_l {r : Nat ⊕ Int32} {k : Nat} (h : oI r = .inl k) : r = .inl k := by
  cases r with
  | inl k => cases h; rfl
  | inr x => cases h
theorem oZ_r {r : Nat ⊕ Bool} {v : Option Value} (h : oZ r = .inr v) : ∃ x, r = .inr x ∧ v = some (.int (b2i x)) := by
  cases r with
  | inl k => cases h
  | inr x => cases h; exact ⟨x, rfl, rfl⟩
theorem oZ_l {r : Nat ⊕ Bool} {k : Nat} (h : oZ r = .inl k) : r = .inl k := by
  cases r with
  | inl k => cases h; rfl
  | inr x => cases h
theorem oD_r {r : Nat ⊕ UInt64} {v : Option Value} (h : oD r = .inr v) : ∃ x, r = .inr x ∧ v = some (.double x) := by
  cases r with
  | inl k => cases h
  | inr x => cases h; exact ⟨x, rfl, rfl⟩
theorem oD_l {r : Nat ⊕ UInt64} {k : Nat} (h : oD r = .inl k) : r = .inl k := by
  cases r with
  | inl k => cases h; rfl
  | inr x => cases h
theorem oF_r {r : Nat ⊕ UInt32} {v : Option Value} (h : oF r = .inr v) : ∃ x, r = .inr x ∧ v = some (.float x) := by
  cases r with
  | inl k => cases h
  | inr x => cases h; exact ⟨x, rfl, rfl⟩
theorem oF_l {r : Nat ⊕ UInt32} {k : Nat} (h : oF r = .inl k) : r = .inl k := by
  cases r with
  | inl k => cases h; rfl
  | inr x => cases h
section LR
variable {p : Program} {l : Launch} {e : Env} {R : Room} {s : State} {m : MethodId} {args : Array Value} {below : List Frame} {meth : Method} {c : Code} {H : Heap} {locs : List Loc} {cells slots : Nat} {Q : State → Prop}
variable {cc : ByteArray} {pc : Nat} {ls : Array Slot} {st rest As : List Value} {D : va_G} {cl : List vw_C} {A A1 : Nat → Prop} {tys : List (ClassId × FieldType)} {H0 : Heap} {own : String} {T : Nat → ClassId} {X : Nat → Prop} {B ob : Nat} {s0 : State} {μ : Mem} {cap : Nat} {t : List Nat}
theorem gl_callS {index ml nL n mc ms : Nat} {y : MethodName} {b : ByteArray} {hh : List (Nat × Nat × Nat × Nat)} {rm : Room} {Wp Wq : Heap → Prop} {Ks : State → Prop} {v : Option Value} (hC : gC p c cc s m args own D cl tys) (hml : c.maxLocals = nL) (hS : va_S A H0 H locs) (hW : Wp H) (hks : ∀ U : State, U.heap = H → s.WarmedH U.vm → Ks U) (hbl : gBlind Ks) (hM : gMetH l y b ml hh rm As Wp Ks v Wq A1 mc ms) (hw : gML own index y b ml hh n) (hA : ∀ q, A1 q → A q) (hrm : gRm R rm ml mc ms)
    (hn : As.length = n) (hsz : ls.size = nL) (hst : st = As.reverse ++ rest) (hroom : (rest.map fun v => v.category).sum ≤ 8) (hdg : decode cc pc = .ok (.invokestatic index, 3)) (hf : cells + mc ≤ R.cells ∧ slots + ms ≤ R.slots)
    (kk : ∀ (H1 : Heap) (locs1 : List Loc), Wq H1 → va_S A H0 H1 locs1 → H.size ≤ H1.size → (∀ q, q < H.size → ¬ A1 q → H1[q]? = H[q]?) → W p l e R s m args below meth c H1 locs1 (cells + mc) (slots + ms) Q (F0 m (pc + 3) ls (v.toList ++ rest))) : W p l e R s m args below meth c H locs cells slots Q (F0 m pc ls st) := by
  obtain ⟨hx, hb, hown, hts, -⟩ := hC
  have hg : GoodIn WG (va_wsS own index y (.codeWith y b ml (some .int) hh :: WG)) := fun w hw9 => by
    have : w ∈ WG := by
      unfold va_wsS at hw9
      rcases List.mem_append.mp hw9 with h | h
      · simp only [List.mem_cons, List.not_mem_nil, or_false] at h
        rcases h with rfl | rfl | rfl
        · exact hw.1
        · exact hw.2.2.2.2
        · exact hw.2.2.1
      · rcases List.mem_cons.mp h with rfl | h
        · exact hw.2.1
        · exact h
    exact ⟨this, wg_good this⟩
  exact gw_ret (As := As) (vx_runSW ⟨hx, hb, hml, hown, hts⟩ hM (vx_cwSW n hts hg rfl hrm.1 hrm.2.1 hw.2.2.2.1 hrm.2.2) ⟨gPc_blind hbl, fun U hU hWm => ⟨rfl, by rw [hU]; exact hW, hks U hU hWm⟩⟩ rfl hn hsz hst (lv_room hroom) hdg hf) hS hA kk
theorem gl_last {f : Nat → Int64} {x : Int64} (hC : gC p c cc s m args own D vwCl (tysG T)) (hE : va_at D vwCl (ob, eLo T f) H) (hS : va_S A H0 H locs) (hA : A ob) (hdg : decode cc pc = .ok (.lastore, 1))
    (kk : ∀ (H1 : Heap) (locs1 : List Loc), va_at D vwCl (ob, eLo T (vp_updL f 0 x)) H1 → H1.size = H.size → (∀ q, q ≠ ob → H1[q]? = H[q]?) → va_S A H0 H1 locs1 → W p l e R s m args below meth c H1 locs1 cells slots Q (F0 m (pc + 1) ls rest)) : W p l e R s m args below meth c H locs cells slots Q (F0 m pc ls (.long x :: .int 0 :: .ref ob :: rest)) := by
  obtain ⟨hx, hb, hown, hts, hK⟩ := hC
  refine W.last hx hb hE ((hK.2 8 _ rfl).1 1 (fun j => .long (f j))) (fun q => by cases q) (by show ¬ ((0 : Int32) < 0 ∨ (arrV _ _ _).slots.size ≤ _); rw [arrV_size]; exact (by decide : ¬ ((0 : Int32) < 0 ∨ 1 ≤ (0 : Int32).toNatClampNeg))) rfl rfl hdg fun H1 e z oq => ?_
  refine kk H1 _ ?_ z oq (hS.put z oq hA)
  show H1[ob]? = some (vp_cell _ _)
  rw [e]
  rw [vp_cell_l, vp_cell_l, arrV_store]
  congr 2
  funext q
  by_cases hq : q = 0
  · subst hq
    simp [updV, vp_updL]
  · simp [updV, vp_updL, hq]
theorem gl_dast {f : Nat → UInt64} {x : UInt64} (hC : gC p c cc s m args own D vwCl (tysG T)) (hE : va_at D vwCl (ob, eDo T f) H) (hS : va_S A H0 H locs) (hA : A ob) (hdg : decode cc pc = .ok (.dastore, 1))
    (kk : ∀ (H1 : Heap) (locs1 : List Loc), va_at D vwCl (ob, eDo T (vf_upd f 0 x)) H1 → H1.size = H.size → (∀ q, q ≠ ob → H1[q]? = H[q]?) → va_S A H0 H1 locs1 → W p l e R s m args below meth c H1 locs1 cells slots Q (F0 m (pc + 1) ls rest)) : W p l e R s m args below meth c H locs cells slots Q (F0 m pc ls (.double x :: .int 0 :: .ref ob :: rest)) := by
  obtain ⟨hx, hb, hown, hts, hK⟩ := hC
  refine W.dast hx hb hE ((hK.2 9 _ rfl).1 1 (fun j => .double (f j))) (fun q => by cases q) (by show ¬ ((0 : Int32) < 0 ∨ (arrV _ _ _).slots.size ≤ _); rw [arrV_size]; exact (by decide : ¬ ((0 : Int32) < 0 ∨ 1 ≤ (0 : Int32).toNatClampNeg))) rfl rfl hdg fun H1 e z oq => ?_
  refine kk H1 _ ?_ z oq (hS.put z oq hA)
  show H1[ob]? = some (vp_cell _ _)
  rw [e]
  rw [vp_cell_d, vp_cell_d, arrV_store]
  congr 2
  funext q
  by_cases hq : q = 0
  · subst hq
    simp [updV, vf_upd]
  · simp [updV, vf_upd, hq]
/-- a store outside leaves the gallery -/
theorem gWS_keep {H1 : Heap} (hX : ∀ o, o < 561 → ¬ X (B + o)) (hob : X ob) (h : gWS s0 D T B X μ cap t H) (hk : ∀ q, q ≠ ob → H1[q]? = H[q]?) : gWS s0 D T B X μ cap t H1 := by
  obtain ⟨hg, v, row, mb, h1, h2, h3, h4, h5, h6, hP⟩ := h
  refine ⟨hg.kept fun k q hq => ?_, v, row, mb, h1, h2, h3, h4, h5, h6, hP.kept fun k q hq => ?_⟩
  · obtain ⟨ho, rfl⟩ := gL_some hq
    exact hk _ (fun e => hX k (by omega) (by show X (B + k); rw [show B + k = ob from e]; exact hob))
  · have h9 : k < 2 := (List.getElem?_eq_some_iff.mp hq).1
    rcases (show k = 0 ∨ k = 1 by omega) with rfl | rfl
    · cases hq
      exact hk _ (fun e => hX 560 (by omega) (by rw [show B + 560 = ob from e]; exact hob))
    · cases hq
      exact hk _ (fun e => h2 (by rw [show v = ob from e]; exact hob))
theorem va_S.gAo (h : va_S (gA B X) H0 H locs) : va_S (gAo B X ob) H0 H locs := ⟨h.1, fun q h1 h2 => h.2.1 q h1 (fun z => h2 (Or.inl z)), fun z hz => Or.inl (h.2.2 z hz)⟩
/-- what the call doesn't reach -/
theorem at_keep {x : va_E} (hob : X ob) (h : va_at D vwCl (ob, x) H0) (hS : va_S (gA B X) H0 H locs) : va_at D vwCl (ob, x) H := h.kept (hS.2.1 ob h.lt (fun z => z.2 hob))
end LR
/-- what outputCharacter answers -/
def oC (t : List Nat) (i : Int32) : Nat ⊕ Int32 := if i < 0 ∨ t.length ≤ i.toNatClampNeg then .inl 0 else .inr (nI (t.getD i.toNatClampNeg 0))
theorem oI_oC {t : List Nat} {i : Int32} : oI (oC t i) = (if i < 0 ∨ t.length ≤ i.toNatClampNeg then .inl 0 else .inr (some (.int (nI (t.getD i.toNatClampNeg 0))))) := by
  unfold oC
  split <;> rfl
theorem oC_met {l : Launch} {s0 : State} {b B : Nat} {D : va_G} {T : Nat → ClassId} {X : Nat → Prop} (F : FX l s0 b D T B) {μ : Mem} {cap : Nat} {t : List Nat} {i : Int32} : gXMet l yX10_outputCharacter cX10_outputCharacter 2 (some .char) rmo0 [.ref (B + 0), .int i] (gWS s0 D T B X μ cap t) (KC s0 X) (oI (oC t i)) (gWS s0 D T B X μ cap t) (gA B X) 1 6 := by
  rw [oI_oC]
  exact metX10_outputCharacter F
theorem FX_cs {l : Launch} {s0 s : State} {b B : Nat} {D : va_G} {T : Nat → ClassId} {X : Nat → Prop} {C E : String} {args : Array Value} (F : FX l s0 b D T B) (hk : KC s0 X s) (h : Cond.castable C E ∈ lw_tbl) : (Cond.castable C E).before args s = true := va_Nw.use rfl (va_Nw.warmC hk.1 (va_Nw.of rfl (F.2.1 _ h)))
