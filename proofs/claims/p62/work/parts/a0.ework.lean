/-! What is being made: all cells from the address B on, by a function. -/
def eup (E : Nat → va_E) (k : Nat) (e : va_E) : Nat → va_E := fun o => if o = k then e else E o
theorem eup_at {E : Nat → va_E} {k j : Nat} {e : va_E} (h : j = k) : eup E k e j = e := by unfold eup; rw [if_pos h]
theorem eup_ne {E : Nat → va_E} {k j : Nat} {e : va_E} (h : j ≠ k) : eup E k e j = E j := by unfold eup; rw [if_neg h]
def gE (D : va_G) (B n : Nat) (E : Nat → va_E) (H : Heap) : Prop := H.size = B + n ∧ ∀ o, o < n → va_at D vwCl (B + o, E o) H
/-- what was there, and the new things from o on -/
def eCat (E : Nat → va_E) (o : Nat) (g : Nat → va_E) : Nat → va_E := fun j => if j < o then E j else g (j - o)
theorem va_P1 {D : va_G} {cl : List vw_C} {q : Nat × va_E} {H : Heap} (h : va_at D cl q H) : va_P D cl [q] H := fun k x hx => by
  have hz : k < 1 := (List.getElem?_eq_some_iff.mp hx).1
  rw [show k = 0 by omega] at hx
  cases hx
  exact h
theorem va_D1 {A : Nat → Prop} {q : Nat × va_E} (h : A q.1) : va_D A [q] := by
  refine ⟨fun i j x y hi hj _ => ?_, fun k x hx => ?_⟩
  · have h1 : i < 1 := (List.getElem?_eq_some_iff.mp hi).1
    have h2 : j < 1 := (List.getElem?_eq_some_iff.mp hj).1
    omega
  · have hz : k < 1 := (List.getElem?_eq_some_iff.mp hx).1
    rw [show k = 0 by omega] at hx
    cases hx
    exact h
theorem va_P0 {D : va_G} {cl : List vw_C} {H : Heap} : va_P D cl [] H := fun k x hx => by
  have hz : k < 0 := (List.getElem?_eq_some_iff.mp hx).1
  omega
theorem gE.cg {D : va_G} {B n n' : Nat} {E E' : Nat → va_E} {H : Heap} (h : gE D B n E H) (hn : n' = n) (he : ∀ o, o < n → E' o = E o) : gE D B n' E' H := by
  subst hn
  exact ⟨h.1, fun o ho => by rw [he o ho]; exact h.2 o ho⟩
theorem ge_push {D : va_G} {B n : Nat} {E : Nat → va_E} {H H1 : Heap} {e : va_E} (h : gE D B n E H) (hz : H1.size = B + n + 1) (hk : ∀ q, q < H.size → H1[q]? = H[q]?) (he : va_at D vwCl (B + n, e) H1) : gE D B (n + 1) (eup E n e) H1 := by
  refine ⟨hz, fun o ho => ?_⟩
  by_cases c : o = n
  · subst c; rw [eup_at rfl]; exact he
  · rw [eup_ne c]
    exact (h.2 o (by omega)).kept (hk _ (by rw [h.1]; show B + o < B + n; omega))
theorem ge_set {D : va_G} {B n k : Nat} {E : Nat → va_E} {H H1 : Heap} {e : va_E} (h : gE D B n E H) (hz : H1.size = H.size) (hk : ∀ q, q ≠ B + k → H1[q]? = H[q]?) (he : va_at D vwCl (B + k, e) H1) : gE D B n (eup E k e) H1 := by
  refine ⟨hz.trans h.1, fun o ho => ?_⟩
  by_cases c : o = k
  · subst c; rw [eup_at rfl]; exact he
  · rw [eup_ne c]
    exact (h.2 o ho).kept (hk _ (by show B + o ≠ B + k; omega))
theorem arrV_cg {c : ClassId} {n : Nat} {f g : Nat → Value} (h : ∀ j, j < n → f j = g j) : arrV c n f = arrV c n g := by
  unfold arrV
  congr 2
  funext j
  exact h j.val j.isLt
def va_AOA (ty : FieldType) (U : State) : Prop := (Cond.arrayOver (.array ty)).before #[] U = true
theorem va_AOA.moved {ty : FieldType} {u U : State} (hvm : u.vm.Alike U.vm) (h : va_AOA ty u) : va_AOA ty U := by
  obtain ⟨comp, c, k, h1, h2, h3, h4, h5⟩ := arrayOverA_spec h
  obtain ⟨k', hk', he⟩ := hvm.2.2 _ _ h3
  have hi : (U.vm.classes.findIdx? fun (x : Class) => match x.kind with | .array component _ => component == comp | _ => false) = some c := by
    have e1 := va_idx_bare U.vm comp
    have e2 := va_idx_bare u.vm comp
    have e3 : U.vm.bare = u.vm.bare := by first | exact hvm.bare_eq | exact hvm.bare_eq.symm
    rw [e3] at e1
    exact e1.symm.trans (e2.trans h2)
  have hkind : k'.kind = .array comp (.array ty) := by rw [he]; exact h4
  have f1 : U.vm.findClass (FieldType.array ty).toString = some comp := by rw [hvm.findClass]; exact h1
  have f2 : U.vm.findClass ("[" ++ (FieldType.array ty).toString) = some c := by rw [hvm.findClass]; exact h5
  unfold va_AOA Cond.before Cond.holds
  simp only [Cond.value]
  rw [f1, Option.bind_some]
  refine (congrArg (fun o : Option Nat => (o.bind (fun c => (U.vm.classes[c]?).map fun (k : Class) => match k.kind with | .array _ t => decide (t = FieldType.array ty) && decide (U.vm.findClass ("[" ++ (FieldType.array ty).toString) = some c) | _ => false) == some true)) hi).trans ?_
  simp [hk', hkind, f2]
theorem va_AOA.use {ty : FieldType} {A : Array Value} {U : State} (h : va_AOA ty U) : (Cond.arrayOver (.array ty)).before A U = true := h
section EW
variable {p : Program} {l : Launch} {e : Env} {R : Room} {s : State} {m : MethodId} {args : Array Value} {below : List Frame} {meth : Method} {c : Code} {H : Heap} {locs : List Loc} {cells slots : Nat} {Q : State → Prop}
variable {cc : ByteArray} {pc : Nat} {ls : Array Slot} {st rest As : List Value} {D : va_G} {A A1 : Nat → Prop} {tys : List (ClassId × FieldType)} {H0 : Heap} {own : String} {B n : Nat} {E : Nat → va_E}
theorem FX_AO {s0 : State} {b : Nat} {T : Nat → ClassId} {X : Nat → Prop} {C : String} (F : FX l s0 b D T B) (hk : KC s0 X s) (hi : Cond.arrayOver (.object C) ∈ lw_tbl) : va_AO C s := (va_AO.of (F.2.1 _ hi)).moved hk.1.alike
theorem FX_AOA {s0 : State} {b : Nat} {T : Nat → ClassId} {X : Nat → Prop} {ty : FieldType} (F : FX l s0 b D T B) (hk : KC s0 X s) (hi : Cond.arrayOver (.array ty) ∈ lw_tbl) : va_AOA ty s := va_AOA.moved hk.1.alike (show va_AOA ty s0 from F.2.1 _ hi)
theorem ge_arr {atype : ArrayType} {ty : FieldType} {t0 n0 : Nat} {cA : ClassId} {x : Int32} {a0 : vp_A} (hC : gC p c cc s m args own D vwCl tys) (harr : Cond.arrayClass ty ∈ WG) (hty : newarray.typeOf atype = ty) (ht : tys[t0]? = some (cA, ty)) (hE : gE D B n E H) (hS : va_S A H0 H locs) (ha : vp_cell cA a0 = arrV cA n0 (fun _ => defaultValue ty)) (hn : ¬ x < 0) (hN : x.toNatClampNeg = n0) (hbytes : n0 * componentBytes ty ≤ 536870912) (hcells : cells + 1 ≤ R.cells) (hslots : slots + n0 ≤ R.slots) (hdg : decode cc pc = .ok (.newarray atype, 2))
    (kk : ∀ (H1 : Heap), gE D B (n + 1) (eup E n (.inl (cA, a0))) H1 → va_S A H0 H1 locs → W p l e R s m args below meth c H1 locs (cells + 1) (slots + n0) Q (F0 m (pc + 2) ls (.ref (B + n) :: rest))) : W p l e R s m args below meth c H locs cells slots Q (F0 m pc ls (.int x :: rest)) := by
  refine al_arr (ws := []) hC harr hty ht va_P0 hS ha hn hN hbytes hcells hslots hdg (fun H1 hP hS1 hz hk => ?_)
  rw [hE.1] at hP hz ⊢
  exact kk H1 (ge_push hE hz hk (hP 0 _ rfl)) hS1
theorem ge_obj {C : String} {T : u_T} {N ci index : Nat} (ty : Nat → FieldType) (hC : gC p c cc s m args own D vwCl tys) (hcl : Cond.classLink own index C ∈ WG ∧ Cond.instantiable C N ∈ WG ∧ Cond.initialized C ∈ WG) (hin : ∀ w ∈ u_ws C T N, w ∈ WG) (hty : ∀ k, k < N → parseFieldDescriptor (T k).2.2.1 = some (ty k)) (hci : vwCl[ci]? = some (C, T, N)) {fs : List Value} (hfs : ∀ j, j < N → defaultValue (ty j) = vp_V fs j) (hE : gE D B n E H) (hS : va_S A H0 H locs) (hcells : cells + 1 ≤ R.cells) (hslots : slots + N ≤ R.slots) (hdg : decode cc pc = .ok (.new index, 3))
    (kk : ∀ (H1 : Heap), gE D B (n + 1) (eup E n (.inr (ci, fs))) H1 → va_S A H0 H1 locs → W p l e R s m args below meth c H1 locs (cells + 1) (slots + N) Q (F0 m (pc + 3) ls (.ref (B + n) :: rest))) : W p l e R s m args below meth c H locs cells slots Q (F0 m pc ls rest) := by
  refine al_obj (ws := []) ty hC hcl hin hty hci hfs va_P0 hS hcells hslots hdg (fun H1 hP hS1 hz hk => ?_)
  rw [hE.1] at hP hz ⊢
  exact kk H1 (ge_push hE hz hk (hP 0 _ rfl)) hS1
/-- a final field stored by a constructor -/
theorem ge_putF {C : String} {T : u_T} {N ci index k0 : Nat} (ty0 : Nat → FieldType) (hC : gC p c cc s m args own D vwCl tys) (hin : ∀ w ∈ u_ws C T N, w ∈ WG) (hty : ∀ k, k < N → parseFieldDescriptor (T k).2.2.1 = some (ty0 k)) (hnm : ∀ a, a < N → ∀ b, b < N → a ≠ b → (T a).2.1 ≠ (T b).2.1) (hE : gE D B n E H) (hA : A (B + k0)) (hS0 : va_S A H0 H locs) (hk0 : k0 < n) {fs : List Value} (he : E k0 = .inr (ci, fs)) (hc : vwCl[ci]? = some (C, T, N)) (k : Nat) (hk : k < N) (hlink : Cond.fieldLink own index (T k).1 (T k).2.1 (T k).2.2.1 ∈ WG) (hfin : (T k).2.2.2 = true) (hin2 : meth.name = "<init>") (hdecl : (T k).1 = own) {v : Value} (hn : narrow (ty0 k) v = v) (hfit : fits (ty0 k) v = true) (hl : k < fs.length)
    (hdg : decode cc pc = .ok (.putfield index, 3)) (kk : ∀ (H1 : Heap) (locs1 : List Loc), gE D B n (eup E k0 (.inr (ci, fs.set k v))) H1 → va_S A H0 H1 locs1 → W p l e R s m args below meth c H1 locs1 cells slots Q (F0 m (pc + 3) ls rest)) : W p l e R s m args below meth c H locs cells slots Q (F0 m pc ls (v :: .ref (B + k0) :: rest)) :=
  al_putF ty0 hC hin hty hnm (va_P1 (hE.2 k0 hk0)) (va_D1 hA) hS0 0 (by rw [he]; rfl) hc k hk hlink hfin hin2 hdecl hn hfit hl hdg (fun H1 locs1 hP hS1 hz hkq => kk H1 locs1 (ge_set hE hz hkq (hP 0 _ rfl)) hS1)
/-- a field that is not final -/
theorem ge_put {C : String} {T : u_T} {N ci index k0 : Nat} (ty0 : Nat → FieldType) (hC : gC p c cc s m args own D vwCl tys) (hin : ∀ w ∈ u_ws C T N, w ∈ WG) (hty : ∀ k, k < N → parseFieldDescriptor (T k).2.2.1 = some (ty0 k)) (hnm : ∀ a, a < N → ∀ b, b < N → a ≠ b → (T a).2.1 ≠ (T b).2.1) (hE : gE D B n E H) (hA : A (B + k0)) (hS0 : va_S A H0 H locs) (hk0 : k0 < n) {fs : List Value} (he : E k0 = .inr (ci, fs)) (hc : vwCl[ci]? = some (C, T, N)) (k : Nat) (hk : k < N) (hlink : Cond.fieldLink own index (T k).1 (T k).2.1 (T k).2.2.1 ∈ WG) (hfin : (T k).2.2.2 = false) {v : Value} (hn : narrow (ty0 k) v = v) (hfit : fits (ty0 k) v = true) (hl : k < fs.length)
    (hdg : decode cc pc = .ok (.putfield index, 3)) (kk : ∀ (H1 : Heap) (locs1 : List Loc), gE D B n (eup E k0 (.inr (ci, fs.set k v))) H1 → va_S A H0 H1 locs1 → W p l e R s m args below meth c H1 locs1 cells slots Q (F0 m (pc + 3) ls rest)) : W p l e R s m args below meth c H locs cells slots Q (F0 m pc ls (v :: .ref (B + k0) :: rest)) := by
  obtain ⟨hx, hb, hown, hts, hK⟩ := hC
  have hap := va_apart (own := own) hts hin ty0 hty hnm hK hc
  have hat := hE.2 k0 hk0
  rw [he] at hat
  obtain ⟨r, h1, cell, q1, q2, q3, q4⟩ := hat
  have hr : r = (C, T, N) := Option.some.inj (h1.symm.trans hc)
  subst hr
  obtain ⟨hS, hfc, kC, hkC, hkind⟩ := hK.1 ci _ hc
  obtain ⟨cf, kf, fi, f, hi, hsl⟩ := hS k hk
  have hlay := hts _ (hin _ (u_in_lay hk))
  unfold u_lay at hlay
  rw [if_neg (by rw [hfin]; decide)] at hlay
  have hst := (u_facts hfc hkC (u_lays hts hin hk) hi).1
  have h6 := u_store hfc hkC hkind hlay hi (hty k hk) hn hfit
  refine W.putK hx hb (f := f) ⟨hown, hts _ hlink, ⟨_, _, _, hi⟩, hst⟩ (by rw [q2]; exact h6) q1 q3 (by rw [hsl]; exact k2_hasslot (q4 k hk)) rfl rfl hdg fun H' e1 e2 e3 => ?_
  rw [hsl] at e1 ⊢
  exact kk H' _ (ge_set hE e2 e3 ⟨_, hc, t_OB.to (V := updV (vp_V fs) k v) ⟨_, e1, q2, q3, t_set q4 hap hk v⟩ (fun j _ => vp_updV_set hl v j)⟩) (hS0.put e2 e3 hA)
/-- a new array of references to objects -/
theorem ge_anew {C : String} {index t0 n0 : Nat} {cA : ClassId} {x : Int32} (hC : gC p c cc s m args own D vwCl tys) (hcl : Cond.classLink own index C ∈ WG) (hAO : va_AO C s) (ht : tys[t0]? = some (cA, .object C)) (hE : gE D B n E H) (hS : va_S A H0 H locs) (hn : ¬ x < 0) (hN : x.toNatClampNeg = n0) (hbytes : n0 * 4 ≤ 536870912) (hcells : cells + 1 ≤ R.cells) (hslots : slots + n0 ≤ R.slots) (hdg : decode cc pc = .ok (.anewarray index, 3))
    (kk : ∀ (H1 : Heap), gE D B (n + 1) (eup E n (.inl (cA, n0, rws (fun _ => none)))) H1 → va_S A H0 H1 locs → W p l e R s m args below meth c H1 locs (cells + 1) (slots + n0) Q (F0 m (pc + 3) ls (.ref (B + n) :: rest))) : W p l e R s m args below meth c H locs cells slots Q (F0 m pc ls (.int x :: rest)) := by
  subst hN
  obtain ⟨hx, hb, hown, hts, hK⟩ := hC
  refine W.anew hx hb hown (hts _ hcl) (va_AO.use hAO) rfl hdg rfl hn hbytes hcells hslots fun cA' kA comp f1 f2 f3 f4 => ?_
  obtain ⟨-, -, -, -, -, g4⟩ := (hK.2 t0 _ ht).2
  obtain rfl : cA' = cA := Option.some.inj (f1.symm.trans g4)
  generalize hH1 : H.push ({ cls := cA', slots := Array.replicate x.toNatClampNeg .null, vm := .none } : Cell) = H1
  have z1 : H1.size = H.size + 1 := by rw [← hH1, Array.size_push]
  have e1 : H1[H.size]? = some (arrV cA' x.toNatClampNeg (fun _ => .null)) := by rw [← hH1, Array.getElem?_push_size, ← arrV_new]
  have o1 : ∀ q : Nat, q < H.size → H1[q]? = H[q]? := fun q hq => by rw [← hH1, Array.getElem?_push, if_neg (Nat.ne_of_lt hq)]
  have hS1 : va_S A H0 H1 locs := ⟨Nat.le_trans hS.1 (by omega), fun x h1 h2 => (o1 x (Nat.lt_of_lt_of_le h1 hS.1)).trans (hS.2.1 x h1 h2), hS.2.2⟩
  rw [hE.1] at z1 e1 ⊢
  refine kk H1 (ge_push hE z1 o1 ?_) hS1
  show H1[B + n]? = some (vp_cell _ _)
  rw [vp_cell_q]
  exact e1
/-- a store of a reference to an object into an array of such -/
theorem ge_ast {ci t0 k0 kv n0 : Nat} {cA : ClassId} {r : vw_C} {vs : List Value} {f : Nat → Option Nat} {i : Int32} (hC : gC p c cc s m args own D vwCl tys) (hE : gE D B n E H) (hA : A (B + k0)) (hS : va_S A H0 H locs) (hk0 : k0 < n) (hkv : kv < n) (ha : E k0 = .inl (cA, n0, rws f)) (ht : tys[t0]? = some (cA, .object r.1)) (hv : E kv = .inr (ci, vs)) (hc : vwCl[ci]? = some r) (hin : vp_in i n0) (hdg : decode cc pc = .ok (.aastore, 1))
    (kk : ∀ (H1 : Heap) (locs1 : List Loc), gE D B n (eup E k0 (.inl (cA, n0, rws (va_up f i.toNatClampNeg (some (B + kv)))))) H1 → va_S A H0 H1 locs1 → W p l e R s m args below meth c H1 locs1 cells slots Q (F0 m (pc + 1) ls rest)) : W p l e R s m args below meth c H locs cells slots Q (F0 m pc ls (.ref (B + kv) :: .int i :: .ref (B + k0) :: rest)) := by
  obtain ⟨hx, hb, hown, hts, hK⟩ := hC
  have hlt : i.toNatClampNeg < n0 := Nat.not_le.mp fun q => hin (Or.inr q)
  have h0 : ¬ i < 0 := fun q => hin (Or.inl q)
  have hata := hE.2 k0 hk0
  rw [ha] at hata
  have hatv := hE.2 kv hkv
  rw [hv] at hatv
  obtain ⟨r', hr', cellV, g1, g2, g3, -⟩ := hatv
  have hcls := (hK.1 ci r hc).2
  obtain ⟨kA, comp, k1, k2, k3, -⟩ := (hK.2 t0 _ ht).2
  have hcomp : comp = D.1 ci := Option.some.inj (k3.symm.trans hcls.1)
  subst hcomp
  obtain ⟨kC, hkC, -⟩ := hcls.2
  refine W.aast hx hb hata (fun q h => by cases h) (fun h => by cases h) k1 k2 rfl hkC ⟨h0, by show _ < (arrV _ _ _).slots.size; rw [arrV_size]; exact hlt⟩ g1 (fun q h => by rw [g3] at h; cases h) (by rw [g2]; exact hkC) (by rw [g2]; exact va_assign hcls) rfl rfl hdg fun H1 e z oq => ?_
  refine kk H1 _ (ge_set hE z oq ?_) (hS.put z oq hA)
  show H1[B + k0]? = some (vp_cell _ _)
  rw [e]
  rw [vp_cell_q, vp_cell_q, arrV_store]
  congr 2
  funext q
  by_cases hq : q = i.toNatClampNeg
  · subst hq
    simp [updV, va_up, va_rf]
  · simp [updV, va_up, hq]
/-- a new array of rows of ints -/
theorem ge_mna {index t0 t3 n0 n1 : Nat} {cI cA : ClassId} {x y : Int32} (hC : gC p c cc s m args own D vwCl tys) (hcl : Cond.classLink own index "[[I" ∈ WG) (hAO : va_AOA .int s) (harr : Cond.arrayClass .int ∈ WG) (ht0 : tys[t0]? = some (cI, .int)) (ht3 : tys[t3]? = some (cA, .array .int)) (hE : gE D B n E H) (hS : va_S A H0 H locs) (hn : ¬ x < 0) (hk : ¬ y < 0) (hN : x.toNatClampNeg = n0) (hM : y.toNatClampNeg = n1) (hb1 : n0 * 4 ≤ 536870912) (hb2 : n1 * 4 ≤ 536870912) (hcells : cells + (1 + n0) ≤ R.cells) (hslots : slots + (n0 + n0 * n1) ≤ R.slots) (hdg : decode cc pc = .ok (.multianewarray index 2, 4))
    (kk : ∀ (H1 : Heap), gE D B (n + 1 + n0) (eCat E n (fun j => if j = 0 then .inl (cA, n0, rws (fun j => some (B + (n + 1 + 1 * j)))) else .inl (cI, n1, .inl (fun _ => 0)))) H1 → va_S A H0 H1 locs → W p l e R s m args below meth c H1 locs (cells + 1 + n0) (slots + n0 + n0 * n1) Q (F0 m (pc + 4) ls (.ref (B + n) :: rest))) : W p l e R s m args below meth c H locs cells slots Q (F0 m pc ls (.int y :: .int x :: rest)) := by
  subst hN
  subst hM
  obtain ⟨hx, hb, hown, hts, hK⟩ := hC
  intro T hT Xs
  obtain ⟨vm₁, cA', comp, -, fA, fC, hO, -, X', step⟩ := Xs.multianewarray2F hx hown (hts _ hcl) (va_AOA.use hAO) (hts _ harr) (g := F0 m pc ls (.int y :: .int x :: rest)) rfl (by rw [hb]; exact hdg) rfl hn hk hb1 (show y.toNatClampNeg * componentBytes .int ≤ 536870912 from hb2) (by omega) rfl rfl hcells hslots
  have e3 : cA' = cA := Option.some.inj (fA.symm.trans (hK.2 t3 _ ht3).2)
  have e0 : comp = cI := Option.some.inj (fC.symm.trans (hK.2 t0 _ ht0).2)
  subst e3
  subst e0
  generalize hF : Jvm.Free.Multi.fill (T.setVm vm₁) cA' comp x.toNatClampNeg y.toNatClampNeg (defaultValue .int) x.toNatClampNeg = F at X' step
  have hTh : (T.setVm vm₁).heap = H := hT
  obtain ⟨f1, f2, -, -⟩ := Jvm.Free.Multi.fill_facts (T.setVm vm₁) cA' comp x.toNatClampNeg y.toNatClampNeg (defaultValue .int) x.toNatClampNeg
  rw [hF, hTh] at f1 f2
  have hold : ∀ q : Nat, q < H.size → F.heap[q]? = H[q]? := fun q hq => by
    have := Jvm.Free.Multi.fill_old (T.setVm vm₁) cA' comp x.toNatClampNeg y.toNatClampNeg (defaultValue .int) (a := q) (by rw [hTh]; exact hq) x.toNatClampNeg
    rw [hF, hTh] at this
    exact this
  have hrow : ∀ j : Nat, j < x.toNatClampNeg → F.heap[H.size + 1 + j]? = some (Jvm.Free.Multi.innerC comp y.toNatClampNeg (defaultValue .int)) := fun j hj => by
    have := Jvm.Free.Multi.fill_inner (T.setVm vm₁) cA' comp x.toNatClampNeg y.toNatClampNeg (defaultValue .int) x.toNatClampNeg j hj
    rw [hF, hTh] at this
    exact this
  have hout : ∀ i : Nat, Jvm.Free.Multi.outerC cA' x.toNatClampNeg H.size i = arrV cA' x.toNatClampNeg (fun j => va_rf (if j < i then some (H.size + 1 + j) else none)) := fun i => by
    induction i with
    | zero =>
      show ({ cls := cA', slots := Array.replicate x.toNatClampNeg .null, vm := .none } : Cell) = _
      rw [arrV_new]
      refine congrArg (arrV cA' x.toNatClampNeg) (funext fun j => ?_)
      simp [va_rf]
    | succ i ih =>
      show (Jvm.Free.Multi.outerC cA' x.toNatClampNeg H.size i).setSlot i (.ref (H.size + 1 + i)) = _
      rw [ih, arrV_store]
      refine congrArg (arrV cA' x.toNatClampNeg) (funext fun j => ?_)
      by_cases e : j = i
      · subst e
        simp [updV, va_rf]
      · by_cases h : j < i
        · simp [updV, e, h, Nat.lt_succ_of_lt h]
        · simp [updV, e, h, show ¬ j < i + 1 by omega]
  rw [hout] at f2
  have hsz := hE.1
  have hG : gE D B (n + 1 + x.toNatClampNeg) (eCat E n (fun j => if j = 0 then .inl (cA', x.toNatClampNeg, rws (fun j => some (B + (n + 1 + 1 * j)))) else .inl (comp, y.toNatClampNeg, .inl (fun _ => 0)))) F.heap := by
    refine ⟨by rw [f1, hsz]; omega, fun o ho => ?_⟩
    unfold eCat
    by_cases c1 : o < n
    · rw [if_pos c1]
      exact (hE.2 o c1).kept (hold _ (by rw [hsz]; show B + o < B + n; omega))
    · rw [if_neg c1]
      dsimp only
      by_cases c2 : o - n = 0
      · rw [if_pos c2]
        have eo : o = n := by omega
        subst eo
        show F.heap[B + o]? = some (vp_cell _ _)
        rw [hsz] at f2
        rw [vp_cell_q, f2]
        refine congrArg some (arrV_cg (fun j hj => ?_))
        rw [if_pos hj, show B + o + 1 + j = B + (o + 1 + 1 * j) by omega]
      · rw [if_neg c2]
        show F.heap[B + o]? = some (vp_cell _ _)
        have hr := hrow (o - n - 1) (by omega)
        rw [hsz, show B + n + 1 + (o - n - 1) = B + o by omega] at hr
        rw [hr, vp_cell_i]
        unfold Jvm.Free.Multi.innerC
        rw [arrV_new]; rfl
  obtain ⟨t, a1, b1⟩ := kk F.heap hG ⟨by rw [f1]; have := hS.1; omega, fun q h1 h2 => (hold q (Nat.lt_of_lt_of_le h1 hS.1)).trans (hS.2.1 q h1 h2), hS.2.2⟩ F rfl X'
  refine ⟨t, step t ?_, b1⟩
  have e : T.heap.size = B + n := by rw [hT]; exact hsz
  rw [e]
  exact a1
theorem ge_get {C : String} {T : u_T} {N ci index k0 : Nat} {v : Value} (hC : gC p c cc s m args own D vwCl tys) (hin : ∀ w ∈ u_ws C T N, w ∈ WG) (hE : gE D B n E H) (hk0 : k0 < n) {fs : List Value} (he : E k0 = .inr (ci, fs)) (hc : vwCl[ci]? = some (C, T, N)) (k : Nat) (hk : k < N) (hlink : Cond.fieldLink own index (T k).1 (T k).2.1 (T k).2.2.1 ∈ WG) (hv : fs[k]? = some v) (hdg : decode cc pc = .ok (.getfield index, 3))
    (kk : W p l e R s m args below meth c H locs cells slots Q (F0 m (pc + 3) ls (v :: rest))) : W p l e R s m args below meth c H locs cells slots Q (F0 m pc ls (.ref (B + k0) :: rest)) :=
  va_get hC.1 hC.2.1 hC.2.2.2.1 hin hC.2.2.1 hC.2.2.2.2 (va_P1 (hE.2 k0 hk0)) 0 (by rw [he]; rfl) hc k hk (hC.2.2.2.1 _ hlink) (fun _ h => h) hv hdg kk
theorem ge_alen {k0 t0 : Nat} {cA : ClassId} {x : vp_A} {ty : FieldType} {v : Int32} (hC : gC p c cc s m args own D vwCl tys) (hE : gE D B n E H) (hk0 : k0 < n) (he : E k0 = .inl (cA, x)) (ht : tys[t0]? = some (cA, ty)) (hv : Int32.ofNat x.1 = v) (hdg : decode cc pc = .ok (.arraylength, 1))
    (kk : W p l e R s m args below meth c H locs cells slots Q (F0 m (pc + 1) ls (.int v :: rest))) : W p l e R s m args below meth c H locs cells slots Q (F0 m pc ls (.ref (B + k0) :: rest)) :=
  va_alen hC.1 hC.2.1 hC.2.2.2.2 (va_P1 (hE.2 k0 hk0)) 0 t0 (by rw [he]; rfl) ht hv hdg kk
theorem gw_callIN {index ml nL nn mc ms a : Nat} {y : MethodName} {b : ByteArray} {rm : Room} {host : String} {Wp Wq : Heap → Prop} {Ks : State → Prop} {v : Option Value} {cl : List vw_C} (hC : gC p c cc s m args own D cl tys) (hml : c.maxLocals = nL) (hS : va_S A H0 H locs) (hW : Wp H) (hks : ∀ U : State, U.heap = H → s.WarmedH U.vm → Ks U) (hbl : gBlind Ks) (hM : gMet l y b ml none rm (.ref a :: As) Wp Ks v Wq A1 mc ms) (hw : Cond.code y b ml none ∈ WG ∧ Cond.initialized y.cls ∈ WG ∧ Cond.instanceMethod y ∈ WG ∧ (y.cls ≠ "java/lang/invoke/MethodHandle" ∧ y.cls ≠ "java/lang/invoke/VarHandle" ∧ (parseMethodDescriptor y.desc).map (fun d => d.parameters.length) = some nn)) (hini : y.name = "<init>") (hnw : va_Nw (.methodLinkNest own index y host) s) (hA : ∀ q, A1 q → A q) (hrm : gRm R rm ml mc ms)
    (hn : As.length = nn) (hsz : ls.size = nL) (hst : st = As.reverse ++ .ref a :: rest) (hroom : (rest.map fun v => v.category).sum ≤ 8) (hdg : decode cc pc = .ok (.invokespecial index, 3)) (hf : cells + mc ≤ R.cells ∧ slots + ms ≤ R.slots)
    (kk : ∀ (H1 : Heap) (locs1 : List Loc), Wq H1 → va_S A H0 H1 locs1 → H.size ≤ H1.size → (∀ q, q < H.size → ¬ A1 q → H1[q]? = H[q]?) → W p l e R s m args below meth c H1 locs1 (cells + mc) (slots + ms) Q (F0 m (pc + 3) ls (v.toList ++ rest))) : W p l e R s m args below meth c H locs cells slots Q (F0 m pc ls st) := by
  obtain ⟨hx, hb, hown, hts, -⟩ := hC
  exact gw_ret (As := .ref a :: As) (va_runIN ⟨hx, hb, hml, hown, hts⟩ hM ⟨va_cnB nn hts (wg_in hw.1) rfl hrm.1 hrm.2.1 hnw (hts _ hw.2.1) hw.2.2.2 hrm.2.2, hini, hts _ hw.2.2.1⟩ ⟨gPc_blind hbl, fun U hU hWm => ⟨rfl, by rw [hU]; exact hW, hks U hU hWm⟩⟩ rfl hn hsz hst (lv_room hroom) hdg hf) hS hA kk
end EW
