/-! The world: K objects in a row from the address B on; shape o r: what object o is, with the numbers r. -/
def gL (sh : (Nat → Int32) → Nat → va_E) (K B : Nat) (μ : Mem) : va_W := (List.range K).map fun o => (B + o, sh (μ o) o)
abbrev gW (D : va_G) (cl : List vw_C) (sh : (Nat → Int32) → Nat → va_E) (K B : Nat) (μ : Mem) (H : Heap) : Prop := va_P D cl (gL sh K B μ) H
theorem gL_get {sh : (Nat → Int32) → Nat → va_E} {K B : Nat} {μ : Mem} {o : Nat} (h : o < K) : (gL sh K B μ)[o]? = some (B + o, sh (μ o) o) := by
  unfold gL; rw [List.getElem?_map, List.getElem?_range h]; rfl
theorem gL_some {sh : (Nat → Int32) → Nat → va_E} {K B : Nat} {μ : Mem} {o : Nat} {q : Nat × va_E} (h : (gL sh K B μ)[o]? = some q) : o < K ∧ q = (B + o, sh (μ o) o) := by
  have hl := (List.getElem?_eq_some_iff.mp h).1
  have hK : o < K := by unfold gL at hl; rw [List.length_map, List.length_range] at hl; exact hl
  rw [gL_get hK] at h
  exact ⟨hK, (Option.some.inj h).symm⟩
theorem gL_set {sh : (Nat → Int32) → Nat → va_E} {K B : Nat} {μ μ' : Mem} {o : Nat} {e : va_E} (ho : o < K) (he : sh (μ' o) o = e) (hn : ∀ q, q ≠ o → μ' q = μ q) : (gL sh K B μ).set o (B + o, e) = gL sh K B μ' := by
  apply List.ext_getElem?
  intro i
  by_cases hi : i = o
  · subst hi
    rw [List.getElem?_set_self (by unfold gL; rw [List.length_map, List.length_range]; exact ho), gL_get ho, he]
  · rw [List.getElem?_set_ne (Ne.symm hi)]
    by_cases hk : i < K
    · rw [gL_get hk, gL_get hk, hn i hi]
    · rw [List.getElem?_eq_none, List.getElem?_eq_none] <;> (unfold gL; rw [List.length_map, List.length_range]; omega)
theorem gL_D {sh : (Nat → Int32) → Nat → va_E} {K B : Nat} {μ : Mem} {A : Nat → Prop} (hA : ∀ o, o < K → A (B + o)) : va_D A (gL sh K B μ) := by
  refine ⟨fun i j p q hp hq e => ?_, fun k q hq => ?_⟩
  · obtain ⟨_, rfl⟩ := gL_some hp
    obtain ⟨_, rfl⟩ := gL_some hq
    have e : B + i = B + j := e
    omega
  · obtain ⟨hk, rfl⟩ := gL_some hq
    exact hA k hk
/-- what a field of a class is, in all that the rows ask -/
def gF (cl : List vw_C) (own : String) (index ci k : Nat) (fin : Bool) : Prop := ∃ (C : String) (T : u_T) (N : Nat) (ty : Nat → FieldType), cl[ci]? = some (C, T, N) ∧ (∀ w ∈ u_ws C T N, w ∈ WG) ∧ k < N ∧ Cond.fieldLink own index (T k).1 (T k).2.1 (T k).2.2.1 ∈ WG ∧ (∀ k, k < N → parseFieldDescriptor (T k).2.2.1 = some (ty k)) ∧ (∀ a, a < N → ∀ b, b < N → a ≠ b → (T a).2.1 ≠ (T b).2.1) ∧ (T k).2.2.2 = fin
/-- the same with the type of the field -/
def gFt (cl : List vw_C) (own : String) (index ci k : Nat) (fin : Bool) (t : FieldType) : Prop := gF cl own index ci k fin ∧ ∃ q : vw_C, cl[ci]? = some q ∧ parseFieldDescriptor (q.2.1 k).2.2.1 = some t
section GW
variable {p : Program} {l : Launch} {e : Env} {R : Room} {s : State} {m : MethodId} {args : Array Value} {below : List Frame} {meth : Method} {c : Code} {H : Heap} {locs : List Loc} {cells slots : Nat} {Q : State → Prop}
variable {cc : ByteArray} {pc : Nat} {ls : Array Slot} {rest : List Value} {D : va_G} {cl : List vw_C} {A : Nat → Prop} {tys : List (ClassId × FieldType)} {H0 : Heap} {sh : (Nat → Int32) → Nat → va_E} {K B : Nat} {μ : Mem}
/-- what stands through a walk -/
abbrev gC (p : Program) (c : Code) (cc : ByteArray) (s : State) (m : MethodId) (args : Array Value) (own : String) (D : va_G) (cl : List vw_C) (tys : List (ClassId × FieldType)) : Prop :=
  p.tables.exec = Jvm.exec ∧ c.code = cc ∧ s.vm.findClass own = some m.cls ∧ (∀ w ∈ WG, w.before args s = true) ∧ va_K D cl tys s
theorem gw_get {own : String} {index ci k o : Nat} {fin : Bool} {fs : List Value} {v : Value} (hC : gC p c cc s m args own D cl tys) (hW : gW D cl sh K B μ H) (hF : gF cl own index ci k fin) (ho : o < K) (he : sh (μ o) o = .inr (ci, fs)) (hv : fs[k]? = some v)
    (hdg : decode cc pc = .ok (.getfield index, 3)) (kk : W p l e R s m args below meth c H locs cells slots Q (F0 m (pc + 3) ls (v :: rest))) : W p l e R s m args below meth c H locs cells slots Q (F0 m pc ls (.ref (B + o) :: rest)) := by
  obtain ⟨hx, hb, hown, hts, hK⟩ := hC
  obtain ⟨C, T, N, ty, hc, hin, hk, hlink, -⟩ := hF
  exact va_get hx hb hts hin hown hK hW o (by rw [gL_get ho, he]) hc k hk (hts _ hlink) (fun _ h => h) hv hdg kk
theorem gw_put {own : String} {index ci k o : Nat} {F : (Nat → Int32) → List Value} {t : FieldType} {x : Int32} (hC : gC p c cc s m args own D cl tys) (hS : va_S A H0 H locs) (hW : gW D cl sh K B μ H) (hA : ∀ o, o < K → A (B + o)) (hF : gFt cl own index ci k false t) (ho : o < K) (he : ∀ r, sh r o = .inr (ci, F r)) (hl : k < (F (μ o)).length) (hset : (F (μ o)).set k (.int x) = F (upd (μ o) k x)) (hn : narrow t (.int x) = .int x) (hfit : fits t (.int x) = true)
    (hdg : decode cc pc = .ok (.putfield index, 3)) (kk : ∀ (H1 : Heap) (locs1 : List Loc), gW D cl sh K B (mset μ o k x) H1 → va_S A H0 H1 locs1 → W p l e R s m args below meth c H1 locs1 cells slots Q (F0 m (pc + 3) ls rest)) : W p l e R s m args below meth c H locs cells slots Q (F0 m pc ls (.int x :: .ref (B + o) :: rest)) := by
  obtain ⟨hx, hb, hown, hts, hK⟩ := hC
  obtain ⟨⟨C, T, N, ty, hc, hin, hk, hlink, hty, hnm, hfin⟩, ⟨q, hq, hd⟩⟩ := hF
  cases Option.some.inj (hc.symm.trans hq)
  have hset2 : (gL sh K B μ).set o (B + o, .inr (ci, (F (μ o)).set k (.int x))) = gL sh K B (mset μ o k x) := gL_set ho (by rw [mset_same, he, hset]) (fun q hq => mset_ne μ o k x hq)
  exact va_put hx hb hts hin ty hty hnm hown hK hW (gL_D hA) hS o (by rw [gL_get ho, he]) hc k hk (hts _ hlink) (fun _ h => h) hfin hd hn hfit hl hdg (fun H1 locs1 h1 _ h3 => kk H1 locs1 (by rw [hset2] at h1; exact h1) h3)
theorem gw_iald {own : String} {o t0 n : Nat} {cA : ClassId} {i : Int32} (hC : gC p c cc s m args own D cl tys) (hW : gW D cl sh K B μ H) (ho : o < K) (he : sh (μ o) o = .inl (cA, n, .inl (μ o))) (ht : tys[t0]? = some (cA, .int)) (hin : vp_in i n) (hdg : decode cc pc = .ok (.iaload, 1))
    (kk : W p l e R s m args below meth c H locs cells slots Q (F0 m (pc + 1) ls (.int (μ o i.toNatClampNeg) :: rest))) : W p l e R s m args below meth c H locs cells slots Q (F0 m pc ls (.int i :: .ref (B + o) :: rest)) :=
  va_iald hC.1 hC.2.1 hC.2.2.2.2 hW o t0 (by rw [gL_get ho, he]) ht hin hdg kk
theorem gw_zald {own : String} {o t0 n : Nat} {cA : ClassId} {i : Int32} (hC : gC p c cc s m args own D cl tys) (hW : gW D cl sh K B μ H) (ho : o < K) (he : sh (μ o) o = .inl (cA, n, .inl (μ o))) (ht : tys[t0]? = some (cA, .boolean)) (hin : vp_in i n) (hdg : decode cc pc = .ok (.baload, 1))
    (kk : W p l e R s m args below meth c H locs cells slots Q (F0 m (pc + 1) ls (.int (μ o i.toNatClampNeg) :: rest))) : W p l e R s m args below meth c H locs cells slots Q (F0 m pc ls (.int i :: .ref (B + o) :: rest)) :=
  va_zald hC.1 hC.2.1 hC.2.2.2.2 hW o t0 (by rw [gL_get ho, he]) ht hin hdg kk
theorem gw_cald {own : String} {o t0 n : Nat} {cA : ClassId} {i : Int32} (hC : gC p c cc s m args own D cl tys) (hW : gW D cl sh K B μ H) (ho : o < K) (he : sh (μ o) o = .inl (cA, n, .inl (μ o))) (ht : tys[t0]? = some (cA, .char)) (hin : vp_in i n) (hdg : decode cc pc = .ok (.caload, 1))
    (kk : W p l e R s m args below meth c H locs cells slots Q (F0 m (pc + 1) ls (.int (μ o i.toNatClampNeg) :: rest))) : W p l e R s m args below meth c H locs cells slots Q (F0 m pc ls (.int i :: .ref (B + o) :: rest)) :=
  va_cald hC.1 hC.2.1 hC.2.2.2.2 hW o t0 (by rw [gL_get ho, he]) ht hin hdg kk
theorem gw_aset {o n : Nat} {cA : ClassId} {k : Nat} {x : Int32} (ho : o < K) (he : ∀ r, sh r o = .inl (cA, n, .inl r)) : (gL sh K B μ).set o (B + o, .inl (cA, n, .inl (upd (μ o) k x))) = gL sh K B (mset μ o k x) :=
  gL_set ho (by rw [mset_same, he]) (fun _ hq => mset_ne μ o k x hq)
theorem gw_iast {own : String} {o t0 n : Nat} {cA : ClassId} {i x : Int32} (hC : gC p c cc s m args own D cl tys) (hS : va_S A H0 H locs) (hW : gW D cl sh K B μ H) (hA : ∀ o, o < K → A (B + o)) (ho : o < K) (he : ∀ r, sh r o = .inl (cA, n, .inl r)) (ht : tys[t0]? = some (cA, .int)) (hin : vp_in i n) (hdg : decode cc pc = .ok (.iastore, 1))
    (kk : ∀ (H1 : Heap) (locs1 : List Loc), gW D cl sh K B (mset μ o i.toNatClampNeg x) H1 → va_S A H0 H1 locs1 → W p l e R s m args below meth c H1 locs1 cells slots Q (F0 m (pc + 1) ls rest)) : W p l e R s m args below meth c H locs cells slots Q (F0 m pc ls (.int x :: .int i :: .ref (B + o) :: rest)) :=
  va_iast hC.1 hC.2.1 hC.2.2.2.2 hW (gL_D hA) hS o t0 (by rw [gL_get ho, he]) ht hin hdg (fun H1 locs1 h1 _ h3 => kk H1 locs1 (by rw [gw_aset ho he] at h1; exact h1) h3)
theorem gw_zast {own : String} {o t0 n : Nat} {cA : ClassId} {i x : Int32} (hC : gC p c cc s m args own D cl tys) (hS : va_S A H0 H locs) (hW : gW D cl sh K B μ H) (hA : ∀ o, o < K → A (B + o)) (ho : o < K) (he : ∀ r, sh r o = .inl (cA, n, .inl r)) (ht : tys[t0]? = some (cA, .boolean)) (hin : vp_in i n) (hdg : decode cc pc = .ok (.bastore, 1))
    (kk : ∀ (H1 : Heap) (locs1 : List Loc), gW D cl sh K B (mset μ o i.toNatClampNeg (vp_nar .boolean x)) H1 → va_S A H0 H1 locs1 → W p l e R s m args below meth c H1 locs1 cells slots Q (F0 m (pc + 1) ls rest)) : W p l e R s m args below meth c H locs cells slots Q (F0 m pc ls (.int x :: .int i :: .ref (B + o) :: rest)) :=
  va_zast hC.1 hC.2.1 hC.2.2.2.2 hW (gL_D hA) hS o t0 (by rw [gL_get ho, he]) ht hin hdg (fun H1 locs1 h1 _ h3 => kk H1 locs1 (by rw [gw_aset ho he] at h1; exact h1) h3)
theorem gw_cast {own : String} {o t0 n : Nat} {cA : ClassId} {i x : Int32} (hC : gC p c cc s m args own D cl tys) (hS : va_S A H0 H locs) (hW : gW D cl sh K B μ H) (hA : ∀ o, o < K → A (B + o)) (ho : o < K) (he : ∀ r, sh r o = .inl (cA, n, .inl r)) (ht : tys[t0]? = some (cA, .char)) (hin : vp_in i n) (hdg : decode cc pc = .ok (.castore, 1))
    (kk : ∀ (H1 : Heap) (locs1 : List Loc), gW D cl sh K B (mset μ o i.toNatClampNeg (vp_nar .char x)) H1 → va_S A H0 H1 locs1 → W p l e R s m args below meth c H1 locs1 cells slots Q (F0 m (pc + 1) ls rest)) : W p l e R s m args below meth c H locs cells slots Q (F0 m pc ls (.int x :: .int i :: .ref (B + o) :: rest)) :=
  va_cast hC.1 hC.2.1 hC.2.2.2.2 hW (gL_D hA) hS o t0 (by rw [gL_get ho, he]) ht hin hdg (fun H1 locs1 h1 _ h3 => kk H1 locs1 (by rw [gw_aset ho he] at h1; exact h1) h3)
/-- a read of an array of references -/
theorem gw_aald {own : String} {o t0 n : Nat} {cA : ClassId} {ty : FieldType} {f : Nat → Option Nat} {i : Int32} {v : Value} (hC : gC p c cc s m args own D cl tys) (hW : gW D cl sh K B μ H) (ho : o < K) (he : sh (μ o) o = .inl (cA, n, .inr (.inr (.inr (.inr f))))) (ht : tys[t0]? = some (cA, ty)) (hty : ty.isReference = true) (hin : vp_in i n) (hv : va_rf (f i.toNatClampNeg) = v) (hdg : decode cc pc = .ok (.aaload, 1))
    (kk : W p l e R s m args below meth c H locs cells slots Q (F0 m (pc + 1) ls (v :: rest))) : W p l e R s m args below meth c H locs cells slots Q (F0 m pc ls (.int i :: .ref (B + o) :: rest)) := by
  subst hv
  have hP := hW o _ (by rw [gL_get ho, he])
  exact W.aald (v := va_rf (f i.toNatClampNeg)) (ty := ty) hC.1 hC.2.1 hP ((hC.2.2.2.2.2 t0 _ ht).1 n (fun j => va_rf (f j))) hty (fun q => by cases q) (by show ¬ (i < 0 ∨ (arrV _ _ _).slots.size ≤ _); rw [arrV_size]; exact hin) (by show (arrV _ _ _).slots[_]? = _; rw [arrV_read _ _ (vp_in_lt hin)]) rfl rfl hdg kk
theorem gw_alen {own : String} {o t0 : Nat} {cA : ClassId} {x : vp_A} {ty : FieldType} {v : Int32} (hC : gC p c cc s m args own D cl tys) (hW : gW D cl sh K B μ H) (ho : o < K) (he : sh (μ o) o = .inl (cA, x)) (ht : tys[t0]? = some (cA, ty)) (hv : Int32.ofNat x.1 = v) (hdg : decode cc pc = .ok (.arraylength, 1))
    (kk : W p l e R s m args below meth c H locs cells slots Q (F0 m (pc + 1) ls (.int v :: rest))) : W p l e R s m args below meth c H locs cells slots Q (F0 m pc ls (.ref (B + o) :: rest)) :=
  va_alen hC.1 hC.2.1 hC.2.2.2.2 hW o t0 (by rw [gL_get ho, he]) ht hv hdg kk
theorem gw_if_eqZ {b : Bool} {off : Int} {tgt : Nat} (hx : p.tables.exec = Jvm.exec) (hb : c.code = cc) (hdg : decode cc pc = .ok (.ifCond .eq off, 3)) (ht : (pc : Int) + off = (tgt : Int)) (kt : b = false → W p l e R s m args below meth c H locs cells slots Q (F0 m tgt ls rest)) (kf : b = true → W p l e R s m args below meth c H locs cells slots Q (F0 m (pc + 3) ls rest)) : W p l e R s m args below meth c H locs cells slots Q (F0 m pc ls (.int (b2i b) :: rest)) :=
  lv_if_eq hx hb hdg ht (fun h => kt (by cases b; rfl; exact absurd h (by decide))) (fun h => kf (by cases b; exact absurd rfl h; rfl))
theorem gw_if_neZ {b : Bool} {off : Int} {tgt : Nat} (hx : p.tables.exec = Jvm.exec) (hb : c.code = cc) (hdg : decode cc pc = .ok (.ifCond .ne off, 3)) (ht : (pc : Int) + off = (tgt : Int)) (kt : b = true → W p l e R s m args below meth c H locs cells slots Q (F0 m tgt ls rest)) (kf : b = false → W p l e R s m args below meth c H locs cells slots Q (F0 m (pc + 3) ls rest)) : W p l e R s m args below meth c H locs cells slots Q (F0 m pc ls (.int (b2i b) :: rest)) :=
  lv_if_ne hx hb hdg ht (fun h => kt (by cases b; exact absurd rfl h; rfl)) (fun h => kf (by cases b; rfl; exact absurd h (by decide)))
end GW
theorem nar_b (b : Bool) : narrow .boolean (.int (b2i b)) = .int (b2i b) := by cases b <;> rfl
theorem fit_b (b : Bool) : fits .boolean (.int (b2i b)) = true := by cases b <;> rfl
