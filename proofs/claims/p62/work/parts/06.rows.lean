section GX
variable {p : Program} {l : Launch} {e : Env} {R : Room} {s : State} {m : MethodId} {args : Array Value} {below : List Frame} {meth : Method} {c : Code} {H : Heap} {locs : List Loc} {cells slots : Nat} {Q : State → Prop}
variable {cc : ByteArray} {pc : Nat} {ls : Array Slot} {st rest As : List Value} {D : va_G} {cl : List vw_C} {A A1 : Nat → Prop} {tys : List (ClassId × FieldType)} {H0 : Heap} {sh : (Nat → Int32) → Nat → va_E} {K B : Nat} {μ μ1 : Mem} {own : String} {Wp Wq : Heap → Prop} {Ks : State → Prop} {v : Option Value}
theorem gq_iald {o t0 n : Nat} {cA : ClassId} {i x : Int32} (hC : gC p c cc s m args own D cl tys) (hW : gW D cl sh K B μ H) (ho : o < K) (he : sh (μ o) o = .inl (cA, n, .inl (μ o))) (ht : tys[t0]? = some (cA, .int)) (hv : x = μ o i.toNatClampNeg) (hin : vp_in i n) (hdg : decode cc pc = .ok (.iaload, 1))
    (kk : W p l e R s m args below meth c H locs cells slots Q (F0 m (pc + 1) ls (.int x :: rest))) : W p l e R s m args below meth c H locs cells slots Q (F0 m pc ls (.int i :: .ref (B + o) :: rest)) := by
  subst hv; exact gw_iald hC hW ho he ht hin hdg kk
theorem gq_zald {o t0 n : Nat} {cA : ClassId} {i x : Int32} (hC : gC p c cc s m args own D cl tys) (hW : gW D cl sh K B μ H) (ho : o < K) (he : sh (μ o) o = .inl (cA, n, .inl (μ o))) (ht : tys[t0]? = some (cA, .boolean)) (hv : x = μ o i.toNatClampNeg) (hin : vp_in i n) (hdg : decode cc pc = .ok (.baload, 1))
    (kk : W p l e R s m args below meth c H locs cells slots Q (F0 m (pc + 1) ls (.int x :: rest))) : W p l e R s m args below meth c H locs cells slots Q (F0 m pc ls (.int i :: .ref (B + o) :: rest)) := by
  subst hv; exact gw_zald hC hW ho he ht hin hdg kk
theorem gq_cald {o t0 n : Nat} {cA : ClassId} {i x : Int32} (hC : gC p c cc s m args own D cl tys) (hW : gW D cl sh K B μ H) (ho : o < K) (he : sh (μ o) o = .inl (cA, n, .inl (μ o))) (ht : tys[t0]? = some (cA, .char)) (hv : x = μ o i.toNatClampNeg) (hin : vp_in i n) (hdg : decode cc pc = .ok (.caload, 1))
    (kk : W p l e R s m args below meth c H locs cells slots Q (F0 m (pc + 1) ls (.int x :: rest))) : W p l e R s m args below meth c H locs cells slots Q (F0 m pc ls (.int i :: .ref (B + o) :: rest)) := by
  subst hv; exact gw_cald hC hW ho he ht hin hdg kk
theorem gq_put {index ci k o : Nat} {F : (Nat → Int32) → List Value} {t : FieldType} {x : Int32} (hC : gC p c cc s m args own D cl tys) (hS : va_S A H0 H locs) (hW : gW D cl sh K B μ H) (hA : ∀ o, o < K → A (B + o)) (hF : gFt cl own index ci k false t) (ho : o < K) (he : ∀ r, sh r o = .inr (ci, F r)) (hl : k < (F (μ o)).length) (hset : (F (μ o)).set k (.int x) = F (upd (μ o) k x)) (hn : narrow t (.int x) = .int x) (hfit : fits t (.int x) = true) (hv : μ1 = mset μ o k x)
    (hdg : decode cc pc = .ok (.putfield index, 3)) (kk : ∀ (H1 : Heap) (locs1 : List Loc), gW D cl sh K B μ1 H1 → va_S A H0 H1 locs1 → W p l e R s m args below meth c H1 locs1 cells slots Q (F0 m (pc + 3) ls rest)) : W p l e R s m args below meth c H locs cells slots Q (F0 m pc ls (.int x :: .ref (B + o) :: rest)) := by
  subst hv; exact gw_put hC hS hW hA hF ho he hl hset hn hfit hdg kk
theorem gq_iast {o t0 n : Nat} {cA : ClassId} {i x : Int32} (hC : gC p c cc s m args own D cl tys) (hS : va_S A H0 H locs) (hW : gW D cl sh K B μ H) (hA : ∀ o, o < K → A (B + o)) (ho : o < K) (he : ∀ r, sh r o = .inl (cA, n, .inl r)) (ht : tys[t0]? = some (cA, .int)) (hv : μ1 = mset μ o i.toNatClampNeg x) (hin : vp_in i n) (hdg : decode cc pc = .ok (.iastore, 1))
    (kk : ∀ (H1 : Heap) (locs1 : List Loc), gW D cl sh K B μ1 H1 → va_S A H0 H1 locs1 → W p l e R s m args below meth c H1 locs1 cells slots Q (F0 m (pc + 1) ls rest)) : W p l e R s m args below meth c H locs cells slots Q (F0 m pc ls (.int x :: .int i :: .ref (B + o) :: rest)) := by
  subst hv; exact gw_iast hC hS hW hA ho he ht hin hdg kk
theorem gq_zast {o t0 n : Nat} {cA : ClassId} {i x : Int32} (hC : gC p c cc s m args own D cl tys) (hS : va_S A H0 H locs) (hW : gW D cl sh K B μ H) (hA : ∀ o, o < K → A (B + o)) (ho : o < K) (he : ∀ r, sh r o = .inl (cA, n, .inl r)) (ht : tys[t0]? = some (cA, .boolean)) (hv : μ1 = mset μ o i.toNatClampNeg (vp_nar .boolean x)) (hin : vp_in i n) (hdg : decode cc pc = .ok (.bastore, 1))
    (kk : ∀ (H1 : Heap) (locs1 : List Loc), gW D cl sh K B μ1 H1 → va_S A H0 H1 locs1 → W p l e R s m args below meth c H1 locs1 cells slots Q (F0 m (pc + 1) ls rest)) : W p l e R s m args below meth c H locs cells slots Q (F0 m pc ls (.int x :: .int i :: .ref (B + o) :: rest)) := by
  subst hv; exact gw_zast hC hS hW hA ho he ht hin hdg kk
theorem gq_cast {o t0 n : Nat} {cA : ClassId} {i x : Int32} (hC : gC p c cc s m args own D cl tys) (hS : va_S A H0 H locs) (hW : gW D cl sh K B μ H) (hA : ∀ o, o < K → A (B + o)) (ho : o < K) (he : ∀ r, sh r o = .inl (cA, n, .inl r)) (ht : tys[t0]? = some (cA, .char)) (hv : μ1 = mset μ o i.toNatClampNeg (vp_nar .char x)) (hin : vp_in i n) (hdg : decode cc pc = .ok (.castore, 1))
    (kk : ∀ (H1 : Heap) (locs1 : List Loc), gW D cl sh K B μ1 H1 → va_S A H0 H1 locs1 → W p l e R s m args below meth c H1 locs1 cells slots Q (F0 m (pc + 1) ls rest)) : W p l e R s m args below meth c H locs cells slots Q (F0 m pc ls (.int x :: .int i :: .ref (B + o) :: rest)) := by
  subst hv; exact gw_cast hC hS hW hA ho he ht hin hdg kk
theorem gq_aald {o t0 n k q : Nat} {cA : ClassId} {ty : FieldType} {i : Int32} (hC : gC p c cc s m args own D cl tys) (hW : gW D cl sh K B μ H) (ho : o < K) (he : sh (μ o) o = .inl (cA, n, rws (fun j => some (B + (o + 1 + k * j))))) (ht : tys[t0]? = some (cA, ty)) (hty : ty.isReference = true) (hv : q = i.toNatClampNeg) (hin : vp_in i n) (hdg : decode cc pc = .ok (.aaload, 1))
    (kk : W p l e R s m args below meth c H locs cells slots Q (F0 m (pc + 1) ls (.ref (B + (o + 1 + k * q)) :: rest))) : W p l e R s m args below meth c H locs cells slots Q (F0 m pc ls (.int i :: .ref (B + o) :: rest)) := by
  subst hv; exact gw_aald hC hW ho he ht hty hin rfl hdg kk
theorem gw_copy {index o q t0 n0 n1 : Nat} {cA : ClassId} {sp dp n : Int32} (hC : gC p c cc s m args own D cl tys) (hml : c.maxLocals = ls.size) (hlink : Cond.methodLink own index arraycopyName ∈ WG) (hnat : Cond.native arraycopyName ∈ WG) (hstat : Cond.static arraycopyName ∈ WG) (hini : Cond.initialized "java/lang/System" ∈ WG)
    (hS : va_S A H0 H locs) (hW : gW D cl sh K B μ H) (hA : ∀ o, o < K → A (B + o)) (ho : o < K) (hq : q < K) (he : ∀ r, sh r o = .inl (cA, n0, .inl r)) (hf : ∀ r, sh r q = .inl (cA, n1, .inl r)) (ht : tys[t0]? = some (cA, .int)) (hv : μ1 = fun i => if i = q then va_cpy (μ o) (μ q) sp.toNatClampNeg dp.toNatClampNeg n.toNatClampNeg else μ i) (hc : ¬ sp < 0 ∧ ¬ dp < 0 ∧ ¬ n < 0 ∧ sp.toNatClampNeg + n.toNatClampNeg ≤ n0 ∧ dp.toNatClampNeg + n.toNatClampNeg ≤ n1)
    (hframes : 1 ≤ R.frames) (hlocals : (rest.map fun v => v.category).sum + (nativeFrameWords "java/lang/System" "arraycopy" 5 + 11) ≤ R.locals) (hdg : decode cc pc = .ok (.invokestatic index, 3))
    (kk : ∀ (H1 : Heap) (locs1 : List Loc), gW D cl sh K B μ1 H1 → va_S A H0 H1 locs1 → W p l e R s m args below meth c H1 locs1 cells slots Q (F0 m (pc + 3) ls rest)) : W p l e R s m args below meth c H locs cells slots Q (F0 m pc ls (.int n :: .int dp :: .ref (B + q) :: .int sp :: .ref (B + o) :: rest)) := by
  obtain ⟨hx, hb, hown, hts, hK⟩ := hC
  refine va_copyi hx hb hml hown (hts _ hlink) (hts _ hnat) (hts _ hstat) (hts _ hini) hK hW (gL_D hA) hS o q t0 t0 (by rw [gL_get ho, he]) (by rw [gL_get hq, hf]) ht ht rfl hc.1 hc.2.1 hc.2.2.1 hc.2.2.2.1 hc.2.2.2.2 (fun _ _ => rfl) hframes hlocals hdg (fun H1 locs1 h1 _ h3 => kk H1 locs1 ?_ h3)
  rw [gL_set (μ' := μ1) hq (by rw [hv, hf]; simp) (fun z hz => by rw [hv]; simp [hz])] at h1
  exact h1
theorem gw_max {index : Nat} {x y : Int32} (hC : gC p c cc s m args own D cl tys) (hml : c.maxLocals = ls.size) (hlink : Cond.methodLink own index Lib.Math.max.name ∈ WG) (hstat : Cond.static Lib.Math.max.name ∈ WG) (hini : Cond.initialized "java/lang/Math" ∈ WG) (hcode : Cond.code Lib.Math.max.name Lib.Math.max.code 2 (some .int) ∈ WG)
    (hframes : 1 ≤ R.frames) (hlocals : (rest.map fun v => v.category).sum + 13 ≤ R.locals) (hc : cells ≤ R.cells) (hs : slots ≤ R.slots) (hdg : decode cc pc = .ok (.invokestatic index, 3))
    (kk : W p l e R s m args below meth c H locs cells slots Q (F0 m (pc + 3) ls (.int (imax x y) :: rest))) : W p l e R s m args below meth c H locs cells slots Q (F0 m pc ls (.int y :: .int x :: rest)) :=
  va_mmax hC.1 hC.2.1 hml hC.2.2.1 (hC.2.2.2.1 _ hlink) (hC.2.2.2.1 _ hstat) (hC.2.2.2.1 _ hini) (hC.2.2.2.1 _ hcode) hframes hlocals hc hs hdg kk
theorem gw_min {index : Nat} {x y : Int32} (hC : gC p c cc s m args own D cl tys) (hml : c.maxLocals = ls.size) (hlink : Cond.methodLink own index Lib.Math.min.name ∈ WG) (hstat : Cond.static Lib.Math.min.name ∈ WG) (hini : Cond.initialized "java/lang/Math" ∈ WG) (hcode : Cond.code Lib.Math.min.name Lib.Math.min.code 2 (some .int) ∈ WG)
    (hframes : 1 ≤ R.frames) (hlocals : (rest.map fun v => v.category).sum + 13 ≤ R.locals) (hc : cells ≤ R.cells) (hs : slots ≤ R.slots) (hdg : decode cc pc = .ok (.invokestatic index, 3))
    (kk : W p l e R s m args below meth c H locs cells slots Q (F0 m (pc + 3) ls (.int (imin x y) :: rest))) : W p l e R s m args below meth c H locs cells slots Q (F0 m pc ls (.int y :: .int x :: rest)) :=
  va_mmin hC.1 hC.2.1 hml hC.2.2.1 (hC.2.2.2.1 _ hlink) (hC.2.2.2.1 _ hstat) (hC.2.2.2.1 _ hini) (hC.2.2.2.1 _ hcode) hframes hlocals hc hs hdg kk
theorem gw_callSN {index ml nL n mc ms : Nat} {y : MethodName} {b : ByteArray} {ret : Option FieldType} {rm : Room} {host : String} (hC : gC p c cc s m args own D cl tys) (hml : c.maxLocals = nL) (hS : va_S A H0 H locs) (hW : Wp H) (hks : ∀ U : State, U.heap = H → s.WarmedH U.vm → Ks U) (hbl : gBlind Ks) (hM : gMet l y b ml ret rm As Wp Ks v Wq A1 mc ms) (hw : Cond.code y b ml ret ∈ WG ∧ Cond.initialized y.cls ∈ WG ∧ Cond.static y ∈ WG ∧ (y.cls ≠ "java/lang/invoke/MethodHandle" ∧ y.cls ≠ "java/lang/invoke/VarHandle" ∧ (parseMethodDescriptor y.desc).map (fun d => d.parameters.length) = some n)) (hnw : va_Nw (.methodLinkNest own index y host) s) (hA : ∀ q, A1 q → A q) (hrm : gRm R rm ml mc ms)
    (hn : As.length = n) (hsz : ls.size = nL) (hst : st = As.reverse ++ rest) (hroom : (rest.map fun v => v.category).sum ≤ 8) (hdg : decode cc pc = .ok (.invokestatic index, 3)) (hf : cells + mc ≤ R.cells ∧ slots + ms ≤ R.slots)
    (kk : ∀ (H1 : Heap) (locs1 : List Loc), Wq H1 → va_S A H0 H1 locs1 → H.size ≤ H1.size → (∀ q, q < H.size → ¬ A1 q → H1[q]? = H[q]?) → W p l e R s m args below meth c H1 locs1 (cells + mc) (slots + ms) Q (F0 m (pc + 3) ls (v.toList ++ rest))) : W p l e R s m args below meth c H locs cells slots Q (F0 m pc ls st) := by
  obtain ⟨hx, hb, hown, hts, -⟩ := hC
  exact gw_ret (As := As) (va_runSN ⟨hx, hb, hml, hown, hts⟩ hM ⟨va_cnB n hts (wg_in hw.1) rfl hrm.1 hrm.2.1 hnw (hts _ hw.2.1) hw.2.2.2 hrm.2.2, hts _ hw.2.2.1, trivial⟩ ⟨gPc_blind hbl, fun U hU hWm => ⟨rfl, by rw [hU]; exact hW, hks U hU hWm⟩⟩ rfl hn hsz hst (lv_room hroom) hdg hf) hS hA kk
theorem gw_gets {C n d : String} {v : Value} {index : Nat} (hC : gC p c cc s m args own D cl tys) (hZ : va_Z C n d v A s s.heap) (hS : va_S A s.heap H locs) (hlink : Cond.fieldLink own index C n d ∈ WG) (hdg : decode cc pc = .ok (.getstatic index, 3))
    (kk : W p l e R s m args below meth c H locs cells slots Q (F0 m (pc + 3) ls (v :: rest))) : W p l e R s m args below meth c H locs cells slots Q (F0 m pc ls rest) :=
  va_gets hC.1 hC.2.1 hZ hS hC.2.2.1 (hC.2.2.2.1 _ hlink) (fun _ h => h) hdg kk
end GX
theorem FX_N {l : Launch} {s0 s : State} {b B : Nat} {D : va_G} {T : Nat → ClassId} {X : Nat → Prop} {own host : String} {index : Nat} {y : MethodName} (F : FX l s0 b D T B) (hk : KC s0 X s) (i : Nat) (hi : tables_1[i]? = some (.methodLinkNest own index y host)) : va_Nw (.methodLinkNest own index y host) s :=
  va_Nw.warmM hk.1 (va_Nw.of rfl (F.2.1 _ (List.mem_append_right _ (List.mem_of_getElem? hi))))
/-- an enum's constant at the start -/
theorem eAd_ev {C d : String} {nm : List String} {s0 : State} {b k : Nat} {E : String} (h : (Cond.exactly (.static C (nm.getD k "") d) E).before #[.ref b] s0 = true) : (Term.static C (nm.getD k "") d).eval #[.ref b] s0 none [] s0 = some (.ref (eAd C d nm s0 k)) := by
  obtain ⟨a, c, cell, k9, q1, -⟩ := Cond.exactly_spec h
  have q2 : (Term.static C (nm.getD k "") d).eval #[] s0 none [] s0 = some (.ref a) := q1
  have q3 : eAd C d nm s0 k = a := by unfold eAd; rw [q2]
  rw [q3]; exact q1
theorem FX_narrow {l : Launch} {s0 : State} {b B : Nat} {D : va_G} {T : Nat → ClassId} (F : FX l s0 b D T B) {w : Cond} (h : w ∈ flatC (Jvm.Cond.and given_1 narrow_1)) : w.before #[.ref b] s0 = true := flat_of_before _ F.2.2.1 w h
theorem gA_old {s0 : State} {B : Nat} {X : Nat → Prop} (hB : s0.heap.size ≤ B) : ∀ q, gA B X q → s0.heap.size ≤ q := fun q h => Nat.le_trans hB h.1
theorem KC_Z {l : Launch} {s0 s : State} {b B : Nat} {D : va_G} {T : Nat → ClassId} {X : Nat → Prop} {C n d : String} {v : Value} (F : FX l s0 b D T B) (hk : KC s0 X s) (h : va_Z C n d v (fun q => s0.heap.size ≤ q) s0 s0.heap) : va_Z C n d v (gA B X) s s.heap :=
  (va_Z.moved hk.1.alike (h.kept (fun a ha hn => hk.2.2.1 a ha))).narrow (gA_old F.2.2.2.2)
theorem zF_0 {l : Launch} {s0 s : State} {b B : Nat} {D : va_G} {T : Nat → ClassId} {X : Nat → Prop} (F : FX l s0 b D T B) (hk : KC s0 X s) : va_Z RX2 "NOTHING" "LAvalancheGallery$Fault;" (.ref (gfa s0 0)) (gA B X) s s.heap :=
  KC_Z F hk (va_Zof (args := #[.ref b]) (F.2.1 _ (List.mem_append_right _ (List.mem_of_getElem? (i := 370) (by decide +kernel)))) (F.2.1 _ (List.mem_append_right _ (List.mem_of_getElem? (i := 14) (by decide +kernel)))) (eAd_ev (nm := nmF) (k := 0) (E := RX2) (FX_narrow F (by decide +kernel))) (fun a ha => Nat.not_le.mpr ha))
theorem zF_1 {l : Launch} {s0 s : State} {b B : Nat} {D : va_G} {T : Nat → ClassId} {X : Nat → Prop} (F : FX l s0 b D T B) (hk : KC s0 X s) : va_Z RX2 "INDEX" "LAvalancheGallery$Fault;" (.ref (gfa s0 1)) (gA B X) s s.heap :=
  KC_Z F hk (va_Zof (args := #[.ref b]) (F.2.1 _ (List.mem_append_right _ (List.mem_of_getElem? (i := 379) (by decide +kernel)))) (F.2.1 _ (List.mem_append_right _ (List.mem_of_getElem? (i := 14) (by decide +kernel)))) (eAd_ev (nm := nmF) (k := 1) (E := RX2) (FX_narrow F (by decide +kernel))) (fun a ha => Nat.not_le.mpr ha))
theorem zF_2 {l : Launch} {s0 s : State} {b B : Nat} {D : va_G} {T : Nat → ClassId} {X : Nat → Prop} (F : FX l s0 b D T B) (hk : KC s0 X s) : va_Z RX2 "ARGUMENT" "LAvalancheGallery$Fault;" (.ref (gfa s0 2)) (gA B X) s s.heap :=
  KC_Z F hk (va_Zof (args := #[.ref b]) (F.2.1 _ (List.mem_append_right _ (List.mem_of_getElem? (i := 372) (by decide +kernel)))) (F.2.1 _ (List.mem_append_right _ (List.mem_of_getElem? (i := 14) (by decide +kernel)))) (eAd_ev (nm := nmF) (k := 2) (E := RX2) (FX_narrow F (by decide +kernel))) (fun a ha => Nat.not_le.mpr ha))
theorem zF_3 {l : Launch} {s0 s : State} {b B : Nat} {D : va_G} {T : Nat → ClassId} {X : Nat → Prop} (F : FX l s0 b D T B) (hk : KC s0 X s) : va_Z RX2 "STATE" "LAvalancheGallery$Fault;" (.ref (gfa s0 3)) (gA B X) s s.heap :=
  KC_Z F hk (va_Zof (args := #[.ref b]) (F.2.1 _ (List.mem_append_right _ (List.mem_of_getElem? (i := 374) (by decide +kernel)))) (F.2.1 _ (List.mem_append_right _ (List.mem_of_getElem? (i := 14) (by decide +kernel)))) (eAd_ev (nm := nmF) (k := 3) (E := RX2) (FX_narrow F (by decide +kernel))) (fun a ha => Nat.not_le.mpr ha))
theorem zF_4 {l : Launch} {s0 s : State} {b B : Nat} {D : va_G} {T : Nat → ClassId} {X : Nat → Prop} (F : FX l s0 b D T B) (hk : KC s0 X s) : va_Z RX2 "MISSING" "LAvalancheGallery$Fault;" (.ref (gfa s0 4)) (gA B X) s s.heap :=
  KC_Z F hk (va_Zof (args := #[.ref b]) (F.2.1 _ (List.mem_append_right _ (List.mem_of_getElem? (i := 485) (by decide +kernel)))) (F.2.1 _ (List.mem_append_right _ (List.mem_of_getElem? (i := 14) (by decide +kernel)))) (eAd_ev (nm := nmF) (k := 4) (E := RX2) (FX_narrow F (by decide +kernel))) (fun a ha => Nat.not_le.mpr ha))
theorem zF_5 {l : Launch} {s0 s : State} {b B : Nat} {D : va_G} {T : Nat → ClassId} {X : Nat → Prop} (F : FX l s0 b D T B) (hk : KC s0 X s) : va_Z RX2 "REFUSED" "LAvalancheGallery$Fault;" (.ref (gfa s0 5)) (gA B X) s s.heap :=
  KC_Z F hk (va_Zof (args := #[.ref b]) (F.2.1 _ (List.mem_append_right _ (List.mem_of_getElem? (i := 503) (by decide +kernel)))) (F.2.1 _ (List.mem_append_right _ (List.mem_of_getElem? (i := 14) (by decide +kernel)))) (eAd_ev (nm := nmF) (k := 5) (E := RX2) (FX_narrow F (by decide +kernel))) (fun a ha => Nat.not_le.mpr ha))
theorem gfa_ne {l : Launch} {s0 : State} {b B : Nat} {D : va_G} {T : Nat → ClassId} (F : FX l s0 b D T B) : ∀ i j, i < 6 → j < 6 → i ≠ j → eAd RX2 "LAvalancheGallery$Fault;" nmF s0 i ≠ eAd RX2 "LAvalancheGallery$Fault;" nmF s0 j := by
  have ev : ∀ k, k < 6 → (Term.static RX2 (nmF.getD k "") "LAvalancheGallery$Fault;").eval #[.ref b] s0 none [] s0 = some (.ref (eAd RX2 "LAvalancheGallery$Fault;" nmF s0 k)) := fun k hk => eAd_ev (E := RX2) (FX_narrow F (by
    rcases (show k = 0 ∨ k = 1 ∨ k = 2 ∨ k = 3 ∨ k = 4 ∨ k = 5 by omega) with rfl | rfl | rfl | rfl | rfl | rfl <;> decide +kernel))
  have key : ∀ i j, i < 6 → j < 6 → ((Cond.not (.eq (.static RX2 (nmF.getD i "") "LAvalancheGallery$Fault;") (.static RX2 (nmF.getD j "") "LAvalancheGallery$Fault;"))) ∈ flatC (Jvm.Cond.and given_1 narrow_1)) → eAd RX2 "LAvalancheGallery$Fault;" nmF s0 i ≠ eAd RX2 "LAvalancheGallery$Fault;" nmF s0 j := fun i j hi hj h => va_neR (FX_narrow F h) (ev i hi) (ev j hj)
  have tab : ∀ i, i < 6 → ∀ j, j < 6 → i ≠ j → ((Cond.not (.eq (.static RX2 (nmF.getD i "") "LAvalancheGallery$Fault;") (.static RX2 (nmF.getD j "") "LAvalancheGallery$Fault;"))) ∈ flatC (Jvm.Cond.and given_1 narrow_1)) ∨ ((Cond.not (.eq (.static RX2 (nmF.getD j "") "LAvalancheGallery$Fault;") (.static RX2 (nmF.getD i "") "LAvalancheGallery$Fault;"))) ∈ flatC (Jvm.Cond.and given_1 narrow_1)) := by decide +kernel
  intro i j hi hj hn
  rcases tab i hi j hj hn with h | h
  · exact key i j hi hj h
  · exact fun e => key j i hj hi h e.symm
theorem gfa_big (s0 : State) (k : Nat) (hk : 6 ≤ k) : ∀ j, j < 6 → gfa s0 j < gfa s0 k := by
  intro j hj
  unfold gfa
  rw [if_pos hj, if_neg (by omega)]
  simp only [List.range, List.range.loop, List.foldl]
  rcases (show j = 0 ∨ j = 1 ∨ j = 2 ∨ j = 3 ∨ j = 4 ∨ j = 5 by omega) with rfl | rfl | rfl | rfl | rfl | rfl <;> omega
theorem gfa_inj {l : Launch} {s0 : State} {b B : Nat} {D : va_G} {T : Nat → ClassId} (F : FX l s0 b D T B) {i j : Nat} (h : gfa s0 i = gfa s0 j) : i = j := by
  by_cases hi : i < 6 <;> by_cases hj : j < 6
  · by_cases hn : i = j
    · exact hn
    · refine absurd ?_ (gfa_ne F i j hi hj hn)
      unfold gfa at h
      rwa [if_pos hi, if_pos hj] at h
  · have := gfa_big s0 j (by omega) i hi; omega
  · have := gfa_big s0 i (by omega) j hj; omega
  · unfold gfa at h
    rw [if_neg hi, if_neg hj] at h
    simp only [List.range, List.range.loop, List.foldl] at h
    omega
section GY
variable {p : Program} {l : Launch} {e : Env} {R : Room} {s s0 : State} {m : MethodId} {args : Array Value} {below : List Frame} {meth : Method} {c : Code} {H : Heap} {locs : List Loc} {cells slots : Nat} {Q : State → Prop} {cc : ByteArray} {pc : Nat} {ls : Array Slot} {rest : List Value} {b B : Nat} {D : va_G} {T : Nat → ClassId}
theorem gw_aeF {i j : Nat} {off : Int} {tgt : Nat} (F : FX l s0 b D T B) (hx : p.tables.exec = Jvm.exec) (hb : c.code = cc) (hdg : decode cc pc = .ok (.if_acmp .eq off, 3)) (ht : (pc : Int) + off = (tgt : Int)) (kt : i = j → W p l e R s m args below meth c H locs cells slots Q (F0 m tgt ls rest)) (kf : ¬ i = j → W p l e R s m args below meth c H locs cells slots Q (F0 m (pc + 3) ls rest)) : W p l e R s m args below meth c H locs cells slots Q (F0 m pc ls (.ref (gfa s0 j) :: .ref (gfa s0 i) :: rest)) :=
  lv_acmp_eq (rx := some (gfa s0 i)) (ry := some (gfa s0 j)) hx hb hdg ht (fun h => kt (gfa_inj F (Option.some.inj h))) (fun h => kf (fun e => h (by rw [e])))
theorem gw_anF {i j : Nat} {off : Int} {tgt : Nat} (F : FX l s0 b D T B) (hx : p.tables.exec = Jvm.exec) (hb : c.code = cc) (hdg : decode cc pc = .ok (.if_acmp .ne off, 3)) (ht : (pc : Int) + off = (tgt : Int)) (kt : ¬ i = j → W p l e R s m args below meth c H locs cells slots Q (F0 m tgt ls rest)) (kf : i = j → W p l e R s m args below meth c H locs cells slots Q (F0 m (pc + 3) ls rest)) : W p l e R s m args below meth c H locs cells slots Q (F0 m pc ls (.ref (gfa s0 j) :: .ref (gfa s0 i) :: rest)) :=
  lv_acmp_ne (rx := some (gfa s0 i)) (ry := some (gfa s0 j)) hx hb hdg ht (fun h => kt (fun e => h (by rw [e]))) (fun h => kf (gfa_inj F (Option.some.inj h)))
end GY
