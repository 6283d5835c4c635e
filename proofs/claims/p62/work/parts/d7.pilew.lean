/-! The law's piles in the heap: a gallery, and the piles that the law holds beside it. -/
theorem cl_L_286 : Cond.classLink RL 286 "[[I" ∈ WG := wg_t 938 (by decide +kernel) (by decide +kernel)
section EW
variable {p : Program} {l : Launch} {e : Env} {R : Room} {s : State} {m : MethodId} {args : Array Value} {below : List Frame} {meth : Method} {c : Code} {H : Heap} {locs : List Loc} {cells slots : Nat} {Q : State → Prop}
variable {cc : ByteArray} {pc : Nat} {ls : Array Slot} {st rest As : List Value} {D : va_G} {A A1 : Nat → Prop} {tys : List (ClassId × FieldType)} {H0 : Heap} {own : String} {B n : Nat} {E : Nat → va_E}
theorem gq_mna {index t0 t3 n0 n1 : Nat} {cI cA : ClassId} {x y : Int32} (hC : gC p c cc s m args own D vwCl tys) (hcl : Cond.classLink own index "[[I" ∈ WG) (hAO : va_AOA .int s) (harr : Cond.arrayClass .int ∈ WG) (ht0 : tys[t0]? = some (cI, .int)) (ht3 : tys[t3]? = some (cA, .array .int)) (hE : gE D B n E H) (hS : va_S A H0 H locs) (hn : ¬ x < 0) (hk : ¬ y < 0) (hN : x.toNatClampNeg = n0) (hM : y.toNatClampNeg = n1) (hb1 : n0 * 4 ≤ 536870912) (hb2 : n1 * 4 ≤ 536870912) (hcells : cells + (1 + n0) ≤ R.cells) (hslots : slots + (n0 + n0 * n1) ≤ R.slots) (hdg : decode cc pc = .ok (.multianewarray index 2, 4))
    (kk : ∀ (H1 : Heap), (∀ q : Nat, q < H.size → H1[q]? = H[q]?) → gE D B (n + 1 + n0) (eCat E n (fun j => if j = 0 then .inl (cA, n0, rws (fun j => some (B + (n + 1 + 1 * j)))) else .inl (cI, n1, .inl (fun _ => 0)))) H1 → va_S A H0 H1 locs → W p l e R s m args below meth c H1 locs (cells + 1 + n0) (slots + n0 + n0 * n1) Q (F0 m (pc + 4) ls (.ref (B + n) :: rest))) : W p l e R s m args below meth c H locs cells slots Q (F0 m pc ls (.int y :: .int x :: rest)) := by
  subst hN
  subst hM
  obtain ⟨hx, hb, hown, hts, hK⟩ := hC
  intro T hT Xs
  obtain ⟨vm₁, cA', comp, -, fA, fC, hO, -, X', step⟩ := Xs.multianewarray2F hx hown (hts _ hcl) (va_AOA.use hAO) (hts _ harr) (g := F0 m pc ls (.int y :: .int x :: rest)) rfl (by rw [hb]; exact hdg) rfl hn hk hb1 (show y.toNatClampNeg * componentBytes .int ≤ 536870912 from hb2) (by omega) rfl rfl hcells hslots
  have e3 : cA' = cA := Option.some.inj (fA.symm.trans (hK.2 t3 _ ht3).2)
  have e0 : comp = cI := Option.some.inj (fC.symm.trans (hK.2 t0 _ ht0).2)
  subst e3
  subst e0
  generalize hF : Jvm.Free.Multi.fill (T.setVm vm₁) cA' comp x.toNatClampNeg y.toNatClampNeg (defaultValue .int) x.toNatClampNeg = F at X' step
  have hTh : (T.setVm vm₁).heap = H := hT
  obtain ⟨f1, f2, -, -⟩ := Jvm.Free.Multi.fill_facts (T.setVm vm₁) cA' comp x.toNatClampNeg y.toNatClampNeg (defaultValue .int) x.toNatClampNeg
  rw [hF, hTh] at f1 f2
  have hold : ∀ q : Nat, q < H.size → F.heap[q]? = H[q]? := fun q hq => by
    have := Jvm.Free.Multi.fill_old (T.setVm vm₁) cA' comp x.toNatClampNeg y.toNatClampNeg (defaultValue .int) (a := q) (by rw [hTh]; exact hq) x.toNatClampNeg
    rw [hF, hTh] at this
    exact this
  have hrow : ∀ j : Nat, j < x.toNatClampNeg → F.heap[H.size + 1 + j]? = some (Jvm.Free.Multi.innerC comp y.toNatClampNeg (defaultValue .int)) := fun j hj => by
    have := Jvm.Free.Multi.fill_inner (T.setVm vm₁) cA' comp x.toNatClampNeg y.toNatClampNeg (defaultValue .int) x.toNatClampNeg j hj
    rw [hF, hTh] at this
    exact this
  have hout : ∀ i : Nat, Jvm.Free.Multi.outerC cA' x.toNatClampNeg H.size i = arrV cA' x.toNatClampNeg (fun j => va_rf (if j < i then some (H.size + 1 + j) else none)) := fun i => by
    induction i with
    | zero =>
      show ({ cls := cA', slots := Array.replicate x.toNatClampNeg .null, vm := .none } : Cell) = _
      rw [arrV_new]
      refine congrArg (arrV cA' x.toNatClampNeg) (funext fun j => ?_)
      simp [va_rf]
    | succ i ih =>
      show (Jvm.Free.Multi.outerC cA' x.toNatClampNeg H.size i).setSlot i (.ref (H.size + 1 + i)) = _
      rw [ih, arrV_store]
      refine congrArg (arrV cA' x.toNatClampNeg) (funext fun j => ?_)
      by_cases e : j = i
      · subst e
        simp [updV, va_rf]
      · by_cases h : j < i
        · simp [updV, e, h, Nat.lt_succ_of_lt h]
        · simp [updV, e, h, show ¬ j < i + 1 by omega]
  rw [hout] at f2
  have hsz := hE.1
  have hG : gE D B (n + 1 + x.toNatClampNeg) (eCat E n (fun j => if j = 0 then .inl (cA', x.toNatClampNeg, rws (fun j => some (B + (n + 1 + 1 * j)))) else .inl (comp, y.toNatClampNeg, .inl (fun _ => 0)))) F.heap := by
    refine ⟨by rw [f1, hsz]; omega, fun o ho => ?_⟩
    unfold eCat
    by_cases c1 : o < n
    · rw [if_pos c1]
      exact (hE.2 o c1).kept (hold _ (by rw [hsz]; show B + o < B + n; omega))
    · rw [if_neg c1]
      dsimp only
      by_cases c2 : o - n = 0
      · rw [if_pos c2]
        have eo : o = n := by omega
        subst eo
        show F.heap[B + o]? = some (vp_cell _ _)
        rw [hsz] at f2
        rw [vp_cell_q, f2]
        refine congrArg some (arrV_cg (fun j hj => ?_))
        rw [if_pos hj, show B + o + 1 + j = B + (o + 1 + 1 * j) by omega]
      · rw [if_neg c2]
        show F.heap[B + o]? = some (vp_cell _ _)
        have hr := hrow (o - n - 1) (by omega)
        rw [hsz, show B + n + 1 + (o - n - 1) = B + o by omega] at hr
        rw [hr, vp_cell_i]
        unfold Jvm.Free.Multi.innerC
        rw [arrV_new]; rfl
  obtain ⟨t, a1, b1⟩ := kk F.heap hold hG ⟨by rw [f1]; have := hS.1; omega, fun q h1 h2 => (hold q (Nat.lt_of_lt_of_le h1 hS.1)).trans (hS.2.1 q h1 h2), hS.2.2⟩ F rfl X'
  refine ⟨t, step t ?_, b1⟩
  have e : T.heap.size = B + n := by rw [hT]; exact hsz
  rw [e]
  exact a1
end EW
def m0L : Mem := fun _ _ => 0
def XL (X : Nat → Prop) (qs : List Nat) : Nat → Prop := fun z => X z ∨ ∃ q ∈ qs, q ≤ z ∧ z < q + 5
def PSok (X : Nat → Prop) (B : Nat) (qs : List Nat) : Prop := (∀ q ∈ qs, B + 561 ≤ q ∧ ∀ o, o < 5 → ¬ X (q + o)) ∧ ∀ (i j p q : Nat), i < j → qs[i]? = some p → qs[j]? = some q → p + 5 ≤ q
def gZL (s0 : State) (D : va_G) (T : Nat → ClassId) (B : Nat) (X : Nat → Prop) (Z : Nat → Int32) (hs : List (Nat → Int32)) (t : List Nat) (qs : List Nat) (mm : List Mem) : Heap → Prop := fun H => gZ s0 D T B (XL X qs) Z hs t H ∧ PSok X B qs ∧ mm.length = qs.length ∧ ∀ (i q : Nat), qs[i]? = some q → gWP D T q (mm.getD i m0L) H
def gQP (s0 : State) (D : va_G) (T : Nat → ClassId) (B : Nat) (X : Nat → Prop) (Z : Nat → Int32) (hs : List (Nat → Int32)) (t : List Nat) (h0 : Nat) (r : Mem) : Value → Heap → Prop := fun v H => ∃ q : Nat, v = .ref (q + 0) ∧ h0 ≤ q ∧ gZL s0 D T B X Z hs t [q] [r] H
theorem getD_set_self {mm : List Mem} {i : Nat} {m d : Mem} (h : i < mm.length) : (mm.set i m).getD i d = m := by
  show ((mm.set i m)[i]?).getD d = m
  rw [List.getElem?_set_self h]; rfl
theorem getD_set_ne {mm : List Mem} {i j : Nat} {m d : Mem} (h : i ≠ j) : (mm.set i m).getD j d = mm.getD j d := by
  show ((mm.set i m)[j]?).getD d = (mm[j]?).getD d
  rw [List.getElem?_set_ne h]
section PW
variable {p : Program} {l : Launch} {e : Env} {R : Room} {s : State} {m : MethodId} {args : Array Value} {below : List Frame} {meth : Method} {c : Code} {H H1 : Heap} {locs : List Loc} {cells slots : Nat} {Q : State → Prop}
variable {cc : ByteArray} {pc : Nat} {ls : Array Slot} {st rest As : List Value} {D : va_G} {own : String} {T : Nat → ClassId} {X : Nat → Prop} {b B : Nat} {s0 : State} {index ml nL n mc ms : Nat} {y : MethodName} {bb : ByteArray} {ret : Option FieldType} {rm : Room} {Z : Nat → Int32} {hs : List (Nat → Int32)} {t : List Nat} {qs : List Nat} {mm : List Mem} {vals : List Value} {Wp : Heap → Prop} {Ks : State → Prop} {A : Nat → Prop} {H0 : Heap}
theorem gZ_cg {X' : Nat → Prop} (h : gZ s0 D T B X Z hs t H) (e : ∀ z, X' z → X z) : gZ s0 D T B X' Z hs t H := by
  obtain ⟨μ, cap, ⟨h1, v, row, mb, g1, g2, g3⟩, hc, hP⟩ := h
  exact ⟨μ, cap, ⟨h1, v, row, mb, g1, fun z => g2 (e _ z), g3⟩, hc, hP⟩
theorem gZ_kept {Y : Nat → Prop} (h : gZ s0 D T B X Z hs t H) (hk : ∀ z, z < H.size → ¬ Y z → H1[z]? = H[z]?) (h1 : ∀ z, Y z → X z) (h2 : ∀ z, Y z → B + 561 ≤ z) : gZ s0 D T B X Z hs t H1 := by
  obtain ⟨μ, cap, ⟨hg, v, row, mb, g1, g2, g3, g4, g5, g6, hP⟩, hc, hz⟩ := h
  refine ⟨μ, cap, ⟨hg.kept fun k x hx => ?_, v, row, mb, g1, g2, g3, g4, g5, g6, hP.kept fun k x hx => ?_⟩, hc, hz⟩
  · have hlt := (hg k x hx).lt
    obtain ⟨ho, rfl⟩ := gL_some hx
    refine hk _ hlt (fun z => ?_)
    have h3 : B + 561 ≤ B + k := h2 _ z
    omega
  · have hlt := (hP k x hx).lt
    have h9 := (List.getElem?_eq_some_iff.mp hx).1
    have h9 : k < 2 := h9
    rcases (show k = 0 ∨ k = 1 by omega) with rfl | rfl
    · cases hx
      refine hk _ hlt (fun z => ?_)
      have h3 : B + 561 ≤ B + 560 := h2 _ z
      omega
    · cases hx
      exact hk _ hlt (fun z => g2 (h1 _ z))
/-- objects are pushed behind: the new ones are nobody's -/
theorem gZ_grow {X' : Nat → Prop} (h : gZ s0 D T B X Z hs t H) (hk : ∀ z, z < H.size → H1[z]? = H[z]?) (h1 : ∀ z, z < H.size → X' z → X z) : gZ s0 D T B X' Z hs t H1 ∧ B + 561 < H.size := by
  have h9 := gZ_kept (H1 := H1) (Y := fun _ => False) h (fun z hz _ => hk z hz) (fun z hz => hz.elim) (fun z hz => hz.elim)
  obtain ⟨μ, cap, ⟨hg, v, row, mb, g1, g2, g3, g4, g5, g6, hP⟩, hc, hz⟩ := h
  have hv : v < H.size := (hP 1 _ rfl).lt
  refine ⟨⟨μ, cap, ⟨hg.kept fun k x hx => hk _ (hg k x hx).lt, v, row, mb, g1, fun z => g2 (h1 _ hv z), g3, g4, g5, g6, hP.kept fun k x hx => hk _ (hP k x hx).lt⟩, hc, hz⟩, by omega⟩
theorem gWP_lt {q o : Nat} {μ : Mem} (h : gWP D T q μ H) (ho : o < 5) : q + o < H.size := (h o _ (gL_get ho)).lt
theorem gWP_kept {q : Nat} {μ : Mem} (h : gWP D T q μ H) (hk : ∀ o, o < 5 → H1[q + o]? = H[q + o]?) : gWP D T q μ H1 := h.kept fun k x hx => by
  obtain ⟨ho, rfl⟩ := gL_some hx
  exact hk _ ho
theorem XL_nb (hX : ∀ o, o < 561 → ¬ X (B + o)) (hp : PSok X B qs) : ∀ o, o < 561 → ¬ XL X qs (B + o) := fun o ho z => by
  rcases z with z | ⟨q, hq, h1, h2⟩
  · exact hX o ho z
  · have := (hp.1 q hq).1
    omega
theorem XL_lt (h : gZL s0 D T B X Z hs t qs mm H) : ∀ z, XL X qs z → X z ∨ z < H.size := fun z hz => hz.imp id (fun ⟨q, hq, h1, h2⟩ => by
  obtain ⟨i, hi⟩ := List.getElem?_of_mem hq
  have := gWP_lt (h.2.2.2 i q hi) (o := z - q) (by omega)
  omega)
theorem gZL_keep {Z2 : Nat → Int32} {hs2 : List (Nat → Int32)} {t2 : List Nat} (h : gZL s0 D T B X Z hs t qs mm H) (hz : gZ s0 D T B (XL X qs) Z2 hs2 t2 H1) (hk : ∀ z, z < H.size → ¬ gA B (XL X qs) z → H1[z]? = H[z]?) : gZL s0 D T B X Z2 hs2 t2 qs mm H1 :=
  ⟨hz, h.2.1, h.2.2.1, fun i q hi => gWP_kept (h.2.2.2 i q hi) (fun o ho => hk _ (gWP_lt (h.2.2.2 i q hi) ho) (fun z => z.2 (Or.inr ⟨q, List.mem_of_getElem? hi, by omega, by omega⟩)))⟩
theorem gZL_nil (h : gZ s0 D T B X Z hs t H) : gZL s0 D T B X Z hs t [] [] H :=
  ⟨gZ_cg h (fun z hz => hz.elim id (fun ⟨q, hq, _⟩ => absurd hq List.not_mem_nil)), ⟨fun q hq => absurd hq List.not_mem_nil, fun i j p q _ hi => by simp at hi⟩, rfl, fun i q hi => by simp at hi⟩
theorem gZL_out (h : gZL s0 D T B X Z hs t qs mm H) : gZ s0 D T B X Z hs t H := gZ_cg h.1 (fun z hz => Or.inl hz)
theorem gZL_p (i q : Nat) (h : gZL s0 D T B X Z hs t qs mm H) (hi : qs[i]? = some q) : gWP D T q (mm.getD i m0L) H := h.2.2.2 i q hi
theorem FX_q {q : Nat} (F : FX l s0 b D T B) (h : gZL s0 D T B X Z hs t qs mm H) (i : Nat) (hi : qs[i]? = some q) : FX l s0 b D T q := ⟨F.1, F.2.1, F.2.2.1, F.2.2.2.1, by
  have h1 := F.2.2.2.2
  have h2 := (h.2.1.1 q (List.mem_of_getElem? hi)).1
  omega⟩
/-- the law calls a wrapper that only asks, with piles beside it -/
theorem gk_wr {hh : List (Nat × Nat × Nat × Nat)} {A : Nat ⊕ Int32} {L : List (Nat × Int32)} (F : FX l s0 b D T B) (hX : ∀ o, o < 561 → ¬ X (B + o)) (hk : KC s0 X s) (hC : gC p c cc s m args own D vwCl (tysG T)) (hml : c.maxLocals = nL) (hS : va_S (gA B X) s.heap H locs) (hW : gZL s0 D T B X Z hs t qs mm H) (hM : (∀ o, o < 561 → ¬ XL X qs (B + o)) → gMetR l y bb ml hh rm As (gZ s0 D T B (XL X qs) Z hs t) (KC s0 (XL X qs)) (gRS s0 D T B (XL X qs) (SqZ Z hs t A) (wr L)) (gA B (XL X qs)) mc ms) (hw : gML own index y bb ml hh n) (hrm : gRm R rm ml mc ms)
    (hn : As.length = n) (hsz : ls.size = nL) (hst : st = As.reverse ++ rest) (hroom : (rest.map fun v => v.category).sum ≤ 8) (hdg : decode cc pc = .ok (.invokestatic index, 3)) (hf : cells + mc ≤ R.cells ∧ slots + ms ≤ R.slots)
    (kk : ∀ (H1 : Heap) (locs1 : List Loc), gZL s0 D T B X Z hs t qs mm H1 → va_S (gA B X) s.heap H1 locs1 → W p l e R s m args below meth c H1 locs1 (cells + mc) (slots + ms) Q (F0 m (pc + 3) ls (.int (wr L A) :: rest))) : W p l e R s m args below meth c H locs cells slots Q (F0 m pc ls st) :=
  gr_callS hC hml hS hW.1 (KC_frame F hk hS (XL_lt hW)) KC_blind (hM (XL_nb hX hW.2.1)) hw (fun z hz => ⟨hz.1, fun q => hz.2 (Or.inl q)⟩) hrm hn hsz hst hroom hdg hf (fun v H1 locs1 hq hS1 _ hkp => by
    obtain ⟨Z2, hs2, t2, out, hS2, rfl, hZ⟩ := hq
    obtain ⟨rfl, rfl, rfl, rfl⟩ := hS2
    exact kk H1 locs1 (gZL_keep hW hZ hkp) hS1)
/-- the law calls the gallery itself, with piles beside it -/
theorem gk_dx {α : Type} {f : Mem → Option (Mem × (Nat ⊕ α))} {o : Nat ⊕ α → Nat ⊕ Option Value} {A : Nat ⊕ α} {v : α} {w : Value} (F : FX l s0 b D T B) (hX : ∀ o, o < 561 → ¬ X (B + o)) (hk : KC s0 X s) (hC : gC p c cc s m args own D vwCl (tysG T)) (hml : c.maxLocals = nL) (hS : va_S (gA B X) s.heap H locs) (hW : gZL s0 D T B X Z hs t qs mm H) (q : ∀ μ, PZ μ t Z hs → Ok (f μ) (fun r => PZ r.1 t Z hs ∧ r.2 = A)) (hM : ∀ (μ : Mem) (r : Mem × (Nat ⊕ α)), f μ = some r → ∀ X' : Nat → Prop, (∀ o, o < 560 → ¬ X' (B + o)) → gXMet l y bb ml ret rm (.ref (B + 0) :: As) (gWC s0 D T B μ) (KC s0 X') (o r.2) (gWC s0 D T B r.1) (gA B X') mc ms) (hA : A = .inr v) (ho : o (.inr v) = .inr (some w)) (hw : gMV own index y bb ml ret n) (hy : y.cls = RX10) (hrm : gRm R rm ml mc ms)
    (hn : As.length = n) (hsz : ls.size = nL) (hst : st = As.reverse ++ .ref (B + 0) :: rest) (hroom : (rest.map fun v => v.category).sum ≤ 8) (hdg : decode cc pc = .ok (.invokevirtual index, 3)) (hf : cells + mc ≤ R.cells ∧ slots + ms ≤ R.slots)
    (kk : ∀ (H1 : Heap) (locs1 : List Loc), gZL s0 D T B X Z hs t qs mm H1 → va_S (gA B X) s.heap H1 locs1 → W p l e R s m args below meth c H1 locs1 (cells + mc) (slots + ms) Q (F0 m (pc + 3) ls (w :: rest))) : W p l e R s m args below meth c H locs cells slots Q (F0 m pc ls st) := by
  have hW0 := hW
  obtain ⟨⟨μ, cap, hg, hcap, hP⟩, hps, -⟩ := hW
  obtain ⟨r, hf9, hP2, hr⟩ := q μ hP
  have hr2 : o r.2 = .inr (some w) := by rw [hr, hA]; exact ho
  obtain ⟨X', h1, h2, h3, h4⟩ := SBs_frame (XL_nb hX hps) hg.2
  have hrecv : ∃ cell : Cell, H[B + 0]? = some cell ∧ cell.vm.isStatics = false ∧ s.vm.findClass y.cls = some cell.cls := by rw [hy]; exact gw_recv hC hg.1 is_Ga.1 (is_Ga.2.2.1 (gfm s0) T B (μ 0)) rfl
  obtain ⟨hx, hb, hown, hts, -⟩ := hC
  exact gw_xret (xk := 0) (As := .ref (B + 0) :: As) (vx_runV ⟨hx, hb, hml, hown, hts⟩ (hM μ r hf9 X' h1) ⟨gw_cb hts hw.1 hrm, hts _ hw.2.1, hts _ hw.2.2⟩ ⟨gPc_blind KC_blind, hrecv, fun U hU hWm => ⟨rfl, by rw [hU]; exact hg.1, KC_frame F hk hS (fun z hz => (h3 z hz).elim (XL_lt hW0 z) Or.inr) U hU hWm⟩⟩ rfl hn hsz hst (lv_room hroom) hdg hf) hS (fun z hz => ⟨(h2 z hz).1, fun q => (h2 z hz).2 (Or.inl q)⟩) (fun v9 h9 H1 locs1 g1 g2 _ g4 => by
    rw [hr2] at h9
    cases h9
    exact kk H1 locs1 (gZL_keep hW0 ⟨r.1, cap, ⟨g1, h4 H1 g4⟩, hcap, hP2⟩ (fun z hz hn => g4 z hz (fun w => hn (h2 z w)))) g2) (fun k9 h9 => by rw [hr2] at h9; cases h9)
/-- the law calls a method of its own that needs nothing -/
theorem gk_in {v : Option Value} (F : FX l s0 b D T B) (hX : ∀ o, o < 561 → ¬ X (B + o)) (hk : KC s0 X s) (hC : gC p c cc s m args own D vwCl (tysG T)) (hml : c.maxLocals = nL) (hS : va_S (gA B X) s.heap H locs) (hW : gZL s0 D T B X Z hs t qs mm H) (hM : (∀ o, o < 561 → ¬ X (B + o)) → gMet l y bb ml ret rm As (gZL s0 D T B X Z hs t qs mm) (KC s0 X) v (gZL s0 D T B X Z hs t qs mm) (gA B X) mc ms) (hw : gMS own index y bb ml ret n) (hrm : gRm R rm ml mc ms)
    (hn : As.length = n) (hsz : ls.size = nL) (hst : st = As.reverse ++ rest) (hroom : (rest.map fun v => v.category).sum ≤ 8) (hdg : decode cc pc = .ok (.invokestatic index, 3)) (hf : cells + mc ≤ R.cells ∧ slots + ms ≤ R.slots)
    (kk : ∀ (H1 : Heap) (locs1 : List Loc), gZL s0 D T B X Z hs t qs mm H1 → va_S (gA B X) s.heap H1 locs1 → W p l e R s m args below meth c H1 locs1 (cells + mc) (slots + ms) Q (F0 m (pc + 3) ls (v.toList ++ rest))) : W p l e R s m args below meth c H locs cells slots Q (F0 m pc ls st) :=
  gw_callS hC hml hS hW (KC_at hk hS F.2.2.2.2) KC_blind (hM hX) hw (fun _ h => h) hrm hn hsz hst hroom hdg hf (fun H1 locs1 h1 h2 _ _ => kk H1 locs1 h1 h2)
/-- what changes one pile alone -/
theorem gZL_set {i q : Nat} {m1 : Mem} (hW : gZL s0 D T B X Z hs t qs mm H) (hi : qs[i]? = some q) (h1 : gWP D T q m1 H1) (hkp : ∀ z, z < H.size → ¬ (q ≤ z ∧ z < q + 5) → H1[z]? = H[z]?) : gZL s0 D T B X Z hs t qs (mm.set i m1) H1 := by
  have hq := hW.2.1.1 q (List.mem_of_getElem? hi)
  have hil := (List.getElem?_eq_some_iff.mp hi).1
  refine ⟨gZ_kept hW.1 (Y := fun z => q ≤ z ∧ z < q + 5) hkp (fun z hz => Or.inr ⟨q, List.mem_of_getElem? hi, hz⟩) (fun z hz => Nat.le_trans hq.1 hz.1), hW.2.1, by rw [List.length_set]; exact hW.2.2.1, fun j p hj => ?_⟩
  by_cases e : j = i
  · subst e
    have hp : p = q := Option.some.inj (hj.symm.trans hi)
    subst hp
    rw [getD_set_self (by rw [hW.2.2.1]; exact hil)]
    exact h1
  · rw [getD_set_ne (fun z => e z.symm)]
    have hd : p + 5 ≤ q ∨ q + 5 ≤ p := by
      rcases Nat.lt_or_gt_of_ne e with h | h
      · exact Or.inl (hW.2.1.2 j i p q h hj hi)
      · exact Or.inr (hW.2.1.2 i j q p h hi hj)
    exact gWP_kept (hW.2.2.2 j p hj) (fun o ho => hkp _ (gWP_lt (hW.2.2.2 j p hj) ho) (fun w => by omega))
/-- the law calls a method of its own on one of the piles -/
theorem gk_tp {i q : Nat} {m1 : Mem} {v : Option Value} (F : FX l s0 b D T B) (hX : ∀ o, o < 561 → ¬ X (B + o)) (hk : KC s0 X s) (hC : gC p c cc s m args own D vwCl (tysG T)) (hml : c.maxLocals = nL) (hS : va_S (gA B X) s.heap H locs) (hW : gZL s0 D T B X Z hs t qs mm H) (hi : qs[i]? = some q) (hM : ∀ X2 : Nat → Prop, (∀ o, o < 5 → ¬ X2 (q + o)) → gMet l y bb ml ret rm As (gWP D T q (mm.getD i m0L)) (KC s0 X2) v (gWP D T q m1) (gA q X2) 0 0) (hw : gMS own index y bb ml ret n) (hrm : gRm R rm ml 0 0)
    (hn : As.length = n) (hsz : ls.size = nL) (hst : st = As.reverse ++ rest) (hroom : (rest.map fun v => v.category).sum ≤ 8) (hdg : decode cc pc = .ok (.invokestatic index, 3)) (hf : cells ≤ R.cells ∧ slots ≤ R.slots)
    (kk : ∀ (H1 : Heap) (locs1 : List Loc), gZL s0 D T B X Z hs t qs (mm.set i m1) H1 → va_S (gA B X) s.heap H1 locs1 → W p l e R s m args below meth c H1 locs1 cells slots Q (F0 m (pc + 3) ls (v.toList ++ rest))) : W p l e R s m args below meth c H locs cells slots Q (F0 m pc ls st) := by
  have hwp := hW.2.2.2 i q hi
  have hq := hW.2.1.1 q (List.mem_of_getElem? hi)
  refine gw_callS hC hml hS hwp (KC_frame F hk hS (fun z hz => Or.inr hz.1)) KC_blind (hM (fun z => z < H.size ∧ ¬ (q ≤ z ∧ z < q + 5)) (fun o ho z => z.2 ⟨by omega, by omega⟩)) hw ?_ hrm hn hsz hst hroom hdg hf (fun H1 locs1 h1 h2 h3 h4 => kk H1 locs1 (gZL_set hW hi h1 (fun z hz hnz => h4 z hz (fun w => w.2 ⟨hz, hnz⟩))) h2)
  rintro z ⟨z1, z2⟩
  refine ⟨by omega, fun hx => ?_⟩
  by_cases hz : q ≤ z ∧ z < q + 5
  · exact hq.2 (z - q) (by omega) (by rw [show q + (z - q) = z by omega]; exact hx)
  · exact z2 ⟨Nat.lt_of_lt_of_le (hk.2.2.2 z hx) hS.1, hz⟩
/-- a write into one of the piles -/
theorem gk_iast {i q o n0 : Nat} {x ix : Int32} {m1 : Mem} (hi : qs[i]? = some q) (hC : gC p c cc s m args own D vwCl (tysG T)) (hS : va_S (gA B X) s.heap H locs) (hW : gZL s0 D T B X Z hs t qs mm H) (ho : PI n0 o) (hv : m1 = mset (mm.getD i m0L) o ix.toNatClampNeg x) (hin : vp_in ix n0) (hdg : decode cc pc = .ok (.iastore, 1))
    (kk : ∀ (H1 : Heap) (locs1 : List Loc), gZL s0 D T B X Z hs t qs (mm.set i m1) H1 → va_S (gA B X) s.heap H1 locs1 → W p l e R s m args below meth c H1 locs1 cells slots Q (F0 m (pc + 1) ls rest)) : W p l e R s m args below meth c H locs cells slots Q (F0 m pc ls (.int x :: .int ix :: .ref (q + o) :: rest)) := by
  subst hv
  have hwp := hW.2.2.2 i q hi
  have hq := hW.2.1.1 q (List.mem_of_getElem? hi)
  generalize hm9 : mm.getD i m0L = μ at hwp kk
  have he : ∀ r, shP T q r o = .inl (T 0, n0, .inl r) := fun r => ho.2 T q r
  have hc : H[q + o]? = some (vp_cell (T 0) (n0, .inl (μ o))) := by
    have h9 := hwp o _ (gL_get ho.1)
    rw [he] at h9
    exact h9
  refine W.iast hC.1 hC.2.1 hc ((hC.2.2.2.2.2 0 _ rfl).1 n0 (fun j => .int (μ o j))) (fun q => by cases q) (by show ¬ (ix < 0 ∨ (arrV _ _ _).slots.size ≤ _); rw [arrV_size]; exact hin) rfl rfl hdg fun H1 e z oq => ?_
  refine kk H1 _ (gZL_set hW hi ?_ (fun z _ hnz => oq z (fun w => hnz (by have w9 : z = q + o := w; have := ho.1; omega)))) (hS.put z oq ⟨by omega, hq.2 o ho.1⟩)
  have h9 := va_P.set (A := fun _ => True) hwp (gL_D (fun _ _ => True.intro)) (show (gL (shP T q) 5 q μ)[o]? = some (q + o, .inl (T 0, n0, .inl (μ o))) by rw [gL_get ho.1, he]) (e := .inl (T 0, n0, .inl (upd (μ o) ix.toNatClampNeg x))) (by
    show H1[q + o]? = some (vp_cell _ _)
    rw [e]
    rw [vp_cell_i, vp_cell_i, arrV_store]
    congr 2
    funext j
    by_cases hj : j = ix.toNatClampNeg
    · subst hj
      simp [updV, upd]
    · simp [updV, upd, hj]) oq
  rw [gw_aset ho.1 he] at h9
  exact h9
/-- a new pile -/
theorem gk_mna (hk : KC s0 X s) (hC : gC p c cc s m args own D vwCl (tysG T)) (hcl : Cond.classLink own index "[[I" ∈ WG) (hAO : va_AOA .int s) (harr : Cond.arrayClass .int ∈ WG) (hS : va_S (gA B X) s.heap H locs) (hW : gZ s0 D T B X Z hs t H) (hcells : cells + 5 ≤ R.cells) (hslots : slots + 20 ≤ R.slots) (hdg : decode cc pc = .ok (.multianewarray index 2, 4))
    (kk : ∀ (H1 : Heap), H.size ≤ H.size → gZL s0 D T B X Z hs t [H.size] [m0L] H1 → va_S (gA B X) s.heap H1 locs → W p l e R s m args below meth c H1 locs (cells + 5) (slots + 20) Q (F0 m (pc + 4) ls (.ref (H.size + 0) :: rest))) : W p l e R s m args below meth c H locs cells slots Q (F0 m pc ls (.int 4 :: .int 4 :: rest)) := by
  refine gq_mna (B := H.size) (n := 0) (E := fun _ => .inl (0, 0, .inl (fun _ => 0))) (t0 := 0) (t3 := 3) (n0 := 4) (n1 := 4) (cI := T 0) (cA := T 3) hC hcl hAO harr rfl rfl ⟨rfl, fun o ho => absurd ho (Nat.not_lt_zero _)⟩ hS (by decide) (by decide) (by decide) (by decide) (Nat.le_of_ble_eq_true rfl) (Nat.le_of_ble_eq_true rfl) hcells hslots hdg (fun H1 hold hG hS1 => ?_)
  have hg := gZ_grow (H1 := H1) (X' := XL X [H.size]) hW hold (fun z hz hx => hx.elim id (fun ⟨q, hq, h1, h2⟩ => by
    have : q = H.size := List.mem_singleton.mp hq
    omega))
  refine kk H1 (Nat.le_refl _) ⟨hg.1, ⟨fun q hq => ?_, fun i j p q hij hi hj => ?_⟩, rfl, fun i q hi => ?_⟩ hS1
  · have : q = H.size := List.mem_singleton.mp hq
    subst this
    refine ⟨by omega, fun o ho hx => ?_⟩
    have h1 := hk.2.2.2 _ hx
    have h2 := hS.1
    omega
  · have h2 := (List.getElem?_eq_some_iff.mp hj).1
    have h2 : j < 1 := h2
    omega
  · have h2 := (List.getElem?_eq_some_iff.mp hi).1
    have h2 : i < 1 := h2
    have h3 : i = 0 := by omega
    subst h3
    cases hi
    intro k x hx
    obtain ⟨ho, rfl⟩ := gL_some hx
    have h5 := hG.2 k (by omega)
    have e5 : ∀ (g : Nat → va_E), eCat (fun _ => .inl (0, 0, .inl (fun _ => 0))) 0 g k = g k := fun g => by
      unfold eCat
      rw [if_neg (Nat.not_lt_zero k)]; rfl
    rw [e5] at h5
    by_cases ek : k = 0
    · subst ek
      exact h5
    · rw [if_neg ek] at h5
      have e6 : shP T H.size (m0L k) k = .inl (T 0, 4, .inl (fun _ => 0)) := by
        unfold shP
        rw [if_neg ek]; rfl
      show va_at D vwCl (H.size + k, shP T H.size (m0L k) k) H1
      rw [e6]
      exact h5
/-- a method that answers an address -/
theorem gMetQ_of {Qv : Value → Heap → Prop} (own : String) (hy : plainName y.cls = true) (ho : y.cls = own) (hL : (lg_sl vals).length ≤ ml)
    (body : ∀ (p : Program) (e : Env) (s : State) (m : MethodId) (below : List Frame) (meth : Method) (c : Code) (ls : Array Slot), p.tables.exec = Jvm.exec → c.code = bb → meth.sig.returnType = ret → meth.locks = false → c.maxLocals = ml → s.vm.findClass own = some m.cls → (∀ w ∈ WG, w.before vals.toArray s = true) → Wp s.heap → Ks s → lv_has ls ml (lv_args 0 vals) → va_S A s.heap s.heap [] →
      W p l e rm s m vals.toArray below meth c s.heap [] 0 0 (MQ below (gQr Qv A) vals.toArray s mc ms A) (F0 m 0 ls [])) : gMetQ l y bb ml ret rm vals Wp Ks Qv A mc ms := by
  refine Met.ofW (cc := bb) (maxL := ml) (ret := ret) hy rfl ?_
  intro p e s m args below meth c s₁ Bd hml hv
  obtain ⟨rfl, hW, hk⟩ := hv
  have hts0 := atoms_spec (ws := .code y bb ml ret :: WG) Bd.pre
  have hown : s.vm.findClass own = some m.cls := ho ▸ findClass_of_methodNamed Bd.named
  have hl := lv_entry vals (n := ml) hL
  rw [lg_entry_eq]
  generalize (lg_sl vals ++ List.replicate (ml - (lg_sl vals).length) Slot.unset).toArray = ls at hl ⊢
  exact body p e s m below meth c ls Bd.exec Bd.bytes Bd.returns Bd.notSynchronized hml hown (fun w h => hts0 w (List.mem_cons_of_mem _ h)) hW hk hl va_S.rf
theorem gQA_of {Qv : Value → Heap → Prop} {ft : FieldType} (own : String) (hy : plainName y.cls = true) (ho : y.cls = own) (hL : (lg_sl vals).length ≤ ml)
    (body : gBody l bb ml own rm vals Wp Ks A (fun p e s m args below meth c Q => ∀ {H : Heap} {locs : List Loc} {cells slots pc x : Nat} {ls : Array Slot}, decode bb pc = .ok (.areturn, 1) → Qv (.ref x) H → va_S A s.heap H locs → cells ≤ mc → slots ≤ ms → W p l e rm s m args below meth c H locs cells slots Q (F0 m pc ls [.ref x]))) : gMetQ l y bb ml (some (.array ft)) rm vals Wp Ks Qv A mc ms :=
  gMetQ_of own hy ho hL (fun p e s m below meth c ls hx hb hr hlocks hml hown hts hW hk hl hS => body p e s m _ below meth c ls _ hx hb hlocks hml hown hts hW hk hl hS (fun {_ _ _ _ _ x _} hd hW hS hc hs => W.widen hc hs (W.aret hx hb hr (Or.inr ⟨ft, rfl⟩) (Or.inr ⟨x, rfl⟩) (fun t ht _ => ⟨_, rfl, by rw [ht]; exact hW, hS.F ht⟩) hS.2.2 hd hlocks)))
/-- the law makes one more pile -/
theorem gk_pile {r : Mem} (F : FX l s0 b D T B) (hX : ∀ o, o < 561 → ¬ X (B + o)) (hk : KC s0 X s) (hC : gC p c cc s m args own D vwCl (tysG T)) (hml : c.maxLocals = nL) (hS : va_S (gA B X) s.heap H locs) (hW : gZL s0 D T B X Z hs t qs mm H) (hM : ∀ h0 : Nat, (∀ o, o < 561 → ¬ XL X qs (B + o)) → gMetQ l y bb ml ret rm As (fun H' => gZ s0 D T B (XL X qs) Z hs t H' ∧ H'.size = h0) (KC s0 (XL X qs)) (gQP s0 D T B (XL X qs) Z hs t h0 r) (gA B (XL X qs)) mc ms) (hw : gMS own index y bb ml ret n) (hrm : gRm R rm ml mc ms)
    (hn : As.length = n) (hsz : ls.size = nL) (hst : st = As.reverse ++ rest) (hroom : (rest.map fun v => v.category).sum ≤ 8) (hdg : decode cc pc = .ok (.invokestatic index, 3)) (hf : cells + mc ≤ R.cells ∧ slots + ms ≤ R.slots)
    (kk : ∀ (q : Nat) (H1 : Heap) (locs1 : List Loc), gZL s0 D T B X Z hs t (qs ++ [q]) (mm ++ [r]) H1 → va_S (gA B X) s.heap H1 locs1 → W p l e R s m args below meth c H1 locs1 (cells + mc) (slots + ms) Q (F0 m (pc + 3) ls (.ref (q + 0) :: rest))) : W p l e R s m args below meth c H locs cells slots Q (F0 m pc ls st) := by
  have hC0 := hC
  obtain ⟨hx, hb, hown, hts, -⟩ := hC
  refine gr_ret (As := As) (va_runS ⟨hx, hb, hml, hown, hts⟩ (hM H.size (XL_nb hX hW.2.1)) ⟨gw_cb hts hw.1 hrm, hts _ hw.2⟩ ⟨gPc_blind KC_blind, fun U hU hWm => ⟨rfl, by rw [hU]; exact ⟨hW.1, rfl⟩, KC_frame F hk hS (XL_lt hW) U hU hWm⟩⟩ rfl hn hsz hst (lv_room hroom) hdg hf) hS (fun z hz => ⟨hz.1, fun q => hz.2 (Or.inl q)⟩) (fun v H1 locs1 hq hS1 hle hkp => ?_)
  obtain ⟨q, rfl, hq0, hz⟩ := hq
  have hq1 := hz.2.1.1 q List.mem_cons_self
  refine kk q H1 locs1 ⟨gZ_cg hz.1 (fun z hx => ?_), ⟨fun q2 hq2 => ?_, fun i j p2 q2 hij hi hj => ?_⟩, by rw [List.length_append, List.length_append, hW.2.2.1]; rfl, fun i q2 hi => ?_⟩ hS1
  · rcases hx with hx | ⟨q2, h2, h3⟩
    · exact Or.inl (Or.inl hx)
    · rcases List.mem_append.mp h2 with h2 | h2
      · exact Or.inl (Or.inr ⟨q2, h2, h3⟩)
      · exact Or.inr ⟨q2, h2, h3⟩
  · rcases List.mem_append.mp hq2 with h2 | h2
    · exact hW.2.1.1 q2 h2
    · have : q2 = q := List.mem_singleton.mp h2
      subst this
      exact ⟨hq1.1, fun o ho hx => hq1.2 o ho (Or.inl hx)⟩
  · have hjl := (List.getElem?_eq_some_iff.mp hj).1
    rw [List.length_append] at hjl
    have hjl : j < qs.length + 1 := hjl
    rw [List.getElem?_append_left (by omega)] at hi
    by_cases hj2 : j < qs.length
    · rw [List.getElem?_append_left hj2] at hj
      exact hW.2.1.2 i j p2 q2 hij hi hj
    · rw [List.getElem?_append_right (by omega), show j - qs.length = 0 by omega] at hj
      cases hj
      have h9 := gWP_lt (hW.2.2.2 i p2 hi) (o := 4) (by omega)
      omega
  · by_cases hj2 : i < qs.length
    · rw [List.getElem?_append_left hj2] at hi
      show gWP D T q2 (((mm ++ [r])[i]?).getD m0L) H1
      rw [List.getElem?_append_left (by rw [hW.2.2.1]; exact hj2)]
      exact gWP_kept (hW.2.2.2 i q2 hi) (fun o ho => hkp _ (gWP_lt (hW.2.2.2 i q2 hi) ho) (fun z => z.2 (Or.inr ⟨q2, List.mem_of_getElem? hi, by omega, by omega⟩)))
    · rw [List.getElem?_append_right (by omega)] at hi
      have h8 := (List.getElem?_eq_some_iff.mp hi).1
      have h8 : i - qs.length < 1 := h8
      have h7 : i - qs.length = 0 := by omega
      rw [h7] at hi
      cases hi
      show gWP D T q (((mm ++ [r])[i]?).getD m0L) H1
      rw [List.getElem?_append_right (by rw [hW.2.2.1]; omega), hW.2.2.1, h7]
      exact hz.2.2.2 0 q rfl
end PW
