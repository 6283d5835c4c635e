/-! Strings, Forms and the switch table in a walk. -/
theorem dJx29ce0_ordinal_8abf5_0 : decode cJx29ce0_ordinal_8abf5 0 = .ok (.aload_n 0, 1) := by decide +kernel
theorem dJx29ce0_ordinal_8abf5_1 : decode cJx29ce0_ordinal_8abf5 1 = .ok (.getfield 7, 3) := by decide +kernel
theorem dJx29ce0_ordinal_8abf5_4 : decode cJx29ce0_ordinal_8abf5 4 = .ok (.ireturn, 1) := by decide +kernel
theorem fj_X7_43 : Cond.fieldLink RX7 43 RX3 "shape" "Ljava/lang/String;" ∈ WG := wg_t 1733 (by decide +kernel) (by decide +kernel)
theorem fj_X10_486 : Cond.fieldLink RX10 486 RX0 "$SwitchMap$AvalancheGallery$Form" "[I" ∈ WG := wg_t 1666 (by decide +kernel) (by decide +kernel)
theorem fj_E_7 : Cond.fieldLink RJx29ce0 7 "java/lang/Enum" "ordinal" "I" ∈ WG := wg_t 1734 (by decide +kernel) (by decide +kernel)
theorem cw_ord : (∀ w ∈ ([.methodLink RX10 491 ⟨RX3, "ordinal", "()I"⟩, .sameMethod RX3 "java/lang/Enum" "ordinal" "()I", .selects RX3 ⟨RX3, "ordinal", "()I"⟩ yJx29ce0_ordinal_8abf5, .instanceMethod yJx29ce0_ordinal_8abf5, .initialized "java/lang/Enum"] : List Cond), w ∈ WG) ∧ Cond.code yJx29ce0_ordinal_8abf5 cJx29ce0_ordinal_8abf5 1 (some .int) ∈ WG := by
  refine ⟨fun w hw => ?_, wg_t 1673 (by decide +kernel) (by decide +kernel)⟩
  simp only [List.mem_cons, List.mem_nil_iff, or_false] at hw
  rcases hw with rfl | rfl | rfl | rfl | rfl
  · exact wg_t 1668 (by decide +kernel) (by decide +kernel)
  · exact wg_t 1669 (by decide +kernel) (by decide +kernel)
  · exact wg_t 1671 (by decide +kernel) (by decide +kernel)
  · exact wg_t 1672 (by decide +kernel) (by decide +kernel)
  · exact wg_t 13 (by decide +kernel) (by decide +kernel)
theorem nI_tn {i : Int32} (h : ¬ i < 0) : nI i.toNatClampNeg = i := by
  have h0 : 0 ≤ i.toInt := by
    have h2 : ¬ i.toInt < (0 : Int32).toInt := fun q => h (Int32.lt_iff_toInt_lt.mpr q)
    have h3 : (0 : Int32).toInt = 0 := rfl
    omega
  have e : ((i.toNatClampNeg : Nat) : Int) = i.toInt := Int.toNat_of_nonneg h0
  have e2 : nI i.toNatClampNeg = Int32.ofInt ((i.toNatClampNeg : Nat) : Int) := rfl
  rw [e2, e, Int32.ofInt_toInt]
theorem nI_ne {k : Nat} (h : 1 ≤ k) (h2 : k < 2 ^ 31) : nI k ≠ 0 := fun e => by
  have e1 := congrArg Int32.toNatClampNeg e
  rw [nI_clamp h2] at e1
  have : (0 : Int32).toNatClampNeg = 0 := rfl
  omega
theorem fo_o {O : Type} {i : Int32} {k : Nat → Option O} {z : O} (h : fo i k = some z) : ∃ c, c = i.toNatClampNeg + 1 ∧ vp_in i 8 ∧ fOK c ∧ k c = some z := by
  unfold fo at h
  by_cases hc : i < 0 ∨ 8 ≤ i.toNatClampNeg
  · rw [if_pos hc] at h; cases h
  · rw [if_neg hc] at h
    have h2 := vp_in_lt (n := 8) hc
    exact ⟨_, rfl, hc, ⟨by omega, by omega⟩, h⟩
theorem swm_o {O : Type} {i : Int32} {k : Int32 → Option O} {z : O} (h : swm i k = some z) : ∃ v, v = (if i.toNatClampNeg = 7 then 0 else nI (i.toNatClampNeg + 1)) ∧ vp_in i 8 ∧ k v = some z := by
  unfold swm at h
  by_cases hc : i < 0 ∨ 8 ≤ i.toNatClampNeg
  · rw [if_pos hc] at h; cases h
  · rw [if_neg hc] at h; exact ⟨_, rfl, hc, h⟩
theorem agf_o {O : Type} {row : Nat → Int32} {n : Nat} {i : Int32} {k : Nat → Option O} {z : O} (h : agf row n i k = some z) : ∃ c, c = (row i.toNatClampNeg).toNatClampNeg ∧ vp_in i n ∧ fOK c ∧ k c = some z := by
  unfold agf at h
  by_cases hc : (i < 0 ∨ n ≤ i.toNatClampNeg) ∨ ¬ (1 ≤ (row i.toNatClampNeg).toNatClampNeg ∧ (row i.toNatClampNeg).toNatClampNeg ≤ 8)
  · rw [if_pos hc] at h; cases h
  · rw [if_neg hc] at h
    exact ⟨_, rfl, fun q => hc (Or.inl q), (Decidable.byContradiction fun q => hc (Or.inr q) : 1 ≤ (row i.toNatClampNeg).toNatClampNeg ∧ (row i.toNatClampNeg).toNatClampNeg ≤ 8), h⟩
section FR
variable {p : Program} {l : Launch} {e : Env} {R : Room} {s : State} {m : MethodId} {args : Array Value} {below : List Frame} {meth : Method} {c : Code} {H : Heap} {locs : List Loc} {cells slots : Nat} {Q : State → Prop}
variable {cc : ByteArray} {pc : Nat} {ls : Array Slot} {rest : List Value} {D : va_G} {cl : List vw_C} {A : Nat → Prop} {tys : List (ClassId × FieldType)} {H0 : Heap} {sh : (Nat → Int32) → Nat → va_E} {K B : Nat} {μ μ1 : Mem} {own : String} {s0 : State} {b : Nat} {T : Nat → ClassId} {X : Nat → Prop}
theorem gw_tobj {E : String} {t N : Nat} {f : Nat → Value} {i : Int32} {v : Value} (hexec : p.tables.exec = Jvm.exec) (hb : c.code = cc) (hT : va_T (.object E) t N f A s s.heap) (hS : va_S A s.heap H locs) (hin : vp_in i N) (hv : v = f i.toNatClampNeg) (hdg : decode cc pc = .ok (.aaload, 1))
    (kk : W p l e R s m args below meth c H locs cells slots Q (F0 m (pc + 1) ls (v :: rest))) : W p l e R s m args below meth c H locs cells slots Q (F0 m pc ls (.int i :: .ref t :: rest)) := by
  obtain ⟨cell, h1, h2, h3, h4, h5, h6, h7⟩ := hT
  have hlt : i.toNatClampNeg < N := vp_in_lt hin
  have hin' : ¬ (i < 0 ∨ cell.slots.size ≤ i.toNatClampNeg) := fun q => q.elim (fun q => hin (Or.inl q)) (fun q => by omega)
  exact W.aald (v := v) (ty := .object E) hexec hb (by rw [hS.2.1 t (Array.getElem?_eq_some_iff.mp h1).1 h7]; exact h1) h2 rfl h3 hin' (by rw [h6 _ hlt, hv]) rfl rfl hdg kk
theorem gw_fald {o t0 n x : Nat} {cA : ClassId} {E : String} {fm : Nat → Nat} {i : Int32} (hC : gC p c cc s m args own D cl tys) (hW : gW D cl sh K B μ H) (ho : o < K) (he : sh (μ o) o = .inl (cA, n, rws (fun j => if μ o j = 0 then none else some (fm (μ o j).toNatClampNeg)))) (ht : tys[t0]? = some (cA, .object E)) (hv : x = (μ o i.toNatClampNeg).toNatClampNeg) (hx1 : 1 ≤ x) (hin : vp_in i n) (hdg : decode cc pc = .ok (.aaload, 1))
    (kk : W p l e R s m args below meth c H locs cells slots Q (F0 m (pc + 1) ls (.ref (fm x) :: rest))) : W p l e R s m args below meth c H locs cells slots Q (F0 m pc ls (.int i :: .ref (B + o) :: rest)) := by
  subst hv
  have hz : μ o i.toNatClampNeg ≠ 0 := fun q => by
    rw [q] at hx1
    exact absurd hx1 (by decide)
  exact gw_aald hC hW ho he ht rfl hin (by show va_rf (if μ o i.toNatClampNeg = 0 then none else some (fm (μ o i.toNatClampNeg).toNatClampNeg)) = _; rw [if_neg hz]; rfl) hdg kk
theorem gw_fast {o t0 n k v : Nat} {cA : ClassId} {E : String} {fm : Nat → Nat} {i : Int32} (hC : gC p c cc s m args own D cl tys) (hS : va_S A H0 H locs) (hW : gW D cl sh K B μ H) (hA : ∀ o, o < K → A (B + o)) (ho : o < K) (he : ∀ r, sh r o = .inl (cA, n, rws (fun j => if r j = 0 then none else some (fm (r j).toNatClampNeg)))) (ht : tys[t0]? = some (cA, .object E)) (hr : va_Any E s H v) (hk : fOK k) (hvv : v = fm k) (hv : μ1 = mset μ o i.toNatClampNeg (nI k)) (hin : vp_in i n) (hdg : decode cc pc = .ok (.aastore, 1))
    (kk : ∀ (H1 : Heap) (locs1 : List Loc), gW D cl sh K B μ1 H1 → va_S A H0 H1 locs1 → W p l e R s m args below meth c H1 locs1 cells slots Q (F0 m (pc + 1) ls rest)) : W p l e R s m args below meth c H locs cells slots Q (F0 m pc ls (.ref v :: .int i :: .ref (B + o) :: rest)) := by
  subst hv
  have h31 : k < 2 ^ 31 := Nat.lt_of_le_of_lt hk.2 (by decide)
  have ef : (fun j => if upd (μ o) i.toNatClampNeg (nI k) j = 0 then none else some (fm (upd (μ o) i.toNatClampNeg (nI k) j).toNatClampNeg)) = va_up (fun j => if μ o j = 0 then none else some (fm (μ o j).toNatClampNeg)) i.toNatClampNeg (some v) := by
    funext j
    unfold upd va_up
    by_cases hj : j = i.toNatClampNeg
    · rw [if_pos hj, if_pos hj, if_neg (nI_ne hk.1 h31), nI_clamp h31, hvv]
    · rw [if_neg hj, if_neg hj]
  refine va_astqM hC.1 hC.2.1 hC.2.2.2.2 hW (gL_D hA) hS o t0 (by rw [gL_get ho, he]) ht hr hin hdg (fun H1 locs1 h1 _ h3 => kk H1 locs1 ?_ h3)
  rw [gL_set (μ' := mset μ o i.toNatClampNeg (nI k)) ho (by rw [mset_same, he, ef]) (fun q hq => mset_ne μ o _ _ hq)] at h1
  exact h1
theorem kAny (F : FX l s0 b D T B) (hk : KC s0 X s) (hS : va_S (gA B X) s.heap H locs) {k : Nat} (hc : fOK k) : va_Any RX3 s H (gfm s0 k) := by
  obtain ⟨cell, h1, h2, h3, -⟩ := ((kM (X := X) F hk hc).1).kept hS.2.1
  obtain ⟨k9, h4, -⟩ := Vm.findClass_spec h3
  exact ⟨cell, h1, h2, ⟨k9, h4⟩, fun comp hcomp => by
    obtain rfl : comp = cell.cls := Option.some.inj (hcomp.symm.trans h3)
    exact va_asg _ _⟩
theorem zNF (F : FX l s0 b D T B) (hk : KC s0 X s) : (Cond.fieldLinkNest RX7 40 RX10 "FORMS" "[LAvalancheGallery$Form;" RX10).before args s = true :=
  va_Nw.use rfl (va_Nw.warmF hk.1 (va_Nw.of rfl (F.2.1 _ (List.mem_append_right _ (List.mem_of_getElem? (i := 1643) (by decide +kernel))))))
theorem g_slen {nL index k : Nat} {tys : List (ClassId × FieldType)} (F : FX l s0 b D T B) (hk : KC s0 X s) (hC : gC p c cc s m args own D cl tys) (hml : c.maxLocals = nL) (hS : va_S (gA B X) s.heap H locs) (hc : sOK k) (hw : gMV own index yJ0_length_8abf5 cJ0_length_8abf5 1 (some .int) 0) (hrm : gRm R rms1 1 0 0) (hsz : ls.size = nL) (hroom : (rest.map fun v => v.category).sum ≤ 8) (hdg : decode cc pc = .ok (.invokevirtual index, 3)) (hf : cells ≤ R.cells ∧ slots ≤ R.slots)
    (kk : ∀ (locs1 : List Loc), va_S (gA B X) s.heap H locs1 → W p l e R s m args below meth c H locs1 cells slots Q (F0 m (pc + 3) ls (.int (sLn k) :: rest))) : W p l e R s m args below meth c H locs cells slots Q (F0 m pc ls (.ref (gsa s0 k) :: rest)) :=
  have hV := zSV F hk hc hS
  gw_callV (As := []) hC hml hS (Wp := eqH H) rfl (KV_at hk hS F.2.2.2.2 hV) KV_blind (metJ0_length (X := X) F) hw (by obtain ⟨-, -, v, ⟨cell, h1, h2, h3, -⟩, -⟩ := hV; exact ⟨cell, h1, h2, h3⟩) (fun q (z : False) => z.elim) hrm rfl hsz rfl hroom hdg hf (fun H1 locs1 h1 h2 _ _ => by cases h1; exact kk locs1 h2)
theorem g_schar {nL index k : Nat} {i v : Int32} {tys : List (ClassId × FieldType)} (F : FX l s0 b D T B) (hk : KC s0 X s) (hC : gC p c cc s m args own D cl tys) (hml : c.maxLocals = nL) (hS : va_S (gA B X) s.heap H locs) (hc : sOK k) (hv : v = nI ((sTx k).getD i.toNatClampNeg 0)) (hin : vp_in i (sTx k).length) (hw : gMV own index yJ0_charAt_5068e cJ0_charAt_5068e 2 (some .char) 1) (hrm : gRm R rms3 2 0 0) (hsz : ls.size = nL) (hroom : (rest.map fun v => v.category).sum ≤ 8) (hdg : decode cc pc = .ok (.invokevirtual index, 3)) (hf : cells ≤ R.cells ∧ slots ≤ R.slots)
    (kk : ∀ (locs1 : List Loc), va_S (gA B X) s.heap H locs1 → W p l e R s m args below meth c H locs1 cells slots Q (F0 m (pc + 3) ls (.int v :: rest))) : W p l e R s m args below meth c H locs cells slots Q (F0 m pc ls (.int i :: .ref (gsa s0 k) :: rest)) := by
  have hV := zSV F hk hc hS
  subst hv
  have hM : gMet l yJ0_charAt_5068e cJ0_charAt_5068e 2 (some .char) rms3 [.ref (gsa s0 k), .int i] (eqH H) (KV s0 X (gsa s0 k) (sTx k).length fun j => (sTx k).getD j 0) (some (.int (nI ((sTx k).getD i.toNatClampNeg 0)))) (eqH H) NF 0 0 := by
    have h9 := metJ0_charAt (X := X) (H0 := H) (a := gsa s0 k) (n := (sTx k).length) (t := fun j => (sTx k).getD j 0) F (vp_in_lt hin)
    rw [nI_tn fun q => hin (Or.inl q)] at h9
    exact h9
  exact gw_callV (As := [.int i]) hC hml hS (Wp := eqH H) rfl (KV_at hk hS F.2.2.2.2 hV) KV_blind hM hw (by obtain ⟨-, -, v, ⟨cell, h1, h2, h3, -⟩, -⟩ := hV; exact ⟨cell, h1, h2, h3⟩) (fun q (z : False) => z.elim) hrm rfl hsz rfl hroom hdg hf (fun H1 locs1 h1 h2 _ _ => by cases h1; exact kk locs1 h2)
theorem metJE_ordinal (F : FX l s0 b D T B) {k : Nat} (hc : fOK k) : gMet l yJx29ce0_ordinal_8abf5 cJx29ce0_ordinal_8abf5 1 (some .int) rms0 [.ref (gfm s0 k)] (eqH H0) (KC s0 X) (some (.int (nI (k - 1)))) (eqH H0) NF 0 0 := by
  refine gMet_of RJx29ce0 (by decide +kernel) rfl (Nat.le_of_ble_eq_true rfl) ?_
  intro p e s m below meth c ls hx hb hr hlocks hml hown hts hnm hW hk hl hS
  have hl : lv_has ls 1 [(0, .ref (gfm s0 k))] := hl
  refine lv_aload_n hx hb dJx29ce0_ordinal_8abf5_0 rfl (lv_at hl 0 rfl) ?_
  refine vk_getf hx hb ((kM (X := X) F hk hc).2.1.narrow (fun q (z : False) => z.elim)) hS hown (hts _ fj_E_7) (fun _ h => h) dJx29ce0_ordinal_8abf5_1 ?_
  exact gw_iret hx hb hr hlocks hW hS (Nat.le_of_ble_eq_true rfl) (Nat.le_of_ble_eq_true rfl) dJx29ce0_ordinal_8abf5_4
theorem gw_ord {nL k : Nat} (F : FX l s0 b D T B) (hk : KC s0 X s) (hC : gC p c cc s m args RX10 D vwCl (tysG T)) (hml : c.maxLocals = nL) (hS : va_S (gA B X) s.heap H locs) (hc : fOK k) (hrm : gRm R rms0 1 0 0) (hsz : ls.size = nL) (hroom : (rest.map fun v => v.category).sum ≤ 8) (hdg : decode cc pc = .ok (.invokevirtual 491, 3)) (hf : cells ≤ R.cells ∧ slots ≤ R.slots)
    (kk : ∀ (locs1 : List Loc), va_S (gA B X) s.heap H locs1 → W p l e R s m args below meth c H locs1 cells slots Q (F0 m (pc + 3) ls (.int (nI (k - 1)) :: rest))) : W p l e R s m args below meth c H locs cells slots Q (F0 m pc ls (.ref (gfm s0 k) :: rest)) := by
  obtain ⟨hx, hb, hown, hts, -⟩ := hC
  have hG : GoodIn WG (va_wsU RX10 491 RX3 "java/lang/Enum" ⟨RX3, "ordinal", "()I"⟩ yJx29ce0_ordinal_8abf5 (.code yJx29ce0_ordinal_8abf5 cJx29ce0_ordinal_8abf5 1 (some .int) :: WG)) := fun w hw => by
    rcases List.mem_append.mp hw with hw | hw
    · exact ⟨cw_ord.1 w hw, wg_good (cw_ord.1 w hw)⟩
    · exact wg_in cw_ord.2 w hw
  exact gw_ret (As := [.ref (gfm s0 k)]) (va_runU (C := RX3) (owner := "java/lang/Enum") (x := ⟨RX3, "ordinal", "()I"⟩) (As := []) ⟨hx, hb, hml, hown, hts⟩ (metJE_ordinal (X := X) (H0 := H) F hc) (va_cwU 0 hts hG rfl hrm.1 hrm.2.1 rfl (by decide +kernel) hrm.2.2) ⟨gPc_blind KC_blind, (by obtain ⟨cell, h1, h2, h3, -⟩ := ((kM (X := X) F hk hc).1).kept hS.2.1; exact ⟨cell, h1, h2, h3⟩), fun U hU hWm => ⟨rfl, hU, KC_at hk hS F.2.2.2.2 U hU hWm⟩⟩ rfl rfl hsz rfl (lv_room hroom) hdg hf) hS (fun q (z : False) => z.elim) (fun H1 locs1 h1 h2 _ _ => by cases h1; exact kk locs1 h2)
end FR
