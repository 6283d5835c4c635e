/-! Printed by program: the law's texts. -/
def ctG {O : Type} (t : List Nat) (i : Int32) (k : Int32 → Option O) : Option O := if i < 0 ∨ t.length ≤ i.toNatClampNeg then none else k (nI (t.getD i.toNatClampNeg 0))
theorem ct_o {O : Type} {t : List Nat} {i : Int32} {k : Int32 → Option O} {z : O} (h : ctG t i k = some z) : ∃ (j : Nat) (v : Int32), i = nI j ∧ j < t.length ∧ v = nI (t.getD j 0) ∧ k v = some z := by
  unfold ctG at h
  by_cases hc : i < 0 ∨ t.length ≤ i.toNatClampNeg
  · rw [if_pos hc] at h; cases h
  · rw [if_neg hc] at h
    exact ⟨i.toNatClampNeg, _, (nI_tn (fun z => hc (Or.inl z))).symm, Nat.lt_of_not_le (fun z => hc (Or.inr z)), rfl, h⟩
section GT
variable {p : Program} {l : Launch} {e : Env} {R : Room} {s : State} {m : MethodId} {args : Array Value} {below : List Frame} {meth : Method} {c : Code} {H H1 : Heap} {locs : List Loc} {cells slots : Nat} {Q : State → Prop}
variable {cc : ByteArray} {pc : Nat} {ls : Array Slot} {st rest As : List Value} {D : va_G} {own : String} {T : Nat → ClassId} {X : Nat → Prop} {b B : Nat} {s0 : State} {index ml nL n mc ms : Nat} {y : MethodName} {bb : ByteArray} {ret : Option FieldType} {rm : Room} {Z : Nat → Int32} {hs : List (Nat → Int32)} {t tx : List Nat} {a : Nat}
theorem tr_chr2 {i : Nat} {ix : Int32} (ei : ix = nI i) (hi : i < tx.length) (F : FX l s0 b D T B) (hk : KA s0 X (gA B X) a tx s) (hC : gC p c cc s m args own D vwCl (tysG T)) (hml : c.maxLocals = nL) (hS : va_S (gA B X) s.heap H locs) (hw : gMV own index yJ0_charAt_5068e cJ0_charAt_5068e 2 (some .char) 1) (hrm : gRm R rms3 2 0 0) (hsz : ls.size = nL) (hroom : (rest.map fun v => v.category).sum ≤ 8) (hdg : decode cc pc = .ok (.invokevirtual index, 3)) (hf : cells ≤ R.cells ∧ slots ≤ R.slots)
    (kk : ∀ (locs1 : List Loc), va_S (gA B X) s.heap H locs1 → W p l e R s m args below meth c H locs1 cells slots Q (F0 m (pc + 3) ls (.int (nI (tx.getD i 0)) :: rest))) : W p l e R s m args below meth c H locs cells slots Q (F0 m pc ls (.int ix :: .ref a :: rest)) := by
  subst ei
  exact tr_chr hi F hk hC hml hS hw hrm hsz hroom hdg hf kk
theorem gz_wrS {hh : List (Nat × Nat × Nat × Nat)} {S : RSt} {w : Nat ⊕ Int32 → Int32} (F : FX l s0 b D T B) (hk : KC s0 X s) (hC : gC p c cc s m args own D vwCl (tysG T)) (hml : c.maxLocals = nL) (hS : va_S (gA B X) s.heap H locs) (hW : gZ s0 D T B X Z hs t H) (hM : gMetR l y bb ml hh rm As (gZ s0 D T B X Z hs t) (KC s0 X) (gRS s0 D T B X S w) (gA B X) mc ms) (hw : gML own index y bb ml hh n) (hrm : gRm R rm ml mc ms)
    (hn : As.length = n) (hsz : ls.size = nL) (hst : st = As.reverse ++ rest) (hroom : (rest.map fun v => v.category).sum ≤ 8) (hdg : decode cc pc = .ok (.invokestatic index, 3)) (hf : cells + mc ≤ R.cells ∧ slots + ms ≤ R.slots)
    (kk : ∀ (Z2 : Nat → Int32) (hs2 : List (Nat → Int32)) (t9 : List Nat) (out : Nat ⊕ Int32) (H1 : Heap) (locs1 : List Loc), S Z2 hs2 t9 out → gZ s0 D T B X Z2 hs2 t9 H1 → va_S (gA B X) s.heap H1 locs1 → W p l e R s m args below meth c H1 locs1 (cells + mc) (slots + ms) Q (F0 m (pc + 3) ls (.int (w out) :: rest))) : W p l e R s m args below meth c H locs cells slots Q (F0 m pc ls st) :=
  gr_callS hC hml hS hW (KC_at hk hS F.2.2.2.2) KC_blind hM hw (fun _ h => h) hrm hn hsz hst hroom hdg hf (fun v H1 locs1 hq hS1 _ _ => by
    obtain ⟨Z2, hs2, t9, out, hS2, rfl, hZ⟩ := hq
    exact kk Z2 hs2 t9 out H1 locs1 hS2 hZ hS1)
end GT
/-- what writePile leaves and answers -/
noncomputable def wpA (Z : Nat → Int32) (t : List Nat) (x : Int32) : List Nat × (Nat ⊕ Int32) := if idx (eZ Z) x = true then (pL (pZ Z (tn x)) 16, .inr (nI (pL (pZ Z (tn x)) 16).length)) else (t, .inl 0)
noncomputable def wL_outputAt (t : List Nat) (x : Int32) : Int32 := wr [(0, (-11))] (oC t x)
theorem oC_l {t : List Nat} {x : Int32} {k : Nat} (h : oC t x = .inl k) : k = 0 := by
  unfold oC at h; split at h <;> cases h; rfl
theorem mq_outputAt {l : Launch} {s0 : State} {b B : Nat} {D : va_G} {T : Nat → ClassId} (F : FX l s0 b D T B) {X : Nat → Prop} (hX : ∀ o, o < 561 → ¬ X (B + o)) {Z : Nat → Int32} {hs : List (Nat → Int32)} {t : List Nat} {x1 : Int32} : gMetR l yL_outputAt cL_outputAt 3 hhL_outputAt rmL_outputAt [.ref (B + 0), .int x1] (gZ s0 D T B X Z hs t) (KC s0 X) (gRS s0 D T B X (SqZ Z hs t (oC t x1)) (wr [(0, (-11))])) (gA B X) 1 6 :=
  metL_outputAt (N := 0) F hX (S := SqZ Z hs t (oC t x1)) ⟨rfl, rfl, rfl, rfl⟩ (fun Z2 hs2 t2 k h9 => oC_l h9.2.2.2.symm)
theorem dL_spells_0 : decode cL_spells 0 = .ok (.iload_n 1, 1) := by decide +kernel
theorem dL_spells_1 : decode cL_spells 1 = .ok (.aload_n 2, 1) := by decide +kernel
theorem dL_spells_2 : decode cL_spells 2 = .ok (.invokevirtual 176, 3) := by decide +kernel
theorem dL_spells_5 : decode cL_spells 5 = .ok (.if_icmp .ne 7, 3) := by decide +kernel
theorem dL_spells_8 : decode cL_spells 8 = .ok (.iconst 1, 1) := by decide +kernel
theorem dL_spells_9 : decode cL_spells 9 = .ok (.goto 4, 3) := by decide +kernel
theorem dL_spells_12 : decode cL_spells 12 = .ok (.iconst 0, 1) := by decide +kernel
theorem dL_spells_13 : decode cL_spells 13 = .ok (.istore_n 3, 1) := by decide +kernel
theorem dL_spells_14 : decode cL_spells 14 = .ok (.iconst 0, 1) := by decide +kernel
theorem dL_spells_15 : decode cL_spells 15 = .ok (.istore 4, 2) := by decide +kernel
theorem dL_spells_17 : decode cL_spells 17 = .ok (.iload 4, 2) := by decide +kernel
theorem dL_spells_19 : decode cL_spells 19 = .ok (.aload_n 2, 1) := by decide +kernel
theorem dL_spells_20 : decode cL_spells 20 = .ok (.invokevirtual 176, 3) := by decide +kernel
theorem dL_spells_23 : decode cL_spells 23 = .ok (.if_icmp .ge 34, 3) := by decide +kernel
theorem dL_spells_26 : decode cL_spells 26 = .ok (.iload_n 3, 1) := by decide +kernel
theorem dL_spells_27 : decode cL_spells 27 = .ok (.ifCond .eq 30, 3) := by decide +kernel
theorem dL_spells_30 : decode cL_spells 30 = .ok (.aload_n 0, 1) := by decide +kernel
theorem dL_spells_31 : decode cL_spells 31 = .ok (.iload 4, 2) := by decide +kernel
theorem dL_spells_33 : decode cL_spells 33 = .ok (.invokestatic 377, 3) := by decide +kernel
theorem dL_spells_36 : decode cL_spells 36 = .ok (.aload_n 2, 1) := by decide +kernel
theorem dL_spells_37 : decode cL_spells 37 = .ok (.iload 4, 2) := by decide +kernel
theorem dL_spells_39 : decode cL_spells 39 = .ok (.invokevirtual 181, 3) := by decide +kernel
theorem dL_spells_42 : decode cL_spells 42 = .ok (.if_icmp .ne 7, 3) := by decide +kernel
theorem dL_spells_45 : decode cL_spells 45 = .ok (.iconst 1, 1) := by decide +kernel
theorem dL_spells_46 : decode cL_spells 46 = .ok (.goto 4, 3) := by decide +kernel
theorem dL_spells_49 : decode cL_spells 49 = .ok (.iconst 0, 1) := by decide +kernel
theorem dL_spells_50 : decode cL_spells 50 = .ok (.istore_n 3, 1) := by decide +kernel
theorem dL_spells_51 : decode cL_spells 51 = .ok (.iinc 4 1, 3) := by decide +kernel
theorem dL_spells_54 : decode cL_spells 54 = .ok (.goto (-37), 3) := by decide +kernel
theorem dL_spells_57 : decode cL_spells 57 = .ok (.iload_n 3, 1) := by decide +kernel
theorem dL_spells_58 : decode cL_spells 58 = .ok (.ifCond .eq 17, 3) := by decide +kernel
theorem dL_spells_61 : decode cL_spells 61 = .ok (.aload_n 0, 1) := by decide +kernel
theorem dL_spells_62 : decode cL_spells 62 = .ok (.iload_n 1, 1) := by decide +kernel
theorem dL_spells_63 : decode cL_spells 63 = .ok (.invokestatic 377, 3) := by decide +kernel
theorem dL_spells_66 : decode cL_spells 66 = .ok (.bipush (-11), 2) := by decide +kernel
theorem dL_spells_68 : decode cL_spells 68 = .ok (.if_icmp .ne 7, 3) := by decide +kernel
theorem dL_spells_71 : decode cL_spells 71 = .ok (.iconst 1, 1) := by decide +kernel
theorem dL_spells_72 : decode cL_spells 72 = .ok (.goto 4, 3) := by decide +kernel
theorem dL_spells_75 : decode cL_spells 75 = .ok (.iconst 0, 1) := by decide +kernel
theorem dL_spells_76 : decode cL_spells 76 = .ok (.ireturn, 1) := by decide +kernel
noncomputable def fL_spells (N : Nat) (t : List Nat) (tx : List Nat) (K : Nat) (a1 : Int32) : Option Bool :=
  gd (0 ≤ K) <|
  jn (fun (y2 : Bool) (κ3 : Nat) =>
  fix3 (fun self10 (x7 : Bool) (x8 : Int32) (κ9 : Nat) =>
  gd (κ9 ≤ K) <|
  jn (fun (κ13 : Nat) =>
  jn (fun (y17 : Bool) (κ18 : Nat) =>
  gd (κ18 ≤ K) <|
  some y17) fun j19 =>
  jn (fun (κ23 : Nat) =>
  j19 false κ23) fun j24 =>
  cond x7
  (gd ((κ13 + 1) ≤ K) <|
  if (wL_outputAt t a1) = (-11) then
  (j19 true (κ13 + 1))
  else (j24 (κ13 + 1)))
  (j24 κ13)) fun j14 =>
  if (nI tx.length) ≤ x8 then
  (j14 κ9)
  else (cond x7
  (gd ((κ9 + 1) ≤ K) <|
  gd ((κ9 + 1) ≤ K) <|
  ctG tx x8 fun v37 =>
  jn (fun (y39 : Bool) (κ40 : Nat) =>
  lt (x8 + 1) fun v44 =>
  self10 y39 v44 κ40) fun j41 =>
  if (wL_outputAt t x8) = v37 then
  (j41 true (κ9 + 1))
  else (j41 false (κ9 + 1)))
  (j14 κ9))) N y2 0 κ3) fun j4 =>
  if a1 = (nI tx.length) then
  (j4 true 0)
  else (j4 false 0)
abbrev rmL_spells (K : Nat) : Room := { frames := 10, cells := K, slots := 6 * K, locals := 263 }
set_option maxHeartbeats 4000000 in
set_option maxRecDepth 100000 in
theorem metL_spells {l : Launch} {s0 : State} {b B : Nat} {D : va_G} {T : Nat → ClassId} (F : FX l s0 b D T B) {X : Nat → Prop} (hX : ∀ o, o < 561 → ¬ X (B + o)) {N : Nat} (hN : 1200000000000 ≤ N) {Z : Nat → Int32} {hs : List (Nat → Int32)} {t tx : List Nat} {K a9 : Nat} {a1 : Int32} {r : Bool} (h : fL_spells N t tx K a1 = some r) : gMet l yL_spells cL_spells 5 (some .boolean) (rmL_spells K) [.ref (B + 0), .int a1, .ref a9] (gZ s0 D T B X Z hs t) (KA s0 X (gA B X) a9 tx) (some (.int (b2i r))) (gZ s0 D T B X Z hs t) (gA B X) K (6 * K) := by
  refine gZ_of RL (by decide +kernel) rfl (Nat.le_of_ble_eq_true rfl) ?_
  intro p e s m args below meth c ls Q hx hb hlocks hml hown hts hW hkA hl hS hend
  have hk := hkA.1
  have hC := FX_C F hk hx hb hown hts
  have hl : lv_has ls 5 [(0, .ref (B + 0)), (1, .int a1), (2, .ref a9)] := hl
  unfold fL_spells at h
  refine lv_iload_n hx hb dL_spells_0 rfl (lv_at hl 1 rfl) ?_
  refine lv_aload_n hx hb dL_spells_1 rfl (lv_at hl 2 rfl) ?_
  obtain ⟨g1, h⟩ := gd_out h
  refine tr_len F hkA hC hml hS ml_L_176 ⟨rfl, rfl, (by first | exact Nat.le_of_ble_eq_true rfl | (simp only [rmL_spells]; omega) | (simp only [rmL_spells]; omega)), (by first | exact Nat.le_of_ble_eq_true rfl | (simp only [rmL_spells]; omega) | (simp only [rmL_spells]; omega))⟩ hl.1 (by first | exact Nat.le_of_ble_eq_true rfl | (simp only [rmL_spells]; omega) | (simp only [rmL_spells]; omega)) dL_spells_2 ⟨(by show _ ≤ K; omega), (by show _ ≤ 6 * K; omega)⟩ (fun locs hS => ?_)
  obtain ⟨j4, hj6, h⟩ := jn2_o h
  have J5 : ∀ (y2 : Bool) (κ3 : Nat), j4 y2 κ3 = some r → ∀ (H : Heap) (locs : List Loc) (ls : Array Slot), gZ s0 D T B X Z hs t H → va_S (gA B X) s.heap H locs → lv_has ls 5 [(0, .ref (B + 0)), (1, .int a1), (2, .ref a9)] → W p l e (rmL_spells K) s m args below meth c H locs κ3 (6 * κ3) Q (F0 m 13 ls [.int (b2i y2)]) := by
    clear h hW hS hl
    intro y2 κ3 h H locs ls hW hS hl
    replace h := (hj6 y2 κ3).symm.trans h
    refine lv_istore_n (lv' := [(3, .int (b2i y2)), (0, .ref (B + 0)), (1, .int a1), (2, .ref a9)]) hx hb dL_spells_13 rfl hl (by decide) rfl (fun ls hl => ?_)
    refine lv_iconst (v := 0) hx hb dL_spells_14 (by decide) ?_
    refine lv_istore (lv' := [(4, .int 0), (3, .int (b2i y2)), (0, .ref (B + 0)), (1, .int a1), (2, .ref a9)]) hx hb dL_spells_15 hl (by decide) rfl (fun ls hl => ?_)
    refine W.widen (k := κ3) (n := 6 * κ3) (by omega) (by omega) ?_
    refine fix3_ind (fun (x7 : Bool) (x8 : Int32) (κ9 : Nat) => ∀ (H : Heap) (locs : List Loc) (ls : Array Slot), gZ s0 D T B X Z hs t H → va_S (gA B X) s.heap H locs → lv_has ls 5 [(0, .ref (B + 0)), (1, .int a1), (2, .ref a9), (3, .int (b2i x7)), (4, .int x8)] → W p l e (rmL_spells K) s m args below meth c H locs κ9 (6 * κ9) Q (F0 m 17 ls [])) ?_ N _ _ _ h _ _ _ hW hS (lv_sub hl [2, 3, 4, 1, 0] rfl)
    clear h hW hS hl
    intro self10 IH11 x7 x8 κ9 h H locs ls hW hS hl
    refine lv_iload hx hb dL_spells_17 (lv_at hl 4 rfl) ?_
    refine lv_aload_n hx hb dL_spells_19 rfl (lv_at hl 2 rfl) ?_
    obtain ⟨g12, h⟩ := gd_out h
    refine tr_len F hkA hC hml hS ml_L_176 ⟨rfl, rfl, (by first | exact Nat.le_of_ble_eq_true rfl | (simp only [rmL_spells]; omega) | (simp only [rmL_spells]; omega)), (by first | exact Nat.le_of_ble_eq_true rfl | (simp only [rmL_spells]; omega) | (simp only [rmL_spells]; omega))⟩ hl.1 (by first | exact Nat.le_of_ble_eq_true rfl | (simp only [rmL_spells]; omega) | (simp only [rmL_spells]; omega)) dL_spells_20 ⟨(by show _ ≤ K; omega), (by show _ ≤ 6 * K; omega)⟩ (fun locs hS => ?_)
    obtain ⟨j14, hj16, h⟩ := jn1_o h
    have J15 : ∀ (κ13 : Nat), j14 κ13 = some r → ∀ (H : Heap) (locs : List Loc) (ls : Array Slot), gZ s0 D T B X Z hs t H → va_S (gA B X) s.heap H locs → lv_has ls 5 [(0, .ref (B + 0)), (1, .int a1), (3, .int (b2i x7))] → W p l e (rmL_spells K) s m args below meth c H locs κ13 (6 * κ13) Q (F0 m 57 ls []) := by
      clear h hW hS hl
      intro κ13 h H locs ls hW hS hl
      replace h := (hj16 κ13).symm.trans h
      refine lv_iload_n hx hb dL_spells_57 rfl (lv_at hl 2 rfl) ?_
      obtain ⟨j19, hj21, h⟩ := jn2_o h
      have J20 : ∀ (y17 : Bool) (κ18 : Nat), j19 y17 κ18 = some r → ∀ (H : Heap) (locs : List Loc) (ls : Array Slot), gZ s0 D T B X Z hs t H → va_S (gA B X) s.heap H locs → lv_has ls 5 [] → W p l e (rmL_spells K) s m args below meth c H locs κ18 (6 * κ18) Q (F0 m 76 ls [.int (b2i y17)]) := by
        clear h hW hS hl
        intro y17 κ18 h H locs ls hW hS hl
        replace h := (hj21 y17 κ18).symm.trans h
        obtain ⟨g22, h⟩ := gd_out h
        cases h
        exact hend dL_spells_76 hW hS (by omega) (by omega)
      obtain ⟨j24, hj26, h⟩ := jn1_o h
      have J25 : ∀ (κ23 : Nat), j24 κ23 = some r → ∀ (H : Heap) (locs : List Loc) (ls : Array Slot), gZ s0 D T B X Z hs t H → va_S (gA B X) s.heap H locs → lv_has ls 5 [] → W p l e (rmL_spells K) s m args below meth c H locs κ23 (6 * κ23) Q (F0 m 75 ls []) := by
        clear h hW hS hl
        intro κ23 h H locs ls hW hS hl
        replace h := (hj26 κ23).symm.trans h
        refine lv_iconst (v := 0) hx hb dL_spells_75 (by decide) ?_
        refine W.widen (k := κ23) (n := 6 * κ23) (by omega) (by omega) ?_
        exact J20 _ _ h _ _ _ hW hS (lv_sub hl [] rfl)
      refine gw_if_eqZ (tgt := 75) hx hb dL_spells_58 (by decide) (fun c27 => ?_) (fun c27 => ?_)
      · replace h := cond_f c27 h
        refine W.widen (k := κ13) (n := 6 * κ13) (by omega) (by omega) ?_
        exact J25 _ h _ _ _ hW hS (lv_sub hl [] rfl)
      · replace h := cond_t c27 h
        refine lv_aload_n hx hb dL_spells_61 rfl (lv_at hl 0 rfl) ?_
        refine lv_iload_n hx hb dL_spells_62 rfl (lv_at hl 1 rfl) ?_
        obtain ⟨g28, h⟩ := gd_out h
        refine gz_wr (As := [.ref (B + 0), .int a1]) F hk hC hml hS hW (mq_outputAt F hX) mw_L_377 ⟨rfl, rfl, (by first | exact Nat.le_of_ble_eq_true rfl | (simp only [rmL_spells]; omega) | (simp only [rmL_spells]; omega)), (by first | exact Nat.le_of_ble_eq_true rfl | (simp only [rmL_spells]; omega) | (simp only [rmL_spells]; omega))⟩ rfl hl.1 rfl (by first | exact Nat.le_of_ble_eq_true rfl | (simp only [rmL_spells]; omega) | (simp only [rmL_spells]; omega)) dL_spells_63 ⟨(by show _ ≤ K; omega), (by show _ ≤ 6 * K; omega)⟩ (fun H locs hW hS => ?_)
        refine W.widen (k := (κ13 + 1)) (n := 6 * (κ13 + 1)) (by omega) (by omega) ?_
        change W p l e _ s m args below meth c H locs _ _ Q (F0 m _ ls (.int (wL_outputAt t a1) :: _))
        refine lv_bipush (v := (-11)) hx hb dL_spells_66 (by decide) ?_
        refine lv_icmp_ne (tgt := 75) hx hb dL_spells_68 (by decide) (fun c29 => ?_) (fun c29 => ?_)
        · replace h := ite_f c29 h
          refine W.widen (k := (κ13 + 1)) (n := 6 * (κ13 + 1)) (by omega) (by omega) ?_
          exact J25 _ h _ _ _ hW hS (lv_sub hl [] rfl)
        · replace h := ite_t c29 h
          refine lv_iconst (v := 1) hx hb dL_spells_71 (by decide) ?_
          refine lv_goto (tgt := 76) hx hb dL_spells_72 (by decide) ?_
          refine W.widen (k := (κ13 + 1)) (n := 6 * (κ13 + 1)) (by omega) (by omega) ?_
          exact J20 _ _ h _ _ _ hW hS (lv_sub hl [] rfl)
    refine lv_icmp_ge (tgt := 57) hx hb dL_spells_23 (by decide) (fun c30 => ?_) (fun c30 => ?_)
    · replace h := ite_t c30 h
      refine W.widen (k := κ9) (n := 6 * κ9) (by omega) (by omega) ?_
      exact J15 _ h _ _ _ hW hS (lv_sub hl [0, 1, 3] rfl)
    · replace h := ite_f c30 h
      refine lv_iload_n hx hb dL_spells_26 rfl (lv_at hl 3 rfl) ?_
      refine gw_if_eqZ (tgt := 57) hx hb dL_spells_27 (by decide) (fun c31 => ?_) (fun c31 => ?_)
      · replace h := cond_f c31 h
        refine W.widen (k := κ9) (n := 6 * κ9) (by omega) (by omega) ?_
        exact J15 _ h _ _ _ hW hS (lv_sub hl [0, 1, 3] rfl)
      · replace h := cond_t c31 h
        refine lv_aload_n hx hb dL_spells_30 rfl (lv_at hl 0 rfl) ?_
        refine lv_iload hx hb dL_spells_31 (lv_at hl 4 rfl) ?_
        obtain ⟨g32, h⟩ := gd_out h
        refine gz_wr (As := [.ref (B + 0), .int x8]) F hk hC hml hS hW (mq_outputAt F hX) mw_L_377 ⟨rfl, rfl, (by first | exact Nat.le_of_ble_eq_true rfl | (simp only [rmL_spells]; omega) | (simp only [rmL_spells]; omega)), (by first | exact Nat.le_of_ble_eq_true rfl | (simp only [rmL_spells]; omega) | (simp only [rmL_spells]; omega))⟩ rfl hl.1 rfl (by first | exact Nat.le_of_ble_eq_true rfl | (simp only [rmL_spells]; omega) | (simp only [rmL_spells]; omega)) dL_spells_33 ⟨(by show _ ≤ K; omega), (by show _ ≤ 6 * K; omega)⟩ (fun H locs hW hS => ?_)
        refine W.widen (k := (κ9 + 1)) (n := 6 * (κ9 + 1)) (by omega) (by omega) ?_
        change W p l e _ s m args below meth c H locs _ _ Q (F0 m _ ls (.int (wL_outputAt t x8) :: _))
        refine lv_aload_n hx hb dL_spells_36 rfl (lv_at hl 2 rfl) ?_
        refine lv_iload hx hb dL_spells_37 (lv_at hl 4 rfl) ?_
        obtain ⟨g33, h⟩ := gd_out h
        obtain ⟨i34, v37, e35, hj36, e38, h⟩ := ct_o h
        refine tr_chr2 e35 hj36 F hkA hC hml hS ml_L_181 ⟨rfl, rfl, (by first | exact Nat.le_of_ble_eq_true rfl | (simp only [rmL_spells]; omega) | (simp only [rmL_spells]; omega)), (by first | exact Nat.le_of_ble_eq_true rfl | (simp only [rmL_spells]; omega) | (simp only [rmL_spells]; omega))⟩ hl.1 (by first | exact Nat.le_of_ble_eq_true rfl | (simp only [rmL_spells]; omega) | (simp only [rmL_spells]; omega)) dL_spells_39 ⟨(by show _ ≤ K; omega), (by show _ ≤ 6 * K; omega)⟩ (fun locs hS => ?_)
        rw [← e38]
        obtain ⟨j41, hj43, h⟩ := jn2_o h
        have J42 : ∀ (y39 : Bool) (κ40 : Nat), j41 y39 κ40 = some r → ∀ (H : Heap) (locs : List Loc) (ls : Array Slot), gZ s0 D T B X Z hs t H → va_S (gA B X) s.heap H locs → lv_has ls 5 [(0, .ref (B + 0)), (1, .int a1), (2, .ref a9), (4, .int x8)] → W p l e (rmL_spells K) s m args below meth c H locs κ40 (6 * κ40) Q (F0 m 50 ls [.int (b2i y39)]) := by
          clear h hW hS hl
          intro y39 κ40 h H locs ls hW hS hl
          replace h := (hj43 y39 κ40).symm.trans h
          refine lv_istore_n (lv' := [(3, .int (b2i y39)), (0, .ref (B + 0)), (1, .int a1), (2, .ref a9), (4, .int x8)]) hx hb dL_spells_50 rfl hl (by decide) rfl (fun ls hl => ?_)
          obtain ⟨v44, e45, h⟩ := lt_out h
          refine lv_iinc (v := v44) (lv' := [(4, .int v44), (3, .int (b2i y39)), (0, .ref (B + 0)), (1, .int a1), (2, .ref a9)]) hx hb dL_spells_51 hl (k := 4) rfl (by rw [e45]; rfl) (by decide) rfl (fun ls hl => ?_)
          refine lv_goto (tgt := 17) hx hb dL_spells_54 (by decide) ?_
          refine W.widen (k := κ40) (n := 6 * κ40) (by omega) (by omega) ?_
          exact IH11 _ _ _ h _ _ _ hW hS (lv_sub hl [2, 3, 4, 1, 0] rfl)
        refine lv_icmp_ne (tgt := 49) hx hb dL_spells_42 (by decide) (fun c46 => ?_) (fun c46 => ?_)
        · replace h := ite_f c46 h
          refine lv_iconst (v := 0) hx hb dL_spells_49 (by decide) ?_
          refine W.widen (k := (κ9 + 1)) (n := 6 * (κ9 + 1)) (by omega) (by omega) ?_
          exact J42 _ _ h _ _ _ hW hS (lv_sub hl [0, 1, 2, 4] rfl)
        · replace h := ite_t c46 h
          refine lv_iconst (v := 1) hx hb dL_spells_45 (by decide) ?_
          refine lv_goto (tgt := 50) hx hb dL_spells_46 (by decide) ?_
          refine W.widen (k := (κ9 + 1)) (n := 6 * (κ9 + 1)) (by omega) (by omega) ?_
          exact J42 _ _ h _ _ _ hW hS (lv_sub hl [0, 1, 2, 4] rfl)
  refine lv_icmp_ne (tgt := 12) hx hb dL_spells_5 (by decide) (fun c47 => ?_) (fun c47 => ?_)
  · replace h := ite_f c47 h
    refine lv_iconst (v := 0) hx hb dL_spells_12 (by decide) ?_
    refine W.widen (k := 0) (n := 6 * 0) (by omega) (by omega) ?_
    exact J5 _ _ h _ _ _ hW hS (lv_sub hl [0, 1, 2] rfl)
  · replace h := ite_t c47 h
    refine lv_iconst (v := 1) hx hb dL_spells_8 (by decide) ?_
    refine lv_goto (tgt := 13) hx hb dL_spells_9 (by decide) ?_
    refine W.widen (k := 0) (n := 6 * 0) (by omega) (by omega) ?_
    exact J5 _ _ h _ _ _ hW hS (lv_sub hl [0, 1, 2] rfl)

