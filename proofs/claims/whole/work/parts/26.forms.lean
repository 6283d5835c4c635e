/-! The String constants and the Forms: what the start says of them. -/
def sKey : Nat → String × Nat
  | 1 => ("AvalancheGallery$Form", 52)
  | 2 => ("AvalancheGallery$Form", 58)
  | 3 => ("AvalancheGallery$Form", 61)
  | 4 => ("AvalancheGallery$Form", 64)
  | 5 => ("AvalancheGallery$Form", 67)
  | 6 => ("AvalancheGallery$Form", 70)
  | 7 => ("AvalancheGallery$Form", 73)
  | 8 => ("AvalancheGallery$Form", 76)
  | 9 => ("AvalancheGalleryModel", 288)
  | 10 => ("AvalancheGalleryModel", 294)
  | 11 => ("AvalancheGalleryModel", 296)
  | 12 => ("AvalancheGalleryModel", 298)
  | 13 => ("AvalancheGalleryModel", 300)
  | 14 => ("AvalancheGalleryModel", 302)
  | 15 => ("AvalancheGalleryModel", 304)
  | 16 => ("AvalancheGalleryModel", 306)
  | _ => ("", 0)
/-- the letters of String constant c -/
def sTx : Nat → List Nat
  | 1 => [114, 111, 111, 109, 32, 35]
  | 2 => [108, 101, 103, 32, 35, 45, 35, 32, 37, 42, 35]
  | 3 => [112, 105, 108, 101, 32, 35, 42, 35]
  | 4 => [100, 114, 111, 112, 32, 35, 32, 35, 44, 35, 43, 37]
  | 5 => [115, 101, 110, 100, 32, 35, 62, 35]
  | 6 => [97, 115, 107, 32, 35, 32, 37, 45, 37, 43, 37]
  | 7 => [116, 97, 107, 101, 32, 35]
  | 8 => [100, 97, 121, 32, 37]
  | 9 => [114, 111, 111, 109, 32, 49]
  | 10 => [108, 101, 103, 32, 49, 45, 49, 32, 50, 42, 49]
  | 11 => [112, 105, 108, 101, 32, 49, 42, 49]
  | 12 => [115, 101, 110, 100, 32, 49, 62, 49]
  | 13 => [97, 115, 107, 32, 49, 32, 50, 45, 50, 43, 50]
  | 14 => [116, 97, 107, 101, 32, 49]
  | 15 => [100, 97, 121, 32, 50]
  | 16 => [100, 114, 111, 112, 32, 49, 32, 49, 44, 49, 43, 50]
  | _ => []
def gsa (s0 : State) (c : Nat) : Nat := match (Term.string (sKey c).1 (sKey c).2).eval #[] s0 none [] s0 with
  | some (.ref a) => a
  | _ => 0
def sLn (c : Nat) : Int32 := nI (sTx c).length
/-- letter i of String constant c -/
def sat {O : Type} (c : Nat) (i : Int32) (k : Int32 → Option O) : Option O := if i < 0 ∨ (sTx c).length ≤ i.toNatClampNeg then none else k (nI ((sTx c).getD i.toNatClampNeg 0))
theorem sat_o {O : Type} {c : Nat} {i : Int32} {k : Int32 → Option O} {z : O} (h : sat c i k = some z) : ∃ v, v = nI ((sTx c).getD i.toNatClampNeg 0) ∧ vp_in i (sTx c).length ∧ k v = some z := by
  unfold sat at h
  by_cases hc : i < 0 ∨ (sTx c).length ≤ i.toNatClampNeg
  · rw [if_pos hc] at h; cases h
  · rw [if_neg hc] at h; exact ⟨_, rfl, hc, h⟩
def sOK (c : Nat) : Prop := 1 ≤ c ∧ c ≤ 16
def fOK (c : Nat) : Prop := 1 ≤ c ∧ c ≤ 8
theorem fOK_s {c : Nat} (h : fOK c) : sOK c := ⟨h.1, Nat.le_trans h.2 (by decide)⟩
theorem sTx_ok {c : Nat} (h : sOK c) : (sTx c).length < 2 ^ 31 ∧ ∀ j, j < (sTx c).length → (sTx c).getD j 0 < 256 := by
  obtain ⟨h1, h2⟩ := h
  rcases (show c = 1 ∨ c = 2 ∨ c = 3 ∨ c = 4 ∨ c = 5 ∨ c = 6 ∨ c = 7 ∨ c = 8 ∨ c = 9 ∨ c = 10 ∨ c = 11 ∨ c = 12 ∨ c = 13 ∨ c = 14 ∨ c = 15 ∨ c = 16 by omega) with rfl | rfl | rfl | rfl | rfl | rfl | rfl | rfl | rfl | rfl | rfl | rfl | rfl | rfl | rfl | rfl <;> decide +kernel
section SF
variable {l : Launch} {s0 s : State} {b B : Nat} {D : va_G} {T : Nat → ClassId} {X : Nat → Prop}
abbrev nwC : List Cond := flatC (Jvm.Cond.and given_1 narrow_1)
/-- what the start says of a String constant -/
theorem zS_of (F : FX l s0 b D T B) {own : String} {k n : Nat} {byt : List Int32} (hn : n < 2 ^ 31) (h1 : Cond.exactly (.string own k) "java/lang/String" ∈ nwC) (h2 : Cond.eq (.field (.string own k) "java/lang/String" "coder" "B") (.int 0) ∈ nwC) (h3 : Cond.arrayOf (.field (.string own k) "java/lang/String" "value" "[B") .byte ∈ nwC) (h4 : Cond.eq (.length (.field (.string own k) "java/lang/String" "value" "[B")) (.int (Int32.ofNat n)) ∈ nwC) (h5 : ∀ j, j < n → Cond.eq (.elem (.field (.string own k) "java/lang/String" "value" "[B") (.int (Int32.ofNat j))) (.int (byt.getD j 0)) ∈ nwC) :
    ∃ a v, (Term.string own k).eval #[.ref b] s0 none [] s0 = some (.ref a) ∧ va_O "java/lang/String" a (fun q => s0.heap.size ≤ q) s0 s0.heap ∧ va_OF "java/lang/String" "coder" "B" (.int 0) a (fun q => s0.heap.size ≤ q) s0 s0.heap ∧ va_OF "java/lang/String" "value" "[B" (.ref v) a (fun q => s0.heap.size ≤ q) s0 s0.heap ∧ va_T .byte v n (fun j => .int (byt.getD j 0)) (fun q => s0.heap.size ≤ q) s0 s0.heap := by
  have i0 : ∀ i : Nat, i < 1 → i = 0 := fun i h => by omega
  obtain ⟨aK, aV, hV, he⟩ := vk_Sof (args := #[.ref b]) (s := s0) (N := 1) (tm := fun _ => .string own k) (len := [n]) (byt := [byt]) (A := fun q => s0.heap.size ≤ q) (fun i hi => by rw [i0 i hi]; exact hn) (fun i _ => FX_narrow F h1) (fun i _ => FX_narrow F h2) (fun i _ => FX_narrow F h3) (fun i hi => by rw [i0 i hi]; exact FX_narrow F h4) (fun i hi j hj => by rw [i0 i hi] at hj ⊢; exact FX_narrow F (h5 j hj)) (fun i j hi hj hn => absurd ((i0 i hi).trans (i0 j hj).symm) hn) (fun a ha => Nat.not_le.mpr ha)
  obtain ⟨q1, q2, q3, q4⟩ := hV.1 0 (by decide)
  exact ⟨aK 0, aV 0, he 0 (by decide), q1, q2, q3, q4⟩
theorem zS_c (F : FX l s0 b D T B) {c : Nat} (hc : sOK c) : ∃ v, va_O "java/lang/String" (gsa s0 c) (fun q => s0.heap.size ≤ q) s0 s0.heap ∧ va_OF "java/lang/String" "coder" "B" (.int 0) (gsa s0 c) (fun q => s0.heap.size ≤ q) s0 s0.heap ∧ va_OF "java/lang/String" "value" "[B" (.ref v) (gsa s0 c) (fun q => s0.heap.size ≤ q) s0 s0.heap ∧ va_T .byte v (sTx c).length (fun j => .int (sb_b ((sTx c).getD j 0))) (fun q => s0.heap.size ≤ q) s0 s0.heap := by
  have key : ∃ a v, (Term.string (sKey c).1 (sKey c).2).eval #[.ref b] s0 none [] s0 = some (.ref a) ∧ va_O "java/lang/String" a (fun q => s0.heap.size ≤ q) s0 s0.heap ∧ va_OF "java/lang/String" "coder" "B" (.int 0) a (fun q => s0.heap.size ≤ q) s0 s0.heap ∧ va_OF "java/lang/String" "value" "[B" (.ref v) a (fun q => s0.heap.size ≤ q) s0 s0.heap ∧ va_T .byte v (sTx c).length (fun j => .int (((sTx c).map sb_b).getD j 0)) (fun q => s0.heap.size ≤ q) s0 s0.heap := by
    obtain ⟨h1, h2⟩ := hc
    rcases (show c = 1 ∨ c = 2 ∨ c = 3 ∨ c = 4 ∨ c = 5 ∨ c = 6 ∨ c = 7 ∨ c = 8 ∨ c = 9 ∨ c = 10 ∨ c = 11 ∨ c = 12 ∨ c = 13 ∨ c = 14 ∨ c = 15 ∨ c = 16 by omega) with rfl | rfl | rfl | rfl | rfl | rfl | rfl | rfl | rfl | rfl | rfl | rfl | rfl | rfl | rfl | rfl <;> exact zS_of F (by decide +kernel) (by decide +kernel) (by decide +kernel) (by decide +kernel) (by decide +kernel) (by decide +kernel)
  obtain ⟨a, v, e, q1, q2, q3, q4⟩ := key
  have e2 : (Term.string (sKey c).1 (sKey c).2).eval #[] s0 none [] s0 = some (.ref a) := e
  have ea : gsa s0 c = a := by unfold gsa; rw [e2]
  rw [ea]
  refine ⟨v, q1, q2, q3, ?_⟩
  obtain ⟨cell, h1, h2, h3, h4, h5, h6, h7⟩ := q4
  refine ⟨cell, h1, h2, h3, h4, h5, fun j hj => ?_, h7⟩
  rw [h6 j hj, List.getD_eq_getElem?_getD, List.getD_eq_getElem?_getD, List.getElem?_map, List.getElem?_eq_getElem hj]
  rfl
/-- ... and it stands behind every step -/
theorem zSV (F : FX l s0 b D T B) (hk : KC s0 X s) {c : Nat} (hc : sOK c) {H : Heap} {locs : List Loc} (hS : va_S (gA B X) s.heap H locs) : SV (gsa s0 c) (sTx c).length (fun j => (sTx c).getD j 0) s H := by
  obtain ⟨v, h1, h2, h3, h4⟩ := zS_c F hc
  have k0 : ∀ a : Nat, a < s0.heap.size → ¬ s0.heap.size ≤ a → s.heap[a]? = s0.heap[a]? := fun a ha _ => hk.2.2.1 a ha
  have kn : ∀ q, NF q → gA B X q := fun q z => z.elim
  exact ⟨(sTx_ok hc).1, (sTx_ok hc).2, v, (((((va_O.moved hk.1.alike h1).kept k0).narrow (gA_old F.2.2.2.2)).kept hS.2.1).narrow kn), (((((va_OF.moved hk.1.alike h2).kept k0).narrow (gA_old F.2.2.2.2)).kept hS.2.1).narrow kn), (((((va_OF.moved hk.1.alike h3).kept k0).narrow (gA_old F.2.2.2.2)).kept hS.2.1).narrow kn), (((((va_T.moved hk.1.alike h4).kept k0).narrow (gA_old F.2.2.2.2)).kept hS.2.1).narrow kn)⟩
theorem va_eqv {args : Array Value} {s : State} {t u : Term} {a : Nat} (h : (Cond.eq t u).before args s = true) (hu : u.eval args s none [] s = some (.ref a)) : t.eval args s none [] s = some (.ref a) := by
  obtain ⟨w, h1, h2⟩ := Cond.eq_one (show (Cond.eq t u).holds args s none s [] = true from h)
  cases hu.symm.trans h2
  exact h1
/-- a Form's fields -/
theorem zM_of (F : FX l s0 b D T B) {k z : Nat} {own : String} {i : Nat} (h1 : Cond.exactly (.static RX3 (nmM.getD k "") "LAvalancheGallery$Form;") RX3 ∈ nwC) (h2 : Cond.eq (.field (.static RX3 (nmM.getD k "") "LAvalancheGallery$Form;") "java/lang/Enum" "ordinal" "I") (.int (nI z)) ∈ nwC) (h3 : Cond.eq (.field (.static RX3 (nmM.getD k "") "LAvalancheGallery$Form;") RX3 "shape" "Ljava/lang/String;") (.string own i) ∈ nwC) {a : Nat} (h4 : (Term.string own i).eval #[.ref b] s0 none [] s0 = some (.ref a)) :
    va_O RX3 (gfm s0 (k + 1)) (fun q => s0.heap.size ≤ q) s0 s0.heap ∧ va_OF "java/lang/Enum" "ordinal" "I" (.int (nI z)) (gfm s0 (k + 1)) (fun q => s0.heap.size ≤ q) s0 s0.heap ∧ va_OF RX3 "shape" "Ljava/lang/String;" (.ref a) (gfm s0 (k + 1)) (fun q => s0.heap.size ≤ q) s0 s0.heap := by
  have e := eAd_ev (FX_narrow F h1)
  have eg : gfm s0 (k + 1) = eAd RX3 "LAvalancheGallery$Form;" nmM s0 k := rfl
  obtain ⟨a9, c9, cell, k9, q1, q2, q3, q4, q5, q6, -⟩ := Cond.exactly_spec (FX_narrow F h1)
  have ea : a9 = gfm s0 (k + 1) := by
    have := q1.symm.trans e
    cases this
    rfl
  subst ea
  exact ⟨⟨cell, q3, q5, by rw [q6]; exact q2, Nat.not_le.mpr (Array.getElem?_eq_some_iff.mp q3).1⟩, vk_OFof q1 (va_eqt (FX_narrow F h2)) (fun a ha => Nat.not_le.mpr ha), vk_OFof q1 (va_eqv (FX_narrow F h3) h4) (fun a ha => Nat.not_le.mpr ha)⟩
theorem gsa_ev (F : FX l s0 b D T B) {c : Nat} (h : Cond.exactly (.string (sKey c).1 (sKey c).2) "java/lang/String" ∈ nwC) : (Term.string (sKey c).1 (sKey c).2).eval #[.ref b] s0 none [] s0 = some (.ref (gsa s0 c)) := by
  obtain ⟨a, c9, cell, k9, q1, -⟩ := Cond.exactly_spec (FX_narrow F h)
  have e2 : (Term.string (sKey c).1 (sKey c).2).eval #[] s0 none [] s0 = some (.ref a) := q1
  have ea : gsa s0 c = a := by unfold gsa; rw [e2]
  rw [ea]; exact q1
theorem zM_c (F : FX l s0 b D T B) {c : Nat} (hc : fOK c) : va_O RX3 (gfm s0 c) (fun q => s0.heap.size ≤ q) s0 s0.heap ∧ va_OF "java/lang/Enum" "ordinal" "I" (.int (nI (c - 1))) (gfm s0 c) (fun q => s0.heap.size ≤ q) s0 s0.heap ∧ va_OF RX3 "shape" "Ljava/lang/String;" (.ref (gsa s0 c)) (gfm s0 c) (fun q => s0.heap.size ≤ q) s0 s0.heap := by
  obtain ⟨h1, h2⟩ := hc
  rcases (show c = 1 ∨ c = 2 ∨ c = 3 ∨ c = 4 ∨ c = 5 ∨ c = 6 ∨ c = 7 ∨ c = 8 by omega) with rfl | rfl | rfl | rfl | rfl | rfl | rfl | rfl
  · exact zM_of F (k := 0) (z := 0) (own := "AvalancheGallery$Form") (i := 52) (by decide +kernel) (by decide +kernel) (by decide +kernel) (gsa_ev F (c := 1) (by decide +kernel))
  · exact zM_of F (k := 1) (z := 1) (own := "AvalancheGallery$Form") (i := 58) (by decide +kernel) (by decide +kernel) (by decide +kernel) (gsa_ev F (c := 2) (by decide +kernel))
  · exact zM_of F (k := 2) (z := 2) (own := "AvalancheGallery$Form") (i := 61) (by decide +kernel) (by decide +kernel) (by decide +kernel) (gsa_ev F (c := 3) (by decide +kernel))
  · exact zM_of F (k := 3) (z := 3) (own := "AvalancheGallery$Form") (i := 64) (by decide +kernel) (by decide +kernel) (by decide +kernel) (gsa_ev F (c := 4) (by decide +kernel))
  · exact zM_of F (k := 4) (z := 4) (own := "AvalancheGallery$Form") (i := 67) (by decide +kernel) (by decide +kernel) (by decide +kernel) (gsa_ev F (c := 5) (by decide +kernel))
  · exact zM_of F (k := 5) (z := 5) (own := "AvalancheGallery$Form") (i := 70) (by decide +kernel) (by decide +kernel) (by decide +kernel) (gsa_ev F (c := 6) (by decide +kernel))
  · exact zM_of F (k := 6) (z := 6) (own := "AvalancheGallery$Form") (i := 73) (by decide +kernel) (by decide +kernel) (by decide +kernel) (gsa_ev F (c := 7) (by decide +kernel))
  · exact zM_of F (k := 7) (z := 7) (own := "AvalancheGallery$Form") (i := 76) (by decide +kernel) (by decide +kernel) (by decide +kernel) (gsa_ev F (c := 8) (by decide +kernel))
theorem kM (F : FX l s0 b D T B) (hk : KC s0 X s) {c : Nat} (hc : fOK c) : va_O RX3 (gfm s0 c) (gA B X) s s.heap ∧ va_OF "java/lang/Enum" "ordinal" "I" (.int (nI (c - 1))) (gfm s0 c) (gA B X) s s.heap ∧ va_OF RX3 "shape" "Ljava/lang/String;" (.ref (gsa s0 c)) (gfm s0 c) (gA B X) s s.heap := by
  obtain ⟨h1, h2, h3⟩ := zM_c F hc
  have k0 : ∀ a : Nat, a < s0.heap.size → ¬ s0.heap.size ≤ a → s.heap[a]? = s0.heap[a]? := fun a ha _ => hk.2.2.1 a ha
  exact ⟨((va_O.moved hk.1.alike h1).kept k0).narrow (gA_old F.2.2.2.2), ((va_OF.moved hk.1.alike h2).kept k0).narrow (gA_old F.2.2.2.2), ((va_OF.moved hk.1.alike h3).kept k0).narrow (gA_old F.2.2.2.2)⟩
/-- FORMS, and the table of the switches -/
theorem zFo (F : FX l s0 b D T B) (hk : KC s0 X s) : ∃ t, va_Z RX10 "FORMS" "[LAvalancheGallery$Form;" (.ref t) (gA B X) s s.heap ∧ va_T (.object RX3) t 8 (fun j => .ref (gfm s0 (j + 1))) (gA B X) s s.heap := by
  have ev : ∀ k, k < 8 → (Term.static RX3 (nmM.getD k "") "LAvalancheGallery$Form;").eval #[.ref b] s0 none [] s0 = some (.ref (eAd RX3 "LAvalancheGallery$Form;" nmM s0 k)) := fun k hk => eAd_ev (E := RX3) (FX_narrow F (by
    rcases (show k = 0 ∨ k = 1 ∨ k = 2 ∨ k = 3 ∨ k = 4 ∨ k = 5 ∨ k = 6 ∨ k = 7 by omega) with rfl | rfl | rfl | rfl | rfl | rfl | rfl | rfl <;> decide +kernel))
  have tab : ∀ j, j < 8 → Cond.eq (.elem (.static RX10 "FORMS" "[LAvalancheGallery$Form;") (.int (Int32.ofNat j))) (.static RX3 (nmM.getD j "") "LAvalancheGallery$Form;") ∈ nwC := by decide +kernel
  obtain ⟨t, ht, hT⟩ := va_Tof (args := #[.ref b]) (s := s0) (tm := .static RX10 "FORMS" "[LAvalancheGallery$Form;") (ty := .object RX3) (N := 8) (f := fun j => .ref (gfm s0 (j + 1))) (A := fun q => s0.heap.size ≤ q) (by decide) (FX_narrow F (by decide +kernel)) (va_eqt (FX_narrow F (by decide +kernel))) (fun j hj => va_eqv (FX_narrow F (tab j hj)) (ev j hj)) (fun a ha => Nat.not_le.mpr ha)
  have k0 : ∀ a : Nat, a < s0.heap.size → ¬ s0.heap.size ≤ a → s.heap[a]? = s0.heap[a]? := fun a ha _ => hk.2.2.1 a ha
  exact ⟨t, KC_Z F hk (va_Zof (args := #[.ref b]) (F.2.1 _ (List.mem_append_right _ (List.mem_of_getElem? (i := 1577) (by decide +kernel)))) (F.2.1 _ (List.mem_append_right _ (List.mem_of_getElem? (i := 1) (by decide +kernel)))) ht (fun a ha => Nat.not_le.mpr ha)), ((va_T.moved hk.1.alike hT).kept k0).narrow (gA_old F.2.2.2.2)⟩
theorem zSw (F : FX l s0 b D T B) (hk : KC s0 X s) : ∃ t, va_Z RX0 "$SwitchMap$AvalancheGallery$Form" "[I" (.ref t) (gA B X) s s.heap ∧ va_T .int t 8 (fun j => .int (if j = 7 then 0 else nI (j + 1))) (gA B X) s s.heap := by
  have tab : ∀ j, j < 8 → Cond.eq (.elem (.static RX0 "$SwitchMap$AvalancheGallery$Form" "[I") (.int (Int32.ofNat j))) (.int (if j = 7 then 0 else nI (j + 1))) ∈ nwC := by decide +kernel
  obtain ⟨t, ht, hT⟩ := va_Tof (args := #[.ref b]) (s := s0) (tm := .static RX0 "$SwitchMap$AvalancheGallery$Form" "[I") (ty := .int) (N := 8) (f := fun j => .int (if j = 7 then 0 else nI (j + 1))) (A := fun q => s0.heap.size ≤ q) (by decide) (FX_narrow F (by decide +kernel)) (va_eqt (FX_narrow F (by decide +kernel))) (fun j hj => va_eqt (FX_narrow F (tab j hj))) (fun a ha => Nat.not_le.mpr ha)
  have k0 : ∀ a : Nat, a < s0.heap.size → ¬ s0.heap.size ≤ a → s.heap[a]? = s0.heap[a]? := fun a ha _ => hk.2.2.1 a ha
  exact ⟨t, KC_Z F hk (va_Zof (args := #[.ref b]) (F.2.1 _ (List.mem_append_right _ (List.mem_of_getElem? (i := 1614) (by decide +kernel)))) (F.2.1 _ (List.mem_append_right _ (List.mem_of_getElem? (i := 35) (by decide +kernel)))) ht (fun a ha => Nat.not_le.mpr ha)), ((va_T.moved hk.1.alike hT).kept k0).narrow (gA_old F.2.2.2.2)⟩
end SF
