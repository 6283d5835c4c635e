/-! The String constants and the Forms: what the start says of them. -/
def sKey : Nat → String × Nat
  | 1 => ("AvalancheGallery$Form", 52)
  | 2 => ("AvalancheGallery$Form", 58)
  | 3 => ("AvalancheGallery$Form", 61)
  | 4 => ("AvalancheGallery$Form", 64)
  | 5 => ("AvalancheGallery$Form", 67)
  | 6 => ("AvalancheGallery$Form", 70)
  | 7 => ("AvalancheGallery$Form", 73)
  | 8 => ("AvalancheGallery$Form", 76)
  | _ => ("", 0)
def gsa (s0 : State) (c : Nat) : Nat := match (Term.string (sKey c).1 (sKey c).2).eval #[] s0 none [] s0 with
  | some (.ref a) => a
  | _ => 0
def sOK (c : Nat) : Prop := 1 ≤ c ∧ c ≤ 8
def fOK (c : Nat) : Prop := 1 ≤ c ∧ c ≤ 8
theorem fOK_s {c : Nat} (h : fOK c) : sOK c := ⟨h.1, Nat.le_trans h.2 (by decide)⟩
theorem sTx_ok {c : Nat} (h : sOK c) : (sTx c).length < 2 ^ 31 ∧ ∀ j, j < (sTx c).length → (sTx c).getD j 0 < 256 := by
  obtain ⟨h1, h2⟩ := h
  rcases (show c = 1 ∨ c = 2 ∨ c = 3 ∨ c = 4 ∨ c = 5 ∨ c = 6 ∨ c = 7 ∨ c = 8 by omega) with rfl | rfl | rfl | rfl | rfl | rfl | rfl | rfl <;> decide +kernel
section SF
variable {l : Launch} {s0 s : State} {b B : Nat} {D : va_G} {T : Nat → ClassId} {X : Nat → Prop}
abbrev nwC : List Cond := flatC (Jvm.Cond.and given_1 narrow_1)
/-- what the start says of a String constant -/
theorem zS_of (F : FX l s0 b D T B) {own : String} {k n : Nat} {byt : List Int32} (hn : n < 2 ^ 31) (h1 : Cond.exactly (.string own k) "java/lang/String" ∈ nwC) (h2 : Cond.eq (.field (.string own k) "java/lang/String" "coder" "B") (.int 0) ∈ nwC) (h3 : Cond.arrayOf (.field (.string own k) "java/lang/String" "value" "[B") .byte ∈ nwC) (h4 : Cond.eq (.length (.field (.string own k) "java/lang/String" "value" "[B")) (.int (Int32.ofNat n)) ∈ nwC) (p : Nat) (h5 : ∀ j, j < n → nwC[p + j]? = some (Cond.eq (.elem (.field (.string own k) "java/lang/String" "value" "[B") (.int (Int32.ofNat j))) (.int (byt.getD j 0)))) :
    ∃ a v, (Term.string own k).eval #[.ref b] s0 none [] s0 = some (.ref a) ∧ va_O "java/lang/String" a (fun q => s0.heap.size ≤ q) s0 s0.heap ∧ va_OF "java/lang/String" "coder" "B" (.int 0) a (fun q => s0.heap.size ≤ q) s0 s0.heap ∧ va_OF "java/lang/String" "value" "[B" (.ref v) a (fun q => s0.heap.size ≤ q) s0 s0.heap ∧ va_T .byte v n (fun j => .int (byt.getD j 0)) (fun q => s0.heap.size ≤ q) s0 s0.heap := by
  have i0 : ∀ i : Nat, i < 1 → i = 0 := fun i h => by omega
  obtain ⟨aK, aV, hV, he⟩ := vk_Sof (args := #[.ref b]) (s := s0) (N := 1) (tm := fun _ => .string own k) (len := [n]) (byt := [byt]) (A := fun q => s0.heap.size ≤ q) (fun i hi => by rw [i0 i hi]; exact hn) (fun i _ => FX_narrow F h1) (fun i _ => FX_narrow F h2) (fun i _ => FX_narrow F h3) (fun i hi => by rw [i0 i hi]; exact FX_narrow F h4) (fun i hi j hj => by rw [i0 i hi] at hj ⊢; exact FX_narrow F (List.mem_of_getElem? (h5 j hj))) (fun i j hi hj hn => absurd ((i0 i hi).trans (i0 j hj).symm) hn) (fun a ha => Nat.not_le.mpr ha)
  obtain ⟨q1, q2, q3, q4⟩ := hV.1 0 (by decide)
  exact ⟨aK 0, aV 0, he 0 (by decide), q1, q2, q3, q4⟩
theorem zS_c0 (F : FX l s0 b D T B) {c : Nat} (key : ∃ a v, (Term.string (sKey c).1 (sKey c).2).eval #[.ref b] s0 none [] s0 = some (.ref a) ∧ va_O "java/lang/String" a (fun q => s0.heap.size ≤ q) s0 s0.heap ∧ va_OF "java/lang/String" "coder" "B" (.int 0) a (fun q => s0.heap.size ≤ q) s0 s0.heap ∧ va_OF "java/lang/String" "value" "[B" (.ref v) a (fun q => s0.heap.size ≤ q) s0 s0.heap ∧ va_T .byte v (sTx c).length (fun j => .int (((sTx c).map sb_b).getD j 0)) (fun q => s0.heap.size ≤ q) s0 s0.heap) : ∃ v, va_O "java/lang/String" (gsa s0 c) (fun q => s0.heap.size ≤ q) s0 s0.heap ∧ va_OF "java/lang/String" "coder" "B" (.int 0) (gsa s0 c) (fun q => s0.heap.size ≤ q) s0 s0.heap ∧ va_OF "java/lang/String" "value" "[B" (.ref v) (gsa s0 c) (fun q => s0.heap.size ≤ q) s0 s0.heap ∧ va_T .byte v (sTx c).length (fun j => .int (sb_b ((sTx c).getD j 0))) (fun q => s0.heap.size ≤ q) s0 s0.heap := by
  obtain ⟨a, v, e, q1, q2, q3, q4⟩ := key
  have e2 : (Term.string (sKey c).1 (sKey c).2).eval #[] s0 none [] s0 = some (.ref a) := e
  have ea : gsa s0 c = a := by unfold gsa; rw [e2]
  rw [ea]
  refine ⟨v, q1, q2, q3, ?_⟩
  obtain ⟨cell, h1, h2, h3, h4, h5, h6, h7⟩ := q4
  refine ⟨cell, h1, h2, h3, h4, h5, fun j hj => ?_, h7⟩
  rw [h6 j hj]
  simp only [List.getD_eq_getElem?_getD, List.getElem?_map, List.getElem?_eq_getElem hj, Option.map_some, Option.getD_some]

theorem zS_1 (F : FX l s0 b D T B) : ∃ a v, (Term.string (sKey 1).1 (sKey 1).2).eval #[.ref b] s0 none [] s0 = some (.ref a) ∧ va_O "java/lang/String" a (fun q => s0.heap.size ≤ q) s0 s0.heap ∧ va_OF "java/lang/String" "coder" "B" (.int 0) a (fun q => s0.heap.size ≤ q) s0 s0.heap ∧ va_OF "java/lang/String" "value" "[B" (.ref v) a (fun q => s0.heap.size ≤ q) s0 s0.heap ∧ va_T .byte v (sTx 1).length (fun j => .int (((sTx 1).map sb_b).getD j 0)) (fun q => s0.heap.size ≤ q) s0 s0.heap :=
  zS_of F (own := "AvalancheGallery$Form") (k := 52) (n := (sTx 1).length) (byt := (sTx 1).map sb_b) (by decide +kernel) (List.mem_of_getElem? (i := 1109) (by decide +kernel)) (List.mem_of_getElem? (i := 1110) (by decide +kernel)) (List.mem_of_getElem? (i := 1111) (by decide +kernel)) (List.mem_of_getElem? (i := 1112) (by decide +kernel)) 1113 (by decide +kernel)
theorem zS_2 (F : FX l s0 b D T B) : ∃ a v, (Term.string (sKey 2).1 (sKey 2).2).eval #[.ref b] s0 none [] s0 = some (.ref a) ∧ va_O "java/lang/String" a (fun q => s0.heap.size ≤ q) s0 s0.heap ∧ va_OF "java/lang/String" "coder" "B" (.int 0) a (fun q => s0.heap.size ≤ q) s0 s0.heap ∧ va_OF "java/lang/String" "value" "[B" (.ref v) a (fun q => s0.heap.size ≤ q) s0 s0.heap ∧ va_T .byte v (sTx 2).length (fun j => .int (((sTx 2).map sb_b).getD j 0)) (fun q => s0.heap.size ≤ q) s0 s0.heap :=
  zS_of F (own := "AvalancheGallery$Form") (k := 58) (n := (sTx 2).length) (byt := (sTx 2).map sb_b) (by decide +kernel) (List.mem_of_getElem? (i := 1119) (by decide +kernel)) (List.mem_of_getElem? (i := 1120) (by decide +kernel)) (List.mem_of_getElem? (i := 1121) (by decide +kernel)) (List.mem_of_getElem? (i := 1122) (by decide +kernel)) 1123 (by decide +kernel)
theorem zS_3 (F : FX l s0 b D T B) : ∃ a v, (Term.string (sKey 3).1 (sKey 3).2).eval #[.ref b] s0 none [] s0 = some (.ref a) ∧ va_O "java/lang/String" a (fun q => s0.heap.size ≤ q) s0 s0.heap ∧ va_OF "java/lang/String" "coder" "B" (.int 0) a (fun q => s0.heap.size ≤ q) s0 s0.heap ∧ va_OF "java/lang/String" "value" "[B" (.ref v) a (fun q => s0.heap.size ≤ q) s0 s0.heap ∧ va_T .byte v (sTx 3).length (fun j => .int (((sTx 3).map sb_b).getD j 0)) (fun q => s0.heap.size ≤ q) s0 s0.heap :=
  zS_of F (own := "AvalancheGallery$Form") (k := 61) (n := (sTx 3).length) (byt := (sTx 3).map sb_b) (by decide +kernel) (List.mem_of_getElem? (i := 1134) (by decide +kernel)) (List.mem_of_getElem? (i := 1135) (by decide +kernel)) (List.mem_of_getElem? (i := 1136) (by decide +kernel)) (List.mem_of_getElem? (i := 1137) (by decide +kernel)) 1138 (by decide +kernel)
theorem zS_4 (F : FX l s0 b D T B) : ∃ a v, (Term.string (sKey 4).1 (sKey 4).2).eval #[.ref b] s0 none [] s0 = some (.ref a) ∧ va_O "java/lang/String" a (fun q => s0.heap.size ≤ q) s0 s0.heap ∧ va_OF "java/lang/String" "coder" "B" (.int 0) a (fun q => s0.heap.size ≤ q) s0 s0.heap ∧ va_OF "java/lang/String" "value" "[B" (.ref v) a (fun q => s0.heap.size ≤ q) s0 s0.heap ∧ va_T .byte v (sTx 4).length (fun j => .int (((sTx 4).map sb_b).getD j 0)) (fun q => s0.heap.size ≤ q) s0 s0.heap :=
  zS_of F (own := "AvalancheGallery$Form") (k := 64) (n := (sTx 4).length) (byt := (sTx 4).map sb_b) (by decide +kernel) (List.mem_of_getElem? (i := 1146) (by decide +kernel)) (List.mem_of_getElem? (i := 1147) (by decide +kernel)) (List.mem_of_getElem? (i := 1148) (by decide +kernel)) (List.mem_of_getElem? (i := 1149) (by decide +kernel)) 1150 (by decide +kernel)
theorem zS_5 (F : FX l s0 b D T B) : ∃ a v, (Term.string (sKey 5).1 (sKey 5).2).eval #[.ref b] s0 none [] s0 = some (.ref a) ∧ va_O "java/lang/String" a (fun q => s0.heap.size ≤ q) s0 s0.heap ∧ va_OF "java/lang/String" "coder" "B" (.int 0) a (fun q => s0.heap.size ≤ q) s0 s0.heap ∧ va_OF "java/lang/String" "value" "[B" (.ref v) a (fun q => s0.heap.size ≤ q) s0 s0.heap ∧ va_T .byte v (sTx 5).length (fun j => .int (((sTx 5).map sb_b).getD j 0)) (fun q => s0.heap.size ≤ q) s0 s0.heap :=
  zS_of F (own := "AvalancheGallery$Form") (k := 67) (n := (sTx 5).length) (byt := (sTx 5).map sb_b) (by decide +kernel) (List.mem_of_getElem? (i := 1162) (by decide +kernel)) (List.mem_of_getElem? (i := 1163) (by decide +kernel)) (List.mem_of_getElem? (i := 1164) (by decide +kernel)) (List.mem_of_getElem? (i := 1165) (by decide +kernel)) 1166 (by decide +kernel)
theorem zS_6 (F : FX l s0 b D T B) : ∃ a v, (Term.string (sKey 6).1 (sKey 6).2).eval #[.ref b] s0 none [] s0 = some (.ref a) ∧ va_O "java/lang/String" a (fun q => s0.heap.size ≤ q) s0 s0.heap ∧ va_OF "java/lang/String" "coder" "B" (.int 0) a (fun q => s0.heap.size ≤ q) s0 s0.heap ∧ va_OF "java/lang/String" "value" "[B" (.ref v) a (fun q => s0.heap.size ≤ q) s0 s0.heap ∧ va_T .byte v (sTx 6).length (fun j => .int (((sTx 6).map sb_b).getD j 0)) (fun q => s0.heap.size ≤ q) s0 s0.heap :=
  zS_of F (own := "AvalancheGallery$Form") (k := 70) (n := (sTx 6).length) (byt := (sTx 6).map sb_b) (by decide +kernel) (List.mem_of_getElem? (i := 1174) (by decide +kernel)) (List.mem_of_getElem? (i := 1175) (by decide +kernel)) (List.mem_of_getElem? (i := 1176) (by decide +kernel)) (List.mem_of_getElem? (i := 1177) (by decide +kernel)) 1178 (by decide +kernel)
theorem zS_7 (F : FX l s0 b D T B) : ∃ a v, (Term.string (sKey 7).1 (sKey 7).2).eval #[.ref b] s0 none [] s0 = some (.ref a) ∧ va_O "java/lang/String" a (fun q => s0.heap.size ≤ q) s0 s0.heap ∧ va_OF "java/lang/String" "coder" "B" (.int 0) a (fun q => s0.heap.size ≤ q) s0 s0.heap ∧ va_OF "java/lang/String" "value" "[B" (.ref v) a (fun q => s0.heap.size ≤ q) s0 s0.heap ∧ va_T .byte v (sTx 7).length (fun j => .int (((sTx 7).map sb_b).getD j 0)) (fun q => s0.heap.size ≤ q) s0 s0.heap :=
  zS_of F (own := "AvalancheGallery$Form") (k := 73) (n := (sTx 7).length) (byt := (sTx 7).map sb_b) (by decide +kernel) (List.mem_of_getElem? (i := 1189) (by decide +kernel)) (List.mem_of_getElem? (i := 1190) (by decide +kernel)) (List.mem_of_getElem? (i := 1191) (by decide +kernel)) (List.mem_of_getElem? (i := 1192) (by decide +kernel)) 1193 (by decide +kernel)
theorem zS_8 (F : FX l s0 b D T B) : ∃ a v, (Term.string (sKey 8).1 (sKey 8).2).eval #[.ref b] s0 none [] s0 = some (.ref a) ∧ va_O "java/lang/String" a (fun q => s0.heap.size ≤ q) s0 s0.heap ∧ va_OF "java/lang/String" "coder" "B" (.int 0) a (fun q => s0.heap.size ≤ q) s0 s0.heap ∧ va_OF "java/lang/String" "value" "[B" (.ref v) a (fun q => s0.heap.size ≤ q) s0 s0.heap ∧ va_T .byte v (sTx 8).length (fun j => .int (((sTx 8).map sb_b).getD j 0)) (fun q => s0.heap.size ≤ q) s0 s0.heap :=
  zS_of F (own := "AvalancheGallery$Form") (k := 76) (n := (sTx 8).length) (byt := (sTx 8).map sb_b) (by decide +kernel) (List.mem_of_getElem? (i := 1199) (by decide +kernel)) (List.mem_of_getElem? (i := 1200) (by decide +kernel)) (List.mem_of_getElem? (i := 1201) (by decide +kernel)) (List.mem_of_getElem? (i := 1202) (by decide +kernel)) 1203 (by decide +kernel)
theorem zS_c (F : FX l s0 b D T B) {c : Nat} (hc : sOK c) : ∃ v, va_O "java/lang/String" (gsa s0 c) (fun q => s0.heap.size ≤ q) s0 s0.heap ∧ va_OF "java/lang/String" "coder" "B" (.int 0) (gsa s0 c) (fun q => s0.heap.size ≤ q) s0 s0.heap ∧ va_OF "java/lang/String" "value" "[B" (.ref v) (gsa s0 c) (fun q => s0.heap.size ≤ q) s0 s0.heap ∧ va_T .byte v (sTx c).length (fun j => .int (sb_b ((sTx c).getD j 0))) (fun q => s0.heap.size ≤ q) s0 s0.heap := by
  refine zS_c0 F ?_
  obtain ⟨h1, h2⟩ := hc
  rcases (show c = 1 ∨ c = 2 ∨ c = 3 ∨ c = 4 ∨ c = 5 ∨ c = 6 ∨ c = 7 ∨ c = 8 by omega) with rfl | rfl | rfl | rfl | rfl | rfl | rfl | rfl
  · exact zS_1 F
  · exact zS_2 F
  · exact zS_3 F
  · exact zS_4 F
  · exact zS_5 F
  · exact zS_6 F
  · exact zS_7 F
  · exact zS_8 F
/-- ... and it stands behind every step -/
theorem zSV (F : FX l s0 b D T B) (hk : KC s0 X s) {c : Nat} (hc : sOK c) {H : Heap} {locs : List Loc} (hS : va_S (gA B X) s.heap H locs) : SV (gsa s0 c) (sTx c).length (fun j => (sTx c).getD j 0) s H := by
  obtain ⟨v, h1, h2, h3, h4⟩ := zS_c F hc
  have k0 : ∀ a : Nat, a < s0.heap.size → ¬ s0.heap.size ≤ a → s.heap[a]? = s0.heap[a]? := fun a ha _ => hk.2.2.1 a ha
  have kn : ∀ q, NF q → gA B X q := fun q z => z.elim
  exact ⟨(sTx_ok hc).1, (sTx_ok hc).2, v, (((((va_O.moved hk.1.alike h1).kept k0).narrow (gA_old F.2.2.2.2)).kept hS.2.1).narrow kn), (((((va_OF.moved hk.1.alike h2).kept k0).narrow (gA_old F.2.2.2.2)).kept hS.2.1).narrow kn), (((((va_OF.moved hk.1.alike h3).kept k0).narrow (gA_old F.2.2.2.2)).kept hS.2.1).narrow kn), (((((va_T.moved hk.1.alike h4).kept k0).narrow (gA_old F.2.2.2.2)).kept hS.2.1).narrow kn)⟩
/-- a Form's fields -/
theorem zM_of (F : FX l s0 b D T B) {k z : Nat} {own : String} {i : Nat} (h1 : Cond.exactly (.static RX3 (nmM.getD k "") "LAvalancheGallery$Form;") RX3 ∈ nwC) (h2 : Cond.eq (.field (.static RX3 (nmM.getD k "") "LAvalancheGallery$Form;") "java/lang/Enum" "ordinal" "I") (.int (nI z)) ∈ nwC) (h3 : Cond.eq (.field (.static RX3 (nmM.getD k "") "LAvalancheGallery$Form;") RX3 "shape" "Ljava/lang/String;") (.string own i) ∈ nwC) {a : Nat} (h4 : (Term.string own i).eval #[.ref b] s0 none [] s0 = some (.ref a)) :
    va_O RX3 (gfm s0 (k + 1)) (fun q => s0.heap.size ≤ q) s0 s0.heap ∧ va_OF "java/lang/Enum" "ordinal" "I" (.int (nI z)) (gfm s0 (k + 1)) (fun q => s0.heap.size ≤ q) s0 s0.heap ∧ va_OF RX3 "shape" "Ljava/lang/String;" (.ref a) (gfm s0 (k + 1)) (fun q => s0.heap.size ≤ q) s0 s0.heap := by
  have e := eAd_ev (FX_narrow F h1)
  have eg : gfm s0 (k + 1) = eAd RX3 "LAvalancheGallery$Form;" nmM s0 k := rfl
  obtain ⟨a9, c9, cell, k9, q1, q2, q3, q4, q5, q6, -⟩ := Cond.exactly_spec (FX_narrow F h1)
  have ea : a9 = gfm s0 (k + 1) := by
    have := q1.symm.trans e
    cases this
    rfl
  subst ea
  exact ⟨⟨cell, q3, q5, by rw [q6]; exact q2, Nat.not_le.mpr (Array.getElem?_eq_some_iff.mp q3).1⟩, vk_OFof q1 (va_eqt (FX_narrow F h2)) (fun a ha => Nat.not_le.mpr ha), vk_OFof q1 (va_eqv (FX_narrow F h3) h4) (fun a ha => Nat.not_le.mpr ha)⟩
theorem gsa_ev (F : FX l s0 b D T B) {c : Nat} (h : Cond.exactly (.string (sKey c).1 (sKey c).2) "java/lang/String" ∈ nwC) : (Term.string (sKey c).1 (sKey c).2).eval #[.ref b] s0 none [] s0 = some (.ref (gsa s0 c)) := by
  obtain ⟨a, c9, cell, k9, q1, -⟩ := Cond.exactly_spec (FX_narrow F h)
  have e2 : (Term.string (sKey c).1 (sKey c).2).eval #[] s0 none [] s0 = some (.ref a) := q1
  have ea : gsa s0 c = a := by unfold gsa; rw [e2]
  rw [ea]; exact q1
theorem zM_c (F : FX l s0 b D T B) {c : Nat} (hc : fOK c) : va_O RX3 (gfm s0 c) (fun q => s0.heap.size ≤ q) s0 s0.heap ∧ va_OF "java/lang/Enum" "ordinal" "I" (.int (nI (c - 1))) (gfm s0 c) (fun q => s0.heap.size ≤ q) s0 s0.heap ∧ va_OF RX3 "shape" "Ljava/lang/String;" (.ref (gsa s0 c)) (gfm s0 c) (fun q => s0.heap.size ≤ q) s0 s0.heap := by
  obtain ⟨h1, h2⟩ := hc
  rcases (show c = 1 ∨ c = 2 ∨ c = 3 ∨ c = 4 ∨ c = 5 ∨ c = 6 ∨ c = 7 ∨ c = 8 by omega) with rfl | rfl | rfl | rfl | rfl | rfl | rfl | rfl
  · exact zM_of F (k := 0) (z := 0) (own := "AvalancheGallery$Form") (i := 52) (List.mem_of_getElem? (i := 268) (by decide +kernel)) (List.mem_of_getElem? (i := 269) (by decide +kernel)) (List.mem_of_getElem? (i := 270) (by decide +kernel)) (gsa_ev F (c := 1) (List.mem_of_getElem? (i := 1109) (by decide +kernel)))
  · exact zM_of F (k := 1) (z := 1) (own := "AvalancheGallery$Form") (i := 58) (List.mem_of_getElem? (i := 277) (by decide +kernel)) (List.mem_of_getElem? (i := 278) (by decide +kernel)) (List.mem_of_getElem? (i := 279) (by decide +kernel)) (gsa_ev F (c := 2) (List.mem_of_getElem? (i := 1119) (by decide +kernel)))
  · exact zM_of F (k := 2) (z := 2) (own := "AvalancheGallery$Form") (i := 61) (List.mem_of_getElem? (i := 287) (by decide +kernel)) (List.mem_of_getElem? (i := 288) (by decide +kernel)) (List.mem_of_getElem? (i := 289) (by decide +kernel)) (gsa_ev F (c := 3) (List.mem_of_getElem? (i := 1134) (by decide +kernel)))
  · exact zM_of F (k := 3) (z := 3) (own := "AvalancheGallery$Form") (i := 64) (List.mem_of_getElem? (i := 298) (by decide +kernel)) (List.mem_of_getElem? (i := 299) (by decide +kernel)) (List.mem_of_getElem? (i := 300) (by decide +kernel)) (gsa_ev F (c := 4) (List.mem_of_getElem? (i := 1146) (by decide +kernel)))
  · exact zM_of F (k := 4) (z := 4) (own := "AvalancheGallery$Form") (i := 67) (List.mem_of_getElem? (i := 310) (by decide +kernel)) (List.mem_of_getElem? (i := 311) (by decide +kernel)) (List.mem_of_getElem? (i := 312) (by decide +kernel)) (gsa_ev F (c := 5) (List.mem_of_getElem? (i := 1162) (by decide +kernel)))
  · exact zM_of F (k := 5) (z := 5) (own := "AvalancheGallery$Form") (i := 70) (List.mem_of_getElem? (i := 323) (by decide +kernel)) (List.mem_of_getElem? (i := 324) (by decide +kernel)) (List.mem_of_getElem? (i := 325) (by decide +kernel)) (gsa_ev F (c := 6) (List.mem_of_getElem? (i := 1174) (by decide +kernel)))
  · exact zM_of F (k := 6) (z := 6) (own := "AvalancheGallery$Form") (i := 73) (List.mem_of_getElem? (i := 337) (by decide +kernel)) (List.mem_of_getElem? (i := 338) (by decide +kernel)) (List.mem_of_getElem? (i := 339) (by decide +kernel)) (gsa_ev F (c := 7) (List.mem_of_getElem? (i := 1189) (by decide +kernel)))
  · exact zM_of F (k := 7) (z := 7) (own := "AvalancheGallery$Form") (i := 76) (List.mem_of_getElem? (i := 352) (by decide +kernel)) (List.mem_of_getElem? (i := 353) (by decide +kernel)) (List.mem_of_getElem? (i := 354) (by decide +kernel)) (gsa_ev F (c := 8) (List.mem_of_getElem? (i := 1199) (by decide +kernel)))
theorem kM (F : FX l s0 b D T B) (hk : KC s0 X s) {c : Nat} (hc : fOK c) : va_O RX3 (gfm s0 c) (gA B X) s s.heap ∧ va_OF "java/lang/Enum" "ordinal" "I" (.int (nI (c - 1))) (gfm s0 c) (gA B X) s s.heap ∧ va_OF RX3 "shape" "Ljava/lang/String;" (.ref (gsa s0 c)) (gfm s0 c) (gA B X) s s.heap := by
  obtain ⟨h1, h2, h3⟩ := zM_c F hc
  have k0 : ∀ a : Nat, a < s0.heap.size → ¬ s0.heap.size ≤ a → s.heap[a]? = s0.heap[a]? := fun a ha _ => hk.2.2.1 a ha
  exact ⟨((va_O.moved hk.1.alike h1).kept k0).narrow (gA_old F.2.2.2.2), ((va_OF.moved hk.1.alike h2).kept k0).narrow (gA_old F.2.2.2.2), ((va_OF.moved hk.1.alike h3).kept k0).narrow (gA_old F.2.2.2.2)⟩
/-- FORMS, and the table of the switches -/
theorem zFo (F : FX l s0 b D T B) (hk : KC s0 X s) : ∃ t, va_Z RX10 "FORMS" "[LAvalancheGallery$Form;" (.ref t) (gA B X) s s.heap ∧ va_T (.object RX3) t 8 (fun j => .ref (gfm s0 (j + 1))) (gA B X) s s.heap := by
  have evi : ∀ k, k < 8 → nwC[[268, 277, 287, 298, 310, 323, 337, 352].getD k 0]? = some (Cond.exactly (.static RX3 (nmM.getD k "") "LAvalancheGallery$Form;") RX3) := by decide +kernel
  have ev : ∀ k, k < 8 → (Term.static RX3 (nmM.getD k "") "LAvalancheGallery$Form;").eval #[.ref b] s0 none [] s0 = some (.ref (eAd RX3 "LAvalancheGallery$Form;" nmM s0 k)) := fun k hk => eAd_ev (E := RX3) (FX_narrow F (List.mem_of_getElem? (i := [268, 277, 287, 298, 310, 323, 337, 352].getD k 0) (evi k hk)))
  have tab : ∀ j, j < 8 → nwC[249 + j]? = some (Cond.eq (.elem (.static RX10 "FORMS" "[LAvalancheGallery$Form;") (.int (Int32.ofNat j))) (.static RX3 (nmM.getD j "") "LAvalancheGallery$Form;")) := by decide +kernel
  obtain ⟨t, ht, hT⟩ := va_Tof (args := #[.ref b]) (s := s0) (tm := .static RX10 "FORMS" "[LAvalancheGallery$Form;") (ty := .object RX3) (N := 8) (f := fun j => .ref (gfm s0 (j + 1))) (A := fun q => s0.heap.size ≤ q) (by decide) (FX_narrow F (List.mem_of_getElem? (i := 246) (by decide +kernel))) (va_eqt (FX_narrow F (List.mem_of_getElem? (i := 247) (by decide +kernel)))) (fun j hj => va_eqv (FX_narrow F (List.mem_of_getElem? (tab j hj))) (ev j hj)) (fun a ha => Nat.not_le.mpr ha)
  have k0 : ∀ a : Nat, a < s0.heap.size → ¬ s0.heap.size ≤ a → s.heap[a]? = s0.heap[a]? := fun a ha _ => hk.2.2.1 a ha
  exact ⟨t, KC_Z F hk (va_Zof (args := #[.ref b]) (F.2.1 _ (List.mem_append_right _ (List.mem_of_getElem? (i := 1644) (by decide +kernel)))) (F.2.1 _ (List.mem_append_right _ (List.mem_of_getElem? (i := 1) (by decide +kernel)))) ht (fun a ha => Nat.not_le.mpr ha)), ((va_T.moved hk.1.alike hT).kept k0).narrow (gA_old F.2.2.2.2)⟩
theorem zSw (F : FX l s0 b D T B) (hk : KC s0 X s) : ∃ t, va_Z RX0 "$SwitchMap$AvalancheGallery$Form" "[I" (.ref t) (gA B X) s s.heap ∧ va_T .int t 8 (fun j => .int (if j = 7 then 0 else nI (j + 1))) (gA B X) s s.heap := by
  have tab : ∀ j, j < 8 → nwC[260 + j]? = some (Cond.eq (.elem (.static RX0 "$SwitchMap$AvalancheGallery$Form" "[I") (.int (Int32.ofNat j))) (.int (if j = 7 then 0 else nI (j + 1)))) := by decide +kernel
  obtain ⟨t, ht, hT⟩ := va_Tof (args := #[.ref b]) (s := s0) (tm := .static RX0 "$SwitchMap$AvalancheGallery$Form" "[I") (ty := .int) (N := 8) (f := fun j => .int (if j = 7 then 0 else nI (j + 1))) (A := fun q => s0.heap.size ≤ q) (by decide) (FX_narrow F (List.mem_of_getElem? (i := 258) (by decide +kernel))) (va_eqt (FX_narrow F (List.mem_of_getElem? (i := 259) (by decide +kernel)))) (fun j hj => va_eqt (FX_narrow F (List.mem_of_getElem? (tab j hj)))) (fun a ha => Nat.not_le.mpr ha)
  have k0 : ∀ a : Nat, a < s0.heap.size → ¬ s0.heap.size ≤ a → s.heap[a]? = s0.heap[a]? := fun a ha _ => hk.2.2.1 a ha
  exact ⟨t, KC_Z F hk (va_Zof (args := #[.ref b]) (F.2.1 _ (List.mem_append_right _ (List.mem_of_getElem? (i := 1667) (by decide +kernel)))) (F.2.1 _ (List.mem_append_right _ (List.mem_of_getElem? (i := 34) (by decide +kernel)))) ht (fun a ha => Nat.not_le.mpr ha)), ((va_T.moved hk.1.alike hT).kept k0).narrow (gA_old F.2.2.2.2)⟩
end SF
