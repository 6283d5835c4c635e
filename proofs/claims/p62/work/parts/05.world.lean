/-! The class's world: 560 objects in the order in which its constructor makes them (0: the gallery; 1, 48: now, saved; 95, 96: history, its slots; 97 + 47 i: the states kept; 520: ways; 538: sand; 543: lender; 546: script). Behind it the text builder. -/
abbrev tysG (T : Nat → ClassId) : List (ClassId × FieldType) := [(T 0, .int), (T 1, .boolean), (T 2, .char), (T 3, .array .int), (T 4, .object RX8), (T 5, .object RX1), (T 6, .object RX3), (T 7, .byte), (T 8, .long)]
abbrev rws (f : Nat → Option Nat) : (Nat → Int32) ⊕ (Nat → Int64) ⊕ (Nat → UInt32) ⊕ (Nat → UInt64) ⊕ (Nat → Option Nat) := .inr (.inr (.inr (.inr f)))
abbrev eInt (T : Nat → ClassId) (n : Nat) (r : Nat → Int32) : va_E := .inl (T 0, n, .inl r)
abbrev eBol (T : Nat → ClassId) (n : Nat) (r : Nat → Int32) : va_E := .inl (T 1, n, .inl r)
abbrev eChr (T : Nat → ClassId) (n : Nat) (r : Nat → Int32) : va_E := .inl (T 2, n, .inl r)
abbrev eRef (T : Nat → ClassId) (t n B o k : Nat) : va_E := .inl (T t, n, rws (fun j => some (B + (o + 1 + k * j))))
abbrev eSt (B o : Nat) (r : Nat → Int32) : va_E := .inr (9, [.int (r 0), .ref (B + (o + 1)), .ref (B + (o + 2)), .ref (B + (o + 9)), .int (r 4), .ref (B + (o + 16)), .int (r 6), .int (r 7)])
abbrev eEx (B o : Nat) (r : Nat → Int32) : va_E := .inr (4, [.int (r 0), .int (r 1), .ref (B + (o + 1)), .int (r 3), .int (r 4), .int (r 5), .int (r 6), .ref (B + (o + 2)), .ref (B + (o + 3)), .ref (B + (o + 4)), .int (r 10), .ref (B + (o + 5))])
abbrev eGa (B : Nat) (r : Nat → Int32) : va_E := .inr (11, [.ref (B + 1), .ref (B + 48), .int (r 2), .ref (B + 95), .ref (B + 520), .ref (B + 538), .ref (B + 543), .ref (B + 546), .ref (B + 560), .int (r 9), .int (r 10), .int (r 11), .int (r 12)])
abbrev eHi (B o : Nat) (r : Nat → Int32) : va_E := .inr (5, [.ref (B + (o + 1)), .int (r 1), .int (r 2)])
abbrev eWy (B o : Nat) (r : Nat → Int32) : va_E := .inr (10, [.ref (B + (o + 1)), .int (r 1), .int (r 2), .ref (B + (o + 2)), .ref (B + (o + 9)), .ref (B + (o + 16)), .ref (B + (o + 17))])
abbrev eSa (B o : Nat) : va_E := .inr (7, [.ref (B + (o + 1)), .ref (B + (o + 2)), .ref (B + (o + 3)), .ref (B + (o + 4))])
abbrev eLe (B o : Nat) : va_E := .inr (6, [.ref (B + (o + 1)), .ref (B + (o + 2))])
abbrev eSc (B o : Nat) (r : Nat → Int32) : va_E := .inr (8, [.ref (B + (o + 1)), .int (r 1), .ref (B + (o + 2)), .ref (B + (o + 3)), .int (r 4), .int (r 5)])
/-- the k-th object of a state that stands at o - k -/
def shSt (T : Nat → ClassId) (B : Nat) (r : Nat → Int32) (o k : Nat) : va_E :=
  if k = 0 then eSt B o r else if k = 1 then eInt T 6 r else if k = 2 then eRef T 3 6 B o 1 else if k < 9 then eInt T 6 r else if k = 9 then eRef T 3 6 B o 1 else if k < 16 then eInt T 6 r else if k = 16 then eRef T 5 5 B o 6 else
  if (k - 17) % 6 = 0 then eEx B o r else if (k - 17) % 6 = 1 then eInt T 16 r else if (k - 17) % 6 < 5 then eInt T 8 r else eInt T 100 r
def shC (fm : Nat → Nat) (T : Nat → ClassId) (B : Nat) (r : Nat → Int32) (o : Nat) : va_E :=
  if o = 0 then eGa B r else if o < 95 then shSt T B r o ((o - 1) % 47) else if o = 95 then eHi B o r else if o = 96 then eRef T 4 9 B o 47 else if o < 520 then shSt T B r o ((o - 97) % 47) else
  if o = 520 then eWy B o r else if o = 521 then eInt T 6 r else if o = 522 then eRef T 3 6 B o 1 else if o < 529 then eInt T 6 r else if o = 529 then eRef T 3 6 B o 1 else if o < 537 then eInt T 6 r else if o = 537 then eBol T 6 r else
  if o = 538 then eSa B o else if o < 541 then eInt T 16 r else if o = 541 then eBol T 16 r else if o = 542 then eInt T 16 r else
  if o = 543 then eLe B o else if o = 544 then eInt T 8 r else if o = 545 then eInt T 9 r else
  if o = 546 then eSc B o r else if o = 547 then eChr T 60 r else if o = 548 then .inl (T 6, 10, rws (fun j => if r j = 0 then none else some (fm (r j).toNatClampNeg))) else if o = 549 then eRef T 3 10 B o 1 else eInt T 4 r
def IA (n o : Nat) : Prop := o < 560 ∧ ∀ fm T B r, shC fm T B r o = eInt T n r
def ZA (n o : Nat) : Prop := o < 560 ∧ ∀ fm T B r, shC fm T B r o = eBol T n r
def CA (n o : Nat) : Prop := o < 560 ∧ ∀ fm T B r, shC fm T B r o = eChr T n r
/-- an array of rows of ints -/
def GA (n k o : Nat) : Prop := o < 560 ∧ (∀ fm T B r, shC fm T B r o = eRef T 3 n B o 1) ∧ ∀ j, j < n → IA k (o + 1 + 1 * j)
def IsEx (o : Nat) : Prop := o < 560 ∧ (∀ fm T B r, shC fm T B r o = eEx B o r) ∧ IA 16 (o + 1) ∧ IA 8 (o + 2) ∧ IA 8 (o + 3) ∧ IA 8 (o + 4) ∧ IA 100 (o + 5)
def XA (o : Nat) : Prop := o < 560 ∧ (∀ fm T B r, shC fm T B r o = eRef T 5 5 B o 6) ∧ ∀ j, j < 5 → IsEx (o + 1 + 6 * j)
def IsSt (o : Nat) : Prop := o < 560 ∧ (∀ fm T B r, shC fm T B r o = eSt B o r) ∧ IA 6 (o + 1) ∧ GA 6 6 (o + 2) ∧ GA 6 6 (o + 9) ∧ XA (o + 16)
def SA (o : Nat) : Prop := o < 560 ∧ (∀ fm T B r, shC fm T B r o = eRef T 4 9 B o 47) ∧ ∀ j, j < 9 → IsSt (o + 1 + 47 * j)
def IsHi (o : Nat) : Prop := o < 560 ∧ (∀ fm T B r, shC fm T B r o = eHi B o r) ∧ SA (o + 1)
def IsWy (o : Nat) : Prop := o < 560 ∧ (∀ fm T B r, shC fm T B r o = eWy B o r) ∧ IA 6 (o + 1) ∧ GA 6 6 (o + 2) ∧ GA 6 6 (o + 9) ∧ IA 6 (o + 16) ∧ ZA 6 (o + 17)
def IsSa (o : Nat) : Prop := o < 560 ∧ (∀ fm T B r, shC fm T B r o = eSa B o) ∧ IA 16 (o + 1) ∧ IA 16 (o + 2) ∧ ZA 16 (o + 3) ∧ IA 16 (o + 4)
def IsLe (o : Nat) : Prop := o < 560 ∧ (∀ fm T B r, shC fm T B r o = eLe B o) ∧ IA 8 (o + 1) ∧ IA 9 (o + 2)
def FA (o : Nat) : Prop := o < 560 ∧ ∀ fm T B r, shC fm T B r o = .inl (T 6, 10, rws (fun j => if r j = 0 then none else some (fm (r j).toNatClampNeg)))
def IsSc (o : Nat) : Prop := o < 560 ∧ (∀ fm T B r, shC fm T B r o = eSc B o r) ∧ CA 60 (o + 1) ∧ FA (o + 2) ∧ GA 10 4 (o + 3)
def IsGa (o : Nat) : Prop := o < 560 ∧ o = 0 ∧ (∀ fm T B r, shC fm T B r o = eGa B r) ∧ IsSt 1 ∧ IsSt 48 ∧ IsHi 95 ∧ IsWy 520 ∧ IsSa 538 ∧ IsLe 543 ∧ IsSc 546
/-- where a state's block begins -/
def blk (q : Nat) : Prop := q = 1 ∨ q = 48 ∨ ∃ i, i < 9 ∧ q = 97 + 47 * i
theorem blk_sh {q k : Nat} (h : blk q) (hk : k < 47) : q + k < 560 ∧ ∀ fm T B r, shC fm T B r (q + k) = shSt T B r (q + k) k := by
  rcases h with rfl | rfl | ⟨i, hi, rfl⟩
  · refine ⟨by omega, fun fm T B r => ?_⟩
    unfold shC
    rw [if_neg (by omega), if_pos (by omega), show (1 + k - 1) % 47 = k by omega]
  · refine ⟨by omega, fun fm T B r => ?_⟩
    unfold shC
    rw [if_neg (by omega), if_pos (by omega), show (48 + k - 1) % 47 = k by omega]
  · refine ⟨by omega, fun fm T B r => ?_⟩
    unfold shC
    rw [if_neg (by omega), if_neg (by omega), if_neg (by omega), if_neg (by omega), if_pos (by omega), show (97 + 47 * i + k - 97) % 47 = k by omega]
theorem blk_I6 {q k : Nat} (h : blk q) (hk : k = 1 ∨ (2 < k ∧ k < 9) ∨ (9 < k ∧ k < 16)) : IA 6 (q + k) := by
  have h1 := blk_sh (k := k) h (by omega)
  refine ⟨h1.1, fun fm T B r => ?_⟩
  rw [h1.2]
  unfold shSt
  rw [if_neg (by omega)]
  by_cases a : k = 1
  · rw [if_pos a]
  · rw [if_neg a, if_neg (by omega)]
    by_cases b : k < 9
    · rw [if_pos b]
    · rw [if_neg b, if_neg (by omega), if_pos (by omega)]
theorem blk_G {q : Nat} (h : blk q) : GA 6 6 (q + 2) := by
  have h1 := blk_sh (k := 2) h (by omega)
  refine ⟨h1.1, fun fm T B r => ?_, fun j hj => ?_⟩
  · rw [h1.2]; rfl
  · have := blk_I6 (k := 3 + j) h (by omega)
    rw [show q + 2 + 1 + 1 * j = q + (3 + j) by omega]; exact this
theorem blk_G9 {q : Nat} (h : blk q) : GA 6 6 (q + 9) := by
  have h1 := blk_sh (k := 9) h (by omega)
  refine ⟨h1.1, fun fm T B r => ?_, fun j hj => ?_⟩
  · rw [h1.2]; rfl
  · have := blk_I6 (k := 10 + j) h (by omega)
    rw [show q + 9 + 1 + 1 * j = q + (10 + j) by omega]; exact this
theorem blk_e {q j n : Nat} (h : blk q) (hj : j < 5) (hn : n < 6) : q + 16 + 1 + 6 * j + n < 560 ∧ ∀ fm T B r, shC fm T B r (q + 16 + 1 + 6 * j + n) = if n = 0 then eEx B (q + 16 + 1 + 6 * j + n) r else if n = 1 then eInt T 16 r else if n < 5 then eInt T 8 r else eInt T 100 r := by
  have h1 := blk_sh (k := 17 + 6 * j + n) h (by omega)
  rw [show q + 16 + 1 + 6 * j + n = q + (17 + 6 * j + n) by omega]
  refine ⟨h1.1, fun fm T B r => ?_⟩
  rw [h1.2]
  unfold shSt
  rw [if_neg (by omega), if_neg (by omega), if_neg (by omega), if_neg (by omega), if_neg (by omega), if_neg (by omega), if_neg (by omega), show (17 + 6 * j + n - 17) % 6 = n by omega]
theorem blk_Ex {q j : Nat} (h : blk q) (hj : j < 5) : IsEx (q + 16 + 1 + 6 * j) :=
  ⟨(blk_e (n := 0) h hj (by omega)).1, fun fm T B r => (blk_e (n := 0) h hj (by omega)).2 fm T B r, ⟨(blk_e (n := 1) h hj (by omega)).1, fun fm T B r => (blk_e (n := 1) h hj (by omega)).2 fm T B r⟩, ⟨(blk_e (n := 2) h hj (by omega)).1, fun fm T B r => (blk_e (n := 2) h hj (by omega)).2 fm T B r⟩, ⟨(blk_e (n := 3) h hj (by omega)).1, fun fm T B r => (blk_e (n := 3) h hj (by omega)).2 fm T B r⟩, ⟨(blk_e (n := 4) h hj (by omega)).1, fun fm T B r => (blk_e (n := 4) h hj (by omega)).2 fm T B r⟩, ⟨(blk_e (n := 5) h hj (by omega)).1, fun fm T B r => (blk_e (n := 5) h hj (by omega)).2 fm T B r⟩⟩
theorem blk_X {q : Nat} (h : blk q) : XA (q + 16) := ⟨(blk_sh (k := 16) h (by omega)).1, fun fm T B r => by rw [(blk_sh (k := 16) h (by omega)).2]; rfl, fun j hj => blk_Ex h hj⟩
theorem blk_St {q : Nat} (h : blk q) : IsSt q := ⟨(blk_sh (k := 0) h (by omega)).1, fun fm T B r => (blk_sh (k := 0) h (by omega)).2 fm T B r, blk_I6 h (by omega), blk_G h, blk_G9 h, blk_X h⟩
theorem is_SA : SA 96 := ⟨by omega, fun fm T B r => rfl, fun j hj => blk_St (Or.inr (Or.inr ⟨j, hj, by omega⟩))⟩
theorem is_Hi : IsHi 95 := ⟨by omega, fun fm T B r => rfl, is_SA⟩
theorem rg_I {n o a m : Nat} (hm : m ≤ 560) (h : ∀ j, a ≤ j → j < m → ∀ fm T B r, shC fm T B r j = eInt T n r) (h1 : a ≤ o) (h2 : o < m) : IA n o := ⟨by omega, h o h1 h2⟩
theorem wy_I : ∀ j, 523 ≤ j → j < 529 → ∀ fm T B r, shC fm T B r j = eInt T 6 r := fun j h1 h2 fm T B r => by
  unfold shC
  rw [if_neg (by omega), if_neg (by omega), if_neg (by omega), if_neg (by omega), if_neg (by omega), if_neg (by omega), if_neg (by omega), if_neg (by omega), if_pos (by omega)]
theorem wy_J : ∀ j, 530 ≤ j → j < 537 → ∀ fm T B r, shC fm T B r j = eInt T 6 r := fun j h1 h2 fm T B r => by
  unfold shC
  rw [if_neg (by omega), if_neg (by omega), if_neg (by omega), if_neg (by omega), if_neg (by omega), if_neg (by omega), if_neg (by omega), if_neg (by omega), if_neg (by omega), if_neg (by omega), if_pos (by omega)]
theorem is_Wy : IsWy 520 := ⟨by omega, fun fm T B r => rfl, ⟨by omega, fun fm T B r => rfl⟩, ⟨by omega, fun fm T B r => rfl, fun j hj => rg_I (by omega) wy_I (by omega) (by omega)⟩, ⟨by omega, fun fm T B r => rfl, fun j hj => rg_I (by omega) wy_J (by omega) (by omega)⟩, ⟨by omega, fun fm T B r => rfl⟩, ⟨by omega, fun fm T B r => rfl⟩⟩
theorem is_Sa : IsSa 538 := ⟨by omega, fun fm T B r => rfl, ⟨by omega, fun fm T B r => rfl⟩, ⟨by omega, fun fm T B r => rfl⟩, ⟨by omega, fun fm T B r => rfl⟩, ⟨by omega, fun fm T B r => rfl⟩⟩
theorem is_Le : IsLe 543 := ⟨by omega, fun fm T B r => rfl, ⟨by omega, fun fm T B r => rfl⟩, ⟨by omega, fun fm T B r => rfl⟩⟩
theorem sc_I : ∀ j, 550 ≤ j → j < 560 → ∀ fm T B r, shC fm T B r j = eInt T 4 r := fun j h1 h2 fm T B r => by
  unfold shC
  repeat rw [if_neg (by omega)]
theorem is_Sc : IsSc 546 := ⟨by omega, fun fm T B r => rfl, ⟨by omega, fun fm T B r => rfl⟩, ⟨by omega, fun fm T B r => rfl⟩, ⟨by omega, fun fm T B r => rfl, fun j hj => rg_I (by omega) sc_I (by omega) (by omega)⟩⟩
theorem is_Ga : IsGa 0 := ⟨by omega, rfl, fun fm T B r => rfl, blk_St (Or.inl rfl), blk_St (Or.inr (Or.inl rfl)), is_Hi, is_Wy, is_Sa, is_Le, is_Sc⟩
/-- the facts of the start, and of a state behind it -/
def FX (l : Launch) (s0 : State) (b : Nat) (D : va_G) (T : Nat → ClassId) (B : Nat) : Prop := l.flags = flags0 ∧ (∀ w ∈ lw_tbl, w.before #[.ref b] s0 = true) ∧ (Jvm.Cond.and given_1 narrow_1).before #[.ref b] s0 = true ∧ va_K D vwCl (tysG T) s0 ∧ s0.heap.size ≤ B
def gA (B : Nat) (X : Nat → Prop) : Nat → Prop := fun q => B ≤ q ∧ ¬ X q
def KC (s0 : State) (X : Nat → Prop) (U : State) : Prop := s0.WarmedH U.vm ∧ s0.heap.size ≤ U.heap.size ∧ (∀ q, q < s0.heap.size → U.heap[q]? = s0.heap[q]?) ∧ ∀ q, X q → q < U.heap.size
theorem KC_blind {s0 : State} {X : Nat → Prop} : gBlind (KC s0 X) := fun U g mk a h => h
theorem KC_at {s0 s : State} {X : Nat → Prop} {B : Nat} {H : Heap} {locs : List Loc} (hk : KC s0 X s) (hS : va_S (gA B X) s.heap H locs) (hB : s0.heap.size ≤ B) : ∀ U : State, U.heap = H → s.WarmedH U.vm → KC s0 X U := by
  intro U hU hW
  refine ⟨State.WarmedH.trans hk.1 hW, by rw [hU]; exact Nat.le_trans hk.2.1 hS.1, fun q hq => ?_, fun q hq => by rw [hU]; exact Nat.lt_of_lt_of_le (hk.2.2.2 q hq) hS.1⟩
  rw [hU, hS.2.1 q (Nat.lt_of_lt_of_le hq hk.2.1) (fun z => absurd (Nat.lt_of_lt_of_le hq hB) (Nat.not_lt.mpr z.1))]
  exact hk.2.2.1 q hq
/-- the addresses of the enums' constants at the start -/
def eAd (C d : String) (nm : List String) (s0 : State) (k : Nat) : Nat := match (Term.static C (nm.getD k "") d).eval #[] s0 none [] s0 with
  | some (.ref a) => a
  | _ => 0
abbrev nmF : List String := ["NOTHING", "INDEX", "ARGUMENT", "STATE", "MISSING", "REFUSED"]
abbrev nmM : List String := ["ROOM", "LEG", "PILE", "DROP", "SEND", "ASK", "TAKE", "DAY"]
/-- Fault number k; past the sixth any other number -/
def gfa (s0 : State) (k : Nat) : Nat := if k < 6 then eAd RX2 "LAvalancheGallery$Fault;" nmF s0 k else (List.range 6).foldl (fun a j => a + eAd RX2 "LAvalancheGallery$Fault;" nmF s0 j) k + 1
/-- Form number k - 1; 0 stands for null in the row of forms -/
def gfm (s0 : State) (k : Nat) : Nat := eAd RX3 "LAvalancheGallery$Form;" nmM s0 (k - 1)
abbrev gWC (s0 : State) (D : va_G) (T : Nat → ClassId) (B : Nat) (μ : Mem) : Heap → Prop := gW D vwCl (shC (gfm s0) T B) 560 B μ
/-- a body's start, for a plain method and for one that may throw -/
theorem gMet_of {l : Launch} {y : MethodName} {b : ByteArray} {ml : Nat} {ret : Option FieldType} {rm : Room} {vals : List Value} {Wp Wq : Heap → Prop} {Ks : State → Prop} {v : Option Value} {A : Nat → Prop} {mc ms : Nat} (own : String) (hy : plainName y.cls = true) (ho : y.cls = own) (hL : (lg_sl vals).length ≤ ml)
    (body : ∀ (p : Program) (e : Env) (s : State) (m : MethodId) (below : List Frame) (meth : Method) (c : Code) (ls : Array Slot), p.tables.exec = Jvm.exec → c.code = b → meth.sig.returnType = ret → meth.locks = false → c.maxLocals = ml → s.vm.findClass own = some m.cls → (∀ w ∈ WG, w.before vals.toArray s = true) → meth.name = y.name → Wp s.heap → Ks s → lv_has ls ml (lv_args 0 vals) → va_S A s.heap s.heap [] →
      W p l e rm s m vals.toArray below meth c s.heap [] 0 0 (MQ below (gQc v Wq A) vals.toArray s mc ms A) (F0 m 0 ls [])) : gMet l y b ml ret rm vals Wp Ks v Wq A mc ms := by
  refine Met.ofW (cc := b) (maxL := ml) (ret := ret) hy rfl ?_
  intro p e s m args below meth c s₁ Bd hml hv
  obtain ⟨rfl, hW, hk⟩ := hv
  have hts0 := atoms_spec (ws := .code y b ml ret :: WG) Bd.pre
  have hown : s.vm.findClass own = some m.cls := ho ▸ findClass_of_methodNamed Bd.named
  have hl := lv_entry vals (n := ml) hL
  rw [lg_entry_eq]
  generalize (lg_sl vals ++ List.replicate (ml - (lg_sl vals).length) Slot.unset).toArray = ls at hl ⊢
  exact body p e s m below meth c ls Bd.exec Bd.bytes Bd.returns Bd.notSynchronized hml hown (fun w h => hts0 w (List.mem_cons_of_mem _ h)) (name_of_methodNamed Bd.named Bd.method).1 hW hk hl va_S.rf
theorem gXMet_of {l : Launch} {y : MethodName} {b : ByteArray} {ml : Nat} {ret : Option FieldType} {rm : Room} {vals : List Value} {Wp Wq : Heap → Prop} {Ks : State → Prop} {out : Nat ⊕ Option Value} {A : Nat → Prop} {mc ms : Nat} (own : String) (hy : plainName y.cls = true) (ho : y.cls = own) (hL : (lg_sl vals).length ≤ ml)
    (body : ∀ (p : Program) (e : Env) (s : State) (m : MethodId) (below : List Frame) (meth : Method) (c : Code) (ls : Array Slot), p.tables.exec = Jvm.exec → c.code = b → meth.sig.returnType = ret → meth.locks = false → c.maxLocals = ml → s.vm.findClass own = some m.cls → (∀ w ∈ WG, w.before vals.toArray s = true) → meth.name = y.name → Wp s.heap → Ks s → lv_has ls ml (lv_args 0 vals) → va_S A s.heap s.heap [] → (∀ x ∈ c.exceptionTable.toList, False) →
      W p l e rm s m vals.toArray below meth c s.heap [] 0 0 (vx_MQ below (gXQ out Wq A) (gXC out Wq A) vals.toArray s mc ms A) (F0 m 0 ls [])) : gXMet l y b ml ret rm vals Wp Ks out Wq A mc ms := by
  refine vx_ofW (cc := b) (maxL := ml) (ret := ret) hy rfl ?_
  intro p e s m args below meth c s₁ Bd hml htb hv
  obtain ⟨rfl, hW, hk⟩ := hv
  have hts0 := atoms_spec (ws := .code y b ml ret :: WG) Bd.pre
  have hown : s.vm.findClass own = some m.cls := ho ▸ findClass_of_methodNamed Bd.named
  have hl := lv_entry vals (n := ml) hL
  rw [lg_entry_eq]
  generalize (lg_sl vals ++ List.replicate (ml - (lg_sl vals).length) Slot.unset).toArray = ls at hl ⊢
  exact body p e s m below meth c ls Bd.exec Bd.bytes Bd.returns Bd.notSynchronized hml hown (fun w h => hts0 w (List.mem_cons_of_mem _ h)) (name_of_methodNamed Bd.named Bd.method).1 hW hk hl va_S.rf htb
theorem FX_C {l : Launch} {s0 s : State} {b B : Nat} {D : va_G} {T : Nat → ClassId} {X : Nat → Prop} {p : Program} {c : Code} {cc : ByteArray} {m : MethodId} {args : Array Value} {own : String} (F : FX l s0 b D T B) (hk : KC s0 X s) (hx : p.tables.exec = Jvm.exec) (hb : c.code = cc) (hown : s.vm.findClass own = some m.cls) (hts : ∀ w ∈ WG, w.before args s = true) : gC p c cc s m args own D vwCl (tysG T) :=
  ⟨hx, hb, hown, hts, va_K.moved hk.1.alike F.2.2.2.1⟩
theorem gA_all {B : Nat} {X : Nat → Prop} (hX : ∀ o, o < 560 → ¬ X (B + o)) : ∀ o, o < 560 → gA B X (B + o) := fun o ho => ⟨Nat.le_add_right _ _, hX o ho⟩
