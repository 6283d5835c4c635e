/-! The reference's world: 12 objects in a row (0: the model; 1 s, 2 before, 3 saved, 4 past, 5 far, 6 steps, 7 pile, 8 toppled, 9 output, 10 text, 11 commands). -/
abbrev eMo (B o : Nat) (r : Nat → Int32) : va_E := .inr (12, [.ref (B + (o + 1)), .ref (B + (o + 2)), .ref (B + (o + 3)), .int (r 3), .ref (B + (o + 4)), .int (r 5), .int (r 6), .int (r 7), .int (r 8), .ref (B + (o + 5)), .ref (B + (o + 6)), .ref (B + (o + 7)), .ref (B + (o + 8)), .int (r 13), .ref (B + (o + 9)), .int (r 15), .ref (B + (o + 10)), .int (r 17), .int (r 18), .int (r 19), .int (r 20), .int (r 21), .ref (B + (o + 11)), .int (r 23)])
def shM (T : Nat → ClassId) (B : Nat) (r : Nat → Int32) (o : Nat) : va_E :=
  if o = 0 then eMo B o r else if o < 4 then eInt T 817 r else if o = 4 then eInt T 6536 r else if o < 7 then eInt T 6 r else if o < 9 then eInt T 16 r else if o = 9 then eChr T 40 r else if o = 10 then eChr T 60 r else eInt T 300 r
def MI (n o : Nat) : Prop := o < 12 ∧ ∀ T B r, shM T B r o = eInt T n r
def MC (n o : Nat) : Prop := o < 12 ∧ ∀ T B r, shM T B r o = eChr T n r
def IsMo (o : Nat) : Prop := o < 12 ∧ (∀ T B r, shM T B r o = eMo B o r) ∧ MI 817 (o + 1) ∧ MI 817 (o + 2) ∧ MI 817 (o + 3) ∧ MI 6536 (o + 4) ∧ MI 6 (o + 5) ∧ MI 6 (o + 6) ∧ MI 16 (o + 7) ∧ MI 16 (o + 8) ∧ MC 40 (o + 9) ∧ MC 60 (o + 10) ∧ MI 300 (o + 11)
theorem is_Mo : IsMo 0 := ⟨by omega, fun T B r => rfl, ⟨by omega, fun T B r => rfl⟩, ⟨by omega, fun T B r => rfl⟩, ⟨by omega, fun T B r => rfl⟩, ⟨by omega, fun T B r => rfl⟩, ⟨by omega, fun T B r => rfl⟩, ⟨by omega, fun T B r => rfl⟩, ⟨by omega, fun T B r => rfl⟩, ⟨by omega, fun T B r => rfl⟩, ⟨by omega, fun T B r => rfl⟩, ⟨by omega, fun T B r => rfl⟩, ⟨by omega, fun T B r => rfl⟩⟩
abbrev gWM (D : va_G) (T : Nat → ClassId) (B : Nat) (μ : Mem) : Heap → Prop := gW D vwCl (shM T B) 12 B μ
theorem gA_allM {B : Nat} {X : Nat → Prop} (hX : ∀ o, o < 12 → ¬ X (B + o)) : ∀ o, o < 12 → gA B X (B + o) := fun o ho => ⟨Nat.le_add_right _ _, hX o ho⟩
theorem nar_c {x : Int32} (h : vp_nar .char x = x) : narrow .char (.int x) = .int x := by
  have h2 : narrow .char (.int x) = .int (vp_nar .char x) := rfl
  rw [h2, h]
theorem gC_of {l : Launch} {y : MethodName} {b : ByteArray} {ml : Nat} {rm : Room} {vals : List Value} {Wp Wq : Heap → Prop} {Ks : State → Prop} {A : Nat → Prop} {mc ms : Nat} {x : Int32} (own : String) (hy : plainName y.cls = true) (ho : y.cls = own) (hL : (lg_sl vals).length ≤ ml)
    (body : gBody l b ml own rm vals Wp Ks A (fun p e s m args below meth c Q => ∀ {H : Heap} {locs : List Loc} {cells slots pc : Nat} {ls : Array Slot}, vp_nar .char x = x → decode b pc = .ok (.ireturn, 1) → Wq H → va_S A s.heap H locs → cells ≤ mc → slots ≤ ms → W p l e rm s m args below meth c H locs cells slots Q (F0 m pc ls [.int x]))) : gMet l y b ml (some .char) rm vals Wp Ks (some (.int x)) Wq A mc ms :=
  gMet_of own hy ho hL (fun p e s m below meth c ls hx hb hr hlocks hml hown hts _ hW hk hl hS => body p e s m _ below meth c ls _ hx hb hlocks hml hown hts hW hk hl hS (fun hn hd hW hS hc hs => gw_zret hx hb hr (nar_c hn) hlocks hW hS hc hs hd))
