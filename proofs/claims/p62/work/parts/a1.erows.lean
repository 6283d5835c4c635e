/-! What is being made, told from its first object on. -/
section LE
variable {D : va_G} {B n o t : Nat} {E G g : Nat → va_E} {e : va_E} {H : Heap}
theorem eup_cat : eup (eCat E o G) (o + t) e = eCat E o (eup G t e) := by
  funext j
  unfold eup eCat
  by_cases h : j = o + t
  · rw [if_pos h, if_neg (by omega)]
    dsimp only
    rw [if_pos (by omega)]
  · rw [if_neg h]
    by_cases h2 : j < o
    · rw [if_pos h2, if_pos h2]
    · rw [if_neg h2, if_neg h2]
      dsimp only
      rw [if_neg (by omega)]
theorem eCat_cat : eCat (eCat E o G) (o + t) g = eCat E o (eCat G t g) := by
  funext j
  unfold eCat
  by_cases h2 : j < o
  · rw [if_pos (by omega), if_pos h2, if_pos h2]
  · by_cases h : j < o + t
    · rw [if_pos h, if_neg h2, if_neg h2, if_pos (by omega)]
    · rw [if_neg h, if_neg h2, if_neg (by omega), show j - (o + t) = j - o - t by omega]
theorem eCat_at : eCat E o G (o + t) = G t := by
  unfold eCat
  rw [if_neg (by omega), show o + t - o = t by omega]
theorem eCat_0 : eCat E o G o = G 0 := eCat_at (t := 0)
theorem le_start (h : gE D B (o + 1) E H) (he : E o = e) : gE D B (o + 1) (eCat E o (fun _ => e)) H := h.cg rfl (fun j hj => by
  unfold eCat
  by_cases h2 : j < o
  · rw [if_pos h2]
  · rw [if_neg h2, show j = o by omega, he])
theorem le_push {t' : Nat} (ht : t' = t + 1) (h : gE D B (o + t + 1) (eup (eCat E o G) (o + t) e) H) : gE D B (o + t') (eCat E o (eup G t e)) H := by
  subst ht
  rw [eup_cat] at h
  exact h
theorem le_set (h : gE D B n (eup (eCat E o G) (o + t) e) H) : gE D B n (eCat E o (eup G t e)) H := by
  rw [eup_cat] at h
  exact h
theorem le_set0 (h : gE D B n (eup (eCat E o G) o e) H) : gE D B n (eCat E o (eup G 0 e)) H := le_set (t := 0) h
theorem le_more {m t' : Nat} (ht : t' = t + m) (h : gE D B (o + t + m) (eCat (eCat E o G) (o + t) g) H) : gE D B (o + t') (eCat E o (eCat G t g)) H := by
  subst ht
  rw [eCat_cat, Nat.add_assoc] at h
  exact h
theorem le_end {m : Nat} (h : gE D B n (eCat E o G) H) (hn : n = o + m) (he : ∀ k, k < m → g k = G k) : gE D B (o + m) (eCat E o g) H := by
  subst hn
  refine h.cg rfl (fun j hj => ?_)
  unfold eCat
  by_cases c : j < o
  · rw [if_pos c, if_pos c]
  · rw [if_neg c, if_neg c]
    exact he _ (by omega)
end LE
/-- a constructor's body -/
theorem gCt_of {l : Launch} {y : MethodName} {b : ByteArray} {ml : Nat} {rm : Room} {vals : List Value} {Wp Wq : Heap → Prop} {Ks : State → Prop} {A : Nat → Prop} {mc ms : Nat} (own : String) (hy : plainName y.cls = true) (ho : y.cls = own) (hL : (lg_sl vals).length ≤ ml)
    (body : ∀ (p : Program) (e : Env) (s : State) (m : MethodId) (args : Array Value) (below : List Frame) (meth : Method) (c : Code) (ls : Array Slot) (Q : State → Prop), p.tables.exec = Jvm.exec → c.code = b → meth.locks = false → c.maxLocals = ml → s.vm.findClass own = some m.cls → (∀ w ∈ WG, w.before args s = true) → meth.name = y.name → Wp s.heap → Ks s → lv_has ls ml (lv_args 0 vals) → va_S A s.heap s.heap [] →
      (∀ {H : Heap} {locs : List Loc} {cells slots pc : Nat} {ls : Array Slot}, decode b pc = .ok (.return_, 1) → Wq H → va_S A s.heap H locs → cells ≤ mc → slots ≤ ms → W p l e rm s m args below meth c H locs cells slots Q (F0 m pc ls [])) → W p l e rm s m args below meth c s.heap [] 0 0 Q (F0 m 0 ls [])) : gMet l y b ml none rm vals Wp Ks none Wq A mc ms :=
  gMet_of own hy ho hL (fun p e s m below meth c ls hx hb hr hlocks hml hown hts hnm hW hk hl hS => body p e s m _ below meth c ls _ hx hb hlocks hml hown hts hnm hW hk hl hS (fun hd hW hS hc hs => gw_vret hx hb hr hlocks hW hS hc hs hd))
theorem KC_atA {s0 s : State} {X A : Nat → Prop} {B : Nat} {H : Heap} {locs : List Loc} (hk : KC s0 X s) (hS : va_S A s.heap H locs) (hA : ∀ q, A q → B ≤ q) (hB : s0.heap.size ≤ B) : ∀ U : State, U.heap = H → s.WarmedH U.vm → KC s0 X U := by
  intro U hU hW
  refine ⟨State.WarmedH.trans hk.1 hW, by rw [hU]; exact Nat.le_trans hk.2.1 hS.1, fun q hq => ?_, fun q hq => by rw [hU]; exact Nat.lt_of_lt_of_le (hk.2.2.2 q hq) hS.1⟩
  rw [hU, hS.2.1 q (Nat.lt_of_lt_of_le hq hk.2.1) (fun z => absurd (Nat.lt_of_lt_of_le hq hB) (Nat.not_lt.mpr (hA q z)))]
  exact hk.2.2.1 q hq
