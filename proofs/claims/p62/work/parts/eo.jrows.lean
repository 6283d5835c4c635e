/-! The law's nine longs: made, written. -/
section GJ2
variable {p : Program} {l : Launch} {e : Env} {R : Room} {s : State} {m : MethodId} {args : Array Value} {below : List Frame} {meth : Method} {c : Code} {H : Heap} {locs : List Loc} {cells slots : Nat} {Q : State → Prop}
variable {cc : ByteArray} {pc : Nat} {ls : Array Slot} {rest : List Value} {D : va_G} {own : String} {T : Nat → ClassId} {X : Nat → Prop} {b B q : Nat} {s0 : State} {Z : Nat → Int32} {hs : List (Nat → Int32)} {t : List Nat} {f : Nat → Int64}
theorem gj_new (hC : gC p c cc s m args own D vwCl (tysG T)) (hX : ∀ z, X z → z < H.size) (hS : va_S (gA B X) s.heap H locs) (hW : gZ s0 D T B X Z hs t H) (hcells : cells + 1 ≤ R.cells) (hslots : slots + 9 ≤ R.slots) (hdg : decode cc pc = .ok (.newarray .long, 2))
    (kk : ∀ (H1 : Heap), gZJ s0 D T B X Z hs t H.size (fun _ => 0) H1 → va_S (gA B X) s.heap H1 locs → W p l e R s m args below meth c H1 locs (cells + 1) (slots + 9) Q (F0 m (pc + 2) ls (.ref H.size :: rest))) : W p l e R s m args below meth c H locs cells slots Q (F0 m pc ls (.int 9 :: rest)) := by
  refine al_arr (ws := []) (ty := .long) (t0 := 8) (cA := T 8) (n0 := 9) (a0 := (9, .inr (.inl (fun _ => 0)))) hC lac_long rfl rfl va_P0 hS rfl (by decide) (by decide) (Nat.le_of_ble_eq_true rfl) hcells hslots hdg (fun H1 hP hS1 hz hk => ?_)
  have hg := gZ_grow (X' := XJ X H.size) hW (fun z hz => hk z hz) (fun z hz h => h.elim id (fun e => absurd e (by omega)))
  exact kk H1 ⟨hg.1, ⟨by have := hg.2; omega, fun h => Nat.lt_irrefl _ (hX _ h)⟩, hP 0 _ rfl⟩ hS1
theorem gj_st {i : Nat} {x : Int64} (hi : i < 9) (hC : gC p c cc s m args own D vwCl (tysG T)) (hS : va_S (gA B X) s.heap H locs) (hW : gZJ s0 D T B X Z hs t q f H) (hdg : decode cc pc = .ok (.lastore, 1))
    (kk : ∀ (H1 : Heap) (locs1 : List Loc), gZJ s0 D T B X Z hs t q (vp_updL f i x) H1 → va_S (gA B X) s.heap H1 locs1 → W p l e R s m args below meth c H1 locs1 cells slots Q (F0 m (pc + 1) ls rest)) : W p l e R s m args below meth c H locs cells slots Q (F0 m pc ls (.long x :: .int (nI i) :: .ref q :: rest)) := by
  obtain ⟨hx, hb, hown, hts, hK⟩ := hC
  have hin : (nI i).toNatClampNeg = i := tn_nI (by omega)
  refine W.last hx hb hW.2.2 ((hK.2 8 _ rfl).1 9 (fun j => .long (f j))) (fun z => by cases z) (by show ¬ ((nI i : Int32) < 0 ∨ (arrV _ _ _).slots.size ≤ _); rw [arrV_size, hin]; exact fun z => z.elim (nI_pos (by omega)) (fun h => absurd (show 9 ≤ i from h) (by omega))) rfl rfl hdg fun H1 e z oq => ?_
  refine kk H1 _ ⟨gZ_kept hW.1 (Y := fun z => z = q) (fun z _ hn => oq z hn) (fun z hz => Or.inr hz) (fun z hz => by rw [hz]; exact hW.2.1.1), hW.2.1, ?_⟩ (hS.put z oq ⟨by have := hW.2.1.1; omega, hW.2.1.2⟩)
  show H1[q]? = some (vp_cell _ _)
  rw [e, hin]
  rw [vp_cell_l, vp_cell_l, arrV_store]
  congr 2
  funext j
  by_cases hq : j = i
  · subst hq
    simp [updV, vp_updL]
  · simp [updV, vp_updL, hq]
theorem gj_ld {i : Nat} (hi : i < 9) (hC : gC p c cc s m args own D vwCl (tysG T)) (hW : gZJ s0 D T B X Z hs t q f H) (hdg : decode cc pc = .ok (.laload, 1))
    (kk : W p l e R s m args below meth c H locs cells slots Q (F0 m (pc + 1) ls (.long (f i) :: rest))) : W p l e R s m args below meth c H locs cells slots Q (F0 m pc ls (.int (nI i) :: .ref q :: rest)) := by
  have hin : (nI i).toNatClampNeg = i := tn_nI (by omega)
  have hP : va_P D vwCl [(q, .inl (T 8, 9, .inr (.inl f)))] H := fun k x hx => by
    cases k with
    | zero => cases hx; exact hW.2.2
    | succ k => cases hx
  refine va_lald hC.1 hC.2.1 hC.2.2.2.2 hP 0 8 rfl rfl (fun z => z.elim (nI_pos (by omega)) (fun h => absurd (show 9 ≤ i by rw [hin] at h; exact h) (by omega))) hdg ?_
  rw [hin]
  exact kk
end GJ2
