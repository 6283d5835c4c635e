/-! THE CLAIM OUT OF ONE WALK OF THE LAW'S BODY. Your part is whole_start (and what it stands on); all else here is the same for every law, but numbers. -/
def R_law : String := "AvalancheGalleryLaw"
def lw_P (b : Addr) (xs : List Int32) (args : Array Value) (s : State) : Prop := args = #[.ref b] ∧ s.IntsAt b xs ∧ xs.length ≤ 260 ∧ (Jvm.Cond.and given_1 narrow_1).before args s = true
/-- what a walk over the start with the record d0 says of its end, said of the start itself -/
theorem lw_closed {s t : State} {o : Outcome} {d0 : Drawn} {L : List Loc} {k n : Nat} (hd0 : s.drawn.sameBut d0 lw_cs) (hv : ∃ v, o = .returned v) (hW : (s.setDrawn d0).WarmedH t.vm) (hs : (s.setDrawn d0).sameButNew ({ t with vm := s.vm } : State) L k n) : State.butDraws s t lw_cs (fun t1 => Framed s o t1 L k n) := by
  have h2 : t.drawn = d0 := congrArg State.drawn hs.1
  refine ⟨⟨hv, hW, State.sameButNew.setDrawn hs s.drawn⟩, ?_, by decide⟩
  rw [h2]
  exact hd0
def lw_Q (_ : Array Value) (s : State) (o : Outcome) (t : State) : Prop := o = .returned (some (.int 1)) ∧ State.butDraws s t lw_cs (fun t1 => Framed s o t1 [] 724167 6919348)
def lw_Z (below : List Frame) (a : Array Value) (s : State) : State → Prop := fun t => ∃ o, t.status = .running ∧ Ended t below o ∧ lw_Q a s o t
/-- the law's own end, with 1 on the stack, nothing written that was there before, its room as the claim has it; d0: the record of draws at this point (at the entry s.drawn: begin with 'refine W.base ?_' and 'have hd0 := Drawn.sameBut.refl s.drawn lw_cs') -/
theorem lw_ret {p : Program} {l : Launch} {e : Env} {s : State} {m : MethodId} {below : List Frame} {meth : Method} {c : Code} {b : Nat} {d0 : Drawn} (hd0 : s.drawn.sameBut d0 lw_cs) (hx : p.tables.exec = Jvm.exec) (hb : c.code = code) (hr : meth.sig.returnType = ret) (hlocks : meth.locks = false) {pc : Nat} {H : Heap} {ls : Array Slot} (hdg : decode code pc = .ok (.ireturn, 1)) : W p l e room_1 (s.setDrawn d0) m #[Value.ref b] below meth c H [] 724167 6919348 (lw_Z below #[Value.ref b] s) (F0 m pc ls [.int 1]) := by
  intro T hT X
  obtain ⟨fs, hret, hrun, hended, hW, hframe⟩ := X.leave (v := some (.int 1)) (hlocks := hlocks) (fun h => by rw [hr] at h; cases h)
  have hmeth' : T.vm.method? m = some meth := X.method'
  refine ⟨T.setFrames fs, ?_, .returned (some (.int 1)), hrun, hended, rfl, lw_closed hd0 ⟨_, rfl⟩ hW hframe⟩
  jvm_step X.here [X.here.top, hx, hb, hdg, hmeth', hr, ret, narrow_b1]
  (try refine ⟨rfl, ?_⟩); (try refine ⟨rfl, ?_⟩)
  first | (intro acts; rw [hret _ acts rfl rfl rfl]) | rw [hret _ _ rfl rfl rfl]
  exact Steps.refl _
/-- what holds at the law's entry: the machine, the code, the tables' words (any of lw_tbl by 'hts w (by decide +kernel)'), the script of L ints xs at the cell b, what the Statement gives of the start (any of its parts by flat_of_before) -/
def lw_At (p : Program) (s : State) (m : MethodId) (meth : Method) (c : Code) (b L : Nat) (xs : Nat → Int32) : Prop :=
  p.tables.exec = Jvm.exec ∧ c.code = code ∧ meth.sig.returnType = ret ∧ c.maxLocals = 2 ∧ s.vm.findClass R_law = some m.cls ∧ (∀ w ∈ lw_tbl, w.before #[Value.ref b] s = true) ∧ va_X b L xs s s.heap ∧ b < s.heap.size ∧ meth.locks = false ∧ (Jvm.Cond.and given_1 narrow_1).before #[Value.ref b] s = true
theorem dL_law_0 : decode code 0 = .ok (.aload_n 0, 1) := by decide +kernel
theorem dL_law_1 : decode code 1 = .ok (.invokestatic 224, 3) := by decide +kernel
theorem dL_law_4 : decode code 4 = .ok (.astore_n 1, 1) := by decide +kernel
theorem dL_law_5 : decode code 5 = .ok (.aload_n 1, 1) := by decide +kernel
theorem dL_law_6 : decode code 6 = .ok (.ifnull 51, 3) := by decide +kernel
theorem dL_law_9 : decode code 9 = .ok (.aload_n 1, 1) := by decide +kernel
theorem dL_law_10 : decode code 10 = .ok (.invokestatic 228, 3) := by decide +kernel
theorem dL_law_13 : decode code 13 = .ok (.ifCond .eq 44, 3) := by decide +kernel
theorem dL_law_16 : decode code 16 = .ok (.aload_n 0, 1) := by decide +kernel
theorem dL_law_17 : decode code 17 = .ok (.aload_n 1, 1) := by decide +kernel
theorem dL_law_18 : decode code 18 = .ok (.invokestatic 232, 3) := by decide +kernel
theorem dL_law_21 : decode code 21 = .ok (.ifCond .eq 36, 3) := by decide +kernel
theorem dL_law_24 : decode code 24 = .ok (.aload_n 1, 1) := by decide +kernel
theorem dL_law_25 : decode code 25 = .ok (.invokestatic 236, 3) := by decide +kernel
theorem dL_law_28 : decode code 28 = .ok (.ifCond .eq 29, 3) := by decide +kernel
theorem dL_law_31 : decode code 31 = .ok (.aload_n 1, 1) := by decide +kernel
theorem dL_law_32 : decode code 32 = .ok (.invokestatic 239, 3) := by decide +kernel
theorem dL_law_35 : decode code 35 = .ok (.ifCond .eq 22, 3) := by decide +kernel
theorem dL_law_38 : decode code 38 = .ok (.aload_n 1, 1) := by decide +kernel
theorem dL_law_39 : decode code 39 = .ok (.invokestatic 242, 3) := by decide +kernel
theorem dL_law_42 : decode code 42 = .ok (.ifCond .eq 15, 3) := by decide +kernel
theorem dL_law_45 : decode code 45 = .ok (.aload_n 0, 1) := by decide +kernel
theorem dL_law_46 : decode code 46 = .ok (.aload_n 1, 1) := by decide +kernel
theorem dL_law_47 : decode code 47 = .ok (.invokestatic 245, 3) := by decide +kernel
theorem dL_law_50 : decode code 50 = .ok (.ifCond .eq 7, 3) := by decide +kernel
theorem dL_law_53 : decode code 53 = .ok (.iconst 1, 1) := by decide +kernel
theorem dL_law_54 : decode code 54 = .ok (.goto 4, 3) := by decide +kernel
theorem dL_law_57 : decode code 57 = .ok (.iconst 0, 1) := by decide +kernel
theorem dL_law_58 : decode code 58 = .ok (.ireturn, 1) := by decide +kernel
