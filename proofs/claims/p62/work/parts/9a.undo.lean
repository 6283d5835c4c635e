/-! Pure layer, 40: undo, save, restore. -/
section UN
variable {N : Nat} {μ ν : Mem} {a0 n ec : Nat} {t : List Nat}
theorem k_stepBack {f c : Nat} (hf : f < 9) (hc0 : 0 < c) (hc : c ≤ 8) (h1 : μ 95 1 = nI f) (h2 : μ 95 2 = nI c) : Ok (fX4_stepBack N μ 95) (fun m => m = mset (mset μ 95 1 (nI ((f + 8) % 9))) 95 2 (nI (c - 1))) := by
  unfold fX4_stepBack
  rw [h1]
  have e1 : nI f + 8 - (nI f + 8) / 9 * 9 = nI ((f + 8) % 9) := by
    rw [show (8 : Int32) = nI 8 from rfl, nI_add]
    exact pk_rem (d := 9) (by omega) (by decide) (by decide)
  refine ok_lt (ok_lt (ok_some ?_))
  have e2 : nI c - 1 = nI (c - 1) := by
    rw [show c = (c - 1) + 1 by omega]; exact nI_pred (c - 1)
  rw [e1, mset_sl _ _ _ _ (by decide), h2, e2]
theorem o_undo (hN : 20 ≤ N) (h : RR μ ν a0 t) : Ok (fX10_undo N μ 0) (fun r => Ok (fX11_undo N ν a0) (fun r' => RR r.1 r'.1 a0 t ∧ Sm [2] r.2 r'.1 a0 r'.2)) := by
  have hR := h
  obtain ⟨hRC, hSI, ⟨f, c, hf9, hc8, g1, g2, g3, g4⟩, hM⟩ := h
  have h0 := hM.2.2.2.2.1
  unfold fX10_undo
  rw [g2]
  refine ok_eqI c 0 (f := fun hz => ?_) (g := fun hz => ?_)
  · subst hz
    refine ok_some ?_
    unfold fX11_undo
    rw [g3]
    refine ok_jn1 (fun b : Bool => b = true) (fun b hb => ?_) (fun j hj => ok_ifT rfl (hj _ rfl))
    subst hb
    refine ok_lt ?_
    refine ok_ifF (by rw [mset_at]; decide) ?_
    exact ok_some ⟨hR.th _, Or.inr ⟨0, 2, rfl, rfl, mset_at _ _ _ _⟩⟩
  · have hlt : (f + 8) % 9 < 9 := Nat.mod_lt _ (by decide)
    refine ok_bind (k_stepBack hf9 (by omega) hc8 g1 g2) ?_
    rintro _ rfl
    have eN : fX4_noted N (mset (mset μ 95 1 (nI ((f + 8) % 9))) 95 2 (nI (c - 1))) 95 = some (95 + 1 + 1 + 47 * ((f + 8) % 9)) := by
      have key : Ok (fX4_noted N (mset (mset μ 95 1 (nI ((f + 8) % 9))) 95 2 (nI (c - 1))) 95) (fun r => r = 95 + 1 + 1 + 47 * ((f + 8) % 9)) := by
        unfold fX4_noted
        rw [mset_sl _ _ _ _ (by decide), mset_at]
        exact ok_ar ((f + 8) % 9) rfl hlt (by decide) (ok_some rfl)
      obtain ⟨r, e, hh⟩ := key
      rw [e, hh]
    refine ok_bindE eN ?_
    obtain ⟨k1, k2⟩ := g4 (c - 1) (by omega)
    rw [show (f + 9 - c + (c - 1)) % 9 = (f + 8) % 9 by omega] at k1
    refine ok_bind (k_copy (o := 1) (by omega) (by omega) (k1.mv (fun q g1 g2 => by rw [mset_ne _ _ _ _ (by omega), mset_ne _ _ _ _ (by omega)]) (fun _ _ => rfl))) ?_
    rintro m ⟨hm, hfm⟩
    have mm : ∀ q, q ≠ 95 → ¬ (1 ≤ q ∧ q < 48) → m q = μ q := fun q q1 q2 => by
      rw [hfm q (by omega), mset_ne _ _ _ _ q1, mset_ne _ _ _ _ q1]
    have m95 : m 95 = mset (mset μ 95 1 (nI ((f + 8) % 9))) 95 2 (nI (c - 1)) 95 := hfm _ (by omega)
    refine ok_some ?_
    unfold fX11_undo
    rw [g3]
    refine ok_jn1 (fun b : Bool => b = false) (fun b hb => ?_) (fun j hj => ok_ifF (nI_ne0 (by omega) (by omega)) (hj _ rfl))
    subst hb
    refine ok_lt ?_
    refine ok_ifT (by rw [mset_at]; decide) ?_
    refine ok_lt ?_
    have e2 : nI c - 1 = nI (c - 1) := by
      rw [show c = (c - 1) + 1 by omega]; exact nI_pred (c - 1)
    rw [mset_sl _ _ _ _ (by decide), g3, e2, mset_at]
    refine ok_acp (817 * (c - 1)) 0 817 (by rw [show (817 : Int32) = nI 817 from rfl, pk_mul]) rfl rfl (by omega) (by decide) (by decide) (by decide) ?_
    refine ok_some ?_
    have w1 : ∀ j, j < 817 → mcp (mset (mset ν a0 6 (b2i false)) a0 5 (nI (c - 1))) (a0 + 4) (a0 + 1) (817 * (c - 1)) 0 817 (a0 + 1) j = ν (a0 + 4) (817 * (c - 1) + j) := fun j hj => by
      rw [mcp_in (by omega) (by omega), mset_ne _ _ _ _ (by omega), mset_ne _ _ _ _ (by omega), Nat.sub_zero]
    have wo : ∀ q, q ≠ a0 + 1 → q ≠ a0 → mcp (mset (mset ν a0 6 (b2i false)) a0 5 (nI (c - 1))) (a0 + 4) (a0 + 1) (817 * (c - 1)) 0 817 q = ν q := fun q q1 q2 => by
      rw [mcp_ne q1, mset_ne _ _ _ _ q2, mset_ne _ _ _ _ q2]
    have wf : ∀ j, j ≠ 5 → j ≠ 6 → mcp (mset (mset ν a0 6 (b2i false)) a0 5 (nI (c - 1))) (a0 + 4) (a0 + 1) (817 * (c - 1)) 0 817 a0 j = ν a0 j := fun j j1 j2 => by
      rw [mcp_ne (by omega), mset_sl _ _ _ _ j1, mset_sl _ _ _ _ j2]
    have w5 : mcp (mset (mset ν a0 6 (b2i false)) a0 5 (nI (c - 1))) (a0 + 4) (a0 + 1) (817 * (c - 1)) 0 817 a0 5 = nI (c - 1) := by
      rw [mcp_ne (by omega), mset_at]
    refine ⟨⟨hm.mv (fun _ _ _ => rfl) w1, k2.cg w1, ⟨(f + 8) % 9, c - 1, hlt, by omega, ?_, ?_, w5, fun i hi => ?_⟩, hM.mv (fun j hj => by dsimp only; rw [mm 0 (by omega) (by omega)]) (fun q hq => mm q (by omega) (by omega)) ?_ (fun j hj => wf j (by omega) (by omega)) (wo _ (by omega) (by omega)) (wo _ (by omega) (by omega)) (wo _ (by omega) (by omega))⟩, Or.inl ⟨_, rfl, ?_, ?_⟩⟩
    · dsimp only
      rw [m95, mset_sl _ _ _ _ (by decide), mset_at]
    · dsimp only
      rw [m95, mset_at]
    · obtain ⟨r1, r2⟩ := g4 i (by omega)
      rw [show ((f + 8) % 9 + 9 - (c - 1) + i) % 9 = (f + 9 - c + i) % 9 by omega]
      have : (f + 9 - c + i) % 9 < 9 := Nat.mod_lt _ (by decide)
      dsimp only
      rw [wo (a0 + 4) (by omega) (by omega)]
      exact ⟨r1.mv (fun q q1 q2 => mm q (by omega) (by omega)) (fun _ _ => rfl), r2⟩
    · dsimp only
      rw [mm _ (by decide) (by decide)]; exact h0
    · show mcp _ _ _ _ _ _ a0 6 = 0
      rw [mcp_ne (by omega), mset_sl _ _ _ _ (by decide), mset_at]; rfl
    · dsimp only
      rw [w5, m95, mset_at]
theorem q_save (hN : 20 ≤ N) (h : RR μ ν a0 t) : Ok (fX10_save N μ 0) (fun r => Ok (fX11_save N ν a0) (fun r' => RR r.1 r'.1 a0 t ∧ r'.2 = r.2)) := by
  obtain ⟨hRC, hSI, ⟨f, c, hH⟩, hM⟩ := h
  have h0 := hM.2.2.2.2.1
  unfold fX10_save
  refine ok_bind (k_copy (o := 48) (by omega) (by omega) hRC) ?_
  rintro m ⟨hm, hfm⟩
  refine ok_lt (ok_some ?_)
  unfold fX11_save
  refine ok_lt ?_
  refine ok_acp 0 0 817 rfl rfl rfl (by decide) (by decide) (by decide) (by decide) ?_
  refine ok_lt ?_
  refine ok_ag 1 rfl (by decide) (by decide) ?_
  refine ok_some ?_
  have w3 : ∀ j, j < 817 → mset (mcp (mset ν a0 6 0) (a0 + 1) (a0 + 3) 0 0 817) a0 3 1 (a0 + 3) j = ν (a0 + 1) j := fun j hj => by
    rw [mset_ne _ _ _ _ (by omega), mcp_in (by omega) (by omega), mset_ne _ _ _ _ (by omega), Nat.zero_add, Nat.sub_zero]
  have wo : ∀ q, q ≠ a0 + 3 → q ≠ a0 → mset (mcp (mset ν a0 6 0) (a0 + 1) (a0 + 3) 0 0 817) a0 3 1 q = ν q := fun q q1 q2 => by
    rw [mset_ne _ _ _ _ q2, mcp_ne q1, mset_ne _ _ _ _ q2]
  have wf : ∀ j, j ≠ 3 → j ≠ 6 → mset (mcp (mset ν a0 6 0) (a0 + 1) (a0 + 3) 0 0 817) a0 3 1 a0 j = ν a0 j := fun j j1 j2 => by
    rw [mset_sl _ _ _ _ j1, mcp_ne (by omega), mset_sl _ _ _ _ j2]
  have mo : ∀ q, q ≠ 0 → ¬ (48 ≤ q ∧ q < 48 + 47) → mset m 0 2 1 q = μ q := fun q q1 q2 => by
    rw [mset_ne _ _ _ _ q1, hfm q q2]
  have mf : ∀ j, j ≠ 2 → mset m 0 2 1 0 j = μ 0 j := fun j j1 => by
    rw [mset_sl _ _ _ _ j1, hfm 0 (by omega)]
  obtain ⟨⟨s1, s2, s3, s4⟩, ⟨r, r1, r2, r3, r4⟩, ⟨p1, p2, p3, p4⟩, ⟨L, l1, l2, l3, l4⟩, g, ⟨o1, o2, o3⟩⟩ := hM
  refine ⟨⟨?_, by dsimp only; rw [wo _ (by omega) (by omega)]; exact hSI, ⟨f, c, hH.mv (fun q q1 q2 => mo q (by omega) (by omega)) (wf _ (by decide) (by decide)) (wo _ (by omega) (by omega))⟩, ⟨?_, ?_, ?_, ?_⟩, ⟨r, r1, ?_, ?_, ?_⟩, ⟨?_, ?_, ?_, ?_⟩, ⟨L, l1, ?_, ?_, fun i hi => ?_⟩, ?_, ⟨?_, o2, fun i hi => ?_⟩⟩, ?_⟩
  · dsimp only
    rw [wo _ (by omega) (by omega)]
    exact hRC.mv (fun q q1 q2 => mo q (by omega) (by omega)) (fun _ _ => rfl)
  · dsimp only; rw [mset_at, mset_at]
  · dsimp only; rw [mset_at]; exact Or.inr rfl
  · exact hm.mv (fun q q1 q2 => mset_ne _ _ _ _ (by omega)) w3
  · exact hSI.cg w3
  · dsimp only; rw [mf _ (by decide)]; exact r2
  · dsimp only; rw [wf _ (by decide) (by decide)]; exact r3
  · dsimp only; rw [mf _ (by decide), wf _ (by decide) (by decide)]; exact r4
  · dsimp only; rw [mf _ (by decide), wf _ (by decide) (by decide)]; exact p1
  · dsimp only; rw [mf _ (by decide), wf _ (by decide) (by decide)]; exact p2
  · dsimp only; rw [mf _ (by decide)]; exact p3
  · dsimp only; rw [mf _ (by decide)]; exact p4
  · dsimp only; rw [mo _ (by decide) (by decide)]; exact l2
  · dsimp only; rw [wf _ (by decide) (by decide)]; exact l3
  · obtain ⟨ch, c1, c2, c3⟩ := l4 i hi
    refine ⟨ch, c1, ?_, ?_⟩
    · dsimp only; rw [mo _ (by decide) (by decide)]; exact c2
    · dsimp only; rw [wo _ (by omega) (by omega)]; exact c3
  · dsimp only; rw [mo _ (by decide) (by decide)]; exact g
  · dsimp only; rw [wf _ (by decide) (by decide)]; exact o1
  · dsimp only; rw [wo _ (by omega) (by omega)]; exact o3 i hi
  · dsimp only
    rw [wo _ (by omega) (by omega), mset_ne _ _ _ _ (by decide), hm.1.1.2.1]
theorem o_restore (hN : 20 ≤ N) (h : RR μ ν a0 t) : Ok (fX10_restore N μ 0) (fun r => Ok (fX11_restore N ν a0) (fun r' => RR r.1 r'.1 a0 t ∧ Sm [2] r.2 r'.1 a0 r'.2)) := by
  have hR := h
  obtain ⟨hRC, hSI, ⟨f, c, hf9, hc8, g1, g2, g3, g4⟩, hM⟩ := h
  have hM' := hM
  obtain ⟨⟨s1, s2, s3, s4⟩, -⟩ := hM'
  have h0 := hM.2.2.2.2.1
  unfold fX10_restore
  rcases s2 with hz | hz
  · rw [hz]
    refine ok_ifT rfl (ok_some ?_)
    unfold fX11_restore
    rw [← s1, hz]
    refine ok_jn1 (fun b : Bool => b = true) (fun b hb => ?_) (fun j hj => ok_ifT rfl (hj _ rfl))
    subst hb
    refine ok_lt ?_
    refine ok_ifF (by rw [mset_at]; decide) ?_
    exact ok_some ⟨hR.th _, Or.inr ⟨0, 2, rfl, rfl, mset_at _ _ _ _⟩⟩
  · rw [hz]
    refine ok_ifF (by decide) ?_
    refine ok_bind (k_copy (o := 1) (by omega) (by omega) s3) ?_
    rintro m ⟨hm, hfm⟩
    refine ok_lt (ok_some ?_)
    unfold fX11_restore
    rw [← s1, hz]
    refine ok_jn1 (fun b : Bool => b = false) (fun b hb => ?_) (fun j hj => ok_ifF (by decide) (hj _ rfl))
    subst hb
    refine ok_lt ?_
    refine ok_ifT (by rw [mset_at]; decide) ?_
    refine ok_acp 0 0 817 rfl rfl rfl (by decide) (by decide) (by decide) (by decide) ?_
    refine ok_lt ?_
    refine ok_ag 1 rfl (by decide) (by decide) ?_
    refine ok_some ?_
    have w1 : ∀ j, j < 817 → mset (mcp (mset ν a0 6 (b2i false)) (a0 + 3) (a0 + 1) 0 0 817) a0 5 0 (a0 + 1) j = ν (a0 + 3) j := fun j hj => by
      rw [mset_ne _ _ _ _ (by omega), mcp_in (by omega) (by omega), mset_ne _ _ _ _ (by omega), Nat.zero_add, Nat.sub_zero]
    have wo : ∀ q, q ≠ a0 + 1 → q ≠ a0 → mset (mcp (mset ν a0 6 (b2i false)) (a0 + 3) (a0 + 1) 0 0 817) a0 5 0 q = ν q := fun q q1 q2 => by
      rw [mset_ne _ _ _ _ q2, mcp_ne q1, mset_ne _ _ _ _ q2]
    have wf : ∀ j, j ≠ 5 → j ≠ 6 → mset (mcp (mset ν a0 6 (b2i false)) (a0 + 3) (a0 + 1) 0 0 817) a0 5 0 a0 j = ν a0 j := fun j j1 j2 => by
      rw [mset_sl _ _ _ _ j1, mcp_ne (by omega), mset_sl _ _ _ _ j2]
    have mm : ∀ q, q ≠ 95 → ¬ (1 ≤ q ∧ q < 48) → mset m 95 2 0 q = μ q := fun q q1 q2 => by
      rw [mset_ne _ _ _ _ q1, hfm q (by omega)]
    refine ⟨⟨hm.mv (fun q q1 q2 => mset_ne _ _ _ _ (by omega)) w1, s4.cg w1, ⟨f, 0, hf9, by decide, ?_, ?_, ?_, fun i hi => absurd hi (Nat.not_lt_zero _)⟩, hM.mv (fun j hj => by dsimp only; rw [mm 0 (by omega) (by omega)]) (fun q hq => mm q (by omega) (by omega)) ?_ (fun j hj => wf j (by omega) (by omega)) (wo _ (by omega) (by omega)) (wo _ (by omega) (by omega)) (wo _ (by omega) (by omega))⟩, Or.inl ⟨_, rfl, ?_, ?_⟩⟩
    · dsimp only
      rw [mset_sl _ _ _ _ (by decide), hfm _ (by omega)]; exact g1
    · dsimp only
      rw [mset_at]; rfl
    · dsimp only
      rw [mset_at]; rfl
    · dsimp only
      rw [mm _ (by decide) (by decide)]; exact h0
    · show mset _ _ _ _ a0 6 = 0
      rw [mset_sl _ _ _ _ (by decide), mcp_ne (by omega), mset_at]; rfl
    · dsimp only
      rw [w1 1 (by decide), mset_ne _ _ _ _ (by decide)]; exact hm.1.1.2.1.symm
end UN
