/-! Pure layer, 44: the reference reads commands. -/
section RM
variable {N : Nat} {μ ν m : Mem} {a0 L : Nat} {T : Nat → Nat}
def TXm (m : Mem) (a0 L : Nat) (T : Nat → Nat) : Prop := L ≤ 60 ∧ m a0 17 = nI L ∧ ∀ i, i < L → T i < 65536 ∧ m (a0 + 10) i = nI (T i)
theorem TXm.mv {m' : Mem} (h : TXm m a0 L T) (h1 : m' a0 17 = m a0 17) (h2 : m' (a0 + 10) = m (a0 + 10)) : TXm m' a0 L T := ⟨h.1, by rw [h1]; exact h.2.1, fun i hi => by rw [h2]; exact h.2.2 i hi⟩
theorem TXm.b (h : TXm m a0 L T) : ∀ i, i < L → T i < 65536 := fun i hi => (h.2.2 i hi).1
theorem m_behind {x : Int32} {e : Nat} (d : Nat) (hT : TXm m a0 L T) (h18 : m a0 18 = nI e) (he : e ≤ 70) (hd : d ≤ 1) (hx : x = nI d) : fX11_behind N m a0 x = some (chI T L (e + d)) := by
  have key : Ok (fX11_behind N m a0 x) (fun r => r = chI T L (e + d)) := by
    have hL := hT.1
    unfold fX11_behind
    refine ok_jn1 (fun y : Int32 => y = chI T L (e + d)) (fun y hy => ok_some hy) (fun j2 hj2 => ?_)
    rw [hx, hT.2.1, h18, nI_add]
    refine ok_le L (e + d) (f := fun h => hj2 _ (by unfold chI; rw [if_neg (by omega)])) (g := fun h => ?_)
    refine ok_ag (e + d) rfl (by omega) (by decide) ?_
    rw [(hT.2.2 _ h).2]
    exact hj2 _ (by unfold chI; rw [if_pos h])
  obtain ⟨r, e1, h⟩ := key
  rw [e1, h]
theorem dgt_chI (hT : ∀ i, i < L → T i < 65536) (e : Nat) : decide ((48 : Int32) ≤ chI T L e ∧ chI T L e ≤ 57) = dgt T L e := by
  unfold dgt
  refine decide_eq_decide.mpr ?_
  unfold chI
  by_cases h : e < L
  · have := hT e h
    rw [if_pos h, show (48 : Int32) = nI 48 from rfl, show (57 : Int32) = nI 57 from rfl, nI_leI (by decide) (by omega), nI_leI (by omega) (by decide)]
    exact ⟨fun z => ⟨h, z⟩, fun z => z.2⟩
  · rw [if_neg h]
    exact ⟨fun z => absurd z.1 (by decide), fun z => absurd z.1 h⟩
theorem m_isDigit {b : Bool} {e : Nat} (hT : TXm m a0 L T) (h19 : m a0 19 = nI b.toNat) (h18 : m a0 18 = nI e) (he : e ≤ 70) : fX11_isDigit N m a0 = some (!b && dgt T L e) := by
  have key : Ok (fX11_isDigit N m a0) (fun r => r = (!b && dgt T L e)) := by
    unfold fX11_isDigit
    refine ok_jn1 (fun y : Bool => y = (!b && dgt T L e)) (fun y hy => ok_some hy) (fun j2 hj2 => ?_)
    refine ok_jn1 (fun _ : Unit => (!b && dgt T L e) = false) (fun _ hz => hj2 _ hz.symm) (fun j6 hj6 => ?_)
    rw [h19]
    cases b
    · refine ok_ifT rfl ?_
      rw [m_behind (x := 0) 0 hT h18 he (by decide) rfl, bS, k_inE, bS, dgt_chI hT.b]
      refine ok_cd (fun hz => hj2 _ ?_) (fun hz => hj6 () ?_)
      · rw [show dgt T L e = true from hz]; rfl
      · rw [show dgt T L e = false from hz]; rfl
    · exact ok_ifF (by decide) (hj6 () rfl)
  obtain ⟨r, e1, h⟩ := key
  rw [e1, h]
theorem dig_stepM {x e : Nat} (h : 48 ≤ T e) : 10 * nI x + nI (T e) - 48 = nI (x * 10 + (T e - 48)) := by
  rw [show (10 : Int32) = nI 10 from rfl, show (48 : Int32) = nI 48 from rfl, pk_mul, nI_add, pk_sub (by omega)]
  exact congrArg nI (by omega)
theorem k_readsNumber {w g e : Nat} {b : Bool} {vs : List Nat} (hN : 10 ≤ N) (hT : TXm m a0 L T) (h19 : m a0 19 = nI b.toNat) (h18 : m a0 18 = nI e) (he : e ≤ 61) (hw : 1 ≤ w ∧ w ≤ 2) (hg : wid g = w) : Ok (fX11_readsNumber N m a0 (nI w)) (fun r => r.1 a0 19 = nI (stp T L g (b, e, vs)).1.toNat ∧ r.1 a0 18 = nI (stp T L g (b, e, vs)).2.1 ∧ ((stp T L g (b, e, vs)).1 = false → (stp T L g (b, e, vs)).2.2 = vs ++ [nvG T L w e] ∧ r.2 = nI (nvG T L w e)) ∧ (∀ j, j ≠ 18 → j ≠ 19 → r.1 a0 j = m a0 j) ∧ frm (fun q => q = a0) m r.1) := by
  have hstp : stp T L g (b, e, vs) = if (b || !dgt T L e) = true then (true, e, vs) else (false, e + ndG T L w e, vs ++ [nvG T L w e]) := by
    cases b
    · cases hd : dgt T L e
      · rw [stp_m (by omega) hd]; rfl
      · rw [stp_n (by omega) hd, hg]; rfl
    · rw [stp_t rfl]; rfl
  rw [hstp]
  unfold fX11_readsNumber
  refine ok_jn1 (fun y : Bool => y = (b || !dgt T L e)) (fun y hy => ?_) (fun j2 hj2 => ?_)
  · subst hy
    refine ok_lt ?_
    have hT5 : TXm (mset m a0 19 (b2i (b || !dgt T L e))) a0 L T := hT.mv (mset_sl _ _ _ _ (by decide)) (mset_ne _ _ _ _ (by omega))
    refine ok_fix3 (fun kk x7 x8 m9 => ∃ i, i + kk = w ∧ x8 = nI i ∧ x7 = nI (nvG T L i e) ∧ (i = 0 ∨ (b || !dgt T L e) = false) ∧ m9 a0 18 = nI (e + ndG T L i e) ∧ m9 a0 19 = nI (b || !dgt T L e).toNat ∧ (∀ j, j ≠ 18 → j ≠ 19 → m9 a0 j = m a0 j) ∧ frm (fun q => q = a0) m m9) ?_ N w _ _ _ (by omega) ⟨0, by omega, rfl, rfl, Or.inl rfl, by rw [mset_sl _ _ _ _ (by decide), h18]; rfl, by rw [mset_at, b2i_nI], fun j _ h => mset_sl _ _ _ _ h, frm.set (X := fun q => q = a0) frm.rf rfl _ _⟩
    rintro kk self x7 x8 m9 ⟨i, hi, rfl, rfl, hor, k18, k19, ko, kf⟩ hs
    have hn2 := ndG_le (T := T) (L := L) (w := i) (e := e)
    have fin : ((b || !dgt T L e) = true → i = 0) → ((b || !dgt T L e) = false → ndG T L w e = ndG T L i e ∧ nvG T L w e = nvG T L i e) → Ok (some (m9, nI (nvG T L i e)) : Option (Mem × Int32)) (fun r => r.1 a0 19 = nI (if (b || !dgt T L e) = true then (true, e, vs) else (false, e + ndG T L w e, vs ++ [nvG T L w e])).1.toNat ∧ r.1 a0 18 = nI (if (b || !dgt T L e) = true then (true, e, vs) else (false, e + ndG T L w e, vs ++ [nvG T L w e])).2.1 ∧ ((if (b || !dgt T L e) = true then (true, e, vs) else (false, e + ndG T L w e, vs ++ [nvG T L w e])).1 = false → (if (b || !dgt T L e) = true then (true, e, vs) else (false, e + ndG T L w e, vs ++ [nvG T L w e])).2.2 = vs ++ [nvG T L w e] ∧ r.2 = nI (nvG T L w e)) ∧ (∀ j, j ≠ 18 → j ≠ 19 → r.1 a0 j = m a0 j) ∧ frm (fun q => q = a0) m r.1) := by
      intro z1 z2
      refine ok_some ?_
      cases hb : (b || !dgt T L e)
      · rw [if_neg (by decide)]
        obtain ⟨z3, z4⟩ := z2 hb
        rw [hb] at k19
        exact ⟨k19, by dsimp only; rw [k18, z3], fun _ => ⟨rfl, by dsimp only; rw [z4]⟩, ko, kf⟩
      · rw [if_pos rfl]
        have := z1 hb
        subst this
        rw [hb] at k19
        exact ⟨k19, k18, fun z => (by cases z), ko, kf⟩
    have hT9 : TXm m9 a0 L T := hT.mv (ko 17 (by decide) (by decide)) (kf _ (by omega))
    refine ok_jn1 (fun _ : Unit => ((b || !dgt T L e) = true → i = 0) ∧ ((b || !dgt T L e) = false → ndG T L w e = ndG T L i e ∧ nvG T L w e = nvG T L i e)) (fun _ hz => fin hz.1 hz.2) (fun j13 hj13 => ?_)
    refine ok_le w i (f := fun hc => ?_) (g := fun hc => ?_)
    · have : i = w := by omega
      subst this
      refine hj13 () ⟨fun z => ?_, fun _ => ⟨rfl, rfl⟩⟩
      rcases hor with h | h
      · exact h
      · rw [z] at h; cases h
    · rw [m_isDigit hT9 k19 k18 (by omega), bS]
      have hdg := dg_step (T := T) (L := L) (e := e) (show i ≤ 1 by omega)
      refine ok_cd (fun hz => ?_) (fun hz => ?_)
      · rw [Bool.and_eq_true] at hz
        have hb : (b || !dgt T L e) = false := by
          cases hbb : (b || !dgt T L e)
          · rfl
          · rw [hbb] at hz; exact absurd hz.1 (by decide)
        obtain ⟨q1, q2, q3⟩ := (hdg _ hz.2).2 rfl
        have hd := dgt_t hz.2
        rw [k18]
        have hL := hT.1
        refine ok_ag (e + ndG T L i e) rfl (by omega) (by decide) ?_
        rw [(hT9.2.2 _ hd.1).2, dig_stepM hd.2.1]
        refine ok_lt (ok_lt (ok_lt ?_))
        refine hs (kk - 1) _ _ _ (by omega) ⟨i + 1, by omega, nI_1 _, by rw [q2], Or.inr hb, ?_, ?_, fun j j1 j2 => ?_, frm.set (X := fun q => q = a0) kf rfl _ _⟩
        · rw [mset_at, q1]; exact nI_1 _
        · rw [mset_sl _ _ _ _ (by decide)]; exact k19
        · rw [mset_sl _ _ _ _ j1]; exact ko j j1 j2
      · refine hj13 () ⟨fun z => ?_, fun z => ?_⟩
        · rcases hor with h | h
          · exact h
          · rw [z] at h; cases h
        · rw [z] at hz
          have hz' : dgt T L (e + ndG T L i e) = false := hz
          rcases (show i = 0 ∨ i = 1 by omega) with rfl | rfl
          · rw [show ndG T L 0 e = 0 from rfl, Nat.add_zero] at hz'
            rw [hz'] at z
            cases b <;> cases z
          · have hw2 : w = 2 := by omega
            subst hw2
            exact (hdg _ hz').1 rfl
  · refine ok_jn1 (fun _ : Unit => (b || !dgt T L e) = true) (fun _ hz => hj2 _ hz.symm) (fun j29 hj29 => ?_)
    rw [h19]
    cases b
    · refine ok_ifT rfl ?_
      rw [m_isDigit (b := false) hT h19 h18 (by omega), bS]
      refine ok_cd (fun hz => hj2 _ ?_) (fun hz => hj29 () ?_)
      · rw [show dgt T L e = true from hz]; rfl
      · rw [show dgt T L e = false from hz]; rfl
    · exact ok_ifF (by decide) (hj29 () rfl)
theorem ok_satG {O : Type} {P : O → Prop} {t : List Nat} {i : Nat} {x : Int32} {k : Int32 → Option O} (hx : x = nI i) (hi : i < t.length) (hl : t.length < 2 ^ 31) (h : Ok (k (nI (t.getD i 0))) P) : Ok (satG t x k) P := by
  subst hx
  unfold satG
  rw [if_neg (vp_in_nI hi hl), nI_clamp (by omega)]; exact h
theorem k_skip {g e : Nat} {b : Bool} {vs : List Nat} (hN : 10 ≤ N) (hT : TXm m a0 L T) (h19 : m a0 19 = nI b.toNat) (h18 : m a0 18 = nI e) (he : e ≤ 61) (hg : wid g = 0) (hg2 : g < 65536) : Ok (fX11_skip N m a0 [g]) (fun r => r a0 19 = nI (stp T L g (b, e, vs)).1.toNat ∧ r a0 18 = nI (stp T L g (b, e, vs)).2.1 ∧ ((stp T L g (b, e, vs)).1 = false → (stp T L g (b, e, vs)).2.2 = vs) ∧ (∀ j, j ≠ 18 → j ≠ 19 → r a0 j = m a0 j) ∧ frm (fun q => q = a0) m r) := by
  unfold fX11_skip
  refine ok_fix2 (fun kk x1 m2 => (kk = 1 ∧ x1 = nI 0 ∧ m2 = m) ∨ (kk = 0 ∧ x1 = nI 1 ∧ m2 a0 19 = nI (stp T L g (b, e, vs)).1.toNat ∧ m2 a0 18 = nI (stp T L g (b, e, vs)).2.1 ∧ ((stp T L g (b, e, vs)).1 = false → (stp T L g (b, e, vs)).2.2 = vs) ∧ (∀ j, j ≠ 18 → j ≠ 19 → m2 a0 j = m a0 j) ∧ frm (fun q => q = a0) m m2)) ?_ N 1 _ _ (by omega) (Or.inl ⟨rfl, rfl, rfl⟩)
  rintro kk self x1 m2 (⟨rfl, rfl, rfl⟩ | ⟨rfl, rfl, hp⟩) hs
  · refine ok_jn1 (fun _ : Unit => b = true) (fun _ hz => ?_) (fun j6 hj6 => ?_)
    · subst hz
      rw [stp_t rfl]
      exact ok_some ⟨h19, h18, fun z => (by cases z), fun _ _ _ => rfl, frm.rf⟩
    · refine ok_le 1 0 (f := fun z => by omega) (g := fun _ => ?_)
      rw [h19]
      cases b
      · refine ok_ifT rfl ?_
        rw [m_behind (x := 0) 0 hT h18 (by omega) (by decide) rfl, bS, Nat.add_zero]
        refine ok_satG rfl (show 0 < 1 by decide) (show 1 < 2 ^ 31 by decide) ?_
        show Ok (jn _ _) _
        have hch := chI_eq (T := T) (e := e) hT.b hg2
        refine ok_jn1 (fun y : Bool => y = !decide (e < L ∧ T e = g)) (fun y hy => ?_) (fun j16 hj16 => ?_)
        · subst hy
          refine ok_lt ?_
          rw [mset_at, b2i_nI]
          refine ok_jn1 (fun y : Bool => y = decide (e < L ∧ T e = g)) (fun y hy => ?_) (fun j22 hj22 => ?_)
          · subst hy
            refine ok_lt (ok_lt ?_)
            refine hs 0 _ _ (by decide) (Or.inr ⟨rfl, rfl, ?_, ?_, ?_, fun j j1 j2 => ?_, frm.set (X := fun q => q = a0) (frm.set (X := fun q => q = a0) frm.rf rfl _ _) rfl _ _⟩)
            · rw [mset_sl _ _ _ _ (by decide), mset_at]
              by_cases hc : e < L ∧ T e = g
              · rw [stp_c hg hc, decide_eq_true hc]; rfl
              · rw [stp_d hg hc, decide_eq_false hc]; rfl
            · rw [mset_at, mset_sl _ _ _ _ (by decide), h18, b2i_nI, nI_add]
              by_cases hc : e < L ∧ T e = g
              · rw [stp_c hg hc, decide_eq_true hc]; rfl
              · rw [stp_d hg hc, decide_eq_false hc]; rfl
            · by_cases hc : e < L ∧ T e = g
              · rw [stp_c hg hc]; exact fun _ => rfl
              · rw [stp_d hg hc]; exact fun _ => rfl
            · rw [mset_sl _ _ _ _ j1, mset_sl _ _ _ _ j2]
          · by_cases hc : e < L ∧ T e = g
            · rw [decide_eq_true hc] at hj22 ⊢
              exact ok_ifT rfl (hj22 _ rfl)
            · rw [decide_eq_false hc] at hj22 ⊢
              exact ok_ifF (by decide) (hj22 _ rfl)
        · show Ok (if chI T L e = nI g then j16 false else j16 true) _
          by_cases hc : e < L ∧ T e = g
          · refine ok_ifT (hch.mpr hc) (hj16 _ ?_)
            rw [decide_eq_true hc]; rfl
          · refine ok_ifF (fun z => hc (hch.mp z)) (hj16 _ ?_)
            rw [decide_eq_false hc]; rfl
      · exact ok_ifF (by decide) (hj6 () rfl)
  · refine ok_jn ?_
    refine ok_le 1 1 (f := fun _ => ok_some hp) (g := fun z => by omega)
/-- the reference's form beside the class's -/
def mdF (f : Nat) : Nat := if f = 1 then 9 else if f = 2 then 10 else if f = 3 then 11 else if f = 4 then 16 else if f = 5 then 12 else if f = 6 then 13 else if f = 7 then 14 else 15
theorem md_len : ∀ c, c < 9 → 1 ≤ c → (sTx (mdF c)).length = (sTx c).length := by decide +kernel
theorem md_num : ∀ c, c < 9 → ∀ i, i < (sTx c).length → 1 ≤ c → wid ((sTx c).getD i 0) ≠ 0 → (sTx (mdF c)).getD i 0 = 48 + wid ((sTx c).getD i 0) := by decide +kernel
theorem md_let1 : ∀ c, c < 9 → ∀ i, i < (sTx c).length → 1 ≤ c → wid ((sTx c).getD i 0) = 0 → (sTx (mdF c)).getD i 0 = (sTx c).getD i 0 := by decide +kernel
theorem md_let2 : ∀ c, c < 9 → ∀ i, i < (sTx c).length → ((sTx c).getD i 0 == 49 || (sTx c).getD i 0 == 50) = false := by decide +kernel
theorem md_let : ∀ c, c < 9 → ∀ i, i < (sTx c).length → 1 ≤ c → wid ((sTx c).getD i 0) = 0 → (sTx (mdF c)).getD i 0 = (sTx c).getD i 0 ∧ (sTx c).getD i 0 ≠ 49 ∧ (sTx c).getD i 0 ≠ 50 := fun c hc i hi h1 hw => by
  have h := md_let2 c hc i hi
  refine ⟨md_let1 c hc i hi h1 hw, fun z => ?_, fun z => ?_⟩
  · rw [z] at h; cases h
  · rw [z] at h; cases h
theorem sg_in : ∀ h, h < 256 → decide ((1 : Int32) ≤ nI h - 48 ∧ nI h - 48 ≤ 2) = (decide (h = 49) || decide (h = 50)) := by decide +kernel
theorem nC_le : ∀ c, c < 9 → ∀ i, i ≤ (sTx c).length → nC c i ≤ 4 := by
  intro c hc i
  induction i with
  | zero => intro _; exact Nat.zero_le _
  | succ i ih =>
    intro hi
    have h1 := ih (by omega)
    have h2 := (shp_fin c hc i (by omega)).2
    show nC c i + (if wid ((sTx c).getD i 0) ≠ 0 then 1 else 0) ≤ 4
    split
    · rename_i z; have := h2 z; omega
    · omega
theorem ok_sub1 {O : Type} {P : O → Prop} {c i : Nat} {x : Int32} {k : List Nat → Option O} (hx : x = nI i) (hi : i < (sTx c).length) (hl : (sTx c).length < 2 ^ 31) (h : Ok (k [(sTx c).getD i 0]) P) : Ok (sub1 c x k) P := by
  subst hx
  unfold sub1
  rw [if_neg (vp_in_nI hi hl), nI_clamp (by omega)]; exact h
theorem ok_fix4' {A1 A2 A3 A4 O : Type} {body : (A1 → A2 → A3 → A4 → Option O) → A1 → A2 → A3 → A4 → Option O} {Post : O → Prop} (J : Nat → A1 → A2 → A3 → A4 → Prop) (hb : ∀ (k : Nat) (self : A1 → A2 → A3 → A4 → Option O) (a1 : A1) (a2 : A2) (a3 : A3) (a4 : A4), J k a1 a2 a3 a4 → (∀ (j : Nat) (b1 : A1) (b2 : A2) (b3 : A3) (b4 : A4), j < k → J j b1 b2 b3 b4 → Ok (self b1 b2 b3 b4) Post) → Ok (body self a1 a2 a3 a4) Post) : ∀ (N k : Nat) (a1 : A1) (a2 : A2) (a3 : A3) (a4 : A4), k < N → J k a1 a2 a3 a4 → Ok (fix4 body N a1 a2 a3 a4) Post := ok_fix4 J hb
theorem k_reads {f k s : Nat} {kd : Int32} (hN : 60 ≤ N) (hT : TXm m a0 L T) (hf1 : 1 ≤ f) (hf8 : f ≤ 8) (h19 : m a0 19 = 0) (h18 : m a0 18 = nI s) (hs : s ≤ 61) (h23 : m a0 23 = nI k) (hk : k ≤ 10) : Ok (fX11_reads N m a0 kd (mdF f)) (fun w => w a0 19 = nI (fin T L f s).1.toNat ∧ w a0 18 = nI (fin T L f s).2.1 ∧ w a0 23 = nI (k + 1) ∧ w (a0 + 11) (5 * k) = kd ∧ ((fin T L f s).1 = false → ∀ j, j < nC f (sTx f).length → w (a0 + 11) (5 * k + 1 + j) = nI ((fin T L f s).2.2.getD j 0)) ∧ (∀ j, j < 5 * k → w (a0 + 11) j = m (a0 + 11) j) ∧ (∀ j, j ≠ 18 → j ≠ 19 → j ≠ 23 → w a0 j = m a0 j) ∧ frm (fun q => q = a0 ∨ q = a0 + 11) m w) := by
  have hlen := (shp_len f (by omega)).1
  have hL := hT.1
  have md1 := md_len f (by omega) hf1
  unfold fX11_reads
  rw [h23, show (5 : Int32) = nI 5 from rfl, pk_mul]
  refine ok_lt ?_
  refine ok_aw (5 * k) rfl (by omega) (by decide) ?_
  refine ok_lt ?_
  rw [mset_ne _ _ _ _ (by omega), h23, nI_1]
  refine ok_fix4 (fun kk x8 x9 m10 κ => ∃ i b e vs, i + kk = (sTx f).length ∧ κ = i ∧ x9 = nI i ∧ x8 = nI (5 * k + nC f i) ∧ sgn T L f s i = (b, e, vs) ∧ m10 a0 19 = nI b.toNat ∧ m10 a0 18 = nI e ∧ m10 a0 23 = nI (k + 1) ∧ m10 (a0 + 11) (5 * k) = kd ∧ (b = false → ∀ j, j < nC f i → m10 (a0 + 11) (5 * k + 1 + j) = nI (vs.getD j 0)) ∧ (∀ j, j < 5 * k → m10 (a0 + 11) j = m (a0 + 11) j) ∧ (∀ j, j ≠ 18 → j ≠ 19 → j ≠ 23 → m10 a0 j = m a0 j) ∧ frm (fun q => q = a0 ∨ q = a0 + 11) m m10) ?_ N (sTx f).length _ _ _ _ (by omega) ⟨0, false, s, [], by omega, rfl, rfl, rfl, rfl, ?_, ?_, mset_at _ _ _ _, ?_, fun _ j hj => absurd hj (Nat.not_lt_zero _), fun j hj => ?_, fun j _ _ j3 => ?_, frm.set (X := fun q => q = a0 ∨ q = a0 + 11) (frm.set (X := fun q => q = a0 ∨ q = a0 + 11) frm.rf (Or.inr rfl) _ _) (Or.inl rfl) _ _⟩
  · rintro kk self x8 x9 m10 κ ⟨i, b, e, vs, hi, rfl, rfl, rfl, hx, k19, k18, k23, kk0, kv, kb, ko, kf⟩ hs1
    have hok := sgn_ok (T := T) (L := L) (c := f) (s := s) κ
    rw [hx] at hok
    dsimp only at hok
    obtain ⟨o1, o2, o3⟩ := hok
    refine ok_gd (by omega) ?_
    unfold sLn
    rw [md1]
    refine ok_le (sTx f).length κ (f := fun hc => ?_) (g := fun hc => ?_)
    · have : κ = (sTx f).length := by omega
      subst this
      refine ok_some ?_
      rw [show fin T L f s = (b, e, vs) from hx]
      exact ⟨k19, k18, k23, kk0, kv, kb, ko, kf⟩
    · have q1 := md_num f (by omega) κ hc hf1
      have q2 := md_let f (by omega) κ hc hf1
      obtain ⟨g1, g2⟩ := shp_fin f (by omega) κ hc
      have hn4 := nC_le f (by omega) κ (by omega)
      have hT10 : TXm m10 a0 L T := hT.mv (ko 17 (by decide) (by decide) (by decide)) (kf _ (by omega))
      have hnC : nC f (κ + 1) = nC f κ + if wid ((sTx f).getD κ 0) ≠ 0 then 1 else 0 := rfl
      have hsg : sgn T L f s (κ + 1) = stp T L ((sTx f).getD κ 0) (b, e, vs) := by rw [sgn_s, hx]
      refine ok_sat rfl (by omega) (by omega) ?_
      refine ok_lt ?_
      generalize hg : (sTx f).getD κ 0 = g at *
      by_cases hw : wid g = 0
      · obtain ⟨u1, u2, u3⟩ := q2 hw
        rw [if_neg (fun z => z hw), Nat.add_zero (nC f κ)] at hnC
        rw [u1, k_inE, bS, sg_in g g1, decide_eq_false u2, decide_eq_false u3]
        refine ok_jn ?_
        refine ok_cdF rfl ?_
        refine ok_sub1 rfl (by omega) (by omega) ?_
        rw [u1]
        refine ok_bind (k_skip (b := b) (e := e) (vs := vs) (by omega) hT10 k19 k18 (by omega) hw (by omega)) ?_
        rintro m3 ⟨r1, r2, r3, r4, r5⟩
        refine ok_lt ?_
        generalize hy : stp T L g (b, e, vs) = y at r1 r2 r3 hsg
        obtain ⟨b', e', vs'⟩ := y
        dsimp only at r1 r2 r3
        refine hs1 (kk - 1) _ _ _ _ (by omega) ⟨κ + 1, b', e', vs', by omega, rfl, nI_1 _, by rw [hnC], hsg, r1, r2, by rw [r4 23 (by decide) (by decide)]; exact k23, by rw [r5 _ (by omega)]; exact kk0, fun z j hj => ?_, fun j hj => by rw [r5 _ (by omega)]; exact kb j hj, fun j j1 j2 j3 => by rw [r4 j j1 j2]; exact ko j j1 j2 j3, kf.tr (r5.mono (fun q hq => Or.inl hq))⟩
        have hb : b = false := by
          cases b
          · rfl
          · rw [stp_t rfl] at hy; cases hy; cases z
        rw [r3 z, r5 _ (by omega)]
        exact kv hb j (by omega)
      · have hw' : wid g = 1 ∨ wid g = 2 := by
          unfold wid at hw ⊢
          split
          · exact Or.inl rfl
          · split
            · exact Or.inr rfl
            · rename_i z1 z2; rw [if_neg z1, if_neg z2] at hw; exact absurd rfl hw
        have u1 := q1 hw
        have g4 := g2 hw
        rw [if_pos hw] at hnC
        have hin : (decide (48 + wid g = 49) || decide (48 + wid g = 50)) = true := by
          rcases hw' with z | z <;> rw [z] <;> rfl
        rw [u1, k_inE, bS, sg_in _ (by omega), hin]
        have ev : nI (48 + wid g) - 48 = nI (wid g) := by
          rw [show (48 : Int32) = nI 48 from rfl, pk_sub (by omega)]; exact congrArg nI (by omega)
        rw [ev]
        refine ok_jn ?_
        refine ok_cdT rfl ?_
        refine ok_lt ?_
        refine ok_bind (k_readsNumber (g := g) (b := b) (e := e) (vs := vs) (by omega) hT10 k19 k18 (by omega) (by omega) rfl) ?_
        rintro ⟨m3, v3⟩ ⟨r1, r2, r3, r4, r5⟩
        dsimp only at r1 r2 r3 r4 r5
        generalize hy : stp T L g (b, e, vs) = y at r1 r2 r3 hsg
        obtain ⟨b', e', vs'⟩ := y
        dsimp only at r1 r2 r3
        refine ok_aw (5 * k + nC f κ + 1) (nI_1 _) (by omega) (by decide) ?_
        refine ok_lt ?_
        dsimp only
        refine hs1 (kk - 1) _ _ _ _ (by omega) ⟨κ + 1, b', e', vs', by omega, rfl, nI_1 _, by rw [hnC]; exact nI_1 _, hsg, ?_, ?_, ?_, ?_, fun z j hj => ?_, fun j hj => ?_, fun j j1 j2 j3 => ?_, frm.set (X := fun q => q = a0 ∨ q = a0 + 11) (kf.tr (r5.mono (fun q hq => Or.inl hq))) (Or.inr rfl) _ _⟩
        · rw [mset_ne _ _ _ _ (by omega)]; exact r1
        · rw [mset_ne _ _ _ _ (by omega)]; exact r2
        · rw [mset_ne _ _ _ _ (by omega), r4 23 (by decide) (by decide)]; exact k23
        · rw [mset_sl _ _ _ _ (by omega), r5 _ (by omega)]; exact kk0
        · have hb : b = false := by
            cases b
            · rfl
            · rw [stp_t rfl] at hy; cases hy; cases z
          obtain ⟨t1, t2⟩ := r3 z
          have hvl := (o3 hb).2.1
          rw [t1]
          by_cases ej : j = nC f κ
          · subst ej
            rw [show 5 * k + 1 + nC f κ = 5 * k + nC f κ + 1 by omega, mset_at, t2, ← hvl, gd_last]
          · rw [mset_sl _ _ _ _ (by omega), r5 _ (by omega), gd_front _ _ _ (by omega)]
            exact kv hb j (by omega)
        · rw [mset_sl _ _ _ _ (by omega), r5 _ (by omega)]; exact kb j hj
        · rw [mset_ne _ _ _ _ (by omega), r4 j j1 j2]; exact ko j j1 j2 j3
  · rw [mset_sl _ _ _ _ (by decide), mset_ne _ _ _ _ (by omega), h19]; rfl
  · rw [mset_sl _ _ _ _ (by decide), mset_ne _ _ _ _ (by omega)]; exact h18
  · rw [mset_ne _ _ _ _ (by omega), mset_at]
  · rw [mset_ne _ _ _ _ (by omega), mset_sl _ _ _ _ (by omega)]
  · rw [mset_sl _ _ _ _ j3, mset_ne _ _ _ _ (by omega)]
end RM
