/-! Pure layer, 25: questions of ways. -/
section QW
variable {N : Nat} {μ ν : Mem} {a0 n ec : Nat} {mn ht : Nat → Nat → Nat} {t : List Nat}
theorem eg_sm (hg : gOK n mn ht) : ∀ a b u, eg n mn mn a b u → eg n mn mn b a u := eg_sym (fun a b => (hg.2 a b).2.2.1) (fun a b => (hg.2 a b).2.2.1)
theorem asksWayM {x y : Int32} (hN : 1200000000000 ≤ N) (hs : SIp (ν (a0 + 1)) n ec mn ht) : Ok (fX11_asksWay N ν a0 x y) (fun r => ((idx n x && idx n y) = false ∧ r = (mset ν a0 6 1, false)) ∨ ∃ a b F S, a < n ∧ b < n ∧ x = nI a ∧ y = nI b ∧ mW n mn b F S ∧ ArN r.1 (a0 + 5) 6 F ∧ ArN r.1 (a0 + 6) 6 S ∧ (∀ b, b < 6 → S b ≤ 100000 ∧ F b ≤ 100000) ∧ frm (fun q => q = a0 ∨ q = a0 + 5 ∨ q = a0 + 6) ν r.1 ∧ (∀ j, j ≠ 6 → r.1 a0 j = ν a0 j) ∧ ((F a < 100000 ∧ r.2 = true ∧ r.1 a0 6 = 0) ∨ (F a = 100000 ∧ r.2 = false ∧ r.1 a0 6 = 2))) := by
  have hn := hs.2.1.1
  unfold fX11_asksWay
  rw [m_isRoom hs.1 hn, bS]
  refine ok_jn1 (fun _ : Unit => (idx n x && idx n y) = false) (fun _ hz => ok_lt (ok_some (Or.inl ⟨hz, rfl⟩))) (fun j3 hj3 => ?_)
  rcases Bool.eq_false_or_eq_true (idx n x) with hx | hx
  rotate_left
  · exact ok_cdF hx (hj3 () (by rw [hx]; rfl))
  · refine ok_cdT hx ?_
    rw [m_isRoom hs.1 hn, bS]
    rcases Bool.eq_false_or_eq_true (idx n y) with hy | hy
    rotate_left
    · exact ok_cdF hy (hj3 () (by rw [hx, hy]; rfl))
    · refine ok_cdT hy ?_
      obtain ⟨a, ha, rfl⟩ := idx_t.mp hx
      obtain ⟨b, hb, rfl⟩ := idx_t.mp hy
      refine ok_bind (k_findsWays hN hs.2.1 (mG_of hs) hb) ?_
      rintro m ⟨F, S, hW, hF, hS, hbd, hf⟩
      refine ok_ag a rfl (by omega) (by decide) ?_
      rw [hF a (by omega)]
      have hFa := (hbd a (by omega)).2
      have h0 : m a0 = ν a0 := hf a0 (by omega)
      refine ok_jn1 (fun v : Int32 => (F a < 100000 ∧ v = 0) ∨ (F a = 100000 ∧ v = 2)) (fun v hv => ?_) (fun j16 hj16 => ?_)
      · refine ok_lt ?_
        refine ok_jn1 (fun b : Bool => (F a < 100000 ∧ v = 0 ∧ b = true) ∨ (F a = 100000 ∧ v = 2 ∧ b = false)) (fun b' hb' => ok_some (Or.inr ?_)) (fun j22 hj22 => ?_)
        · refine ⟨a, b, F, S, ha, hb, rfl, rfl, hW, hF.mv (mset_ne _ _ _ _ (by omega)), hS.mv (mset_ne _ _ _ _ (by omega)), hbd, frm.set (X := fun q => q = a0 ∨ q = a0 + 5 ∨ q = a0 + 6) (hf.mono (fun q hq => Or.inr hq)) (Or.inl rfl) _ _, fun j hj => ?_, ?_⟩
          · show mset m a0 6 v a0 j = _
            rw [mset_sl _ _ _ _ hj, h0]
          · rcases hb' with ⟨h1, rfl, rfl⟩ | ⟨h1, rfl, rfl⟩
            · exact Or.inl ⟨h1, rfl, mset_at _ _ _ _⟩
            · exact Or.inr ⟨h1, rfl, mset_at _ _ _ _⟩
        · rw [mset_at]
          rcases hv with ⟨h1, rfl⟩ | ⟨h1, rfl⟩
          · exact ok_ifT rfl (hj22 _ (Or.inl ⟨h1, rfl, rfl⟩))
          · exact ok_ifF (by decide) (hj22 _ (Or.inr ⟨h1, rfl, rfl⟩))
      · refine ok_eqI (F a) 100000 (f := fun he => hj16 _ (Or.inr ⟨he, rfl⟩)) (g := fun he => hj16 _ (Or.inl ⟨by omega, rfl⟩))
theorem RmM {a b : Nat} {F S : Nat → Nat} (hg : gOK n mn ht) (hb : b < n) (ha : a < n) (hW : mW n mn b F S) : (F a < 100000 ∧ Rm (eg n mn mn) a b (nI (F a))) ∨ (F a = 100000 ∧ Rm (eg n mn mn) a b (-1)) := by
  have hn := hg.1
  rcases hW a (by omega) with ⟨h1, h2⟩ | ⟨h1, h2⟩
  · refine Or.inl ⟨h1, Rm_rev (eg_sm hg) (Or.inl ⟨F a, ⟨_, h2.1⟩, fun k w hw => by have := h2.2 k w hw; omega, ?_, rfl⟩)⟩
    obtain ⟨D8, hD8, h5, hDb8⟩ := dij_ex (f := fun a b => mn a b * 8 + 1) (mn := mn) hn hb (fun a b => by have := (hg.2 a b).1; omega)
    have hFA : cFA = 1000000 := rfl
    rcases ag_of hg hb ⟨hD8, h5, hDb8⟩ hW (show a < 6 by omega) with ⟨q1, q2, q3, -⟩ | ⟨-, q2⟩
    · have := (hDb8 a ha).2 q2
      omega
    · omega
  · exact Or.inr ⟨h1, Rm_rev (eg_sm hg) (Or.inr ⟨h2, rfl⟩)⟩
/-- a question that class and reference answer by a least sum -/
theorem q_sum {r : Int32} {m m' : Mem} {L : List Nat} {v : Int32} (hR : RR m m' a0 t) (hL : L[1]? = some 3) (hc : (r = -1 ∧ m' a0 6 = 2 ∧ v = 0) ∨ (r ≠ -1 ∧ m' a0 6 = 0 ∧ v = r)) : Ok (tb (fX10_presentOnly N m r) fun μ8 r9 => some (μ8, .inr r9) : Option (Mem × (Nat ⊕ Int32))) (fun q => RR q.1 m' a0 t ∧ Sm L q.2 m' a0 v) := by
  unfold fX10_presentOnly
  rcases hc with ⟨rfl, h2, h3⟩ | ⟨h1, h2, h3⟩
  · exact ok_tbL (e := 3) (μ := m) rfl ⟨hR, Or.inr ⟨1, 3, hL, rfl, h2⟩⟩
  · rw [if_neg h1]
    exact ok_tbR (a := r) (μ := m) rfl (ok_some ⟨hR, Or.inl ⟨_, rfl, h2, h3⟩⟩)
theorem Ok.swap {A B : Type} {x : Option A} {y : Option B} {P : A → B → Prop} (h : Ok y fun b => Ok x fun a => P a b) : Ok x fun a => Ok y fun b => P a b := by
  obtain ⟨b, rfl, a, rfl, h⟩ := h
  exact ⟨a, rfl, b, rfl, h⟩
theorem minM {x y : Int32} (hN : 1200000000000 ≤ N) (hs : SIp (ν (a0 + 1)) n ec mn ht) : Ok (fX11_minutes N ν a0 x y) (fun r => ((idx n x && idx n y) = false ∧ r = (mset ν a0 6 1, 0)) ∨ ∃ a b v, a < n ∧ b < n ∧ x = nI a ∧ y = nI b ∧ Rm (eg n mn mn) a b v ∧ ((v = -1 ∧ r.1 a0 6 = 2 ∧ r.2 = 0) ∨ (v ≠ -1 ∧ r.1 a0 6 = 0 ∧ r.2 = v)) ∧ frm (fun q => q = a0 ∨ q = a0 + 5 ∨ q = a0 + 6) ν r.1 ∧ (∀ j, j ≠ 6 → r.1 a0 j = ν a0 j)) := by
  have hn := hs.2.1.1
  unfold fX11_minutes
  refine ok_bind (asksWayM hN hs) ?_
  rintro ⟨m, b⟩ (⟨h1, e⟩ | ⟨a, b', F, S, ha, hb, rfl, rfl, hW, hF, hS, hbd, hf, hsm, hor⟩)
  · cases e
    exact ok_some (Or.inl ⟨h1, rfl⟩)
  · dsimp only at hF hS hf hsm hor
    have hR := RmM hs.2.1 hb ha hW
    refine ok_jn ?_
    rcases hor with ⟨h1, rfl, h3⟩ | ⟨h1, rfl, h3⟩
    · refine ok_cdT rfl ?_
      refine ok_ag a rfl (by omega) (by decide) ?_
      rw [show (m, true).1 = m from rfl, hF a (by omega)]
      rcases hR with ⟨-, h4⟩ | ⟨h4, -⟩
      · exact ok_some (Or.inr ⟨a, b', _, ha, hb, rfl, rfl, h4, Or.inr ⟨nI_m1 (by omega), h3, rfl⟩, hf, hsm⟩)
      · omega
    · rcases hR with ⟨h4, -⟩ | ⟨-, h4⟩
      · omega
      · exact ok_some (Or.inr ⟨a, b', _, ha, hb, rfl, rfl, h4, Or.inl ⟨rfl, h3, rfl⟩, hf, hsm⟩)
theorem q_minutes {x y : Int32} (hN : 1200000000000 ≤ N) (h : RR μ ν a0 t) : Ok (fX10_minutes N μ 0 x y) (fun r => Ok (fX11_minutes N ν a0 x y) (fun r' => RR r.1 r'.1 a0 t ∧ Sm [0, 3] r.2 r'.1 a0 r'.2)) := by
  obtain ⟨n, ec, mn, ht, hs⟩ := h.2.1
  have hn := hs.2.1.1
  refine Ok.swap ((minM hN hs).mono ?_)
  unfold fX10_minutes
  rw [k_pairFault (h.1.1.1.1.trans hs.1) hn, bS]
  rintro ⟨m', v'⟩ (⟨h1, e⟩ | ⟨a, b, v, ha, hb, rfl, rfl, hR, hv, hf, hsm⟩)
  · cases e
    rw [h1]
    exact ok_tbL (e := 0) (μ := μ) rfl ⟨h.th _, Or.inr ⟨0, 0, rfl, rfl, mset_at _ _ _ _⟩⟩
  · dsimp only at hv hf hsm
    rw [(idx_nI (by omega) (by omega)).mpr ha, (idx_nI (by omega) (by omega)).mpr hb]
    refine ok_tbR (a := ()) (μ := μ) rfl ?_
    refine ok_bind (k_minutesBySettling (a0 := 520) (by omega) hs.2.1 (cG_of h.1 hs) (by decide) ha hb) ?_
    rintro ⟨m, r⟩ ⟨hR2, hfm⟩
    dsimp only at hR2 hfm
    rw [Rm_eq hR hR2] at hv
    have hfm' : frm (fun q => 520 ≤ q ∧ q < 538) μ m := hfm
    refine q_sum (h.ask (hfm'.mono (fun q hq => by omega)) ?_ (fun j h6 _ => hsm j h6) (hf.mono (fun q hq => by omega))) rfl hv
    dsimp only
    rw [hfm' _ (by omega)]; exact h.2.2.2.2.2.2.2.1
theorem q_minutesByTable {x y : Int32} (hN : 1200000000000 ≤ N) (h : RR μ ν a0 t) : Ok (fX10_minutesByTable N μ 0 x y) (fun r => Ok (fX11_minutesByTable N ν a0 x y) (fun r' => RR r.1 r'.1 a0 t ∧ Sm [0, 3] r.2 r'.1 a0 r'.2)) := by
  obtain ⟨n, ec, mn, ht, hs⟩ := h.2.1
  have hn := hs.2.1.1
  refine Ok.swap ?_
  unfold fX11_minutesByTable
  refine ok_bind (minM hN hs) ?_
  unfold fX10_minutesByTable
  rw [k_pairFault (h.1.1.1.1.trans hs.1) hn, bS]
  rintro ⟨m', v'⟩ (⟨h1, e⟩ | ⟨a, b, v, ha, hb, rfl, rfl, hR, hv, hf, hsm⟩)
  · cases e
    rw [h1]
    exact ok_some (ok_tbL (e := 0) (μ := μ) rfl ⟨h.th _, Or.inr ⟨0, 0, rfl, rfl, mset_at _ _ _ _⟩⟩)
  · dsimp only at hv hf hsm
    rw [(idx_nI (by omega) (by omega)).mpr ha, (idx_nI (by omega) (by omega)).mpr hb]
    refine ok_some ?_
    refine ok_tbR (a := ()) (μ := μ) rfl ?_
    refine ok_bind (k_fillTable (a0 := 520) (by omega) hs.2.1 (cG_of h.1 hs) (by decide)) ?_
    rintro m ⟨T, hT, hD, hfm, -⟩
    refine ok_bind (k_minutesInTable hn hT (hD a ha) ha hb) ?_
    intro r hR2
    rw [Rm_eq hR hR2] at hv
    have hfm' : frm (fun q => 520 ≤ q ∧ q < 538) μ m := hfm
    refine q_sum (h.ask (hfm'.mono (fun q hq => by omega)) ?_ (fun j h6 _ => hsm j h6) (hf.mono (fun q hq => by omega))) rfl hv
    rw [hfm' _ (by omega)]; exact h.2.2.2.2.2.2.2.1
/-- class and reference find the way, or neither does -/
theorem wayBoth {x y : Int32} (hN : 1200000000000 ≤ N) (h : RR μ ν a0 t) (hs : SIp (ν (a0 + 1)) n ec mn ht) {a b : Nat} (ha : a < n) (hb : b < n) (hx : x = nI a) (hy : y = nI b) : Ok (fX10_wayFault N μ 0 x y) (fun r => Ok (fX11_asksWay N ν a0 x y) (fun r' => RR r.1 r'.1 a0 t ∧ r'.1 (a0 + 1) = ν (a0 + 1) ∧ (∀ q, q < 520 → r.1 q = μ q) ∧ ((r.2 = 4 ∧ r'.2 = false ∧ r'.1 a0 6 = 2) ∨ (r.2 = 0 ∧ r'.2 = true ∧ r'.1 a0 6 = 0 ∧ ∃ d F S, d8 n mn b d ∧ d a < cFA ∧ wayR r.1 520 n mn d a ∧ mW n mn b F S ∧ ArN r'.1 (a0 + 5) 6 F ∧ ArN r'.1 (a0 + 6) 6 S ∧ (∀ b, b < 6 → S b ≤ 100000 ∧ F b ≤ 100000) ∧ F a = d a / 8 ∧ S a = d a % 8)))) := by
  subst hx; subst hy
  have hn := hs.2.1.1
  refine Ok.swap ((asksWayM hN hs).mono ?_)
  rintro ⟨m', b'⟩ (⟨h1, e⟩ | ⟨a', b', F, S, ha', hb', ea, eb, hW, hF, hS, hbd, hf, hsm, hor⟩)
  · rw [(idx_nI (by omega) (by omega)).mpr ha, (idx_nI (by omega) (by omega)).mpr hb] at h1; cases h1
  · have : a = a' := (nI_eq (by omega) (by omega)).mp ea
    subst this
    have : b = b' := (nI_eq (by omega) (by omega)).mp eb
    subst this
    dsimp only at hF hS hf hsm hor
    unfold fX10_wayFault
    refine ok_bind (k_findWay (a0 := 520) (by omega) hs.2.1 (cG_of h.1 hs) (by decide) ha hb) ?_
    rintro ⟨m, bb⟩ ⟨hfm, d, h8, hcase⟩
    dsimp only at hfm hcase
    have hfm' : frm (fun q => 520 ≤ q ∧ q < 538) μ m := hfm
    have hR : RR m m' a0 t := h.ask (hfm'.mono (fun q hq => by omega)) (by rw [hfm' _ (by omega)]; exact h.2.2.2.2.2.2.2.1) (fun j h6 _ => hsm j h6) (hf.mono (fun q hq => by omega))
    have hag := ag_of hs.2.1 hb h8 hW (show a < 6 by omega)
    refine ok_jn ?_
    rcases hcase with ⟨c1, rfl, c3⟩ | ⟨c1, rfl⟩
    · rcases hag with ⟨-, -, g1, g2, g3⟩ | ⟨g1, -⟩
      · rcases hor with ⟨-, o2, o3⟩ | ⟨o1, -⟩
        · exact ok_some ⟨hR, hf _ (by omega), fun q hq => hfm' q (by omega), Or.inr ⟨rfl, o2, o3, d, F, S, h8, c1, c3, hW, hF, hS, hbd, g1, g2⟩⟩
        · omega
      · have := g1 ha; omega
    · rcases hag with ⟨-, g0, -⟩ | ⟨-, g2⟩
      · omega
      · rcases hor with ⟨o1, -⟩ | ⟨-, o2, o3⟩
        · omega
        · exact ok_some ⟨hR, hf _ (by omega), fun q hq => hfm' q (by omega), Or.inl ⟨rfl, o2, o3⟩⟩
theorem q_wayLegs {x y : Int32} (hN : 1200000000000 ≤ N) (h : RR μ ν a0 t) : Ok (fX10_wayLegs N μ 0 x y) (fun r => Ok (fX11_wayLegs N ν a0 x y) (fun r' => RR r.1 r'.1 a0 t ∧ Sm [0, 3] r.2 r'.1 a0 r'.2)) := by
  obtain ⟨n, ec, mn, ht, hs⟩ := h.2.1
  have hn := hs.2.1.1
  unfold fX10_wayLegs fX11_wayLegs
  rw [k_pairFault (h.1.1.1.1.trans hs.1) hn, bS]
  cases hxy : (idx n x && idx n y)
  · refine ok_tbL (e := 0) (μ := μ) rfl ?_
    refine ok_bind (asksWayM hN hs) ?_
    rintro ⟨m, b⟩ (⟨h1, e⟩ | ⟨a, b', F, S, ha, hb, rfl, rfl, -⟩)
    · cases e
      exact ok_some ⟨h.th _, Or.inr ⟨0, 0, rfl, rfl, mset_at _ _ _ _⟩⟩
    · rw [(idx_nI (by omega) (by omega)).mpr ha, (idx_nI (by omega) (by omega)).mpr hb] at hxy; cases hxy
  · rw [Bool.and_eq_true] at hxy
    obtain ⟨a, ha, rfl⟩ := idx_t.mp hxy.1
    obtain ⟨b, hb, rfl⟩ := idx_t.mp hxy.2
    refine ok_tbR (a := ()) (μ := μ) rfl ?_
    refine ok_bind (wayBoth hN h hs ha hb rfl rfl) ?_
    rintro ⟨m, f⟩ ⟨⟨m', g⟩, e1, hR, hV, -, hor⟩
    dsimp only at hR hV hor
    rcases hor with ⟨rfl, rfl, h6⟩ | ⟨rfl, rfl, h6, d, F, S, h8, hlt, hw, hW, hF, hS, hbd, q1, q2⟩
    · refine ok_tbL (e := 3) (μ := m) rfl ?_
      refine ok_bindE e1 ?_
      exact ok_some ⟨hR, Or.inr ⟨1, 3, rfl, rfl, h6⟩⟩
    · refine ok_tbR (a := ()) (μ := m) rfl (ok_some ?_)
      refine ok_bindE e1 ?_
      refine ok_jn ?_
      refine ok_cdT rfl ?_
      refine ok_ag a rfl (by omega) (by decide) ?_
      refine ok_some ⟨hR, Or.inl ⟨_, rfl, h6, ?_⟩⟩
      dsimp only
      rw [hS a (by omega), hw.1, q2]
      exact (nI_pred _).symm
theorem q_wayRoom {x y z : Int32} (hN : 1200000000000 ≤ N) (h : RR μ ν a0 t) : Ok (fX10_wayRoom N μ 0 x y z) (fun r => Ok (fX11_wayRoom N ν a0 x y z) (fun r' => RR r.1 r'.1 a0 t ∧ Sm [0, 3] r.2 r'.1 a0 r'.2)) := by
  obtain ⟨n, ec, mn, ht, hs⟩ := h.2.1
  have hn := hs.2.1.1
  unfold fX10_wayRoom fX11_wayRoom
  rw [k_pairFault (h.1.1.1.1.trans hs.1) hn, bS]
  cases hxy : (idx n x && idx n y)
  · refine ok_tbL (e := 0) (μ := μ) rfl ?_
    refine ok_bind (asksWayM hN hs) ?_
    rintro ⟨m, b⟩ (⟨h1, e⟩ | ⟨a, b', F, S, ha, hb, rfl, rfl, -⟩)
    · cases e
      exact ok_some ⟨h.th _, Or.inr ⟨0, 0, rfl, rfl, mset_at _ _ _ _⟩⟩
    · rw [(idx_nI (by omega) (by omega)).mpr ha, (idx_nI (by omega) (by omega)).mpr hb] at hxy; cases hxy
  · rw [Bool.and_eq_true] at hxy
    obtain ⟨a, ha, rfl⟩ := idx_t.mp hxy.1
    obtain ⟨b, hb, rfl⟩ := idx_t.mp hxy.2
    refine ok_tbR (a := ()) (μ := μ) rfl ?_
    refine ok_bind (wayBoth hN h hs ha hb rfl rfl) ?_
    rintro ⟨m, f⟩ ⟨⟨m', g⟩, e1, hR, hV, -, hor⟩
    dsimp only at hR hV hor
    rcases hor with ⟨rfl, rfl, h6⟩ | ⟨rfl, rfl, h6, d, F, S, h8, hlt, hw, hW, hF, hS, hbd, q1, q2⟩
    · refine ok_tbL (e := 3) (μ := m) rfl ?_
      refine ok_bindE e1 ?_
      exact ok_some ⟨hR, Or.inr ⟨1, 3, rfl, rfl, h6⟩⟩
    · have hS5 := (d8_lex h8 hb ha hlt).2
      have hwy := wy_ok hs.2.1 h8 hb ha hlt
      refine ok_tbR (a := ()) (μ := m) rfl ?_
      have hs' : SIp (m' (a0 + 1)) n ec mn ht := by rw [hV]; exact hs
      have hmod : (∃ k, k ≤ d a % 8 ∧ z = nI k) ∨ ¬ (∃ k, k ≤ d a % 8 ∧ z = nI k) := Classical.em _
      rcases hmod with ⟨k, hk, rfl⟩ | hno
      · refine ok_jn ?_
        refine ok_ifF (nI_pos (by omega)) ?_
        dsimp only
        rw [hw.1]
        refine ok_ifT ((nI_ltI (by omega) (by omega)).mpr (by omega)) ?_
        refine ok_ag k rfl (by omega) (by decide) (ok_some ?_)
        refine ok_bindE e1 ?_
        refine ok_cdT rfl ?_
        refine ok_ag a rfl (by omega) (by decide) ?_
        rw [show (m', true).1 = m' from rfl, hS a (by omega), k_inE, bS]
        refine ok_cdT (decide_eq_true ⟨nI_pos' (by omega), nI_le (by omega) (by omega)⟩) ?_
        refine ok_fix2 (fun kk x8 x9 => ∃ i, i + kk = k ∧ x8 = nI (wy n mn d a i) ∧ x9 = nI i) ?_ N k _ _ (by omega) ⟨0, by omega, rfl, rfl⟩
        rintro kk self x8 x9 ⟨i, hi, rfl, rfl⟩ hs1
        refine ok_le k i (f := fun hc => ?_) (g := fun hc => ?_)
        · refine ok_some ⟨hR, Or.inl ⟨_, rfl, h6, ?_⟩⟩
          dsimp only
          rw [hw.2.2 k hk, show i = k by omega]
        · obtain ⟨w1, w2, -, w4⟩ := hwy i (by omega)
          refine ok_bind (k_next (by omega) hs'.2.1 (mG_of hs') hb h8 hW hF hS hbd w1 w2 (fun e => by have := w4.mp e; omega)) ?_
          rintro _ rfl
          exact ok_lt (hs1 (kk - 1) _ _ (by omega) ⟨i + 1, by omega, rfl, nI_1 _⟩)
      · have hbadC : Ok (some (m, (.inl 3 : Nat ⊕ Int32))) (fun r => Ok ((fX11_asksWay N ν a0 (nI a) (nI b)).bind fun r1 => cond r1.2 (ag (r1.1 (a0 + 6)) 6 (nI a) fun v3 => (fX11_in N r1.1 z 0 v3).bind fun r6 => cond r6 (fix2 (fun self10 (x8 : Int32) (x9 : Int32) => if z ≤ x9 then (some (r1.1, x8)) else ((fX11_next N r1.1 a0 x8).bind fun r13 => lt (x9 + 1) fun v14 => self10 r13 v14)) N (nI a) 0) ((fX11_fails N r1.1 a0 2).bind fun r16 => some (r16.1, r16.2))) (some (r1.1, 0))) (fun r' => RR r.1 r'.1 a0 t ∧ Sm [0, 3] r.2 r'.1 a0 r'.2)) := by
          refine ok_some ?_
          refine ok_bindE e1 ?_
          refine ok_cdT rfl ?_
          refine ok_ag a rfl (by omega) (by decide) ?_
          rw [show (m', true).1 = m' from rfl, hS a (by omega), k_inE, bS]
          refine ok_cdF (decide_eq_false fun zz => hno ?_) ?_
          · obtain ⟨k, -, hk, e⟩ := dec_of (lo := 0) (hi := S a) (by decide) (by omega) (decide_eq_true zz)
            exact ⟨k, by omega, e⟩
          · exact ok_some ⟨hR.th 2, Or.inr ⟨1, 3, rfl, rfl, mset_at _ _ _ _⟩⟩
        refine ok_jn ?_
        refine ok_if (fun h1 => hbadC) (fun h1 => ?_)
        dsimp only
        rw [hw.1]
        refine ok_if (fun h2 => ?_) (fun h2 => hbadC)
        exfalso
        rcases pk_ix z (show d a % 8 + 1 < 2 ^ 31 by omega) with h3 | h3 | ⟨k, hk, rfl⟩
        · exact h1 h3
        · have a1 := Int32.lt_iff_toInt_lt.mp h2
          have a2 := Int32.le_iff_toInt_le.mp h3
          omega
        · exact hno ⟨k, by omega, rfl⟩
end QW
