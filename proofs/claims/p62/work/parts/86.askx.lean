/-! Pure layer, 26: least sums, melting if sent. -/
section QX
variable {N : Nat} {μ ν : Mem} {a0 n ec : Nat} {mn ht : Nat → Nat → Nat} {t : List Nat}
theorem bothB {b c : Bool} {O : Type} {P : O → Prop} {k : Bool → Option O} {x : Option Bool} (hx : x = some c) (hk : Ok (k (b && c)) P) : Ok (jn k fun j3 => jn (fun (_ : Unit) => j3 false) fun j95 => cond b (x.bind fun r99 => cond r99 (j3 true) (j95 ())) (j95 ())) P := by
  subst hx
  cases b
  · exact hk
  · cases c <;> exact hk
theorem leastM_f {x y : Int32} (hs : SIp (ν (a0 + 1)) n ec mn ht) (hf : (idx ec x && idx n y) = false) : fX11_leastPassed N ν a0 x y = some (mset ν a0 6 1, 0) := by
  have key : Ok (fX11_leastPassed N ν a0 x y) (fun r => r = (mset ν a0 6 1, 0)) := by
    unfold fX11_leastPassed
    rw [m_isExhibit hs.2.2.2.2.1 hs.2.2.2.2.2.1, bS]
    refine bothB (m_isRoom hs.1 hs.2.1.1) ?_
    rw [hf, m_isThere, bS]
    exact ok_some rfl
  obtain ⟨r, e, h⟩ := key
  rw [e, h]
theorem leastM_t {e b r l q : Nat} {p fi la fe le : Nat → Nat} (hN : 100 ≤ N) (hs : SIp (ν (a0 + 1)) n ec mn ht) (he : e < ec) (hb : b < n) (hX : EXq n (exY (ν (a0 + 1)) e) r l p q fi la fe le) : Ok (fX11_leastPassed N ν a0 (nI e) (nI b)) (fun s => ∃ v, Rm (eg n mn (fun a b => ht a b - l)) r b v ∧ ((v = -1 ∧ s.1 a0 6 = 2 ∧ s.2 = 0) ∨ (v ≠ -1 ∧ s.1 a0 6 = 0 ∧ s.2 = v)) ∧ frm (fun q => q = a0 ∨ q = a0 + 5) ν s.1 ∧ (∀ j, j ≠ 6 → s.1 a0 j = ν a0 j)) := by
  have hg := hs.2.1
  have hn := hg.1
  have hec := hs.2.2.2.2.2.1
  have he5 : e < 5 := by omega
  obtain ⟨x1, x2, x3, x4, -⟩ := hX
  have hf8 : ∀ a b, ht a b - l ≤ 800 := fun a b => by have := (hg.2 a b).2.1; omega
  have hmsym : ∀ a b, mn a b = mn b a := fun a b => (hg.2 a b).2.2.1
  have hhsym : ∀ a b, ht a b - l = ht b a - l := fun a b => by rw [(hg.2 a b).2.2.2.1]
  unfold fX11_leastPassed
  rw [m_isExhibit hs.2.2.2.2.1 hs.2.2.2.2.2.1, bS, (idx_nI (by omega) (by omega)).mpr he]
  refine bothB (m_isRoom hs.1 hn) ?_
  rw [(idx_nI (by omega) (by omega)).mpr hb, Bool.and_true, m_isThere, bS]
  refine ok_cdT rfl ?_
  have hV : ∀ m : Mem, frm (fun q => q = a0 ∨ q = a0 + 5) ν m → m (a0 + 1) = ν (a0 + 1) := fun m hm => hm _ (by omega)
  have hf0 : frm (fun q => q = a0 ∨ q = a0 + 5) ν (mset ν a0 6 (nI (!true).toNat)) := frm.set (X := fun q => q = a0 ∨ q = a0 + 5) frm.rf (Or.inl rfl) _ _
  refine ok_fix2 (fun k x m => ∃ i, i + k = 6 ∧ x = nI i ∧ frm (fun q => q = a0 ∨ q = a0 + 5) ν m ∧ (∀ j, j ≠ 6 → m a0 j = ν a0 j) ∧ ArN m (a0 + 5) i (fun c => if c = b then 0 else 100000)) ?_ N 6 _ _ (by omega) ⟨0, rfl, rfl, hf0, fun j hj => mset_sl _ _ _ _ hj, fun i hi => absurd hi (Nat.not_lt_zero _)⟩
  rintro k self x m ⟨i, hi, rfl, hf, hsm, hF0⟩ hs0
  refine ok_le 6 i (f := fun hc => ?_) (g := fun hc => ?_)
  · have : i = 6 := by omega
    subst this
    clear hs0
    have hI0 : bfM n mn (fun a b => ht a b - l) b 0 (fun c => if c = b then 0 else 100000) := ⟨if_pos rfl, fun c hc => by
      dsimp only
      by_cases ec : c = b
      · subst ec; rw [if_pos rfl]; exact ⟨by omega, fun _ => ⟨Nat.le_refl _, 0, rfl, rfl⟩⟩
      · rw [if_neg ec]; exact ⟨Nat.le_refl _, fun z => absurd z (Nat.lt_irrefl _)⟩⟩
    refine ok_fix2 (fun k x m => ∃ rd d, rd + k = 6 ∧ x = nI rd ∧ frm (fun q => q = a0 ∨ q = a0 + 5) ν m ∧ (∀ j, j ≠ 6 → m a0 j = ν a0 j) ∧ ArN m (a0 + 5) 6 d ∧ bfM n mn (fun a b => ht a b - l) b (600 * rd) d ∧ (∀ k, k ≤ rd → ∀ c w, wk (eg n mn (fun a b => ht a b - l)) k b c w → d c ≤ w)) ?_ N 6 _ _ (by omega) ⟨0, _, rfl, rfl, hf, hsm, hF0, hI0, fun k hk c w hw => ?_⟩
    · rintro k self x m ⟨rd, d, hrd, rfl, hf, hsm, hd, hI, hkk⟩ hs1
      refine ok_le 6 rd (f := fun hc => ?_) (g := fun hc => ?_)
      · have : rd = 6 := by omega
        subst this
        have hD := bfM_end hn hb hf8 (bfM_up hI (by decide)) hkk
        have hr := hI.2 r (by omega)
        have hR := Rm_of hD x2 (fun hne => by have := (hr.2 (by omega)).1; omega)
        refine ok_bindE (m_of e 0 he5 (by decide) rfl rfl) ?_
        rw [hV m hf]
        have e0 : ν (a0 + 1) (82 + 147 * e + 0) = nI r := x1
        rw [e0]
        refine ok_ag r rfl (by omega) (by decide) ?_
        rw [hd r (by omega)]
        refine ok_jn1 (fun v : Int32 => (d r ≠ 100000 ∧ v = 0) ∨ (d r = 100000 ∧ v = 2)) (fun v hv => ?_) (fun j hj => ?_)
        · refine ok_lt ?_
          have hsymE := eg_sym (n := n) hmsym hhsym
          refine ok_jn1 (fun w : Int32 => (d r ≠ 100000 ∧ v = 0 ∧ w = nI (d r)) ∨ (d r = 100000 ∧ v = 2 ∧ w = 0)) (fun w hw => ok_some ?_) (fun j2 hj2 => ?_)
          · rcases hw with ⟨h1, rfl, rfl⟩ | ⟨h1, rfl, rfl⟩
            · rcases hR with ⟨-, h3⟩ | ⟨h3, -⟩
              · exact ⟨_, Rm_rev hsymE h3, Or.inr ⟨nI_m1 (by omega), mset_at _ _ _ _, rfl⟩, frm.set (X := fun q => q = a0 ∨ q = a0 + 5) hf (Or.inl rfl) _ _, fun j hj => by show mset m a0 6 _ a0 j = _; rw [mset_sl _ _ _ _ hj]; exact hsm j hj⟩
              · exact absurd h3 h1
            · rcases hR with ⟨h3, -⟩ | ⟨-, h3⟩
              · exact absurd h1 h3
              · exact ⟨_, Rm_rev hsymE h3, Or.inl ⟨rfl, mset_at _ _ _ _, rfl⟩, frm.set (X := fun q => q = a0 ∨ q = a0 + 5) hf (Or.inl rfl) _ _, fun j hj => by show mset m a0 6 _ a0 j = _; rw [mset_sl _ _ _ _ hj]; exact hsm j hj⟩
          · rw [mset_at]
            rcases hv with ⟨h1, rfl⟩ | ⟨h1, rfl⟩
            · exact ok_ifT (by decide) (hj2 _ (Or.inl ⟨h1, rfl, rfl⟩))
            · exact ok_ifF (by decide) (hj2 _ (Or.inr ⟨h1, rfl, rfl⟩))
        · exact ok_eqI (d r) 100000 (f := fun hz => hj _ (Or.inr ⟨hz, rfl⟩)) (g := fun hz => hj _ (Or.inl ⟨hz, rfl⟩))
      · refine ok_fix2 (fun k2 x m => ∃ i d', i + k2 = 6 ∧ x = nI i ∧ frm (fun q => q = a0 ∨ q = a0 + 5) ν m ∧ (∀ j, j ≠ 6 → m a0 j = ν a0 j) ∧ ArN m (a0 + 5) 6 d' ∧ bfM n mn (fun a b => ht a b - l) b (600 * rd + 60 * i) d' ∧ (∀ c, c < 6 → d' c ≤ d c) ∧ ∀ a c, a < i → c < 6 → 0 < mn a c → d' a ≤ d c + (ht a c - l)) ?_ N 6 _ _ (by omega) ⟨0, d, rfl, rfl, hf, hsm, hd, hI, fun _ _ => Nat.le_refl _, fun a c ha => absurd ha (Nat.not_lt_zero _)⟩
        rintro k2 self2 x m ⟨i, d', hi, rfl, hf, hsm, hd', hI', hle, hdone⟩ hs2
        refine ok_le 6 i (f := fun hc2 => ?_) (g := fun hc2 => ?_)
        · refine ok_lt ?_
          refine hs1 (k - 1) _ _ (by omega) ⟨rd + 1, d', by omega, nI_1 _, hf, hsm, hd', bfM_up hI' (by omega), fun k hk2 c w hw => ?_⟩
          cases k with
          | zero =>
            obtain ⟨rfl, rfl⟩ := hw
            rw [hI'.1]; exact Nat.le_refl _
          | succ k =>
            obtain ⟨y, v, u, h1, ⟨p1, p2, p3, rfl⟩, rfl⟩ := hw
            have h2 := hkk k (by omega) y v h1
            have h3 := hdone c y (by omega) (by omega) (by rw [hmsym]; exact p3)
            rw [hhsym c y] at h3
            dsimp only
            omega
        · refine ok_fix2 (fun k3 x m => ∃ j g, j + k3 = 6 ∧ x = nI j ∧ frm (fun q => q = a0 ∨ q = a0 + 5) ν m ∧ (∀ j, j ≠ 6 → m a0 j = ν a0 j) ∧ ArN m (a0 + 5) 6 g ∧ bfM n mn (fun a b => ht a b - l) b (600 * rd + 60 * i + 10 * j) g ∧ (∀ c, c < 6 → g c ≤ d c) ∧ ∀ a c, c < 6 → (a < i ∨ (a = i ∧ c < j)) → 0 < mn a c → g a ≤ d c + (ht a c - l)) ?_ N 6 _ _ (by omega) ⟨0, d', rfl, rfl, hf, hsm, hd', hI', hle, fun a c hc hx => hdone a c (by omega) hc⟩
          rintro k3 self3 x m ⟨j, g, hj, rfl, hf, hsm, hgm, hIg, hle, hdone⟩ hs3
          refine ok_le 6 j (f := fun hc3 => ?_) (g := fun hc3 => ?_)
          · refine ok_lt ?_
            exact hs2 (k2 - 1) _ _ (by omega) ⟨i + 1, g, by omega, nI_1 _, hf, hsm, hgm, bfM_up hIg (by omega), hle, fun a c ha hc => hdone a c hc (by omega)⟩
          · have hG : mG m a0 n mn ht := (mG_of hs).mv (fun q _ => by rw [hV m hf])
            have gi := hIg.2 i hc2
            have gj := hIg.2 j hc3
            have hmij := (hg.2 i j).1
            have hhij := (hg.2 i j).2.1
            refine ok_bindE (m_leg hG i j hc2 hc3 rfl rfl) ?_
            refine ok_jn1 (fun y : Bool => (y = true ↔ (0 < mn i j ∧ g j < 100000))) (fun y hy => ?_) (fun j50 hj50 => ?_)
            · refine ok_jn1 (fun v : Int32 => v = nI (if y = true then min (g i) (g j + (ht i j - l)) else g i)) (fun v hv => ?_) (fun j54 hj54 => ?_)
              · subst hv
                refine ok_aw i rfl hc2 (by decide) ?_
                refine ok_lt ?_
                refine hs3 (k3 - 1) _ _ (by omega) ⟨j + 1, updN g i (if y = true then min (g i) (g j + (ht i j - l)) else g i), by omega, nI_1 _, frm.set (X := fun q => q = a0 ∨ q = a0 + 5) hf (Or.inr rfl) _ _, fun q hq => by rw [mset_ne _ _ _ _ (by omega)]; exact hsm q hq, hgm.set i _ rfl, ⟨?_, fun c hc => ?_⟩, fun c hc => ?_, fun a c hc hx hmm => ?_⟩
                · by_cases eb : b = i
                  · subst eb
                    rw [updN_at, hIg.1]
                    split
                    · exact Nat.zero_min _
                    · rfl
                  · rw [updN_ne _ _ _ eb]; exact hIg.1
                · by_cases eci : c = i
                  · subst eci
                    rw [updN_at]
                    by_cases hyy : y = true
                    · rw [if_pos hyy]
                      obtain ⟨h1, h2⟩ := hy.mp hyy
                      obtain ⟨h3, kj, wj⟩ := gj.2 h2
                      refine ⟨by omega, fun hlt => ?_⟩
                      by_cases hmin : g c ≤ g j + (ht c j - l)
                      · rw [Nat.min_eq_left hmin] at hlt ⊢
                        obtain ⟨h5, h6⟩ := gi.2 hlt
                        exact ⟨by omega, h6⟩
                      · rw [Nat.min_eq_right (by omega)] at hlt ⊢
                        have hl := (hg.2 c j).2.2.2.2 h1
                        exact ⟨by omega, kj + 1, j, g j, _, wj, ⟨hl.2.1, hl.1, by rw [hmsym]; exact h1, rfl⟩, by rw [hhsym c j]⟩
                    · rw [if_neg hyy]
                      refine ⟨gi.1, fun hlt => ?_⟩
                      obtain ⟨h5, h6⟩ := gi.2 hlt
                      exact ⟨by omega, h6⟩
                  · rw [updN_ne _ _ _ eci]
                    refine ⟨(hIg.2 c hc).1, fun hlt => ?_⟩
                    obtain ⟨h5, h6⟩ := (hIg.2 c hc).2 hlt
                    exact ⟨by omega, h6⟩
                · by_cases eci : c = i
                  · subst eci
                    rw [updN_at]
                    have := hle c hc
                    split <;> omega
                  · rw [updN_ne _ _ _ eci]; exact hle c hc
                · have hdc := hle j hc3
                  by_cases eai : a = i
                  · subst eai
                    rw [updN_at]
                    by_cases ecj : c = j
                    · subst ecj
                      by_cases hyy : y = true
                      · rw [if_pos hyy]; omega
                      · rw [if_neg hyy]
                        have : ¬ g c < 100000 := fun z => hyy (hy.mpr ⟨hmm, z⟩)
                        have := gi.1
                        omega
                    · have := hdone a c hc (by omega) hmm
                      split <;> omega
                  · rw [updN_ne _ _ _ eai]; exact hdone a c hc (by omega) hmm
              · refine ok_cd (fun hyy => ?_) (fun hyy => ?_)
                · obtain ⟨h1, h2⟩ := hy.mp hyy
                  refine ok_ag i rfl hc2 (by decide) ?_
                  refine ok_ag j rfl hc3 (by decide) ?_
                  rw [hgm i hc2, hgm j hc3]
                  refine ok_bindE (m_heat hG i j hc2 hc3 rfl rfl) ?_
                  refine ok_bindE (m_of e 1 he5 (by decide) rfl rfl) ?_
                  have e1 : m (a0 + 1) (82 + 147 * e + 1) = nI l := by rw [hV m hf]; exact x3
                  rw [e1]
                  refine ok_bindE (show fX11_passed N m (nI (ht i j)) (nI l) = some (nI (ht i j - l)) from congrArg some (passedI (by omega) (by omega))) ?_
                  refine hj54 _ ?_
                  rw [if_pos hyy, nI_add]
                  exact imin_nI (by omega) (by omega)
                · refine ok_ag i rfl hc2 (by decide) ?_
                  rw [hgm i hc2]
                  exact hj54 _ (by rw [if_neg (by rw [hyy]; decide)])
            · refine ok_jn1 (fun _ : Unit => ¬ (0 < mn i j ∧ g j < 100000)) (fun _ hz => hj50 false ⟨fun z => (by cases z), fun z => absurd z hz⟩) (fun j76 hj76 => ?_)
              refine ok_le (mn i j) 0 (f := fun hz => hj76 () (by omega)) (g := fun hz => ?_)
              refine ok_ag j rfl hc3 (by decide) ?_
              rw [hgm j hc3]
              exact ok_le 100000 (g j) (f := fun hz2 => hj76 () (by omega)) (g := fun hz2 => hj50 true ⟨fun _ => ⟨hz, hz2⟩, fun _ => rfl⟩)
    · have : k = 0 := by omega
      subst this
      rw [← hw.1, hw.2]
      rw [if_pos rfl]; exact Nat.le_refl _
  · refine ok_jn1 (fun v : Int32 => v = nI (if i = b then 0 else 100000)) (fun v hv => ?_) (fun j hj => ?_)
    · refine ok_aw i rfl hc (by decide) ?_
      refine ok_lt ?_
      refine hs0 (k - 1) _ _ (by omega) ⟨i + 1, by omega, nI_1 _, frm.set (X := fun q => q = a0 ∨ q = a0 + 5) hf (Or.inr rfl) _ _, fun q hq => by rw [mset_ne _ _ _ _ (by omega)]; exact hsm q hq, fun c hc => ?_⟩
      rw [mset_if]
      by_cases eci : c = i
      · subst eci; rw [if_pos rfl, hv]
      · rw [if_neg eci]; exact hF0 c (by omega)
    · refine ok_eqI i b (f := fun hz => hj _ (by rw [if_pos hz]; rfl)) (g := fun hz => hj _ (by rw [if_neg hz]; rfl))
theorem journF {x y : Int32} (h : RC μ 1 (ν (a0 + 1))) (hs : SIp (ν (a0 + 1)) n ec mn ht) : fX10_journeyFault N μ 0 x y = some (if (idx ec x && idx n y) = true then 0 else 1) := by
  unfold fX10_journeyFault
  rw [k_hasExhibit (h.1.1.2.1.trans hs.2.2.2.2.1) hs.2.2.2.2.2.1, bS]
  cases idx ec x
  · rfl
  · show (jn _ _ : Option Nat) = _
    rw [k_roomIndexFault (h.1.1.1.trans hs.1) hs.2.1.1]
    rfl
theorem q_leastPassed {x y : Int32} (hN : 1200000000000 ≤ N) (h : RR μ ν a0 t) : Ok (fX10_leastPassed N μ 0 x y) (fun r => Ok (fX11_leastPassed N ν a0 x y) (fun r' => RR r.1 r'.1 a0 t ∧ Sm [0, 3] r.2 r'.1 a0 r'.2)) := by
  obtain ⟨n, ec, mn, ht, hs⟩ := h.2.1
  have hn := hs.2.1.1
  have h5 := hs.2.2.2.2.2.1
  refine Ok.swap ?_
  unfold fX10_leastPassed
  rw [journF h.1 hs, bS]
  cases hxy : (idx ec x && idx n y)
  · rw [leastM_f hs hxy]
    exact ok_some (ok_tbL (e := 0) (μ := μ) rfl ⟨h.th _, Or.inr ⟨0, 0, rfl, rfl, mset_at _ _ _ _⟩⟩)
  · rw [Bool.and_eq_true] at hxy
    obtain ⟨e, he, rfl⟩ := idx_t.mp hxy.1
    obtain ⟨b, hb, rfl⟩ := idx_t.mp hxy.2
    obtain ⟨r, l, p, q, fi, la, fe, le, hX⟩ := hs.2.2.2.2.2.2.1 e he
    refine (leastM_t (by omega) hs he hb hX).mono ?_
    rintro ⟨m', v'⟩ ⟨v, hR, hv, hf, hsm⟩
    dsimp only at hv hf hsm
    have hE := h.1.2 e (by omega)
    refine ok_tbR (a := ()) (μ := μ) rfl ?_
    refine ok_ar e rfl (by omega) (by decide) ?_
    refine ok_bind (k_passedBySettling (a0 := 520) (lim := l) (by omega) (by have := hX.2.2.2.1; omega) hs.2.1 (cG_of h.1 hs) (by decide) ⟨hE.1.1.trans hX.1, hE.1.2.1.trans hX.2.2.1⟩ (by omega) hX.2.1 hb) ?_
    rintro ⟨m, r2⟩ ⟨hR2, hfm⟩
    dsimp only at hR2 hfm
    rw [Rm_eq hR hR2] at hv
    have hfm' : frm (fun q => 520 ≤ q ∧ q < 538) μ m := hfm
    refine q_sum (h.ask (hfm'.mono (fun q hq => by omega)) ?_ (fun j h6 _ => hsm j h6) (hf.mono (fun q hq => by omega))) rfl hv
    dsimp only
    rw [hfm' _ (by omega)]; exact h.2.2.2.2.2.2.2.1
theorem q_leastPassedByRounds {x y : Int32} (hN : 1200000000000 ≤ N) (h : RR μ ν a0 t) : Ok (fX10_leastPassedByRounds N μ 0 x y) (fun r => Ok (fX11_leastPassedByRounds N ν a0 x y) (fun r' => RR r.1 r'.1 a0 t ∧ Sm [0, 3] r.2 r'.1 a0 r'.2)) := by
  obtain ⟨n, ec, mn, ht, hs⟩ := h.2.1
  have hn := hs.2.1.1
  have h5 := hs.2.2.2.2.2.1
  refine Ok.swap ?_
  unfold fX10_leastPassedByRounds fX11_leastPassedByRounds
  rw [journF h.1 hs, bS]
  cases hxy : (idx ec x && idx n y)
  · rw [leastM_f hs hxy]
    exact ok_some (ok_tbL (e := 0) (μ := μ) rfl ⟨h.th _, Or.inr ⟨0, 0, rfl, rfl, mset_at _ _ _ _⟩⟩)
  · rw [Bool.and_eq_true] at hxy
    obtain ⟨e, he, rfl⟩ := idx_t.mp hxy.1
    obtain ⟨b, hb, rfl⟩ := idx_t.mp hxy.2
    obtain ⟨r, l, p, q, fi, la, fe, le, hX⟩ := hs.2.2.2.2.2.2.1 e he
    refine ok_bind (leastM_t (by omega) hs he hb hX) ?_
    rintro ⟨m', v'⟩ ⟨v, hR, hv, hf, hsm⟩
    dsimp only at hv hf hsm
    have hE := h.1.2 e (by omega)
    refine ok_some ?_
    refine ok_tbR (a := ()) (μ := μ) rfl ?_
    refine ok_ar e rfl (by omega) (by decide) ?_
    refine ok_bind (k_passedByRounds (a0 := 520) (lim := l) (by omega) (by have := hX.2.2.2.1; omega) hs.2.1 (cG_of h.1 hs) (by decide) ⟨hE.1.1.trans hX.1, hE.1.2.1.trans hX.2.2.1⟩ (by omega) hX.2.1 hb) ?_
    rintro ⟨m, r2⟩ ⟨hR2, hfm⟩
    dsimp only at hR2 hfm
    rw [Rm_eq hR hR2] at hv
    have hfm' : frm (fun q => 520 ≤ q ∧ q < 538) μ m := hfm
    refine q_sum (h.ask (hfm'.mono (fun q hq => by omega)) ?_ (fun j h6 _ => hsm j h6) (hf.mono (fun q hq => by omega))) rfl hv
    dsimp only
    rw [hfm' _ (by omega)]; exact h.2.2.2.2.2.2.2.1
end QX
