/-! Pure layer, 13: the fastest way, room by room. -/
/-- the first index below n with P, or n -/
def fs (P : Nat → Bool) : Nat → Nat
  | 0 => 0
  | n + 1 => if fs P n < n then fs P n else if P n then n else n + 1
theorem fs_le (P : Nat → Bool) : ∀ n, fs P n ≤ n
  | 0 => Nat.le_refl _
  | n + 1 => by
    have := fs_le P n
    unfold fs
    split
    · omega
    · split <;> omega
theorem fs_spec {P : Nat → Bool} : ∀ n, (fs P n < n → P (fs P n) = true) ∧ ∀ i, i < fs P n → P i = false
  | 0 => ⟨fun h => absurd h (Nat.not_lt_zero _), fun i h => absurd h (Nat.not_lt_zero _)⟩
  | n + 1 => by
    obtain ⟨h1, h2⟩ := fs_spec (P := P) n
    have hle := fs_le P n
    unfold fs
    by_cases c : fs P n < n
    · rw [if_pos c]; exact ⟨fun _ => h1 c, h2⟩
    · rw [if_neg c]
      have e : fs P n = n := by omega
      rw [e] at h2
      cases hp : P n
      · rw [if_neg (by decide)]
        refine ⟨fun h => absurd h (Nat.lt_irrefl _), fun i hi => ?_⟩
        by_cases ei : i = n
        · subst ei; exact hp
        · exact h2 i (by omega)
      · rw [if_pos rfl]; exact ⟨fun _ => hp, h2⟩
theorem fs_eq {P : Nat → Bool} {n k : Nat} (hk : k < n) (hp : P k = true) (hlo : ∀ i, i < k → P i = false) : fs P n = k := by
  obtain ⟨h1, h2⟩ := fs_spec (P := P) n
  have hle := fs_le P n
  rcases Nat.lt_trichotomy (fs P n) k with h | h | h
  · have := h1 (by omega)
    rw [hlo _ h] at this; cases this
  · exact h
  · have := h2 k h
    rw [hp] at this; cases this
theorem fs_lt {P : Nat → Bool} {n k : Nat} (hk : k < n) (hp : P k = true) : fs P n < n := by
  obtain ⟨h1, h2⟩ := fs_spec (P := P) n
  have hle := fs_le P n
  refine Classical.byContradiction fun h => ?_
  have := h2 k (by omega)
  rw [hp] at this; cases this
theorem fs_cg {P Q : Nat → Bool} : ∀ n, (∀ i, i < n → P i = Q i) → fs P n = fs Q n
  | 0, _ => rfl
  | n + 1, h => by
    unfold fs
    rw [fs_cg n (fun i hi => h i (by omega)), h n (by omega)]
/-- sums 8 F + S to a room t, as the class has them -/
def d8 (n : Nat) (mn : Nat → Nat → Nat) (t : Nat) (d : Nat → Nat) : Prop := isD (eg n mn (fun a b => mn a b * 8 + 1)) n t cFA d ∧ (∀ b, b < n → d b ≠ cFA → ∃ k, k ≤ 5 ∧ wk (eg n mn (fun a b => mn a b * 8 + 1)) k t b (d b)) ∧ ∀ b, b < n → d b ≤ cFA ∧ (d b < cFA → d b ≤ 4800)
/-- the next room on the fastest way -/
def nxP (mn : Nat → Nat → Nat) (d : Nat → Nat) (room : Nat) : Nat → Bool := fun next => decide (0 < mn room next ∧ mn room next * 8 + 1 + d next = d room)
def nx (n : Nat) (mn : Nat → Nat → Nat) (d : Nat → Nat) (room : Nat) : Nat := fs (nxP mn d room) n
def wy (n : Nat) (mn : Nat → Nat → Nat) (d : Nat → Nat) (from_ : Nat) : Nat → Nat
  | 0 => from_
  | i + 1 => nx n mn d (wy n mn d from_ i)
section WY
variable {N : Nat} {μ : Mem} {a0 a1 n s t : Nat} {mn ht : Nat → Nat → Nat} {d : Nat → Nat}
theorem d8_t (h : d8 n mn t d) (ht1 : t < n) : d t = 0 := by
  rcases h.1 t ht1 with ⟨-, -, l⟩ | ⟨-, l⟩
  · have := l 0 0 ⟨rfl, rfl⟩; omega
  · exact absurd ⟨rfl, rfl⟩ (l 0 0)
theorem d8_lex (h : d8 n mn t d) (ht1 : t < n) {b : Nat} (hb : b < n) (hne : d b < cFA) : isL (eg n mn mn) t b (d b / 8) (d b % 8) ∧ d b % 8 ≤ 5 := by
  rcases lex8 ht1 h.1 h.2.1 hb with ⟨-, h1, h2⟩ | ⟨h1, -⟩
  · exact ⟨h1, h2⟩
  · omega
/-- from a room that is not the end there is a next one, with one leg less to go -/
theorem nx_ok (hg : gOK n mn ht) (h : d8 n mn t d) (ht1 : t < n) {room : Nat} (hr : room < n) (hne : d room < cFA) (hrt : room ≠ t) : nx n mn d room < n ∧ 0 < mn room (nx n mn d room) ∧ d (nx n mn d room) < cFA ∧ d room / 8 = d (nx n mn d room) / 8 + mn room (nx n mn d room) ∧ d room % 8 = d (nx n mn d room) % 8 + 1 := by
  have hlt : nx n mn d room < n := by
    rcases h.1 room hr with ⟨-, ⟨k, w⟩, l⟩ | ⟨h1, -⟩
    · cases k with
      | zero => exact absurd w.1.symm hrt
      | succ k =>
        obtain ⟨y, v, u, w1, ⟨p1, p2, p3, rfl⟩, e⟩ := w
        refine fs_lt (k := y) p1 (decide_eq_true ?_)
        rw [(hg.2 room y).2.2.1]
        refine ⟨p3, ?_⟩
        rcases h.1 y p1 with ⟨-, ⟨k2, w2⟩, l2⟩ | ⟨-, l2⟩
        · have h1 := l2 _ _ w1
          have h2 := l (k2 + 1) (d y + (mn y room * 8 + 1)) ⟨y, d y, _, w2, ⟨p1, p2, p3, rfl⟩, rfl⟩
          dsimp only at e
          omega
        · exact absurd w1 (l2 _ _)
    · omega
  have hp := of_decide_eq_true ((fs_spec (P := nxP mn d room) n).1 hlt)
  have hp2 : 0 < mn room (nx n mn d room) ∧ mn room (nx n mn d room) * 8 + 1 + d (nx n mn d room) = d room := hp
  have hdn : d (nx n mn d room) < cFA := by omega
  have h6 := (d8_lex h ht1 hlt hdn).2
  exact ⟨hlt, hp2.1, hdn, by omega, by omega⟩
theorem nx_t (h : d8 n mn t d) (ht1 : t < n) : nx n mn d t = n := by
  have hle := fs_le (nxP mn d t) n
  refine Classical.byContradiction fun hne => ?_
  have hlt : nx n mn d t < n := by unfold nx at hne ⊢; omega
  have hp := of_decide_eq_true ((fs_spec (P := nxP mn d t) n).1 hlt)
  rw [d8_t h ht1] at hp
  omega
theorem wy_ok (hg : gOK n mn ht) (h : d8 n mn t d) (ht1 : t < n) (hs : s < n) (hne : d s < cFA) : ∀ i, i ≤ d s % 8 → wy n mn d s i < n ∧ d (wy n mn d s i) < cFA ∧ d (wy n mn d s i) % 8 + i = d s % 8 ∧ (wy n mn d s i = t ↔ i = d s % 8)
  | 0, _ => by
    refine ⟨hs, hne, rfl, fun e => ?_, fun e => ?_⟩
    · have e : s = t := e
      subst e
      rw [d8_t h ht1]
    · have hl := (d8_lex h ht1 hs hne).1.1
      rw [← e] at hl
      exact hl.1.symm
  | i + 1, hi => by
    obtain ⟨h1, h2, h3, h4⟩ := wy_ok hg h ht1 hs hne i (by omega)
    have hnt : wy n mn d s i ≠ t := fun z => by have := h4.mp z; omega
    obtain ⟨q1, q2, q3, q4, q5⟩ := nx_ok hg h ht1 h1 h2 hnt
    refine ⟨q1, q3, by show d (nx n mn d (wy n mn d s i)) % 8 + (i + 1) = _; omega, fun e => ?_, fun e => ?_⟩
    · have e : nx n mn d (wy n mn d s i) = t := e
      rw [e, d8_t h ht1] at q5
      omega
    · have hz : d (nx n mn d (wy n mn d s i)) % 8 = 0 := by omega
      have hl := (d8_lex h ht1 q1 q3).1.1
      rw [hz] at hl
      exact hl.1.symm
theorem k_nextRoom {room : Nat} (hN : 10 ≤ N) (hg : gOK n mn ht) (h : d8 n mn t d) (hc : RowsN μ (a0 + 2) n (cst mn (fun a b => mn a b * 8 + 1))) (hd : ArN μ (a0 + 16) n d) (hr : room < n) (hne : d room < cFA) : Ok (fX9_nextRoom N μ a0 (nI room) (nI n)) (fun r => r = nI (if nx n mn d room < n then nx n mn d room else room)) := by
  have hn := hg.1
  have hFA : cFA = 1000000 := rfl
  unfold fX9_nextRoom
  refine ok_fix1 (fun k x => ∃ i, i + k = n ∧ x = nI i ∧ ∀ j, j < i → nxP mn d room j = false) ?_ N n _ (by omega) ⟨0, by omega, rfl, fun j hj => absurd hj (Nat.not_lt_zero _)⟩
  rintro k self x ⟨i, hi, rfl, hlo⟩ hs1
  refine ok_le n i (f := fun hc2 => ?_) (g := fun hc2 => ?_)
  · refine ok_some ?_
    rw [if_neg ?_]
    intro hlt
    have := (fs_spec (P := nxP mn d room) n).1 hlt
    unfold nx at hlt
    rw [hlo _ (by omega)] at this; cases this
  · refine ok_ar room rfl (by omega) (by decide) ?_
    refine ok_ag i rfl (by omega) (by decide) ?_
    refine ok_ag i rfl (by omega) (by decide) ?_
    refine ok_ag room rfl (by omega) (by decide) ?_
    rw [hc room hr i hc2, hd i hc2, hd room hr, nI_add]
    have h1 := (h.2.2 i hc2).1
    have h2 := (hg.2 room i).1
    have hcb : cst mn (fun a b => mn a b * 8 + 1) room i ≤ cFA := by
      unfold cst
      dsimp only
      split <;> omega
    have hP : nxP mn d room i = decide (cst mn (fun a b => mn a b * 8 + 1) room i + d i = d room) := by
      unfold nxP cst
      by_cases hm : 0 < mn room i
      · rw [if_pos hm]
        exact decide_eq_decide.mpr ⟨fun z => z.2, fun z => ⟨hm, z⟩⟩
      · rw [if_neg hm]
        exact decide_eq_decide.mpr ⟨fun z => absurd z.1 hm, fun z => by omega⟩
    refine ok_eqI (cst mn (fun a b => mn a b * 8 + 1) room i + d i) (d room) (f := fun he => ?_) (g := fun he => ?_)
    · refine ok_some ?_
      have e : nx n mn d room = i := fs_eq hc2 (by rw [hP]; exact decide_eq_true he) hlo
      rw [e, if_pos hc2]
    · refine ok_lt ?_
      refine hs1 (k - 1) _ (by omega) ⟨i + 1, by omega, nI_1 _, fun j hj => ?_⟩
      by_cases e : j = i
      · subst e; rw [hP]; exact decide_eq_false he
      · exact hlo j (by omega)
/-- the class finds a way -/
def wayR (μ : Mem) (a0 n : Nat) (mn : Nat → Nat → Nat) (d : Nat → Nat) (s : Nat) : Prop := μ a0 1 = nI (d s % 8 + 1) ∧ μ a0 2 = nI (d s / 8) ∧ ∀ i, i ≤ d s % 8 → μ (a0 + 1) i = nI (wy n mn d s i)
theorem k_findWay (hN : 20 ≤ N) (hg : gOK n mn ht) (h : cG μ a1 n mn ht) (hsep : a1 + 17 ≤ a0) (hs : s < n) (ht1 : t < n) : Ok (fX9_findWay N μ a0 a1 (nI s) (nI t)) (fun r => frm (wFr a0) μ r.1 ∧ ∃ d, d8 n mn t d ∧ ((d s < cFA ∧ r.2 = true ∧ wayR r.1 a0 n mn d s) ∨ (d s = cFA ∧ r.2 = false))) := by
  have hn := hg.1
  have hFA : cFA = 1000000 := rfl
  unfold fX9_findWay
  refine ok_bind (k_weighMinutes (by omega) hg h hsep) ?_
  rintro m1 ⟨hr, hf1⟩
  have hgm : cG m1 a1 n mn ht := h.mv (fun q h1 h2 => hf1 q (by omega))
  rw [hgm.1]
  refine ok_bind (k_settleFrom (by omega) hn ht1 (g800 hg) hr) ?_
  rintro m2 ⟨d, hd, h6, hb, hm2, hf2⟩
  have h8 : d8 n mn t d := ⟨hd, h6, hb⟩
  have hF : frm (wFr a0) μ m2 := (hf1.mono (fun q hq => by show a0 ≤ q ∧ q < a0 + 18; omega)).tr (hf2.mono (fun q hq => by show a0 ≤ q ∧ q < a0 + 18; omega))
  refine ok_lt ?_
  have hF3 : frm (wFr a0) μ (mset m2 a0 1 0) := frm.set (X := wFr a0) hF (show a0 ≤ a0 ∧ a0 < a0 + 18 by omega) _ _
  have hm3 : ArN (mset m2 a0 1 0) (a0 + 16) n d := hm2.mv (mset_ne _ _ _ _ (by omega))
  have hr3 : RowsN (mset m2 a0 1 0) (a0 + 2) n (cst mn (fun a b => mn a b * 8 + 1)) := fun a ha b hb => by
    rw [mset_ne _ _ _ _ (by omega), hf2 _ (by omega)]; exact hr a ha b hb
  refine ok_ag s rfl (by omega) (by decide) ?_
  rw [hm3 s hs]
  have hbs := hb s hs
  refine ok_ltI (d s) cFA (f := fun hc => ?_) (g := fun hc => ?_)
  · refine ok_ag s rfl (by omega) (by decide) ?_
    rw [hm3 s hs, show (8 : Int32) = nI 8 from rfl, pk_div (by omega) (by decide) (by decide)]
    refine ok_lt ?_
    have hw := wy_ok hg h8 ht1 hs hc
    have hS5 := (d8_lex h8 ht1 hs hc).2
    refine ok_fix3 (fun k x14 x15 m => frm (wFr a0) μ m ∧ RowsN m (a0 + 2) n (cst mn (fun a b => mn a b * 8 + 1)) ∧ ArN m (a0 + 16) n d ∧ m a1 0 = nI n ∧ m a0 2 = nI (d s / 8) ∧ ((∃ i, i + k = 7 ∧ i ≤ d s % 8 ∧ x14 = nI (wy n mn d s i) ∧ x15 = nI i ∧ m a0 1 = nI 0 ∧ ∀ j, j < i → m (a0 + 1) j = nI (wy n mn d s j)) ∨ (k = 0 ∧ wayR m a0 n mn d s ∧ ∃ i, i ≤ 6 ∧ x15 = nI i))) ?_ N 7 _ _ _ (by omega) ⟨?_, ?_, ?_, ?_, mset_at _ _ _ _, Or.inl ⟨0, rfl, Nat.zero_le _, rfl, rfl, ?_, fun j hj => absurd hj (Nat.not_lt_zero _)⟩⟩
    · rintro k self x14 x15 m ⟨hf, hrm, hdm, hn0, hmin, hor⟩ hs1
      have done : wayR m a0 n mn d s → Ok (jn (fun (y23 : Bool) => some (m, y23)) fun j24 => if m a0 1 ≤ 0 then j24 false else j24 true) (fun r => frm (wFr a0) μ r.1 ∧ ∃ d, d8 n mn t d ∧ ((d s < cFA ∧ r.2 = true ∧ wayR r.1 a0 n mn d s) ∨ (d s = cFA ∧ r.2 = false))) := fun hwr => by
        refine ok_jn ?_
        rw [hwr.1]
        refine ok_le (d s % 8 + 1) 0 (f := fun z => by omega) (g := fun _ => ?_)
        exact ok_some ⟨hf, d, h8, Or.inl ⟨hc, rfl, hwr⟩⟩
      rcases hor with ⟨i, hi, hiS, rfl, rfl, hst, hway⟩ | ⟨rfl, hwr, i, hi, rfl⟩
      · obtain ⟨w1, w2, w3, w4⟩ := hw i hiS
        refine ok_jn ?_
        refine ok_le 6 i (f := fun z => by omega) (g := fun _ => ?_)
        rw [hst]
        refine ok_ifT rfl ?_
        refine ok_aw i rfl (by omega) (by decide) ?_
        refine ok_jn ?_
        have hf' : frm (wFr a0) μ (mset m (a0 + 1) i (nI (wy n mn d s i))) := frm.set (X := wFr a0) hf (show a0 ≤ a0 + 1 ∧ a0 + 1 < a0 + 18 by omega) _ _
        have hrm' : RowsN (mset m (a0 + 1) i (nI (wy n mn d s i))) (a0 + 2) n (cst mn (fun a b => mn a b * 8 + 1)) := fun a ha b hb => by rw [mset_ne _ _ _ _ (by omega)]; exact hrm a ha b hb
        have hdm' : ArN (mset m (a0 + 1) i (nI (wy n mn d s i))) (a0 + 16) n d := hdm.mv (mset_ne _ _ _ _ (by omega))
        have hway' : ∀ j, j < i + 1 → mset m (a0 + 1) i (nI (wy n mn d s i)) (a0 + 1) j = nI (wy n mn d s j) := fun j hj => by
          rw [mset_if]
          by_cases e : j = i
          · subst e; rw [if_pos rfl]
          · rw [if_neg e]; exact hway j (by omega)
        refine ok_eqI (wy n mn d s i) t (f := fun he => ?_) (g := fun he => ?_)
        · have hiS2 := w4.mp he
          refine ok_lt ?_
          have hrm2 : RowsN (mset (mset m (a0 + 1) i (nI (wy n mn d s i))) a0 1 (nI i + 1)) (a0 + 2) n (cst mn (fun a b => mn a b * 8 + 1)) := fun a ha b hb => by rw [mset_ne _ _ _ _ (by omega)]; exact hrm' a ha b hb
          have hdm2 : ArN (mset (mset m (a0 + 1) i (nI (wy n mn d s i))) a0 1 (nI i + 1)) (a0 + 16) n d := hdm'.mv (mset_ne _ _ _ _ (by omega))
          have e0 : mset (mset m (a0 + 1) i (nI (wy n mn d s i))) a0 1 (nI i + 1) a1 0 = nI n := by rw [mset_ne _ _ _ _ (by omega), mset_ne _ _ _ _ (by omega), hn0]
          dsimp only
          rw [e0]
          refine ok_bind (k_nextRoom (by omega) hg h8 hrm2 hdm2 w1 w2) ?_
          rintro _ -
          refine ok_lt ?_
          refine hs1 0 _ _ _ (by omega) ⟨frm.set (X := wFr a0) hf' (show a0 ≤ a0 ∧ a0 < a0 + 18 by omega) _ _, hrm2, hdm2, e0, ?_, Or.inr ⟨rfl, ⟨?_, ?_, fun j hj => ?_⟩, i + 1, by omega, nI_1 _⟩⟩
          · rw [mset_sl _ _ _ _ (by decide), mset_ne _ _ _ _ (by omega), hmin]
          · rw [mset_at, ← hiS2]; exact nI_1 _
          · rw [mset_sl _ _ _ _ (by decide), mset_ne _ _ _ _ (by omega), hmin]
          · rw [mset_ne _ _ _ _ (by omega)]; exact hway' j (by omega)
        · have hiS2 : i ≠ d s % 8 := fun z => he (w4.mpr z)
          have hnt : wy n mn d s i ≠ t := he
          have hq := nx_ok hg h8 ht1 w1 w2 hnt
          have e0 : mset m (a0 + 1) i (nI (wy n mn d s i)) a1 0 = nI n := by rw [mset_ne _ _ _ _ (by omega), hn0]
          dsimp only
          rw [e0]
          refine ok_bind (k_nextRoom (by omega) hg h8 hrm' hdm' w1 w2) ?_
          rintro _ rfl
          rw [if_pos hq.1]
          refine ok_lt ?_
          refine hs1 (k - 1) _ _ _ (by omega) ⟨hf', hrm', hdm', e0, ?_, Or.inl ⟨i + 1, by omega, by omega, rfl, nI_1 _, ?_, hway'⟩⟩
          · rw [mset_ne _ _ _ _ (by omega), hmin]
          · rw [mset_ne _ _ _ _ (by omega), hst]
      · refine ok_jn ?_
        refine ok_le 6 i (f := fun _ => done hwr) (g := fun _ => ?_)
        refine ok_ifF ?_ (done hwr)
        rw [hwr.1]
        exact nI_ne0 (by omega) (by omega)
    · exact frm.set (X := wFr a0) hF3 (show a0 ≤ a0 ∧ a0 < a0 + 18 by omega) _ _
    · exact fun a ha b hb => by rw [mset_ne _ _ _ _ (by omega)]; exact hr3 a ha b hb
    · exact hm3.mv (mset_ne _ _ _ _ (by omega))
    · rw [mset_ne _ _ _ _ (by omega), mset_ne _ _ _ _ (by omega), hf2 _ (by omega), hf1 _ (by omega), h.1]
    · rw [mset_sl _ _ _ _ (by decide), mset_at]; rfl
  · exact ok_some ⟨hF3, d, h8, Or.inr ⟨by omega, rfl⟩⟩
end WY
