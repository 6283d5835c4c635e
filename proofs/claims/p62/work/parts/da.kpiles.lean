/-! Pure layer: draws from the script; the law's piles hold. -/
theorem ok_fix5 {A1 A2 A3 A4 A5 O : Type} {body : (A1 → A2 → A3 → A4 → A5 → Option O) → A1 → A2 → A3 → A4 → A5 → Option O} {Post : O → Prop} (J : Nat → A1 → A2 → A3 → A4 → A5 → Prop) (hb : ∀ (k : Nat) (self : A1 → A2 → A3 → A4 → A5 → Option O) (a1 : A1) (a2 : A2) (a3 : A3) (a4 : A4) (a5 : A5), J k a1 a2 a3 a4 a5 → (∀ (j : Nat) (b1 : A1) (b2 : A2) (b3 : A3) (b4 : A4) (b5 : A5), j < k → J j b1 b2 b3 b4 b5 → Ok (self b1 b2 b3 b4 b5) Post) → Ok (body self a1 a2 a3 a4 a5) Post) : ∀ (N k : Nat) (a1 : A1) (a2 : A2) (a3 : A3) (a4 : A4) (a5 : A5), k < N → J k a1 a2 a3 a4 a5 → Ok (fix5 body N a1 a2 a3 a4 a5) Post
  | 0, _, _, _, _, _, _, h, _ => absurd h (Nat.not_lt_zero _)
  | N + 1, k, a1, a2, a3, a4, a5, h, hJ => hb k (fix5 body N) a1 a2 a3 a4 a5 hJ (fun j b1 b2 b3 b4 b5 hj hJ2 => ok_fix5 J hb N j b1 b2 b3 b4 b5 (by omega) hJ2)
theorem u_toI (w : UInt32) : w.toInt32 = nI w.toNat := by
  have h : UInt32.ofNat w.toNat = w := UInt32.ofNat_toNat
  calc w.toInt32 = (UInt32.ofNat w.toNat).toInt32 := by rw [h]
    _ = nI w.toNat := rfl
theorem nI_u {n : Nat} (hn : n < 2 ^ 32) : (nI n).toUInt32.toNat = n := by
  show (UInt32.ofNat n).toNat = n
  rw [UInt32.toNat_ofNat']
  exact Nat.mod_eq_of_lt hn
theorem ush (v : Int32) (k : Nat) (hk : k < 32) (c : UInt32) (hc : c.toNat = k) : (v.toUInt32 >>> c).toInt32 = nI (v.toUInt32.toNat / 2 ^ k) := by
  rw [u_toI, UInt32.toNat_shiftRight, hc, Nat.mod_eq_of_lt hk, Nat.shiftRight_eq_div_pow]
theorem shV (v : Int32) : ∃ d, d < 2 ^ 31 ∧ ((v : Int32).toUInt32 >>> ((1 : Int32).toUInt32 &&& Int32.toUInt32 31)).toInt32 = nI d := by
  refine ⟨v.toUInt32.toNat / 2 ^ 1, ?_, ush v 1 (by decide) _ (by decide)⟩
  have h : v.toUInt32.toNat < 2 ^ 32 := UInt32.toNat_lt _
  omega
theorem shc : ∀ k, k < 32 → ((nI k).toUInt32 &&& Int32.toUInt32 31).toNat = k := by decide +kernel
theorem shN {n : Nat} (k : Nat) (hn : n < 2 ^ 31) (hk : k < 32) : ((nI n : Int32).toUInt32 >>> ((nI k).toUInt32 &&& Int32.toUInt32 31)).toInt32 = nI (n / 2 ^ k) := by
  rw [ush (nI n) k hk _ (shc k hk), nI_u (by omega)]
theorem rmN {a : Nat} (m : Nat) (ha : a < 2 ^ 31) (h0 : 0 < m) (hm : m < 2 ^ 31) : nI a - nI a / nI m * nI m = nI (a % m) := by
  have h1 : nI a / nI m = nI (a / m) := pk_div (a := a) (d := m) ha h0 hm
  have h2 := Nat.div_add_mod a m
  have h3 : a / m * m = m * (a / m) := Nat.mul_comm _ _
  rw [h1, pk_mul, pk_sub (by omega)]
  exact congrArg nI (by omega)
theorem dvN {a : Nat} (m : Nat) (ha : a < 2 ^ 31) (h0 : 0 < m) (hm : m < 2 ^ 31) : nI a / nI m = nI (a / m) := pk_div (a := a) (d := m) ha h0 hm
section PILES
variable {N : Nat} {Z : Nat → Int32}
theorem gR_ga {e x y : Nat} (he : e < eZ Z) (h5 : eZ Z ≤ 5) (hx : x < 4) (hy : y < 4) : gR (aGrainsAt Z (nI e) (nI x) (nI y)) = some (nI (pZ Z e (4 * y + x))) := by
  unfold aGrainsAt
  rw [if_pos ((idx_nI (by omega) (by omega)).mpr he), decide_eq_true ⟨nI_pos' (by omega), nI_le (show x ≤ 3 by omega) (by decide)⟩, decide_eq_true ⟨nI_pos' (by omega), nI_le (show y ≤ 3 by omega) (by decide)⟩, Bool.and_self, if_pos rfl, tn_nI (by omega), tn_nI (by omega), tn_nI (by omega)]
  rfl
theorem k_pile (hN : 1000 ≤ N) {e : Nat} (he : e < eZ Z) (h5 : eZ Z ≤ 5) : Ok (fL_pile N Z 40 (nI e)) (fun m => Pl m (pZ Z e)) := by
  unfold fL_pile
  refine ok_gd (by omega) ?_
  refine ok_fix3 (fun k x2 m κ => ∃ y, y + k = 4 ∧ x2 = nI y ∧ κ = 5 + 8 * y ∧ ∀ b, b < y → ∀ a, a < 4 → m (0 + 1 + 1 * b) a = nI (pZ Z e (4 * b + a))) ?_ N 4 _ _ _ (by omega) ⟨0, rfl, rfl, rfl, fun b hb => absurd hb (Nat.not_lt_zero _)⟩
  rintro k1 self5 x2 m3 κ4 ⟨y, hy, rfl, rfl, hm⟩ hself
  refine ok_le 4 y (f := fun hc => ?_) (g := fun hc => ?_)
  · exact ok_gd (by omega) (ok_some (fun b hb a ha => hm b (by omega) a ha))
  · refine ok_fix3 (fun k x9 m κ => ∃ x, x + k = 4 ∧ x9 = nI x ∧ κ = 5 + 8 * y + 2 * x ∧ (∀ b, b < y → ∀ a, a < 4 → m (0 + 1 + 1 * b) a = nI (pZ Z e (4 * b + a))) ∧ ∀ a, a < x → m (0 + 1 + 1 * y) a = nI (pZ Z e (4 * y + a))) ?_ N 4 _ _ _ (by omega) ⟨0, rfl, rfl, rfl, hm, fun a ha => absurd ha (Nat.not_lt_zero _)⟩
    rintro k2 self12 x9 m10 κ11 ⟨x, hx, rfl, rfl, hm2, hr⟩ hself2
    refine ok_le 4 x (f := fun hc2 => ?_) (g := fun hc2 => ?_)
    · refine ok_lt (hself (k1 - 1) _ _ _ (by omega) ⟨y + 1, by omega, nI_1 _, by omega, fun b hb a ha => ?_⟩)
      by_cases e9 : b = y
      · subst e9
        exact hr a (by omega)
      · exact hm2 b (by omega) a ha
    · refine ok_ar y rfl hc (by decide) (ok_gd (by omega) (ok_bindE (gR_ga he h5 hc2 hc) ?_))
      refine ok_aw x rfl hc2 (by decide) (ok_lt (hself2 (k2 - 1) _ _ _ (by omega) ⟨x + 1, by omega, nI_1 _, by omega, fun b hb a ha => ?_, fun a ha => ?_⟩))
      · rw [mset_el, if_neg (fun z => by omega)]
        exact hm2 b hb a ha
      · rw [mset_el]
        by_cases ea : a = x
        · subst ea
          rw [if_pos ⟨rfl, rfl⟩]
        · rw [if_neg (fun z => ea z.2)]
          exact hr a (by omega)
theorem sm_hole : ∀ a, a < 16 → sm 16 (fun j => if j = a then 0 else 1) = 15 := by decide +kernel
theorem len16 {p : Nat → Nat} {l : List Nat} (hp : stab p) (hl : legal l (fun i => p i + opn i)) (hs : stab (runT l (fun i => p i + opn i))) : l.length = 16 ↔ lasting p := by
  have h1 := dhar_le hp hl
  have h2 := cnt_len l (fun a ha => legal_lt l _ hl a ha)
  rw [← dhar hp hl hs, ← h2]
  constructor
  · intro h a ha
    have h3 := h1 a ha
    rcases (show cnt l a = 1 ∨ cnt l a = 0 by omega) with h4 | h4
    · exact h4
    · have h5 := sm_le (f := cnt l) (g := fun j => if j = a then 0 else 1) 16 (fun j hj => by
        by_cases e : j = a
        · subst e
          show cnt l j ≤ if j = j then 0 else 1
          rw [if_pos rfl, h4]
          exact Nat.le_refl _
        · show cnt l j ≤ if j = a then 0 else 1
          rw [if_neg e]
          exact h1 j hj)
      rw [sm_hole a ha, h] at h5
      omega
  · intro h
    rw [sm_cg (g := fun _ => 1) 16 h]
    rfl
theorem opn_sm : sm 16 opn = 16 := by decide +kernel
theorem pot_more {p : Nat → Nat} (hp : stab p) : pot (fun i => p i + opn i) ≤ 384 := by
  have h1 := pot_le (p := fun i => p i + opn i)
  have h2 : sm 16 (fun i => p i + opn i) = sm 16 p + sm 16 opn := sm_add 16
  have h3 := sm_b (f := p) (c := 3) 16 hp
  rw [opn_sm] at h2
  omega
theorem pot_try {p : Nat → Nat} (hp : stab p) {a g : Nat} (ha : a < 16) (hg : g ≤ 40) : pot (updN p a (p a + g)) ≤ 528 := by
  have h1 := pot_le (p := updN p a (p a + g))
  have h2 := sm_one (f := updN p a (p a + g)) (g := p) (k := a) 16 ha (fun j hj hne => updN_ne p a (p a + g) hne)
  rw [updN_at] at h2
  have h3 := sm_b (f := p) (c := 3) 16 hp
  omega
theorem stab_of {q : Nat → Nat} (h : ∀ i, i < 16 → ¬ 4 ≤ q i) : stab q := fun i hi => by have := h i hi; omega
theorem nat_sh2 (d : Nat) : d / 2 ^ 2 = d / 4 := rfl
theorem nat_sh4 (d : Nat) : d / 2 ^ 4 = d / 16 := rfl
theorem nI_nneg {a b : Nat} (h : a + b < 2 ^ 31) : ¬ nI a + nI b < 0 := by
  rw [nI_add]
  exact nI_pos h
theorem w_gr {e : Nat} (he : e < eZ Z) (h5 : eZ Z ≤ 5) : wL_grains Z (nI e) = nI (grs (pZ Z e)) ∧ wL_dropped Z (nI e) = exY Z e 2 ∧ wL_spilled Z (nI e) = exY Z e 3 ∧ wL_melted Z (nI e) = exY Z e 4 ∧ wL_lasts Z (nI e) = b2i (tB (lasting (pZ Z e))) ∧ wL_byToppling Z (nI e) = b2i (tB (lasting (pZ Z e))) ∧ wL_slope Z (nI e) = nI (slP (pZ Z e)) ∧ wL_slopeByGrains Z (nI e) = nI (slP (pZ Z e)) := by
  refine ⟨?_, ?_, ?_, ?_, ?_, ?_, ?_, ?_⟩
  · unfold wL_grains aGrains; rw [aEx_t he h5]; rfl
  · unfold wL_dropped aDropped; rw [aEx_t he h5]; rfl
  · unfold wL_spilled aSpilled; rw [aEx_t he h5]; rfl
  · unfold wL_melted aMelted; rw [aEx_t he h5]; rfl
  · unfold wL_lasts aLasts; rw [aExB_t he h5]; rfl
  · unfold wL_byToppling aLasts; rw [aExB_t he h5]; rfl
  · unfold wL_slope aSlope; rw [aEx_t he h5]; rfl
  · unfold wL_slopeByGrains aSlope; rw [aEx_t he h5]; rfl
theorem w_tp {e x y g : Nat} (he : e < eZ Z) (h5 : eZ Z ≤ 5) (hx : x < 4) (hy : y < 4) (h1 : 1 ≤ g) (h40 : g ≤ 40) : wL_topplings Z (nI e) (nI x) (nI y) (nI g) = nI (tpN (updN (pZ Z e) (4 * y + x) (pZ Z e (4 * y + x) + g))) := by
  unfold wL_topplings aTop
  have h9 : okD (nI x) (nI y) (nI g) = true := by
    unfold okD
    rw [decide_eq_true ⟨nI_pos' (by omega), nI_le (show x ≤ 3 by omega) (by decide)⟩, decide_eq_true ⟨nI_pos' (by omega), nI_le (show y ≤ 3 by omega) (by decide)⟩, decide_eq_true ⟨nI_le (show 1 ≤ g by omega) (by omega), nI_le (show g ≤ 40 by omega) (by decide)⟩]
    rfl
  rw [if_pos ((idx_nI (by omega) (by omega)).mpr he), if_pos h9, tn_nI (by omega), tn_nI (by omega), tn_nI (by omega), tn_nI (by omega)]
  rfl
theorem w_bad {e : Nat} {x y g : Int32} (he : e < eZ Z) (h5 : eZ Z ≤ 5) (h : okD x y g = false) : wL_topplings Z (nI e) x y g = -12 := by
  unfold wL_topplings aTop
  rw [if_pos ((idx_nI (by omega) (by omega)).mpr he), if_neg (by rw [h]; decide)]
  rfl
theorem okD_41 {x y : Int32} : okD x y 41 = false := by
  unfold okD
  rw [show decide ((1 : Int32) ≤ 41 ∧ (41 : Int32) ≤ 40) = false from rfl, Bool.and_false, Bool.and_false]
theorem okD_x4 {y g : Int32} : okD 4 y g = false := by
  unfold okD
  rw [show decide ((0 : Int32) ≤ 4 ∧ (4 : Int32) ≤ 3) = false from rfl, Bool.false_and]
theorem w_none {v : Int32} (h : idx (eZ Z) v = false) : wL_grains Z v = -11 ∧ wL_grainsAt Z v 0 0 = -11 ∧ wL_lasts Z v = -11 ∧ wL_byToppling Z v = -11 ∧ wL_slope Z v = -11 ∧ wL_slopeByGrains Z v = -11 ∧ wL_dropped Z v = -11 ∧ wL_spilled Z v = -11 ∧ wL_melted Z v = -11 ∧ wL_roomOf Z v = -11 ∧ wL_limit Z v = -11 ∧ (∀ x y g, wL_topplings Z v x y g = -11) ∧ ∀ x y g, wL_byRounds Z v x y g = -11 := by
  have hn : ¬ idx (eZ Z) v = true := by rw [h]; decide
  refine ⟨?_, ?_, ?_, ?_, ?_, ?_, ?_, ?_, ?_, ?_, ?_, fun x y g => ?_, fun x y g => ?_⟩
  · unfold wL_grains aGrains; rw [aEx_f h]; rfl
  · unfold wL_grainsAt aGrainsAt; rw [if_neg hn]; rfl
  · unfold wL_lasts aLasts; rw [aExB_f h]; rfl
  · unfold wL_byToppling aLasts; rw [aExB_f h]; rfl
  · unfold wL_slope aSlope; rw [aEx_f h]; rfl
  · unfold wL_slopeByGrains aSlope; rw [aEx_f h]; rfl
  · unfold wL_dropped aDropped; rw [aEx_f h]; rfl
  · unfold wL_spilled aSpilled; rw [aEx_f h]; rfl
  · unfold wL_melted aMelted; rw [aEx_f h]; rfl
  · unfold wL_roomOf aRoomOf; rw [aEx_f h]; rfl
  · unfold wL_limit aLimit; rw [aEx_f h]; rfl
  · unfold wL_topplings aTop; rw [if_neg hn]; rfl
  · unfold wL_byRounds aTop; rw [if_neg hn]; rfl
def qU (p : Nat → Nat) (j : Nat) : Nat → Nat := fun i => if i < j then p i + opn i else p i
set_option maxHeartbeats 8000000 in
set_option maxRecDepth 100000 in
theorem k_piles {K L : Nat} {xs : Nat → Int32} (hN : 1200000000000 ≤ N) (hsi : SI Z) (h1 : 1 ≤ eZ Z) (hK : 1000 ≤ K) : Ok (fL_piles N Z L xs K) (fun r => r = true) := by
  have hs := SIp_z hsi
  have h5 := hs.2.2.2.2.2.1
  unfold fL_piles
  refine ok_gd (Nat.zero_le _) (ok_lt ?_)
  refine ok_fix2 (fun k x4 κ => ∃ i, i + k = eZ Z ∧ x4 = nI i ∧ κ ≤ i * 140) ?_ N (eZ Z) _ _ (by omega) ⟨0, by omega, rfl, by omega⟩
  rintro k1 self6 x4 κ5 ⟨i, hi, rfl, hκ⟩ hself
  refine ok_le (eZ Z) i (f := fun hc => ?_) (g := fun hc => ?_)
  · obtain ⟨w1, w2, w3, w4, w5, w6, w7, w8, w9, w10, w11, w12, w13⟩ := w_none (Z := Z) (idx_ende h5)
    have hm : wL_byToppling Z (-1) = -11 := (w_none (Z := Z) (idx_m1 (by omega))).2.2.2.1
    have h04 : wL_grainsAt Z 0 4 0 = -12 := by
      have hz : idx (eZ Z) (nI 0) = true := (idx_nI (by omega) (by decide)).mpr (by omega)
      have hz : idx (eZ Z) 0 = true := hz
      unfold wL_grainsAt aGrainsAt
      rw [if_pos hz, if_neg (by decide)]
      rfl
    refine ok_gd (by omega) (ok_jn (ok_jn ?_))
    refine ok_ifT w1 (ok_gd (by omega) ?_)
    refine ok_ifT w2 (ok_gd (by omega) ?_)
    refine ok_ifT h04 (ok_gd (by omega) ?_)
    refine ok_ifT w3 (ok_gd (by omega) ?_)
    refine ok_ifT hm (ok_gd (by omega) ?_)
    refine ok_ifT w5 (ok_gd (by omega) ?_)
    refine ok_ifT w6 (ok_gd (by omega) ?_)
    refine ok_ifT w7 (ok_gd (by omega) ?_)
    refine ok_ifT w8 (ok_gd (by omega) ?_)
    refine ok_ifT w9 (ok_gd (by omega) ?_)
    refine ok_ifT w10 (ok_gd (by omega) ?_)
    refine ok_ifT w11 (ok_gd (by omega) ?_)
    refine ok_ifT (w12 9 9 99) (ok_gd (by omega) ?_)
    refine ok_ifT (w13 0 0 1) ?_
    exact ok_gd (by omega) (ok_some rfl)
  · have hX := SI_ex_z hsi hc
    have hst : stab (pZ Z i) := hX.2.2.2.2.2.1
    have hdr : exY Z i 2 = nI (grs (pZ Z i)) + exY Z i 3 + exY Z i 4 := hX.2.2.2.2.2.2.2.2.2.2
    obtain ⟨g1, g2, g3, g4, g5, g6, g7, g8⟩ := w_gr hc h5
    have hone : nI 1 = 1 := rfl
    refine ok_gd (by omega) (ok_bind (k_pile (by omega) hc h5) ?_)
    intro r48 h48
    refine ok_gd (by omega) (ok_bind (k_pile (by omega) hc h5) ?_)
    intro r51 h51
    refine ok_fix5 (fun k x53 x54 x55 m κ => ∃ y, y + k = 4 ∧ x53 = nI (sm (4 * y) (pZ Z i)) ∧ x54 = nI (mx (4 * y) (slo (pZ Z i))) ∧ x55 = nI y ∧ Pl m (qU (pZ Z i) (4 * y)) ∧ κ = κ5 + 80) ?_ N 4 _ _ _ _ _ (by omega) ⟨0, rfl, rfl, rfl, rfl, h51.cg (fun j hj => by unfold qU; rw [if_neg (by omega)]), rfl⟩
    rintro k2 self58 x53 x54 x55 m56 κ57 ⟨y, hy, rfl, rfl, rfl, hm, rfl⟩ hself2
    refine ok_le 4 y (f := fun hc2 => ?_) (g := fun hc2 => ?_)
    · have y4 : y = 4 := by omega
      subst y4
      have hm : Pl m56 (fun j => pZ Z i j + opn j) := hm.cg (fun j hj => by unfold qU; rw [if_pos (by omega)])
      have hpm := pot_more hst
      refine ok_fix4 (fun k x61 x62 m κ => ∃ j l, j + k = 32 ∧ x62 = nI j ∧ κ = κ5 + 80 ∧ legal l (fun j => pZ Z i j + opn j) ∧ Pl m (runT l (fun j => pZ Z i j + opn j)) ∧ x61 = nI l.length ∧ ∀ a, a < 16 → 4 ≤ runT l (fun j => pZ Z i j + opn j) a → j ≤ a) ?_ N 32 _ _ _ _ (by omega) ⟨0, [], rfl, rfl, rfl, True.intro, hm, rfl, fun _ _ _ => Nat.zero_le _⟩
      rintro k3 self65 x61 x62 m63 κ64 ⟨j, l, hj, rfl, rfl, hl, hml, rfl, hu⟩ hself3
      refine ok_le 32 j (f := fun hc3 => ?_) (g := fun hc3 => ?_)
      · have hsl : stab (runT l (fun j => pZ Z i j + opn j)) := stab_of (fun a ha h4 => by have := hu a ha h4; omega)
        have h16 := len16 hst hl hsl
        have hll : l.length ≤ 192 := by have := pot_run l _ hl; omega
        refine ok_gd (by omega) (ok_gd (nI_nneg (a := 32) (b := i) (by omega)) (ok_lt ?_))
        obtain ⟨dd, hdd, hd⟩ := shV (cellL L xs (32 + nI i))
        rw [hd]
        refine ok_lt ?_
        rw [show nI dd - nI dd / 4 * 4 = nI (dd % 4) from rmN 4 hdd (by decide) (by decide)]
        refine ok_lt ?_
        rw [show ((nI dd : Int32).toUInt32 >>> ((2 : Int32).toUInt32 &&& Int32.toUInt32 31)).toInt32 = nI (dd / 2 ^ 2) from shN 2 hdd (by decide), nat_sh2, show nI (dd / 4) - nI (dd / 4) / 4 * 4 = nI (dd / 4 % 4) from rmN 4 (by omega) (by decide) (by decide)]
        refine ok_lt ?_
        rw [show ((nI dd : Int32).toUInt32 >>> ((4 : Int32).toUInt32 &&& Int32.toUInt32 31)).toInt32 = nI (dd / 2 ^ 4) from shN 4 hdd (by decide), nat_sh4, show nI (dd / 16) - nI (dd / 16) / 40 * 40 = nI (dd / 16 % 40) from rmN 40 (by omega) (by decide) (by decide), show (1 : Int32) + nI (dd / 16 % 40) = nI (1 + dd / 16 % 40) from nI_add 1 _]
        refine ok_lt ?_
        have hx4 : dd % 4 < 4 := by omega
        have hy4 : dd / 4 % 4 < 4 := by omega
        have hg0 : 1 ≤ 1 + dd / 16 % 40 := by omega
        have hg1 : 1 + dd / 16 % 40 ≤ 40 := by omega
        generalize dd % 4 = x at hx4 ⊢
        generalize dd / 4 % 4 = y at hy4 ⊢
        generalize 1 + dd / 16 % 40 = g at hg0 hg1 ⊢
        have ha : 4 * y + x < 16 := by omega
        refine ok_gd (by omega) (ok_bind (k_pile (by omega) hc h5) ?_)
        intro r82 h82
        refine ok_ar y rfl hy4 (by decide) ?_
        refine ok_ag x rfl hx4 (by decide) ?_
        refine ok_aw x rfl hx4 (by decide) ?_
        rw [h82 y hy4 x hx4, nI_add]
        have ht := h82.set hx4 hy4 (v := nI (pZ Z i (4 * y + x) + g)) rfl
        have hpt := pot_try hst ha hg1
        generalize hq9 : updN (pZ Z i) (4 * y + x) (pZ Z i (4 * y + x) + g) = q' at ht hpt
        have w1 := w_tp hc h5 hx4 hy4 hg0 hg1
        rw [hq9] at w1
        have w2 : wL_byRounds Z (nI i) (nI x) (nI y) (nI g) = nI (tpN q') := w1
        have w3 : wL_topplings Z (nI i) (nI x) (nI y) 41 = -12 := w_bad hc h5 okD_41
        have w4 : wL_byRounds Z (nI i) 4 (nI y) 1 = -12 := w_bad hc h5 okD_x4
        refine ok_gd (by omega) (ok_bind (k_topple (by omega) 300 (by omega) (by omega) hx4 hy4 ht) ?_)
        rintro ⟨m2, c2⟩ ⟨l0, hl0, hm0, rfl, hu0⟩
        have hs0 : stab (runT l0 q') := stab_of (fun a ha9 h4 => by
          obtain ⟨e1, e2⟩ := hu0 a ha9 h4
          rw [← hq9, updN_ne _ _ _ e1] at e2
          have := hst a ha9
          omega)
        refine ok_fix4 (fun k x96 x97 m κ => ∃ j l2, j + k = 32 ∧ x97 = nI j ∧ κ = κ5 + 120 ∧ legal l2 q' ∧ Pl m (runT l2 q') ∧ x96 = nI l2.length ∧ stab (runT l2 q')) ?_ N 32 _ _ _ _ (by omega) ⟨0, l0, rfl, rfl, rfl, hl0, hm0, rfl, hs0⟩
        rintro k4 self100 x96 x97 m98 κ99 ⟨j2, l2, hj2, rfl, rfl, hl2, hm2, rfl, hs2⟩ hself4
        refine ok_le 32 j2 (f := fun hc4 => ?_) (g := fun hc4 => ?_)
        · have htn : tpN q' = l2.length := tpN_eq hl2 hs2
          rw [htn] at w1 w2
          refine ok_gd (by omega) (ok_jn (ok_jn ?_))
          refine ok_ifT g1 (ok_gd (by omega) (ok_gd (by omega) (ok_gd (by omega) ?_)))
          refine ok_ifT (by rw [g2, g3, g4, hdr]; rfl) (ok_gd (by omega) ?_)
          refine ok_jn2 (fun b κ => b = tB (lasting (pZ Z i)) ∧ κ ≤ κ5 + 126) ?_ (fun jj hjj => ?_)
          · rintro _ κ ⟨rfl, hκ2⟩
            refine ok_jn (ok_jn ?_)
            refine ok_ifT g5 (ok_gd (by omega) (ok_gd (by omega) ?_))
            refine ok_ifT (by rw [g5, g6]) ?_
            refine ok_jn (ok_cdT rfl (ok_cdT rfl (ok_gd (by omega) ?_)))
            refine ok_ifT g7 (ok_gd (by omega) ?_)
            refine ok_ifT g8 (ok_gd (by omega) ?_)
            refine ok_ifT w1 (ok_gd (by omega) ?_)
            refine ok_ifT w2 (ok_gd (by omega) ?_)
            refine ok_ifT w3 (ok_gd (by omega) ?_)
            refine ok_ifT w4 (ok_lt ?_)
            exact hself (k1 - 1) _ _ (by omega) ⟨i + 1, by omega, nI_1 _, by omega⟩
          · refine ok_eqI l.length 16 (f := fun e => ?_) (g := fun e => ?_)
            · exact hjj _ _ ⟨(tB_t.mpr (h16.mp e)).symm, by omega⟩
            · refine hjj _ _ ⟨?_, by omega⟩
              cases hb : tB (lasting (pZ Z i))
              · rfl
              · exact absurd (h16.mpr (tB_t.mp hb)) e
        · refine ok_gd (by omega) ?_
          rw [show nI j2 - nI j2 / 4 * 4 = nI (j2 % 4) from rmN 4 (by omega) (by decide) (by decide), show nI j2 / 4 = nI (j2 / 4) from dvN 4 (by omega) (by decide) (by decide), show nI (j2 / 4) - nI (j2 / 4) / 4 * 4 = nI (j2 / 4 % 4) from rmN 4 (by omega) (by decide) (by decide)]
          have hpr := pot_run l2 _ hl2
          refine ok_bind (k_topple (by omega) 300 (by omega) (by omega) (show j2 % 4 < 4 by omega) (show j2 / 4 % 4 < 4 by omega) hm2) ?_
          rintro ⟨m3, c3⟩ ⟨l3, hl3, hm3, rfl, hu3⟩
          refine ok_lt (ok_lt (hself4 (k4 - 1) _ _ _ _ (by omega) ⟨j2 + 1, l2 ++ l3, by omega, nI_1 _, rfl, (legal_app _ _ _).mpr ⟨hl2, hl3⟩, by rw [runT_app]; exact hm3, by rw [List.length_append]; exact nI_add _ _, stab_of (fun a ha9 h4 => by
            rw [runT_app] at h4
            have e2 := (hu3 a ha9 h4).2
            have := hs2 a ha9
            omega)⟩))
      · refine ok_gd (by omega) ?_
        rw [show nI j - nI j / 4 * 4 = nI (j % 4) from rmN 4 (by omega) (by decide) (by decide), show nI j / 4 = nI (j / 4) from dvN 4 (by omega) (by decide) (by decide), show nI (j / 4) - nI (j / 4) / 4 * 4 = nI (j / 4 % 4) from rmN 4 (by omega) (by decide) (by decide)]
        have hpr := pot_run l _ hl
        refine ok_bind (k_topple (by omega) 300 (by omega) (by omega) (show j % 4 < 4 by omega) (show j / 4 % 4 < 4 by omega) hml) ?_
        rintro ⟨m3, c3⟩ ⟨l3, hl3, hm3, rfl, hu3⟩
        refine ok_lt (ok_lt (hself3 (k3 - 1) _ _ _ _ (by omega) ⟨j + 1, l ++ l3, by omega, nI_1 _, rfl, (legal_app _ _ _).mpr ⟨hl, hl3⟩, by rw [runT_app]; exact hm3, by rw [List.length_append]; exact nI_add _ _, fun a ha9 h4 => by
          rw [runT_app] at h4
          obtain ⟨e1, e2⟩ := hu3 a ha9 h4
          have := hu a ha9 e2
          omega⟩))
    · refine ok_fix5 (fun k x171 x172 x173 m κ => ∃ x, x + k = 4 ∧ x171 = nI (sm (4 * y + x) (pZ Z i)) ∧ x172 = nI (mx (4 * y + x) (slo (pZ Z i))) ∧ x173 = nI x ∧ Pl m (qU (pZ Z i) (4 * y + x)) ∧ κ = κ5 + 80) ?_ N 4 _ _ _ _ _ (by omega) ⟨0, rfl, rfl, rfl, rfl, hm, rfl⟩
      rintro k3 self176 x171 x172 x173 m174 κ175 ⟨x, hx, rfl, rfl, rfl, hm3, rfl⟩ hself3
      refine ok_le 4 x (f := fun hc3 => ?_) (g := fun hc3 => ?_)
      · have x4 : x = 4 := by omega
        subst x4
        exact ok_lt (hself2 (k2 - 1) _ _ _ _ _ (by omega) ⟨y + 1, by omega, rfl, rfl, nI_1 _, hm3, rfl⟩)
      · have ha : 4 * y + x < 16 := by omega
        have hpa := hst _ ha
        refine ok_ar y rfl hc2 (by decide) ?_
        refine ok_ag x rfl hc3 (by decide) ?_
        rw [h48 y hc2 x hc3, nI_add]
        refine ok_lt (ok_gd (by omega) ?_)
        refine ok_bind (k_slopeFromL (by omega) h48 hst 8 hc3 hc2 (by omega)) ?_
        rintro _ rfl
        refine ok_gd (by omega) ?_
        have h4m := slP_le hst (i := 4 * y + x) (by omega)
        have h4s := slo_le hst ha
        rw [imax_nI (by omega) (by omega)]
        refine ok_lt ?_
        refine ok_ar y rfl hc2 (by decide) ?_
        refine ok_ag x rfl hc3 (by decide) (ok_gd (by omega) ?_)
        rw [hm3 y hc2 x hc3]
        refine ok_bind (k_neighbours hc3 hc2) ?_
        intro r203 hr
        rw [hr, nI_add]
        refine ok_aw x rfl hc3 (by decide) ?_
        have hm4 : Pl (mset m174 (0 + 1 + 1 * y) x (nI (qU (pZ Z i) (4 * y + x) (4 * y + x) + opn (4 * y + x)))) (qU (pZ Z i) (4 * y + x + 1)) := (hm3.set hc3 hc2 rfl).cg (fun j hj => by
          unfold updN qU
          by_cases e : j = 4 * y + x
          · subst e
            rw [if_pos rfl, if_neg (Nat.lt_irrefl _), if_pos (Nat.lt_succ_self _)]
          · rw [if_neg e]
            by_cases e2 : j < 4 * y + x
            · rw [if_pos e2, if_pos (by omega)]
            · rw [if_neg e2, if_neg (by omega)])
        refine ok_ar y rfl hc2 (by decide) ?_
        refine ok_ag x rfl hc3 (by decide) ?_
        rw [h48 y hc2 x hc3]
        refine ok_jn ?_
        refine ok_ltI (pZ Z i (4 * y + x)) 0 (f := fun z => by omega) (g := fun _ => ?_)
        refine ok_ar y rfl hc2 (by decide) ?_
        refine ok_ag x rfl hc3 (by decide) ?_
        rw [h48 y hc2 x hc3]
        refine ok_le (pZ Z i (4 * y + x)) 3 (f := fun _ => ?_) (g := fun z => by omega)
        exact ok_lt (hself3 (k3 - 1) _ _ _ _ _ (by omega) ⟨x + 1, by omega, rfl, rfl, nI_1 _, hm4, rfl⟩)
end PILES
