/-! Pure layer: the least of a kind; walks that avoid rooms; what bestWay finds. -/
/-- r is the least number with P, or -1 if there is none -/
def MinI (P : Nat → Prop) (r : Int) : Prop := (r = -1 ∧ ∀ c, ¬ P c) ∨ ∃ c : Nat, r = (c : Int) ∧ P c ∧ ∀ c', P c' → c ≤ c'
theorem MinI.cg {P Q : Nat → Prop} {r : Int} (h : MinI P r) (e : ∀ c, P c ↔ Q c) : MinI Q r := by
  rcases h with ⟨h1, h2⟩ | ⟨c, h1, h2, h3⟩
  · exact Or.inl ⟨h1, fun c z => h2 c ((e c).mpr z)⟩
  · exact Or.inr ⟨c, h1, (e c).mp h2, fun c' z => h3 c' ((e c').mpr z)⟩
theorem MinI.eq {P : Nat → Prop} {r r' : Int} (h : MinI P r) (h' : MinI P r') : r = r' := by
  rcases h with ⟨h1, h2⟩ | ⟨c, h1, h2, h3⟩ <;> rcases h' with ⟨g1, g2⟩ | ⟨d, g1, g2, g3⟩
  · omega
  · exact absurd g2 (h2 d)
  · exact absurd h2 (g2 c)
  · have := h3 d g2
    have := g3 c h2
    omega
/-- the rooms that a set leaves out -/
def rem (G : Nat) : Nat := sm 6 (fun j => (!G.testBit j).toNat)
theorem rem_le (G : Nat) : rem G ≤ 6 := sm_b (c := 1) 6 (fun _ _ => toNat_le1 _)
theorem tb_or {G a i : Nat} : (G ||| 2 ^ a).testBit i = (G.testBit i || decide (a = i)) := by
  rw [Nat.testBit_or, Nat.testBit_two_pow]
theorem rem_s {G x : Nat} (hx : x < 6) (h : G.testBit x = false) : rem (G ||| 2 ^ x) + 1 = rem G := by
  have h1 := sm_one (f := fun j => (!(G ||| 2 ^ x).testBit j).toNat) (g := fun j => (!G.testBit j).toNat) (k := x) 6 hx (fun a ha hne => by
    rw [tb_or, decide_eq_false (fun e => hne e.symm), Bool.or_false])
  rw [tb_or, h, decide_eq_true rfl] at h1
  exact h1
theorem or_64 {G x : Nat} (hG : G < 64) (hx : x < 6) : G ||| 2 ^ x < 64 := Nat.or_lt_two_pow (n := 6) hG (Nat.pow_lt_pow_right (by decide) hx)
theorem gone_or {G x : Nat} (hG : G < 64) (hx : x < 6) : nI G ||| (1 <<< (nI x &&& 31)) = nI (G ||| 2 ^ x) := by
  have : 2 ^ x < 2 ^ 6 := Nat.pow_lt_pow_right (by decide) hx
  rw [shl1 (by omega), orN (by omega) (by omega)]
theorem gone_bit {G x : Nat} (hG : G < 64) (hx : x < 6) : ((nI G >>> (nI x &&& 31)) &&& 1) = 0 ↔ G.testBit x = false := by
  have h1 := bitI1 (L := G) (i := x) (by omega) (by omega)
  constructor
  · intro h
    cases hb : G.testBit x
    · rfl
    · rw [h1.mpr hb] at h; exact absurd h (by decide)
  · intro h
    rw [bitI (by omega) (by omega), h]; rfl
theorem gone_bit' {G x : Nat} (hG : G < 64) (hx : x < 6) (h : G.testBit x = true) : ¬ ((nI G >>> (nI x &&& 31)) &&& 1) = 0 := fun z => by
  have := (gone_bit hG hx).mp z
  rw [h] at this; cases this
theorem rem6_nI {G : Nat} (hG : G < 64) : rem6 (nI G) = rem G := by
  unfold rem6 rem
  refine sm_cg 6 (fun j hj => ?_)
  have h1 := bitI (L := G) (i := j) (by omega) (by omega)
  rw [mask31 (by omega)] at h1
  rw [h1]
  cases G.testBit j
  · rfl
  · exact if_neg (by decide)
theorem ckW_nI {c a G : Nat} (hG : G < 64) (ha : a < 6) : ckW c (nI a) (nI G) = ckF c (rem (G ||| 2 ^ a)) := by
  unfold ckW
  rw [gone_or hG ha, rem6_nI (or_64 hG ha)]
theorem sm_mn {f : Nat → Nat} {j : Nat} : ∀ m, j ≤ m → sm j f ≤ sm m f
  | 0, h => by have : j = 0 := by omega
               subst this; exact Nat.le_refl _
  | m + 1, h => by
    by_cases hj : j = m + 1
    · subst hj; exact Nat.le_refl _
    · have := sm_mn (f := f) (j := j) m (by omega)
      show sm j f ≤ sm m f + f m
      omega
/-- how many of the first j rooms are left -/
def fre (H j : Nat) : Nat := sm j (fun i => (!H.testBit i).toNat)
theorem ck_end {c u H j : Nat} (hu : u * 6 ≤ c) (hj : j ≤ 6) : u * j + fre H j * ckF c (rem H - 1) ≤ ckF c (rem H) := by
  have h1 : fre H j ≤ rem H := sm_mn (f := fun i => (!H.testBit i).toNat) 6 hj
  have h2 : u * j ≤ u * 6 := Nat.mul_le_mul_left u hj
  cases hr : rem H with
  | zero =>
    rw [hr] at h1
    have : fre H j = 0 := by omega
    rw [this, Nat.zero_mul]
    show u * j + 0 ≤ c
    omega
  | succ r =>
    rw [hr] at h1
    have h3 : fre H j * ckF c r ≤ (r + 1) * ckF c r := Nat.mul_le_mul_right _ h1
    show u * j + fre H j * ckF c (r + 1 - 1) ≤ c + (r + 1) * ckF c r
    rw [Nat.add_sub_cancel]
    omega
theorem ck_step {c u H j : Nat} (hj : j < 6) (h : H.testBit j = false) : u * j + fre H j * ckF c (rem H - 1) + u + ckF c (rem (H ||| 2 ^ j)) = u * (j + 1) + fre H (j + 1) * ckF c (rem H - 1) := by
  have h1 := rem_s hj h
  have h2 : fre H (j + 1) = fre H j + 1 := by
    show fre H j + (!H.testBit j).toNat = _
    rw [h]; rfl
  rw [h2, Nat.succ_mul, Nat.mul_add, show rem (H ||| 2 ^ j) = rem H - 1 by omega]
  omega
theorem ck_skip {c u H j : Nat} : u * j + fre H j * ckF c (rem H - 1) + u ≤ u * (j + 1) + fre H (j + 1) * ckF c (rem H - 1) := by
  have h2 : fre H j ≤ fre H (j + 1) := Nat.le_add_right _ _
  have h3 : fre H j * ckF c (rem H - 1) ≤ fre H (j + 1) * ckF c (rem H - 1) := Nat.mul_le_mul_right _ h2
  rw [Nat.mul_add]
  omega
/-- minutes, legs and rooms of a way in one number: a leg before it -/
def stW (c m x : Nat) : Nat := (c + 10000000 * m + 1000000) - (c + 10000000 * m + 1000000) % 1000000 + (c + 10000000 * m + 1000000) % 1000000 / 7 + (x + 1) * 16807
theorem stW_mono {c c' m x : Nat} (h : c ≤ c') : stW c m x ≤ stW c' m x := by unfold stW; omega
theorem stW_bd {c m x : Nat} (hm : m ≤ 99) (hx : x ≤ 5) : stW c m x ≤ c + 1100000000 := by unfold stW; omega
/-- c is a way of k legs from a to b that comes into no room of G -/
def pt (n : Nat) (mn : Nat → Nat → Nat) : Nat → Nat → Nat → Nat → Nat → Prop
  | 0, a, b, _, c => a = b ∧ c = 0
  | k + 1, a, b, G, c => a ≠ b ∧ ∃ x c', x < n ∧ 0 < mn a x ∧ G.testBit x = false ∧ pt n mn k x b (G ||| 2 ^ a) c' ∧ c = stW c' (mn a x) x
theorem jj_bm {n : Int} (h1 : -9223372036854775808 ≤ n) (h2 : n < 9223372036854775808) : n.bmod (2 ^ 64) = n := by
  rw [Int.bmod_def]
  split <;> omega
theorem jj_add {x y : Int64} (h1 : -9223372036854775808 ≤ x.toInt + y.toInt) (h2 : x.toInt + y.toInt < 9223372036854775808) : (x + y).toInt = x.toInt + y.toInt := by rw [Int64.toInt_add, jj_bm h1 h2]
theorem jj_sub {x y : Int64} (h1 : -9223372036854775808 ≤ x.toInt - y.toInt) (h2 : x.toInt - y.toInt < 9223372036854775808) : (x - y).toInt = x.toInt - y.toInt := by rw [Int64.toInt_sub, jj_bm h1 h2]
theorem jj_mul {x y : Int64} (h1 : -9223372036854775808 ≤ x.toInt * y.toInt) (h2 : x.toInt * y.toInt < 9223372036854775808) : (x * y).toInt = x.toInt * y.toInt := by rw [Int64.toInt_mul, jj_bm h1 h2]
theorem jj_div {x y : Int64} {a b : Nat} (hx : x.toInt = (a : Int)) (hy : y.toInt = (b : Int)) (ha : a < 9223372036854775808) : (x / y).toInt = ((a / b : Nat) : Int) := by
  rw [Int64.toInt_div, hx, hy, Int.tdiv_eq_ediv_of_nonneg (by omega), jj_bm]
  · rfl
  · have : 0 ≤ (a : Int) / (b : Int) := Int.ediv_nonneg (by omega) (by omega)
    omega
  · have h : a / b ≤ a := Nat.div_le_self a b
    have e : (a : Int) / (b : Int) = ((a / b : Nat) : Int) := rfl
    omega
section SRCH
variable {n : Nat} {mn ht : Nat → Nat → Nat}
theorem pt_bd (hg : gOK n mn ht) : ∀ (k a b G c : Nat), pt n mn k a b G c → c ≤ 1100000000 * k
  | 0, _, _, _, _, h => by have := h.2; omega
  | k + 1, a, b, G, c, h => by
    obtain ⟨-, x, c', hx, hm, -, h1, rfl⟩ := h
    have h2 := pt_bd hg k _ _ _ _ h1
    have h3 := stW_bd (c := c') (hg.2 a x).1 (show x ≤ 5 by have := hg.1; omega)
    omega
theorem pt_len (hg : gOK n mn ht) : ∀ (k a b G c : Nat), pt n mn k a b G c → k ≤ rem (G ||| 2 ^ a)
  | 0, _, _, _, _, _ => Nat.zero_le _
  | k + 1, a, b, G, c, h => by
    obtain ⟨-, x, c', hx, hm, hG, h1, -⟩ := h
    have h2 := pt_len hg k _ _ _ _ h1
    have hne : a ≠ x := ((hg.2 a x).2.2.2.2 hm).2.2
    have h3 := rem_s (G := G ||| 2 ^ a) (x := x) (by have := hg.1; omega) (by rw [tb_or, hG, decide_eq_false hne]; rfl)
    omega
theorem lj0 {r : Int64} : lg_cmp r 0 < 0 ↔ r.toInt < 0 := by
  rw [lg_cmp_lt, Int64.lt_iff_toInt_lt]; rfl
theorem gj0 {r : Int64} : 0 ≤ lg_cmp r 0 ↔ 0 ≤ r.toInt := by
  rw [lg_cmp_ge, Int64.le_iff_toInt_le]; rfl
theorem nI_npos {k : Nat} (h : k < 2 ^ 31) (h0 : 0 < k) : ¬ nI k ≤ 0 := fun z => by
  rw [Int32.le_iff_toInt_le, nI_toInt h] at z
  have : (0 : Int32).toInt = 0 := rfl
  omega
theorem i64_c (x : Nat) (hx : x < 2 ^ 31) : (Int32.toInt64 (nI x)).toInt = (x : Int) := by rw [Int32.toInt_toInt64, nI_toInt hx]
theorem way_v1 {r : Int64} {c m : Nat} (hr : r.toInt = (c : Int)) (hc : c ≤ 10000000000) (hm : m ≤ 99) : ((r + ((10000000 : Int64) * (Int32.toInt64 (nI m)))) + (1000000 : Int64)).toInt = ((c + 10000000 * m + 1000000 : Nat) : Int) := by
  have h1 := i64_c m (by omega)
  have e7 : (10000000 : Int64).toInt = 10000000 := rfl
  have e6 : (1000000 : Int64).toInt = 1000000 := rfl
  have h2 : ((10000000 : Int64) * (Int32.toInt64 (nI m))).toInt = 10000000 * (m : Int) := by
    rw [jj_mul (by rw [h1, e7]; omega) (by rw [h1, e7]; omega), h1, e7]
  have h3 : (r + ((10000000 : Int64) * (Int32.toInt64 (nI m)))).toInt = c + 10000000 * (m : Int) := by
    rw [jj_add (by rw [h2, hr]; omega) (by rw [h2, hr]; omega), h2, hr]
  rw [jj_add (by rw [h3, e6]; omega) (by rw [h3, e6]; omega), h3, e6]
  omega
theorem way_v2 {w : Int64} {v x : Nat} (hw : w.toInt = (v : Int)) (hv : v ≤ 20000000000) (hx : x ≤ 5) : (((w - (w - w / (1000000 : Int64) * (1000000 : Int64))) + ((w - w / (1000000 : Int64) * (1000000 : Int64)) / (7 : Int64))) + (((Int32.toInt64 (nI x)) + (1 : Int64)) * (16807 : Int64))).toInt = ((v - v % 1000000 + v % 1000000 / 7 + (x + 1) * 16807 : Nat) : Int) := by
  have e7 : (7 : Int64).toInt = 7 := rfl
  have e6 : (1000000 : Int64).toInt = 1000000 := rfl
  have e1 : (1 : Int64).toInt = 1 := rfl
  have e5 : (16807 : Int64).toInt = 16807 := rfl
  have h1 : (w - w / (1000000 : Int64) * (1000000 : Int64)).toInt = ((v % 1000000 : Nat) : Int) := by
    have g1 := jj_div (a := v) (b := 1000000) hw e6 (by omega)
    have g2 : (w / (1000000 : Int64) * (1000000 : Int64)).toInt = ((v / 1000000 * 1000000 : Nat) : Int) := by
      rw [jj_mul (by rw [g1, e6]; omega) (by rw [g1, e6]; omega), g1, e6]; omega
    rw [jj_sub (by rw [hw, g2]; omega) (by rw [hw, g2]; omega), hw, g2]; omega
  generalize w - w / (1000000 : Int64) * (1000000 : Int64) = q at h1 ⊢
  have h2 : (w - q).toInt = (v : Int) - (v % 1000000 : Nat) := by
    rw [jj_sub (by rw [hw, h1]; omega) (by rw [hw, h1]; omega), hw, h1]
  have h3 : (q / (7 : Int64)).toInt = ((v % 1000000 / 7 : Nat) : Int) := by
    exact jj_div (b := 7) h1 e7 (by omega)
  have hxi := i64_c x (by omega)
  have h4 : (Int32.toInt64 (nI x) + (1 : Int64)).toInt = (x : Int) + 1 := by
    rw [jj_add (by rw [hxi, e1]; omega) (by rw [hxi, e1]; omega), hxi, e1]
  have h5 : ((Int32.toInt64 (nI x) + (1 : Int64)) * (16807 : Int64)).toInt = ((x : Int) + 1) * 16807 := by
    rw [jj_mul (by rw [h4, e5]; omega) (by rw [h4, e5]; omega), h4, e5]
  have h6 : ((w - q) + (q / (7 : Int64))).toInt = (v : Int) - (v % 1000000 : Nat) + ((v % 1000000 / 7 : Nat) : Int) := by
    rw [jj_add (by rw [h2, h3]; omega) (by rw [h2, h3]; omega), h2, h3]
  rw [jj_add (by rw [h6, h5]; omega) (by rw [h6, h5]; omega), h6, h5]
  omega
end SRCH
theorem wl_lm {Z : Nat → Int32} {a b : Nat} (hn : nZ Z ≤ 6) (ha : a < nZ Z) (hb : b < nZ Z) : wL_legMinutes Z (nI a) (nI b) = if 0 < mZ Z a b then nI (mZ Z a b) else -13 := by
  unfold wL_legMinutes aLeg
  rw [aPr_t ha hb hn]
  split <;> rfl
theorem wl_lw {Z : Nat → Int32} {a b : Nat} (hn : nZ Z ≤ 6) (ha : a < nZ Z) (hb : b < nZ Z) : wL_legWarmth Z (nI a) (nI b) = if 0 < mZ Z a b then nI (hZ Z a b) else -13 := by
  unfold wL_legWarmth aLeg
  rw [aPr_t ha hb hn]
  split <;> rfl
theorem k_bestWay {N : Nat} {Z : Nat → Int32} (hN : 10 ≤ N) (hs : SIp Z (nZ Z) (eZ Z) (mZ Z) (hZ Z)) : ∀ (lv a b G : Nat), a < nZ Z → b < nZ Z → G < 64 → rem (G ||| 2 ^ a) < lv → Ok (fL_bestWay N lv Z (nI a) (nI b) (nI G)) (fun r => MinI (fun c => ∃ k, pt (nZ Z) (mZ Z) k a b G c) r.toInt)
  | 0, _, _, _, _, _, _, h => absurd h (Nat.not_lt_zero _)
  | lv + 1, a, b, G, ha, hb, hG, hlv => by
    have hg := hs.2.1
    have hn := hg.1
    have hH := or_64 hG (show a < 6 by omega)
    have hck := ckW_nI (c := 7) hG (show a < 6 by omega)
    unfold fL_bestWay
    rw [hck]
    by_cases hab : a = b
    · refine ok_jn ?_
      refine ok_ifT (congrArg nI hab) ?_
      refine ok_fix3 (fun k x8 x9 κ => x8 = (0 : Int64) ∧ x9 = 0 ∧ κ = 0) ?_ N 0 _ _ _ (by omega) ⟨rfl, rfl, rfl⟩
      rintro k self x8 x9 κ ⟨rfl, rfl, rfl⟩ -
      refine ok_gd (Nat.zero_le _) ?_
      have fin : Ok (gd (0 ≤ ckF 7 (rem (G ||| 2 ^ a))) (some (0 : Int64))) (fun r => MinI (fun c => ∃ k, pt (nZ Z) (mZ Z) k a b G c) r.toInt) := ok_gd (Nat.zero_le _) (ok_some (Or.inr ⟨0, rfl, ⟨0, hab, rfl⟩, fun _ _ => Nat.zero_le _⟩))
      refine ok_jn ?_
      exact ok_if (fun _ => fin) (fun _ => ok_ifT (congrArg nI hab) fin)
    · have hne : ¬ nI a = nI b := fun z => hab ((nI_eq (by omega) (by omega)).mp z)
      refine ok_jn ?_
      refine ok_ifF hne ?_
      refine ok_fix3 (fun k x8 x9 κ => ∃ j, j + k = nZ Z ∧ x9 = nI j ∧ MinI (fun c => ∃ x k c', x < j ∧ 0 < mZ Z a x ∧ G.testBit x = false ∧ pt (nZ Z) (mZ Z) k x b (G ||| 2 ^ a) c' ∧ c = stW c' (mZ Z a x) x) x8.toInt ∧ κ ≤ 1 * j + fre (G ||| 2 ^ a) j * ckF 7 (rem (G ||| 2 ^ a) - 1)) ?_ N (nZ Z) _ _ _ (by omega) ⟨0, by omega, rfl, Or.inl ⟨rfl, fun c z => by obtain ⟨x, k, c', h, -⟩ := z; omega⟩, by omega⟩
      rintro kk self x8 x9 κ ⟨j, hj, rfl, hM, hκ⟩ hself
      have hce := ck_end (c := 7) (u := 1) (H := G ||| 2 ^ a) (j := j) (by decide) (by omega)
      refine ok_gd (by omega) ?_
      refine ok_jn ?_
      refine ok_le (nZ Z) j (f := fun hc => ?_) (g := fun hc => ?_)
      · have hjn : j = nZ Z := by omega
        subst hjn
        refine ok_gd (by omega) (ok_some (hM.cg (fun c => ?_)))
        constructor
        · rintro ⟨x, k, c', h1, h2, h3, h4, h5⟩
          exact ⟨k + 1, hab, x, c', h1, h2, h3, h4, h5⟩
        · rintro ⟨k, hk⟩
          cases k with
          | zero => exact absurd hk.1 hab
          | succ k =>
            obtain ⟨-, x, c', h1, h2, h3, h4, h5⟩ := hk
            exact ⟨x, k, c', h1, h2, h3, h4, h5⟩
      · refine ok_ifF hne ?_
        have hsk := ck_skip (c := 7) (u := 1) (H := G ||| 2 ^ a) (j := j)
        have hce1 := ck_end (c := 7) (u := 1) (H := G ||| 2 ^ a) (j := j + 1) (by decide) (by omega)
        refine ok_gd (by omega) ?_
        have none_j : (∀ k c', 0 < mZ Z a j → G.testBit j = false → ¬ pt (nZ Z) (mZ Z) k j b (G ||| 2 ^ a) c') → ∀ c, (∃ x k c', x < j ∧ 0 < mZ Z a x ∧ G.testBit x = false ∧ pt (nZ Z) (mZ Z) k x b (G ||| 2 ^ a) c' ∧ c = stW c' (mZ Z a x) x) ↔ ∃ x k c', x < j + 1 ∧ 0 < mZ Z a x ∧ G.testBit x = false ∧ pt (nZ Z) (mZ Z) k x b (G ||| 2 ^ a) c' ∧ c = stW c' (mZ Z a x) x := fun hno c => by
          constructor
          · rintro ⟨x, k, c', h1, h2⟩
            exact ⟨x, k, c', by omega, h2⟩
          · rintro ⟨x, k, c', h1, h2, h3, h4, h5⟩
            by_cases hx : x = j
            · subst hx; exact absurd h4 (hno k c' h2 h3)
            · exact ⟨x, k, c', by omega, h2, h3, h4, h5⟩
        have skip : (∀ k c', 0 < mZ Z a j → G.testBit j = false → ¬ pt (nZ Z) (mZ Z) k j b (G ||| 2 ^ a) c') → ∀ κ', κ' ≤ 1 * (j + 1) + fre (G ||| 2 ^ a) (j + 1) * ckF 7 (rem (G ||| 2 ^ a) - 1) → Ok (self x8 (nI j + 1) κ') (fun r => MinI (fun c => ∃ k, pt (nZ Z) (mZ Z) k a b G c) r.toInt) := fun hno κ' hκ' => hself (kk - 1) _ _ _ (by omega) ⟨j + 1, by omega, nI_1 _, hM.cg (none_j hno), hκ'⟩
        refine ok_lt ?_
        rw [wl_lm hn ha hc]
        refine ok_jn ?_
        by_cases hm : 0 < mZ Z a j
        · rw [if_pos hm]
          have hm99 := (hg.2 a j).1
          have hne' : a ≠ j := ((hg.2 a j).2.2.2.2 hm).2.2
          refine ok_ifF (nI_npos (by omega) hm) ?_
          by_cases hGj : G.testBit j = false
          · refine ok_ifT ((gone_bit hG (by omega)).mpr hGj) ?_
            have hHj : (G ||| 2 ^ a).testBit j = false := by rw [tb_or, hGj, decide_eq_false hne']; rfl
            rw [gone_or hG (by omega), ckW_nI hH (by omega)]
            have hst := ck_step (c := 7) (u := 1) (by omega) hHj
            have hrem := rem_s (by omega) hHj
            refine ok_gd (by omega) ?_
            refine ok_bind (k_bestWay hN hs lv j b (G ||| 2 ^ a) hc hb hH (by omega)) ?_
            intro r hr
            refine ok_jn ?_
            rcases hr with ⟨hr1, hr2⟩ | ⟨c0, hr1, ⟨k0, hk0⟩, hr3⟩
            · have hneg : ¬ 0 ≤ lg_cmp r 0 := by rw [gj0, hr1]; decide
              refine ok_ifF hneg (ok_jn (ok_ifF hneg (ok_jn (ok_ifF hneg (ok_jn (ok_jn ?_))))))
              refine ok_ifT (by rw [lj0]; decide) ?_
              exact ok_lt (skip (fun k c' _ _ z => hr2 c' ⟨k, z⟩) _ (by omega))
            · have hb1 := pt_bd hg _ _ _ _ _ hk0
              have hl1 := pt_len hg _ _ _ _ _ hk0
              have hrl := rem_le ((G ||| 2 ^ a) ||| 2 ^ j)
              have hpos : 0 ≤ lg_cmp r 0 := by rw [gj0, hr1]; omega
              refine ok_ifT hpos (ok_jn (ok_ifT hpos (ok_jn (ok_ifT hpos (ok_jn (ok_jn ?_))))))
              have hw := way_v2 (x := j) (way_v1 hr1 (by omega) hm99) (by omega) (by omega)
              generalize ((((r + ((10000000 : Int64) * (Int32.toInt64 (nI (mZ Z a j))))) + (1000000 : Int64)) - (((r + ((10000000 : Int64) * (Int32.toInt64 (nI (mZ Z a j))))) + (1000000 : Int64)) - ((r + ((10000000 : Int64) * (Int32.toInt64 (nI (mZ Z a j))))) + (1000000 : Int64)) / (1000000 : Int64) * (1000000 : Int64))) + ((((r + ((10000000 : Int64) * (Int32.toInt64 (nI (mZ Z a j))))) + (1000000 : Int64)) - ((r + ((10000000 : Int64) * (Int32.toInt64 (nI (mZ Z a j))))) + (1000000 : Int64)) / (1000000 : Int64) * (1000000 : Int64)) / (7 : Int64))) + (((Int32.toInt64 (nI j)) + (1 : Int64)) * (16807 : Int64)) = w at hw ⊢
              have hw : w.toInt = ((stW c0 (mZ Z a j) j : Nat) : Int) := hw
              refine ok_ifF (by rw [lj0, hw]; omega) ?_
              -- the new best
              have best_w : (∀ c, (∃ x k c', x < j ∧ 0 < mZ Z a x ∧ G.testBit x = false ∧ pt (nZ Z) (mZ Z) k x b (G ||| 2 ^ a) c' ∧ c = stW c' (mZ Z a x) x) → stW c0 (mZ Z a j) j ≤ c) → Ok (lt (nI j + 1) fun v29 => self w v29 (κ + 1 + ckF 7 (rem ((G ||| 2 ^ a) ||| 2 ^ j)))) (fun r => MinI (fun c => ∃ k, pt (nZ Z) (mZ Z) k a b G c) r.toInt) := fun hle => ok_lt (hself (kk - 1) _ _ _ (by omega) ⟨j + 1, by omega, nI_1 _, Or.inr ⟨_, hw, ⟨j, k0, c0, by omega, hm, hGj, hk0, rfl⟩, fun c' hc' => by
                obtain ⟨x, k, c2, h1, h2, h3, h4, h5⟩ := hc'
                by_cases hx : x = j
                · subst hx
                  rw [h5]; exact stW_mono (hr3 c2 ⟨k, h4⟩)
                · exact hle c' ⟨x, k, c2, by omega, h2, h3, h4, h5⟩⟩, by omega⟩)
              have best_8 : (∃ c, x8.toInt = ((c : Nat) : Int) ∧ c ≤ stW c0 (mZ Z a j) j) → Ok (lt (nI j + 1) fun v29 => self x8 v29 (κ + 1 + ckF 7 (rem ((G ||| 2 ^ a) ||| 2 ^ j)))) (fun r => MinI (fun c => ∃ k, pt (nZ Z) (mZ Z) k a b G c) r.toInt) := fun hle => by
                obtain ⟨c, h8, hle⟩ := hle
                rcases hM with ⟨m1, -⟩ | ⟨d, m1, ⟨x, k, c', g1, g2⟩, m3⟩
                · omega
                have hcd : c = d := by omega
                subst hcd
                refine ok_lt (hself (kk - 1) _ _ _ (by omega) ⟨j + 1, by omega, nI_1 _, Or.inr ⟨c, h8, ⟨x, k, c', by omega, g2⟩, fun c' hc' => ?_⟩, by omega⟩)
                obtain ⟨x, k, c2, h1, h2, h3, h4, h5⟩ := hc'
                by_cases hx : x = j
                · subst hx
                  rw [h5]; exact Nat.le_trans hle (stW_mono (hr3 c2 ⟨k, h4⟩))
                · exact m3 c' ⟨x, k, c2, by omega, h2, h3, h4, h5⟩
              refine ok_jn ?_
              refine ok_if (fun hz => ?_) (fun hz => ?_)
              · rw [lj0] at hz
                refine best_w (fun c hc' => ?_)
                rcases hM with ⟨-, m2⟩ | ⟨d, m1, -, -⟩
                · exact absurd hc' (m2 c)
                · omega
              · rw [lj0] at hz
                rcases hM with ⟨m1, -⟩ | ⟨d, m1, m2, m3⟩
                · omega
                refine ok_if (fun hq => ?_) (fun hq => ?_)
                · rw [lg_cmp_ge, Int64.le_iff_toInt_le, hw, m1] at hq
                  exact best_8 ⟨d, m1, by omega⟩
                · rw [lg_cmp_ge, Int64.le_iff_toInt_le, hw, m1] at hq
                  exact best_w (fun c hc' => by have := m3 c hc'; omega)
          · have hGj' : G.testBit j = true := by
              cases h9 : G.testBit j
              · exact absurd h9 hGj
              · rfl
            refine ok_ifF (gone_bit' hG (by omega) hGj') ?_
            exact ok_lt (skip (fun _ _ _ z _ => by rw [hGj'] at z; cases z) _ (by omega))
        · rw [if_neg hm]
          refine ok_ifT (by decide) ?_
          exact ok_lt (skip (fun _ _ z => absurd z hm) _ (by omega))
