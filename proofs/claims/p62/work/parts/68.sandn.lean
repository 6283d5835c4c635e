/-! Pure layer, 9: bits; the reference's slopes, burning and melting. -/
theorem smod_small : ∀ i, i < 31 → ((nI i).toBitVec.smod 32).toNat = i := by decide +kernel
theorem mask31 {i : Nat} (hi : i < 31) : nI i &&& 31 = nI i := by
  rw [pk_andN (n := i) (by omega) 5 (by decide), Nat.mod_eq_of_lt (by omega)]
theorem bitI {L i : Nat} (hL : L < 2 ^ 31) (hi : i < 31) : ((nI L >>> (nI i &&& 31)) &&& 1) = nI (L.testBit i).toNat := by
  rw [mask31 hi, pk_shrN hL (nI i) i (smod_small i hi)]
  have h2 : L / 2 ^ i < 2 ^ 32 := Nat.lt_of_le_of_lt (Nat.div_le_self _ _) (by omega)
  rw [pk_andN h2 1 (by decide), Nat.testBit_eq_decide_div_mod_eq]
  refine congrArg nI ?_
  have := Nat.mod_two_eq_zero_or_one (L / 2 ^ i)
  rcases this with h | h
  · rw [show (2 : Nat) ^ 1 = 2 from rfl, h]; rfl
  · rw [show (2 : Nat) ^ 1 = 2 from rfl, h]; rfl
theorem bitI1 {L i : Nat} (hL : L < 2 ^ 31) (hi : i < 31) : ((nI L >>> (nI i &&& 31)) &&& 1) = 1 ↔ L.testBit i = true := by
  rw [bitI hL hi]
  cases L.testBit i
  · exact ⟨fun h => absurd h (by decide), fun h => by cases h⟩
  · exact ⟨fun _ => rfl, fun _ => rfl⟩
theorem andN {L : Nat} (hL : L < 2 ^ 32) (y : Int32) : nI L &&& y = nI (L &&& y.toBitVec.toNat) := by
  apply Int32.toBitVec_inj.mp
  rw [Int32.toBitVec_and]
  apply BitVec.eq_of_toNat_eq
  rw [BitVec.toNat_and, pk_tn hL, pk_tn (Nat.lt_of_le_of_lt Nat.and_le_left hL)]
def clr (i : Nat) : Nat := (((1 : Int32) <<< (nI i &&& 31)) ^^^ (-1)).toBitVec.toNat
theorem clr_bit : ∀ i, i < 16 → ∀ j, j < 16 → (clr i).testBit j = decide (j ≠ i) := by decide +kernel
section SN
variable {N : Nat} {μ : Mem} {a0 e : Nat} {p : Nat → Nat}
theorem k_slopeM (hN : 5 ≤ N) (he : e < 5) (h : mP μ a0 e p) (hp : stab p) : ∀ (n a : Nat), a < 16 → p a < n → Ok (fX11_slope N n μ a0 (nI e) (nI a)) (fun r => r = nI (slo p a))
  | 0, _, _, h => absurd h (Nat.not_lt_zero _)
  | n + 1, a, ha, hn => by
    unfold fX11_slope
    refine ok_fix2 (fun k x y => ∃ d, d + k = 4 ∧ x = nI (ml nbM (lowf p a) a d) ∧ y = nI d) ?_ N 4 _ _ (by omega) ⟨0, rfl, rfl, rfl⟩
    rintro k self x y ⟨d, hd, rfl, rfl⟩ hs
    have hml := ml_le4 nbM_ok hp ha (d := d) (by omega)
    refine ok_le 4 d (f := fun hc => ?_) (g := fun hc => ?_)
    · have : d = 4 := by omega
      subst this
      exact ok_some (by rw [slo_ml nbM_ok ha, Nat.add_comm]; exact nI_add 1 _)
    · refine ok_bindE (beM ha hc) ?_
      have hb := nbM_ok.1 a ha d hc
      have em : ml nbM (lowf p a) a (d + 1) = max (ml nbM (lowf p a) a d) (if nbM a d = 16 then 0 else if p (nbM a d) < p a then slo p (nbM a d) else 0) := rfl
      refine ok_jn (ok_jn ?_)
      refine ok_if (fun hn => ?_) (fun hn => ?_)
      · have hn := (bv_lt hb.1).mp hn
        refine ok_jn (ok_cdF rfl ?_)
        refine ok_lt ?_
        exact hs (k - 1) _ _ (by omega) ⟨d + 1, by omega, by rw [em, if_pos hn, Nat.max_eq_left (Nat.zero_le _)], nI_1 _⟩
      · have hn : nbM a d ≠ 16 := fun z => hn ((bv_lt hb.1).mpr z)
        rw [bv_pl hn]
        have hlt : nbM a d < 16 := by omega
        refine ok_bindE (m_of e (7 + nbM a d) he (by omega) rfl (l7 _)) ?_
        refine ok_bindE (m_of e (7 + a) he (by omega) rfl (l7 _)) ?_
        rw [h _ hlt, h a ha]
        have hp1 := hp a ha
        have hp2 := hp _ hlt
        refine ok_le (p a) (p (nbM a d)) (f := fun hq => ?_) (g := fun hq => ?_)
        · refine ok_jn (ok_cdF rfl ?_)
          refine ok_lt ?_
          exact hs (k - 1) _ _ (by omega) ⟨d + 1, by omega, by rw [em, if_neg hn, if_neg (by omega), Nat.max_eq_left (Nat.zero_le _)], nI_1 _⟩
        · refine ok_jn (ok_cdT rfl ?_)
          refine ok_bind (k_slopeM hN he h hp n (nbM a d) hlt (by omega)) ?_
          rintro _ rfl
          refine ok_lt ?_
          have hsl := slo_le hp hlt
          exact hs (k - 1) _ _ (by omega) ⟨d + 1, by omega, by rw [em, if_neg hn, if_pos hq]; exact imax_nI (by omega) (by omega), nI_1 _⟩
/-- the loop of longestSlope of the reference -/
theorem k_slopesM (hN : 20 ≤ N) (he : e < 5) (h : mP μ a0 e p) (hp : stab p) : Ok (fix2 (fun self5 (x3 : Int32) (x4 : Int32) => jn (fun (_ : Unit) => some (μ, x3)) fun j8 => if 16 ≤ x4 then (j8 ()) else (cond true ((fX11_slope N 17 μ a0 (nI e) x4).bind fun r13 => lt (imax x3 r13) fun v14 => lt (x4 + 1) fun v16 => self5 v14 v16) (j8 ()))) N 0 0) (fun r : Mem × Int32 => r = (μ, nI (slP p))) := by
  refine ok_fix2 (fun k x y => ∃ i, i + k = 16 ∧ x = nI (mx i (slo p)) ∧ y = nI i) ?_ N 16 _ _ (by omega) ⟨0, rfl, rfl, rfl⟩
  rintro k self x y ⟨i, hi, rfl, rfl⟩ hs
  refine ok_jn ?_
  refine ok_le 16 i (f := fun hc => ?_) (g := fun hc => ?_)
  · have : i = 16 := by omega
    subst this
    exact ok_some rfl
  · have hpi := hp i hc
    refine ok_cdT rfl ?_
    refine ok_bind (k_slopeM (by omega) he h hp 17 i hc (by omega)) ?_
    rintro _ rfl
    refine ok_lt (ok_lt ?_)
    have h1 := slP_le hp (i := i) (by omega)
    have h2 := slo_le hp hc
    exact hs (k - 1) _ _ (by omega) ⟨i + 1, by omega, imax_nI (by omega) (by omega), nI_1 _⟩
/-- the loop of lasts of the reference -/
theorem k_lastsM (hN : 100 ≤ N) (he : e < 5) (h : mP μ a0 e p) (hp : stab p) : Ok (fix2 (fun self6 (x4 : Int32) (x5 : Bool) => cond x5 (fix3 (fun self17 (x14 : Int32) (x15 : Bool) (x16 : Int32) => if 16 ≤ x16 then (self6 x14 x15) else (fix2 (fun self22 (x20 : Int32) (x21 : Int32) => if 4 ≤ x21 then (jn (fun (y25 : Int32) (y26 : Bool) => lt (x16 + 1) fun v30 => self17 y25 y26 v30) fun j27 => if ((x14 >>> (x16 &&& 31)) &&& 1) = 1 then ((fX11_of N μ a0 (nI e) (7 + x16)).bind fun r33 => if r33 < x20 then (j27 x14 x15) else (lt (x14 &&& ((1 <<< (x16 &&& 31)) ^^^ (-1))) fun v35 => j27 v35 true)) else (j27 x14 x15)) else ((fX11_beside N μ x16 x21).bind fun r37 => jn (fun (y38 : Bool) => lt (x20 + (b2i y38)) fun v42 => lt (x21 + 1) fun v44 => self22 v42 v44) fun j39 => jn (fun (_ : Unit) => j39 false) fun j47 => if r37 < 0 then (j47 ()) else (if ((x14 >>> (r37 &&& 31)) &&& 1) = 1 then (j39 true) else (j47 ())))) N 0 0)) N x4 false 0) (jn (fun (y9 : Bool) => some (μ, y9)) fun j10 => if x4 = 0 then (j10 true) else (j10 false))) N 65535 true) (fun r : Mem × Bool => r.1 = μ ∧ (r.2 = true ↔ lasting p)) := by
  refine ok_fix2 (fun k x4 x5 => ∃ L : Nat, L < 65536 ∧ x4 = nI L ∧ burnI p L.testBit ∧ (x5 = false → ∀ i, i < 16 → L.testBit i = true → p i < nbs L.testBit i) ∧ k = (16 - gone L.testBit) + x5.toNat) ?_ N 17 _ _ (by omega) ⟨65535, by decide, rfl, ?_, fun z => (by cases z), by decide +kernel⟩
  · rintro k self x4 x5 ⟨L, hL, rfl, hbi, hfx, hk⟩ hs
    have hgl := gone_le L.testBit
    refine ok_cd (fun h5 => ?_) (fun h5 => ?_)
    · subst h5
      refine ok_fix3 (fun k2 x14 x15 x16 => ∃ (M i : Nat), M < 65536 ∧ i + k2 = 16 ∧ x14 = nI M ∧ x16 = nI i ∧ burnI p M.testBit ∧ ((x15 = false ∧ M = L ∧ ∀ j, j < i → L.testBit j = true → p j < nbs L.testBit j) ∨ (x15 = true ∧ gone L.testBit + 1 ≤ gone M.testBit))) ?_ N 16 _ _ _ (by omega) ⟨L, 0, hL, rfl, rfl, rfl, hbi, Or.inl ⟨rfl, rfl, fun j hj => absurd hj (Nat.not_lt_zero _)⟩⟩
      rintro k2 self2 x14 x15 x16 ⟨M, i, hM, hi, rfl, rfl, hbm, hor⟩ hs2
      have hgm := gone_le M.testBit
      refine ok_le 16 i (f := fun hc => ?_) (g := fun hc => ?_)
      · have : i = 16 := by omega
        subst this
        rcases hor with ⟨rfl, rfl, hfx⟩ | ⟨rfl, hg⟩
        · exact hs (16 - gone M.testBit) _ _ (by rw [hk]; show _ < _ + 1; omega) ⟨M, hM, rfl, hbm, fun _ i hi => hfx i hi, rfl⟩
        · exact hs (16 - gone M.testBit + 1) _ _ (by rw [hk]; show _ < _ + 1; omega) ⟨M, hM, rfl, hbm, fun z => (by cases z), rfl⟩
      · have hbd : ∀ d, d ≤ 4 → cl nbM (fun b => (M.testBit b).toNat) i d ≤ d := fun d => by
          induction d with
          | zero => intro _; exact Nat.le_refl _
          | succ d ih =>
            intro hd
            have := ih (by omega)
            show cl nbM (fun b => (M.testBit b).toNat) i d + (if nbM i d = 16 then 0 else (M.testBit (nbM i d)).toNat) ≤ d + 1
            have h1 : (if nbM i d = 16 then 0 else (M.testBit (nbM i d)).toNat) ≤ 1 := by
              split
              · omega
              · exact toNat_le1 _
            omega
        refine ok_fix2 (fun k3 x20 x21 => ∃ d, d + k3 = 4 ∧ x20 = nI (cl nbM (fun b => (M.testBit b).toNat) i d) ∧ x21 = nI d) ?_ N 4 _ _ (by omega) ⟨0, rfl, rfl, rfl⟩
        rintro k3 self3 x20 x21 ⟨d, hd, rfl, rfl⟩ hs3
        have hbd1 := hbd d (by omega)
        refine ok_le 4 d (f := fun hd4 => ?_) (g := fun hd4 => ?_)
        · have : d = 4 := by omega
          subst this
          have hcl : cl nbM (fun b => (M.testBit b).toNat) i 4 = nbs M.testBit i := clM hc
          rw [hcl] at hbd1 ⊢
          refine ok_jn ?_
          have hpi := hp i hc
          refine ok_if (fun hb => ?_) (fun hb => ?_)
          · have hb := (bitI1 (by omega) (by omega)).mp hb
            refine ok_bindE (m_of e (7 + i) he (by omega) rfl (l7 i)) ?_
            rw [h i hc]
            refine ok_ltI (p i) (nbs M.testBit i) (f := fun hq => ?_) (g := fun hq => ?_)
            · refine ok_lt ?_
              refine hs2 (k2 - 1) _ _ _ (by omega) ⟨M, i + 1, hM, by omega, rfl, nI_1 _, hbm, ?_⟩
              rcases hor with ⟨h1, rfl, hfx⟩ | h1
              · exact Or.inl ⟨h1, rfl, fun j hj hl => by
                  by_cases ej : j = i
                  · subst ej; exact hq
                  · exact hfx j (by omega) hl⟩
              · exact Or.inr h1
            · refine ok_lt (ok_lt ?_)
              rw [andN (by omega)]
              have hbit : ∀ j, j < 16 → (M &&& clr i).testBit j = (M.testBit j && decide (j ≠ i)) := fun j hj => by
                rw [Nat.testBit_and, clr_bit i hc j hj]
              have hne : ∀ j, j < 16 → j ≠ i → (M &&& clr i).testBit j = M.testBit j := fun j hj hji => by
                rw [hbit j hj, decide_eq_true hji, Bool.and_true]
              have hgo : gone (M &&& clr i).testBit = gone M.testBit + 1 := by
                have h1 := sm_one (f := fun j => (!(M &&& clr i).testBit j).toNat) (g := fun j => (!M.testBit j).toNat) (k := i) 16 hc (fun j hj hji => by rw [hne j hj hji])
                simp only [hbit i hc, hb] at h1
                have e1 : (!(true && decide (i ≠ i))).toNat = 1 := by simp
                have e2 : (!true).toNat = 0 := rfl
                unfold gone
                omega
              refine hs2 (k2 - 1) _ _ _ (by omega) ⟨M &&& clr i, i + 1, Nat.lt_of_le_of_lt Nat.and_le_left hM, by omega, rfl, nI_1 _, burnI_take hbm hq hne hc, Or.inr ⟨rfl, ?_⟩⟩
              rcases hor with ⟨-, rfl, -⟩ | ⟨-, h1⟩ <;> omega
          · have hb : M.testBit i ≠ true := fun z => hb ((bitI1 (by omega) (by omega)).mpr z)
            refine ok_lt ?_
            refine hs2 (k2 - 1) _ _ _ (by omega) ⟨M, i + 1, hM, by omega, rfl, nI_1 _, hbm, ?_⟩
            rcases hor with ⟨h1, rfl, hfx⟩ | h1
            · exact Or.inl ⟨h1, rfl, fun j hj hl => by
                by_cases ej : j = i
                · subst ej; exact absurd hl hb
                · exact hfx j (by omega) hl⟩
            · exact Or.inr h1
        · refine ok_bindE (beM hc hd4) ?_
          have hb := nbM_ok.1 i hc d hd4
          have em : cl nbM (fun b => (M.testBit b).toNat) i (d + 1) = cl nbM (fun b => (M.testBit b).toNat) i d + if nbM i d = 16 then 0 else (M.testBit (nbM i d)).toNat := rfl
          refine ok_jn (ok_jn ?_)
          refine ok_if (fun hn => ?_) (fun hn => ?_)
          · have hn := (bv_lt hb.1).mp hn
            refine ok_lt (ok_lt ?_)
            exact hs3 (k3 - 1) _ _ (by omega) ⟨d + 1, by omega, by rw [em, if_pos hn]; exact nI_add _ 0, nI_1 _⟩
          · have hn : nbM i d ≠ 16 := fun z => hn ((bv_lt hb.1).mpr z)
            rw [bv_pl hn]
            have hlt : nbM i d < 16 := by omega
            refine ok_if (fun hq => ?_) (fun hq => ?_)
            · have hq := (bitI1 (by omega) (by omega)).mp hq
              refine ok_lt (ok_lt ?_)
              exact hs3 (k3 - 1) _ _ (by omega) ⟨d + 1, by omega, by rw [em, if_neg hn, hq]; exact nI_add _ 1, nI_1 _⟩
            · have hq : M.testBit (nbM i d) = false := by
                cases hqq : M.testBit (nbM i d)
                · rfl
                · exact absurd ((bitI1 (by omega) (by omega)).mpr hqq) hq
              refine ok_lt (ok_lt ?_)
              exact hs3 (k3 - 1) _ _ (by omega) ⟨d + 1, by omega, by rw [em, if_neg hn, hq]; exact nI_add _ 0, nI_1 _⟩
    · subst h5
      have hend := burn_end hbi (hfx rfl)
      have h0 : L = 0 ↔ ∀ i, i < 16 → L.testBit i = false := by
        constructor
        · rintro rfl i _; exact Nat.zero_testBit i
        · intro hz
          apply Nat.eq_of_testBit_eq
          intro i
          rw [Nat.zero_testBit]
          by_cases hi : i < 16
          · exact hz i hi
          · exact Nat.testBit_lt_two_pow (Nat.lt_of_lt_of_le hL (by
              show 2 ^ 16 ≤ 2 ^ i
              exact Nat.pow_le_pow_right (by decide) (by omega)))
      refine ok_jn ?_
      refine ok_eqI L 0 (f := fun hz => ?_) (g := fun hz => ?_)
      · exact ok_some ⟨rfl, fun _ => hend.mp (h0.mp hz), fun _ => rfl⟩
      · exact ok_some ⟨rfl, fun z => (by cases z), fun z => absurd (h0.mpr (hend.mpr z)) hz⟩
  · intro F hF i hi hFi
    have : ∀ i, i < 16 → (65535 : Nat).testBit i = true := by decide +kernel
    exact this i hi
/-- the reference melts a number of grains -/
theorem k_melts {n : Nat} (hN : 100 ≤ N) (he : e < 5) (hn : n < 2 ^ 30) (h : mP μ a0 e p) (hp : stab p) : Ok (fX11_melts N μ a0 (nI e) (nI n)) (fun r => r.2 = nI (min n (grs p)) ∧ mP r.1 a0 e (meltN (min n (grs p)) p) ∧ r.1 (a0 + 1) (82 + 147 * e + 4) = μ (a0 + 1) (82 + 147 * e + 4) + nI (min n (grs p)) ∧ (∀ j, j ≠ 82 + 147 * e + 4 → (∀ i, i < 16 → j ≠ 82 + 147 * e + (7 + i)) → r.1 (a0 + 1) j = μ (a0 + 1) j) ∧ frm (fun q => q = a0 + 1) μ r.1) := by
  have hg := grs_stab hp
  unfold fX11_melts
  refine ok_fix2 (fun k x1 m => ∃ i, i + k = grs p ∧ i ≤ n ∧ x1 = nI i ∧ mP m a0 e (meltN i p) ∧ (∀ j, (∀ i, i < 16 → j ≠ 82 + 147 * e + (7 + i)) → m (a0 + 1) j = μ (a0 + 1) j) ∧ frm (fun q => q = a0 + 1) μ m) ?_ N (grs p) _ _ (by omega) ⟨0, by omega, Nat.zero_le _, rfl, h, fun _ _ => rfl, frm.rf⟩
  rintro k self x1 m ⟨i, hik, hin, rfl, hm, h0, hf⟩ hs
  have hst : stab (meltN i p) := stab_le hp (fun j _ => meltN_le i p)
  have hgi := grs_meltN i p (by omega)
  have fin : i = min n (grs p) → Ok ((fX11_of N m a0 (nI e) 4).bind fun r9 => (fX11_sets N m a0 (nI e) 4 (r9 + nI i)).bind fun r10 => some (r10, nI i)) (fun r : Mem × Int32 => r.2 = nI (min n (grs p)) ∧ mP r.1 a0 e (meltN (min n (grs p)) p) ∧ r.1 (a0 + 1) (82 + 147 * e + 4) = μ (a0 + 1) (82 + 147 * e + 4) + nI (min n (grs p)) ∧ (∀ j, j ≠ 82 + 147 * e + 4 → (∀ i, i < 16 → j ≠ 82 + 147 * e + (7 + i)) → r.1 (a0 + 1) j = μ (a0 + 1) j) ∧ frm (fun q => q = a0 + 1) μ r.1) := fun ei => by
    rw [← ei]
    refine ok_bindE (m_of e 4 he (by decide) rfl rfl) ?_
    refine ok_bindE (m_sets e 4 he (by decide) rfl rfl) ?_
    refine ok_some ⟨rfl, fun j hj => ?_, ?_, fun j h1 h2 => ?_, frm.set (X := fun q => q = a0 + 1) hf rfl _ _⟩
    · show mset m (a0 + 1) _ _ (a0 + 1) _ = _
      rw [mset_sl _ _ _ _ (by omega)]; exact hm j hj
    · show mset m (a0 + 1) _ _ (a0 + 1) _ = _
      rw [mset_at, h0 _ (fun i _ => by omega)]
    · show mset m (a0 + 1) _ _ (a0 + 1) _ = _
      rw [mset_sl _ _ _ _ h1]; exact h0 j h2
  refine ok_jn ?_
  refine ok_le n i (f := fun hc => fin (by omega)) (g := fun hc => ?_)
  refine ok_bind (k_all (by omega) he hm) ?_
  rintro _ rfl
  refine ok_le (grs (meltN i p)) 0 (f := fun hz => fin (by omega)) (g := fun hz => ?_)
  refine ok_fix2 (fun k2 x14 x15 => ∃ j, j + k2 = 15 ∧ x14 = nI (hi (meltN i p) j) ∧ x15 = nI (j + 1)) ?_ N 15 _ _ (by omega) ⟨0, rfl, rfl, rfl⟩
  rintro k2 self2 x14 x15 ⟨j, hj, rfl, rfl⟩ hs2
  have hle := hi_le (p := meltN i p) j
  refine ok_le 16 (j + 1) (f := fun hc2 => ?_) (g := fun hc2 => ?_)
  · have : j = 15 := by omega
    subst this
    have hlt : hiP (meltN i p) < 16 := hiP_lt
    refine ok_bindE (m_of e (7 + hiP (meltN i p)) he (by omega) rfl (l7 _)) ?_
    refine ok_bindE (m_sets e (7 + hiP (meltN i p)) he (by omega) rfl (l7 _)) ?_
    rw [hm _ hlt]
    have h3 := hst _ hlt
    have hnz : meltN i p (hiP (meltN i p)) ≠ 0 := fun z => by have := hiP_0.mp z; omega
    refine ok_lt ?_
    refine hs (k - 1) _ _ (by omega) ⟨i + 1, by omega, by omega, nI_1 _, fun q hq => ?_, fun q hq => ?_, frm.set (X := fun q => q = a0 + 1) hf rfl _ _⟩
    · rw [mset_if, meltN_add]
      show _ = nI (updN (meltN i p) (hiP (meltN i p)) (meltN i p (hiP (meltN i p)) - 1) q)
      unfold updN
      by_cases eq : q = hiP (meltN i p)
      · rw [if_pos (by omega), if_pos eq]; exact pk_sub (b := 1) (by omega)
      · rw [if_neg (by omega), if_neg eq]; exact hm q hq
    · rw [mset_sl _ _ _ _ (by have := hq _ hlt; omega)]; exact h0 q hq
  · refine ok_bindE (m_of e (7 + (j + 1)) he (by omega) rfl (l7 _)) ?_
    refine ok_bindE (m_of e (7 + hi (meltN i p) j) he (by omega) rfl (l7 _)) ?_
    rw [hm (j + 1) hc2, hm (hi (meltN i p) j) (by omega)]
    have h1 := hst (j + 1) hc2
    have h2 := hst (hi (meltN i p) j) (by omega)
    refine ok_jn ?_
    refine ok_le (meltN i p (j + 1)) (meltN i p (hi (meltN i p) j)) (f := fun hd => ?_) (g := fun hd => ?_)
    · refine ok_lt ?_
      exact hs2 (k2 - 1) _ _ (by omega) ⟨j + 1, by omega, by show _ = nI (if meltN i p (hi (meltN i p) j) < meltN i p (j + 1) then j + 1 else hi (meltN i p) j); rw [if_neg (by omega)], nI_1 _⟩
    · refine ok_lt ?_
      exact hs2 (k2 - 1) _ _ (by omega) ⟨j + 1, by omega, by show _ = nI (if meltN i p (hi (meltN i p) j) < meltN i p (j + 1) then j + 1 else hi (meltN i p) j); rw [if_pos (by omega)], nI_1 _⟩
end SN
