/-! Pure layer: what is drawn is a gallery with rooms and exhibits; nothing is unlike. -/
theorem ok_chR {R : Int32 → (Nat → Int32) → List (Nat → Int32) → Prop} {k : Int32 → (Nat → Int32) → List (Nat → Int32) → Option Unit} (h : ∀ x Z2 hs2, R x Z2 hs2 → Ok (k x Z2 hs2) (fun _ => True)) : Ok (chR R k) (fun _ => True) :=
  ⟨(), chR_in (fun x Z2 hs2 hR => by obtain ⟨r, e, -⟩ := h x Z2 hs2 hR; exact e), True.intro⟩
theorem ok_whn {c : Prop} (h : c) : Ok (whn c) (fun _ => True) := ⟨(), whn_in h, True.intro⟩
theorem ok_jn4 {A B C D O : Type} {P : O → Prop} {k : A → B → C → D → Option O} {b : (A → B → C → D → Option O) → Option O} (R : A → B → C → D → Prop) (hk : ∀ a c e f, R a c e f → Ok (k a c e f) P) (hb : ∀ j : A → B → C → D → Option O, (∀ a c e f, R a c e f → Ok (j a c e f) P) → Ok (b j) P) : Ok (jn k b) P := hb k hk
def DI (Z : Nat → Int32) (r e n : Nat) : Prop := SI Z ∧ nZ Z = r ∧ eZ Z = e ∧ TK Z n
theorem shr {n : Nat} (k : Nat) (hn : n < 2 ^ 31) : n / 2 ^ k < 2 ^ 31 := Nat.lt_of_le_of_lt (Nat.div_le_self _ _) hn
theorem sh8 {n k : Nat} (hn : n < 2 ^ 31) (hk : k < 32) {q : Int32} (hq : q = nI k) : ((nI n : Int32).toUInt32 >>> (q.toUInt32 &&& Int32.toUInt32 31)).toInt32 = nI (n / 2 ^ k) := by
  subst hq
  exact shN k hn hk
theorem rm8 {a : Nat} (m : Nat) (ha : a < 2 ^ 31) (h0 : 0 < m) (hm : m < 2 ^ 31) {q : Int32} (hq : q = nI m) : nI a - nI a / q * q = nI (a % m) := by
  subst hq
  exact rmN m ha h0 hm
theorem ad1 {a : Nat} : (1 : Int32) + nI a = nI (1 + a) := by rw [← nI_add]; rfl
theorem DI_ek {Z Z2 : Nat → Int32} {x : Int32} {r e n : Nat} (h : DI Z r e n) (hsi : SI Z2) (hE : EK Z Z2 x) : DI Z2 r e (n + 8) := ⟨hsi, hE.1.trans h.2.1, hE.2.1.trans h.2.2.1, hE.2.2.1 n h.2.2.2⟩
theorem DI_up {Z : Nat → Int32} {r e n n2 : Nat} (h : DI Z r e n) (hn : n ≤ n2) : DI Z r e n2 := ⟨h.1, h.2.1, h.2.2.1, fun e2 he => by
  obtain ⟨k, hk, q⟩ := h.2.2.2 e2 he
  exact ⟨k, by omega, q⟩⟩
/-- a change that is not refused for its index -/
theorem DI_st {Z Z2 : Nat → Int32} {hs hs2 : List (Nat → Int32)} {x : Int32} {r e n : Nat} {V : Prop} (h : DI Z r e n) (hV : V) (hR : RCH Z hs (fun x => V → x ≠ -1) (EK Z) x Z2 hs2) : x ≠ -1 ∧ DI Z2 r e (n + 8) := by
  obtain ⟨hsi, ⟨-, rfl, -, hv⟩ | ⟨hp, -, hE⟩⟩ := hR
  · exact ⟨hv hV, DI_up h (by omega)⟩
  · exact ⟨fun q => hp (by rw [q]; decide), DI_ek h hsi hE⟩
theorem DI_sx {Z Z2 : Nat → Int32} {hs hs2 : List (Nat → Int32)} {x : Int32} {r e n : Nat} {V : Prop} (h : DI Z r e n) (hV : V) (hR : RCH Z hs (fun _ => ¬ V) (EK Z) x Z2 hs2) : ¬ x < 0 ∧ DI Z2 r e (n + 8) := by
  obtain ⟨hsi, ⟨-, rfl, -, hv⟩ | ⟨hp, -, hE⟩⟩ := hR
  · exact absurd hV hv
  · exact ⟨hp, DI_ek h hsi hE⟩
theorem ne_m1 {x : Int32} (h : ¬ x < 0) : x ≠ -1 := fun q => h (by rw [q]; decide)
theorem rot_ne {a s i : Nat} (ha : a < i) (h1 : 1 ≤ s) (h2 : s < i) : a ≠ (a + s) % i := by
  by_cases h : a + s < i
  · rw [Nat.mod_eq_of_lt h]; omega
  · rw [Nat.mod_eq_sub_mod (by omega), Nat.mod_eq_of_lt (by omega)]; omega
theorem nn_le {x : Int32} (h : ¬ x < 0) : 0 ≤ x := by
  rw [Int32.le_iff_toInt_le]
  have h2 : ¬ x.toInt < (0 : Int32).toInt := fun z => h (Int32.lt_iff_toInt_lt.mpr z)
  omega
theorem pr_i {i : Nat} (h : 1 ≤ i) : nI i - 1 = nI (i - 1) := by
  obtain ⟨j, rfl⟩ : ∃ j, i = j + 1 := ⟨i - 1, by omega⟩
  exact nI_pred _
set_option maxHeartbeats 4000000 in
theorem k_drawn {N K κ0 L : Nat} {xs : Nat → Int32} {P : (Nat → Int32) → List (Nat → Int32) → Prop} (hN : 1200000000000 ≤ N) (hK : κ0 + 60 ≤ K) (hP : ∀ Z hs, SI Z → 1 ≤ nZ Z → 1 ≤ eZ Z → TK Z 168 → P Z hs) : Ok (fL_drawn N z0 [] L xs P K κ0) (fun _ => True) := by
  unfold fL_drawn
  refine ok_gd (by omega) (ok_gd (by decide) (ok_lt ?_))
  obtain ⟨c, hc, ec⟩ := shV (cellL L xs 0)
  rw [ec]
  refine ok_lt ?_
  rw [rm8 (q := 6) 6 hc (by decide) (by decide) rfl, ad1]
  obtain ⟨R, hR⟩ : ∃ R, R = 1 + c % 6 := ⟨_, rfl⟩
  have hR6 : 1 ≤ R ∧ R ≤ 6 := by omega
  rw [← hR]
  refine ok_lt ?_
  rw [sh8 (k := 3) (q := 3) hc (by decide) rfl, rm8 (q := 4) 4 (shr 3 hc) (by decide) (by decide) rfl, ad1]
  obtain ⟨E, hE⟩ : ∃ E, E = 1 + c / 2 ^ 3 % 4 := ⟨_, rfl⟩
  have hE4 : 1 ≤ E ∧ E ≤ 4 := by omega
  rw [← hE]
  refine ok_lt ?_
  refine ok_fix4 (fun k x Z _ κ => ∃ i, i + k = R ∧ x = nI i ∧ κ ≤ κ0 + i ∧ DI Z i 0 0) ?_ N R _ _ _ _ (by omega) ⟨0, by omega, rfl, by omega, SI_z, first_n.1, first_n.2.1, first_n.2.2⟩
  rintro k1 self1 x1 Z1 hs1 κ1 ⟨i, hi, rfl, hκ1, hD1⟩ hself1
  refine ok_le R i (f := fun hc1 => ?_) (g := fun hc1 => ?_)
  · have hiR : i = R := by omega
    subst hiR
    refine ok_fix4 (fun k x Z _ κ => ∃ j, j + k = 7 ∧ x = nI j ∧ κ ≤ κ0 + 6 + j ∧ DI Z i 0 (8 * j)) ?_ N 7 _ _ _ _ (by omega) ⟨0, by omega, rfl, by omega, hD1⟩
    rintro k2 self2 x2 Z2 hs2 κ2 ⟨j, hj, rfl, hκ2, hD2⟩ hself2
    refine ok_jn3 (fun Z _ κ => κ ≤ κ0 + 13 ∧ DI Z i 0 56) (fun Z3 hs3 κ3 hJ3 => ?_) (fun j3 hj3 => ?_)
    · obtain ⟨hκ3, hD3⟩ := hJ3
      refine ok_fix4 (fun k x Z _ κ => ∃ e, e + k = E ∧ x = nI e ∧ κ ≤ κ0 + 13 + e ∧ DI Z i e 56) ?_ N E _ _ _ _ (by omega) ⟨0, by omega, rfl, by omega, hD3⟩
      rintro k4 self4 x4 Z4 hs4 κ4 ⟨e, he, rfl, hκ4, hD4⟩ hself4
      refine ok_le E e (f := fun hc4 => ?_) (g := fun hc4 => ?_)
      · have heE : e = E := by omega
        rw [← heE] at hE4 ⊢
        refine ok_fix4 (fun k x Z _ κ => ∃ u, u + k = 14 ∧ x = nI u ∧ κ ≤ κ0 + 17 + u ∧ DI Z i e (56 + 8 * u)) ?_ N 14 _ _ _ _ (by omega) ⟨0, by omega, rfl, by omega, hD4⟩
        rintro k5 self5 x5 Z5 hs5 κ5 ⟨u, hu, rfl, hκ5, hD5⟩ hself5
        refine ok_le 14 u (f := fun hc5 => ok_gd (by omega) (ok_whn (hP _ _ hD5.1 (by rw [hD5.2.1]; omega) (by rw [hD5.2.2.1]; omega) (DI_up hD5 (by omega)).2.2.2))) (g := fun hc5 => ?_)
        obtain ⟨d, hd, ed⟩ := shV (cellL L xs (18 + nI u))
        refine ok_gd (by omega) (ok_gd (nI_nneg (a := 18) (by omega)) (ok_lt ?_))
        rw [ed]
        refine ok_lt ?_
        refine ok_gd (nI_ne hE4.1 (by omega)) ?_
        rw [sh8 (k := 4) (q := 4) hd (by decide) rfl, rm8 (q := nI e) e (shr 4 hd) (by omega) (by omega) rfl]
        refine ok_lt ?_
        rw [rm8 (q := 16) 16 hd (by decide) (by decide) rfl]
        refine ok_lt ?_
        have hem : d / 2 ^ 4 % e < e := Nat.mod_lt _ (by omega)
        refine ok_jn4 (fun y Z _ κ => (∃ q, 1 ≤ q ∧ q ≤ 60 ∧ y = nI q) ∧ Z = Z5 ∧ κ = κ5) ?_ (fun j7 hj7 => ok_if (fun _ => hj7 _ _ _ _ ⟨⟨12, by decide, by decide, rfl⟩, rfl, rfl⟩) (fun _ => hj7 _ _ _ _ ⟨⟨60, by decide, by decide, rfl⟩, rfl, rfl⟩))
        rintro y Z7 hs7 κ7 ⟨⟨q, hq1, hq2, rfl⟩, rfl, rfl⟩
        refine ok_gd (nI_ne hq1 (by omega)) (ok_lt ?_)
        refine ok_jn4 (fun y Z _ κ => y ≠ -1 ∧ κ ≤ κ7 + 1 ∧ DI Z i e (56 + 8 * u + 8)) (fun y Z8 hs8 κ8 hJ8 => ?_) (fun j8 hj8 => ?_)
        · obtain ⟨hy, hκ8, hD8⟩ := hJ8
          exact ok_ifF hy (ok_lt (hself5 (k5 - 1) _ _ _ _ (by omega) ⟨u + 1, by omega, nI_1 _, by omega, DI_up hD8 (by omega)⟩))
        · have hV : ∃ e2, nI (d / 2 ^ 4 % e) = nI e2 ∧ e2 < eZ Z7 := ⟨d / 2 ^ 4 % e, rfl, by rw [hD5.2.2.1]; exact hem⟩
          refine ok_le 8 (d % 16) (f := fun _ => ?_) (g := fun _ => ?_)
          · refine ok_le 12 (d % 16) (f := fun _ => ?_) (g := fun _ => ?_)
            · refine ok_eqI (d % 16) 12 (f := fun _ => ?_) (g := fun _ => ?_)
              · refine ok_gd (by omega) (ok_chR (fun x Z9 hs9 hR9 => ?_))
                obtain ⟨hx, hD9⟩ := DI_st hD5 hV hR9
                exact hj8 _ _ _ _ ⟨hx, by omega, hD9⟩
              · refine ok_eqI (d % 16) 13 (f := fun _ => ?_) (g := fun _ => ?_)
                · rw [sh8 (k := 8) (q := 8) hd (by decide) rfl, rm8 (q := 3) 3 (shr 8 hd) (by decide) (by decide) rfl, ad1]
                  refine ok_gd (by omega) (ok_chR (fun x Z9 hs9 hR9 => ?_))
                  obtain ⟨hx, hD9⟩ := DI_sx (V := V_pass Z7 (nI (1 + d / 2 ^ 8 % 3))) hD5 ⟨_, rfl, by omega, by omega⟩ hR9
                  exact hj8 _ _ _ _ ⟨ne_m1 hx, by omega, hD9⟩
                · rw [sh8 (k := 8) (q := 8) hd (by decide) rfl, rm8 (q := nI i) i (shr 8 hd) (by omega) (by omega) rfl]
                  refine ok_gd (nI_ne hR6.1 (by omega)) (ok_gd (by omega) (ok_chR (fun x Z9 hs9 hR9 => ?_)))
                  obtain ⟨hx, hD9⟩ := DI_st (V := V_send Z7 (nI (d / 2 ^ 4 % e)) (nI (d / 2 ^ 8 % i))) hD5 ⟨_, _, rfl, rfl, by rw [hD5.2.2.1]; exact hem, by rw [hD5.2.1]; exact Nat.mod_lt _ (by omega)⟩ hR9
                  exact hj8 _ _ _ _ ⟨hx, by omega, hD9⟩
            · refine ok_gd (by omega) (ok_gd (by omega) (ok_chR (fun x Z9 hs9 hR9 => ?_)))
              obtain ⟨hx, hD9⟩ := DI_st hD5 hV hR9
              exact hj8 _ _ _ _ ⟨hx, by omega, hD9⟩
          · refine ok_jn4 (fun y Z _ κ => (∃ q, 1 ≤ q ∧ q ≤ 60 ∧ y = nI q) ∧ Z = Z7 ∧ κ = κ7) ?_ (fun j9 hj9 => ok_if (fun _ => hj9 _ _ _ _ ⟨⟨40, by decide, by decide, rfl⟩, rfl, rfl⟩) (fun _ => hj9 _ _ _ _ ⟨⟨12, by decide, by decide, rfl⟩, rfl, rfl⟩))
            rintro y Z10 hs10 κ10 ⟨⟨q2, hq3, hq4, rfl⟩, rfl, rfl⟩
            refine ok_gd (nI_ne hq3 (by omega)) (ok_gd (by omega) (ok_chR (fun x Z9 hs9 hR9 => ?_)))
            obtain ⟨hx, hD9⟩ := DI_st hD5 hV hR9
            exact hj8 _ _ _ _ ⟨hx, by omega, hD9⟩
      · obtain ⟨d, hd, ed⟩ := shV (cellL L xs (14 + nI e))
        refine ok_gd (by omega) (ok_gd (nI_nneg (a := 14) (by omega)) (ok_lt ?_))
        rw [ed]
        refine ok_lt ?_
        rw [rm8 (q := nI i) i hd (by omega) (by omega) rfl, sh8 (k := 4) (q := 4) hd (by decide) rfl, rm8 (q := 10) 10 (shr 4 hd) (by decide) (by decide) rfl]
        refine ok_gd (nI_ne hR6.1 (by omega)) (ok_gd (by omega) (ok_chR (fun x Z6 hs6 hR9 => ?_)))
        obtain ⟨hsi2, hR9⟩ := hR9
        rcases hR9 with ⟨-, -, -, hv⟩ | ⟨-, -, e1, e2, e3, e4⟩
        · exact absurd ⟨d % i, d / 2 ^ 4 % 10, rfl, rfl, by rw [hD4.2.1]; exact Nat.mod_lt _ (by omega), by rw [hD4.2.2.1]; omega, by omega⟩ hv
        · rw [e1, hD4.2.2.1]
          refine ok_ifT rfl (ok_lt (hself4 (k4 - 1) _ _ _ _ (by omega) ⟨e + 1, by omega, nI_1 _, by omega, hsi2, by rw [e3]; exact hD4.2.1, by rw [e2, hD4.2.2.1], e4 _ hD4.2.2.2⟩))
    · refine ok_le 7 j (f := fun hc2 => hj3 _ _ _ ⟨by omega, DI_up hD2 (by omega)⟩) (g := fun hc2 => ?_)
      refine ok_le i 1 (f := fun hc3 => hj3 _ _ _ ⟨by omega, DI_up hD2 (by omega)⟩) (g := fun hc3 => ?_)
      obtain ⟨d, hd, ed⟩ := shV (cellL L xs (7 + nI j))
      refine ok_gd (by omega) (ok_gd (nI_nneg (a := 7) (by omega)) (ok_lt ?_))
      rw [ed]
      refine ok_lt (ok_gd (nI_ne hR6.1 (by omega)) ?_)
      rw [rm8 (q := nI i) i hd (by omega) (by omega) rfl]
      refine ok_lt ?_
      have hdi : d % i < i := Nat.mod_lt _ (by omega)
      have hdj : d / 2 ^ 4 % (i - 1) < i - 1 := Nat.mod_lt _ (by omega)
      rw [pr_i hR6.1, sh8 (k := 4) (q := 4) hd (by decide) rfl, rm8 (q := nI (i - 1)) (i - 1) (shr 4 hd) (by omega) (by omega) rfl, nI_1 (d % i), nI_add, rm8 (q := nI i) i (by omega) (by omega) (by omega) rfl]
      refine ok_gd (nI_ne (by omega) (by omega)) (ok_gd (nI_ne hR6.1 (by omega)) ?_)
      refine ok_jn4 (fun y Z _ κ => (∃ q, 1 ≤ q ∧ q ≤ 99 ∧ y = nI q) ∧ Z = Z2 ∧ κ = κ2) ?_ (fun j9 hj9 => ok_if (fun _ => hj9 _ _ _ _ ⟨⟨99, by decide, by decide, rfl⟩, rfl, rfl⟩) (fun _ => hj9 _ _ _ _ ⟨⟨4, by decide, by decide, rfl⟩, rfl, rfl⟩))
      rintro y Z5 hs5 κ5 ⟨⟨q, hq1, hq2, rfl⟩, rfl, rfl⟩
      rw [sh8 (k := 8) (q := 8) hd (by decide) rfl, rm8 (q := nI q) q (shr 8 hd) (by omega) (by omega) rfl, ad1, sh8 (k := 16) (q := 16) hd (by decide) rfl, rm8 (q := 10) 10 (shr 16 hd) (by decide) (by decide) rfl]
      have hdq : d / 2 ^ 8 % q < q := Nat.mod_lt _ (by omega)
      refine ok_gd (nI_ne hq1 (by omega)) (ok_gd (by omega) (ok_chR (fun x Z6 hs6 hR9 => ?_)))
      obtain ⟨hx, hD6⟩ := DI_sx hD2 ⟨d % i, (d % i + 1 + d / 2 ^ 4 % (i - 1)) % i, 1 + d / 2 ^ 8 % q, d / 2 ^ 16 % 10, rfl, rfl, rfl, rfl, by rw [hD2.2.1]; exact hdi, by rw [hD2.2.1]; exact Nat.mod_lt _ (by omega), by rw [Nat.add_assoc]; exact rot_ne hdi (by omega) (by omega), by omega, by omega, by omega⟩ hR9
      exact ok_ifT (nn_le hx) (ok_lt (hself2 (k2 - 1) _ _ _ _ (by omega) ⟨j + 1, by omega, nI_1 _, by omega, DI_up hD6 (by omega)⟩))
  · obtain ⟨d, hd, ed⟩ := shV (cellL L xs (1 + nI i))
    refine ok_gd (by omega) (ok_gd (nI_nneg (a := 1) (by omega)) (ok_lt ?_))
    rw [ed, rm8 (q := 10) 10 hd (by decide) (by decide) rfl]
    refine ok_gd (by omega) (ok_chR (fun x Z2 hs2 hR2 => ?_))
    obtain ⟨hsi2, hR2⟩ := hR2
    rcases hR2 with ⟨-, -, -, hv⟩ | ⟨-, -, e1, e2, e3, e4⟩
    · exact absurd ⟨d % 10, rfl, by omega, by rw [hD1.2.1]; omega⟩ hv
    · rw [e1, hD1.2.1]
      refine ok_ifT rfl (ok_lt (hself1 (k1 - 1) _ _ _ _ (by omega) ⟨i + 1, by omega, ?_, by omega, hsi2, by rw [e2, hD1.2.1], by rw [e3]; exact hD1.2.2.1, e4 0 hD1.2.2.2⟩))
      exact nI_1 _
