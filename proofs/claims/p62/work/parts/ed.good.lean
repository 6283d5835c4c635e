/-! Pure layer: what a drawn gallery's changes ask for is there. -/
/-- a room more -/
def ER (Z : Nat → Int32) : (Nat → Int32) → Int32 → Prop := fun Z' v => v = nI (nZ Z) ∧ nZ Z' = nZ Z + 1 ∧ eZ Z' = eZ Z ∧ ∀ n, TK Z n → TK Z' n
/-- an exhibit more -/
def EE (Z : Nat → Int32) : (Nat → Int32) → Int32 → Prop := fun Z' v => v = nI (eZ Z) ∧ eZ Z' = eZ Z + 1 ∧ nZ Z' = nZ Z ∧ ∀ n, TK Z n → TK Z' n
theorem no0 {x : Option Nat} {k : Nat} (h : x = some 0) (hf : x = some (k + 1)) : False := by
  cases Option.some.inj (h.symm.trans hf)
theorem in_ok {a b c : Nat} (hb : b ≤ a) (hc : a ≤ c) (h : c < 2 ^ 31) : decide (nI b ≤ nI a ∧ nI a ≤ nI c) = true := by
  rw [in_nI (by omega) (by omega) h, decide_eq_true hb, decide_eq_true hc]; rfl
theorem dg_ok {w : Nat} (h : w ≤ 9) : decide (0 ≤ nI w ∧ nI w ≤ 9) = true := in_ok (b := 0) (c := 9) (Nat.zero_le _) h (by decide)
theorem mn_ok {w : Nat} (h1 : 1 ≤ w) (h : w ≤ 99) : decide (1 ≤ nI w ∧ nI w ≤ 99) = true := in_ok (b := 1) (c := 99) h1 h (by decide)
section GOOD
variable {N : Nat} {Z : Nat → Int32}
theorem RC_n {μ : Mem} (hsi : SI Z) (h : RC μ 1 Z) : μ 1 0 = nI (nZ Z) ∧ nZ Z ≤ 6 ∧ μ 1 4 = nI (eZ Z) ∧ eZ Z ≤ 5 := by
  have hs := SIp_z hsi
  exact ⟨h.1.1.1.trans hs.1, hs.2.1.1, h.1.1.2.1.trans hs.2.2.2.2.1, hs.2.2.2.2.2.1⟩
theorem roomF_ok {μ : Mem} {n : Nat} {x : Int32} (h : μ 1 0 = nI n) (hn : n < 6) (hx : decide (0 ≤ x ∧ x ≤ 9) = true) : fX10_roomFault N μ 0 x = some 0 := by
  unfold fX10_roomFault
  rw [digF, bS, hx, if_pos rfl, if_pos rfl, h]
  exact if_pos (nI_lt hn (by decide))
theorem g_room {w : Nat} (hsi : SI Z) (hn : nZ Z < 6) (hw : w ≤ 9) : ∀ (μ : Mem) (k : Nat), RC μ 1 Z → (fun m => fX10_roomFault N m 0 (nI w)) μ = some (k + 1) → False := fun μ k h hf => no0 (roomF_ok (RC_n hsi h).1 hn (dg_ok hw)) hf
theorem g_leg {a b m w : Nat} (hsi : SI Z) (ha : a < nZ Z) (hb : b < nZ Z) (hab : a ≠ b) (hm1 : 1 ≤ m) (hm : m ≤ 99) (hw : w ≤ 9) : ∀ (μ : Mem) (k : Nat), RC μ 1 Z → (fun q => fX10_legFault N q 0 (nI a) (nI b) (nI m) (nI w)) μ = some (k + 1) → False := fun μ k h hf => by
  obtain ⟨h0, h6, -, -⟩ := RC_n hsi h
  have e1 : idx (nZ Z) (nI a) = true := (idx_nI (by omega) (by omega)).mpr ha
  have e2 : idx (nZ Z) (nI b) = true := (idx_nI (by omega) (by omega)).mpr hb
  have e3 : decide (nI a = nI b) = false := decide_eq_false (fun e => hab ((nI_eq (by omega) (by omega)).mp e))
  have e4 : okL (nI a) (nI b) (nI m) (nI w) = true := by
    unfold okL
    rw [e3, mn_ok hm1 hm, dg_ok hw]; rfl
  exact no0 ((legF h0 h6).trans (by rw [e1, e2, e4]; rfl)) hf
theorem g_exh {a w : Nat} (hsi : SI Z) (ha : a < nZ Z) (he : eZ Z < 5) (hw : w ≤ 9) : ∀ (μ : Mem) (k : Nat), RC μ 1 Z → (fun q => fX10_pileFault N q 0 (nI a) (nI w)) μ = some (k + 1) → False := fun μ k h hf => by
  obtain ⟨h0, h6, h4, h5⟩ := RC_n hsi h
  have e1 : idx (nZ Z) (nI a) = true := (idx_nI (by omega) (by omega)).mpr ha
  exact no0 ((pileF h0 h6 h4 h5).trans (by rw [e1, dg_ok hw, if_pos rfl, if_pos rfl, if_pos he])) hf
theorem g_drop {e : Nat} {px py g : Int32} (hsi : SI Z) (he : e < eZ Z) : ∀ (μ : Mem) (k : Nat), RC μ 1 Z → (fun q => fX10_dropFault N q 0 (nI e) px py g) μ = some (k + 1) → k ≠ 0 := fun μ k h hf hk => by
  obtain ⟨h0, h6, h4, h5⟩ := RC_n hsi h
  have e1 : idx (eZ Z) (nI e) = true := (idx_nI (by omega) (by omega)).mpr he
  have hf := Option.some.inj ((dropF h4 h5).symm.trans hf)
  rw [e1, if_pos rfl, hk] at hf
  cases hq : okD px py g <;> rw [hq] at hf <;> exact absurd hf (by decide)
theorem exY5 {μ : Mem} {e : Nat} (hsi : SI Z) (he : e < eZ Z) (h : RC μ 1 Z) : μ (1 + 16 + 1 + 6 * e) 6 = nI (qZ Z e) ∧ qZ Z e ≤ 8 := by
  have h5 := (RC_n hsi h).2.2.2
  have hX := SI_ex_z hsi he
  exact ⟨(h.2 e (by omega)).1.2.2.2.2.2.1.trans hX.2.2.2.2.2.2.1, hX.2.2.2.2.2.2.2.1.1⟩
theorem g_ask {e : Nat} {a b c : Int32} (hsi : SI Z) (he : e < eZ Z) : ∀ (μ : Mem) (k : Nat), RC μ 1 Z → (fun q => fX10_askFault N q 0 (nI e) a b c) μ = some (k + 1) → k ≠ 0 := fun μ k h hf hk => by
  obtain ⟨h0, h6, h4, h5⟩ := RC_n hsi h
  obtain ⟨q6, q8⟩ := exY5 hsi he h
  have hf := Option.some.inj ((askF_t h4 h5 he q6 q8).symm.trans hf)
  rw [hk] at hf
  cases hq : okA a b c
  · rw [hq, if_neg (by decide)] at hf; exact absurd hf (by decide)
  · rw [hq, if_pos rfl] at hf
    by_cases h8 : qZ Z e < 8
    · rw [if_pos h8] at hf; exact absurd hf (by decide)
    · rw [if_neg h8] at hf; exact absurd hf (by decide)
theorem g_take {e : Nat} (hsi : SI Z) (he : e < eZ Z) : ∀ (μ : Mem) (k : Nat), RC μ 1 Z → (fun q => fX10_takeFault N q 0 (nI e)) μ = some (k + 1) → k ≠ 0 := fun μ k h hf hk => by
  obtain ⟨h0, h6, h4, h5⟩ := RC_n hsi h
  obtain ⟨q6, q8⟩ := exY5 hsi he h
  have hf := Option.some.inj ((takeF_t h4 h5 he q6 q8).symm.trans hf)
  rw [hk] at hf
  by_cases h8 : qZ Z e = 0
  · rw [if_pos h8] at hf; exact absurd hf (by decide)
  · rw [if_neg h8] at hf; exact absurd hf (by decide)
theorem g_days {d : Nat} (h1 : 1 ≤ d) (h2 : d ≤ 99) : ∀ (μ : Mem) (k : Nat), RC μ 1 Z → (fun q => fX10_daysFault N q (nI d)) μ = some (k + 1) → False := fun μ k _ hf => by
  have e1 : fX10_daysFault N μ (nI d) = some 0 := by
    unfold fX10_daysFault
    rw [k_isFrom, bS, mn_ok h1 h2]; rfl
  exact no0 e1 hf
theorem g_send {e b : Nat} (hsi : SI Z) (he : e < eZ Z) (hb : b < nZ Z) : ∀ (μ : Mem) (k : Nat) (m0 : Mem), RC μ 1 Z → (fun q => fX10_sendFault N q 0 (nI e) (nI b)) μ = some (m0, k + 1) → k ≠ 0 := fun μ k m0 h hf hk => by
  obtain ⟨h0, h6, h4, h5⟩ := RC_n hsi h
  have hs := SIp_z hsi
  have e1 : idx (eZ Z) (nI e) = true := (idx_nI (by omega) (by omega)).mpr he
  have e2 : idx (nZ Z) (nI b) = true := (idx_nI (by omega) (by omega)).mpr hb
  subst hk
  have hf : fX10_sendFault N μ 0 (nI e) (nI b) = some (m0, 0 + 1) := hf
  have hj : fX10_journeyFault N μ 0 (nI e) (nI b) = some 0 := (journF (ν := fun _ => Z) (a0 := 0) h hs).trans (by rw [e1, e2]; rfl)
  unfold fX10_sendFault at hf
  rw [hj, bS, if_pos rfl] at hf
  obtain ⟨-, hf⟩ := ar_out hf
  obtain ⟨r7, -, hf⟩ := bd_out hf
  by_cases h7 : r7 = -1
  · rw [if_pos h7] at hf
    obtain ⟨r9, -, hf⟩ := bd_out hf
    cases hb9 : r9.2
    · rw [hb9, cond_false] at hf
      obtain ⟨r11, e11, hf⟩ := bd_out hf
      have e11 := Option.some.inj e11
      have hf : r11.2 = 0 + 1 := congrArg Prod.snd (Option.some.inj hf)
      rw [← e11] at hf
      have hf : (5 : Nat) = 0 + 1 := hf
      exact absurd hf (by decide)
    · rw [hb9, cond_true] at hf
      have hf : (0 : Nat) = 0 + 1 := congrArg Prod.snd (Option.some.inj hf)
      exact absurd hf (by decide)
  · rw [if_neg h7] at hf
    obtain ⟨r11, e11, hf⟩ := bd_out hf
    have e11 := Option.some.inj e11
    have hf : r11.2 = 0 + 1 := congrArg Prod.snd (Option.some.inj hf)
    rw [← e11] at hf
    have hf : (5 : Nat) = 0 + 1 := hf
    exact absurd hf (by decide)
end GOOD
