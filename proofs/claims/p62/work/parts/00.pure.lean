/-! The pure words: memory, reads and writes, loops with fuel, and what each method does as a partial function (moved here from the parts that prove the contracts). -/
abbrev Mem : Type := Nat → Nat → Int32
def mset (μ : Mem) (o k : Nat) (x : Int32) : Mem := fun q => if q = o then upd (μ o) k x else μ q
def b2i (b : Bool) : Int32 := cond b 1 0
def jn {α β : Type} (k : α) (b : α → β) : β := b k
theorem jn_out {α β : Type} {k : α} {b : α → β} {z : β} (h : jn k b = z) : ∃ j : α, j = k ∧ b j = z := ⟨k, rfl, h⟩
theorem ite_t {O : Type} {P : Prop} [Decidable P] {x y z : O} (hc : P) (h : (if P then x else y) = z) : x = z := by rw [if_pos hc] at h; exact h
theorem ite_f {O : Type} {P : Prop} [Decidable P] {x y z : O} (hc : ¬ P) (h : (if P then x else y) = z) : y = z := by rw [if_neg hc] at h; exact h
theorem cond_t {O : Type} {b : Bool} {x y z : O} (hc : b = true) (h : cond b x y = z) : x = z := by rw [hc] at h; exact h
theorem cond_f {O : Type} {b : Bool} {x y z : O} (hc : b = false) (h : cond b x y = z) : y = z := by rw [hc] at h; exact h
/-- a read of an array of n places -/
def ag {O : Type} (row : Nat → Int32) (n : Nat) (i : Int32) (k : Int32 → Option O) : Option O := if i < 0 ∨ n ≤ i.toNatClampNeg then none else k (row i.toNatClampNeg)
theorem ag_out {O : Type} {row : Nat → Int32} {n : Nat} {i : Int32} {k : Int32 → Option O} {z : O} (h : ag row n i k = some z) : vp_in i n ∧ k (row i.toNatClampNeg) = some z := by
  unfold ag at h
  by_cases hc : i < 0 ∨ n ≤ i.toNatClampNeg
  · rw [if_pos hc] at h; cases h
  · rw [if_neg hc] at h; exact ⟨hc, h⟩
/-- a write of an array of n places -/
def aw {O : Type} (μ : Mem) (o n : Nat) (i x : Int32) (k : Mem → Option O) : Option O := if i < 0 ∨ n ≤ i.toNatClampNeg then none else k (mset μ o i.toNatClampNeg x)
theorem aw_out {O : Type} {μ : Mem} {o n : Nat} {i x : Int32} {k : Mem → Option O} {z : O} (h : aw μ o n i x k = some z) : vp_in i n ∧ k (mset μ o i.toNatClampNeg x) = some z := by
  unfold aw at h
  by_cases hc : i < 0 ∨ n ≤ i.toNatClampNeg
  · rw [if_pos hc] at h; cases h
  · rw [if_neg hc] at h; exact ⟨hc, h⟩
/-- a place of an array of n rows -/
def ar {O : Type} (n : Nat) (i : Int32) (k : Nat → Option O) : Option O := if i < 0 ∨ n ≤ i.toNatClampNeg then none else k i.toNatClampNeg
theorem ar_out {O : Type} {n : Nat} {i : Int32} {k : Nat → Option O} {z : O} (h : ar n i k = some z) : vp_in i n ∧ k i.toNatClampNeg = some z := by
  unfold ar at h
  by_cases hc : i < 0 ∨ n ≤ i.toNatClampNeg
  · rw [if_pos hc] at h; cases h
  · rw [if_neg hc] at h; exact ⟨hc, h⟩
theorem vp_in_lt {i : Int32} {n : Nat} (h : vp_in i n) : i.toNatClampNeg < n := Nat.not_le.mp fun q => h (Or.inr q)
/-- a condition that has to hold -/
def gd {O : Type} (P : Prop) [Decidable P] (k : Option O) : Option O := if P then k else none
theorem gd_out {O : Type} {P : Prop} [Decidable P] {k : Option O} {z : O} (h : gd P k = some z) : P ∧ k = some z := by
  unfold gd at h
  by_cases hc : P
  · rw [if_pos hc] at h; exact ⟨hc, h⟩
  · rw [if_neg hc] at h; cases h
theorem bd_out {A O : Type} {x : Option A} {k : A → Option O} {z : O} (h : x.bind k = some z) : ∃ a, x = some a ∧ k a = some z := by
  cases x with
  | none => cases h
  | some a => exact ⟨a, rfl, h⟩
/-- a call of what may throw: exception number n is .inl n -/
def tb {A O : Type} (x : Option (Mem × (Nat ⊕ A))) (k : Mem → A → Option (Mem × (Nat ⊕ O))) : Option (Mem × (Nat ⊕ O)) := match x with
  | none => none
  | some (μ, .inl n) => some (μ, .inl n)
  | some (μ, .inr a) => k μ a
theorem tb_out {A O : Type} {x : Option (Mem × (Nat ⊕ A))} {k : Mem → A → Option (Mem × (Nat ⊕ O))} {z : Mem × (Nat ⊕ O)} (h : tb x k = some z) : (∃ μ n, x = some (μ, .inl n) ∧ z = (μ, .inl n)) ∨ ∃ μ a, x = some (μ, .inr a) ∧ k μ a = some z := by
  cases x with
  | none => cases h
  | some q =>
    obtain ⟨μ, n | a⟩ := q
    · exact Or.inl ⟨μ, n, rfl, (Option.some.inj h).symm⟩
    · exact Or.inr ⟨μ, a, rfl, h⟩
def fix1 {A1 O : Type} (body : (A1 → Option O) → A1 → Option O) : Nat → A1 → Option O
  | 0 => fun _ => none
  | n + 1 => body (fix1 body n)
theorem fix1_ind {A1 O : Type} {body : (A1 → Option O) → A1 → Option O} {z : O} (P : A1 → Prop) (hb : ∀ self : A1 → Option O, (∀ (a1 : A1), self a1 = some z → P a1) → ∀ (a1 : A1), body self a1 = some z → P a1) : ∀ (n : Nat) (a1 : A1), fix1 body n a1 = some z → P a1
  | 0, _, h => (by cases h)
  | n + 1, a1, h => hb (fix1 body n) (fix1_ind P hb n) a1 h
def fix2 {A1 A2 O : Type} (body : (A1 → A2 → Option O) → A1 → A2 → Option O) : Nat → A1 → A2 → Option O
  | 0 => fun _ _ => none
  | n + 1 => body (fix2 body n)
theorem fix2_ind {A1 A2 O : Type} {body : (A1 → A2 → Option O) → A1 → A2 → Option O} {z : O} (P : A1 → A2 → Prop) (hb : ∀ self : A1 → A2 → Option O, (∀ (a1 : A1) (a2 : A2), self a1 a2 = some z → P a1 a2) → ∀ (a1 : A1) (a2 : A2), body self a1 a2 = some z → P a1 a2) : ∀ (n : Nat) (a1 : A1) (a2 : A2), fix2 body n a1 a2 = some z → P a1 a2
  | 0, _, _, h => (by cases h)
  | n + 1, a1, a2, h => hb (fix2 body n) (fix2_ind P hb n) a1 a2 h
def fix3 {A1 A2 A3 O : Type} (body : (A1 → A2 → A3 → Option O) → A1 → A2 → A3 → Option O) : Nat → A1 → A2 → A3 → Option O
  | 0 => fun _ _ _ => none
  | n + 1 => body (fix3 body n)
theorem fix3_ind {A1 A2 A3 O : Type} {body : (A1 → A2 → A3 → Option O) → A1 → A2 → A3 → Option O} {z : O} (P : A1 → A2 → A3 → Prop) (hb : ∀ self : A1 → A2 → A3 → Option O, (∀ (a1 : A1) (a2 : A2) (a3 : A3), self a1 a2 a3 = some z → P a1 a2 a3) → ∀ (a1 : A1) (a2 : A2) (a3 : A3), body self a1 a2 a3 = some z → P a1 a2 a3) : ∀ (n : Nat) (a1 : A1) (a2 : A2) (a3 : A3), fix3 body n a1 a2 a3 = some z → P a1 a2 a3
  | 0, _, _, _, h => (by cases h)
  | n + 1, a1, a2, a3, h => hb (fix3 body n) (fix3_ind P hb n) a1 a2 a3 h
def fix4 {A1 A2 A3 A4 O : Type} (body : (A1 → A2 → A3 → A4 → Option O) → A1 → A2 → A3 → A4 → Option O) : Nat → A1 → A2 → A3 → A4 → Option O
  | 0 => fun _ _ _ _ => none
  | n + 1 => body (fix4 body n)
theorem fix4_ind {A1 A2 A3 A4 O : Type} {body : (A1 → A2 → A3 → A4 → Option O) → A1 → A2 → A3 → A4 → Option O} {z : O} (P : A1 → A2 → A3 → A4 → Prop) (hb : ∀ self : A1 → A2 → A3 → A4 → Option O, (∀ (a1 : A1) (a2 : A2) (a3 : A3) (a4 : A4), self a1 a2 a3 a4 = some z → P a1 a2 a3 a4) → ∀ (a1 : A1) (a2 : A2) (a3 : A3) (a4 : A4), body self a1 a2 a3 a4 = some z → P a1 a2 a3 a4) : ∀ (n : Nat) (a1 : A1) (a2 : A2) (a3 : A3) (a4 : A4), fix4 body n a1 a2 a3 a4 = some z → P a1 a2 a3 a4
  | 0, _, _, _, _, h => (by cases h)
  | n + 1, a1, a2, a3, a4, h => hb (fix4 body n) (fix4_ind P hb n) a1 a2 a3 a4 h
def fix5 {A1 A2 A3 A4 A5 O : Type} (body : (A1 → A2 → A3 → A4 → A5 → Option O) → A1 → A2 → A3 → A4 → A5 → Option O) : Nat → A1 → A2 → A3 → A4 → A5 → Option O
  | 0 => fun _ _ _ _ _ => none
  | n + 1 => body (fix5 body n)
theorem fix5_ind {A1 A2 A3 A4 A5 O : Type} {body : (A1 → A2 → A3 → A4 → A5 → Option O) → A1 → A2 → A3 → A4 → A5 → Option O} {z : O} (P : A1 → A2 → A3 → A4 → A5 → Prop) (hb : ∀ self : A1 → A2 → A3 → A4 → A5 → Option O, (∀ (a1 : A1) (a2 : A2) (a3 : A3) (a4 : A4) (a5 : A5), self a1 a2 a3 a4 a5 = some z → P a1 a2 a3 a4 a5) → ∀ (a1 : A1) (a2 : A2) (a3 : A3) (a4 : A4) (a5 : A5), body self a1 a2 a3 a4 a5 = some z → P a1 a2 a3 a4 a5) : ∀ (n : Nat) (a1 : A1) (a2 : A2) (a3 : A3) (a4 : A4) (a5 : A5), fix5 body n a1 a2 a3 a4 a5 = some z → P a1 a2 a3 a4 a5
  | 0, _, _, _, _, _, h => (by cases h)
  | n + 1, a1, a2, a3, a4, a5, h => hb (fix5 body n) (fix5_ind P hb n) a1 a2 a3 a4 a5 h
def fix6 {A1 A2 A3 A4 A5 A6 O : Type} (body : (A1 → A2 → A3 → A4 → A5 → A6 → Option O) → A1 → A2 → A3 → A4 → A5 → A6 → Option O) : Nat → A1 → A2 → A3 → A4 → A5 → A6 → Option O
  | 0 => fun _ _ _ _ _ _ => none
  | n + 1 => body (fix6 body n)
theorem fix6_ind {A1 A2 A3 A4 A5 A6 O : Type} {body : (A1 → A2 → A3 → A4 → A5 → A6 → Option O) → A1 → A2 → A3 → A4 → A5 → A6 → Option O} {z : O} (P : A1 → A2 → A3 → A4 → A5 → A6 → Prop) (hb : ∀ self : A1 → A2 → A3 → A4 → A5 → A6 → Option O, (∀ (a1 : A1) (a2 : A2) (a3 : A3) (a4 : A4) (a5 : A5) (a6 : A6), self a1 a2 a3 a4 a5 a6 = some z → P a1 a2 a3 a4 a5 a6) → ∀ (a1 : A1) (a2 : A2) (a3 : A3) (a4 : A4) (a5 : A5) (a6 : A6), body self a1 a2 a3 a4 a5 a6 = some z → P a1 a2 a3 a4 a5 a6) : ∀ (n : Nat) (a1 : A1) (a2 : A2) (a3 : A3) (a4 : A4) (a5 : A5) (a6 : A6), fix6 body n a1 a2 a3 a4 a5 a6 = some z → P a1 a2 a3 a4 a5 a6
  | 0, _, _, _, _, _, _, h => (by cases h)
  | n + 1, a1, a2, a3, a4, a5, a6, h => hb (fix6 body n) (fix6_ind P hb n) a1 a2 a3 a4 a5 a6 h
def fix7 {A1 A2 A3 A4 A5 A6 A7 O : Type} (body : (A1 → A2 → A3 → A4 → A5 → A6 → A7 → Option O) → A1 → A2 → A3 → A4 → A5 → A6 → A7 → Option O) : Nat → A1 → A2 → A3 → A4 → A5 → A6 → A7 → Option O
  | 0 => fun _ _ _ _ _ _ _ => none
  | n + 1 => body (fix7 body n)
theorem fix7_ind {A1 A2 A3 A4 A5 A6 A7 O : Type} {body : (A1 → A2 → A3 → A4 → A5 → A6 → A7 → Option O) → A1 → A2 → A3 → A4 → A5 → A6 → A7 → Option O} {z : O} (P : A1 → A2 → A3 → A4 → A5 → A6 → A7 → Prop) (hb : ∀ self : A1 → A2 → A3 → A4 → A5 → A6 → A7 → Option O, (∀ (a1 : A1) (a2 : A2) (a3 : A3) (a4 : A4) (a5 : A5) (a6 : A6) (a7 : A7), self a1 a2 a3 a4 a5 a6 a7 = some z → P a1 a2 a3 a4 a5 a6 a7) → ∀ (a1 : A1) (a2 : A2) (a3 : A3) (a4 : A4) (a5 : A5) (a6 : A6) (a7 : A7), body self a1 a2 a3 a4 a5 a6 a7 = some z → P a1 a2 a3 a4 a5 a6 a7) : ∀ (n : Nat) (a1 : A1) (a2 : A2) (a3 : A3) (a4 : A4) (a5 : A5) (a6 : A6) (a7 : A7), fix7 body n a1 a2 a3 a4 a5 a6 a7 = some z → P a1 a2 a3 a4 a5 a6 a7
  | 0, _, _, _, _, _, _, _, h => (by cases h)
  | n + 1, a1, a2, a3, a4, a5, a6, a7, h => hb (fix7 body n) (fix7_ind P hb n) a1 a2 a3 a4 a5 a6 a7 h
def fix8 {A1 A2 A3 A4 A5 A6 A7 A8 O : Type} (body : (A1 → A2 → A3 → A4 → A5 → A6 → A7 → A8 → Option O) → A1 → A2 → A3 → A4 → A5 → A6 → A7 → A8 → Option O) : Nat → A1 → A2 → A3 → A4 → A5 → A6 → A7 → A8 → Option O
  | 0 => fun _ _ _ _ _ _ _ _ => none
  | n + 1 => body (fix8 body n)
theorem fix8_ind {A1 A2 A3 A4 A5 A6 A7 A8 O : Type} {body : (A1 → A2 → A3 → A4 → A5 → A6 → A7 → A8 → Option O) → A1 → A2 → A3 → A4 → A5 → A6 → A7 → A8 → Option O} {z : O} (P : A1 → A2 → A3 → A4 → A5 → A6 → A7 → A8 → Prop) (hb : ∀ self : A1 → A2 → A3 → A4 → A5 → A6 → A7 → A8 → Option O, (∀ (a1 : A1) (a2 : A2) (a3 : A3) (a4 : A4) (a5 : A5) (a6 : A6) (a7 : A7) (a8 : A8), self a1 a2 a3 a4 a5 a6 a7 a8 = some z → P a1 a2 a3 a4 a5 a6 a7 a8) → ∀ (a1 : A1) (a2 : A2) (a3 : A3) (a4 : A4) (a5 : A5) (a6 : A6) (a7 : A7) (a8 : A8), body self a1 a2 a3 a4 a5 a6 a7 a8 = some z → P a1 a2 a3 a4 a5 a6 a7 a8) : ∀ (n : Nat) (a1 : A1) (a2 : A2) (a3 : A3) (a4 : A4) (a5 : A5) (a6 : A6) (a7 : A7) (a8 : A8), fix8 body n a1 a2 a3 a4 a5 a6 a7 a8 = some z → P a1 a2 a3 a4 a5 a6 a7 a8
  | 0, _, _, _, _, _, _, _, _, h => (by cases h)
  | n + 1, a1, a2, a3, a4, a5, a6, a7, a8, h => hb (fix8 body n) (fix8_ind P hb n) a1 a2 a3 a4 a5 a6 a7 a8 h
def fix9 {A1 A2 A3 A4 A5 A6 A7 A8 A9 O : Type} (body : (A1 → A2 → A3 → A4 → A5 → A6 → A7 → A8 → A9 → Option O) → A1 → A2 → A3 → A4 → A5 → A6 → A7 → A8 → A9 → Option O) : Nat → A1 → A2 → A3 → A4 → A5 → A6 → A7 → A8 → A9 → Option O
  | 0 => fun _ _ _ _ _ _ _ _ _ => none
  | n + 1 => body (fix9 body n)
theorem fix9_ind {A1 A2 A3 A4 A5 A6 A7 A8 A9 O : Type} {body : (A1 → A2 → A3 → A4 → A5 → A6 → A7 → A8 → A9 → Option O) → A1 → A2 → A3 → A4 → A5 → A6 → A7 → A8 → A9 → Option O} {z : O} (P : A1 → A2 → A3 → A4 → A5 → A6 → A7 → A8 → A9 → Prop) (hb : ∀ self : A1 → A2 → A3 → A4 → A5 → A6 → A7 → A8 → A9 → Option O, (∀ (a1 : A1) (a2 : A2) (a3 : A3) (a4 : A4) (a5 : A5) (a6 : A6) (a7 : A7) (a8 : A8) (a9 : A9), self a1 a2 a3 a4 a5 a6 a7 a8 a9 = some z → P a1 a2 a3 a4 a5 a6 a7 a8 a9) → ∀ (a1 : A1) (a2 : A2) (a3 : A3) (a4 : A4) (a5 : A5) (a6 : A6) (a7 : A7) (a8 : A8) (a9 : A9), body self a1 a2 a3 a4 a5 a6 a7 a8 a9 = some z → P a1 a2 a3 a4 a5 a6 a7 a8 a9) : ∀ (n : Nat) (a1 : A1) (a2 : A2) (a3 : A3) (a4 : A4) (a5 : A5) (a6 : A6) (a7 : A7) (a8 : A8) (a9 : A9), fix9 body n a1 a2 a3 a4 a5 a6 a7 a8 a9 = some z → P a1 a2 a3 a4 a5 a6 a7 a8 a9
  | 0, _, _, _, _, _, _, _, _, _, h => (by cases h)
  | n + 1, a1, a2, a3, a4, a5, a6, a7, a8, a9, h => hb (fix9 body n) (fix9_ind P hb n) a1 a2 a3 a4 a5 a6 a7 a8 a9 h
def fix10 {A1 A2 A3 A4 A5 A6 A7 A8 A9 A10 O : Type} (body : (A1 → A2 → A3 → A4 → A5 → A6 → A7 → A8 → A9 → A10 → Option O) → A1 → A2 → A3 → A4 → A5 → A6 → A7 → A8 → A9 → A10 → Option O) : Nat → A1 → A2 → A3 → A4 → A5 → A6 → A7 → A8 → A9 → A10 → Option O
  | 0 => fun _ _ _ _ _ _ _ _ _ _ => none
  | n + 1 => body (fix10 body n)
theorem fix10_ind {A1 A2 A3 A4 A5 A6 A7 A8 A9 A10 O : Type} {body : (A1 → A2 → A3 → A4 → A5 → A6 → A7 → A8 → A9 → A10 → Option O) → A1 → A2 → A3 → A4 → A5 → A6 → A7 → A8 → A9 → A10 → Option O} {z : O} (P : A1 → A2 → A3 → A4 → A5 → A6 → A7 → A8 → A9 → A10 → Prop) (hb : ∀ self : A1 → A2 → A3 → A4 → A5 → A6 → A7 → A8 → A9 → A10 → Option O, (∀ (a1 : A1) (a2 : A2) (a3 : A3) (a4 : A4) (a5 : A5) (a6 : A6) (a7 : A7) (a8 : A8) (a9 : A9) (a10 : A10), self a1 a2 a3 a4 a5 a6 a7 a8 a9 a10 = some z → P a1 a2 a3 a4 a5 a6 a7 a8 a9 a10) → ∀ (a1 : A1) (a2 : A2) (a3 : A3) (a4 : A4) (a5 : A5) (a6 : A6) (a7 : A7) (a8 : A8) (a9 : A9) (a10 : A10), body self a1 a2 a3 a4 a5 a6 a7 a8 a9 a10 = some z → P a1 a2 a3 a4 a5 a6 a7 a8 a9 a10) : ∀ (n : Nat) (a1 : A1) (a2 : A2) (a3 : A3) (a4 : A4) (a5 : A5) (a6 : A6) (a7 : A7) (a8 : A8) (a9 : A9) (a10 : A10), fix10 body n a1 a2 a3 a4 a5 a6 a7 a8 a9 a10 = some z → P a1 a2 a3 a4 a5 a6 a7 a8 a9 a10
  | 0, _, _, _, _, _, _, _, _, _, _, h => (by cases h)
  | n + 1, a1, a2, a3, a4, a5, a6, a7, a8, a9, a10, h => hb (fix10 body n) (fix10_ind P hb n) a1 a2 a3 a4 a5 a6 a7 a8 a9 a10 h
theorem mset_same (μ : Mem) (o k : Nat) (x : Int32) : mset μ o k x o = upd (μ o) k x := by unfold mset; rw [if_pos rfl]
theorem mset_ne (μ : Mem) (o k : Nat) (x : Int32) {q : Nat} (h : q ≠ o) : mset μ o k x q = μ q := by unfold mset; rw [if_neg h]
def lt {α β : Type} (v : α) (k : α → β) : β := k v
theorem lt_out {α β : Type} {v : α} {k : α → β} {z : β} (h : lt v k = z) : ∃ x, x = v ∧ k x = z := ⟨v, rfl, h⟩
theorem ag_o {O : Type} {row : Nat → Int32} {n : Nat} {i : Int32} {k : Int32 → Option O} {z : O} (h : ag row n i k = some z) : ∃ v, v = row i.toNatClampNeg ∧ vp_in i n ∧ k v = some z := ⟨_, rfl, ag_out h⟩
theorem aw_o {O : Type} {μ : Mem} {o n : Nat} {i x : Int32} {k : Mem → Option O} {z : O} (h : aw μ o n i x k = some z) : ∃ v, v = mset μ o i.toNatClampNeg x ∧ vp_in i n ∧ k v = some z := ⟨_, rfl, aw_out h⟩
theorem ar_o {O : Type} {n : Nat} {i : Int32} {k : Nat → Option O} {z : O} (h : ar n i k = some z) : ∃ q, q = i.toNatClampNeg ∧ q < n ∧ vp_in i n ∧ k q = some z := ⟨_, rfl, vp_in_lt (ar_out h).1, ar_out h⟩
def imax (x y : Int32) : Int32 := if x < y then y else x
def imin (x y : Int32) : Int32 := if y < x then y else x
/-- System.arraycopy of n places from place sp of object o to place dp of object q -/
def acp {O : Type} (μ : Mem) (o n0 q n1 : Nat) (sp dp n : Int32) (k : Mem → Option O) : Option O :=
  if sp < 0 ∨ dp < 0 ∨ n < 0 ∨ n0 < sp.toNatClampNeg + n.toNatClampNeg ∨ n1 < dp.toNatClampNeg + n.toNatClampNeg then none else k (fun i => if i = q then va_cpy (μ o) (μ q) sp.toNatClampNeg dp.toNatClampNeg n.toNatClampNeg else μ i)
theorem acp_o {O : Type} {μ : Mem} {o n0 q n1 : Nat} {sp dp n : Int32} {k : Mem → Option O} {z : O} (h : acp μ o n0 q n1 sp dp n k = some z) : ∃ v : Mem, (v = fun i => if i = q then va_cpy (μ o) (μ q) sp.toNatClampNeg dp.toNatClampNeg n.toNatClampNeg else μ i) ∧ (¬ sp < 0 ∧ ¬ dp < 0 ∧ ¬ n < 0 ∧ sp.toNatClampNeg + n.toNatClampNeg ≤ n0 ∧ dp.toNatClampNeg + n.toNatClampNeg ≤ n1) ∧ k v = some z := by
  unfold acp at h
  by_cases hc : sp < 0 ∨ dp < 0 ∨ n < 0 ∨ n0 < sp.toNatClampNeg + n.toNatClampNeg ∨ n1 < dp.toNatClampNeg + n.toNatClampNeg
  · rw [if_pos hc] at h; cases h
  · rw [if_neg hc] at h
    simp only [not_or] at hc
    exact ⟨_, rfl, ⟨hc.1, hc.2.1, hc.2.2.1, by omega, by omega⟩, h⟩
def fX1_copyFrom (N : Nat) (μ : Mem) (a0 : Nat) (a1 : Nat) : Option Mem :=
  lt (mset μ a0 0 (μ a1 0)) fun μ1 =>
  lt (mset μ1 a0 1 (μ1 a1 1)) fun μ3 =>
  acp μ3 (a1 + 1) 16 (a0 + 1) 16 0 0 16 fun μ5 =>
  lt (mset μ5 a0 3 (μ5 a1 3)) fun μ8 =>
  lt (mset μ8 a0 4 (μ8 a1 4)) fun μ10 =>
  lt (mset μ10 a0 5 (μ10 a1 5)) fun μ12 =>
  lt (mset μ12 a0 6 (μ12 a1 6)) fun μ14 =>
  acp μ14 (a1 + 2) 8 (a0 + 2) 8 0 0 8 fun μ16 =>
  acp μ16 (a1 + 3) 8 (a0 + 3) 8 0 0 8 fun μ19 =>
  acp μ19 (a1 + 4) 8 (a0 + 4) 8 0 0 8 fun μ22 =>
  lt (mset μ22 a0 10 (μ22 a1 10)) fun μ25 =>
  acp μ25 (a1 + 5) 100 (a0 + 5) 100 0 0 100 fun μ27 =>
  some μ27
def fX6_highestPlace (N : Nat) (μ : Mem) (a0 : Nat) : Option Int32 :=
  fix2 (fun self3 (x1 : Int32) (x2 : Int32) =>
  if 16 ≤ x2 then
  (some x1)
  else (ag (μ a0) 16 x2 fun v6 =>
  ag (μ a0) 16 x1 fun v9 =>
  jn (fun (y12 : Int32) =>
  lt (x2 + 1) fun v16 =>
  self3 y12 v16) fun j13 =>
  if v6 ≤ v9 then
  (j13 x1)
  else (j13 x2))) N 0 1
def fX1_melt (N : Nat) (μ : Mem) (a0 : Nat) (a1 : Int32) : Option (Mem × Int32) :=
  fix3 (fun self4 (x1 : Int32) (x2 : Int32) (μ3 : Mem) =>
  jn (fun (u6 : Unit) =>
  lt (mset μ3 a0 5 ((μ3 a0 5) + x1)) fun μ10 =>
  some (μ10, x1)) fun j7 =>
  if a1 ≤ x2 then
  (j7 ())
  else ((fX6_highestPlace N μ3 (a0 + 1)).bind fun r13 =>
  ag (μ3 (a0 + 1)) 16 r13 fun v14 =>
  if v14 = 0 then
  (j7 ())
  else (ag (μ3 (a0 + 1)) 16 r13 fun v18 =>
  aw μ3 (a0 + 1) 16 r13 (v18 - 1) fun μ21 =>
  lt (x1 + 1) fun v24 =>
  lt (x2 + 1) fun v26 =>
  self4 v24 v26 μ21))) N 0 0 μ
def fX10_isFrom (N : Nat) (μ : Mem) (a0 : Int32) (a1 : Int32) (a2 : Int32) : Option Bool :=
  jn (fun (y1 : Bool) =>
  some y1) fun j2 =>
  jn (fun (u5 : Unit) =>
  j2 false) fun j6 =>
  if a1 < a0 then
  (j6 ())
  else (if a2 < a1 then
  (j6 ())
  else (j2 true))
def fX1_loanEndOn (N : Nat) (μ : Mem) (a0 : Nat) (a1 : Int32) : Option Int32 :=
  (fX10_isFrom N μ 0 a1 99).bind fun r1 =>
  jn (fun (y2 : Int32) =>
  some y2) fun j3 =>
  cond r1
  (ag (μ (a0 + 5)) 100 a1 fun v7 =>
  j3 (v7 - 1))
  (j3 (-1))
def fX1_noteLoan (N : Nat) (μ : Mem) (a0 : Nat) (a1 : Int32) (a2 : Int32) (a3 : Int32) : Option (Mem × Int32) :=
  aw μ (a0 + 2) 8 (μ a0 6) a1 fun μ1 =>
  aw μ1 (a0 + 3) 8 (μ1 a0 6) a2 fun μ4 =>
  aw μ4 (a0 + 4) 8 (μ4 a0 6) a3 fun μ7 =>
  lt (mset μ7 a0 6 ((μ7 a0 6) + 1)) fun μ10 =>
  some (μ10, (μ10 a0 6))
def fX1_contains (N : Nat) (μ : Mem) (a0 : Int32) (a1 : Int32) : Option Bool :=
  jn (fun (y1 : Bool) =>
  some y1) fun j2 =>
  if ((a0 >>> (a1 &&& 31)) &&& 1) = 1 then
  (j2 true)
  else (j2 false)
def fX1_takeLoan (N : Nat) (μ : Mem) (a0 : Nat) (a1 : Int32) : Option Mem :=
  ag (μ (a0 + 2)) 8 a1 fun v1 =>
  fix2 (fun self6 (x4 : Int32) (μ5 : Mem) =>
  ag (μ5 (a0 + 3)) 8 a1 fun v8 =>
  if v8 < x4 then
  (lt (mset μ5 a0 10 ((μ5 a0 10) + 1)) fun μ12 =>
  some μ12)
  else (ag (μ5 (a0 + 3)) 8 a1 fun v14 =>
  aw μ5 (a0 + 5) 100 x4 (v14 + 1) fun μ17 =>
  lt (x4 + 1) fun v20 =>
  self6 v20 μ17)) N v1 μ
def fX1_takeLoans (N : Nat) (μ : Mem) (a0 : Nat) (a1 : Int32) : Option Mem :=
  fix2 (fun self3 (x1 : Int32) (μ2 : Mem) =>
  if (μ2 a0 6) ≤ x1 then
  (lt (mset μ2 a0 6 0) fun μ6 =>
  some μ6)
  else ((fX1_contains N μ2 a1 x1).bind fun r8 =>
  jn (fun (μ9 : Mem) =>
  lt (x1 + 1) fun v13 =>
  self3 v13 μ9) fun j10 =>
  cond r8
  ((fX1_takeLoan N μ2 a0 x1).bind fun r16 =>
  j10 r16)
  (j10 μ2))) N 0 μ
def fX1_isFree (N : Nat) (μ : Mem) (a0 : Nat) (a1 : Int32) : Option Bool :=
  ag (μ (a0 + 2)) 8 a1 fun v1 =>
  fix1 (fun self5 (x4 : Int32) =>
  ag (μ (a0 + 3)) 8 a1 fun v7 =>
  if v7 < x4 then
  (some true)
  else (ag (μ (a0 + 5)) 100 x4 fun v11 =>
  if v11 = 0 then
  (lt (x4 + 1) fun v15 =>
  self5 v15)
  else (some false))) N v1
def fX1_hinderedLoans (N : Nat) (μ : Mem) (a0 : Nat) : Option Int32 :=
  fix2 (fun self3 (x1 : Int32) (x2 : Int32) =>
  if (μ a0 6) ≤ x2 then
  (some x1)
  else ((fX1_isFree N μ a0 x2).bind fun r6 =>
  jn (fun (y7 : Int32) =>
  lt (x2 + 1) fun v11 =>
  self3 y7 v11) fun j8 =>
  cond r6
  (j8 x1)
  (lt (x1 ||| (1 <<< (x2 &&& 31))) fun v14 =>
  j8 v14))) N 0 0
def fX1_feesOf (N : Nat) (μ : Mem) (a0 : Nat) (a1 : Int32) : Option Int32 :=
  fix2 (fun self3 (x1 : Int32) (x2 : Int32) =>
  if (μ a0 6) ≤ x2 then
  (some x1)
  else ((fX1_contains N μ a1 x2).bind fun r6 =>
  jn (fun (y7 : Int32) =>
  lt (x2 + 1) fun v11 =>
  self3 y7 v11) fun j8 =>
  cond r6
  (ag (μ (a0 + 4)) 8 x2 fun v14 =>
  lt (x1 + v14) fun v17 =>
  j8 v17)
  (j8 x1))) N 0 0
def fX1_meetsEarlier (N : Nat) (μ : Mem) (a0 : Nat) (a1 : Int32) (a2 : Int32) : Option Bool :=
  fix1 (fun self2 (x1 : Int32) =>
  if a2 ≤ x1 then
  (some false)
  else ((fX1_contains N μ a1 x1).bind fun r5 =>
  jn (fun (u6 : Unit) =>
  lt (x1 + 1) fun v10 =>
  self2 v10) fun j7 =>
  cond r5
  (ag (μ (a0 + 2)) 8 x1 fun v13 =>
  ag (μ (a0 + 3)) 8 a2 fun v16 =>
  if v16 < v13 then
  (j7 ())
  else (ag (μ (a0 + 2)) 8 a2 fun v20 =>
  ag (μ (a0 + 3)) 8 x1 fun v23 =>
  if v23 < v20 then
  (j7 ())
  else (some true)))
  (j7 ()))) N 0
def fX1_isApart (N : Nat) (μ : Mem) (a0 : Nat) (a1 : Int32) : Option Bool :=
  fix1 (fun self2 (x1 : Int32) =>
  if (μ a0 6) ≤ x1 then
  (some true)
  else ((fX1_contains N μ a1 x1).bind fun r5 =>
  jn (fun (u6 : Unit) =>
  lt (x1 + 1) fun v10 =>
  self2 v10) fun j7 =>
  cond r5
  ((fX1_meetsEarlier N μ a0 a1 x1).bind fun r13 =>
  cond r13
  (some false)
  (j7 ()))
  (j7 ()))) N 0
def fX8_copyFrom (N : Nat) (μ : Mem) (a0 : Nat) (a1 : Nat) : Option Mem :=
  lt (mset μ a0 0 (μ a1 0)) fun μ1 =>
  acp μ1 (a1 + 1) 6 (a0 + 1) 6 0 0 6 fun μ3 =>
  fix2 (fun self8 (x6 : Int32) (μ7 : Mem) =>
  if 6 ≤ x6 then
  (lt (mset μ7 a0 4 (μ7 a1 4)) fun μ11 =>
  fix2 (fun self15 (x13 : Int32) (μ14 : Mem) =>
  if 5 ≤ x13 then
  (lt (mset μ14 a0 6 (μ14 a1 6)) fun μ18 =>
  lt (mset μ18 a0 7 (μ18 a1 7)) fun μ20 =>
  some μ20)
  else (ar 5 x13 fun q22 =>
  ar 5 x13 fun q26 =>
  (fX1_copyFrom N μ14 ((a0 + 16) + 1 + 6 * q22) ((a1 + 16) + 1 + 6 * q26)).bind fun r30 =>
  lt (x13 + 1) fun v31 =>
  self15 v31 r30)) N 0 μ11)
  else (ar 6 x6 fun q33 =>
  ar 6 x6 fun q37 =>
  acp μ7 ((a1 + 2) + 1 + 1 * q33) 6 ((a0 + 2) + 1 + 1 * q37) 6 0 0 6 fun μ41 =>
  ar 6 x6 fun q44 =>
  ar 6 x6 fun q48 =>
  acp μ41 ((a1 + 9) + 1 + 1 * q44) 6 ((a0 + 9) + 1 + 1 * q48) 6 0 0 6 fun μ52 =>
  lt (x6 + 1) fun v55 =>
  self8 v55 μ52)) N 0 μ3
def fX4_note (N : Nat) (μ : Mem) (a0 : Nat) (a1 : Nat) : Option Mem :=
  ar 9 (μ a0 1) fun q1 =>
  (fX8_copyFrom N μ ((a0 + 1) + 1 + 47 * q1) a1).bind fun r5 =>
  some r5
def fX4_noted (N : Nat) (μ : Mem) (a0 : Nat) : Option Nat :=
  ar 9 (μ a0 1) fun q1 =>
  some ((a0 + 1) + 1 + 47 * q1)
def fX4_keep (N : Nat) (μ : Mem) (a0 : Nat) : Option Mem :=
  lt (mset μ a0 1 (((μ a0 1) + 1) - ((μ a0 1) + 1) / 9 * 9)) fun μ1 =>
  lt (mset μ1 a0 2 (imin ((μ1 a0 2) + 1) 8)) fun μ3 =>
  some μ3
def fX4_stepBack (N : Nat) (μ : Mem) (a0 : Nat) : Option Mem :=
  lt (mset μ a0 1 (((μ a0 1) + 8) - ((μ a0 1) + 8) / 9 * 9)) fun μ1 =>
  lt (mset μ1 a0 2 ((μ1 a0 2) - 1)) fun μ3 =>
  some μ3
def fX5_sortByLastDays (N : Nat) (μ : Mem) (a0 : Nat) (a1 : Nat) : Option Mem :=
  fix2 (fun self3 (x1 : Int32) (μ2 : Mem) =>
  if (μ2 a1 6) ≤ x1 then
  (some μ2)
  else (fix3 (fun self9 (x6 : Int32) (x7 : Int32) (μ8 : Mem) =>
  jn (fun (u11 : Unit) =>
  aw μ8 (a0 + 1) 8 x6 x1 fun μ15 =>
  lt (x1 + 1) fun v18 =>
  self3 v18 μ15) fun j12 =>
  if x7 ≤ 0 then
  (j12 ())
  else (ag (μ8 (a0 + 1)) 8 (x7 - 1) fun v21 =>
  ag (μ8 (a1 + 3)) 8 v21 fun v24 =>
  ag (μ8 (a1 + 3)) 8 x1 fun v27 =>
  if v27 < v24 then
  (ag (μ8 (a0 + 1)) 8 (x7 - 1) fun v31 =>
  aw μ8 (a0 + 1) 8 x7 v31 fun μ34 =>
  lt (x7 - 1) fun v37 =>
  lt (x7 + (-1)) fun v39 =>
  self9 v37 v39 μ34)
  else (j12 ()))) N x1 x1 μ2)) N 0 μ
def fX5_countEndedBefore (N : Nat) (μ : Mem) (a0 : Nat) (a1 : Int32) : Option Int32 :=
  fix2 (fun self3 (x1 : Int32) (x2 : Int32) =>
  if (μ a0 6) ≤ x2 then
  (some x1)
  else (ag (μ (a0 + 3)) 8 x2 fun v6 =>
  jn (fun (y9 : Int32) =>
  lt (x2 + 1) fun v13 =>
  self3 y9 v13) fun j10 =>
  if a1 ≤ v6 then
  (j10 x1)
  else (lt (x1 + 1) fun v16 =>
  j10 v16))) N 0 0
def fX5_feesByLastDays (N : Nat) (μ : Mem) (a0 : Nat) (a1 : Nat) : Option (Mem × Int32) :=
  (fX5_sortByLastDays N μ a0 a1).bind fun r1 =>
  fix2 (fun self4 (x2 : Int32) (μ3 : Mem) =>
  if (μ3 a1 6) < x2 then
  (ag (μ3 (a0 + 2)) 9 (μ3 a1 6) fun v7 =>
  some (μ3, v7))
  else (ag (μ3 (a0 + 1)) 8 (x2 - 1) fun v10 =>
  ag (μ3 (a0 + 2)) 9 (x2 - 1) fun v13 =>
  aw μ3 (a0 + 2) 9 x2 v13 fun μ16 =>
  (fX1_isFree N μ16 a1 v10).bind fun r19 =>
  jn (fun (μ20 : Mem) =>
  lt (x2 + 1) fun v24 =>
  self4 v24 μ20) fun j21 =>
  cond r19
  (ag (μ16 (a1 + 2)) 8 v10 fun v27 =>
  (fX5_countEndedBefore N μ16 a1 v27).bind fun r30 =>
  ag (μ16 (a0 + 2)) 9 x2 fun v31 =>
  ag (μ16 (a0 + 2)) 9 r30 fun v34 =>
  ag (μ16 (a1 + 4)) 8 v10 fun v37 =>
  aw μ16 (a0 + 2) 9 x2 (imax v31 (v34 + v37)) fun μ40 =>
  j21 μ40)
  (j21 μ16))) N 1 r1
def fX6_beside (N : Nat) (μ : Mem) (a0 : Int32) (a1 : Int32) : Option Int32 :=
  lt (a0 - a0 / 4 * 4) fun v1 =>
  lt (a0 / 4) fun v3 =>
  (if a1 = 0 then
  (jn (fun (y6 : Int32) =>
  some y6) fun j7 =>
  if v1 ≤ 0 then
  (j7 (-1))
  else (j7 (a0 - 1)))
  else if a1 = 1 then
  (jn (fun (y12 : Int32) =>
  some y12) fun j13 =>
  if 3 ≤ v1 then
  (j13 (-1))
  else (j13 (a0 + 1)))
  else if a1 = 2 then
  (jn (fun (y18 : Int32) =>
  some y18) fun j19 =>
  if v3 ≤ 0 then
  (j19 (-1))
  else (j19 (a0 - 4)))
  else (jn (fun (y23 : Int32) =>
  some y23) fun j24 =>
  if 3 ≤ v3 then
  (j24 (-1))
  else (j24 (a0 + 4))))
def fX6_countGrains (N : Nat) (μ : Mem) (a0 : Nat) : Option Int32 :=
  fix2 (fun self3 (x1 : Int32) (x2 : Int32) =>
  if 16 ≤ x2 then
  (some x1)
  else (ag (μ a0) 16 x2 fun v6 =>
  lt (x1 + v6) fun v9 =>
  lt (x2 + 1) fun v11 =>
  self3 v9 v11)) N 0 0
def fX6_toppleOnce (N : Nat) (μ : Mem) (a0 : Nat) (a1 : Int32) : Option Mem :=
  ag (μ a0) 16 a1 fun v1 =>
  aw μ a0 16 a1 (v1 - 4) fun μ4 =>
  fix2 (fun self9 (x7 : Int32) (μ8 : Mem) =>
  if 4 ≤ x7 then
  (some μ8)
  else ((fX6_beside N μ8 a1 x7).bind fun r12 =>
  jn (fun (μ13 : Mem) =>
  lt (x7 + 1) fun v17 =>
  self9 v17 μ13) fun j14 =>
  if r12 = (-1) then
  (j14 μ8)
  else (ag (μ8 a0) 16 r12 fun v20 =>
  aw μ8 a0 16 r12 (v20 + 1) fun μ23 =>
  j14 μ23))) N 0 μ4
def fX6_toppleByPlaces (N : Nat) (μ : Mem) (a0 : Nat) (a1 : Nat) : Option (Mem × Int32) :=
  fix2 (fun self3 (x1 : Int32) (μ2 : Mem) =>
  if 16 ≤ x1 then
  (fix4 (fun self10 (x6 : Int32) (x7 : Int32) (x8 : Int32) (μ9 : Mem) =>
  jn (fun (u12 : Unit) =>
  some (μ9, x6)) fun j13 =>
  if 1000000 ≤ x8 then
  (j13 ())
  else (if 16 ≤ x7 then
  (j13 ())
  else (ag (μ9 a1) 16 x7 fun v18 =>
  jn (fun (y21 : Int32) (y22 : Int32) (μ23 : Mem) =>
  lt (x8 + 1) fun v27 =>
  self10 y21 y22 v27 μ23) fun j24 =>
  if v18 < 4 then
  (lt (x7 + 1) fun v30 =>
  j24 x6 v30 μ9)
  else ((fX6_toppleOnce N μ9 a1 x7).bind fun r32 =>
  ag (r32 (a0 + 2)) 16 x7 fun v33 =>
  aw r32 (a0 + 2) 16 x7 (v33 + 1) fun μ36 =>
  lt (x6 + 1) fun v39 =>
  j24 v39 0 μ36)))) N 0 0 0 μ2)
  else (aw μ2 (a0 + 2) 16 x1 0 fun μ41 =>
  lt (x1 + 1) fun v44 =>
  self3 v44 μ41)) N 0 μ
def fX6_fallOn (N : Nat) (μ : Mem) (a0 : Nat) (a1 : Nat) (a2 : Int32) (a3 : Int32) : Option (Mem × Int32) :=
  ag (μ (a1 + 1)) 16 a2 fun v1 =>
  aw μ (a1 + 1) 16 a2 (v1 + a3) fun μ4 =>
  lt (mset μ4 a1 3 ((μ4 a1 3) + a3)) fun μ7 =>
  (fX6_countGrains N μ7 (a1 + 1)).bind fun r9 =>
  (fX6_toppleByPlaces N μ7 a0 (a1 + 1)).bind fun r10 =>
  (fX6_countGrains N r10.1 (a1 + 1)).bind fun r11 =>
  lt (mset r10.1 a1 4 ((r10.1 a1 4) + (r9 - r11))) fun μ12 =>
  some (μ12, r10.2)
def fX6_tryFall (N : Nat) (μ : Mem) (a0 : Nat) (a1 : Nat) (a2 : Int32) (a3 : Int32) : Option Mem :=
  acp μ (a1 + 1) 16 (a0 + 1) 16 0 0 16 fun μ1 =>
  ag (μ1 (a0 + 1)) 16 a2 fun v4 =>
  aw μ1 (a0 + 1) 16 a2 (v4 + a3) fun μ7 =>
  some μ7
def fX6_markReady (N : Nat) (μ : Mem) (a0 : Nat) (a1 : Nat) : Option (Mem × Int32) :=
  fix3 (fun self4 (x1 : Int32) (x2 : Int32) (μ3 : Mem) =>
  if 16 ≤ x2 then
  (some (μ3, x1))
  else (ag (μ3 a1) 16 x2 fun v7 =>
  jn (fun (y10 : Bool) =>
  aw μ3 (a0 + 3) 16 x2 (vp_nar .boolean (b2i y10)) fun μ14 =>
  ag (μ14 (a0 + 3)) 16 x2 fun v17 =>
  jn (fun (y20 : Int32) =>
  lt (x2 + 1) fun v24 =>
  self4 y20 v24 μ14) fun j21 =>
  if v17 = 0 then
  (j21 x1)
  else (lt (x1 + 1) fun v27 =>
  j21 v27)) fun j11 =>
  if v7 < 4 then
  (j11 false)
  else (j11 true))) N 0 0 μ
def fX6_toppleByRounds (N : Nat) (μ : Mem) (a0 : Nat) (a1 : Nat) : Option (Mem × Int32) :=
  fix3 (fun self4 (x1 : Int32) (x2 : Int32) (μ3 : Mem) =>
  jn (fun (μ6 : Mem) =>
  some (μ6, x1)) fun j7 =>
  if 1000000 ≤ x2 then
  (j7 μ3)
  else ((fX6_markReady N μ3 a0 a1).bind fun r11 =>
  if r11.2 = 0 then
  (j7 r11.1)
  else (fix2 (fun self15 (x13 : Int32) (μ14 : Mem) =>
  if 16 ≤ x13 then
  (lt (x1 + r11.2) fun v18 =>
  lt (x2 + 1) fun v20 =>
  self4 v18 v20 μ14)
  else (ag (μ14 (a0 + 3)) 16 x13 fun v22 =>
  jn (fun (μ25 : Mem) =>
  lt (x13 + 1) fun v29 =>
  self15 v29 μ25) fun j26 =>
  if v22 = 0 then
  (j26 μ14)
  else ((fX6_toppleOnce N μ14 a1 x13).bind fun r32 =>
  j26 r32))) N 0 r11.1))) N 0 0 μ
def fX6_countUnmarkedBeside (N : Nat) (μ : Mem) (a0 : Nat) (a1 : Int32) : Option Int32 :=
  fix2 (fun self3 (x1 : Int32) (x2 : Int32) =>
  if 4 ≤ x2 then
  (some x1)
  else ((fX6_beside N μ a1 x2).bind fun r6 =>
  jn (fun (y7 : Int32) =>
  lt (x2 + 1) fun v11 =>
  self3 y7 v11) fun j8 =>
  if r6 = (-1) then
  (j8 x1)
  else (ag (μ (a0 + 3)) 16 r6 fun v14 =>
  if v14 = 0 then
  (lt (x1 + 1) fun v18 =>
  j8 v18)
  else (j8 x1)))) N 0 0
def fX6_burnsWhole (N : Nat) (μ : Mem) (a0 : Nat) (a1 : Nat) : Option (Mem × Bool) :=
  fix2 (fun self3 (x1 : Int32) (μ2 : Mem) =>
  if 16 ≤ x1 then
  (fix3 (fun self9 (x6 : Int32) (x7 : Int32) (μ8 : Mem) =>
  if 16 ≤ x7 then
  (jn (fun (y12 : Bool) =>
  some (μ8, y12)) fun j13 =>
  if x6 = 16 then
  (j13 true)
  else (j13 false))
  else (fix3 (fun self20 (x17 : Int32) (x18 : Int32) (μ19 : Mem) =>
  if 16 ≤ x18 then
  (lt (x7 + 1) fun v23 =>
  self9 x17 v23 μ19)
  else (ag (μ19 (a0 + 3)) 16 x18 fun v25 =>
  jn (fun (y28 : Int32) (μ29 : Mem) =>
  lt (x18 + 1) fun v33 =>
  self20 y28 v33 μ29) fun j30 =>
  if v25 = 0 then
  (ag (μ19 a1) 16 x18 fun v36 =>
  (fX6_countUnmarkedBeside N μ19 a0 x18).bind fun r39 =>
  if v36 < r39 then
  (j30 x17 μ19)
  else (aw μ19 (a0 + 3) 16 x18 (vp_nar .boolean 1) fun μ41 =>
  lt (x17 + 1) fun v44 =>
  j30 v44 μ41))
  else (j30 x17 μ19))) N x6 0 μ8)) N 0 0 μ2)
  else (aw μ2 (a0 + 3) 16 x1 (vp_nar .boolean 0) fun μ46 =>
  lt (x1 + 1) fun v49 =>
  self3 v49 μ46)) N 0 μ
def fX6_countOpenSides (N : Nat) (μ : Mem) (a0 : Int32) : Option Int32 :=
  fix2 (fun self3 (x1 : Int32) (x2 : Int32) =>
  if 4 ≤ x2 then
  (some x1)
  else ((fX6_beside N μ a0 x2).bind fun r6 =>
  jn (fun (y7 : Int32) =>
  lt (x2 + 1) fun v11 =>
  self3 y7 v11) fun j8 =>
  if r6 = (-1) then
  (lt (x1 + 1) fun v14 =>
  j8 v14)
  else (j8 x1))) N 0 0
def fX6_topplesOnceEach (N : Nat) (μ : Mem) (a0 : Nat) (a1 : Nat) : Option (Mem × Bool) :=
  fix2 (fun self3 (x1 : Int32) (μ2 : Mem) =>
  if 16 ≤ x1 then
  ((fX6_toppleByPlaces N μ2 a0 (a0 + 1)).bind fun r6 =>
  fix1 (fun self8 (x7 : Int32) =>
  if 16 ≤ x7 then
  (some (r6.1, true))
  else (ag (r6.1 (a0 + 2)) 16 x7 fun v11 =>
  if v11 = 1 then
  (lt (x7 + 1) fun v15 =>
  self8 v15)
  else (some (r6.1, false)))) N 0)
  else (ag (μ2 a1) 16 x1 fun v17 =>
  (fX6_countOpenSides N μ2 x1).bind fun r20 =>
  aw μ2 (a0 + 1) 16 x1 (v17 + r20) fun μ21 =>
  lt (x1 + 1) fun v24 =>
  self3 v24 μ21)) N 0 μ
def fX6_longestLowerSlope (N : Nat) (μ : Mem) (a0 : Nat) (a1 : Nat) (a2 : Int32) : Option Int32 :=
  fix2 (fun self3 (x1 : Int32) (x2 : Int32) =>
  if 4 ≤ x2 then
  (some x1)
  else ((fX6_beside N μ a2 x2).bind fun r6 =>
  jn (fun (y7 : Int32) =>
  lt (x2 + 1) fun v11 =>
  self3 y7 v11) fun j8 =>
  if r6 = (-1) then
  (j8 x1)
  else (ag (μ a1) 16 r6 fun v14 =>
  ag (μ a1) 16 a2 fun v17 =>
  if v17 ≤ v14 then
  (j8 x1)
  else (ag (μ (a0 + 4)) 16 r6 fun v21 =>
  lt (imax x1 v21) fun v24 =>
  j8 v24)))) N 0 0
def fX6_slopeFromFewest (N : Nat) (μ : Mem) (a0 : Nat) (a1 : Nat) : Option (Mem × Int32) :=
  fix3 (fun self4 (x1 : Int32) (x2 : Int32) (μ3 : Mem) =>
  if 4 ≤ x2 then
  (some (μ3, x1))
  else (fix3 (fun self10 (x7 : Int32) (x8 : Int32) (μ9 : Mem) =>
  if 16 ≤ x8 then
  (lt (x2 + 1) fun v13 =>
  self4 x7 v13 μ9)
  else (ag (μ9 a1) 16 x8 fun v15 =>
  jn (fun (y18 : Int32) (μ19 : Mem) =>
  lt (x8 + 1) fun v23 =>
  self10 y18 v23 μ19) fun j20 =>
  if v15 = x2 then
  ((fX6_longestLowerSlope N μ9 a0 a1 x8).bind fun r26 =>
  aw μ9 (a0 + 4) 16 x8 (r26 + 1) fun μ27 =>
  ag (μ27 (a0 + 4)) 16 x8 fun v30 =>
  lt (imax x7 v30) fun v33 =>
  j20 v33 μ27)
  else (j20 x7 μ9))) N x1 0 μ3)) N 0 0 μ
def fX7_readNumber (N : Nat) (μ : Mem) (a0 : Nat) (a1 : Int32) (a2 : Int32) : Option Mem :=
  fix3 (fun self4 (x1 : Int32) (x2 : Int32) (μ3 : Mem) =>
  if a2 ≤ x2 then
  (jn (fun (μ7 : Mem) =>
  some μ7) fun j8 =>
  if 4 ≤ a1 then
  (j8 μ3)
  else (ar 10 (μ3 a0 4) fun q12 =>
  aw μ3 ((a0 + 3) + 1 + 1 * q12) 4 a1 x1 fun μ16 =>
  j8 μ16))
  else (jn (fun (y19 : Int32) (μ20 : Mem) =>
  lt (x2 + 1) fun v24 =>
  self4 y19 v24 μ20) fun j21 =>
  if (μ3 a0 1) ≤ (μ3 a0 5) then
  (j21 x1 μ3)
  else (ag (μ3 (a0 + 1)) 60 (μ3 a0 5) fun v27 =>
  (fX10_isFrom N μ3 48 v27 57).bind fun r30 =>
  cond r30
  (ag (μ3 (a0 + 1)) 60 (μ3 a0 5) fun v32 =>
  lt (((x1 * 10) + v32) - 48) fun v35 =>
  lt (mset μ3 a0 5 ((μ3 a0 5) + 1)) fun μ37 =>
  j21 v35 μ37)
  (j21 x1 μ3)))) N 0 0 μ
def fX8_hasExhibit (N : Nat) (μ : Mem) (a0 : Nat) (a1 : Int32) : Option Bool :=
  jn (fun (y1 : Bool) =>
  some y1) fun j2 =>
  jn (fun (u5 : Unit) =>
  j2 false) fun j6 =>
  if a1 < 0 then
  (j6 ())
  else (if (μ a0 4) ≤ a1 then
  (j6 ())
  else (j2 true))
def fX8_roomIndexFault (N : Nat) (μ : Mem) (a0 : Nat) (a1 : Int32) : Option Nat :=
  jn (fun (y1 : Nat) =>
  some y1) fun j2 =>
  jn (fun (u5 : Unit) =>
  j2 1) fun j6 =>
  if a1 < 0 then
  (j6 ())
  else (if (μ a0 0) ≤ a1 then
  (j6 ())
  else (j2 0))
def fX8_pairFault (N : Nat) (μ : Mem) (a0 : Nat) (a1 : Int32) (a2 : Int32) : Option Nat :=
  (fX8_roomIndexFault N μ a0 a1).bind fun r1 =>
  jn (fun (y2 : Nat) =>
  some y2) fun j3 =>
  if r1 = 0 then
  ((fX8_roomIndexFault N μ a0 a2).bind fun r7 =>
  j3 r7)
  else (j3 1)
def fX8_joins (N : Nat) (μ : Mem) (a0 : Nat) (a1 : Int32) (a2 : Int32) : Option Bool :=
  ar 6 a1 fun q1 =>
  ag (μ ((a0 + 2) + 1 + 1 * q1)) 6 a2 fun v5 =>
  jn (fun (y8 : Bool) =>
  some y8) fun j9 =>
  if v5 ≤ 0 then
  (j9 false)
  else (j9 true)
def fX8_putRoom (N : Nat) (μ : Mem) (a0 : Nat) (a1 : Int32) : Option (Mem × Int32) :=
  aw μ (a0 + 1) 6 (μ a0 0) a1 fun μ1 =>
  lt (mset μ1 a0 0 ((μ1 a0 0) + 1)) fun μ4 =>
  some (μ4, ((μ4 a0 0) - 1))
def fX8_countLegs (N : Nat) (μ : Mem) (a0 : Nat) : Option Int32 :=
  fix2 (fun self3 (x1 : Int32) (x2 : Int32) =>
  if (μ a0 0) ≤ x2 then
  (some x1)
  else (fix2 (fun self8 (x6 : Int32) (x7 : Int32) =>
  if x2 ≤ x7 then
  (lt (x2 + 1) fun v11 =>
  self3 x6 v11)
  else ((fX8_joins N μ a0 x2 x7).bind fun r13 =>
  jn (fun (y14 : Int32) =>
  lt (x7 + 1) fun v18 =>
  self8 y14 v18) fun j15 =>
  cond r13
  (lt (x6 + 1) fun v21 =>
  j15 v21)
  (j15 x6))) N x1 0)) N 0 0
def fX8_putLeg (N : Nat) (μ : Mem) (a0 : Nat) (a1 : Int32) (a2 : Int32) (a3 : Int32) (a4 : Int32) : Option (Mem × Int32) :=
  ar 6 a1 fun q1 =>
  aw μ ((a0 + 2) + 1 + 1 * q1) 6 a2 a3 fun μ5 =>
  ar 6 a2 fun q8 =>
  aw μ5 ((a0 + 2) + 1 + 1 * q8) 6 a1 a3 fun μ12 =>
  ar 6 a1 fun q15 =>
  aw μ12 ((a0 + 9) + 1 + 1 * q15) 6 a2 a4 fun μ19 =>
  ar 6 a2 fun q22 =>
  aw μ19 ((a0 + 9) + 1 + 1 * q22) 6 a1 a4 fun μ26 =>
  (fX8_countLegs N μ26 a0).bind fun r29 =>
  some (μ26, r29)
def fX8_putExhibit (N : Nat) (μ : Mem) (a0 : Nat) (a1 : Int32) (a2 : Int32) : Option (Mem × Int32) :=
  ar 5 (μ a0 4) fun q1 =>
  lt (mset μ ((a0 + 16) + 1 + 6 * q1) 0 a1) fun μ5 =>
  lt (mset μ5 ((a0 + 16) + 1 + 6 * q1) 1 a2) fun μ7 =>
  lt (mset μ7 a0 4 ((μ7 a0 4) + 1)) fun μ9 =>
  some (μ9, ((μ9 a0 4) - 1))
def fX10_passedBy (N : Nat) (μ : Mem) (a0 : Int32) (a1 : Int32) : Option Int32 :=
  some (imax 0 (a0 - a1))
def fX8_letDayPass (N : Nat) (μ : Mem) (a0 : Nat) : Option (Mem × Int32) :=
  fix3 (fun self4 (x1 : Int32) (x2 : Int32) (μ3 : Mem) =>
  if (μ3 a0 4) ≤ x2 then
  (lt (mset μ3 a0 6 ((μ3 a0 6) + 1)) fun μ7 =>
  some (μ7, x1))
  else (ar 5 x2 fun q9 =>
  (fX1_loanEndOn N μ3 ((a0 + 16) + 1 + 6 * q9) (μ3 a0 6)).bind fun r13 =>
  jn (fun (y14 : Int32) (μ15 : Mem) =>
  lt (x2 + 1) fun v19 =>
  self4 y14 v19 μ15) fun j16 =>
  if r13 = (-1) then
  (ag (μ3 (a0 + 1)) 6 (μ3 ((a0 + 16) + 1 + 6 * q9) 0) fun v22 =>
  (fX10_passedBy N μ3 v22 (μ3 ((a0 + 16) + 1 + 6 * q9) 1)).bind fun r25 =>
  (fX1_melt N μ3 ((a0 + 16) + 1 + 6 * q9) r25).bind fun r26 =>
  lt (x1 + r26.2) fun v27 =>
  j16 v27 r26.1)
  else (j16 x1 μ3))) N 0 0 μ
def fX8_letDaysPass (N : Nat) (μ : Mem) (a0 : Nat) (a1 : Int32) : Option (Mem × Int32) :=
  fix3 (fun self4 (x1 : Int32) (x2 : Int32) (μ3 : Mem) =>
  if a1 ≤ x2 then
  (some (μ3, x1))
  else ((fX8_letDayPass N μ3 a0).bind fun r7 =>
  lt (x1 + r7.2) fun v8 =>
  lt (x2 + 1) fun v10 =>
  self4 v8 v10 r7.1)) N 0 0 μ
def fX9_weighMinutes (N : Nat) (μ : Mem) (a0 : Nat) (a1 : Nat) : Option Mem :=
  fix2 (fun self3 (x1 : Int32) (μ2 : Mem) =>
  if (μ2 a1 0) ≤ x1 then
  (some μ2)
  else (fix2 (fun self8 (x6 : Int32) (μ7 : Mem) =>
  if (μ7 a1 0) ≤ x6 then
  (lt (x1 + 1) fun v11 =>
  self3 v11 μ7)
  else (ar 6 x1 fun q13 =>
  (fX8_joins N μ7 a1 x1 x6).bind fun r17 =>
  jn (fun (y18 : Int32) =>
  aw μ7 ((a0 + 2) + 1 + 1 * q13) 6 x6 y18 fun μ22 =>
  lt (x6 + 1) fun v25 =>
  self8 v25 μ22) fun j19 =>
  cond r17
  (ar 6 x1 fun q28 =>
  ag (μ7 ((a1 + 2) + 1 + 1 * q28)) 6 x6 fun v32 =>
  j19 ((v32 * 8) + 1))
  (j19 1000000))) N 0 μ2)) N 0 μ
def fX9_startAt (N : Nat) (μ : Mem) (a0 : Nat) (a1 : Int32) : Option Mem :=
  fix2 (fun self3 (x1 : Int32) (μ2 : Mem) =>
  if 6 ≤ x1 then
  (aw μ2 (a0 + 16) 6 a1 0 fun μ6 =>
  some μ6)
  else (aw μ2 (a0 + 16) 6 x1 1000000 fun μ9 =>
  aw μ9 (a0 + 17) 6 x1 (vp_nar .boolean 0) fun μ12 =>
  lt (x1 + 1) fun v15 =>
  self3 v15 μ12)) N 0 μ
def fX9_nearestUnsettled (N : Nat) (μ : Mem) (a0 : Nat) (a1 : Int32) : Option Int32 :=
  fix3 (fun self4 (x1 : Int32) (x2 : Int32) (x3 : Int32) =>
  if a1 ≤ x3 then
  (some x1)
  else (ag (μ (a0 + 17)) 6 x3 fun v7 =>
  jn (fun (y10 : Int32) (y11 : Int32) =>
  lt (x3 + 1) fun v15 =>
  self4 y10 y11 v15) fun j12 =>
  if v7 = 0 then
  (ag (μ (a0 + 16)) 6 x3 fun v18 =>
  if x2 ≤ v18 then
  (j12 x1 x2)
  else (ag (μ (a0 + 16)) 6 x3 fun v22 =>
  j12 x3 v22))
  else (j12 x1 x2))) N (-1) 1000000 0
def fX9_settleFrom (N : Nat) (μ : Mem) (a0 : Nat) (a1 : Int32) (a2 : Int32) : Option Mem :=
  (fX9_startAt N μ a0 a1).bind fun r1 =>
  fix2 (fun self4 (x2 : Int32) (μ3 : Mem) =>
  jn (fun (u6 : Unit) =>
  some μ3) fun j7 =>
  if a2 ≤ x2 then
  (j7 ())
  else ((fX9_nearestUnsettled N μ3 a0 a2).bind fun r11 =>
  if r11 = (-1) then
  (j7 ())
  else (aw μ3 (a0 + 17) 6 r11 (vp_nar .boolean 1) fun μ13 =>
  fix2 (fun self18 (x16 : Int32) (μ17 : Mem) =>
  if a2 ≤ x16 then
  (lt (x2 + 1) fun v21 =>
  self4 v21 μ17)
  else (ag (μ17 (a0 + 16)) 6 x16 fun v23 =>
  ag (μ17 (a0 + 16)) 6 r11 fun v26 =>
  ar 6 r11 fun q29 =>
  ag (μ17 ((a0 + 2) + 1 + 1 * q29)) 6 x16 fun v33 =>
  aw μ17 (a0 + 16) 6 x16 (imin v23 (v26 + v33)) fun μ36 =>
  lt (x16 + 1) fun v39 =>
  self18 v39 μ36)) N 0 μ13))) N 0 r1
def fX9_nextRoom (N : Nat) (μ : Mem) (a0 : Nat) (a1 : Int32) (a2 : Int32) : Option Int32 :=
  fix1 (fun self2 (x1 : Int32) =>
  if a2 ≤ x1 then
  (some a1)
  else (ar 6 a1 fun q5 =>
  ag (μ ((a0 + 2) + 1 + 1 * q5)) 6 x1 fun v9 =>
  ag (μ (a0 + 16)) 6 x1 fun v12 =>
  ag (μ (a0 + 16)) 6 a1 fun v15 =>
  if (v9 + v12) = v15 then
  (some x1)
  else (lt (x1 + 1) fun v19 =>
  self2 v19))) N 0
def fX9_findWay (N : Nat) (μ : Mem) (a0 : Nat) (a1 : Nat) (a2 : Int32) (a3 : Int32) : Option (Mem × Bool) :=
  (fX9_weighMinutes N μ a0 a1).bind fun r1 =>
  (fX9_settleFrom N r1 a0 a3 (r1 a1 0)).bind fun r2 =>
  lt (mset r2 a0 1 0) fun μ3 =>
  ag (μ3 (a0 + 16)) 6 a2 fun v5 =>
  if v5 < 1000000 then
  (ag (μ3 (a0 + 16)) 6 a2 fun v9 =>
  lt (mset μ3 a0 2 (v9 / 8)) fun μ12 =>
  fix3 (fun self17 (x14 : Int32) (x15 : Int32) (μ16 : Mem) =>
  jn (fun (u19 : Unit) =>
  jn (fun (y23 : Bool) =>
  some (μ16, y23)) fun j24 =>
  if (μ16 a0 1) ≤ 0 then
  (j24 false)
  else (j24 true)) fun j20 =>
  if 6 ≤ x15 then
  (j20 ())
  else (if (μ16 a0 1) = 0 then
  (aw μ16 (a0 + 1) 6 x15 x14 fun μ30 =>
  jn (fun (μ33 : Mem) =>
  (fX9_nextRoom N μ33 a0 x14 (μ33 a1 0)).bind fun r37 =>
  lt (x15 + 1) fun v38 =>
  self17 r37 v38 μ33) fun j34 =>
  if x14 = a3 then
  (lt (mset μ30 a0 1 (x15 + 1)) fun μ41 =>
  j34 μ41)
  else (j34 μ30))
  else (j20 ()))) N a2 0 μ12)
  else (some (μ3, false))
def fX9_minutesBySettling (N : Nat) (μ : Mem) (a0 : Nat) (a1 : Nat) (a2 : Int32) (a3 : Int32) : Option (Mem × Int32) :=
  (fX9_weighMinutes N μ a0 a1).bind fun r1 =>
  (fX9_settleFrom N r1 a0 a2 (r1 a1 0)).bind fun r2 =>
  ag (r2 (a0 + 16)) 6 a3 fun v3 =>
  jn (fun (y6 : Int32) =>
  some (r2, y6)) fun j7 =>
  if v3 < 1000000 then
  (ag (r2 (a0 + 16)) 6 a3 fun v11 =>
  j7 (v11 / 8))
  else (j7 (-1))
def fX9_shortenOver (N : Nat) (μ : Mem) (a0 : Nat) (a1 : Int32) (a2 : Int32) : Option Mem :=
  fix2 (fun self3 (x1 : Int32) (μ2 : Mem) =>
  if a2 ≤ x1 then
  (some μ2)
  else (fix2 (fun self8 (x6 : Int32) (μ7 : Mem) =>
  if a2 ≤ x6 then
  (lt (x1 + 1) fun v11 =>
  self3 v11 μ7)
  else (ar 6 x1 fun q13 =>
  ar 6 x1 fun q17 =>
  ag (μ7 ((a0 + 9) + 1 + 1 * q17)) 6 x6 fun v21 =>
  ar 6 x1 fun q24 =>
  ag (μ7 ((a0 + 9) + 1 + 1 * q24)) 6 a1 fun v28 =>
  ar 6 a1 fun q31 =>
  ag (μ7 ((a0 + 9) + 1 + 1 * q31)) 6 x6 fun v35 =>
  aw μ7 ((a0 + 9) + 1 + 1 * q13) 6 x6 (imin v21 (v28 + v35)) fun μ38 =>
  lt (x6 + 1) fun v41 =>
  self8 v41 μ38)) N 0 μ2)) N 0 μ
def fX9_fillTable (N : Nat) (μ : Mem) (a0 : Nat) (a1 : Nat) : Option Mem :=
  fix2 (fun self3 (x1 : Int32) (μ2 : Mem) =>
  if (μ2 a1 0) ≤ x1 then
  (fix2 (fun self8 (x6 : Int32) (μ7 : Mem) =>
  if (μ7 a1 0) ≤ x6 then
  (some μ7)
  else ((fX9_shortenOver N μ7 a0 x6 (μ7 a1 0)).bind fun r11 =>
  lt (x6 + 1) fun v12 =>
  self8 v12 r11)) N 0 μ2)
  else (fix2 (fun self16 (x14 : Int32) (μ15 : Mem) =>
  if (μ15 a1 0) ≤ x14 then
  (ar 6 x1 fun q19 =>
  aw μ15 ((a0 + 9) + 1 + 1 * q19) 6 x1 0 fun μ23 =>
  lt (x1 + 1) fun v26 =>
  self3 v26 μ23)
  else (ar 6 x1 fun q28 =>
  (fX8_joins N μ15 a1 x1 x14).bind fun r32 =>
  jn (fun (y33 : Int32) =>
  aw μ15 ((a0 + 9) + 1 + 1 * q28) 6 x14 y33 fun μ37 =>
  lt (x14 + 1) fun v40 =>
  self16 v40 μ37) fun j34 =>
  cond r32
  (ar 6 x1 fun q43 =>
  ag (μ15 ((a1 + 2) + 1 + 1 * q43)) 6 x14 fun v47 =>
  j34 v47)
  (j34 1000000))) N 0 μ2)) N 0 μ
def fX9_minutesInTable (N : Nat) (μ : Mem) (a0 : Nat) (a1 : Int32) (a2 : Int32) : Option Int32 :=
  ar 6 a1 fun q1 =>
  ag (μ ((a0 + 9) + 1 + 1 * q1)) 6 a2 fun v5 =>
  jn (fun (y8 : Int32) =>
  some y8) fun j9 =>
  if v5 < 1000000 then
  (ar 6 a1 fun q13 =>
  ag (μ ((a0 + 9) + 1 + 1 * q13)) 6 a2 fun v17 =>
  j9 v17)
  else (j9 (-1))
def fX9_weighPassed (N : Nat) (μ : Mem) (a0 : Nat) (a1 : Nat) (a2 : Int32) : Option Mem :=
  fix2 (fun self3 (x1 : Int32) (μ2 : Mem) =>
  if (μ2 a1 0) ≤ x1 then
  (some μ2)
  else (fix2 (fun self8 (x6 : Int32) (μ7 : Mem) =>
  if (μ7 a1 0) ≤ x6 then
  (lt (x1 + 1) fun v11 =>
  self3 v11 μ7)
  else (ar 6 x1 fun q13 =>
  (fX8_joins N μ7 a1 x1 x6).bind fun r17 =>
  jn (fun (y18 : Int32) =>
  aw μ7 ((a0 + 2) + 1 + 1 * q13) 6 x6 y18 fun μ22 =>
  lt (x6 + 1) fun v25 =>
  self8 v25 μ22) fun j19 =>
  cond r17
  (ar 6 x1 fun q28 =>
  ag (μ7 ((a1 + 9) + 1 + 1 * q28)) 6 x6 fun v32 =>
  (fX10_passedBy N μ7 v32 a2).bind fun r35 =>
  j19 r35)
  (j19 1000000))) N 0 μ2)) N 0 μ
def fX9_passedBySettling (N : Nat) (μ : Mem) (a0 : Nat) (a1 : Nat) (a2 : Nat) (a3 : Int32) : Option (Mem × Int32) :=
  (fX9_weighPassed N μ a0 a1 (μ a2 1)).bind fun r1 =>
  (fX9_settleFrom N r1 a0 (r1 a2 0) (r1 a1 0)).bind fun r2 =>
  ag (r2 (a0 + 16)) 6 a3 fun v3 =>
  jn (fun (y6 : Int32) =>
  some (r2, y6)) fun j7 =>
  if v3 < 1000000 then
  (ag (r2 (a0 + 16)) 6 a3 fun v11 =>
  j7 v11)
  else (j7 (-1))
def fX9_lookAtLegs (N : Nat) (μ : Mem) (a0 : Nat) (a1 : Nat) (a2 : Int32) : Option (Mem × Bool) :=
  fix3 (fun self4 (x1 : Bool) (x2 : Int32) (μ3 : Mem) =>
  if (μ3 a1 0) ≤ x2 then
  (some (μ3, x1))
  else (fix3 (fun self10 (x7 : Bool) (x8 : Int32) (μ9 : Mem) =>
  if (μ9 a1 0) ≤ x8 then
  (lt (x2 + 1) fun v13 =>
  self4 x7 v13 μ9)
  else (ag (μ9 (a0 + 16)) 6 x2 fun v15 =>
  ar 6 x2 fun q18 =>
  ag (μ9 ((a1 + 9) + 1 + 1 * q18)) 6 x8 fun v22 =>
  (fX10_passedBy N μ9 v22 a2).bind fun r25 =>
  lt (v15 + r25) fun v26 =>
  (fX8_joins N μ9 a1 x2 x8).bind fun r28 =>
  jn (fun (y29 : Bool) (μ30 : Mem) =>
  lt (x8 + 1) fun v34 =>
  self10 y29 v34 μ30) fun j31 =>
  cond r28
  (ag (μ9 (a0 + 16)) 6 x8 fun v37 =>
  if v37 ≤ v26 then
  (j31 x7 μ9)
  else (aw μ9 (a0 + 16) 6 x8 v26 fun μ41 =>
  j31 true μ41))
  (j31 x7 μ9))) N x1 0 μ3)) N false 0 μ
def fX9_passedByRounds (N : Nat) (μ : Mem) (a0 : Nat) (a1 : Nat) (a2 : Nat) (a3 : Int32) : Option (Mem × Int32) :=
  (fX9_startAt N μ a0 (μ a2 0)).bind fun r1 =>
  fix3 (fun self5 (x2 : Bool) (x3 : Int32) (μ4 : Mem) =>
  jn (fun (u7 : Unit) =>
  ag (μ4 (a0 + 16)) 6 a3 fun v11 =>
  jn (fun (y14 : Int32) =>
  some (μ4, y14)) fun j15 =>
  if v11 < 1000000 then
  (ag (μ4 (a0 + 16)) 6 a3 fun v19 =>
  j15 v19)
  else (j15 (-1))) fun j8 =>
  if 6 ≤ x3 then
  (j8 ())
  else (cond x2
  ((fX9_lookAtLegs N μ4 a0 a1 (μ4 a2 1)).bind fun r24 =>
  lt (x3 + 1) fun v25 =>
  self5 r24.2 v25 r24.1)
  (j8 ()))) N true 0 r1
def fX10_digitFault (N : Nat) (μ : Mem) (a0 : Int32) : Option Nat :=
  (fX10_isFrom N μ 0 a0 9).bind fun r1 =>
  jn (fun (y2 : Nat) =>
  some y2) fun j3 =>
  cond r1
  (j3 0)
  (j3 2)
def fX10_roomFault (N : Nat) (μ : Mem) (a0 : Nat) (a1 : Int32) : Option Nat :=
  (fX10_digitFault N μ a1).bind fun r1 =>
  if r1 = 0 then
  (jn (fun (y3 : Nat) =>
  some y3) fun j4 =>
  if (μ 1 0) < 6 then
  (j4 0)
  else (j4 3))
  else (some 2)
def fX10_stopIf (N : Nat) (μ : Mem) (a0 : Nat) : Option (Mem × (Nat ⊕ Unit)) :=
  if a0 = 1 then
  (some (μ, .inl 0))
  else (if a0 = 2 then
  (some (μ, .inl 1))
  else (if a0 = 3 then
  (some (μ, .inl 2))
  else (if a0 = 4 then
  (some (μ, .inl 3))
  else (if a0 = 5 then
  (some (μ, .inl 4))
  else (some (μ, .inr ()))))))
def fX10_remember (N : Nat) (μ : Mem) (a0 : Nat) : Option Mem :=
  (fX4_note N μ 95 1).bind fun r1 =>
  (fX4_keep N r1 95).bind fun r2 =>
  some r2
def fX10_addRoom (N : Nat) (μ : Mem) (a0 : Nat) (a1 : Int32) : Option (Mem × (Nat ⊕ Int32)) :=
  (fX10_roomFault N μ a0 a1).bind fun r1 =>
  tb (fX10_stopIf N μ r1) fun μ3 r4 =>
  (fX10_remember N μ3 a0).bind fun r6 =>
  (fX8_putRoom N r6 1 a1).bind fun r7 =>
  some (r7.1, .inr r7.2)
def fX10_setWarmth (N : Nat) (μ : Mem) (a0 : Nat) (a1 : Int32) (a2 : Int32) : Option (Mem × (Nat ⊕ Int32)) :=
  (fX8_roomIndexFault N μ 1 a1).bind fun r1 =>
  tb (fX10_stopIf N μ r1) fun μ3 r4 =>
  (fX10_digitFault N μ3 a2).bind fun r6 =>
  tb (fX10_stopIf N μ3 r6) fun μ8 r9 =>
  (fX10_remember N μ8 a0).bind fun r11 =>
  ag (r11 (1 + 1)) 6 a1 fun v12 =>
  aw r11 (1 + 1) 6 a1 a2 fun μ15 =>
  some (μ15, .inr v12)
def fX10_legFault (N : Nat) (μ : Mem) (a0 : Nat) (a1 : Int32) (a2 : Int32) (a3 : Int32) (a4 : Int32) : Option Nat :=
  (fX8_pairFault N μ 1 a1 a2).bind fun r1 =>
  if r1 = 0 then
  (jn (fun (u3 : Unit) =>
  some 2) fun j4 =>
  if a1 = a2 then
  (j4 ())
  else ((fX10_isFrom N μ 1 a3 99).bind fun r8 =>
  cond r8
  ((fX10_digitFault N μ a4).bind fun r10 =>
  some r10)
  (j4 ())))
  else (some 1)
def fX10_setLeg (N : Nat) (μ : Mem) (a0 : Nat) (a1 : Int32) (a2 : Int32) (a3 : Int32) (a4 : Int32) : Option (Mem × (Nat ⊕ Int32)) :=
  (fX10_legFault N μ a0 a1 a2 a3 a4).bind fun r1 =>
  tb (fX10_stopIf N μ r1) fun μ3 r4 =>
  (fX10_remember N μ3 a0).bind fun r6 =>
  (fX8_putLeg N r6 1 a1 a2 a3 a4).bind fun r7 =>
  some (r7.1, .inr r7.2)
def fX10_missingLegFault (N : Nat) (μ : Mem) (a0 : Nat) (a1 : Int32) (a2 : Int32) : Option Nat :=
  (fX8_pairFault N μ 1 a1 a2).bind fun r1 =>
  if r1 = 0 then
  ((fX8_joins N μ 1 a1 a2).bind fun r3 =>
  jn (fun (y4 : Nat) =>
  some y4) fun j5 =>
  cond r3
  (j5 0)
  (j5 4))
  else (some 1)
def fX10_removeLeg (N : Nat) (μ : Mem) (a0 : Nat) (a1 : Int32) (a2 : Int32) : Option (Mem × (Nat ⊕ Int32)) :=
  (fX10_missingLegFault N μ a0 a1 a2).bind fun r1 =>
  tb (fX10_stopIf N μ r1) fun μ3 r4 =>
  (fX10_remember N μ3 a0).bind fun r6 =>
  (fX8_putLeg N r6 1 a1 a2 0 0).bind fun r7 =>
  some (r7.1, .inr r7.2)
def fX10_roomCount (N : Nat) (μ : Mem) (a0 : Nat) : Option Int32 :=
  some (μ 1 0)
def fX10_warmth (N : Nat) (μ : Mem) (a0 : Nat) (a1 : Int32) : Option (Mem × (Nat ⊕ Int32)) :=
  (fX8_roomIndexFault N μ 1 a1).bind fun r1 =>
  tb (fX10_stopIf N μ r1) fun μ3 r4 =>
  ag (μ3 (1 + 1)) 6 a1 fun v6 =>
  some (μ3, .inr v6)
def fX10_legMinutes (N : Nat) (μ : Mem) (a0 : Nat) (a1 : Int32) (a2 : Int32) : Option (Mem × (Nat ⊕ Int32)) :=
  (fX10_missingLegFault N μ a0 a1 a2).bind fun r1 =>
  tb (fX10_stopIf N μ r1) fun μ3 r4 =>
  ar 6 a1 fun q6 =>
  ag (μ3 ((1 + 2) + 1 + 1 * q6)) 6 a2 fun v10 =>
  some (μ3, .inr v10)
def fX10_legWarmth (N : Nat) (μ : Mem) (a0 : Nat) (a1 : Int32) (a2 : Int32) : Option (Mem × (Nat ⊕ Int32)) :=
  (fX10_missingLegFault N μ a0 a1 a2).bind fun r1 =>
  tb (fX10_stopIf N μ r1) fun μ3 r4 =>
  ar 6 a1 fun q6 =>
  ag (μ3 ((1 + 9) + 1 + 1 * q6)) 6 a2 fun v10 =>
  some (μ3, .inr v10)
def fX10_presentOnly (N : Nat) (μ : Mem) (a0 : Int32) : Option (Mem × (Nat ⊕ Int32)) :=
  if a0 = (-1) then
  (some (μ, .inl 3))
  else (some (μ, .inr a0))
def fX10_minutes (N : Nat) (μ : Mem) (a0 : Nat) (a1 : Int32) (a2 : Int32) : Option (Mem × (Nat ⊕ Int32)) :=
  (fX8_pairFault N μ 1 a1 a2).bind fun r1 =>
  tb (fX10_stopIf N μ r1) fun μ3 r4 =>
  (fX9_minutesBySettling N μ3 520 1 a1 a2).bind fun r6 =>
  tb (fX10_presentOnly N r6.1 r6.2) fun μ8 r9 =>
  some (μ8, .inr r9)
def fX10_minutesByTable (N : Nat) (μ : Mem) (a0 : Nat) (a1 : Int32) (a2 : Int32) : Option (Mem × (Nat ⊕ Int32)) :=
  (fX8_pairFault N μ 1 a1 a2).bind fun r1 =>
  tb (fX10_stopIf N μ r1) fun μ3 r4 =>
  (fX9_fillTable N μ3 520 1).bind fun r6 =>
  (fX9_minutesInTable N r6 520 a1 a2).bind fun r7 =>
  tb (fX10_presentOnly N r6 r7) fun μ9 r10 =>
  some (μ9, .inr r10)
def fX10_wayFault (N : Nat) (μ : Mem) (a0 : Nat) (a1 : Int32) (a2 : Int32) : Option (Mem × Nat) :=
  (fX9_findWay N μ 520 1 a1 a2).bind fun r1 =>
  jn (fun (y2 : Nat) =>
  some (r1.1, y2)) fun j3 =>
  cond r1.2
  (j3 0)
  (j3 4)
def fX10_wayLegs (N : Nat) (μ : Mem) (a0 : Nat) (a1 : Int32) (a2 : Int32) : Option (Mem × (Nat ⊕ Int32)) :=
  (fX8_pairFault N μ 1 a1 a2).bind fun r1 =>
  tb (fX10_stopIf N μ r1) fun μ3 r4 =>
  (fX10_wayFault N μ3 a0 a1 a2).bind fun r6 =>
  tb (fX10_stopIf N r6.1 r6.2) fun μ8 r9 =>
  some (μ8, .inr ((μ8 520 1) - 1))
def fX10_wayRoom (N : Nat) (μ : Mem) (a0 : Nat) (a1 : Int32) (a2 : Int32) (a3 : Int32) : Option (Mem × (Nat ⊕ Int32)) :=
  (fX8_pairFault N μ 1 a1 a2).bind fun r1 =>
  tb (fX10_stopIf N μ r1) fun μ3 r4 =>
  (fX10_wayFault N μ3 a0 a1 a2).bind fun r6 =>
  tb (fX10_stopIf N r6.1 r6.2) fun μ8 r9 =>
  jn (fun (u11 : Unit) =>
  some (μ8, .inl 3)) fun j12 =>
  if a3 < 0 then
  (j12 ())
  else (if a3 < (μ8 520 1) then
  (ag (μ8 (520 + 1)) 6 a3 fun v17 =>
  some (μ8, .inr v17))
  else (j12 ()))
def fX10_pileFault (N : Nat) (μ : Mem) (a0 : Nat) (a1 : Int32) (a2 : Int32) : Option Nat :=
  (fX8_roomIndexFault N μ 1 a1).bind fun r1 =>
  if r1 = 0 then
  ((fX10_digitFault N μ a2).bind fun r3 =>
  if r3 = 0 then
  (jn (fun (y5 : Nat) =>
  some y5) fun j6 =>
  if (μ 1 4) < 5 then
  (j6 0)
  else (j6 3))
  else (some 2))
  else (some 1)
def fX10_addExhibit (N : Nat) (μ : Mem) (a0 : Nat) (a1 : Int32) (a2 : Int32) : Option (Mem × (Nat ⊕ Int32)) :=
  (fX10_pileFault N μ a0 a1 a2).bind fun r1 =>
  tb (fX10_stopIf N μ r1) fun μ3 r4 =>
  (fX10_remember N μ3 a0).bind fun r6 =>
  (fX8_putExhibit N r6 1 a1 a2).bind fun r7 =>
  some (r7.1, .inr r7.2)
def fX10_existing (N : Nat) (μ : Mem) (a0 : Nat) (a1 : Int32) : Option (Mem × (Nat ⊕ Nat)) :=
  (fX8_hasExhibit N μ 1 a1).bind fun r1 =>
  cond r1
  (ar 5 a1 fun q3 =>
  some (μ, .inr ((1 + 16) + 1 + 6 * q3)))
  (some (μ, .inl 0))
def fX10_setLimit (N : Nat) (μ : Mem) (a0 : Nat) (a1 : Int32) (a2 : Int32) : Option (Mem × (Nat ⊕ Int32)) :=
  tb (fX10_existing N μ a0 a1) fun μ2 r3 =>
  (fX10_digitFault N μ2 a2).bind fun r6 =>
  tb (fX10_stopIf N μ2 r6) fun μ8 r9 =>
  (fX10_remember N μ8 a0).bind fun r11 =>
  lt (r11 r3 1) fun v12 =>
  lt (mset r11 r3 1 a2) fun μ14 =>
  some (μ14, .inr v12)
def fX10_placeFault (N : Nat) (μ : Mem) (a0 : Int32) (a1 : Int32) : Option Nat :=
  (fX10_isFrom N μ 0 a0 3).bind fun r1 =>
  jn (fun (y2 : Nat) =>
  some y2) fun j3 =>
  jn (fun (u6 : Unit) =>
  j3 2) fun j7 =>
  cond r1
  ((fX10_isFrom N μ 0 a1 3).bind fun r11 =>
  cond r11
  (j3 0)
  (j7 ()))
  (j7 ())
def fX10_dropFault (N : Nat) (μ : Mem) (a0 : Nat) (a1 : Int32) (a2 : Int32) (a3 : Int32) (a4 : Int32) : Option Nat :=
  (fX8_hasExhibit N μ 1 a1).bind fun r1 =>
  cond r1
  ((fX10_isFrom N μ 1 a4 40).bind fun r3 =>
  cond r3
  ((fX10_placeFault N μ a2 a3).bind fun r5 =>
  some r5)
  (some 2))
  (some 1)
def fX10_placeAt (N : Nat) (μ : Mem) (a0 : Int32) (a1 : Int32) : Option Int32 :=
  some ((a1 * 4) + a0)
def fX10_drop (N : Nat) (μ : Mem) (a0 : Nat) (a1 : Int32) (a2 : Int32) (a3 : Int32) (a4 : Int32) : Option (Mem × (Nat ⊕ Int32)) :=
  (fX10_dropFault N μ a0 a1 a2 a3 a4).bind fun r1 =>
  tb (fX10_stopIf N μ r1) fun μ3 r4 =>
  (fX10_remember N μ3 a0).bind fun r6 =>
  ar 5 a1 fun q7 =>
  (fX10_placeAt N r6 a2 a3).bind fun r11 =>
  (fX6_fallOn N r6 538 ((1 + 16) + 1 + 6 * q7) r11 a4).bind fun r12 =>
  some (r12.1, .inr r12.2)
def fX10_topplingsIf (N : Nat) (μ : Mem) (a0 : Nat) (a1 : Int32) (a2 : Int32) (a3 : Int32) (a4 : Int32) : Option (Mem × (Nat ⊕ Int32)) :=
  (fX10_dropFault N μ a0 a1 a2 a3 a4).bind fun r1 =>
  tb (fX10_stopIf N μ r1) fun μ3 r4 =>
  ar 5 a1 fun q6 =>
  (fX10_placeAt N μ3 a2 a3).bind fun r10 =>
  (fX6_tryFall N μ3 538 ((1 + 16) + 1 + 6 * q6) r10 a4).bind fun r11 =>
  (fX6_toppleByPlaces N r11 538 (538 + 1)).bind fun r12 =>
  some (r12.1, .inr r12.2)
def fX10_topplingsIfByRounds (N : Nat) (μ : Mem) (a0 : Nat) (a1 : Int32) (a2 : Int32) (a3 : Int32) (a4 : Int32) : Option (Mem × (Nat ⊕ Int32)) :=
  (fX10_dropFault N μ a0 a1 a2 a3 a4).bind fun r1 =>
  tb (fX10_stopIf N μ r1) fun μ3 r4 =>
  ar 5 a1 fun q6 =>
  (fX10_placeAt N μ3 a2 a3).bind fun r10 =>
  (fX6_tryFall N μ3 538 ((1 + 16) + 1 + 6 * q6) r10 a4).bind fun r11 =>
  (fX6_toppleByRounds N r11 538 (538 + 1)).bind fun r12 =>
  some (r12.1, .inr r12.2)
def fX10_exhibitCount (N : Nat) (μ : Mem) (a0 : Nat) : Option Int32 :=
  some (μ 1 4)
def fX10_roomOf (N : Nat) (μ : Mem) (a0 : Nat) (a1 : Int32) : Option (Mem × (Nat ⊕ Int32)) :=
  tb (fX10_existing N μ a0 a1) fun μ2 r3 =>
  some (μ2, .inr (μ2 r3 0))
def fX10_limit (N : Nat) (μ : Mem) (a0 : Nat) (a1 : Int32) : Option (Mem × (Nat ⊕ Int32)) :=
  tb (fX10_existing N μ a0 a1) fun μ2 r3 =>
  some (μ2, .inr (μ2 r3 1))
def fX10_grainsAt (N : Nat) (μ : Mem) (a0 : Nat) (a1 : Int32) (a2 : Int32) (a3 : Int32) : Option (Mem × (Nat ⊕ Int32)) :=
  tb (fX10_existing N μ a0 a1) fun μ2 r3 =>
  (fX10_placeFault N μ2 a2 a3).bind fun r6 =>
  tb (fX10_stopIf N μ2 r6) fun μ8 r9 =>
  (fX10_placeAt N μ8 a2 a3).bind fun r11 =>
  ag (μ8 (r3 + 1)) 16 r11 fun v12 =>
  some (μ8, .inr v12)
def fX10_grains (N : Nat) (μ : Mem) (a0 : Nat) (a1 : Int32) : Option (Mem × (Nat ⊕ Int32)) :=
  tb (fX10_existing N μ a0 a1) fun μ2 r3 =>
  (fX6_countGrains N μ2 (r3 + 1)).bind fun r6 =>
  some (μ2, .inr r6)
def fX10_lasts (N : Nat) (μ : Mem) (a0 : Nat) (a1 : Int32) : Option (Mem × (Nat ⊕ Bool)) :=
  tb (fX10_existing N μ a0 a1) fun μ2 r3 =>
  (fX6_burnsWhole N μ2 538 (r3 + 1)).bind fun r6 =>
  some (r6.1, .inr r6.2)
def fX10_lastsByToppling (N : Nat) (μ : Mem) (a0 : Nat) (a1 : Int32) : Option (Mem × (Nat ⊕ Bool)) :=
  tb (fX10_existing N μ a0 a1) fun μ2 r3 =>
  (fX6_topplesOnceEach N μ2 538 (r3 + 1)).bind fun r6 =>
  some (r6.1, .inr r6.2)
def fX10_longestSlopeByGrains (N : Nat) (μ : Mem) (a0 : Nat) (a1 : Int32) : Option (Mem × (Nat ⊕ Int32)) :=
  tb (fX10_existing N μ a0 a1) fun μ2 r3 =>
  (fX6_slopeFromFewest N μ2 538 (r3 + 1)).bind fun r6 =>
  some (r6.1, .inr r6.2)
def fX10_dropped (N : Nat) (μ : Mem) (a0 : Nat) (a1 : Int32) : Option (Mem × (Nat ⊕ Int32)) :=
  tb (fX10_existing N μ a0 a1) fun μ2 r3 =>
  some (μ2, .inr (μ2 r3 3))
def fX10_spilled (N : Nat) (μ : Mem) (a0 : Nat) (a1 : Int32) : Option (Mem × (Nat ⊕ Int32)) :=
  tb (fX10_existing N μ a0 a1) fun μ2 r3 =>
  some (μ2, .inr (μ2 r3 4))
def fX10_melted (N : Nat) (μ : Mem) (a0 : Nat) (a1 : Int32) : Option (Mem × (Nat ⊕ Int32)) :=
  tb (fX10_existing N μ a0 a1) fun μ2 r3 =>
  some (μ2, .inr (μ2 r3 5))
def fX10_journeyFault (N : Nat) (μ : Mem) (a0 : Nat) (a1 : Int32) (a2 : Int32) : Option Nat :=
  (fX8_hasExhibit N μ 1 a1).bind fun r1 =>
  jn (fun (y2 : Nat) =>
  some y2) fun j3 =>
  cond r1
  ((fX8_roomIndexFault N μ 1 a2).bind fun r7 =>
  j3 r7)
  (j3 1)
def fX10_refused (N : Nat) (μ : Mem) (a0 : Nat) (a1 : Int32) (a2 : Int32) : Option (Mem × Nat) :=
  lt (mset μ a0 9 a1) fun μ1 =>
  lt (mset μ1 a0 10 a2) fun μ3 =>
  some (μ3, 5)
def fX10_sendFault (N : Nat) (μ : Mem) (a0 : Nat) (a1 : Int32) (a2 : Int32) : Option (Mem × Nat) :=
  (fX10_journeyFault N μ a0 a1 a2).bind fun r1 =>
  if r1 = 0 then
  (ar 5 a1 fun q3 =>
  (fX1_loanEndOn N μ ((1 + 16) + 1 + 6 * q3) (μ 1 6)).bind fun r7 =>
  if r7 = (-1) then
  ((fX9_findWay N μ 520 1 (μ ((1 + 16) + 1 + 6 * q3) 0) a2).bind fun r9 =>
  cond r9.2
  (some (r9.1, 0))
  ((fX10_refused N r9.1 a0 2 (r9.1 ((1 + 16) + 1 + 6 * q3) 0)).bind fun r11 =>
  some (r11.1, r11.2)))
  else ((fX10_refused N μ a0 1 r7).bind fun r12 =>
  some (r12.1, r12.2)))
  else (some (μ, 1))
def fX10_passedOnWay (N : Nat) (μ : Mem) (a0 : Nat) (a1 : Int32) : Option Int32 :=
  fix2 (fun self3 (x1 : Int32) (x2 : Int32) =>
  if (μ 520 1) ≤ x2 then
  (some x1)
  else (ag (μ (520 + 1)) 6 (x2 - 1) fun v6 =>
  ar 6 v6 fun q9 =>
  ag (μ (520 + 1)) 6 x2 fun v13 =>
  ag (μ ((1 + 9) + 1 + 1 * q9)) 6 v13 fun v16 =>
  (fX10_passedBy N μ v16 a1).bind fun r19 =>
  lt (x1 + r19) fun v20 =>
  lt (x2 + 1) fun v22 =>
  self3 v20 v22)) N 0 1
def fX10_carry (N : Nat) (μ : Mem) (a0 : Nat) (a1 : Nat) (a2 : Int32) : Option (Mem × Int32) :=
  (fX9_findWay N μ 520 1 (μ a1 0) a2).bind fun r1 =>
  jn (fun (y2 : Int32) (μ3 : Mem) =>
  some (μ3, y2)) fun j4 =>
  cond r1.2
  ((fX10_passedOnWay N r1.1 a0 (r1.1 a1 1)).bind fun r8 =>
  (fX1_melt N r1.1 a1 r8).bind fun r9 =>
  lt (mset r9.1 a1 0 a2) fun μ10 =>
  j4 r9.2 μ10)
  (j4 0 r1.1)
def fX10_send (N : Nat) (μ : Mem) (a0 : Nat) (a1 : Int32) (a2 : Int32) : Option (Mem × (Nat ⊕ Int32)) :=
  (fX10_sendFault N μ a0 a1 a2).bind fun r1 =>
  tb (fX10_stopIf N r1.1 r1.2) fun μ3 r4 =>
  (fX10_remember N μ3 a0).bind fun r6 =>
  ar 5 a1 fun q7 =>
  (fX10_carry N r6 a0 ((1 + 16) + 1 + 6 * q7) a2).bind fun r11 =>
  some (r11.1, .inr r11.2)
def fX10_meltIfSent (N : Nat) (μ : Mem) (a0 : Nat) (a1 : Int32) (a2 : Int32) : Option (Mem × (Nat ⊕ Int32)) :=
  (fX10_journeyFault N μ a0 a1 a2).bind fun r1 =>
  tb (fX10_stopIf N μ r1) fun μ3 r4 =>
  ar 5 a1 fun q6 =>
  (fX10_wayFault N μ3 a0 (μ3 ((1 + 16) + 1 + 6 * q6) 0) a2).bind fun r10 =>
  tb (fX10_stopIf N r10.1 r10.2) fun μ12 r13 =>
  (fX10_passedOnWay N μ12 a0 (μ12 ((1 + 16) + 1 + 6 * q6) 1)).bind fun r15 =>
  (fX6_countGrains N μ12 (((1 + 16) + 1 + 6 * q6) + 1)).bind fun r16 =>
  some (μ12, .inr (imin r15 r16))
def fX10_leastPassed (N : Nat) (μ : Mem) (a0 : Nat) (a1 : Int32) (a2 : Int32) : Option (Mem × (Nat ⊕ Int32)) :=
  (fX10_journeyFault N μ a0 a1 a2).bind fun r1 =>
  tb (fX10_stopIf N μ r1) fun μ3 r4 =>
  ar 5 a1 fun q6 =>
  (fX9_passedBySettling N μ3 520 1 ((1 + 16) + 1 + 6 * q6) a2).bind fun r10 =>
  tb (fX10_presentOnly N r10.1 r10.2) fun μ12 r13 =>
  some (μ12, .inr r13)
def fX10_leastPassedByRounds (N : Nat) (μ : Mem) (a0 : Nat) (a1 : Int32) (a2 : Int32) : Option (Mem × (Nat ⊕ Int32)) :=
  (fX10_journeyFault N μ a0 a1 a2).bind fun r1 =>
  tb (fX10_stopIf N μ r1) fun μ3 r4 =>
  ar 5 a1 fun q6 =>
  (fX9_passedByRounds N μ3 520 1 ((1 + 16) + 1 + 6 * q6) a2).bind fun r10 =>
  tb (fX10_presentOnly N r10.1 r10.2) fun μ12 r13 =>
  some (μ12, .inr r13)
def fX10_daysFault (N : Nat) (μ : Mem) (a0 : Int32) : Option Nat :=
  (fX10_isFrom N μ 1 a0 99).bind fun r1 =>
  jn (fun (y2 : Nat) =>
  some y2) fun j3 =>
  cond r1
  (j3 0)
  (j3 2)
def fX10_passDays (N : Nat) (μ : Mem) (a0 : Nat) (a1 : Int32) : Option (Mem × (Nat ⊕ Int32)) :=
  (fX10_daysFault N μ a1).bind fun r1 =>
  tb (fX10_stopIf N μ r1) fun μ3 r4 =>
  (fX10_remember N μ3 a0).bind fun r6 =>
  (fX8_letDaysPass N r6 1 a1).bind fun r7 =>
  some (r7.1, .inr r7.2)
def fX10_day (N : Nat) (μ : Mem) (a0 : Nat) : Option Int32 :=
  some (μ 1 6)
def fX10_askFault (N : Nat) (μ : Mem) (a0 : Nat) (a1 : Int32) (a2 : Int32) (a3 : Int32) (a4 : Int32) : Option Nat :=
  (fX8_hasExhibit N μ 1 a1).bind fun r1 =>
  cond r1
  ((fX10_isFrom N μ 0 a3 99).bind fun r3 =>
  jn (fun (u4 : Unit) =>
  some 2) fun j5 =>
  cond r3
  ((fX10_isFrom N μ 0 a2 a3).bind fun r9 =>
  cond r9
  ((fX10_isFrom N μ 1 a4 99).bind fun r11 =>
  cond r11
  (ar 5 a1 fun q13 =>
  jn (fun (y17 : Nat) =>
  some y17) fun j18 =>
  if (μ ((1 + 16) + 1 + 6 * q13) 6) < 8 then
  (j18 0)
  else (j18 3))
  (j5 ()))
  (j5 ()))
  (j5 ()))
  (some 1)
def fX10_ask (N : Nat) (μ : Mem) (a0 : Nat) (a1 : Int32) (a2 : Int32) (a3 : Int32) (a4 : Int32) : Option (Mem × (Nat ⊕ Int32)) :=
  (fX10_askFault N μ a0 a1 a2 a3 a4).bind fun r1 =>
  tb (fX10_stopIf N μ r1) fun μ3 r4 =>
  (fX10_remember N μ3 a0).bind fun r6 =>
  ar 5 a1 fun q7 =>
  (fX1_noteLoan N r6 ((1 + 16) + 1 + 6 * q7) a2 a3 a4).bind fun r11 =>
  some (r11.1, .inr r11.2)
def fX10_askedCount (N : Nat) (μ : Mem) (a0 : Nat) (a1 : Int32) : Option (Mem × (Nat ⊕ Int32)) :=
  tb (fX10_existing N μ a0 a1) fun μ2 r3 =>
  some (μ2, .inr (μ2 r3 6))
def fX10_takenCount (N : Nat) (μ : Mem) (a0 : Nat) (a1 : Int32) : Option (Mem × (Nat ⊕ Int32)) :=
  tb (fX10_existing N μ a0 a1) fun μ2 r3 =>
  some (μ2, .inr (μ2 r3 10))
def fX10_bestFees (N : Nat) (μ : Mem) (a0 : Nat) (a1 : Int32) : Option (Mem × (Nat ⊕ Int32)) :=
  tb (fX10_existing N μ a0 a1) fun μ2 r3 =>
  (fX5_feesByLastDays N μ2 543 r3).bind fun r6 =>
  some (r6.1, .inr r6.2)
def fX10_isLent (N : Nat) (μ : Mem) (a0 : Nat) (a1 : Int32) (a2 : Int32) : Option (Mem × (Nat ⊕ Bool)) :=
  tb (fX10_existing N μ a0 a1) fun μ2 r3 =>
  (fX1_loanEndOn N μ2 r3 a2).bind fun r6 =>
  jn (fun (y7 : Bool) =>
  some (μ2, .inr y7)) fun j8 =>
  if r6 = (-1) then
  (j8 false)
  else (j8 true)
def fX10_income (N : Nat) (μ : Mem) (a0 : Nat) : Option Int32 :=
  some (μ 1 7)
def fX10_refusalFault (N : Nat) (μ : Mem) (a0 : Nat) : Option Nat :=
  jn (fun (y1 : Nat) =>
  some y1) fun j2 =>
  if (μ a0 9) = 0 then
  (j2 4)
  else (j2 0)
def fX10_refusalReason (N : Nat) (μ : Mem) (a0 : Nat) : Option (Mem × (Nat ⊕ Int32)) :=
  (fX10_refusalFault N μ a0).bind fun r1 =>
  tb (fX10_stopIf N μ r1) fun μ3 r4 =>
  some (μ3, .inr (μ3 a0 9))
def fX10_refusalDetail (N : Nat) (μ : Mem) (a0 : Nat) : Option (Mem × (Nat ⊕ Int32)) :=
  (fX10_refusalFault N μ a0).bind fun r1 =>
  tb (fX10_stopIf N μ r1) fun μ3 r4 =>
  some (μ3, .inr (μ3 a0 10))
def fX10_feed (N : Nat) (μ : Mem) (a0 : Nat) (a1 : Int32) : Option (Mem × (Nat ⊕ Int32)) :=
  if (μ 546 1) < 60 then
  (aw μ (546 + 1) 60 (μ 546 1) (vp_nar .char a1) fun μ2 =>
  lt (mset μ2 546 1 ((μ2 546 1) + 1)) fun μ5 =>
  some (μ5, .inr (μ5 546 1)))
  else (some (μ, .inl 2))
def fX10_errorPosition (N : Nat) (μ : Mem) (a0 : Nat) : Option (Mem × (Nat ⊕ Int32)) :=
  tb (fX10_presentOnly N μ (μ a0 11)) fun μ2 r3 =>
  some (μ2, .inr r3)
def fX10_failedCommand (N : Nat) (μ : Mem) (a0 : Nat) : Option (Mem × (Nat ⊕ Int32)) :=
  tb (fX10_presentOnly N μ (μ a0 12)) fun μ2 r3 =>
  some (μ2, .inr r3)
def fX10_undo (N : Nat) (μ : Mem) (a0 : Nat) : Option (Mem × (Nat ⊕ Int32)) :=
  if (μ 95 2) = 0 then
  (some (μ, .inl 2))
  else ((fX4_stepBack N μ 95).bind fun r2 =>
  (fX4_noted N r2 95).bind fun r3 =>
  (fX8_copyFrom N r2 1 r3).bind fun r5 =>
  some (r5, .inr (r5 95 2)))
def fX10_undoCount (N : Nat) (μ : Mem) (a0 : Nat) : Option Int32 :=
  some (μ 95 2)
def fX10_save (N : Nat) (μ : Mem) (a0 : Nat) : Option (Mem × Int32) :=
  (fX8_copyFrom N μ 48 1).bind fun r1 =>
  lt (mset r1 a0 2 1) fun μ2 =>
  some (μ2, (μ2 48 4))
def fX10_restore (N : Nat) (μ : Mem) (a0 : Nat) : Option (Mem × (Nat ⊕ Int32)) :=
  if (μ a0 2) = 0 then
  (some (μ, .inl 2))
  else ((fX8_copyFrom N μ 1 48).bind fun r2 =>
  lt (mset r2 95 2 0) fun μ3 =>
  some (μ3, .inr (μ3 1 4)))
def fX10_takeFault (N : Nat) (μ : Mem) (a0 : Nat) (a1 : Int32) : Option Nat :=
  (fX8_hasExhibit N μ 1 a1).bind fun r1 =>
  cond r1
  (ar 5 a1 fun q3 =>
  jn (fun (y7 : Nat) =>
  some y7) fun j8 =>
  if (μ ((1 + 16) + 1 + 6 * q3) 6) = 0 then
  (j8 3)
  else (j8 0))
  (some 1)
def fX10_leastPassedAgrees (N : Nat) (μ : Mem) (a0 : Nat) (a1 : Nat) : Option (Mem × Bool) :=
  fix2 (fun self3 (x1 : Int32) (μ2 : Mem) =>
  if (μ2 1 0) ≤ x1 then
  (some (μ2, true))
  else ((fX9_passedBySettling N μ2 520 1 a1 x1).bind fun r6 =>
  (fX9_passedByRounds N r6.1 520 1 a1 x1).bind fun r7 =>
  if r6.2 = r7.2 then
  (lt (x1 + 1) fun v9 =>
  self3 v9 r7.1)
  else (some (r7.1, false)))) N 0 μ
def fX10_minutesAgree (N : Nat) (μ : Mem) (a0 : Nat) : Option (Mem × Bool) :=
  (fX9_fillTable N μ 520 1).bind fun r1 =>
  fix2 (fun self4 (x2 : Int32) (μ3 : Mem) =>
  if (μ3 1 0) ≤ x2 then
  (some (μ3, true))
  else (fix2 (fun self9 (x7 : Int32) (μ8 : Mem) =>
  if (μ8 1 0) ≤ x7 then
  (lt (x2 + 1) fun v12 =>
  self4 v12 μ8)
  else ((fX9_minutesBySettling N μ8 520 1 x2 x7).bind fun r14 =>
  (fX9_minutesInTable N r14.1 520 x2 x7).bind fun r15 =>
  if r14.2 = r15 then
  (lt (x7 + 1) fun v17 =>
  self9 v17 r14.1)
  else (some (r14.1, false)))) N 0 μ3)) N 0 r1
def fX11_thrown (N : Nat) (μ : Mem) (a0 : Nat) : Option Int32 :=
  some (μ a0 6)
def fX11_in (N : Nat) (μ : Mem) (a0 : Int32) (a1 : Int32) (a2 : Int32) : Option Bool :=
  jn (fun (y1 : Bool) =>
  some y1) fun j2 =>
  jn (fun (u5 : Unit) =>
  j2 false) fun j6 =>
  if a0 < a1 then
  (j6 ())
  else (if a2 < a0 then
  (j6 ())
  else (j2 true))
def fX11_keep (N : Nat) (μ : Mem) (a0 : Nat) : Option Mem :=
  lt (mset μ a0 6 0) fun μ1 =>
  acp μ1 (a0 + 1) 817 (a0 + 2) 817 0 0 817 fun μ3 =>
  some μ3
def fX11_ends (N : Nat) (μ : Mem) (a0 : Nat) (a1 : Int32) : Option (Mem × Int32) :=
  if (μ a0 6) ≤ 0 then
  (jn (fun (μ2 : Mem) =>
  acp μ2 (a0 + 2) 817 (a0 + 4) 6536 0 (817 * (μ2 a0 5)) 817 fun μ6 =>
  lt (mset μ6 a0 5 ((μ6 a0 5) + 1)) fun μ9 =>
  some (μ9, a1)) fun j3 =>
  if (μ a0 5) = 8 then
  (acp μ (a0 + 4) 6536 (a0 + 4) 6536 817 0 5719 fun μ12 =>
  lt (mset μ12 a0 5 ((μ12 a0 5) - 1)) fun μ15 =>
  j3 μ15)
  else (j3 μ))
  else (acp μ (a0 + 2) 817 (a0 + 1) 817 0 0 817 fun μ17 =>
  some (μ17, 0))
def fX11_fails (N : Nat) (μ : Mem) (a0 : Nat) (a1 : Int32) : Option (Mem × Int32) :=
  lt (mset μ a0 6 a1) fun μ1 =>
  some (μ1, 0)
def fX11_refuses (N : Nat) (μ : Mem) (a0 : Nat) (a1 : Int32) (a2 : Int32) : Option (Mem × Int32) :=
  lt (mset μ a0 7 a1) fun μ1 =>
  lt (mset μ1 a0 8 a2) fun μ3 =>
  (fX11_fails N μ3 a0 2).bind fun r5 =>
  some (r5.1, r5.2)
def fX11_isThere (N : Nat) (μ : Mem) (a0 : Nat) (a1 : Bool) : Option (Mem × Bool) :=
  jn (fun (y1 : Bool) =>
  lt (mset μ a0 6 (b2i y1)) fun μ5 =>
  some (μ5, a1)) fun j2 =>
  cond a1
  (j2 false)
  (j2 true)
def fX11_isRoom (N : Nat) (μ : Mem) (a0 : Nat) (a1 : Int32) : Option Bool :=
  ag (μ (a0 + 1)) 817 0 fun v1 =>
  (fX11_in N μ a1 0 (v1 - 1)).bind fun r4 =>
  some r4
def fX11_isExhibit (N : Nat) (μ : Mem) (a0 : Nat) (a1 : Int32) : Option Bool :=
  ag (μ (a0 + 1)) 817 1 fun v1 =>
  (fX11_in N μ a1 0 (v1 - 1)).bind fun r4 =>
  some r4
def fX11_of (N : Nat) (μ : Mem) (a0 : Nat) (a1 : Int32) (a2 : Int32) : Option Int32 :=
  ag (μ (a0 + 1)) 817 ((82 + (147 * a1)) + a2) fun v1 =>
  some v1
def fX11_sets (N : Nat) (μ : Mem) (a0 : Nat) (a1 : Int32) (a2 : Int32) (a3 : Int32) : Option Mem :=
  aw μ (a0 + 1) 817 ((82 + (147 * a1)) + a2) a3 fun μ1 =>
  some μ1
def fX11_passed (N : Nat) (μ : Mem) (a0 : Int32) (a1 : Int32) : Option Int32 :=
  some (imax 0 (a0 - a1))
def fX11_doAddRoom (N : Nat) (μ : Mem) (a0 : Nat) (a1 : Int32) : Option (Mem × Int32) :=
  ag (μ (a0 + 1)) 817 0 fun v1 =>
  (fX11_in N μ a1 0 9).bind fun r4 =>
  cond r4
  (if v1 = 6 then
  ((fX11_fails N μ a0 2).bind fun r16 =>
  some (r16.1, r16.2))
  else (aw μ (a0 + 1) 817 (4 + v1) a1 fun μ7 =>
  ag (μ7 (a0 + 1)) 817 0 fun v10 =>
  aw μ7 (a0 + 1) 817 0 (v10 + 1) fun μ13 =>
  some (μ13, v1)))
  ((fX11_fails N μ a0 1).bind fun r17 =>
  some (r17.1, r17.2))
def fX11_addRoom (N : Nat) (μ : Mem) (a0 : Nat) (a1 : Int32) : Option (Mem × Int32) :=
  (fX11_keep N μ a0).bind fun r1 =>
  (fX11_doAddRoom N r1 a0 a1).bind fun r2 =>
  (fX11_ends N r2.1 a0 r2.2).bind fun r3 =>
  some (r3.1, r3.2)
def fX11_doSetWarmth (N : Nat) (μ : Mem) (a0 : Nat) (a1 : Int32) (a2 : Int32) : Option (Mem × Int32) :=
  (fX11_isRoom N μ a0 a1).bind fun r1 =>
  cond r1
  ((fX11_in N μ a2 0 9).bind fun r3 =>
  cond r3
  (ag (μ (a0 + 1)) 817 (4 + a1) fun v5 =>
  aw μ (a0 + 1) 817 (4 + a1) a2 fun μ8 =>
  some (μ8, v5))
  ((fX11_fails N μ a0 2).bind fun r11 =>
  some (r11.1, r11.2)))
  ((fX11_fails N μ a0 1).bind fun r12 =>
  some (r12.1, r12.2))
def fX11_setWarmth (N : Nat) (μ : Mem) (a0 : Nat) (a1 : Int32) (a2 : Int32) : Option (Mem × Int32) :=
  (fX11_keep N μ a0).bind fun r1 =>
  (fX11_doSetWarmth N r1 a0 a1 a2).bind fun r2 =>
  (fX11_ends N r2.1 a0 r2.2).bind fun r3 =>
  some (r3.1, r3.2)
def fX11_leg (N : Nat) (μ : Mem) (a0 : Nat) (a1 : Int32) (a2 : Int32) : Option Int32 :=
  ag (μ (a0 + 1)) 817 ((10 + (6 * a1)) + a2) fun v1 =>
  some v1
def fX11_heat (N : Nat) (μ : Mem) (a0 : Nat) (a1 : Int32) (a2 : Int32) : Option Int32 :=
  ag (μ (a0 + 1)) 817 ((46 + (6 * a1)) + a2) fun v1 =>
  some v1
def fX11_lays (N : Nat) (μ : Mem) (a0 : Nat) (a1 : Int32) (a2 : Int32) (a3 : Int32) (a4 : Int32) : Option (Mem × Int32) :=
  aw μ (a0 + 1) 817 ((10 + (6 * a1)) + a2) a3 fun μ1 =>
  aw μ1 (a0 + 1) 817 ((10 + (6 * a2)) + a1) a3 fun μ4 =>
  aw μ4 (a0 + 1) 817 ((46 + (6 * a1)) + a2) a4 fun μ7 =>
  aw μ7 (a0 + 1) 817 ((46 + (6 * a2)) + a1) a4 fun μ10 =>
  fix2 (fun self15 (x13 : Int32) (x14 : Int32) =>
  if 36 ≤ x14 then
  (some (μ10, (x13 / 2)))
  else (ag (μ10 (a0 + 1)) 817 (10 + x14) fun v18 =>
  jn (fun (y21 : Bool) =>
  lt (x13 + (b2i y21)) fun v25 =>
  lt (x14 + 1) fun v27 =>
  self15 v25 v27) fun j22 =>
  if v18 ≤ 0 then
  (j22 false)
  else (j22 true))) N 0 0
def fX11_doSetLeg (N : Nat) (μ : Mem) (a0 : Nat) (a1 : Int32) (a2 : Int32) (a3 : Int32) (a4 : Int32) : Option (Mem × Int32) :=
  (fX11_isRoom N μ a0 a1).bind fun r1 =>
  jn (fun (u2 : Unit) =>
  (fX11_fails N μ a0 1).bind fun r6 =>
  some (r6.1, r6.2)) fun j3 =>
  cond r1
  ((fX11_isRoom N μ a0 a2).bind fun r8 =>
  cond r8
  (jn (fun (u10 : Unit) =>
  (fX11_fails N μ a0 2).bind fun r14 =>
  some (r14.1, r14.2)) fun j11 =>
  if a1 = a2 then
  (j11 ())
  else ((fX11_in N μ a3 1 99).bind fun r16 =>
  cond r16
  ((fX11_in N μ a4 0 9).bind fun r18 =>
  cond r18
  ((fX11_lays N μ a0 a1 a2 a3 a4).bind fun r20 =>
  some (r20.1, r20.2))
  (j11 ()))
  (j11 ())))
  (j3 ()))
  (j3 ())
def fX11_setLeg (N : Nat) (μ : Mem) (a0 : Nat) (a1 : Int32) (a2 : Int32) (a3 : Int32) (a4 : Int32) : Option (Mem × Int32) :=
  (fX11_keep N μ a0).bind fun r1 =>
  (fX11_doSetLeg N r1 a0 a1 a2 a3 a4).bind fun r2 =>
  (fX11_ends N r2.1 a0 r2.2).bind fun r3 =>
  some (r3.1, r3.2)
def fX11_asksLeg (N : Nat) (μ : Mem) (a0 : Nat) (a1 : Int32) (a2 : Int32) : Option (Mem × Bool) :=
  (fX11_isRoom N μ a0 a1).bind fun r1 =>
  jn (fun (y2 : Int32) =>
  lt (mset μ a0 6 y2) fun μ6 =>
  jn (fun (y8 : Bool) =>
  some (μ6, y8)) fun j9 =>
  if (μ6 a0 6) = 0 then
  (j9 true)
  else (j9 false)) fun j3 =>
  jn (fun (u13 : Unit) =>
  j3 1) fun j14 =>
  cond r1
  ((fX11_isRoom N μ a0 a2).bind fun r18 =>
  cond r18
  ((fX11_leg N μ a0 a1 a2).bind fun r20 =>
  if r20 = 0 then
  (j3 2)
  else (j3 0))
  (j14 ()))
  (j14 ())
def fX11_removeLeg (N : Nat) (μ : Mem) (a0 : Nat) (a1 : Int32) (a2 : Int32) : Option (Mem × Int32) :=
  (fX11_keep N μ a0).bind fun r1 =>
  (fX11_asksLeg N r1 a0 a1 a2).bind fun r2 =>
  jn (fun (y3 : Int32) (μ4 : Mem) =>
  (fX11_ends N μ4 a0 y3).bind fun r8 =>
  some (r8.1, r8.2)) fun j5 =>
  cond r2.2
  ((fX11_lays N r2.1 a0 a1 a2 0 0).bind fun r10 =>
  j5 r10.2 r10.1)
  (j5 0 r2.1)
def fX11_roomCount (N : Nat) (μ : Mem) (a0 : Nat) : Option (Mem × Int32) :=
  lt (mset μ a0 6 0) fun μ1 =>
  ag (μ1 (a0 + 1)) 817 0 fun v3 =>
  some (μ1, v3)
def fX11_warmth (N : Nat) (μ : Mem) (a0 : Nat) (a1 : Int32) : Option (Mem × Int32) :=
  (fX11_isRoom N μ a0 a1).bind fun r1 =>
  (fX11_isThere N μ a0 r1).bind fun r2 =>
  jn (fun (y3 : Int32) =>
  some (r2.1, y3)) fun j4 =>
  cond r2.2
  (ag (r2.1 (a0 + 1)) 817 (4 + a1) fun v8 =>
  j4 v8)
  (j4 0)
def fX11_legMinutes (N : Nat) (μ : Mem) (a0 : Nat) (a1 : Int32) (a2 : Int32) : Option (Mem × Int32) :=
  (fX11_asksLeg N μ a0 a1 a2).bind fun r1 =>
  jn (fun (y2 : Int32) =>
  some (r1.1, y2)) fun j3 =>
  cond r1.2
  ((fX11_leg N r1.1 a0 a1 a2).bind fun r7 =>
  j3 r7)
  (j3 0)
def fX11_legWarmth (N : Nat) (μ : Mem) (a0 : Nat) (a1 : Int32) (a2 : Int32) : Option (Mem × Int32) :=
  (fX11_asksLeg N μ a0 a1 a2).bind fun r1 =>
  jn (fun (y2 : Int32) =>
  some (r1.1, y2)) fun j3 =>
  cond r1.2
  ((fX11_heat N r1.1 a0 a1 a2).bind fun r7 =>
  j3 r7)
  (j3 0)
def fX11_findsWays (N : Nat) (μ : Mem) (a0 : Nat) (a1 : Int32) : Option Mem :=
  fix2 (fun self3 (x1 : Int32) (μ2 : Mem) =>
  if 6 ≤ x1 then
  (fix2 (fun self8 (x6 : Bool) (μ7 : Mem) =>
  cond x6
  (fix3 (fun self14 (x11 : Bool) (x12 : Int32) (μ13 : Mem) =>
  if 6 ≤ x12 then
  (self8 x11 μ13)
  else (fix3 (fun self20 (x17 : Bool) (x18 : Int32) (μ19 : Mem) =>
  if 6 ≤ x18 then
  (lt (x12 + 1) fun v23 =>
  self14 x17 v23 μ19)
  else (ag (μ19 (a0 + 5)) 6 x18 fun v25 =>
  (fX11_leg N μ19 a0 x12 x18).bind fun r28 =>
  lt (v25 + r28) fun v29 =>
  (fX11_leg N μ19 a0 x12 x18).bind fun r31 =>
  jn (fun (y32 : Bool) =>
  jn (fun (y36 : Int32) =>
  aw μ19 (a0 + 5) 6 x12 y36 fun μ40 =>
  jn (fun (y43 : Int32) =>
  aw μ40 (a0 + 6) 6 x12 y43 fun μ47 =>
  jn (fun (y50 : Bool) =>
  lt (x18 + 1) fun v54 =>
  self20 y50 v54 μ47) fun j51 =>
  jn (fun (u56 : Unit) =>
  j51 true) fun j57 =>
  cond x17
  (j57 ())
  (cond y32
  (j57 ())
  (j51 false))) fun j44 =>
  cond y32
  (ag (μ40 (a0 + 6)) 6 x18 fun v66 =>
  j44 (v66 + 1))
  (ag (μ40 (a0 + 6)) 6 x12 fun v63 =>
  j44 v63)) fun j37 =>
  cond y32
  (j37 v29)
  (ag (μ19 (a0 + 5)) 6 x12 fun v70 =>
  j37 v70)) fun j33 =>
  jn (fun (u73 : Unit) =>
  j33 false) fun j74 =>
  if r31 ≤ 0 then
  (j74 ())
  else (ag (μ19 (a0 + 5)) 6 x18 fun v78 =>
  if 100000 ≤ v78 then
  (j74 ())
  else (ag (μ19 (a0 + 5)) 6 x12 fun v82 =>
  jn (fun (u85 : Unit) =>
  j33 true) fun j86 =>
  if v29 < v82 then
  (j86 ())
  else (ag (μ19 (a0 + 5)) 6 x12 fun v90 =>
  if v29 = v90 then
  (ag (μ19 (a0 + 6)) 6 x18 fun v94 =>
  ag (μ19 (a0 + 6)) 6 x12 fun v97 =>
  if v97 ≤ (v94 + 1) then
  (j74 ())
  else (j86 ()))
  else (j74 ())))))) N x11 0 μ13)) N false 0 μ7)
  (some μ7)) N true μ2)
  else (jn (fun (y101 : Int32) =>
  aw μ2 (a0 + 5) 6 x1 y101 fun μ105 =>
  aw μ105 (a0 + 6) 6 x1 0 fun μ108 =>
  lt (x1 + 1) fun v111 =>
  self3 v111 μ108) fun j102 =>
  if x1 = a1 then
  (j102 0)
  else (j102 100000))) N 0 μ
def fX11_next (N : Nat) (μ : Mem) (a0 : Nat) (a1 : Int32) : Option Int32 :=
  fix2 (fun self3 (x1 : Int32) (x2 : Int32) =>
  if x2 < 0 then
  (some x1)
  else ((fX11_leg N μ a0 a1 x2).bind fun r6 =>
  jn (fun (y7 : Bool) =>
  jn (fun (y11 : Int32) =>
  lt (x2 + (-1)) fun v15 =>
  self3 y11 v15) fun j12 =>
  cond y7
  (j12 x2)
  (j12 x1)) fun j8 =>
  jn (fun (u18 : Unit) =>
  j8 false) fun j19 =>
  if r6 ≤ 0 then
  (j19 ())
  else (ag (μ (a0 + 5)) 6 x2 fun v23 =>
  (fX11_leg N μ a0 a1 x2).bind fun r26 =>
  ag (μ (a0 + 5)) 6 a1 fun v27 =>
  if (v23 + r26) = v27 then
  (ag (μ (a0 + 6)) 6 x2 fun v31 =>
  ag (μ (a0 + 6)) 6 a1 fun v34 =>
  if (v31 + 1) = v34 then
  (j8 true)
  else (j19 ()))
  else (j19 ())))) N (-1) 5
def fX11_asksWay (N : Nat) (μ : Mem) (a0 : Nat) (a1 : Int32) (a2 : Int32) : Option (Mem × Bool) :=
  (fX11_isRoom N μ a0 a1).bind fun r1 =>
  jn (fun (u2 : Unit) =>
  lt (mset μ a0 6 1) fun μ6 =>
  some (μ6, false)) fun j3 =>
  cond r1
  ((fX11_isRoom N μ a0 a2).bind fun r9 =>
  cond r9
  ((fX11_findsWays N μ a0 a2).bind fun r11 =>
  ag (r11 (a0 + 5)) 6 a1 fun v12 =>
  jn (fun (y15 : Int32) =>
  lt (mset r11 a0 6 y15) fun μ19 =>
  jn (fun (y21 : Bool) =>
  some (μ19, y21)) fun j22 =>
  if (μ19 a0 6) = 0 then
  (j22 true)
  else (j22 false)) fun j16 =>
  if v12 = 100000 then
  (j16 2)
  else (j16 0))
  (j3 ()))
  (j3 ())
def fX11_minutes (N : Nat) (μ : Mem) (a0 : Nat) (a1 : Int32) (a2 : Int32) : Option (Mem × Int32) :=
  (fX11_asksWay N μ a0 a1 a2).bind fun r1 =>
  jn (fun (y2 : Int32) =>
  some (r1.1, y2)) fun j3 =>
  cond r1.2
  (ag (r1.1 (a0 + 5)) 6 a1 fun v7 =>
  j3 v7)
  (j3 0)
def fX11_minutesByTable (N : Nat) (μ : Mem) (a0 : Nat) (a1 : Int32) (a2 : Int32) : Option (Mem × Int32) :=
  (fX11_minutes N μ a0 a1 a2).bind fun r1 =>
  some (r1.1, r1.2)
def fX11_wayLegs (N : Nat) (μ : Mem) (a0 : Nat) (a1 : Int32) (a2 : Int32) : Option (Mem × Int32) :=
  (fX11_asksWay N μ a0 a1 a2).bind fun r1 =>
  jn (fun (y2 : Int32) =>
  some (r1.1, y2)) fun j3 =>
  cond r1.2
  (ag (r1.1 (a0 + 6)) 6 a1 fun v7 =>
  j3 v7)
  (j3 0)
def fX11_wayRoom (N : Nat) (μ : Mem) (a0 : Nat) (a1 : Int32) (a2 : Int32) (a3 : Int32) : Option (Mem × Int32) :=
  (fX11_asksWay N μ a0 a1 a2).bind fun r1 =>
  cond r1.2
  (ag (r1.1 (a0 + 6)) 6 a1 fun v3 =>
  (fX11_in N r1.1 a3 0 v3).bind fun r6 =>
  cond r6
  (fix2 (fun self10 (x8 : Int32) (x9 : Int32) =>
  if a3 ≤ x9 then
  (some (r1.1, x8))
  else ((fX11_next N r1.1 a0 x8).bind fun r13 =>
  lt (x9 + 1) fun v14 =>
  self10 r13 v14)) N a1 0)
  ((fX11_fails N r1.1 a0 2).bind fun r16 =>
  some (r16.1, r16.2)))
  (some (r1.1, 0))
def fX11_doAddExhibit (N : Nat) (μ : Mem) (a0 : Nat) (a1 : Int32) (a2 : Int32) : Option (Mem × Int32) :=
  ag (μ (a0 + 1)) 817 1 fun v1 =>
  (fX11_isRoom N μ a0 a1).bind fun r4 =>
  cond r4
  ((fX11_in N μ a2 0 9).bind fun r6 =>
  cond r6
  (if v1 = 5 then
  ((fX11_fails N μ a0 3).bind fun r25 =>
  some (r25.1, r25.2))
  else (fix2 (fun self11 (x9 : Int32) (μ10 : Mem) =>
  if 147 ≤ x9 then
  ((fX11_sets N μ10 a0 v1 0 a1).bind fun r14 =>
  (fX11_sets N r14 a0 v1 1 a2).bind fun r15 =>
  ag (r15 (a0 + 1)) 817 1 fun v16 =>
  aw r15 (a0 + 1) 817 1 (v16 + 1) fun μ19 =>
  some (μ19, v1))
  else ((fX11_sets N μ10 a0 v1 x9 0).bind fun r22 =>
  lt (x9 + 1) fun v23 =>
  self11 v23 r22)) N 0 μ))
  ((fX11_fails N μ a0 2).bind fun r26 =>
  some (r26.1, r26.2)))
  ((fX11_fails N μ a0 1).bind fun r27 =>
  some (r27.1, r27.2))
def fX11_addExhibit (N : Nat) (μ : Mem) (a0 : Nat) (a1 : Int32) (a2 : Int32) : Option (Mem × Int32) :=
  (fX11_keep N μ a0).bind fun r1 =>
  (fX11_doAddExhibit N r1 a0 a1 a2).bind fun r2 =>
  (fX11_ends N r2.1 a0 r2.2).bind fun r3 =>
  some (r3.1, r3.2)
def fX11_doSetLimit (N : Nat) (μ : Mem) (a0 : Nat) (a1 : Int32) (a2 : Int32) : Option (Mem × Int32) :=
  (fX11_isExhibit N μ a0 a1).bind fun r1 =>
  cond r1
  ((fX11_in N μ a2 0 9).bind fun r3 =>
  cond r3
  ((fX11_of N μ a0 a1 1).bind fun r5 =>
  (fX11_sets N μ a0 a1 1 a2).bind fun r6 =>
  some (r6, r5))
  ((fX11_fails N μ a0 2).bind fun r7 =>
  some (r7.1, r7.2)))
  ((fX11_fails N μ a0 1).bind fun r8 =>
  some (r8.1, r8.2))
def fX11_setLimit (N : Nat) (μ : Mem) (a0 : Nat) (a1 : Int32) (a2 : Int32) : Option (Mem × Int32) :=
  (fX11_keep N μ a0).bind fun r1 =>
  (fX11_doSetLimit N r1 a0 a1 a2).bind fun r2 =>
  (fX11_ends N r2.1 a0 r2.2).bind fun r3 =>
  some (r3.1, r3.2)
def fX11_takesPile (N : Nat) (μ : Mem) (a0 : Nat) (a1 : Int32) : Option Mem :=
  acp μ (a0 + 1) 817 (a0 + 7) 16 ((82 + (147 * a1)) + 7) 0 16 fun μ1 =>
  some μ1
def fX11_beside (N : Nat) (μ : Mem) (a0 : Int32) (a1 : Int32) : Option Int32 :=
  jn (fun (y1 : Int32) =>
  lt ((a0 - a0 / 4 * 4) + y1) fun v5 =>
  jn (fun (y7 : Int32) =>
  lt ((a0 / 4) + y7) fun v11 =>
  (fX11_in N μ v5 0 3).bind fun r13 =>
  jn (fun (y14 : Int32) =>
  some y14) fun j15 =>
  jn (fun (u18 : Unit) =>
  j15 (-1)) fun j19 =>
  cond r13
  ((fX11_in N μ v11 0 3).bind fun r23 =>
  cond r23
  (j15 ((4 * v11) + v5))
  (j19 ()))
  (j19 ())) fun j8 =>
  if a1 = 2 then
  (j8 1)
  else (if a1 = 3 then
  (j8 (-1))
  else (j8 0))) fun j2 =>
  if a1 = 0 then
  (j2 1)
  else (if a1 = 1 then
  (j2 (-1))
  else (j2 0))
def fX11_settles (N : Nat) (μ : Mem) (a0 : Nat) : Option (Mem × Int32) :=
  lt (mset μ a0 13 0) fun μ1 =>
  fix2 (fun self5 (x3 : Int32) (μ4 : Mem) =>
  if 16 ≤ x3 then
  (fix3 (fun self11 (x8 : Int32) (x9 : Int32) (μ10 : Mem) =>
  if 16 ≤ x9 then
  (some (μ10, x8))
  else (ag (μ10 (a0 + 7)) 16 x9 fun v14 =>
  jn (fun (y17 : Bool) =>
  fix2 (fun self23 (x21 : Int32) (μ22 : Mem) =>
  jn (fun (u25 : Unit) =>
  ag (μ22 (a0 + 8)) 16 x9 fun v29 =>
  jn (fun (y32 : Bool) =>
  aw μ22 (a0 + 8) 16 x9 (v29 + (b2i y32)) fun μ36 =>
  jn (fun (y39 : Bool) =>
  lt (x8 + (b2i y39)) fun v43 =>
  jn (fun (y45 : Int32) =>
  self11 v43 y45 μ36) fun j46 =>
  cond y17
  (j46 0)
  (j46 (x9 + 1))) fun j40 =>
  cond y17
  (j40 true)
  (j40 false)) fun j33 =>
  cond y17
  (j33 true)
  (j33 false)) fun j26 =>
  if 4 ≤ x21 then
  (j26 ())
  else (cond y17
  ((fX11_beside N μ22 x9 x21).bind fun r54 =>
  ag (μ22 (a0 + 7)) 16 x9 fun v55 =>
  aw μ22 (a0 + 7) 16 x9 (v55 - 1) fun μ58 =>
  jn (fun (y61 : Bool) =>
  lt (mset μ58 a0 13 ((μ58 a0 13) + (b2i y61))) fun μ65 =>
  jn (fun (μ67 : Mem) =>
  lt (x21 + 1) fun v71 =>
  self23 v71 μ67) fun j68 =>
  if r54 < 0 then
  (j68 μ65)
  else (ag (μ65 (a0 + 7)) 16 r54 fun v74 =>
  aw μ65 (a0 + 7) 16 r54 (v74 + 1) fun μ77 =>
  j68 μ77)) fun j62 =>
  if 0 ≤ r54 then
  (j62 false)
  else (j62 true))
  (j26 ()))) N 0 μ10) fun j18 =>
  if v14 < 4 then
  (j18 false)
  else (j18 true))) N 0 0 μ4)
  else (aw μ4 (a0 + 8) 16 x3 0 fun μ82 =>
  lt (x3 + 1) fun v85 =>
  self5 v85 μ82)) N 0 μ1
def fX11_wrongDrop (N : Nat) (μ : Mem) (a0 : Nat) (a1 : Int32) (a2 : Int32) (a3 : Int32) (a4 : Int32) : Option Int32 :=
  (fX11_isExhibit N μ a0 a1).bind fun r1 =>
  jn (fun (y2 : Int32) =>
  some y2) fun j3 =>
  cond r1
  ((fX11_in N μ a2 0 3).bind fun r7 =>
  jn (fun (u8 : Unit) =>
  j3 2) fun j9 =>
  cond r7
  ((fX11_in N μ a3 0 3).bind fun r13 =>
  cond r13
  ((fX11_in N μ a4 1 40).bind fun r15 =>
  cond r15
  (j3 0)
  (j9 ()))
  (j9 ()))
  (j9 ()))
  (j3 1)
def fX11_tries (N : Nat) (μ : Mem) (a0 : Nat) (a1 : Int32) (a2 : Int32) (a3 : Int32) (a4 : Int32) : Option (Mem × Int32) :=
  (fX11_takesPile N μ a0 a1).bind fun r1 =>
  ag (r1 (a0 + 7)) 16 ((4 * a3) + a2) fun v2 =>
  aw r1 (a0 + 7) 16 ((4 * a3) + a2) (v2 + a4) fun μ5 =>
  (fX11_settles N μ5 a0).bind fun r8 =>
  some (r8.1, r8.2)
def fX11_doDrop (N : Nat) (μ : Mem) (a0 : Nat) (a1 : Int32) (a2 : Int32) (a3 : Int32) (a4 : Int32) : Option (Mem × Int32) :=
  (fX11_wrongDrop N μ a0 a1 a2 a3 a4).bind fun r1 =>
  if r1 ≤ 0 then
  ((fX11_tries N μ a0 a1 a2 a3 a4).bind fun r3 =>
  acp r3.1 (a0 + 7) 16 (a0 + 1) 817 0 ((82 + (147 * a1)) + 7) 16 fun μ4 =>
  (fX11_of N μ4 a0 a1 2).bind fun r7 =>
  (fX11_sets N μ4 a0 a1 2 (r7 + a4)).bind fun r8 =>
  (fX11_of N r8 a0 a1 3).bind fun r9 =>
  (fX11_sets N r8 a0 a1 3 (r9 + (r8 a0 13))).bind fun r10 =>
  some (r10, r3.2))
  else ((fX11_fails N μ a0 r1).bind fun r11 =>
  some (r11.1, r11.2))
def fX11_drop (N : Nat) (μ : Mem) (a0 : Nat) (a1 : Int32) (a2 : Int32) (a3 : Int32) (a4 : Int32) : Option (Mem × Int32) :=
  (fX11_keep N μ a0).bind fun r1 =>
  (fX11_doDrop N r1 a0 a1 a2 a3 a4).bind fun r2 =>
  (fX11_ends N r2.1 a0 r2.2).bind fun r3 =>
  some (r3.1, r3.2)
def fX11_topplingsIf (N : Nat) (μ : Mem) (a0 : Nat) (a1 : Int32) (a2 : Int32) (a3 : Int32) (a4 : Int32) : Option (Mem × Int32) :=
  (fX11_wrongDrop N μ a0 a1 a2 a3 a4).bind fun r1 =>
  lt (mset μ a0 6 r1) fun μ2 =>
  jn (fun (y4 : Int32) (μ5 : Mem) =>
  some (μ5, y4)) fun j6 =>
  if (μ2 a0 6) ≤ 0 then
  ((fX11_tries N μ2 a0 a1 a2 a3 a4).bind fun r10 =>
  j6 r10.2 r10.1)
  else (j6 0 μ2)
def fX11_topplingsIfByRounds (N : Nat) (μ : Mem) (a0 : Nat) (a1 : Int32) (a2 : Int32) (a3 : Int32) (a4 : Int32) : Option (Mem × Int32) :=
  (fX11_topplingsIf N μ a0 a1 a2 a3 a4).bind fun r1 =>
  some (r1.1, r1.2)
def fX11_exhibitCount (N : Nat) (μ : Mem) (a0 : Nat) : Option (Mem × Int32) :=
  lt (mset μ a0 6 0) fun μ1 =>
  ag (μ1 (a0 + 1)) 817 1 fun v3 =>
  some (μ1, v3)
def fX11_tells (N : Nat) (μ : Mem) (a0 : Nat) (a1 : Int32) (a2 : Int32) : Option (Mem × Int32) :=
  (fX11_isExhibit N μ a0 a1).bind fun r1 =>
  (fX11_isThere N μ a0 r1).bind fun r2 =>
  jn (fun (y3 : Int32) =>
  some (r2.1, y3)) fun j4 =>
  cond r2.2
  ((fX11_of N r2.1 a0 a1 a2).bind fun r8 =>
  j4 r8)
  (j4 0)
def fX11_roomOf (N : Nat) (μ : Mem) (a0 : Nat) (a1 : Int32) : Option (Mem × Int32) :=
  (fX11_tells N μ a0 a1 0).bind fun r1 =>
  some (r1.1, r1.2)
def fX11_limit (N : Nat) (μ : Mem) (a0 : Nat) (a1 : Int32) : Option (Mem × Int32) :=
  (fX11_tells N μ a0 a1 1).bind fun r1 =>
  some (r1.1, r1.2)
def fX11_grainsAt (N : Nat) (μ : Mem) (a0 : Nat) (a1 : Int32) (a2 : Int32) (a3 : Int32) : Option (Mem × Int32) :=
  (fX11_wrongDrop N μ a0 a1 a2 a3 1).bind fun r1 =>
  lt (mset μ a0 6 r1) fun μ2 =>
  jn (fun (y4 : Int32) =>
  some (μ2, y4)) fun j5 =>
  if (μ2 a0 6) ≤ 0 then
  ((fX11_of N μ2 a0 a1 ((7 + (4 * a3)) + a2)).bind fun r9 =>
  j5 r9)
  else (j5 0)
def fX11_all (N : Nat) (μ : Mem) (a0 : Nat) (a1 : Int32) : Option Int32 :=
  fix2 (fun self3 (x1 : Int32) (x2 : Int32) =>
  if 16 ≤ x2 then
  (some x1)
  else ((fX11_of N μ a0 a1 (7 + x2)).bind fun r6 =>
  lt (x1 + r6) fun v7 =>
  lt (x2 + 1) fun v9 =>
  self3 v7 v9)) N 0 0
def fX11_grains (N : Nat) (μ : Mem) (a0 : Nat) (a1 : Int32) : Option (Mem × Int32) :=
  (fX11_isExhibit N μ a0 a1).bind fun r1 =>
  (fX11_isThere N μ a0 r1).bind fun r2 =>
  jn (fun (y3 : Int32) =>
  some (r2.1, y3)) fun j4 =>
  cond r2.2
  ((fX11_all N r2.1 a0 a1).bind fun r8 =>
  j4 r8)
  (j4 0)
def fX11_lasts (N : Nat) (μ : Mem) (a0 : Nat) (a1 : Int32) : Option (Mem × Bool) :=
  (fX11_isExhibit N μ a0 a1).bind fun r1 =>
  (fX11_isThere N μ a0 r1).bind fun r2 =>
  cond r2.2
  (fix2 (fun self6 (x4 : Int32) (x5 : Bool) =>
  cond x5
  (fix3 (fun self17 (x14 : Int32) (x15 : Bool) (x16 : Int32) =>
  if 16 ≤ x16 then
  (self6 x14 x15)
  else (fix2 (fun self22 (x20 : Int32) (x21 : Int32) =>
  if 4 ≤ x21 then
  (jn (fun (y25 : Int32) (y26 : Bool) =>
  lt (x16 + 1) fun v30 =>
  self17 y25 y26 v30) fun j27 =>
  if ((x14 >>> (x16 &&& 31)) &&& 1) = 1 then
  ((fX11_of N r2.1 a0 a1 (7 + x16)).bind fun r33 =>
  if r33 < x20 then
  (j27 x14 x15)
  else (lt (x14 &&& ((1 <<< (x16 &&& 31)) ^^^ (-1))) fun v35 =>
  j27 v35 true))
  else (j27 x14 x15))
  else ((fX11_beside N r2.1 x16 x21).bind fun r37 =>
  jn (fun (y38 : Bool) =>
  lt (x20 + (b2i y38)) fun v42 =>
  lt (x21 + 1) fun v44 =>
  self22 v42 v44) fun j39 =>
  jn (fun (u46 : Unit) =>
  j39 false) fun j47 =>
  if r37 < 0 then
  (j47 ())
  else (if ((x14 >>> (r37 &&& 31)) &&& 1) = 1 then
  (j39 true)
  else (j47 ())))) N 0 0)) N x4 false 0)
  (jn (fun (y9 : Bool) =>
  some (r2.1, y9)) fun j10 =>
  if x4 = 0 then
  (j10 true)
  else (j10 false))) N 65535 true)
  (some (r2.1, false))
def fX11_lastsByToppling (N : Nat) (μ : Mem) (a0 : Nat) (a1 : Int32) : Option (Mem × Bool) :=
  (fX11_lasts N μ a0 a1).bind fun r1 =>
  some (r1.1, r1.2)
def fX11_dropped (N : Nat) (μ : Mem) (a0 : Nat) (a1 : Int32) : Option (Mem × Int32) :=
  (fX11_tells N μ a0 a1 2).bind fun r1 =>
  some (r1.1, r1.2)
def fX11_spilled (N : Nat) (μ : Mem) (a0 : Nat) (a1 : Int32) : Option (Mem × Int32) :=
  (fX11_tells N μ a0 a1 3).bind fun r1 =>
  some (r1.1, r1.2)
def fX11_melted (N : Nat) (μ : Mem) (a0 : Nat) (a1 : Int32) : Option (Mem × Int32) :=
  (fX11_tells N μ a0 a1 4).bind fun r1 =>
  some (r1.1, r1.2)
def fX11_melts (N : Nat) (μ : Mem) (a0 : Nat) (a1 : Int32) (a2 : Int32) : Option (Mem × Int32) :=
  fix2 (fun self3 (x1 : Int32) (μ2 : Mem) =>
  jn (fun (u5 : Unit) =>
  (fX11_of N μ2 a0 a1 4).bind fun r9 =>
  (fX11_sets N μ2 a0 a1 4 (r9 + x1)).bind fun r10 =>
  some (r10, x1)) fun j6 =>
  if a2 ≤ x1 then
  (j6 ())
  else ((fX11_all N μ2 a0 a1).bind fun r12 =>
  if r12 ≤ 0 then
  (j6 ())
  else (fix2 (fun self16 (x14 : Int32) (x15 : Int32) =>
  if 16 ≤ x15 then
  ((fX11_of N μ2 a0 a1 (7 + x14)).bind fun r19 =>
  (fX11_sets N μ2 a0 a1 (7 + x14) (r19 - 1)).bind fun r20 =>
  lt (x1 + 1) fun v21 =>
  self3 v21 r20)
  else ((fX11_of N μ2 a0 a1 (7 + x15)).bind fun r23 =>
  (fX11_of N μ2 a0 a1 (7 + x14)).bind fun r24 =>
  jn (fun (y25 : Int32) =>
  lt (x15 + 1) fun v29 =>
  self16 y25 v29) fun j26 =>
  if r23 ≤ r24 then
  (j26 x14)
  else (j26 x15))) N 0 1))) N 0 μ
def fX11_lent (N : Nat) (μ : Mem) (a0 : Nat) (a1 : Int32) (a2 : Int32) : Option Bool :=
  (fX11_in N μ a2 0 99).bind fun r1 =>
  jn (fun (y2 : Bool) =>
  some y2) fun j3 =>
  jn (fun (u6 : Unit) =>
  j3 false) fun j7 =>
  cond r1
  ((fX11_of N μ a0 a1 (47 + a2)).bind fun r11 =>
  if r11 ≤ 0 then
  (j7 ())
  else (j3 true))
  (j7 ())
def fX11_doSend (N : Nat) (μ : Mem) (a0 : Nat) (a1 : Int32) (a2 : Int32) : Option (Mem × Int32) :=
  (fX11_isExhibit N μ a0 a1).bind fun r1 =>
  jn (fun (u2 : Unit) =>
  (fX11_fails N μ a0 1).bind fun r6 =>
  some (r6.1, r6.2)) fun j3 =>
  cond r1
  ((fX11_isRoom N μ a0 a2).bind fun r8 =>
  cond r8
  ((fX11_of N μ a0 a1 0).bind fun r10 =>
  ag (μ (a0 + 1)) 817 2 fun v11 =>
  (fX11_lent N μ a0 a1 v11).bind fun r14 =>
  cond r14
  (ag (μ (a0 + 1)) 817 2 fun v36 =>
  (fX11_of N μ a0 a1 (47 + v36)).bind fun r39 =>
  (fX11_refuses N μ a0 1 (r39 - 1)).bind fun r40 =>
  some (r40.1, r40.2))
  ((fX11_findsWays N μ a0 a2).bind fun r16 =>
  ag (r16 (a0 + 5)) 6 r10 fun v17 =>
  if v17 = 100000 then
  ((fX11_refuses N r16 a0 2 r10).bind fun r35 =>
  some (r35.1, r35.2))
  else (fix3 (fun self24 (x21 : Int32) (x22 : Int32) (μ23 : Mem) =>
  if x21 = a2 then
  ((fX11_sets N μ23 a0 a1 0 a2).bind fun r27 =>
  some (r27, x22))
  else ((fX11_next N μ23 a0 x21).bind fun r28 =>
  (fX11_heat N μ23 a0 x21 r28).bind fun r29 =>
  (fX11_of N μ23 a0 a1 1).bind fun r30 =>
  (fX11_passed N μ23 r29 r30).bind fun r31 =>
  (fX11_melts N μ23 a0 a1 r31).bind fun r32 =>
  lt (x22 + r32.2) fun v33 =>
  self24 r28 v33 r32.1)) N r10 0 r16)))
  (j3 ()))
  (j3 ())
def fX11_send (N : Nat) (μ : Mem) (a0 : Nat) (a1 : Int32) (a2 : Int32) : Option (Mem × Int32) :=
  (fX11_keep N μ a0).bind fun r1 =>
  (fX11_doSend N r1 a0 a1 a2).bind fun r2 =>
  (fX11_ends N r2.1 a0 r2.2).bind fun r3 =>
  some (r3.1, r3.2)
def fX11_meltIfSent (N : Nat) (μ : Mem) (a0 : Nat) (a1 : Int32) (a2 : Int32) : Option (Mem × Int32) :=
  (fX11_isExhibit N μ a0 a1).bind fun r1 =>
  jn (fun (y2 : Bool) =>
  (fX11_isThere N μ a0 y2).bind fun r6 =>
  jn (fun (μ7 : Mem) =>
  some (μ7, 0)) fun j8 =>
  cond r6.2
  ((fX11_of N r6.1 a0 a1 0).bind fun r12 =>
  (fX11_asksWay N r6.1 a0 r12 a2).bind fun r13 =>
  cond r13.2
  ((fX11_of N r13.1 a0 a1 0).bind fun r15 =>
  fix2 (fun self18 (x16 : Int32) (x17 : Int32) =>
  if x17 = a2 then
  ((fX11_all N r13.1 a0 a1).bind fun r21 =>
  some (r13.1, (imin x16 r21)))
  else ((fX11_next N r13.1 a0 x17).bind fun r22 =>
  (fX11_heat N r13.1 a0 x17 r22).bind fun r23 =>
  (fX11_of N r13.1 a0 a1 1).bind fun r24 =>
  (fX11_passed N r13.1 r23 r24).bind fun r25 =>
  lt (x16 + r25) fun v26 =>
  (fX11_next N r13.1 a0 x17).bind fun r28 =>
  self18 v26 r28)) N 0 r15)
  (j8 r13.1))
  (j8 r6.1)) fun j3 =>
  jn (fun (u29 : Unit) =>
  j3 false) fun j30 =>
  cond r1
  ((fX11_isRoom N μ a0 a2).bind fun r34 =>
  cond r34
  (j3 true)
  (j30 ()))
  (j30 ())
def fX11_leastPassed (N : Nat) (μ : Mem) (a0 : Nat) (a1 : Int32) (a2 : Int32) : Option (Mem × Int32) :=
  (fX11_isExhibit N μ a0 a1).bind fun r1 =>
  jn (fun (y2 : Bool) =>
  (fX11_isThere N μ a0 y2).bind fun r6 =>
  cond r6.2
  (fix2 (fun self10 (x8 : Int32) (μ9 : Mem) =>
  if 6 ≤ x8 then
  (fix2 (fun self15 (x13 : Int32) (μ14 : Mem) =>
  if 6 ≤ x13 then
  ((fX11_of N μ14 a0 a1 0).bind fun r18 =>
  ag (μ14 (a0 + 5)) 6 r18 fun v19 =>
  jn (fun (y22 : Int32) =>
  lt (mset μ14 a0 6 y22) fun μ26 =>
  jn (fun (y28 : Int32) =>
  some (μ26, y28)) fun j29 =>
  if (μ26 a0 6) ≤ 0 then
  (j29 v19)
  else (j29 0)) fun j23 =>
  if v19 = 100000 then
  (j23 2)
  else (j23 0))
  else (fix2 (fun self36 (x34 : Int32) (μ35 : Mem) =>
  if 6 ≤ x34 then
  (lt (x13 + 1) fun v39 =>
  self15 v39 μ35)
  else (fix2 (fun self43 (x41 : Int32) (μ42 : Mem) =>
  if 6 ≤ x41 then
  (lt (x34 + 1) fun v46 =>
  self36 v46 μ42)
  else ((fX11_leg N μ42 a0 x34 x41).bind fun r48 =>
  jn (fun (y49 : Bool) =>
  jn (fun (y53 : Int32) =>
  aw μ42 (a0 + 5) 6 x34 y53 fun μ57 =>
  lt (x41 + 1) fun v60 =>
  self43 v60 μ57) fun j54 =>
  cond y49
  (ag (μ42 (a0 + 5)) 6 x34 fun v66 =>
  ag (μ42 (a0 + 5)) 6 x41 fun v69 =>
  (fX11_heat N μ42 a0 x34 x41).bind fun r72 =>
  (fX11_of N μ42 a0 a1 1).bind fun r73 =>
  (fX11_passed N μ42 r72 r73).bind fun r74 =>
  j54 (imin v66 (v69 + r74)))
  (ag (μ42 (a0 + 5)) 6 x34 fun v63 =>
  j54 v63)) fun j50 =>
  jn (fun (u75 : Unit) =>
  j50 false) fun j76 =>
  if r48 ≤ 0 then
  (j76 ())
  else (ag (μ42 (a0 + 5)) 6 x41 fun v80 =>
  if 100000 ≤ v80 then
  (j76 ())
  else (j50 true)))) N 0 μ35)) N 0 μ14)) N 0 μ9)
  else (jn (fun (y84 : Int32) =>
  aw μ9 (a0 + 5) 6 x8 y84 fun μ88 =>
  lt (x8 + 1) fun v91 =>
  self10 v91 μ88) fun j85 =>
  if x8 = a2 then
  (j85 0)
  else (j85 100000))) N 0 r6.1)
  (some (r6.1, 0))) fun j3 =>
  jn (fun (u94 : Unit) =>
  j3 false) fun j95 =>
  cond r1
  ((fX11_isRoom N μ a0 a2).bind fun r99 =>
  cond r99
  (j3 true)
  (j95 ()))
  (j95 ())
def fX11_leastPassedByRounds (N : Nat) (μ : Mem) (a0 : Nat) (a1 : Int32) (a2 : Int32) : Option (Mem × Int32) :=
  (fX11_leastPassed N μ a0 a1 a2).bind fun r1 =>
  some (r1.1, r1.2)
def fX11_doPassDays (N : Nat) (μ : Mem) (a0 : Nat) (a1 : Int32) : Option (Mem × Int32) :=
  (fX11_in N μ a1 1 99).bind fun r1 =>
  cond r1
  (fix3 (fun self6 (x3 : Int32) (x4 : Int32) (μ5 : Mem) =>
  if a1 ≤ x4 then
  (some (μ5, x3))
  else (fix3 (fun self12 (x9 : Int32) (x10 : Int32) (μ11 : Mem) =>
  ag (μ11 (a0 + 1)) 817 1 fun v14 =>
  if v14 ≤ x10 then
  (ag (μ11 (a0 + 1)) 817 2 fun v18 =>
  aw μ11 (a0 + 1) 817 2 (v18 + 1) fun μ21 =>
  lt (x4 + 1) fun v24 =>
  self6 x9 v24 μ21)
  else ((fX11_of N μ11 a0 x10 0).bind fun r26 =>
  ag (μ11 (a0 + 1)) 817 (4 + r26) fun v27 =>
  (fX11_of N μ11 a0 x10 1).bind fun r30 =>
  (fX11_passed N μ11 v27 r30).bind fun r31 =>
  ag (μ11 (a0 + 1)) 817 2 fun v32 =>
  (fX11_lent N μ11 a0 x10 v32).bind fun r35 =>
  jn (fun (y36 : Int32) (μ37 : Mem) =>
  lt (x9 + y36) fun v41 =>
  lt (x10 + 1) fun v43 =>
  self12 v41 v43 μ37) fun j38 =>
  cond r35
  (j38 0 μ11)
  ((fX11_melts N μ11 a0 x10 r31).bind fun r46 =>
  j38 r46.2 r46.1))) N x3 0 μ5)) N 0 0 μ)
  ((fX11_fails N μ a0 1).bind fun r47 =>
  some (r47.1, r47.2))
def fX11_passDays (N : Nat) (μ : Mem) (a0 : Nat) (a1 : Int32) : Option (Mem × Int32) :=
  (fX11_keep N μ a0).bind fun r1 =>
  (fX11_doPassDays N r1 a0 a1).bind fun r2 =>
  (fX11_ends N r2.1 a0 r2.2).bind fun r3 =>
  some (r3.1, r3.2)
def fX11_day (N : Nat) (μ : Mem) (a0 : Nat) : Option (Mem × Int32) :=
  lt (mset μ a0 6 0) fun μ1 =>
  ag (μ1 (a0 + 1)) 817 2 fun v3 =>
  some (μ1, v3)
def fX11_loan (N : Nat) (μ : Mem) (a0 : Nat) (a1 : Int32) (a2 : Int32) (a3 : Int32) : Option Int32 :=
  (fX11_of N μ a0 a1 ((23 + (3 * a2)) + a3)).bind fun r1 =>
  some r1
def fX11_doAsk (N : Nat) (μ : Mem) (a0 : Nat) (a1 : Int32) (a2 : Int32) (a3 : Int32) (a4 : Int32) : Option (Mem × Int32) :=
  (fX11_isExhibit N μ a0 a1).bind fun r1 =>
  cond r1
  ((fX11_in N μ a2 0 99).bind fun r3 =>
  jn (fun (u4 : Unit) =>
  (fX11_fails N μ a0 2).bind fun r8 =>
  some (r8.1, r8.2)) fun j5 =>
  cond r3
  ((fX11_in N μ a3 a2 99).bind fun r10 =>
  cond r10
  ((fX11_in N μ a4 1 99).bind fun r12 =>
  cond r12
  ((fX11_of N μ a0 a1 5).bind fun r14 =>
  if r14 = 8 then
  ((fX11_fails N μ a0 3).bind fun r20 =>
  some (r20.1, r20.2))
  else ((fX11_sets N μ a0 a1 (23 + (3 * r14)) a2).bind fun r16 =>
  (fX11_sets N r16 a0 a1 ((23 + (3 * r14)) + 1) a3).bind fun r17 =>
  (fX11_sets N r17 a0 a1 ((23 + (3 * r14)) + 2) a4).bind fun r18 =>
  (fX11_sets N r18 a0 a1 5 (r14 + 1)).bind fun r19 =>
  some (r19, (r14 + 1))))
  (j5 ()))
  (j5 ()))
  (j5 ()))
  ((fX11_fails N μ a0 1).bind fun r21 =>
  some (r21.1, r21.2))
def fX11_ask (N : Nat) (μ : Mem) (a0 : Nat) (a1 : Int32) (a2 : Int32) (a3 : Int32) (a4 : Int32) : Option (Mem × Int32) :=
  (fX11_keep N μ a0).bind fun r1 =>
  (fX11_doAsk N r1 a0 a1 a2 a3 a4).bind fun r2 =>
  (fX11_ends N r2.1 a0 r2.2).bind fun r3 =>
  some (r3.1, r3.2)
def fX11_isChoice (N : Nat) (μ : Mem) (a0 : Nat) (a1 : Int32) (a2 : Int32) : Option Bool :=
  fix1 (fun self2 (x1 : Int32) =>
  if 100 ≤ x1 then
  (some true)
  else ((fX11_lent N μ a0 a1 x1).bind fun r5 =>
  jn (fun (y6 : Bool) =>
  fix2 (fun self12 (x10 : Int32) (x11 : Int32) =>
  (fX11_of N μ a0 a1 5).bind fun r14 =>
  if r14 ≤ x11 then
  (jn (fun (u16 : Unit) =>
  lt (x1 + 1) fun v20 =>
  self2 v20) fun j17 =>
  if x10 ≤ 0 then
  (j17 ())
  else (if ((b2i y6) + x10) ≤ 1 then
  (j17 ())
  else (some false)))
  else (jn (fun (y24 : Bool) =>
  lt (x10 + (b2i y24)) fun v28 =>
  lt (x11 + 1) fun v30 =>
  self12 v28 v30) fun j25 =>
  jn (fun (u32 : Unit) =>
  j25 false) fun j33 =>
  if ((a2 >>> (x11 &&& 31)) &&& 1) = 1 then
  ((fX11_loan N μ a0 a1 x11 0).bind fun r37 =>
  (fX11_loan N μ a0 a1 x11 1).bind fun r38 =>
  (fX11_in N μ x1 r37 r38).bind fun r39 =>
  cond r39
  (j25 true)
  (j33 ()))
  else (j33 ()))) N 0 0) fun j7 =>
  cond r5
  (j7 true)
  (j7 false))) N 0
def fX11_fees (N : Nat) (μ : Mem) (a0 : Nat) (a1 : Int32) (a2 : Int32) : Option Int32 :=
  fix2 (fun self3 (x1 : Int32) (x2 : Int32) =>
  (fX11_of N μ a0 a1 5).bind fun r5 =>
  if r5 ≤ x2 then
  (some x1)
  else (jn (fun (y7 : Int32) =>
  lt (x1 + y7) fun v11 =>
  lt (x2 + 1) fun v13 =>
  self3 v11 v13) fun j8 =>
  if ((a2 >>> (x2 &&& 31)) &&& 1) = 1 then
  ((fX11_loan N μ a0 a1 x2 2).bind fun r16 =>
  j8 r16)
  else (j8 0))) N 0 0
def fX11_bits (N : Nat) (μ : Mem) (a0 : Int32) : Option Int32 :=
  fix2 (fun self3 (x1 : Int32) (x2 : Int32) =>
  if x2 ≤ 0 then
  (some x1)
  else (lt (x1 + (x2 &&& 1)) fun v6 =>
  lt (x2 >>> (1 &&& 31)) fun v8 =>
  self3 v6 v8)) N 0 a0
def fX11_best (N : Nat) (μ : Mem) (a0 : Nat) (a1 : Int32) : Option Int32 :=
  fix2 (fun self3 (x1 : Int32) (x2 : Int32) =>
  (fX11_of N μ a0 a1 5).bind fun r5 =>
  if (1 <<< (r5 &&& 31)) ≤ x2 then
  (some x1)
  else ((fX11_isChoice N μ a0 a1 x2).bind fun r7 =>
  jn (fun (y8 : Int32) =>
  lt (x2 + 1) fun v12 =>
  self3 y8 v12) fun j9 =>
  cond r7
  ((fX11_fees N μ a0 a1 x2).bind fun r15 =>
  (fX11_fees N μ a0 a1 x1).bind fun r16 =>
  lt (r15 - r16) fun v17 =>
  jn (fun (y19 : Int32) =>
  lt (x2 ^^^ x1) fun v23 =>
  jn (fun (y25 : Bool) =>
  jn (fun (y29 : Int32) =>
  j9 y29) fun j30 =>
  jn (fun (u33 : Unit) =>
  j30 x2) fun j34 =>
  if 0 < y19 then
  (j34 ())
  else (jn (fun (u38 : Unit) =>
  j30 x1) fun j39 =>
  if y19 = 0 then
  (cond y25
  (j34 ())
  (j39 ()))
  else (j39 ()))) fun j26 =>
  if ((v23 &&& (-v23)) &&& x2) = 0 then
  (j26 false)
  else (j26 true)) fun j20 =>
  if v17 = 0 then
  ((fX11_bits N μ x1).bind fun r46 =>
  (fX11_bits N μ x2).bind fun r47 =>
  j20 (r46 - r47))
  else (j20 v17))
  (j9 x1))) N 0 1
def fX11_doTakeBest (N : Nat) (μ : Mem) (a0 : Nat) (a1 : Int32) : Option (Mem × Int32) :=
  (fX11_isExhibit N μ a0 a1).bind fun r1 =>
  cond r1
  ((fX11_of N μ a0 a1 5).bind fun r3 =>
  if r3 = 0 then
  ((fX11_fails N μ a0 2).bind fun r41 =>
  some (r41.1, r41.2))
  else ((fX11_best N μ a0 a1).bind fun r5 =>
  (fX11_fees N μ a0 a1 r5).bind fun r6 =>
  fix2 (fun self9 (x7 : Int32) (μ8 : Mem) =>
  (fX11_of N μ8 a0 a1 5).bind fun r11 =>
  if r11 ≤ x7 then
  ((fX11_of N μ8 a0 a1 6).bind fun r13 =>
  (fX11_bits N μ8 r5).bind fun r14 =>
  (fX11_sets N μ8 a0 a1 6 (r13 + r14)).bind fun r15 =>
  (fX11_sets N r15 a0 a1 5 0).bind fun r16 =>
  ag (r16 (a0 + 1)) 817 3 fun v17 =>
  aw r16 (a0 + 1) 817 3 (v17 + r6) fun μ20 =>
  some (μ20, r6))
  else ((fX11_loan N μ8 a0 a1 x7 0).bind fun r23 =>
  fix2 (fun self26 (x24 : Int32) (μ25 : Mem) =>
  (fX11_loan N μ25 a0 a1 x7 1).bind fun r28 =>
  jn (fun (u29 : Unit) =>
  lt (x7 + 1) fun v33 =>
  self9 v33 μ25) fun j30 =>
  if r28 < x24 then
  (j30 ())
  else (if ((r5 >>> (x7 &&& 31)) &&& 1) = 1 then
  ((fX11_loan N μ25 a0 a1 x7 1).bind fun r37 =>
  (fX11_sets N μ25 a0 a1 (47 + x24) (r37 + 1)).bind fun r38 =>
  lt (x24 + 1) fun v39 =>
  self26 v39 r38)
  else (j30 ()))) N r23 μ8)) N 0 μ))
  ((fX11_fails N μ a0 1).bind fun r42 =>
  some (r42.1, r42.2))
def fX11_takeBest (N : Nat) (μ : Mem) (a0 : Nat) (a1 : Int32) : Option (Mem × Int32) :=
  (fX11_keep N μ a0).bind fun r1 =>
  (fX11_doTakeBest N r1 a0 a1).bind fun r2 =>
  (fX11_ends N r2.1 a0 r2.2).bind fun r3 =>
  some (r3.1, r3.2)
def fX11_askedCount (N : Nat) (μ : Mem) (a0 : Nat) (a1 : Int32) : Option (Mem × Int32) :=
  (fX11_tells N μ a0 a1 5).bind fun r1 =>
  some (r1.1, r1.2)
def fX11_takenCount (N : Nat) (μ : Mem) (a0 : Nat) (a1 : Int32) : Option (Mem × Int32) :=
  (fX11_tells N μ a0 a1 6).bind fun r1 =>
  some (r1.1, r1.2)
def fX11_bestFees (N : Nat) (μ : Mem) (a0 : Nat) (a1 : Int32) : Option (Mem × Int32) :=
  (fX11_isExhibit N μ a0 a1).bind fun r1 =>
  (fX11_isThere N μ a0 r1).bind fun r2 =>
  jn (fun (y3 : Int32) =>
  some (r2.1, y3)) fun j4 =>
  cond r2.2
  ((fX11_best N r2.1 a0 a1).bind fun r8 =>
  (fX11_fees N r2.1 a0 a1 r8).bind fun r9 =>
  j4 r9)
  (j4 0)
def fX11_bestFeesByTrials (N : Nat) (μ : Mem) (a0 : Nat) (a1 : Int32) : Option (Mem × Int32) :=
  (fX11_bestFees N μ a0 a1).bind fun r1 =>
  some (r1.1, r1.2)
def fX11_isLent (N : Nat) (μ : Mem) (a0 : Nat) (a1 : Int32) (a2 : Int32) : Option (Mem × Bool) :=
  (fX11_isExhibit N μ a0 a1).bind fun r1 =>
  (fX11_isThere N μ a0 r1).bind fun r2 =>
  jn (fun (y3 : Bool) =>
  some (r2.1, y3)) fun j4 =>
  jn (fun (u7 : Unit) =>
  j4 false) fun j8 =>
  cond r2.2
  ((fX11_lent N r2.1 a0 a1 a2).bind fun r12 =>
  cond r12
  (j4 true)
  (j8 ()))
  (j8 ())
def fX11_income (N : Nat) (μ : Mem) (a0 : Nat) : Option (Mem × Int32) :=
  lt (mset μ a0 6 0) fun μ1 =>
  ag (μ1 (a0 + 1)) 817 3 fun v3 =>
  some (μ1, v3)
def fX11_refusalReason (N : Nat) (μ : Mem) (a0 : Nat) : Option (Mem × Int32) :=
  jn (fun (y1 : Bool) =>
  (fX11_isThere N μ a0 y1).bind fun r5 =>
  jn (fun (y6 : Int32) =>
  some (r5.1, y6)) fun j7 =>
  cond r5.2
  (j7 (r5.1 a0 7))
  (j7 0)) fun j2 =>
  if (μ a0 7) ≤ 0 then
  (j2 false)
  else (j2 true)
def fX11_refusalDetail (N : Nat) (μ : Mem) (a0 : Nat) : Option (Mem × Int32) :=
  jn (fun (y1 : Bool) =>
  (fX11_isThere N μ a0 y1).bind fun r5 =>
  jn (fun (y6 : Int32) =>
  some (r5.1, y6)) fun j7 =>
  cond r5.2
  (j7 (r5.1 a0 8))
  (j7 0)) fun j2 =>
  if (μ a0 7) ≤ 0 then
  (j2 false)
  else (j2 true)
def fX11_isConsistent (N : Nat) (μ : Mem) (a0 : Nat) : Option (Mem × Bool) :=
  lt (mset μ a0 6 0) fun μ1 =>
  some (μ1, true)
def fX11_says (N : Nat) (μ : Mem) (a0 : Nat) (a1 : Int32) : Option Mem :=
  aw μ (a0 + 9) 40 (μ a0 15) (vp_nar .char ((a1.toUInt32 % 65536).toInt32)) fun μ1 =>
  lt (mset μ1 a0 15 ((μ1 a0 15) + 1)) fun μ4 =>
  some μ4
def fX11_outputCharacter (N : Nat) (μ : Mem) (a0 : Nat) (a1 : Int32) : Option (Mem × Int32) :=
  (fX11_in N μ a1 0 ((μ a0 15) - 1)).bind fun r1 =>
  (fX11_isThere N μ a0 r1).bind fun r2 =>
  jn (fun (y3 : Int32) =>
  gd (vp_nar .char y3 = y3) <|
  (some (r2.1, y3))) fun j4 =>
  cond r2.2
  (ag (r2.1 (a0 + 9)) 40 a1 fun v9 =>
  j4 v9)
  (j4 32)
def fX11_feed (N : Nat) (μ : Mem) (a0 : Nat) (a1 : Int32) : Option (Mem × Int32) :=
  jn (fun (y1 : Bool) =>
  lt (mset μ a0 6 (b2i y1)) fun μ5 =>
  if (μ5 a0 6) ≤ 0 then
  (aw μ5 (a0 + 10) 60 (μ5 a0 17) (vp_nar .char a1) fun μ8 =>
  lt (mset μ8 a0 17 ((μ8 a0 17) + 1)) fun μ11 =>
  some (μ11, (μ11 a0 17)))
  else (some (μ5, 0))) fun j2 =>
  if (μ a0 17) = 60 then
  (j2 true)
  else (j2 false)
def fX11_behind (N : Nat) (μ : Mem) (a0 : Nat) (a1 : Int32) : Option Int32 :=
  jn (fun (y1 : Int32) =>
  some y1) fun j2 =>
  if (μ a0 17) ≤ ((μ a0 18) + a1) then
  (j2 (-1))
  else (ag (μ (a0 + 10)) 60 ((μ a0 18) + a1) fun v6 =>
  j2 v6)
def fX11_isDigit (N : Nat) (μ : Mem) (a0 : Nat) : Option Bool :=
  jn (fun (y1 : Bool) =>
  some y1) fun j2 =>
  jn (fun (u5 : Unit) =>
  j2 false) fun j6 =>
  if (μ a0 19) = 0 then
  ((fX11_behind N μ a0 0).bind fun r10 =>
  (fX11_in N μ r10 48 57).bind fun r11 =>
  cond r11
  (j2 true)
  (j6 ()))
  else (j6 ())
def fX11_readsNumber (N : Nat) (μ : Mem) (a0 : Nat) (a1 : Int32) : Option (Mem × Int32) :=
  jn (fun (y1 : Bool) =>
  lt (mset μ a0 19 (b2i y1)) fun μ5 =>
  fix3 (fun self10 (x7 : Int32) (x8 : Int32) (μ9 : Mem) =>
  jn (fun (u12 : Unit) =>
  some (μ9, x7)) fun j13 =>
  if a1 ≤ x8 then
  (j13 ())
  else ((fX11_isDigit N μ9 a0).bind fun r17 =>
  cond r17
  (ag (μ9 (a0 + 10)) 60 (μ9 a0 18) fun v19 =>
  lt (((10 * x7) + v19) - 48) fun v22 =>
  lt (mset μ9 a0 18 ((μ9 a0 18) + 1)) fun μ24 =>
  lt (x8 + 1) fun v26 =>
  self10 v22 v26 μ24)
  (j13 ()))) N 0 0 μ5) fun j2 =>
  jn (fun (u28 : Unit) =>
  j2 true) fun j29 =>
  if (μ a0 19) = 0 then
  ((fX11_isDigit N μ a0).bind fun r33 =>
  cond r33
  (j2 false)
  (j29 ()))
  else (j29 ())
def fX11_does (N : Nat) (μ : Mem) (a0 : Nat) (a1 : Int32) : Option Mem :=
  ag (μ (a0 + 11)) 300 ((5 * a1) + 1) fun v1 =>
  ag (μ (a0 + 11)) 300 ((5 * a1) + 2) fun v4 =>
  ag (μ (a0 + 11)) 300 ((5 * a1) + 3) fun v7 =>
  ag (μ (a0 + 11)) 300 ((5 * a1) + 4) fun v10 =>
  ag (μ (a0 + 11)) 300 (5 * a1) fun v13 =>
  jn (fun (μ16 : Mem) =>
  some μ16) fun j17 =>
  jn (fun (u20 : Unit) =>
  (fX11_doDrop N μ a0 v1 v4 v7 v10).bind fun r24 =>
  j17 r24.1) fun j21 =>
  (if v13 = 97 then
  ((fX11_doAsk N μ a0 v1 v4 v7 v10).bind fun r26 =>
  j17 r26.1)
  else if v13 = 98 then
  (j21 ())
  else if v13 = 99 then
  (j21 ())
  else if v13 = 100 then
  (j21 ())
  else if v13 = 101 then
  (j21 ())
  else if v13 = 102 then
  (j21 ())
  else if v13 = 103 then
  (j21 ())
  else if v13 = 104 then
  (j21 ())
  else if v13 = 105 then
  (j21 ())
  else if v13 = 106 then
  (j21 ())
  else if v13 = 107 then
  (j21 ())
  else if v13 = 108 then
  ((fX11_doSetLeg N μ a0 v1 v4 v7 v10).bind fun r38 =>
  j17 r38.1)
  else if v13 = 109 then
  (j21 ())
  else if v13 = 110 then
  (j21 ())
  else if v13 = 111 then
  (j21 ())
  else if v13 = 112 then
  ((fX11_doAddExhibit N μ a0 v1 v4).bind fun r43 =>
  j17 r43.1)
  else if v13 = 113 then
  (j21 ())
  else if v13 = 114 then
  ((fX11_doAddRoom N μ a0 v1).bind fun r46 =>
  j17 r46.1)
  else if v13 = 115 then
  ((fX11_doSend N μ a0 v1 v4).bind fun r48 =>
  j17 r48.1)
  else if v13 = 116 then
  ((fX11_doTakeBest N μ a0 v1).bind fun r50 =>
  j17 r50.1)
  else if v13 = 117 then
  (j21 ())
  else if v13 = 118 then
  (j21 ())
  else if v13 = 119 then
  (j21 ())
  else if v13 = 120 then
  (j21 ())
  else if v13 = 121 then
  ((fX11_doPassDays N μ a0 v1).bind fun r56 =>
  j17 r56.1)
  else (j21 ()))
def fX11_errorPosition (N : Nat) (μ : Mem) (a0 : Nat) : Option (Mem × Int32) :=
  jn (fun (y1 : Bool) =>
  (fX11_isThere N μ a0 y1).bind fun r5 =>
  jn (fun (y6 : Int32) =>
  some (r5.1, y6)) fun j7 =>
  cond r5.2
  (j7 (r5.1 a0 20))
  (j7 0)) fun j2 =>
  if (μ a0 20) < 0 then
  (j2 false)
  else (j2 true)
def fX11_failedCommand (N : Nat) (μ : Mem) (a0 : Nat) : Option (Mem × Int32) :=
  jn (fun (y1 : Bool) =>
  (fX11_isThere N μ a0 y1).bind fun r5 =>
  jn (fun (y6 : Int32) =>
  some (r5.1, y6)) fun j7 =>
  cond r5.2
  (j7 (r5.1 a0 21))
  (j7 0)) fun j2 =>
  if (μ a0 21) < 0 then
  (j2 false)
  else (j2 true)
def fX11_undo (N : Nat) (μ : Mem) (a0 : Nat) : Option (Mem × Int32) :=
  jn (fun (y1 : Bool) =>
  lt (mset μ a0 6 (b2i y1)) fun μ5 =>
  if (μ5 a0 6) ≤ 0 then
  (lt (mset μ5 a0 5 ((μ5 a0 5) - 1)) fun μ8 =>
  acp μ8 (a0 + 4) 6536 (a0 + 1) 817 (817 * (μ8 a0 5)) 0 817 fun μ10 =>
  some (μ10, (μ10 a0 5)))
  else (some (μ5, 0))) fun j2 =>
  if (μ a0 5) = 0 then
  (j2 true)
  else (j2 false)
def fX11_undoCount (N : Nat) (μ : Mem) (a0 : Nat) : Option (Mem × Int32) :=
  lt (mset μ a0 6 0) fun μ1 =>
  some (μ1, (μ1 a0 5))
def fX11_save (N : Nat) (μ : Mem) (a0 : Nat) : Option (Mem × Int32) :=
  lt (mset μ a0 6 0) fun μ1 =>
  acp μ1 (a0 + 1) 817 (a0 + 3) 817 0 0 817 fun μ3 =>
  lt (mset μ3 a0 3 1) fun μ6 =>
  ag (μ6 (a0 + 1)) 817 1 fun v8 =>
  some (μ6, v8)
def fX11_restore (N : Nat) (μ : Mem) (a0 : Nat) : Option (Mem × Int32) :=
  jn (fun (y1 : Bool) =>
  lt (mset μ a0 6 (b2i y1)) fun μ5 =>
  if (μ5 a0 6) ≤ 0 then
  (acp μ5 (a0 + 3) 817 (a0 + 1) 817 0 0 817 fun μ8 =>
  lt (mset μ8 a0 5 0) fun μ11 =>
  ag (μ11 (a0 + 1)) 817 1 fun v13 =>
  some (μ11, v13))
  else (some (μ5, 0))) fun j2 =>
  if (μ a0 3) = 0 then
  (j2 true)
  else (j2 false)
def fJ6_bitCount_0f7a4 (N : Nat) (μ : Mem) (a0 : Int32) : Option Int32 :=
  lt (a0 - ((((a0 : Int32).toUInt32 >>> ((1 : Int32).toUInt32 &&& Int32.toUInt32 31)).toInt32) &&& 1431655765)) fun v1 =>
  lt ((v1 &&& 858993459) + ((((v1 : Int32).toUInt32 >>> ((2 : Int32).toUInt32 &&& Int32.toUInt32 31)).toInt32) &&& 858993459)) fun v3 =>
  lt ((v3 + (((v3 : Int32).toUInt32 >>> ((4 : Int32).toUInt32 &&& Int32.toUInt32 31)).toInt32)) &&& 252645135) fun v5 =>
  lt (v5 + (((v5 : Int32).toUInt32 >>> ((8 : Int32).toUInt32 &&& Int32.toUInt32 31)).toInt32)) fun v7 =>
  lt (v7 + (((v7 : Int32).toUInt32 >>> ((16 : Int32).toUInt32 &&& Int32.toUInt32 31)).toInt32)) fun v9 =>
  some (v9 &&& 63)
def fX1_isBetter (N : Nat) (μ : Mem) (a0 : Nat) (a1 : Int32) (a2 : Int32) : Option Bool :=
  (fX1_feesOf N μ a0 a1).bind fun r1 =>
  (fX1_feesOf N μ a0 a2).bind fun r2 =>
  lt (r1 - r2) fun v3 =>
  if v3 = 0 then
  ((fJ6_bitCount_0f7a4 N μ a1).bind fun r6 =>
  (fJ6_bitCount_0f7a4 N μ a2).bind fun r7 =>
  lt (r6 - r7) fun v8 =>
  if v8 = 0 then
  (lt (a1 ^^^ a2) fun v11 =>
  lt (v11 &&& (-v11)) fun v13 =>
  jn (fun (y15 : Bool) =>
  some y15) fun j16 =>
  if (a1 &&& v13) = 0 then
  (j16 false)
  else (j16 true))
  else (jn (fun (y20 : Bool) =>
  some y20) fun j21 =>
  if 0 ≤ v8 then
  (j21 false)
  else (j21 true)))
  else (jn (fun (y25 : Bool) =>
  some y25) fun j26 =>
  if v3 ≤ 0 then
  (j26 false)
  else (j26 true))
def fX1_bestChoice (N : Nat) (μ : Mem) (a0 : Nat) : Option Int32 :=
  (fX1_hinderedLoans N μ a0).bind fun r1 =>
  fix2 (fun self4 (x2 : Int32) (x3 : Int32) =>
  if (1 <<< ((μ a0 6) &&& 31)) ≤ x3 then
  (some x2)
  else (jn (fun (y7 : Int32) =>
  lt (x3 + 1) fun v11 =>
  self4 y7 v11) fun j8 =>
  if (x3 &&& r1) = 0 then
  ((fX1_isApart N μ a0 x3).bind fun r14 =>
  cond r14
  ((fX1_isBetter N μ a0 x3 x2).bind fun r16 =>
  cond r16
  (j8 x3)
  (j8 x2))
  (j8 x2))
  else (j8 x2))) N 0 1
def fX8_lend (N : Nat) (μ : Mem) (a0 : Nat) (a1 : Int32) : Option (Mem × Int32) :=
  ar 5 a1 fun q1 =>
  (fX1_bestChoice N μ ((a0 + 16) + 1 + 6 * q1)).bind fun r5 =>
  (fX1_feesOf N μ ((a0 + 16) + 1 + 6 * q1) r5).bind fun r6 =>
  (fX1_takeLoans N μ ((a0 + 16) + 1 + 6 * q1) r5).bind fun r7 =>
  lt (mset r7 a0 7 ((r7 a0 7) + r6)) fun μ8 =>
  some (μ8, r6)
def fX10_bestFeesByTrials (N : Nat) (μ : Mem) (a0 : Nat) (a1 : Int32) : Option (Mem × (Nat ⊕ Int32)) :=
  tb (fX10_existing N μ a0 a1) fun μ2 r3 =>
  (fX1_bestChoice N μ2 r3).bind fun r6 =>
  (fX1_feesOf N μ2 r3 r6).bind fun r7 =>
  some (μ2, .inr r7)
def fX10_takeBest (N : Nat) (μ : Mem) (a0 : Nat) (a1 : Int32) : Option (Mem × (Nat ⊕ Int32)) :=
  (fX10_takeFault N μ a0 a1).bind fun r1 =>
  tb (fX10_stopIf N μ r1) fun μ3 r4 =>
  (fX10_remember N μ3 a0).bind fun r6 =>
  (fX8_lend N r6 1 a1).bind fun r7 =>
  some (r7.1, .inr r7.2)
def fX6_slopeFrom (N : Nat) : Nat → Mem → Nat → Int32 → Int32 → Option Int32
  | 0, _, _, _, _ => none
  | n + 1, μ, a0, a1, a2 =>
  if a2 < 16 then
  (fix2 (fun self4 (x2 : Int32) (x3 : Int32) =>
  if 4 ≤ x3 then
  (some (x2 + 1))
  else ((fX6_beside N μ a1 x3).bind fun r7 =>
  jn (fun (y8 : Int32) =>
  lt (x3 + 1) fun v12 =>
  self4 y8 v12) fun j9 =>
  if r7 = (-1) then
  (j9 x2)
  else (ag (μ a0) 16 r7 fun v15 =>
  ag (μ a0) 16 a1 fun v18 =>
  if v18 ≤ v15 then
  (j9 x2)
  else ((fX6_slopeFrom N n μ a0 r7 (a2 + 1)).bind fun r22 =>
  lt (imax x2 r22) fun v23 =>
  j9 v23)))) N 0 0)
  else (some 1)
def fX6_slopeByRecursion (N : Nat) (μ : Mem) (a0 : Nat) : Option Int32 :=
  fix2 (fun self3 (x1 : Int32) (x2 : Int32) =>
  if 16 ≤ x2 then
  (some x1)
  else ((fX6_slopeFrom N 17 μ a0 x2 1).bind fun r6 =>
  lt (imax x1 r6) fun v7 =>
  lt (x2 + 1) fun v9 =>
  self3 v7 v9)) N 0 0
def fX10_longestSlope (N : Nat) (μ : Mem) (a0 : Nat) (a1 : Int32) : Option (Mem × (Nat ⊕ Int32)) :=
  tb (fX10_existing N μ a0 a1) fun μ2 r3 =>
  (fX6_slopeByRecursion N μ2 (r3 + 1)).bind fun r6 =>
  some (μ2, .inr r6)
def fX10_pileAgrees (N : Nat) (μ : Mem) (a0 : Nat) (a1 : Nat) : Option (Mem × Bool) :=
  (fX6_countGrains N μ (a1 + 1)).bind fun r1 =>
  lt ((r1 + (μ a1 4)) + (μ a1 5)) fun v2 =>
  jn (fun (y4 : Bool) (μ5 : Mem) =>
  some (μ5, y4)) fun j6 =>
  jn (fun (μ9 : Mem) =>
  j6 false μ9) fun j10 =>
  if (μ a1 3) = v2 then
  ((fX6_burnsWhole N μ 538 (a1 + 1)).bind fun r14 =>
  (fX6_topplesOnceEach N r14.1 538 (a1 + 1)).bind fun r15 =>
  if (b2i r14.2) = (b2i r15.2) then
  ((fX6_slopeByRecursion N r15.1 (a1 + 1)).bind fun r17 =>
  (fX6_slopeFromFewest N r15.1 538 (a1 + 1)).bind fun r18 =>
  if r17 = r18.2 then
  (j6 true r18.1)
  else (j10 r18.1))
  else (j10 r15.1))
  else (j10 μ)
def fX10_isConsistent (N : Nat) (μ : Mem) (a0 : Nat) : Option (Mem × Bool) :=
  fix3 (fun self4 (x1 : Bool) (x2 : Int32) (μ3 : Mem) =>
  if (μ3 1 4) ≤ x2 then
  (jn (fun (y7 : Bool) (μ8 : Mem) =>
  some (μ8, y7)) fun j9 =>
  jn (fun (μ12 : Mem) =>
  j9 false μ12) fun j13 =>
  cond x1
  ((fX10_minutesAgree N μ3 a0).bind fun r17 =>
  cond r17.2
  (j9 true r17.1)
  (j13 r17.1))
  (j13 μ3))
  else (ar 5 x2 fun q19 =>
  jn (fun (y23 : Bool) (μ24 : Mem) =>
  lt (x2 + 1) fun v28 =>
  self4 y23 v28 μ24) fun j25 =>
  jn (fun (μ30 : Mem) =>
  j25 false μ30) fun j31 =>
  cond x1
  ((fX10_pileAgrees N μ3 a0 ((1 + 16) + 1 + 6 * q19)).bind fun r35 =>
  cond r35.2
  ((fX10_leastPassedAgrees N r35.1 a0 ((1 + 16) + 1 + 6 * q19)).bind fun r37 =>
  cond r37.2
  ((fX5_feesByLastDays N r37.1 543 ((1 + 16) + 1 + 6 * q19)).bind fun r39 =>
  (fX1_bestChoice N r39.1 ((1 + 16) + 1 + 6 * q19)).bind fun r40 =>
  (fX1_feesOf N r39.1 ((1 + 16) + 1 + 6 * q19) r40).bind fun r41 =>
  if r39.2 = r41 then
  (j25 true r39.1)
  else (j31 r39.1))
  (j31 r37.1))
  (j31 r35.1))
  (j31 μ3))) N true 0 μ
def fX11_slope (N : Nat) : Nat → Mem → Nat → Int32 → Int32 → Option Int32
  | 0, _, _, _, _ => none
  | n + 1, μ, a0, a1, a2 =>
  fix2 (fun self3 (x1 : Int32) (x2 : Int32) =>
  if 4 ≤ x2 then
  (some (1 + x1))
  else ((fX11_beside N μ a2 x2).bind fun r6 =>
  jn (fun (y7 : Bool) =>
  jn (fun (y11 : Int32) =>
  lt (x2 + 1) fun v15 =>
  self3 y11 v15) fun j12 =>
  cond y7
  ((fX11_slope N n μ a0 a1 r6).bind fun r18 =>
  j12 (imax x1 r18))
  (j12 x1)) fun j8 =>
  jn (fun (u19 : Unit) =>
  j8 false) fun j20 =>
  if r6 < 0 then
  (j20 ())
  else ((fX11_of N μ a0 a1 (7 + r6)).bind fun r24 =>
  (fX11_of N μ a0 a1 (7 + a2)).bind fun r25 =>
  if r25 ≤ r24 then
  (j20 ())
  else (j8 true)))) N 0 0
def fX11_longestSlope (N : Nat) (μ : Mem) (a0 : Nat) (a1 : Int32) : Option (Mem × Int32) :=
  (fX11_isExhibit N μ a0 a1).bind fun r1 =>
  (fX11_isThere N μ a0 r1).bind fun r2 =>
  fix2 (fun self5 (x3 : Int32) (x4 : Int32) =>
  jn (fun (u7 : Unit) =>
  some (r2.1, x3)) fun j8 =>
  if 16 ≤ x4 then
  (j8 ())
  else (cond r2.2
  ((fX11_slope N 17 r2.1 a0 a1 x4).bind fun r13 =>
  lt (imax x3 r13) fun v14 =>
  lt (x4 + 1) fun v16 =>
  self5 v14 v16)
  (j8 ()))) N 0 0
def fX11_longestSlopeByGrains (N : Nat) (μ : Mem) (a0 : Nat) (a1 : Int32) : Option (Mem × Int32) :=
  (fX11_longestSlope N μ a0 a1).bind fun r1 =>
  some (r1.1, r1.2)
def fX11_saysNumber (N : Nat) : Nat → Mem → Nat → Int32 → Option Mem
  | 0, _, _, _ => none
  | n + 1, μ, a0, a1 =>
  jn (fun (μ1 : Mem) =>
  (fX11_says N μ1 a0 (48 + (a1 - a1 / 10 * 10))).bind fun r5 =>
  some r5) fun j2 =>
  if a1 ≤ 9 then
  (j2 μ)
  else ((fX11_saysNumber N n μ a0 (a1 / 10)).bind fun r7 =>
  j2 r7)
def fX11_writePile (N : Nat) (μ : Mem) (a0 : Nat) (a1 : Int32) : Option (Mem × Int32) :=
  (fX11_isExhibit N μ a0 a1).bind fun r1 =>
  (fX11_isThere N μ a0 r1).bind fun r2 =>
  cond r2.2
  (lt (mset r2.1 a0 15 0) fun μ4 =>
  fix2 (fun self8 (x6 : Int32) (μ7 : Mem) =>
  if 16 ≤ x6 then
  (some (μ7, (μ7 a0 15)))
  else (jn (fun (μ11 : Mem) =>
  (fX11_of N μ11 a0 a1 (7 + x6)).bind fun r15 =>
  (fX11_saysNumber N 12 μ11 a0 r15).bind fun r16 =>
  lt (x6 + 1) fun v17 =>
  self8 v17 r16) fun j12 =>
  if x6 ≤ 0 then
  (j12 μ7)
  else (if (x6 - x6 / 4 * 4) = 0 then
  ((fX11_says N μ7 a0 47).bind fun r21 =>
  j12 r21)
  else (j12 μ7)))) N 0 μ4)
  (some (r2.1, 0))
def fX11_writeWay (N : Nat) (μ : Mem) (a0 : Nat) (a1 : Int32) (a2 : Int32) : Option (Mem × Int32) :=
  (fX11_asksWay N μ a0 a1 a2).bind fun r1 =>
  cond r1.2
  (lt (mset r1.1 a0 15 0) fun μ3 =>
  (fX11_saysNumber N 12 μ3 a0 a1).bind fun r5 =>
  fix2 (fun self8 (x6 : Int32) (μ7 : Mem) =>
  if x6 = a2 then
  ((fX11_says N μ7 a0 61).bind fun r11 =>
  ag (r11 (a0 + 5)) 6 a1 fun v12 =>
  (fX11_saysNumber N 12 r11 a0 v12).bind fun r15 =>
  some (r15, (r15 a0 15)))
  else ((fX11_says N μ7 a0 62).bind fun r16 =>
  (fX11_next N r16 a0 x6).bind fun r17 =>
  (fX11_saysNumber N 12 r16 a0 r17).bind fun r18 =>
  (fX11_next N r18 a0 x6).bind fun r19 =>
  self8 r19 r18)) N a1 r5)
  (some (r1.1, 0))
/-- the letters of String constant c -/
def sTx : Nat → List Nat
  | 1 => [114, 111, 111, 109, 32, 35]
  | 2 => [108, 101, 103, 32, 35, 45, 35, 32, 37, 42, 35]
  | 3 => [112, 105, 108, 101, 32, 35, 42, 35]
  | 4 => [100, 114, 111, 112, 32, 35, 32, 35, 44, 35, 43, 37]
  | 5 => [115, 101, 110, 100, 32, 35, 62, 35]
  | 6 => [97, 115, 107, 32, 35, 32, 37, 45, 37, 43, 37]
  | 7 => [116, 97, 107, 101, 32, 35]
  | 8 => [100, 97, 121, 32, 37]
  | 9 => [114, 111, 111, 109, 32, 49]
  | 10 => [108, 101, 103, 32, 49, 45, 49, 32, 50, 42, 49]
  | 11 => [112, 105, 108, 101, 32, 49, 42, 49]
  | 12 => [115, 101, 110, 100, 32, 49, 62, 49]
  | 13 => [97, 115, 107, 32, 49, 32, 50, 45, 50, 43, 50]
  | 14 => [116, 97, 107, 101, 32, 49]
  | 15 => [100, 97, 121, 32, 50]
  | 16 => [100, 114, 111, 112, 32, 49, 32, 49, 44, 49, 43, 50]
  | _ => []
def sLn (c : Nat) : Int32 := nI (sTx c).length
/-- letter i of String constant c -/
def sat {O : Type} (c : Nat) (i : Int32) (k : Int32 → Option O) : Option O := if i < 0 ∨ (sTx c).length ≤ i.toNatClampNeg then none else k (nI ((sTx c).getD i.toNatClampNeg 0))
theorem sat_o {O : Type} {c : Nat} {i : Int32} {k : Int32 → Option O} {z : O} (h : sat c i k = some z) : ∃ v, v = nI ((sTx c).getD i.toNatClampNeg 0) ∧ vp_in i (sTx c).length ∧ k v = some z := by
  unfold sat at h
  by_cases hc : i < 0 ∨ (sTx c).length ≤ i.toNatClampNeg
  · rw [if_pos hc] at h; cases h
  · rw [if_neg hc] at h; exact ⟨_, rfl, hc, h⟩
/-- Form number i of FORMS, by its code -/
def fo {O : Type} (i : Int32) (k : Nat → Option O) : Option O := if i < 0 ∨ 8 ≤ i.toNatClampNeg then none else k (i.toNatClampNeg + 1)
/-- the table of the switches -/
def swm {O : Type} (i : Int32) (k : Int32 → Option O) : Option O := if i < 0 ∨ 8 ≤ i.toNatClampNeg then none else k (if i.toNatClampNeg = 7 then 0 else nI (i.toNatClampNeg + 1))
/-- a read of a row of Forms, by codes -/
def agf {O : Type} (row : Nat → Int32) (n : Nat) (i : Int32) (k : Nat → Option O) : Option O := if (i < 0 ∨ n ≤ i.toNatClampNeg) ∨ ¬ (1 ≤ (row i.toNatClampNeg).toNatClampNeg ∧ (row i.toNatClampNeg).toNatClampNeg ≤ 8) then none else k (row i.toNatClampNeg).toNatClampNeg
def satG {O : Type} (t : List Nat) (i : Int32) (k : Int32 → Option O) : Option O := if i < 0 ∨ t.length ≤ i.toNatClampNeg then none else k (nI (t.getD i.toNatClampNeg 0))
/-- a letter of String constant c as a text of its own -/
def sub1 {O : Type} (c : Nat) (i : Int32) (k : List Nat → Option O) : Option O := if i < 0 ∨ (sTx c).length ≤ i.toNatClampNeg then none else k [(sTx c).getD i.toNatClampNeg 0]
def fX7_readShape (N : Nat) (μ : Mem) (a0 : Nat) (a1 : Nat) (a2 : Int32) : Option (Mem × Bool) :=
  lt (mset μ a0 5 a2) fun μ1 =>
  fix3 (fun self6 (x3 : Int32) (x4 : Int32) (μ5 : Mem) =>
  if (sLn a1) ≤ x4 then
  (some (μ5, true))
  else (sat a1 x4 fun v9 =>
  lt (μ5 a0 5) fun v12 =>
  jn (fun (y14 : Int32) (μ15 : Mem) =>
  if (μ15 a0 5) = v12 then
  (some (μ15, false))
  else (lt (x4 + 1) fun v20 =>
  self6 y14 v20 μ15)) fun j16 =>
  jn (fun (u22 : Unit) =>
  jn (fun (y26 : Int32) =>
  (fX7_readNumber N μ5 a0 x3 y26).bind fun r30 =>
  lt (x3 + 1) fun v31 =>
  j16 v31 r30) fun j27 =>
  if v9 = 35 then
  (j27 1)
  else (j27 2)) fun j23 =>
  if v9 = 35 then
  (j23 ())
  else (if v9 = 37 then
  (j23 ())
  else (if (μ5 a0 1) ≤ (μ5 a0 5) then
  (j16 x3 μ5)
  else (ag (μ5 (a0 + 1)) 60 (μ5 a0 5) fun v37 =>
  if v37 = v9 then
  (lt (mset μ5 a0 5 ((μ5 a0 5) + 1)) fun μ41 =>
  j16 x3 μ41)
  else (j16 x3 μ5)))))) N 0 0 μ1
def fX7_readCommand (N : Nat) (μ : Mem) (a0 : Nat) (a1 : Int32) : Option (Mem × Bool) :=
  fix3 (fun self7 (x4 : Int32) (x5 : Int32) (μ6 : Mem) =>
  if 8 ≤ x5 then
  (lt (mset μ6 a0 5 x4) fun μ10 =>
  some (μ10, false))
  else (fo x5 fun c12 =>
  (fX7_readShape N μ6 a0 c12 a1).bind fun r16 =>
  cond r16.2
  (aw r16.1 (a0 + 2) 10 (r16.1 a0 4) (nI c12) fun μ22 =>
  some (μ22, true))
  (lt (imax x4 (r16.1 a0 5)) fun v18 =>
  lt (x5 + 1) fun v20 =>
  self7 v18 v20 r16.1))) N a1 0 μ
def fX7_readAll (N : Nat) (μ : Mem) (a0 : Nat) : Option (Mem × Int32) :=
  lt (mset μ a0 4 0) fun μ1 =>
  fix3 (fun self6 (x3 : Int32) (x4 : Int32) (μ5 : Mem) =>
  if 10 < x4 then
  (some (μ5, x3))
  else ((fX7_readCommand N μ5 a0 x3).bind fun r9 =>
  cond r9.2
  (lt (mset r9.1 a0 4 x4) fun μ11 =>
  if (μ11 a0 5) = (μ11 a0 1) then
  (some (μ11, (-1)))
  else (ag (μ11 (a0 + 1)) 60 (μ11 a0 5) fun v14 =>
  if v14 = 59 then
  (lt ((μ11 a0 5) + 1) fun v18 =>
  lt (x4 + 1) fun v20 =>
  self6 v18 v20 μ11)
  else (some (μ11, (μ11 a0 5)))))
  (some (r9.1, (r9.1 a0 5))))) N 0 1 μ1
def fX10_commandFault (N : Nat) (μ : Mem) (a0 : Nat) (a1 : Nat) (a2 : Nat) : Option (Mem × Nat) :=
  swm (nI (a1 - 1)) fun v4 =>
  (if v4 = 1 then
  (ag (μ a2) 4 0 fun v8 =>
  (fX10_roomFault N μ a0 v8).bind fun r11 =>
  some (μ, r11))
  else if v4 = 2 then
  (ag (μ a2) 4 0 fun v13 =>
  ag (μ a2) 4 1 fun v16 =>
  ag (μ a2) 4 2 fun v19 =>
  ag (μ a2) 4 3 fun v22 =>
  (fX10_legFault N μ a0 v13 v16 v19 v22).bind fun r25 =>
  some (μ, r25))
  else if v4 = 3 then
  (ag (μ a2) 4 0 fun v27 =>
  ag (μ a2) 4 1 fun v30 =>
  (fX10_pileFault N μ a0 v27 v30).bind fun r33 =>
  some (μ, r33))
  else if v4 = 4 then
  (ag (μ a2) 4 0 fun v35 =>
  ag (μ a2) 4 1 fun v38 =>
  ag (μ a2) 4 2 fun v41 =>
  ag (μ a2) 4 3 fun v44 =>
  (fX10_dropFault N μ a0 v35 v38 v41 v44).bind fun r47 =>
  some (μ, r47))
  else if v4 = 5 then
  (ag (μ a2) 4 0 fun v49 =>
  ag (μ a2) 4 1 fun v52 =>
  (fX10_sendFault N μ a0 v49 v52).bind fun r55 =>
  some (r55.1, r55.2))
  else if v4 = 6 then
  (ag (μ a2) 4 0 fun v57 =>
  ag (μ a2) 4 1 fun v60 =>
  ag (μ a2) 4 2 fun v63 =>
  ag (μ a2) 4 3 fun v66 =>
  (fX10_askFault N μ a0 v57 v60 v63 v66).bind fun r69 =>
  some (μ, r69))
  else if v4 = 7 then
  (ag (μ a2) 4 0 fun v71 =>
  (fX10_takeFault N μ a0 v71).bind fun r74 =>
  some (μ, r74))
  else (ag (μ a2) 4 0 fun v75 =>
  (fX10_daysFault N μ v75).bind fun r78 =>
  some (μ, r78)))
def fX10_runCommand (N : Nat) (μ : Mem) (a0 : Nat) (a1 : Nat) (a2 : Nat) : Option Mem :=
  swm (nI (a1 - 1)) fun v4 =>
  jn (fun (μ7 : Mem) =>
  some μ7) fun j8 =>
  (if v4 = 1 then
  (ag (μ a2) 4 0 fun v12 =>
  (fX8_putRoom N μ 1 v12).bind fun r15 =>
  j8 r15.1)
  else if v4 = 2 then
  (ag (μ a2) 4 0 fun v17 =>
  ag (μ a2) 4 1 fun v20 =>
  ag (μ a2) 4 2 fun v23 =>
  ag (μ a2) 4 3 fun v26 =>
  (fX8_putLeg N μ 1 v17 v20 v23 v26).bind fun r29 =>
  j8 r29.1)
  else if v4 = 3 then
  (ag (μ a2) 4 0 fun v31 =>
  ag (μ a2) 4 1 fun v34 =>
  (fX8_putExhibit N μ 1 v31 v34).bind fun r37 =>
  j8 r37.1)
  else if v4 = 4 then
  (ag (μ a2) 4 0 fun v39 =>
  ar 5 v39 fun q42 =>
  ag (μ a2) 4 1 fun v46 =>
  ag (μ a2) 4 2 fun v49 =>
  (fX10_placeAt N μ v46 v49).bind fun r52 =>
  ag (μ a2) 4 3 fun v53 =>
  (fX6_fallOn N μ 538 ((1 + 16) + 1 + 6 * q42) r52 v53).bind fun r56 =>
  j8 r56.1)
  else if v4 = 5 then
  (ag (μ a2) 4 0 fun v58 =>
  ar 5 v58 fun q61 =>
  ag (μ a2) 4 1 fun v65 =>
  (fX10_carry N μ a0 ((1 + 16) + 1 + 6 * q61) v65).bind fun r68 =>
  j8 r68.1)
  else if v4 = 6 then
  (ag (μ a2) 4 0 fun v70 =>
  ar 5 v70 fun q73 =>
  ag (μ a2) 4 1 fun v77 =>
  ag (μ a2) 4 2 fun v80 =>
  ag (μ a2) 4 3 fun v83 =>
  (fX1_noteLoan N μ ((1 + 16) + 1 + 6 * q73) v77 v80 v83).bind fun r86 =>
  j8 r86.1)
  else if v4 = 7 then
  (ag (μ a2) 4 0 fun v88 =>
  (fX8_lend N μ 1 v88).bind fun r91 =>
  j8 r91.1)
  else (ag (μ a2) 4 0 fun v92 =>
  (fX8_letDaysPass N μ 1 v92).bind fun r95 =>
  j8 r95.1))
def fX10_runCommands (N : Nat) (μ : Mem) (a0 : Nat) : Option (Mem × Int32) :=
  fix2 (fun self3 (x1 : Int32) (μ2 : Mem) =>
  if (μ2 546 4) ≤ x1 then
  (some (μ2, (-1)))
  else (agf (μ2 (546 + 2)) 10 x1 fun c6 =>
  ar 10 x1 fun q10 =>
  (fX10_commandFault N μ2 a0 c6 ((546 + 3) + 1 + 1 * q10)).bind fun r14 =>
  if r14.2 = 0 then
  ((fX10_runCommand N r14.1 a0 c6 ((546 + 3) + 1 + 1 * q10)).bind fun r16 =>
  lt (x1 + 1) fun v17 =>
  self3 v17 r16)
  else (some (r14.1, x1)))) N 0 μ
def fX10_execute (N : Nat) (μ : Mem) (a0 : Nat) : Option (Mem × (Nat ⊕ Int32)) :=
  (fX7_readAll N μ 546).bind fun r1 =>
  lt (mset r1.1 546 1 0) fun μ2 =>
  if r1.2 = (-1) then
  ((fX4_note N μ2 95 1).bind fun r5 =>
  (fX10_runCommands N r5 a0).bind fun r6 =>
  if r6.2 = (-1) then
  ((fX4_keep N r6.1 95).bind fun r8 =>
  some (r8, .inr (r8 546 4)))
  else (lt (mset r6.1 a0 12 r6.2) fun μ9 =>
  (fX4_noted N μ9 95).bind fun r11 =>
  (fX8_copyFrom N μ9 1 r11).bind fun r13 =>
  some (r13, .inl 4)))
  else (lt (mset μ2 a0 11 r1.2) fun μ14 =>
  some (μ14, .inl 1))
def fX11_skip (N : Nat) (μ : Mem) (a0 : Nat) (a1 : List Nat) : Option Mem :=
  fix2 (fun self3 (x1 : Int32) (μ2 : Mem) =>
  jn (fun (u5 : Unit) =>
  some μ2) fun j6 =>
  if (nI a1.length) ≤ x1 then
  (j6 ())
  else (if (μ2 a0 19) = 0 then
  ((fX11_behind N μ2 a0 0).bind fun r11 =>
  satG a1 x1 fun v12 =>
  jn (fun (y15 : Bool) =>
  lt (mset μ2 a0 19 (b2i y15)) fun μ19 =>
  jn (fun (y21 : Bool) =>
  lt (mset μ19 a0 18 ((μ19 a0 18) + (b2i y21))) fun μ25 =>
  lt (x1 + 1) fun v27 =>
  self3 v27 μ25) fun j22 =>
  if (μ19 a0 19) = 0 then
  (j22 true)
  else (j22 false)) fun j16 =>
  if r11 = v12 then
  (j16 false)
  else (j16 true))
  else (j6 ()))) N 0 μ
def fX11_reads (N : Nat) (μ : Mem) (a0 : Nat) (a1 : Int32) (a2 : Nat) : Option Mem :=
  lt (5 * (μ a0 23)) fun v1 =>
  aw μ (a0 + 11) 300 v1 a1 fun μ3 =>
  lt (mset μ3 a0 23 ((μ3 a0 23) + 1)) fun μ6 =>
  fix4 (fun self12 (x8 : Int32) (x9 : Int32) (μ10 : Mem) (κ11 : Nat) =>
  gd (κ11 < 16) <|
  (if (sLn a2) ≤ x9 then
  (some μ10)
  else (sat a2 x9 fun v16 =>
  lt (v16 - 48) fun v19 =>
  (fX11_in N μ10 v19 1 2).bind fun r21 =>
  jn (fun (y22 : Int32) (μ23 : Mem) =>
  lt (x9 + 1) fun v27 =>
  self12 y22 v27 μ23 (κ11 + 1)) fun j24 =>
  cond r21
  (lt (x8 + 1) fun v34 =>
  (fX11_readsNumber N μ10 a0 v19).bind fun r36 =>
  aw r36.1 (a0 + 11) 300 v34 r36.2 fun μ37 =>
  j24 v34 μ37)
  (sub1 a2 x9 fun t30 =>
  (fX11_skip N μ10 a0 t30).bind fun μ33 =>
  j24 x8 μ33)))) N v1 0 μ6 0
def fX11_readsCommand (N : Nat) (μ : Mem) (a0 : Nat) : Option Mem :=
  if (μ a0 19) = 0 then
  ((fX11_behind N μ a0 0).bind fun r2 =>
  jn (fun (μ3 : Mem) =>
  some μ3) fun j4 =>
  jn (fun (u7 : Unit) =>
  (fX11_behind N μ a0 1).bind fun r11 =>
  jn (fun (y12 : Bool) =>
  jn (fun (y16 : Int32) =>
  jn (fun (y20 : Nat) =>
  gd (1 ≤ y20 ∧ y20 ≤ 16) <|
  ((fX11_reads N μ a0 y16 y20).bind fun r24 =>
  j4 r24)) fun j21 =>
  cond y12
  (j21 15)
  (j21 16)) fun j17 =>
  cond y12
  (j17 121)
  (j17 100)) fun j13 =>
  if r11 = 97 then
  (j13 true)
  else (j13 false)) fun j8 =>
  (if r2 = 97 then
  ((fX11_reads N μ a0 r2 13).bind fun r29 =>
  j4 r29)
  else if r2 = 98 then
  (j8 ())
  else if r2 = 99 then
  (j8 ())
  else if r2 = 100 then
  (j8 ())
  else if r2 = 101 then
  (j8 ())
  else if r2 = 102 then
  (j8 ())
  else if r2 = 103 then
  (j8 ())
  else if r2 = 104 then
  (j8 ())
  else if r2 = 105 then
  (j8 ())
  else if r2 = 106 then
  (j8 ())
  else if r2 = 107 then
  (j8 ())
  else if r2 = 108 then
  ((fX11_reads N μ a0 r2 10).bind fun r41 =>
  j4 r41)
  else if r2 = 109 then
  (j8 ())
  else if r2 = 110 then
  (j8 ())
  else if r2 = 111 then
  (j8 ())
  else if r2 = 112 then
  ((fX11_reads N μ a0 r2 11).bind fun r46 =>
  j4 r46)
  else if r2 = 113 then
  (j8 ())
  else if r2 = 114 then
  ((fX11_reads N μ a0 r2 9).bind fun r49 =>
  j4 r49)
  else if r2 = 115 then
  ((fX11_reads N μ a0 r2 12).bind fun r51 =>
  j4 r51)
  else if r2 = 116 then
  ((fX11_reads N μ a0 r2 14).bind fun r53 =>
  j4 r53)
  else (j8 ())))
  else (some μ)
def fX11_execute (N : Nat) (μ : Mem) (a0 : Nat) : Option (Mem × Int32) :=
  lt (mset μ a0 18 0) fun μ1 =>
  lt (mset μ1 a0 19 0) fun μ3 =>
  lt (mset μ3 a0 23 0) fun μ5 =>
  (fX11_readsCommand N μ5 a0).bind fun r7 =>
  fix2 (fun self10 (μ8 : Mem) (κ9 : Nat) =>
  gd (κ9 < 32) <|
  (jn (fun (u13 : Unit) =>
  jn (fun (y17 : Bool) =>
  lt (mset μ8 a0 19 (b2i y17)) fun μ21 =>
  jn (fun (y23 : Int32) =>
  lt (mset μ21 a0 20 y23) fun μ27 =>
  lt (mset μ27 a0 17 0) fun μ29 =>
  if (μ29 a0 19) = 0 then
  ((fX11_keep N μ29 a0).bind fun r32 =>
  fix2 (fun self35 (x33 : Int32) (μ34 : Mem) =>
  if (μ34 a0 23) ≤ x33 then
  ((fX11_ends N μ34 a0 (μ34 a0 23)).bind fun r38 =>
  some (r38.1, r38.2))
  else ((fX11_does N μ34 a0 x33).bind fun r39 =>
  if (r39 a0 6) ≤ 0 then
  (lt (x33 + 1) fun v41 =>
  self35 v41 r39)
  else (lt (mset r39 a0 21 x33) fun μ43 =>
  (fX11_fails N μ43 a0 2).bind fun r45 =>
  (fX11_ends N r45.1 a0 r45.2).bind fun r46 =>
  some (r46.1, r46.2)))) N 0 r32)
  else ((fX11_fails N μ29 a0 1).bind fun r47 =>
  some (r47.1, r47.2))) fun j24 =>
  if (μ21 a0 19) = 0 then
  (j24 (μ21 a0 20))
  else (j24 (μ21 a0 18))) fun j18 =>
  jn (fun (u49 : Unit) =>
  j18 true) fun j50 =>
  if (μ8 a0 19) = 0 then
  (if (μ8 a0 17) ≤ (μ8 a0 18) then
  (j18 false)
  else (j50 ()))
  else (j50 ())) fun j14 =>
  if (μ8 a0 19) = 0 then
  ((fX11_behind N μ8 a0 0).bind fun r56 =>
  if r56 = 59 then
  (lt (mset μ8 a0 18 ((μ8 a0 18) + 1)) fun μ58 =>
  (fX11_readsCommand N μ58 a0).bind fun r60 =>
  self10 r60 (κ9 + 1))
  else (j14 ()))
  else (j14 ()))) N r7 0
/-- the letters of a number that is not negative -/
def dcN (x : Int32) : Option (List Nat) := if x < 0 then none else some ((List.range (sb_dg x.toNatClampNeg)).map (sb_dec x.toNatClampNeg))
def tbS {A O : Type} (cap : Nat) (t : List Nat) (x : Option (Mem × (Nat ⊕ A))) (k : Mem → A → Option ((Mem × Nat × List Nat) × (Nat ⊕ O))) : Option ((Mem × Nat × List Nat) × (Nat ⊕ O)) := match x with
  | none => none
  | some (μ, .inl n) => some ((μ, cap, t), .inl n)
  | some (μ, .inr a) => k μ a
def fX10_writePile (N : Nat) (cap : Nat) (t : List Nat) (μ : Mem) (a0 : Nat) (a1 : Int32) : Option ((Mem × Nat × List Nat) × (Nat ⊕ Int32)) :=
  tbS cap t (fX10_existing N μ a0 a1) fun μ2 r3 =>
  fix4 (fun self10 (x6 : Int32) (κ7 : Nat) (cap8 : Nat) (t9 : List Nat) =>
  gd (κ7 < 17) <|
  (if 16 ≤ x6 then
  (some ((μ2, cap8, t9), .inr (nI t9.length)))
  else (jn (fun (cap14 : Nat) (t15 : List Nat) =>
  ag (μ2 (r3 + 1)) 16 x6 fun v19 =>
  (dcN v19).bind fun ds23 =>
  gd ((sb_cap (t15.length + ds23.length) cap14) ≤ 300) <|
  lt (x6 + 1) fun v25 =>
  self10 v25 (κ7 + 1) (sb_cap (t15.length + ds23.length) cap14) (t15 ++ ds23)) fun j16 =>
  if x6 ≤ 0 then
  (j16 cap8 t9)
  else (if (x6 - x6 / 4 * 4) = 0 then
  (gd ((sb_cap (t9.length + 1) cap8) ≤ 300) <|
  j16 (sb_cap (t9.length + 1) cap8) (t9 ++ [47]))
  else (j16 cap8 t9))))) N 0 0 cap ([])
def fX10_writeWay (N : Nat) (cap : Nat) (t : List Nat) (μ : Mem) (a0 : Nat) (a1 : Int32) (a2 : Int32) : Option ((Mem × Nat × List Nat) × (Nat ⊕ Int32)) :=
  (fX8_pairFault N μ 1 a1 a2).bind fun r1 =>
  tbS cap t (fX10_stopIf N μ r1) fun μ3 r4 =>
  (fX10_wayFault N μ3 a0 a1 a2).bind fun r6 =>
  tbS cap t (fX10_stopIf N r6.1 r6.2) fun μ8 r9 =>
  fix4 (fun self15 (x11 : Int32) (κ12 : Nat) (cap13 : Nat) (t14 : List Nat) =>
  gd (κ12 < 8) <|
  (if (μ8 520 1) ≤ x11 then
  (gd ((sb_cap (t14.length + 1) cap13) ≤ 300) <|
  (dcN (μ8 520 2)).bind fun ds21 =>
  gd ((sb_cap ((t14 ++ [61]).length + ds21.length) (sb_cap (t14.length + 1) cap13)) ≤ 300) <|
  some ((μ8, (sb_cap ((t14 ++ [61]).length + ds21.length) (sb_cap (t14.length + 1) cap13)), ((t14 ++ [61]) ++ ds21)), .inr (nI ((t14 ++ [61]) ++ ds21).length)))
  else (jn (fun (cap23 : Nat) (t24 : List Nat) =>
  ag (μ8 (520 + 1)) 6 x11 fun v28 =>
  (dcN v28).bind fun ds32 =>
  gd ((sb_cap (t24.length + ds32.length) cap23) ≤ 300) <|
  lt (x11 + 1) fun v34 =>
  self15 v34 (κ12 + 1) (sb_cap (t24.length + ds32.length) cap23) (t24 ++ ds32)) fun j25 =>
  if x11 ≤ 0 then
  (j25 cap13 t14)
  else (gd ((sb_cap (t14.length + 1) cap13) ≤ 300) <|
  j25 (sb_cap (t14.length + 1) cap13) (t14 ++ [62]))))) N 0 0 cap ([])
