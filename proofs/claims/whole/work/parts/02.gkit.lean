/-! Own rows, 1: the world as a table of numbers (object, place -> number); partial functions that follow the bytecode (none: out of fuel, or an index outside). -/
abbrev Mem : Type := Nat → Nat → Int32
def mset (μ : Mem) (o k : Nat) (x : Int32) : Mem := fun q => if q = o then upd (μ o) k x else μ q
def b2i (b : Bool) : Int32 := cond b 1 0
def jn {α β : Type} (k : α) (b : α → β) : β := b k
theorem jn_out {α β : Type} {k : α} {b : α → β} {z : β} (h : jn k b = z) : ∃ j : α, j = k ∧ b j = z := ⟨k, rfl, h⟩
theorem ite_t {O : Type} {P : Prop} [Decidable P] {x y z : O} (hc : P) (h : (if P then x else y) = z) : x = z := by rw [if_pos hc] at h; exact h
theorem ite_f {O : Type} {P : Prop} [Decidable P] {x y z : O} (hc : ¬ P) (h : (if P then x else y) = z) : y = z := by rw [if_neg hc] at h; exact h
theorem cond_t {O : Type} {b : Bool} {x y z : O} (hc : b = true) (h : cond b x y = z) : x = z := by rw [hc] at h; exact h
theorem cond_f {O : Type} {b : Bool} {x y z : O} (hc : b = false) (h : cond b x y = z) : y = z := by rw [hc] at h; exact h
/-- a read of an array of n places -/
def ag {O : Type} (row : Nat → Int32) (n : Nat) (i : Int32) (k : Int32 → Option O) : Option O := if i < 0 ∨ n ≤ i.toNatClampNeg then none else k (row i.toNatClampNeg)
theorem ag_out {O : Type} {row : Nat → Int32} {n : Nat} {i : Int32} {k : Int32 → Option O} {z : O} (h : ag row n i k = some z) : vp_in i n ∧ k (row i.toNatClampNeg) = some z := by
  unfold ag at h
  by_cases hc : i < 0 ∨ n ≤ i.toNatClampNeg
  · rw [if_pos hc] at h; cases h
  · rw [if_neg hc] at h; exact ⟨hc, h⟩
/-- a write of an array of n places -/
def aw {O : Type} (μ : Mem) (o n : Nat) (i x : Int32) (k : Mem → Option O) : Option O := if i < 0 ∨ n ≤ i.toNatClampNeg then none else k (mset μ o i.toNatClampNeg x)
theorem aw_out {O : Type} {μ : Mem} {o n : Nat} {i x : Int32} {k : Mem → Option O} {z : O} (h : aw μ o n i x k = some z) : vp_in i n ∧ k (mset μ o i.toNatClampNeg x) = some z := by
  unfold aw at h
  by_cases hc : i < 0 ∨ n ≤ i.toNatClampNeg
  · rw [if_pos hc] at h; cases h
  · rw [if_neg hc] at h; exact ⟨hc, h⟩
/-- a place of an array of n rows -/
def ar {O : Type} (n : Nat) (i : Int32) (k : Nat → Option O) : Option O := if i < 0 ∨ n ≤ i.toNatClampNeg then none else k i.toNatClampNeg
theorem ar_out {O : Type} {n : Nat} {i : Int32} {k : Nat → Option O} {z : O} (h : ar n i k = some z) : vp_in i n ∧ k i.toNatClampNeg = some z := by
  unfold ar at h
  by_cases hc : i < 0 ∨ n ≤ i.toNatClampNeg
  · rw [if_pos hc] at h; cases h
  · rw [if_neg hc] at h; exact ⟨hc, h⟩
theorem vp_in_lt {i : Int32} {n : Nat} (h : vp_in i n) : i.toNatClampNeg < n := Nat.not_le.mp fun q => h (Or.inr q)
/-- a condition that has to hold -/
def gd {O : Type} (P : Prop) [Decidable P] (k : Option O) : Option O := if P then k else none
theorem gd_out {O : Type} {P : Prop} [Decidable P] {k : Option O} {z : O} (h : gd P k = some z) : P ∧ k = some z := by
  unfold gd at h
  by_cases hc : P
  · rw [if_pos hc] at h; exact ⟨hc, h⟩
  · rw [if_neg hc] at h; cases h
theorem bd_out {A O : Type} {x : Option A} {k : A → Option O} {z : O} (h : x.bind k = some z) : ∃ a, x = some a ∧ k a = some z := by
  cases x with
  | none => cases h
  | some a => exact ⟨a, rfl, h⟩
/-- a call of what may throw: exception number n is .inl n -/
def tb {A O : Type} (x : Option (Mem × (Nat ⊕ A))) (k : Mem → A → Option (Mem × (Nat ⊕ O))) : Option (Mem × (Nat ⊕ O)) := match x with
  | none => none
  | some (μ, .inl n) => some (μ, .inl n)
  | some (μ, .inr a) => k μ a
theorem tb_out {A O : Type} {x : Option (Mem × (Nat ⊕ A))} {k : Mem → A → Option (Mem × (Nat ⊕ O))} {z : Mem × (Nat ⊕ O)} (h : tb x k = some z) : (∃ μ n, x = some (μ, .inl n) ∧ z = (μ, .inl n)) ∨ ∃ μ a, x = some (μ, .inr a) ∧ k μ a = some z := by
  cases x with
  | none => cases h
  | some q =>
    obtain ⟨μ, n | a⟩ := q
    · exact Or.inl ⟨μ, n, rfl, (Option.some.inj h).symm⟩
    · exact Or.inr ⟨μ, a, rfl, h⟩
def fix1 {A1 O : Type} (body : (A1 → Option O) → A1 → Option O) : Nat → A1 → Option O
  | 0 => fun _ => none
  | n + 1 => body (fix1 body n)
theorem fix1_ind {A1 O : Type} {body : (A1 → Option O) → A1 → Option O} {z : O} (P : A1 → Prop) (hb : ∀ self : A1 → Option O, (∀ (a1 : A1), self a1 = some z → P a1) → ∀ (a1 : A1), body self a1 = some z → P a1) : ∀ (n : Nat) (a1 : A1), fix1 body n a1 = some z → P a1
  | 0, _, h => (by cases h)
  | n + 1, a1, h => hb (fix1 body n) (fix1_ind P hb n) a1 h
def fix2 {A1 A2 O : Type} (body : (A1 → A2 → Option O) → A1 → A2 → Option O) : Nat → A1 → A2 → Option O
  | 0 => fun _ _ => none
  | n + 1 => body (fix2 body n)
theorem fix2_ind {A1 A2 O : Type} {body : (A1 → A2 → Option O) → A1 → A2 → Option O} {z : O} (P : A1 → A2 → Prop) (hb : ∀ self : A1 → A2 → Option O, (∀ (a1 : A1) (a2 : A2), self a1 a2 = some z → P a1 a2) → ∀ (a1 : A1) (a2 : A2), body self a1 a2 = some z → P a1 a2) : ∀ (n : Nat) (a1 : A1) (a2 : A2), fix2 body n a1 a2 = some z → P a1 a2
  | 0, _, _, h => (by cases h)
  | n + 1, a1, a2, h => hb (fix2 body n) (fix2_ind P hb n) a1 a2 h
def fix3 {A1 A2 A3 O : Type} (body : (A1 → A2 → A3 → Option O) → A1 → A2 → A3 → Option O) : Nat → A1 → A2 → A3 → Option O
  | 0 => fun _ _ _ => none
  | n + 1 => body (fix3 body n)
theorem fix3_ind {A1 A2 A3 O : Type} {body : (A1 → A2 → A3 → Option O) → A1 → A2 → A3 → Option O} {z : O} (P : A1 → A2 → A3 → Prop) (hb : ∀ self : A1 → A2 → A3 → Option O, (∀ (a1 : A1) (a2 : A2) (a3 : A3), self a1 a2 a3 = some z → P a1 a2 a3) → ∀ (a1 : A1) (a2 : A2) (a3 : A3), body self a1 a2 a3 = some z → P a1 a2 a3) : ∀ (n : Nat) (a1 : A1) (a2 : A2) (a3 : A3), fix3 body n a1 a2 a3 = some z → P a1 a2 a3
  | 0, _, _, _, h => (by cases h)
  | n + 1, a1, a2, a3, h => hb (fix3 body n) (fix3_ind P hb n) a1 a2 a3 h
def fix4 {A1 A2 A3 A4 O : Type} (body : (A1 → A2 → A3 → A4 → Option O) → A1 → A2 → A3 → A4 → Option O) : Nat → A1 → A2 → A3 → A4 → Option O
  | 0 => fun _ _ _ _ => none
  | n + 1 => body (fix4 body n)
theorem fix4_ind {A1 A2 A3 A4 O : Type} {body : (A1 → A2 → A3 → A4 → Option O) → A1 → A2 → A3 → A4 → Option O} {z : O} (P : A1 → A2 → A3 → A4 → Prop) (hb : ∀ self : A1 → A2 → A3 → A4 → Option O, (∀ (a1 : A1) (a2 : A2) (a3 : A3) (a4 : A4), self a1 a2 a3 a4 = some z → P a1 a2 a3 a4) → ∀ (a1 : A1) (a2 : A2) (a3 : A3) (a4 : A4), body self a1 a2 a3 a4 = some z → P a1 a2 a3 a4) : ∀ (n : Nat) (a1 : A1) (a2 : A2) (a3 : A3) (a4 : A4), fix4 body n a1 a2 a3 a4 = some z → P a1 a2 a3 a4
  | 0, _, _, _, _, h => (by cases h)
  | n + 1, a1, a2, a3, a4, h => hb (fix4 body n) (fix4_ind P hb n) a1 a2 a3 a4 h
def fix5 {A1 A2 A3 A4 A5 O : Type} (body : (A1 → A2 → A3 → A4 → A5 → Option O) → A1 → A2 → A3 → A4 → A5 → Option O) : Nat → A1 → A2 → A3 → A4 → A5 → Option O
  | 0 => fun _ _ _ _ _ => none
  | n + 1 => body (fix5 body n)
theorem fix5_ind {A1 A2 A3 A4 A5 O : Type} {body : (A1 → A2 → A3 → A4 → A5 → Option O) → A1 → A2 → A3 → A4 → A5 → Option O} {z : O} (P : A1 → A2 → A3 → A4 → A5 → Prop) (hb : ∀ self : A1 → A2 → A3 → A4 → A5 → Option O, (∀ (a1 : A1) (a2 : A2) (a3 : A3) (a4 : A4) (a5 : A5), self a1 a2 a3 a4 a5 = some z → P a1 a2 a3 a4 a5) → ∀ (a1 : A1) (a2 : A2) (a3 : A3) (a4 : A4) (a5 : A5), body self a1 a2 a3 a4 a5 = some z → P a1 a2 a3 a4 a5) : ∀ (n : Nat) (a1 : A1) (a2 : A2) (a3 : A3) (a4 : A4) (a5 : A5), fix5 body n a1 a2 a3 a4 a5 = some z → P a1 a2 a3 a4 a5
  | 0, _, _, _, _, _, h => (by cases h)
  | n + 1, a1, a2, a3, a4, a5, h => hb (fix5 body n) (fix5_ind P hb n) a1 a2 a3 a4 a5 h
def fix6 {A1 A2 A3 A4 A5 A6 O : Type} (body : (A1 → A2 → A3 → A4 → A5 → A6 → Option O) → A1 → A2 → A3 → A4 → A5 → A6 → Option O) : Nat → A1 → A2 → A3 → A4 → A5 → A6 → Option O
  | 0 => fun _ _ _ _ _ _ => none
  | n + 1 => body (fix6 body n)
theorem fix6_ind {A1 A2 A3 A4 A5 A6 O : Type} {body : (A1 → A2 → A3 → A4 → A5 → A6 → Option O) → A1 → A2 → A3 → A4 → A5 → A6 → Option O} {z : O} (P : A1 → A2 → A3 → A4 → A5 → A6 → Prop) (hb : ∀ self : A1 → A2 → A3 → A4 → A5 → A6 → Option O, (∀ (a1 : A1) (a2 : A2) (a3 : A3) (a4 : A4) (a5 : A5) (a6 : A6), self a1 a2 a3 a4 a5 a6 = some z → P a1 a2 a3 a4 a5 a6) → ∀ (a1 : A1) (a2 : A2) (a3 : A3) (a4 : A4) (a5 : A5) (a6 : A6), body self a1 a2 a3 a4 a5 a6 = some z → P a1 a2 a3 a4 a5 a6) : ∀ (n : Nat) (a1 : A1) (a2 : A2) (a3 : A3) (a4 : A4) (a5 : A5) (a6 : A6), fix6 body n a1 a2 a3 a4 a5 a6 = some z → P a1 a2 a3 a4 a5 a6
  | 0, _, _, _, _, _, _, h => (by cases h)
  | n + 1, a1, a2, a3, a4, a5, a6, h => hb (fix6 body n) (fix6_ind P hb n) a1 a2 a3 a4 a5 a6 h
def fix7 {A1 A2 A3 A4 A5 A6 A7 O : Type} (body : (A1 → A2 → A3 → A4 → A5 → A6 → A7 → Option O) → A1 → A2 → A3 → A4 → A5 → A6 → A7 → Option O) : Nat → A1 → A2 → A3 → A4 → A5 → A6 → A7 → Option O
  | 0 => fun _ _ _ _ _ _ _ => none
  | n + 1 => body (fix7 body n)
theorem fix7_ind {A1 A2 A3 A4 A5 A6 A7 O : Type} {body : (A1 → A2 → A3 → A4 → A5 → A6 → A7 → Option O) → A1 → A2 → A3 → A4 → A5 → A6 → A7 → Option O} {z : O} (P : A1 → A2 → A3 → A4 → A5 → A6 → A7 → Prop) (hb : ∀ self : A1 → A2 → A3 → A4 → A5 → A6 → A7 → Option O, (∀ (a1 : A1) (a2 : A2) (a3 : A3) (a4 : A4) (a5 : A5) (a6 : A6) (a7 : A7), self a1 a2 a3 a4 a5 a6 a7 = some z → P a1 a2 a3 a4 a5 a6 a7) → ∀ (a1 : A1) (a2 : A2) (a3 : A3) (a4 : A4) (a5 : A5) (a6 : A6) (a7 : A7), body self a1 a2 a3 a4 a5 a6 a7 = some z → P a1 a2 a3 a4 a5 a6 a7) : ∀ (n : Nat) (a1 : A1) (a2 : A2) (a3 : A3) (a4 : A4) (a5 : A5) (a6 : A6) (a7 : A7), fix7 body n a1 a2 a3 a4 a5 a6 a7 = some z → P a1 a2 a3 a4 a5 a6 a7
  | 0, _, _, _, _, _, _, _, h => (by cases h)
  | n + 1, a1, a2, a3, a4, a5, a6, a7, h => hb (fix7 body n) (fix7_ind P hb n) a1 a2 a3 a4 a5 a6 a7 h
def fix8 {A1 A2 A3 A4 A5 A6 A7 A8 O : Type} (body : (A1 → A2 → A3 → A4 → A5 → A6 → A7 → A8 → Option O) → A1 → A2 → A3 → A4 → A5 → A6 → A7 → A8 → Option O) : Nat → A1 → A2 → A3 → A4 → A5 → A6 → A7 → A8 → Option O
  | 0 => fun _ _ _ _ _ _ _ _ => none
  | n + 1 => body (fix8 body n)
theorem fix8_ind {A1 A2 A3 A4 A5 A6 A7 A8 O : Type} {body : (A1 → A2 → A3 → A4 → A5 → A6 → A7 → A8 → Option O) → A1 → A2 → A3 → A4 → A5 → A6 → A7 → A8 → Option O} {z : O} (P : A1 → A2 → A3 → A4 → A5 → A6 → A7 → A8 → Prop) (hb : ∀ self : A1 → A2 → A3 → A4 → A5 → A6 → A7 → A8 → Option O, (∀ (a1 : A1) (a2 : A2) (a3 : A3) (a4 : A4) (a5 : A5) (a6 : A6) (a7 : A7) (a8 : A8), self a1 a2 a3 a4 a5 a6 a7 a8 = some z → P a1 a2 a3 a4 a5 a6 a7 a8) → ∀ (a1 : A1) (a2 : A2) (a3 : A3) (a4 : A4) (a5 : A5) (a6 : A6) (a7 : A7) (a8 : A8), body self a1 a2 a3 a4 a5 a6 a7 a8 = some z → P a1 a2 a3 a4 a5 a6 a7 a8) : ∀ (n : Nat) (a1 : A1) (a2 : A2) (a3 : A3) (a4 : A4) (a5 : A5) (a6 : A6) (a7 : A7) (a8 : A8), fix8 body n a1 a2 a3 a4 a5 a6 a7 a8 = some z → P a1 a2 a3 a4 a5 a6 a7 a8
  | 0, _, _, _, _, _, _, _, _, h => (by cases h)
  | n + 1, a1, a2, a3, a4, a5, a6, a7, a8, h => hb (fix8 body n) (fix8_ind P hb n) a1 a2 a3 a4 a5 a6 a7 a8 h
def fix9 {A1 A2 A3 A4 A5 A6 A7 A8 A9 O : Type} (body : (A1 → A2 → A3 → A4 → A5 → A6 → A7 → A8 → A9 → Option O) → A1 → A2 → A3 → A4 → A5 → A6 → A7 → A8 → A9 → Option O) : Nat → A1 → A2 → A3 → A4 → A5 → A6 → A7 → A8 → A9 → Option O
  | 0 => fun _ _ _ _ _ _ _ _ _ => none
  | n + 1 => body (fix9 body n)
theorem fix9_ind {A1 A2 A3 A4 A5 A6 A7 A8 A9 O : Type} {body : (A1 → A2 → A3 → A4 → A5 → A6 → A7 → A8 → A9 → Option O) → A1 → A2 → A3 → A4 → A5 → A6 → A7 → A8 → A9 → Option O} {z : O} (P : A1 → A2 → A3 → A4 → A5 → A6 → A7 → A8 → A9 → Prop) (hb : ∀ self : A1 → A2 → A3 → A4 → A5 → A6 → A7 → A8 → A9 → Option O, (∀ (a1 : A1) (a2 : A2) (a3 : A3) (a4 : A4) (a5 : A5) (a6 : A6) (a7 : A7) (a8 : A8) (a9 : A9), self a1 a2 a3 a4 a5 a6 a7 a8 a9 = some z → P a1 a2 a3 a4 a5 a6 a7 a8 a9) → ∀ (a1 : A1) (a2 : A2) (a3 : A3) (a4 : A4) (a5 : A5) (a6 : A6) (a7 : A7) (a8 : A8) (a9 : A9), body self a1 a2 a3 a4 a5 a6 a7 a8 a9 = some z → P a1 a2 a3 a4 a5 a6 a7 a8 a9) : ∀ (n : Nat) (a1 : A1) (a2 : A2) (a3 : A3) (a4 : A4) (a5 : A5) (a6 : A6) (a7 : A7) (a8 : A8) (a9 : A9), fix9 body n a1 a2 a3 a4 a5 a6 a7 a8 a9 = some z → P a1 a2 a3 a4 a5 a6 a7 a8 a9
  | 0, _, _, _, _, _, _, _, _, _, h => (by cases h)
  | n + 1, a1, a2, a3, a4, a5, a6, a7, a8, a9, h => hb (fix9 body n) (fix9_ind P hb n) a1 a2 a3 a4 a5 a6 a7 a8 a9 h
def fix10 {A1 A2 A3 A4 A5 A6 A7 A8 A9 A10 O : Type} (body : (A1 → A2 → A3 → A4 → A5 → A6 → A7 → A8 → A9 → A10 → Option O) → A1 → A2 → A3 → A4 → A5 → A6 → A7 → A8 → A9 → A10 → Option O) : Nat → A1 → A2 → A3 → A4 → A5 → A6 → A7 → A8 → A9 → A10 → Option O
  | 0 => fun _ _ _ _ _ _ _ _ _ _ => none
  | n + 1 => body (fix10 body n)
theorem fix10_ind {A1 A2 A3 A4 A5 A6 A7 A8 A9 A10 O : Type} {body : (A1 → A2 → A3 → A4 → A5 → A6 → A7 → A8 → A9 → A10 → Option O) → A1 → A2 → A3 → A4 → A5 → A6 → A7 → A8 → A9 → A10 → Option O} {z : O} (P : A1 → A2 → A3 → A4 → A5 → A6 → A7 → A8 → A9 → A10 → Prop) (hb : ∀ self : A1 → A2 → A3 → A4 → A5 → A6 → A7 → A8 → A9 → A10 → Option O, (∀ (a1 : A1) (a2 : A2) (a3 : A3) (a4 : A4) (a5 : A5) (a6 : A6) (a7 : A7) (a8 : A8) (a9 : A9) (a10 : A10), self a1 a2 a3 a4 a5 a6 a7 a8 a9 a10 = some z → P a1 a2 a3 a4 a5 a6 a7 a8 a9 a10) → ∀ (a1 : A1) (a2 : A2) (a3 : A3) (a4 : A4) (a5 : A5) (a6 : A6) (a7 : A7) (a8 : A8) (a9 : A9) (a10 : A10), body self a1 a2 a3 a4 a5 a6 a7 a8 a9 a10 = some z → P a1 a2 a3 a4 a5 a6 a7 a8 a9 a10) : ∀ (n : Nat) (a1 : A1) (a2 : A2) (a3 : A3) (a4 : A4) (a5 : A5) (a6 : A6) (a7 : A7) (a8 : A8) (a9 : A9) (a10 : A10), fix10 body n a1 a2 a3 a4 a5 a6 a7 a8 a9 a10 = some z → P a1 a2 a3 a4 a5 a6 a7 a8 a9 a10
  | 0, _, _, _, _, _, _, _, _, _, _, h => (by cases h)
  | n + 1, a1, a2, a3, a4, a5, a6, a7, a8, a9, a10, h => hb (fix10 body n) (fix10_ind P hb n) a1 a2 a3 a4 a5 a6 a7 a8 a9 a10 h
/-! The world: K objects in a row from the address B on; shape o r: what object o is, with the numbers r. -/
def gL (sh : (Nat → Int32) → Nat → va_E) (K B : Nat) (μ : Mem) : va_W := (List.range K).map fun o => (B + o, sh (μ o) o)
abbrev gW (D : va_G) (cl : List vw_C) (sh : (Nat → Int32) → Nat → va_E) (K B : Nat) (μ : Mem) (H : Heap) : Prop := va_P D cl (gL sh K B μ) H
theorem gL_get {sh : (Nat → Int32) → Nat → va_E} {K B : Nat} {μ : Mem} {o : Nat} (h : o < K) : (gL sh K B μ)[o]? = some (B + o, sh (μ o) o) := by
  unfold gL; rw [List.getElem?_map, List.getElem?_range h]; rfl
theorem gL_some {sh : (Nat → Int32) → Nat → va_E} {K B : Nat} {μ : Mem} {o : Nat} {q : Nat × va_E} (h : (gL sh K B μ)[o]? = some q) : o < K ∧ q = (B + o, sh (μ o) o) := by
  have hl := (List.getElem?_eq_some_iff.mp h).1
  have hK : o < K := by unfold gL at hl; rw [List.length_map, List.length_range] at hl; exact hl
  rw [gL_get hK] at h
  exact ⟨hK, (Option.some.inj h).symm⟩
theorem gL_set {sh : (Nat → Int32) → Nat → va_E} {K B : Nat} {μ μ' : Mem} {o : Nat} {e : va_E} (ho : o < K) (he : sh (μ' o) o = e) (hn : ∀ q, q ≠ o → μ' q = μ q) : (gL sh K B μ).set o (B + o, e) = gL sh K B μ' := by
  apply List.ext_getElem?
  intro i
  by_cases hi : i = o
  · subst hi
    rw [List.getElem?_set_self (by unfold gL; rw [List.length_map, List.length_range]; exact ho), gL_get ho, he]
  · rw [List.getElem?_set_ne (Ne.symm hi)]
    by_cases hk : i < K
    · rw [gL_get hk, gL_get hk, hn i hi]
    · rw [List.getElem?_eq_none, List.getElem?_eq_none] <;> (unfold gL; rw [List.length_map, List.length_range]; omega)
theorem gL_D {sh : (Nat → Int32) → Nat → va_E} {K B : Nat} {μ : Mem} {A : Nat → Prop} (hA : ∀ o, o < K → A (B + o)) : va_D A (gL sh K B μ) := by
  refine ⟨fun i j p q hp hq e => ?_, fun k q hq => ?_⟩
  · obtain ⟨_, rfl⟩ := gL_some hp
    obtain ⟨_, rfl⟩ := gL_some hq
    have e : B + i = B + j := e
    omega
  · obtain ⟨hk, rfl⟩ := gL_some hq
    exact hA k hk
theorem mset_same (μ : Mem) (o k : Nat) (x : Int32) : mset μ o k x o = upd (μ o) k x := by unfold mset; rw [if_pos rfl]
theorem mset_ne (μ : Mem) (o k : Nat) (x : Int32) {q : Nat} (h : q ≠ o) : mset μ o k x q = μ q := by unfold mset; rw [if_neg h]
/-- what a field of a class is, in all that the rows ask -/
def gF (cl : List vw_C) (own : String) (index ci k : Nat) (fin : Bool) : Prop := ∃ (C : String) (T : u_T) (N : Nat) (ty : Nat → FieldType), cl[ci]? = some (C, T, N) ∧ (∀ w ∈ u_ws C T N, w ∈ WG) ∧ k < N ∧ Cond.fieldLink own index (T k).1 (T k).2.1 (T k).2.2.1 ∈ WG ∧ (∀ k, k < N → parseFieldDescriptor (T k).2.2.1 = some (ty k)) ∧ (∀ a, a < N → ∀ b, b < N → a ≠ b → (T a).2.1 ≠ (T b).2.1) ∧ (T k).2.2.2 = fin
/-- the same with the type of the field -/
def gFt (cl : List vw_C) (own : String) (index ci k : Nat) (fin : Bool) (t : FieldType) : Prop := gF cl own index ci k fin ∧ ∃ q : vw_C, cl[ci]? = some q ∧ parseFieldDescriptor (q.2.1 k).2.2.1 = some t
section GW
variable {p : Program} {l : Launch} {e : Env} {R : Room} {s : State} {m : MethodId} {args : Array Value} {below : List Frame} {meth : Method} {c : Code} {H : Heap} {locs : List Loc} {cells slots : Nat} {Q : State → Prop}
variable {cc : ByteArray} {pc : Nat} {ls : Array Slot} {rest : List Value} {D : va_G} {cl : List vw_C} {A : Nat → Prop} {tys : List (ClassId × FieldType)} {H0 : Heap} {sh : (Nat → Int32) → Nat → va_E} {K B : Nat} {μ : Mem}
/-- what stands through a walk -/
abbrev gC (p : Program) (c : Code) (cc : ByteArray) (s : State) (m : MethodId) (args : Array Value) (own : String) (D : va_G) (cl : List vw_C) (tys : List (ClassId × FieldType)) : Prop :=
  p.tables.exec = Jvm.exec ∧ c.code = cc ∧ s.vm.findClass own = some m.cls ∧ (∀ w ∈ WG, w.before args s = true) ∧ va_K D cl tys s
theorem gw_get {own : String} {index ci k o : Nat} {fin : Bool} {fs : List Value} {v : Value} (hC : gC p c cc s m args own D cl tys) (hW : gW D cl sh K B μ H) (hF : gF cl own index ci k fin) (ho : o < K) (he : sh (μ o) o = .inr (ci, fs)) (hv : fs[k]? = some v)
    (hdg : decode cc pc = .ok (.getfield index, 3)) (kk : W p l e R s m args below meth c H locs cells slots Q (F0 m (pc + 3) ls (v :: rest))) : W p l e R s m args below meth c H locs cells slots Q (F0 m pc ls (.ref (B + o) :: rest)) := by
  obtain ⟨hx, hb, hown, hts, hK⟩ := hC
  obtain ⟨C, T, N, ty, hc, hin, hk, hlink, -⟩ := hF
  exact va_get hx hb hts hin hown hK hW o (by rw [gL_get ho, he]) hc k hk (hts _ hlink) (fun _ h => h) hv hdg kk
theorem gw_put {own : String} {index ci k o : Nat} {F : (Nat → Int32) → List Value} {t : FieldType} {x : Int32} (hC : gC p c cc s m args own D cl tys) (hS : va_S A H0 H locs) (hW : gW D cl sh K B μ H) (hA : ∀ o, o < K → A (B + o)) (hF : gFt cl own index ci k false t) (ho : o < K) (he : ∀ r, sh r o = .inr (ci, F r)) (hl : k < (F (μ o)).length) (hset : (F (μ o)).set k (.int x) = F (upd (μ o) k x)) (hn : narrow t (.int x) = .int x) (hfit : fits t (.int x) = true)
    (hdg : decode cc pc = .ok (.putfield index, 3)) (kk : ∀ (H1 : Heap) (locs1 : List Loc), gW D cl sh K B (mset μ o k x) H1 → va_S A H0 H1 locs1 → W p l e R s m args below meth c H1 locs1 cells slots Q (F0 m (pc + 3) ls rest)) : W p l e R s m args below meth c H locs cells slots Q (F0 m pc ls (.int x :: .ref (B + o) :: rest)) := by
  obtain ⟨hx, hb, hown, hts, hK⟩ := hC
  obtain ⟨⟨C, T, N, ty, hc, hin, hk, hlink, hty, hnm, hfin⟩, ⟨q, hq, hd⟩⟩ := hF
  cases Option.some.inj (hc.symm.trans hq)
  have hset2 : (gL sh K B μ).set o (B + o, .inr (ci, (F (μ o)).set k (.int x))) = gL sh K B (mset μ o k x) := gL_set ho (by rw [mset_same, he, hset]) (fun q hq => mset_ne μ o k x hq)
  exact va_put hx hb hts hin ty hty hnm hown hK hW (gL_D hA) hS o (by rw [gL_get ho, he]) hc k hk (hts _ hlink) (fun _ h => h) hfin hd hn hfit hl hdg (fun H1 locs1 h1 _ h3 => kk H1 locs1 (by rw [hset2] at h1; exact h1) h3)
theorem gw_iald {own : String} {o t0 n : Nat} {cA : ClassId} {i : Int32} (hC : gC p c cc s m args own D cl tys) (hW : gW D cl sh K B μ H) (ho : o < K) (he : sh (μ o) o = .inl (cA, n, .inl (μ o))) (ht : tys[t0]? = some (cA, .int)) (hin : vp_in i n) (hdg : decode cc pc = .ok (.iaload, 1))
    (kk : W p l e R s m args below meth c H locs cells slots Q (F0 m (pc + 1) ls (.int (μ o i.toNatClampNeg) :: rest))) : W p l e R s m args below meth c H locs cells slots Q (F0 m pc ls (.int i :: .ref (B + o) :: rest)) :=
  va_iald hC.1 hC.2.1 hC.2.2.2.2 hW o t0 (by rw [gL_get ho, he]) ht hin hdg kk
theorem gw_zald {own : String} {o t0 n : Nat} {cA : ClassId} {i : Int32} (hC : gC p c cc s m args own D cl tys) (hW : gW D cl sh K B μ H) (ho : o < K) (he : sh (μ o) o = .inl (cA, n, .inl (μ o))) (ht : tys[t0]? = some (cA, .boolean)) (hin : vp_in i n) (hdg : decode cc pc = .ok (.baload, 1))
    (kk : W p l e R s m args below meth c H locs cells slots Q (F0 m (pc + 1) ls (.int (μ o i.toNatClampNeg) :: rest))) : W p l e R s m args below meth c H locs cells slots Q (F0 m pc ls (.int i :: .ref (B + o) :: rest)) :=
  va_zald hC.1 hC.2.1 hC.2.2.2.2 hW o t0 (by rw [gL_get ho, he]) ht hin hdg kk
theorem gw_cald {own : String} {o t0 n : Nat} {cA : ClassId} {i : Int32} (hC : gC p c cc s m args own D cl tys) (hW : gW D cl sh K B μ H) (ho : o < K) (he : sh (μ o) o = .inl (cA, n, .inl (μ o))) (ht : tys[t0]? = some (cA, .char)) (hin : vp_in i n) (hdg : decode cc pc = .ok (.caload, 1))
    (kk : W p l e R s m args below meth c H locs cells slots Q (F0 m (pc + 1) ls (.int (μ o i.toNatClampNeg) :: rest))) : W p l e R s m args below meth c H locs cells slots Q (F0 m pc ls (.int i :: .ref (B + o) :: rest)) :=
  va_cald hC.1 hC.2.1 hC.2.2.2.2 hW o t0 (by rw [gL_get ho, he]) ht hin hdg kk
theorem gw_aset {o n : Nat} {cA : ClassId} {k : Nat} {x : Int32} (ho : o < K) (he : ∀ r, sh r o = .inl (cA, n, .inl r)) : (gL sh K B μ).set o (B + o, .inl (cA, n, .inl (upd (μ o) k x))) = gL sh K B (mset μ o k x) :=
  gL_set ho (by rw [mset_same, he]) (fun _ hq => mset_ne μ o k x hq)
theorem gw_iast {own : String} {o t0 n : Nat} {cA : ClassId} {i x : Int32} (hC : gC p c cc s m args own D cl tys) (hS : va_S A H0 H locs) (hW : gW D cl sh K B μ H) (hA : ∀ o, o < K → A (B + o)) (ho : o < K) (he : ∀ r, sh r o = .inl (cA, n, .inl r)) (ht : tys[t0]? = some (cA, .int)) (hin : vp_in i n) (hdg : decode cc pc = .ok (.iastore, 1))
    (kk : ∀ (H1 : Heap) (locs1 : List Loc), gW D cl sh K B (mset μ o i.toNatClampNeg x) H1 → va_S A H0 H1 locs1 → W p l e R s m args below meth c H1 locs1 cells slots Q (F0 m (pc + 1) ls rest)) : W p l e R s m args below meth c H locs cells slots Q (F0 m pc ls (.int x :: .int i :: .ref (B + o) :: rest)) :=
  va_iast hC.1 hC.2.1 hC.2.2.2.2 hW (gL_D hA) hS o t0 (by rw [gL_get ho, he]) ht hin hdg (fun H1 locs1 h1 _ h3 => kk H1 locs1 (by rw [gw_aset ho he] at h1; exact h1) h3)
theorem gw_zast {own : String} {o t0 n : Nat} {cA : ClassId} {i x : Int32} (hC : gC p c cc s m args own D cl tys) (hS : va_S A H0 H locs) (hW : gW D cl sh K B μ H) (hA : ∀ o, o < K → A (B + o)) (ho : o < K) (he : ∀ r, sh r o = .inl (cA, n, .inl r)) (ht : tys[t0]? = some (cA, .boolean)) (hin : vp_in i n) (hdg : decode cc pc = .ok (.bastore, 1))
    (kk : ∀ (H1 : Heap) (locs1 : List Loc), gW D cl sh K B (mset μ o i.toNatClampNeg (vp_nar .boolean x)) H1 → va_S A H0 H1 locs1 → W p l e R s m args below meth c H1 locs1 cells slots Q (F0 m (pc + 1) ls rest)) : W p l e R s m args below meth c H locs cells slots Q (F0 m pc ls (.int x :: .int i :: .ref (B + o) :: rest)) :=
  va_zast hC.1 hC.2.1 hC.2.2.2.2 hW (gL_D hA) hS o t0 (by rw [gL_get ho, he]) ht hin hdg (fun H1 locs1 h1 _ h3 => kk H1 locs1 (by rw [gw_aset ho he] at h1; exact h1) h3)
theorem gw_cast {own : String} {o t0 n : Nat} {cA : ClassId} {i x : Int32} (hC : gC p c cc s m args own D cl tys) (hS : va_S A H0 H locs) (hW : gW D cl sh K B μ H) (hA : ∀ o, o < K → A (B + o)) (ho : o < K) (he : ∀ r, sh r o = .inl (cA, n, .inl r)) (ht : tys[t0]? = some (cA, .char)) (hin : vp_in i n) (hdg : decode cc pc = .ok (.castore, 1))
    (kk : ∀ (H1 : Heap) (locs1 : List Loc), gW D cl sh K B (mset μ o i.toNatClampNeg (vp_nar .char x)) H1 → va_S A H0 H1 locs1 → W p l e R s m args below meth c H1 locs1 cells slots Q (F0 m (pc + 1) ls rest)) : W p l e R s m args below meth c H locs cells slots Q (F0 m pc ls (.int x :: .int i :: .ref (B + o) :: rest)) :=
  va_cast hC.1 hC.2.1 hC.2.2.2.2 hW (gL_D hA) hS o t0 (by rw [gL_get ho, he]) ht hin hdg (fun H1 locs1 h1 _ h3 => kk H1 locs1 (by rw [gw_aset ho he] at h1; exact h1) h3)
/-- a read of an array of references -/
theorem gw_aald {own : String} {o t0 n : Nat} {cA : ClassId} {ty : FieldType} {f : Nat → Option Nat} {i : Int32} {v : Value} (hC : gC p c cc s m args own D cl tys) (hW : gW D cl sh K B μ H) (ho : o < K) (he : sh (μ o) o = .inl (cA, n, .inr (.inr (.inr (.inr f))))) (ht : tys[t0]? = some (cA, ty)) (hty : ty.isReference = true) (hin : vp_in i n) (hv : va_rf (f i.toNatClampNeg) = v) (hdg : decode cc pc = .ok (.aaload, 1))
    (kk : W p l e R s m args below meth c H locs cells slots Q (F0 m (pc + 1) ls (v :: rest))) : W p l e R s m args below meth c H locs cells slots Q (F0 m pc ls (.int i :: .ref (B + o) :: rest)) := by
  subst hv
  have hP := hW o _ (by rw [gL_get ho, he])
  exact W.aald (v := va_rf (f i.toNatClampNeg)) (ty := ty) hC.1 hC.2.1 hP ((hC.2.2.2.2.2 t0 _ ht).1 n (fun j => va_rf (f j))) hty (fun q => by cases q) (by show ¬ (i < 0 ∨ (arrV _ _ _).slots.size ≤ _); rw [arrV_size]; exact hin) (by show (arrV _ _ _).slots[_]? = _; rw [arrV_read _ _ (vp_in_lt hin)]) rfl rfl hdg kk
theorem gw_alen {own : String} {o t0 : Nat} {cA : ClassId} {x : vp_A} {ty : FieldType} {v : Int32} (hC : gC p c cc s m args own D cl tys) (hW : gW D cl sh K B μ H) (ho : o < K) (he : sh (μ o) o = .inl (cA, x)) (ht : tys[t0]? = some (cA, ty)) (hv : Int32.ofNat x.1 = v) (hdg : decode cc pc = .ok (.arraylength, 1))
    (kk : W p l e R s m args below meth c H locs cells slots Q (F0 m (pc + 1) ls (.int v :: rest))) : W p l e R s m args below meth c H locs cells slots Q (F0 m pc ls (.ref (B + o) :: rest)) :=
  va_alen hC.1 hC.2.1 hC.2.2.2.2 hW o t0 (by rw [gL_get ho, he]) ht hv hdg kk
theorem gw_if_eqZ {b : Bool} {off : Int} {tgt : Nat} (hx : p.tables.exec = Jvm.exec) (hb : c.code = cc) (hdg : decode cc pc = .ok (.ifCond .eq off, 3)) (ht : (pc : Int) + off = (tgt : Int)) (kt : b = false → W p l e R s m args below meth c H locs cells slots Q (F0 m tgt ls rest)) (kf : b = true → W p l e R s m args below meth c H locs cells slots Q (F0 m (pc + 3) ls rest)) : W p l e R s m args below meth c H locs cells slots Q (F0 m pc ls (.int (b2i b) :: rest)) :=
  lv_if_eq hx hb hdg ht (fun h => kt (by cases b; rfl; exact absurd h (by decide))) (fun h => kf (by cases b; exact absurd rfl h; rfl))
theorem gw_if_neZ {b : Bool} {off : Int} {tgt : Nat} (hx : p.tables.exec = Jvm.exec) (hb : c.code = cc) (hdg : decode cc pc = .ok (.ifCond .ne off, 3)) (ht : (pc : Int) + off = (tgt : Int)) (kt : b = true → W p l e R s m args below meth c H locs cells slots Q (F0 m tgt ls rest)) (kf : b = false → W p l e R s m args below meth c H locs cells slots Q (F0 m (pc + 3) ls rest)) : W p l e R s m args below meth c H locs cells slots Q (F0 m pc ls (.int (b2i b) :: rest)) :=
  lv_if_ne hx hb hdg ht (fun h => kt (by cases b; exact absurd rfl h; rfl)) (fun h => kf (by cases b; rfl; exact absurd h (by decide)))
end GW
theorem nar_b (b : Bool) : narrow .boolean (.int (b2i b)) = .int (b2i b) := by cases b <;> rfl
theorem fit_b (b : Bool) : fits .boolean (.int (b2i b)) = true := by cases b <;> rfl
