/-! Pure layer, 3: comparisons of numbers, neighbours. -/
section TOOLS
variable {O : Type} {P : O → Prop} {X Y : Option O} {x y : Int32}
theorem ok_le (a b : Nat) (hx : x = nI a := by rfl) (hy : y = nI b := by rfl) (ha : a < 2 ^ 31 := by omega) (hb : b < 2 ^ 31 := by omega) (f : a ≤ b → Ok X P) (g : b < a → Ok Y P) : Ok (if x ≤ y then X else Y) P := by
  subst hx; subst hy
  exact ok_if (fun h => f ((nI_leI ha hb).mp h)) (fun h => g (Nat.not_le.mp fun z => h ((nI_leI ha hb).mpr z)))
theorem ok_ltI (a b : Nat) (hx : x = nI a := by rfl) (hy : y = nI b := by rfl) (ha : a < 2 ^ 31 := by omega) (hb : b < 2 ^ 31 := by omega) (f : a < b → Ok X P) (g : b ≤ a → Ok Y P) : Ok (if x < y then X else Y) P := by
  subst hx; subst hy
  exact ok_if (fun h => f ((nI_ltI ha hb).mp h)) (fun h => g (Nat.not_lt.mp fun z => h ((nI_ltI ha hb).mpr z)))
theorem ok_eqI (a b : Nat) (hx : x = nI a := by rfl) (hy : y = nI b := by rfl) (ha : a < 2 ^ 31 := by omega) (hb : b < 2 ^ 31 := by omega) (f : a = b → Ok X P) (g : a ≠ b → Ok Y P) : Ok (if x = y then X else Y) P := by
  subst hx; subst hy
  exact ok_if (fun h => f ((nI_eq ha hb).mp h)) (fun h => g (fun z => h ((nI_eq ha hb).mpr z)))
end TOOLS
theorem imax_nI {a b : Nat} (ha : a < 2 ^ 31) (hb : b < 2 ^ 31) : imax (nI a) (nI b) = nI (max a b) := by
  unfold imax
  by_cases h : a < b
  · rw [if_pos ((nI_ltI ha hb).mpr h), Nat.max_eq_right (Nat.le_of_lt h)]
  · rw [if_neg (fun z => h ((nI_ltI ha hb).mp z)), Nat.max_eq_left (Nat.not_lt.mp h)]
theorem imin_nI {a b : Nat} (ha : a < 2 ^ 31) (hb : b < 2 ^ 31) : imin (nI a) (nI b) = nI (min a b) := by
  unfold imin
  by_cases h : b < a
  · rw [if_pos ((nI_ltI hb ha).mpr h), Nat.min_eq_right (Nat.le_of_lt h)]
  · rw [if_neg (fun z => h ((nI_ltI hb ha).mp z)), Nat.min_eq_left (Nat.not_lt.mp h)]
theorem nI_m1 {a : Nat} (ha : a < 2 ^ 31) : nI a ≠ -1 := fun e => by
  have h := congrArg Int32.toInt e
  rw [nI_toInt ha] at h
  have : (-1 : Int32).toInt = -1 := by decide
  omega
/-- a place or none (16) -/
def bv (q : Nat) : Int32 := if q = 16 then -1 else nI q
theorem bv_m1 {q : Nat} (h : q ≤ 16) : bv q = -1 ↔ q = 16 := by
  unfold bv
  by_cases e : q = 16
  · rw [if_pos e]; exact ⟨fun _ => e, fun _ => rfl⟩
  · rw [if_neg e]; exact ⟨fun z => absurd z (nI_m1 (by omega)), fun z => absurd z e⟩
theorem bv_pl {q : Nat} (h : q ≠ 16) : bv q = nI q := by unfold bv; rw [if_neg h]
theorem bv_lt {q : Nat} (h : q ≤ 16) : bv q < 0 ↔ q = 16 := by
  unfold bv
  by_cases e : q = 16
  · rw [if_pos e]; exact ⟨fun _ => e, fun _ => by decide⟩
  · rw [if_neg e]; exact ⟨fun z => absurd z (nI_pos (by omega)), fun z => absurd z e⟩
theorem bv_ge {q : Nat} (h : q ≤ 16) : 0 ≤ bv q ↔ q ≠ 16 := by
  unfold bv
  by_cases e : q = 16
  · rw [if_pos e]; exact ⟨fun z => absurd z (by decide), fun z => absurd e z⟩
  · rw [if_neg e]; exact ⟨fun _ => e, fun _ => nI_pos' (by omega)⟩
def nbC (a d : Nat) : Nat := if d = 0 then (if a % 4 = 0 then 16 else a - 1) else if d = 1 then (if a % 4 = 3 then 16 else a + 1) else if d = 2 then (if a / 4 = 0 then 16 else a - 4) else (if a / 4 = 3 then 16 else a + 4)
def nbM (a d : Nat) : Nat := if d = 0 then (if a % 4 = 3 then 16 else a + 1) else if d = 1 then (if a % 4 = 0 then 16 else a - 1) else if d = 2 then (if a / 4 = 3 then 16 else a + 4) else (if a / 4 = 0 then 16 else a - 4)
theorem beC0 : ∀ a, a < 16 → ∀ d, d < 4 → fX6_beside 0 (fun _ _ => 0) (nI a) (nI d) = some (bv (nbC a d)) := by decide +kernel
theorem beM0 : ∀ a, a < 16 → ∀ d, d < 4 → fX11_beside 0 (fun _ _ => 0) (nI a) (nI d) = some (bv (nbM a d)) := by decide +kernel
theorem beC {N : Nat} {μ : Mem} {a d : Nat} (ha : a < 16) (hd : d < 4) : fX6_beside N μ (nI a) (nI d) = some (bv (nbC a d)) := beC0 a ha d hd
theorem beM {N : Nat} {μ : Mem} {a d : Nat} (ha : a < 16) (hd : d < 4) : fX11_beside N μ (nI a) (nI d) = some (bv (nbM a d)) := beM0 a ha d hd
/-- what stands of two ways to list the neighbours -/
def nbOK (nb : Nat → Nat → Nat) : Prop := (∀ a, a < 16 → ∀ d, d < 4 → nb a d ≤ 16 ∧ nb a d ≠ a) ∧ (∀ a, a < 16 → ∀ d, d < 4 → nb a d ≠ 16 → adj a (nb a d) = 1) ∧ (∀ a, a < 16 → ∀ b, b < 16 → adj a b = 1 → nb a 0 = b ∨ nb a 1 = b ∨ nb a 2 = b ∨ nb a 3 = b)
theorem nbC_ok : nbOK nbC := ⟨by decide +kernel, by decide +kernel, by decide +kernel⟩
theorem nbM_ok : nbOK nbM := ⟨by decide +kernel, by decide +kernel, by decide +kernel⟩
/-- how often place i is among the first d neighbours of a -/
def cn (nb : Nat → Nat → Nat) (a : Nat) : Nat → Nat → Nat
  | 0, _ => 0
  | d + 1, i => cn nb a d i + if nb a d = i then 1 else 0
theorem cnC : ∀ a, a < 16 → ∀ i, i < 16 → cn nbC a 4 i = adj a i := by decide +kernel
theorem cnM : ∀ a, a < 16 → ∀ i, i < 16 → cn nbM a 4 i = adj a i := by decide +kernel
/-- the sides without a neighbour among the first d -/
def opd (nb : Nat → Nat → Nat) (a : Nat) : Nat → Nat
  | 0 => 0
  | d + 1 => opd nb a d + if nb a d = 16 then 1 else 0
theorem opC : ∀ a, a < 16 → opd nbC a 4 = opn a := by decide +kernel
theorem opM : ∀ a, a < 16 → opd nbM a 4 = 4 - sm 16 (adj a) := by decide +kernel
/-- a pile while place a topples: c grains are taken, d sides are done -/
def mid (nb : Nat → Nat → Nat) (p : Nat → Nat) (a c d : Nat) : Nat → Nat := fun i => if i = a then p i - c else p i + cn nb a d i
theorem mid_end {nb : Nat → Nat → Nat} {p : Nat → Nat} {a : Nat} (h : ∀ i, i < 16 → cn nb a 4 i = adj a i) : ∀ i, i < 16 → mid nb p a 4 4 i = topl p a i := fun i hi => by
  unfold mid topl
  rw [h i hi]
