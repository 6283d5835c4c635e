/-! Pure layer, 1: what a partial function answers; loops by a falling number; sums. -/
def Ok {O : Type} (x : Option O) (P : O → Prop) : Prop := ∃ r, x = some r ∧ P r
section OKS
variable {O A : Type} {P Q : O → Prop}
theorem Ok.mono {x : Option O} (h : Ok x P) (k : ∀ r, P r → Q r) : Ok x Q := by
  obtain ⟨r, e, p⟩ := h
  exact ⟨r, e, k r p⟩
theorem ok_some {r : O} (h : P r) : Ok (some r) P := ⟨r, rfl, h⟩
theorem ok_eq {x : Option O} {r : O} (h : x = some r) : Ok x (fun q => q = r) := ⟨r, h, rfl⟩
theorem ok_bind {x : Option A} {k : A → Option O} {R : A → Prop} (h : Ok x R) (hk : ∀ a, R a → Ok (k a) P) : Ok (x.bind k) P := by
  obtain ⟨a, rfl, ha⟩ := h
  exact hk a ha
theorem ok_bindE {x : Option A} {k : A → Option O} {a : A} (h : x = some a) (hk : Ok (k a) P) : Ok (x.bind k) P := by
  subst h; exact hk
theorem ok_lt {B : Type} {v : A} {k : A → Option B} {P : B → Prop} (h : Ok (k v) P) : Ok (lt v k) P := h
theorem ok_jn {B : Type} {k : A} {b : A → Option B} {P : B → Prop} (h : Ok (b k) P) : Ok (jn k b) P := h
theorem ok_if {c : Prop} [Decidable c] {x y : Option O} (ht : c → Ok x P) (hf : ¬ c → Ok y P) : Ok (if c then x else y) P := by
  by_cases h : c
  · rw [if_pos h]; exact ht h
  · rw [if_neg h]; exact hf h
theorem ok_ifT {c : Prop} [Decidable c] {x y : Option O} (h : c) (ht : Ok x P) : Ok (if c then x else y) P := by rw [if_pos h]; exact ht
theorem ok_ifF {c : Prop} [Decidable c] {x y : Option O} (h : ¬ c) (hf : Ok y P) : Ok (if c then x else y) P := by rw [if_neg h]; exact hf
theorem ok_cd {b : Bool} {x y : Option O} (ht : b = true → Ok x P) (hf : b = false → Ok y P) : Ok (cond b x y) P := by
  cases b
  · exact hf rfl
  · exact ht rfl
theorem ok_cdT {b : Bool} {x y : Option O} (h : b = true) (ht : Ok x P) : Ok (cond b x y) P := by subst h; exact ht
theorem ok_cdF {b : Bool} {x y : Option O} (h : b = false) (hf : Ok y P) : Ok (cond b x y) P := by subst h; exact hf
theorem ok_gd {c : Prop} [Decidable c] {x : Option O} (h : c) (k : Ok x P) : Ok (gd c x) P := by unfold gd; rw [if_pos h]; exact k
theorem ok_ag {row : Nat → Int32} {n : Nat} {i : Int32} {k : Int32 → Option O} (j : Nat) (hi : i = nI j) (hj : j < n) (hn : n < 2 ^ 31) (h : Ok (k (row j)) P) : Ok (ag row n i k) P := by
  subst hi
  unfold ag
  rw [if_neg (vp_in_nI hj hn), nI_clamp (Nat.lt_trans hj hn)]; exact h
theorem ok_aw {μ : Mem} {o n : Nat} {i x : Int32} {k : Mem → Option O} (j : Nat) (hi : i = nI j) (hj : j < n) (hn : n < 2 ^ 31) (h : Ok (k (mset μ o j x)) P) : Ok (aw μ o n i x k) P := by
  subst hi
  unfold aw
  rw [if_neg (vp_in_nI hj hn), nI_clamp (Nat.lt_trans hj hn)]; exact h
theorem ok_ar {n : Nat} {i : Int32} {k : Nat → Option O} (j : Nat) (hi : i = nI j) (hj : j < n) (hn : n < 2 ^ 31) (h : Ok (k j) P) : Ok (ar n i k) P := by
  subst hi
  unfold ar
  rw [if_neg (vp_in_nI hj hn), nI_clamp (Nat.lt_trans hj hn)]; exact h
/-- arraycopy's memory -/
def mcp (μ : Mem) (o q sp dp n : Nat) : Mem := fun i => if i = q then va_cpy (μ o) (μ q) sp dp n else μ i
theorem ok_acp {μ : Mem} {o n0 q n1 : Nat} {sp dp n : Int32} {k : Mem → Option O} (s d c : Nat) (hs : sp = nI s) (hd : dp = nI d) (hc : n = nI c) (h0 : s + c ≤ n0) (h1 : d + c ≤ n1) (hn0 : n0 < 2 ^ 31) (hn1 : n1 < 2 ^ 31) (h : Ok (k (mcp μ o q s d c)) P) : Ok (acp μ o n0 q n1 sp dp n k) P := by
  subst hs; subst hd; subst hc
  unfold acp
  rw [nI_clamp (n := s) (by omega), nI_clamp (n := d) (by omega), nI_clamp (n := c) (by omega)]
  rw [if_neg ?_]
  · exact h
  · rintro (h | h | h | h | h)
    · exact nI_pos (by omega) h
    · exact nI_pos (by omega) h
    · exact nI_pos (by omega) h
    · omega
    · omega
end OKS
theorem mcp_ne {μ : Mem} {o q s d c i : Nat} (h : i ≠ q) : mcp μ o q s d c i = μ i := by unfold mcp; rw [if_neg h]
theorem mcp_at {μ : Mem} {o q s d c j : Nat} : mcp μ o q s d c q j = if d ≤ j ∧ j < d + c then μ o (s + (j - d)) else μ q j := by unfold mcp va_cpy; rw [if_pos rfl]
theorem mcp_in {μ : Mem} {o q s d c j : Nat} (h1 : d ≤ j) (h2 : j < d + c) : mcp μ o q s d c q j = μ o (s + (j - d)) := by rw [mcp_at, if_pos ⟨h1, h2⟩]
theorem mcp_out {μ : Mem} {o q s d c j : Nat} (h : ¬ (d ≤ j ∧ j < d + c)) : mcp μ o q s d c q j = μ q j := by rw [mcp_at, if_neg h]
theorem mset_at (μ : Mem) (o k : Nat) (x : Int32) : mset μ o k x o k = x := by rw [mset_same]; unfold upd; rw [if_pos rfl]
theorem mset_sl (μ : Mem) (o k : Nat) (x : Int32) {j : Nat} (h : j ≠ k) : mset μ o k x o j = μ o j := by rw [mset_same]; unfold upd; rw [if_neg h]
theorem mset_if (μ : Mem) (o k : Nat) (x : Int32) (j : Nat) : mset μ o k x o j = if j = k then x else μ o j := by rw [mset_same]; rfl
theorem mset_el (μ : Mem) (o k : Nat) (x : Int32) (q j : Nat) : mset μ o k x q j = if q = o ∧ j = k then x else μ q j := by
  by_cases h : q = o
  · subst h
    rw [mset_if]
    by_cases h2 : j = k
    · rw [if_pos h2, if_pos ⟨rfl, h2⟩]
    · rw [if_neg h2, if_neg (fun z => h2 z.2)]
  · rw [mset_ne _ _ _ _ h, if_neg (fun z => h z.1)]
theorem ok_fix1 {A1 O : Type} {body : (A1 → Option O) → A1 → Option O} {Post : O → Prop} (J : Nat → A1 → Prop) (hb : ∀ (k : Nat) (self : A1 → Option O) (a1 : A1), J k a1 → (∀ (j : Nat) (b1 : A1), j < k → J j b1 → Ok (self b1) Post) → Ok (body self a1) Post) : ∀ (N k : Nat) (a1 : A1), k < N → J k a1 → Ok (fix1 body N a1) Post
  | 0, _, _, h, _ => absurd h (Nat.not_lt_zero _)
  | N + 1, k, a1, h, hJ => hb k (fix1 body N) a1 hJ (fun j b1 hj hJ2 => ok_fix1 J hb N j b1 (by omega) hJ2)
theorem ok_fix2 {A1 A2 O : Type} {body : (A1 → A2 → Option O) → A1 → A2 → Option O} {Post : O → Prop} (J : Nat → A1 → A2 → Prop) (hb : ∀ (k : Nat) (self : A1 → A2 → Option O) (a1 : A1) (a2 : A2), J k a1 a2 → (∀ (j : Nat) (b1 : A1) (b2 : A2), j < k → J j b1 b2 → Ok (self b1 b2) Post) → Ok (body self a1 a2) Post) : ∀ (N k : Nat) (a1 : A1) (a2 : A2), k < N → J k a1 a2 → Ok (fix2 body N a1 a2) Post
  | 0, _, _, _, h, _ => absurd h (Nat.not_lt_zero _)
  | N + 1, k, a1, a2, h, hJ => hb k (fix2 body N) a1 a2 hJ (fun j b1 b2 hj hJ2 => ok_fix2 J hb N j b1 b2 (by omega) hJ2)
theorem ok_fix3 {A1 A2 A3 O : Type} {body : (A1 → A2 → A3 → Option O) → A1 → A2 → A3 → Option O} {Post : O → Prop} (J : Nat → A1 → A2 → A3 → Prop) (hb : ∀ (k : Nat) (self : A1 → A2 → A3 → Option O) (a1 : A1) (a2 : A2) (a3 : A3), J k a1 a2 a3 → (∀ (j : Nat) (b1 : A1) (b2 : A2) (b3 : A3), j < k → J j b1 b2 b3 → Ok (self b1 b2 b3) Post) → Ok (body self a1 a2 a3) Post) : ∀ (N k : Nat) (a1 : A1) (a2 : A2) (a3 : A3), k < N → J k a1 a2 a3 → Ok (fix3 body N a1 a2 a3) Post
  | 0, _, _, _, _, h, _ => absurd h (Nat.not_lt_zero _)
  | N + 1, k, a1, a2, a3, h, hJ => hb k (fix3 body N) a1 a2 a3 hJ (fun j b1 b2 b3 hj hJ2 => ok_fix3 J hb N j b1 b2 b3 (by omega) hJ2)
theorem ok_fix4 {A1 A2 A3 A4 O : Type} {body : (A1 → A2 → A3 → A4 → Option O) → A1 → A2 → A3 → A4 → Option O} {Post : O → Prop} (J : Nat → A1 → A2 → A3 → A4 → Prop) (hb : ∀ (k : Nat) (self : A1 → A2 → A3 → A4 → Option O) (a1 : A1) (a2 : A2) (a3 : A3) (a4 : A4), J k a1 a2 a3 a4 → (∀ (j : Nat) (b1 : A1) (b2 : A2) (b3 : A3) (b4 : A4), j < k → J j b1 b2 b3 b4 → Ok (self b1 b2 b3 b4) Post) → Ok (body self a1 a2 a3 a4) Post) : ∀ (N k : Nat) (a1 : A1) (a2 : A2) (a3 : A3) (a4 : A4), k < N → J k a1 a2 a3 a4 → Ok (fix4 body N a1 a2 a3 a4) Post
  | 0, _, _, _, _, _, h, _ => absurd h (Nat.not_lt_zero _)
  | N + 1, k, a1, a2, a3, a4, h, hJ => hb k (fix4 body N) a1 a2 a3 a4 hJ (fun j b1 b2 b3 b4 hj hJ2 => ok_fix4 J hb N j b1 b2 b3 b4 (by omega) hJ2)
/-- a row of an object holds the numbers p -/
def ArN (μ : Mem) (o n : Nat) (p : Nat → Nat) : Prop := ∀ i, i < n → μ o i = nI (p i)
def updN (p : Nat → Nat) (k x : Nat) : Nat → Nat := fun j => if j = k then x else p j
theorem updN_at (p : Nat → Nat) (k x : Nat) : updN p k x k = x := by unfold updN; rw [if_pos rfl]
theorem updN_ne (p : Nat → Nat) (k x : Nat) {j : Nat} (h : j ≠ k) : updN p k x j = p j := by unfold updN; rw [if_neg h]
theorem ArN.set {μ : Mem} {o n : Nat} {p : Nat → Nat} (h : ArN μ o n p) (k : Nat) {x : Int32} (y : Nat) (hx : x = nI y) : ArN (mset μ o k x) o n (updN p k y) := fun i hi => by
  rw [mset_if]
  unfold updN
  by_cases e : i = k
  · rw [if_pos e, if_pos e, hx]
  · rw [if_neg e, if_neg e, h i hi]
theorem ArN.mv {μ μ' : Mem} {o n : Nat} {p : Nat → Nat} (h : ArN μ o n p) (e : μ' o = μ o) : ArN μ' o n p := fun i hi => by rw [e, h i hi]
theorem ArN.cg {μ : Mem} {o n : Nat} {p q : Nat → Nat} (h : ArN μ o n p) (e : ∀ i, i < n → p i = q i) : ArN μ o n q := fun i hi => by rw [h i hi, e i hi]
/-- the same memory but for the objects in X -/
def frm (X : Nat → Prop) (μ μ' : Mem) : Prop := ∀ q, ¬ X q → μ' q = μ q
theorem frm.rf {X : Nat → Prop} {μ : Mem} : frm X μ μ := fun _ _ => rfl
theorem frm.tr {X : Nat → Prop} {μ μ' μ'' : Mem} (h : frm X μ μ') (k : frm X μ' μ'') : frm X μ μ'' := fun q hq => (k q hq).trans (h q hq)
theorem frm.mono {X Y : Nat → Prop} {μ μ' : Mem} (h : frm X μ μ') (k : ∀ q, X q → Y q) : frm Y μ μ' := fun q hq => h q (fun z => hq (k q z))
theorem frm.set {X : Nat → Prop} {μ μ' : Mem} (h : frm X μ μ') {o : Nat} (ho : X o) (k : Nat) (x : Int32) : frm X μ (mset μ' o k x) := fun q hq => by
  have e : q ≠ o := fun e => hq (by rw [e]; exact ho)
  rw [mset_ne _ _ _ _ e, h q hq]
theorem frm.cpy {X : Nat → Prop} {μ μ' : Mem} (h : frm X μ μ') {o q : Nat} (ho : X q) (s d c : Nat) : frm X μ (mcp μ' o q s d c) := fun i hi => by
  have e : i ≠ q := fun e => hi (by rw [e]; exact ho)
  rw [mcp_ne e, h i hi]
/-- finite sums -/
def sm : Nat → (Nat → Nat) → Nat
  | 0, _ => 0
  | n + 1, f => sm n f + f n
theorem sm_cg {f g : Nat → Nat} : ∀ n, (∀ a, a < n → f a = g a) → sm n f = sm n g
  | 0, _ => rfl
  | n + 1, h => by
    show sm n f + f n = sm n g + g n
    rw [sm_cg n (fun a ha => h a (by omega)), h n (by omega)]
theorem sm_le {f g : Nat → Nat} : ∀ n, (∀ a, a < n → f a ≤ g a) → sm n f ≤ sm n g
  | 0, _ => Nat.le_refl _
  | n + 1, h => Nat.add_le_add (sm_le n (fun a ha => h a (by omega))) (h n (by omega))
theorem sm_add {f g : Nat → Nat} : ∀ n, sm n (fun a => f a + g a) = sm n f + sm n g
  | 0 => rfl
  | n + 1 => by
    show sm n (fun a => f a + g a) + (f n + g n) = sm n f + f n + (sm n g + g n)
    rw [sm_add n]; omega
theorem sm_z : ∀ n, sm n (fun _ => 0) = 0
  | 0 => rfl
  | n + 1 => by
    show sm n (fun _ => 0) + 0 = 0
    rw [sm_z n]
/-- a sum of which one member changes -/
theorem sm_one {f g : Nat → Nat} {k : Nat} : ∀ n, k < n → (∀ a, a < n → a ≠ k → f a = g a) → sm n f + g k = sm n g + f k
  | 0, h, _ => absurd h (Nat.not_lt_zero _)
  | n + 1, h, e => by
    show sm n f + f n + g k = sm n g + g n + f k
    by_cases hk : k = n
    · subst hk
      rw [sm_cg k (fun a ha => e a (by omega) (by omega))]; omega
    · have h1 := sm_one (f := f) (g := g) (k := k) n (by omega) (fun a ha hne => e a (by omega) hne)
      rw [e n (by omega) (fun z => hk z.symm)]; omega
theorem sm_sgl {f : Nat → Nat} {k : Nat} (n : Nat) (h : k < n) (e : ∀ a, a < n → a ≠ k → f a = 0) : sm n f = f k := by
  have := sm_one (f := f) (g := fun _ => 0) n h e
  rw [sm_z] at this
  omega
theorem sm_mem {f : Nat → Nat} {k : Nat} : ∀ n, k < n → f k ≤ sm n f
  | 0, h => absurd h (Nat.not_lt_zero _)
  | n + 1, h => by
    show f k ≤ sm n f + f n
    by_cases hk : k = n
    · subst hk; omega
    · have := sm_mem (f := f) (k := k) n (by omega)
      omega
theorem sm_b {f : Nat → Nat} {c : Nat} : ∀ n, (∀ a, a < n → f a ≤ c) → sm n f ≤ c * n
  | 0, _ => Nat.zero_le _
  | n + 1, h => by
    have h1 := sm_b (f := f) (c := c) n (fun a ha => h a (by omega))
    have h2 := h n (by omega)
    show sm n f + f n ≤ c * (n + 1)
    rw [Nat.mul_succ]; omega
