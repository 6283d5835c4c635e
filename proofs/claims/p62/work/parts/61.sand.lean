/-! Pure layer, 2: piles that topple. Places 0 .. 15; the order of topplings does not matter; a bound on their number; lasting piles. -/
def adj (a b : Nat) : Nat := if (a / 4 = b / 4 ∧ (a % 4 + 1 = b % 4 ∨ b % 4 + 1 = a % 4)) ∨ (a % 4 = b % 4 ∧ (a / 4 + 1 = b / 4 ∨ b / 4 + 1 = a / 4)) then 1 else 0
def topl (p : Nat → Nat) (a : Nat) : Nat → Nat := fun i => if i = a then p i - 4 else p i + adj a i
def legal : List Nat → (Nat → Nat) → Prop
  | [], _ => True
  | a :: l, p => a < 16 ∧ 4 ≤ p a ∧ legal l (topl p a)
def runT : List Nat → (Nat → Nat) → (Nat → Nat)
  | [], p => p
  | a :: l, p => runT l (topl p a)
theorem adj_self : ∀ a, a < 16 → adj a a = 0 := by decide +kernel
theorem adj_sym : ∀ a, a < 16 → ∀ b, b < 16 → adj a b = adj b a := by decide +kernel
theorem adj_le (a b : Nat) : adj a b ≤ 1 := by unfold adj; split <;> omega
theorem legal_lt : ∀ (l : List Nat) (p : Nat → Nat), legal l p → ∀ a ∈ l, a < 16
  | [], _, _, _, h => absurd h (List.not_mem_nil)
  | b :: l, p, hl, a, h => by
    rcases List.mem_cons.mp h with rfl | h
    · exact hl.1
    · exact legal_lt l _ hl.2.2 a h
theorem legal_app : ∀ (l1 l2 : List Nat) (p : Nat → Nat), legal (l1 ++ l2) p ↔ legal l1 p ∧ legal l2 (runT l1 p)
  | [], l2, p => by show legal l2 p ↔ True ∧ legal l2 p; simp
  | a :: l1, l2, p => by
    show (a < 16 ∧ 4 ≤ p a ∧ legal (l1 ++ l2) (topl p a)) ↔ (a < 16 ∧ 4 ≤ p a ∧ legal l1 (topl p a)) ∧ legal l2 (runT l1 (topl p a))
    rw [legal_app l1 l2]
    constructor
    · rintro ⟨h1, h2, h3, h4⟩; exact ⟨⟨h1, h2, h3⟩, h4⟩
    · rintro ⟨⟨h1, h2, h3⟩, h4⟩; exact ⟨h1, h2, h3, h4⟩
theorem runT_app : ∀ (l1 l2 : List Nat) (p : Nat → Nat), runT (l1 ++ l2) p = runT l2 (runT l1 p)
  | [], _, _ => rfl
  | a :: l1, l2, p => runT_app l1 l2 (topl p a)
/-- how often place a stands in a row of topplings -/
def cnt (l : List Nat) (a : Nat) : Nat := l.count a
theorem cnt_nil (a : Nat) : cnt [] a = 0 := rfl
theorem cnt_cons (b : Nat) (l : List Nat) (a : Nat) : cnt (b :: l) a = cnt l a + if a = b then 1 else 0 := by
  unfold cnt
  rw [List.count_cons]
  by_cases h : a = b
  · subst h; simp
  · rw [if_neg h, if_neg (by simp; exact fun z => h z.symm)]
theorem cnt_app (l1 l2 : List Nat) (a : Nat) : cnt (l1 ++ l2) a = cnt l1 a + cnt l2 a := List.count_append
theorem cnt_len : ∀ (l : List Nat), (∀ a ∈ l, a < 16) → sm 16 (cnt l) = l.length
  | [], _ => by
    show sm 16 (fun a => cnt [] a) = 0
    rw [sm_cg 16 (g := fun _ => 0) (fun a _ => cnt_nil a), sm_z]
  | b :: l, h => by
    have hb := h b (List.mem_cons_self ..)
    have ih := cnt_len l (fun a ha => h a (List.mem_cons_of_mem _ ha))
    have := sm_one (f := cnt (b :: l)) (g := cnt l) (k := b) 16 hb (fun a _ hn => by rw [cnt_cons, if_neg hn]; rfl)
    rw [cnt_cons, if_pos rfl, ih] at this
    show sm 16 (cnt (b :: l)) = l.length + 1
    omega
/-- what the topplings u bring to place i from its neighbours -/
def inn (u : Nat → Nat) (i : Nat) : Nat := sm 16 (fun b => adj b i * u b)
theorem inn_cg {u v : Nat → Nat} {i : Nat} (h : ∀ b, b < 16 → u b = v b) : inn u i = inn v i := sm_cg 16 (fun b hb => by rw [h b hb])
theorem inn_le {u v : Nat → Nat} {i : Nat} (h : ∀ b, b < 16 → u b ≤ v b) : inn u i ≤ inn v i := sm_le 16 (fun b hb => Nat.mul_le_mul_left _ (h b hb))
theorem inn_one {u v : Nat → Nat} {a i : Nat} (ha : a < 16) (h : ∀ b, b < 16 → b ≠ a → u b = v b) (h1 : u a = v a + 1) : inn u i = inn v i + adj a i := by
  have := sm_one (f := fun b => adj b i * u b) (g := fun b => adj b i * v b) (k := a) 16 ha (fun b hb hn => by rw [h b hb hn])
  unfold inn
  rw [h1, Nat.mul_add] at this
  omega
theorem least : ∀ (l : List Nat) (p u : Nat → Nat), legal l p → (∀ i, i < 16 → p i + inn u i ≤ 3 + 4 * u i) → ∀ a, a < 16 → cnt l a ≤ u a
  | [], _, _, _, _, a, _ => by rw [cnt_nil]; exact Nat.zero_le _
  | b :: l, p, u, hl, hs, a, ha => by
    obtain ⟨hb, h4, hl⟩ := hl
    have hub : 1 ≤ u b := by have := hs b hb; omega
    have e0 : u b = updN u b (u b - 1) b + 1 := by rw [updN_at]; omega
    have key : ∀ i, inn u i = inn (updN u b (u b - 1)) i + adj b i := fun i => inn_one hb (fun c _ hn => (updN_ne _ _ _ hn).symm) e0
    have ih := least l (topl p b) (updN u b (u b - 1)) hl (fun i hi => by
      have hk := key i
      have hsi := hs i hi
      unfold topl
      by_cases e : i = b
      · subst e
        rw [if_pos rfl, updN_at]
        rw [adj_self i hi] at hk
        omega
      · rw [if_neg e, updN_ne _ _ _ e]; omega) a ha
    rw [cnt_cons]
    by_cases e : a = b
    · subst e
      rw [updN_at] at ih
      rw [if_pos rfl]; omega
    · rw [updN_ne _ _ _ e] at ih
      rw [if_neg e]; omega
theorem conserve : ∀ (l : List Nat) (p : Nat → Nat), legal l p → ∀ i, i < 16 → runT l p i + 4 * cnt l i = p i + inn (cnt l) i
  | [], p, _, i, _ => by
    have : inn (cnt []) i = 0 := by
      unfold inn
      rw [sm_cg 16 (g := fun _ => 0) (fun b _ => by rw [cnt_nil, Nat.mul_zero]), sm_z]
    rw [this, cnt_nil]; rfl
  | b :: l, p, hl, i, hi => by
    obtain ⟨hb, h4, hl⟩ := hl
    have ih := conserve l (topl p b) hl i hi
    have hk : inn (cnt (b :: l)) i = inn (cnt l) i + adj b i := inn_one hb (fun c _ hn => by rw [cnt_cons, if_neg hn]; rfl) (by rw [cnt_cons, if_pos rfl])
    show runT l (topl p b) i + 4 * cnt (b :: l) i = p i + inn (cnt (b :: l)) i
    rw [hk, cnt_cons]
    unfold topl at ih ⊢
    by_cases e : i = b
    · subst e
      rw [if_pos rfl] at ih ⊢
      have := adj_self i hi
      omega
    · rw [if_neg e] at ih ⊢
      omega
def stab (p : Nat → Nat) : Prop := ∀ i, i < 16 → p i ≤ 3
/-- two rows of topplings that end stable are the same but for the order -/
theorem abel_cnt {p : Nat → Nat} {l1 l2 : List Nat} (h1 : legal l1 p) (s1 : stab (runT l1 p)) (h2 : legal l2 p) (s2 : stab (runT l2 p)) : ∀ a, a < 16 → cnt l1 a = cnt l2 a := fun a ha => by
  have k1 := least l2 p (cnt l1) h2 (fun i hi => by have := conserve l1 p h1 i hi; have := s1 i hi; omega) a ha
  have k2 := least l1 p (cnt l2) h1 (fun i hi => by have := conserve l2 p h2 i hi; have := s2 i hi; omega) a ha
  omega
theorem abel_len {p : Nat → Nat} {l1 l2 : List Nat} (h1 : legal l1 p) (s1 : stab (runT l1 p)) (h2 : legal l2 p) (s2 : stab (runT l2 p)) : l1.length = l2.length := by
  rw [← cnt_len l1 (legal_lt l1 p h1), ← cnt_len l2 (legal_lt l2 p h2)]
  exact sm_cg 16 (abel_cnt h1 s1 h2 s2)
theorem abel_run {p : Nat → Nat} {l1 l2 : List Nat} (h1 : legal l1 p) (s1 : stab (runT l1 p)) (h2 : legal l2 p) (s2 : stab (runT l2 p)) : ∀ i, i < 16 → runT l1 p i = runT l2 p i := fun i hi => by
  have e1 := conserve l1 p h1 i hi
  have e2 := conserve l2 p h2 i hi
  have e3 := abel_cnt h1 s1 h2 s2 i hi
  have e4 : inn (cnt l1) i = inn (cnt l2) i := inn_cg (abel_cnt h1 s1 h2 s2)
  omega
/-- a bound -/
def wgt (i : Nat) : Nat := if i % 4 = 0 ∨ i % 4 = 3 then 4 else 6
def pot (p : Nat → Nat) : Nat := sm 16 (fun i => wgt i * p i)
theorem wgt_ok : ∀ a, a < 16 → sm 16 (fun i => wgt i * adj a i) + 2 ≤ 4 * wgt a := by decide +kernel
theorem pot_topl {p : Nat → Nat} {a : Nat} (ha : a < 16) (h4 : 4 ≤ p a) : pot (topl p a) + 2 ≤ pot p := by
  have h1 := sm_one (f := fun i => wgt i * topl p a i) (g := fun i => wgt i * (p i + adj a i)) (k := a) 16 ha (fun i _ hn => by unfold topl; rw [if_neg hn])
  have h2 : sm 16 (fun i => wgt i * (p i + adj a i)) = pot p + sm 16 (fun i => wgt i * adj a i) := by
    exact (sm_cg 16 (fun i _ => Nat.mul_add _ _ _)).trans (sm_add 16)
  have h3 := wgt_ok a ha
  have h5 : topl p a a = p a - 4 := by unfold topl; rw [if_pos rfl]
  rw [h2, h5, adj_self a ha, Nat.add_zero] at h1
  have h6 : wgt a * p a = wgt a * (p a - 4) + 4 * wgt a := by
    rw [Nat.mul_comm 4, ← Nat.mul_add]; congr 1; omega
  unfold pot at h1 ⊢
  omega
theorem pot_le {p : Nat → Nat} : pot p ≤ 6 * sm 16 p := by
  have h : ∀ n, sm n (fun i => wgt i * p i) ≤ 6 * sm n p := fun n => by
    induction n with
    | zero => exact Nat.le_refl _
    | succ n ih =>
      show sm n (fun i => wgt i * p i) + wgt n * p n ≤ 6 * (sm n p + p n)
      have : wgt n * p n ≤ 6 * p n := Nat.mul_le_mul_right _ (by unfold wgt; split <;> omega)
      omega
  exact h 16
/-- grains never grow -/
theorem deg_le : ∀ a, a < 16 → sm 16 (adj a) ≤ 4 := by decide +kernel
def grs (p : Nat → Nat) : Nat := sm 16 p
theorem grs_topl {p : Nat → Nat} {a : Nat} (ha : a < 16) (h4 : 4 ≤ p a) : grs (topl p a) + (4 - sm 16 (adj a)) = grs p := by
  have h1 := sm_one (f := topl p a) (g := fun i => p i + adj a i) (k := a) 16 ha (fun i _ hn => by unfold topl; rw [if_neg hn])
  have h2 : sm 16 (fun i => p i + adj a i) = grs p + sm 16 (adj a) := sm_add 16
  have h3 := deg_le a ha
  have h5 : topl p a a = p a - 4 := by unfold topl; rw [if_pos rfl]
  rw [h2, h5, adj_self a ha, Nat.add_zero] at h1
  unfold grs at h1 ⊢
  omega
theorem grs_run : ∀ (l : List Nat) (p : Nat → Nat), legal l p → grs (runT l p) ≤ grs p
  | [], _, _ => Nat.le_refl _
  | b :: l, p, h => by
    have h1 := grs_run l (topl p b) h.2.2
    have h2 := grs_topl h.1 h.2.1
    show grs (runT l (topl p b)) ≤ grs p
    omega
theorem pot_run : ∀ (l : List Nat) (p : Nat → Nat), legal l p → pot (runT l p) + 2 * l.length ≤ pot p
  | [], _, _ => Nat.le_refl _
  | b :: l, p, h => by
    have h1 := pot_run l (topl p b) h.2.2
    have h2 := pot_topl h.1 h.2.1
    show pot (runT l (topl p b)) + 2 * (l.length + 1) ≤ pot p
    omega
/-! Lasting piles: no set of places (given by a Boolean function) that is not empty, in which each place has fewer grains than neighbours in it. -/
def nbs (F : Nat → Bool) (i : Nat) : Nat := sm 16 (fun b => adj b i * (F b).toNat)
def fsc (p : Nat → Nat) (F : Nat → Bool) : Prop := (∃ i, i < 16 ∧ F i = true) ∧ ∀ i, i < 16 → F i = true → p i < nbs F i
def lasting (p : Nat → Nat) : Prop := ¬ ∃ F, fsc p F
theorem nbs_mono {F G : Nat → Bool} {i : Nat} (h : ∀ b, b < 16 → F b = true → G b = true) : nbs F i ≤ nbs G i := sm_le 16 (fun b hb => Nat.mul_le_mul_left _ (by
  cases hF : F b
  · exact Nat.zero_le _
  · rw [h b hb hF]; exact Nat.le_refl _))
theorem nbs_all : ∀ i, i < 16 → nbs (fun _ => true) i ≤ 4 := by decide +kernel
theorem nbs_or {F G : Nat → Bool} {i : Nat} (h : ∀ b, b < 16 → (F b).toNat + (G b).toNat = 1) : nbs F i + nbs G i = nbs (fun _ => true) i := by
  unfold nbs
  rw [← sm_add]
  exact sm_cg 16 (fun b hb => by
    have := h b hb
    rw [← Nat.mul_add, this]; rfl)
/-- each place with as many grains more as it has sides without a neighbour -/
def opn (i : Nat) : Nat := 4 - nbs (fun _ => true) i
theorem inn_bool (F : Nat → Bool) (i : Nat) : inn (fun b => (F b).toNat) i = nbs F i := rfl
/-- Dhar: after the open sides' grains each place topples at most once, and each once just when the pile lasts -/
theorem dhar_le {p : Nat → Nat} (hp : stab p) {l : List Nat} (hl : legal l (fun i => p i + opn i)) : ∀ a, a < 16 → cnt l a ≤ 1 :=
  least l _ (fun _ => 1) hl (fun i hi => by
    have h1 : inn (fun _ => 1) i = nbs (fun _ => true) i := rfl
    have h2 := nbs_all i hi
    have h3 := hp i hi
    show p i + opn i + inn (fun _ => 1) i ≤ 3 + 4 * 1
    rw [h1]
    unfold opn
    omega)
/-- a set without a first place to topple stays -/
theorem dhar_fsc {p : Nat → Nat} {F : Nat → Bool} (hF : ∀ i, i < 16 → F i = true → p i < nbs F i) {l : List Nat} (hl : legal l (fun i => p i + opn i)) (h1 : ∀ a, a < 16 → cnt l a ≤ 1) : ∀ a, a < 16 → F a = true → cnt l a = 0 := by
  have main : ∀ (l : List Nat) (pre : List Nat) (q : Nat → Nat), legal pre (fun i => p i + opn i) → q = runT pre (fun i => p i + opn i) → legal l q → (∀ a, a < 16 → cnt (pre ++ l) a ≤ 1) → (∀ a, a < 16 → F a = true → cnt pre a = 0) → ∀ a, a < 16 → F a = true → cnt (pre ++ l) a = 0 := by
    intro l
    induction l with
    | nil => intro pre q _ _ _ _ hz a ha hFa; rw [List.append_nil]; exact hz a ha hFa
    | cons b l ih =>
      intro pre q hpre hq hl hle hz
      have hl' := hl
      obtain ⟨hb, h4, hl2⟩ := hl
      have hbF : F b = false := by
        cases hFb : F b
        · rfl
        · exfalso
          have hc := conserve pre _ hpre b hb
          have hzb := hz b hb hFb
          rw [hq] at h4
          rw [hzb] at hc
          have hin : inn (cnt pre) b ≤ nbs (fun c => !F c) b := by
            unfold inn nbs
            refine sm_le 16 (fun c hc => Nat.mul_le_mul_left _ ?_)
            show cnt pre c ≤ (!F c).toNat
            cases hFc : F c
            · have h2 := hle c hc
              rw [cnt_app] at h2
              show cnt pre c ≤ 1
              omega
            · rw [hz c hc hFc]; exact Nat.zero_le _
          have hor : nbs F b + nbs (fun c => !F c) b = nbs (fun _ => true) b := nbs_or (fun c _ => by cases F c <;> rfl)
          have hFp := hF b hb hFb
          have hall := nbs_all b hb
          have : opn b = 4 - nbs (fun _ => true) b := rfl
          omega
      have := ih (pre ++ [b]) (topl q b) ((legal_app _ _ _).mpr ⟨hpre, by rw [← hq]; exact ⟨hb, h4, True.intro⟩⟩) (by rw [runT_app, ← hq]; rfl) hl2 (by rw [List.append_assoc]; exact hle) (fun a ha hFa => by
        rw [cnt_app, hz a ha hFa, cnt_cons, cnt_nil, if_neg (fun e => by subst e; rw [hbF] at hFa; cases hFa)])
      rw [List.append_assoc] at this
      exact this
  have := main l [] _ True.intro rfl hl h1 (fun a _ _ => cnt_nil a)
  exact this
theorem dhar {p : Nat → Nat} (hp : stab p) {l : List Nat} (hl : legal l (fun i => p i + opn i)) (hs : stab (runT l (fun i => p i + opn i))) : (∀ a, a < 16 → cnt l a = 1) ↔ lasting p := by
  have hle := dhar_le hp hl
  constructor
  · rintro h ⟨F, ⟨i, hi, hFi⟩, hF⟩
    have := dhar_fsc hF hl hle i hi hFi
    rw [h i hi] at this
    cases this
  · intro h a ha
    have h1 := hle a ha
    by_cases h0 : cnt l a = 1
    · exact h0
    · exfalso
      refine h ⟨fun c => cnt l c == 0, ⟨a, ha, ?_⟩, fun i hi hFi => ?_⟩
      · show (cnt l a == 0) = true
        rw [beq_iff_eq]; omega
      · have hz : cnt l i = 0 := beq_iff_eq.mp hFi
        have hc := conserve l _ hl i hi
        have hst := hs i hi
        have e1 : inn (cnt l) i = nbs (fun c => !(cnt l c == 0)) i := by
          unfold inn nbs
          refine sm_cg 16 (fun c hc => ?_)
          have := hle c hc
          show adj c i * cnt l c = adj c i * (!(cnt l c == 0)).toNat
          congr 1
          cases hb : (cnt l c == 0)
          · have hn : cnt l c ≠ 0 := fun e => by rw [e] at hb; cases hb
            show cnt l c = 1
            omega
          · rw [beq_iff_eq.mp hb]; rfl
        have hor : nbs (fun c => cnt l c == 0) i + nbs (fun c => !(cnt l c == 0)) i = nbs (fun _ => true) i := nbs_or (fun c _ => by cases (cnt l c == 0) <;> rfl)
        have hall := nbs_all i hi
        have : opn i = 4 - nbs (fun _ => true) i := rfl
        rw [hz, e1] at hc
        omega
/-! Burning: a set that is left, from which places with enough grains are taken; when nothing can be taken, it is empty just when the pile lasts. -/
/-- all sets without a place to take lie in what is left -/
def burnI (p : Nat → Nat) (left : Nat → Bool) : Prop := ∀ F, (∀ i, i < 16 → F i = true → p i < nbs F i) → ∀ i, i < 16 → F i = true → left i = true
theorem burnI_all (p : Nat → Nat) : burnI p (fun _ => true) := fun _ _ _ _ _ => rfl
theorem burnI_take {p : Nat → Nat} {left left' : Nat → Bool} {a : Nat} (h : burnI p left) (hp : nbs left a ≤ p a) (e : ∀ i, i < 16 → i ≠ a → left' i = left i) (ha : a < 16) : burnI p left' := fun F hF i hi hFi => by
  by_cases hia : i = a
  · subst hia
    exfalso
    have h1 := hF i hi hFi
    have h2 : nbs F i ≤ nbs left i := nbs_mono (fun b hb hFb => h F hF b hb hFb)
    omega
  · rw [e i hi hia]; exact h F hF i hi hFi
theorem burn_end {p : Nat → Nat} {left : Nat → Bool} (h : burnI p left) (hf : ∀ i, i < 16 → left i = true → p i < nbs left i) : (∀ i, i < 16 → left i = false) ↔ lasting p := by
  constructor
  · rintro h0 ⟨F, ⟨i, hi, hFi⟩, hF⟩
    have := h F hF i hi hFi
    rw [h0 i hi] at this; cases this
  · intro hl i hi
    cases hli : left i
    · rfl
    · exact absurd ⟨left, ⟨i, hi, hli⟩, hf⟩ hl
