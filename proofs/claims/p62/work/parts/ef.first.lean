/-! The first state. -/
def mu0 : Mem := fun o => if o = 0 then zGa else z0
def zMo : Nat → Int32 := fun i => if i = 20 ∨ i = 21 then -1 else 0
def nu0 : Mem := fun o => if o = 0 then zMo else z0
theorem mu_z {o : Nat} (h : o ≠ 0) : mu0 o = z0 := if_neg h
theorem nu_z {o : Nat} (h : o ≠ 0) : nu0 o = z0 := if_neg h
theorem eCat_lt {E g : Nat → va_E} {o j : Nat} (h : j < o) : eCat E o g j = E j := by unfold eCat; rw [if_pos h]
theorem eCat_ge {E g : Nat → va_E} {o j : Nat} (h : ¬ j < o) : eCat E o g j = g (j - o) := by unfold eCat; rw [if_neg h]
theorem ga_shW {T : Nat → ClassId} {B : Nat} {fm : Nat → Nat} : ∀ o, 520 ≤ o → o < 560 → gxGa T B 0 o = shC fm T B z0 o := by
  intro o h1 h2
  rcases (show o = 520 ∨ o = 521 ∨ o = 522 ∨ o = 523 ∨ o = 524 ∨ o = 525 ∨ o = 526 ∨ o = 527 ∨ o = 528 ∨ o = 529 ∨ o = 530 ∨ o = 531 ∨ o = 532 ∨ o = 533 ∨ o = 534 ∨ o = 535 ∨ o = 536 ∨ o = 537 ∨ o = 538 ∨ o = 539 ∨ o = 540 ∨ o = 541 ∨ o = 542 ∨ o = 543 ∨ o = 544 ∨ o = 545 ∨ o = 546 ∨ o = 547 ∨ o = 548 ∨ o = 549 ∨ o = 550 ∨ o = 551 ∨ o = 552 ∨ o = 553 ∨ o = 554 ∨ o = 555 ∨ o = 556 ∨ o = 557 ∨ o = 558 ∨ o = 559 by omega) with rfl | rfl | rfl | rfl | rfl | rfl | rfl | rfl | rfl | rfl | rfl | rfl | rfl | rfl | rfl | rfl | rfl | rfl | rfl | rfl | rfl | rfl | rfl | rfl | rfl | rfl | rfl | rfl | rfl | rfl | rfl | rfl | rfl | rfl | rfl | rfl | rfl | rfl | rfl | rfl
  all_goals rfl
theorem ga_sh {T : Nat → ClassId} {B : Nat} {fm : Nat → Nat} : ∀ o, o < 560 → gxGa T B 0 o = shC fm T B (mu0 o) o := by
  intro o ho
  by_cases h0 : o = 0
  · subst h0; rfl
  rw [mu_z h0]
  by_cases h5 : 520 ≤ o
  · exact ga_shW o h5 ho
  · unfold gxGa
    rw [eCat_lt (show o < 560 by omega), eCat_lt (show o < 546 by omega), eCat_lt (show o < 543 by omega), eCat_lt (show o < 538 by omega), eCat_lt (show o < 520 by omega)]
    unfold shC
    rw [if_neg h0]
    by_cases h1 : o < 95
    · rw [eCat_lt h1, if_pos h1]
      by_cases h2 : o < 48
      · rw [eCat_lt h2, eCat_ge (show ¬ o < 1 by omega)]
        show shSt T B z0 (0 + 1 + (o - 1)) (o - 1) = _
        rw [show 0 + 1 + (o - 1) = o by omega, show (o - 1) % 47 = o - 1 by omega]
      · rw [eCat_ge h2]
        show shSt T B z0 (0 + 48 + (o - 48)) (o - 48) = _
        rw [show 0 + 48 + (o - 48) = o by omega, show (o - 1) % 47 = o - 48 by omega]
    · rw [eCat_ge h1, if_neg h1]
      by_cases h2 : o = 95
      · subst h2; rfl
      by_cases h3 : o = 96
      · subst h3; rfl
      unfold gxHi
      rw [if_neg (show o - 95 ≠ 0 by omega), if_neg (show o - 95 ≠ 1 by omega), if_neg h2, if_neg h3, if_pos (show o < 520 by omega), show 0 + 95 + (o - 95) = o by omega, show (o - 95 - 2) % 47 = (o - 97) % 47 by omega]
theorem gWS_first {s0 : State} {D : va_G} {T : Nat → ClassId} {B : Nat} {X : Nat → Prop} {H : Heap} (hX : ¬ X (B + 561)) (h : ∀ o, o < 562 → va_at D vwCl (B + o, gxGa T B 0 o) H) : gWS s0 D T B X mu0 16 [] H := by
  refine ⟨fun k q hk => ?_, B + 561, z0, 0, by omega, hX, by decide, by decide, fun j => rfl, fun j hj => absurd hj (Nat.not_lt_zero j), fun k q hk => ?_⟩
  · obtain ⟨ho, rfl⟩ := gL_some hk
    rw [← ga_sh k ho]
    exact h k (by omega)
  · have h9 : k < 2 := (List.getElem?_eq_some_iff.mp hk).1
    rcases (show k = 0 ∨ k = 1 by omega) with rfl | rfl
    · cases hk
      exact h 560 (by omega)
    · cases hk
      exact h 561 (by omega)
theorem RC_z {o : Nat} (h : o ≠ 0) : RC mu0 o z0 := by
  refine ⟨⟨⟨?_, ?_, ?_, ?_⟩, fun r hr => ?_, fun a ha b hb => ?_, fun a ha b hb => ?_⟩, fun e he => ⟨⟨?_, ?_, ?_, ?_, ?_, ?_, ?_⟩, fun i hi => ?_, fun k hk => ⟨?_, ?_, ?_⟩, fun d hd => ?_⟩⟩ <;> rw [mu_z (by omega)]
theorem SI_z : SI z0 := ⟨0, 0, fun _ _ => 0, fun _ _ => 0, rfl, ⟨by decide, fun a b => ⟨Nat.zero_le _, Nat.zero_le _, rfl, rfl, fun h => absurd h (Nat.lt_irrefl 0)⟩⟩, fun a ha b hb => ⟨rfl, rfl⟩, fun r hr => ⟨0, by decide, rfl⟩, rfl, by decide, fun e he => absurd he (Nat.not_lt_zero _), fun e h1 h2 w hw => rfl⟩
theorem RR_first : RR mu0 nu0 0 [] :=
  ⟨RC_z (by decide), SI_z, ⟨0, 0, by decide, by decide, rfl, rfl, rfl, fun i hi => absurd hi (Nat.not_lt_zero _)⟩, ⟨rfl, Or.inl rfl, RC_z (by decide), SI_z⟩, ⟨0, by decide, rfl, rfl, rfl⟩, ⟨rfl, rfl, Or.inl rfl, Or.inl rfl⟩, ⟨0, by decide, rfl, rfl, fun i hi => absurd hi (Nat.not_lt_zero _)⟩, rfl, ⟨rfl, by decide, fun i hi => absurd hi (Nat.not_lt_zero _)⟩⟩
theorem HS_first : HS nu0 [] := ⟨rfl, Nat.zero_le _, fun i hi => absurd hi (Nat.not_lt_zero _)⟩
theorem PZ_first : PZ mu0 [] z0 [] := ⟨nu0, RR_first, fun j _ => congrFun (nu_z (by decide)) j, HS_first⟩
theorem gZ_first {s0 : State} {D : va_G} {T : Nat → ClassId} {B : Nat} {X : Nat → Prop} {H : Heap} (hX : ¬ X (B + 561)) (h : ∀ o, o < 562 → va_at D vwCl (B + o, gxGa T B 0 o) H) : gZ s0 D T B X z0 [] [] H := ⟨mu0, 16, gWS_first hX h, by decide, PZ_first⟩
theorem first_n : nZ z0 = 0 ∧ eZ z0 = 0 ∧ TK z0 0 := ⟨rfl, rfl, fun e _ => ⟨0, Nat.le_refl 0, rfl⟩⟩
