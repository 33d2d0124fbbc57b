/-! The invariant's base holds as the calls begin -/
theorem ib_icon (L : Nat) (xs : Nat → Int32) : icon L xs (zM1 L xs) := by
  intro c hc
  funext k
  unfold zM1 zup zcp
  repeat rw [if_neg (by omega)]
theorem ib_503 (L : Nat) (xs : Nat → Int32) (k : Int) (k0 : 0 ≤ k) (k1 : k < 8) : zM1 L xs 503 k = k ∧ zM1 L xs 504 k = k := by
  rcases (by omega : k = 0 ∨ k = 1 ∨ k = 2 ∨ k = 3 ∨ k = 4 ∨ k = 5 ∨ k = 6 ∨ k = 7) with z | z | z | z | z | z | z | z <;> subst z <;> exact ⟨rfl, rfl⟩
theorem ib_zero (L : Nat) (xs : Nat → Int32) {c : Nat} (h : 16 ≤ c) (hc : ¬ c = 16 ∧ ¬ c = 19 ∧ ¬ c = 20 ∧ ¬ c = 503 ∧ ¬ c = 504 ∧ ¬ c = 506) (k : Int) : zM1 L xs c k = 0 := by
  unfold zM1 zup zcp
  repeat rw [if_neg (by omega)]
  unfold zMs
  split <;> first | omega | rfl
theorem ib_start (L : Nat) (xs : Nat → Int32) : IB L xs 0 zP1 (zM1 L xs) := by
  have z := fun (c : Nat) (h : 16 ≤ c) (hc : ¬ c = 16 ∧ ¬ c = 19 ∧ ¬ c = 20 ∧ ¬ c = 503 ∧ ¬ c = 504 ∧ ¬ c = 506) (k : Int) => ib_zero L xs h hc k
  have p3 := ib_503 L xs
  have n0 : zM1 L xs 469 (zM1 L xs 467 11) = 0 := z 469 (by decide) (by decide) _
  have s0 : zM1 L xs 471 (zM1 L xs 467 11) = 0 := z 471 (by decide) (by decide) _
  have l0 : zM1 L xs 470 (zM1 L xs 467 11) = 0 := z 470 (by decide) (by decide) _
  have b0 : zM1 L xs 467 11 = 0 := z 467 (by decide) (by decide) _
  have hT : ∀ s : Int, 0 ≤ s → TOf (zM1 L xs) s = -1 := fun s q => by unfold TOf; rw [s0, if_neg (by omega)]
  refine ⟨ib_icon L xs, ⟨⟨by show (0 : Int) ≤ 0; decide, by show (0 : Int) ≤ 480; decide, rfl⟩, fun i i0 i1 => ?_⟩, fun k k0 k1 => ?_, fun k k0 k1 => ?_, fun f f0 f1 => ?_, ⟨fun f f0 f1 => ?_, fun f f0 f1 => ?_, fun s s1 s2 => ?_⟩, Or.inl ⟨rfl, rfl, by rw [b0]; decide, ⟨by rw [n0]; exact z 33 (by decide) (by decide) _, by rw [s0]; exact z 33 (by decide) (by decide) _, by rw [l0]; exact z 48 (by decide) (by decide) _⟩, by rw [z 33 (by decide) (by decide)]; decide, by rw [z (33 + 15) (by decide) (by decide)]; decide, fun l l1 l2 => by rw [l0] at l2; omega, ⟨fun f f1 f2 => by rw [n0] at f2; omega, fun s s1 s2 s3 => by rw [hT s s1] at s3; omega, by rw [n0]; decide, fun a b a0 a1 b1 b2 e => by rw [(p3 a a0 a1).1, (p3 b b1 b2).1] at e; exact e⟩, fun g g0 g1 => by rw [n0] at g1; omega, fun g g0 g1 => by rw [n0] at g1; omega⟩⟩
  · have i1 : i < 0 := i1
    omega
  · rw [z 18 (by decide) (by decide), z 505 (by decide) (by decide)]; exact ⟨rfl, by unfold in32; omega⟩
  · rcases (by omega : k = 0 ∨ k = 1 ∨ k = 2 ∨ k = 3) with q | q | q | q <;> subst q
    · exact ⟨rfl, Or.inl ⟨rfl, by show (0 : Int) ≤ 100; decide, by show (100 : Int) ≤ 300; decide⟩⟩
    · exact ⟨rfl, Or.inr (Or.inl ⟨rfl, by show (1 : Int) ≤ 10; decide, by show (10 : Int) ≤ 50; decide⟩)⟩
    · exact ⟨rfl, Or.inr (Or.inr (Or.inl ⟨rfl, by show (0 : Int) ≤ 1; decide, by show (1 : Int) ≤ 3; decide⟩))⟩
    · exact ⟨rfl, Or.inr (Or.inr (Or.inr ⟨rfl, by show (0 : Int) ≤ 100; decide, by show (100 : Int) ≤ 500; decide⟩))⟩
  · have a := p3 f f0 f1
    rw [a.1, a.2, a.1]; exact ⟨⟨f0, f1⟩, ⟨f0, f1⟩, rfl, rfl⟩
  · rw [z 22 (by decide) (by decide), z 507 (by decide) (by decide)]
  · rw [z 507 (by decide) (by decide)]; omega
  · rw [z 23 (by decide) (by decide), z 508 (by decide) (by decide)]; exact ⟨rfl, by omega, fun q => absurd q (by omega)⟩
