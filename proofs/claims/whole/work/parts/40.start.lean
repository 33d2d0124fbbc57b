/-! The invariant's base holds as the calls begin -/
theorem ib_icon (L : Nat) (xs : Nat → Int32) : icon L xs (zM1 L xs) := by
  intro c hc
  funext k
  unfold zM1 zup zcp
  repeat rw [if_neg (by omega)]
theorem ib_503 (L : Nat) (xs : Nat → Int32) (k : Int) (k0 : 0 ≤ k) (k1 : k < 8) : zM1 L xs 503 k = k ∧ zM1 L xs 504 k = k := by
  rcases (by omega : k = 0 ∨ k = 1 ∨ k = 2 ∨ k = 3 ∨ k = 4 ∨ k = 5 ∨ k = 6 ∨ k = 7) with z | z | z | z | z | z | z | z <;> subst z <;> exact ⟨rfl, rfl⟩
