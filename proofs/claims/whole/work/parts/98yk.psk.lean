/-! Sites, when all is read, on the side of the reference -/
/-- the last place of w in a row of m; none: -1 -/
def lstN (r : Int → Int) (w : Int) : Nat → Int
  | 0 => -1
  | k + 1 => if r k = w then k else lstN r w k
def lst (r : Int → Int) (w m : Int) : Int := lstN r w m.toNat
theorem lst_suc {r : Int → Int} {w m : Int} (h : 0 ≤ m) : lst r w (m + 1) = if r m = w then m else lst r w m := by
  unfold lst
  rw [show (m + 1).toNat = m.toNat + 1 by omega]
  show (if r (m.toNat : Int) = w then (m.toNat : Int) else lstN r w m.toNat) = _
  rw [show (m.toNat : Int) = m by omega]
theorem lst_0 {r : Int → Int} {w : Int} : lst r w 0 = -1 := rfl
theorem lst_in {r : Int → Int} {w : Int} : ∀ k : Nat, lstN r w k = -1 ∨ (0 ≤ lstN r w k ∧ lstN r w k < (k : Int) ∧ r (lstN r w k) = w)
  | 0 => Or.inl rfl
  | k + 1 => by
    have i := lst_in (r := r) (w := w) k
    show (if r k = w then (k : Int) else lstN r w k) = -1 ∨ (0 ≤ (if r k = w then (k : Int) else lstN r w k) ∧ (if r k = w then (k : Int) else lstN r w k) < ((k + 1 : Nat) : Int) ∧ r (if r k = w then (k : Int) else lstN r w k) = w)
    split
    · right; exact ⟨by omega, by omega, by assumption⟩
    · rcases i with i | i
      · left; exact i
      · right; exact ⟨i.1, by omega, i.2.2⟩
