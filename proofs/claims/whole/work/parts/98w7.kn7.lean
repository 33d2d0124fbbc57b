/-! Known numbers: the class's numbers and what the reference knows -/
def kRel (V : Int) (r K N : Int → Int) : Prop := ∀ v : Int, 0 ≤ v → v < V → r v = if K v = 0 then -9223372036854775808 else N v
section
variable {V : Int} {r K N r' F G : Int → Int}
theorem kRel_zs {v b x : Int} (h : kRel V r K N) : kRel V (zs r v (if b = 0 then -9223372036854775808 else x)) (zs K v b) (zs N v (if b = 0 then 0 else x)) := by
  intro i i0 i1
  by_cases e : i = v
  · rw [zs_pos e, zs_pos e, zs_pos e]
    by_cases c : b = 0
    · rw [if_pos c, if_pos c]
    · rw [if_neg c, if_neg c, if_neg c]
  · rw [zs_neg e, zs_neg e, zs_neg e]; exact h i i0 i1
theorem kRel_fgt {T T' : Int → Int} {a a' : Int} (h : kRel V r K N) : ∀ n : Nat, (∀ j : Int, 0 ≤ j → j < n → T (a + j) = T' (a' + j)) → kRel V (fgt T r (-9223372036854775808) a n) (fgt T' K 0 a' n) (fgt T' N 0 a' n) := by
  intro n
  induction n with
  | zero => intro _; exact h
  | succ n ih =>
    intro e
    have k := ih (fun j j0 j1 => e j j0 (by omega))
    have q := e n (by omega) (by omega)
    show kRel V (if 0 ≤ T (a + n) then zs (fgt T r (-9223372036854775808) a n) (T (a + n)) (-9223372036854775808) else fgt T r (-9223372036854775808) a n) (if 0 ≤ T' (a' + n) then zs (fgt T' K 0 a' n) (T' (a' + n)) 0 else fgt T' K 0 a' n) (if 0 ≤ T' (a' + n) then zs (fgt T' N 0 a' n) (T' (a' + n)) 0 else fgt T' N 0 a' n)
    rw [q]
    by_cases c : 0 ≤ T' (a' + n)
    · rw [if_pos c, if_pos c, if_pos c]
      exact kRel_zs (b := 0) (x := 0) k
    · rw [if_neg c, if_neg c, if_neg c]; exact k
/-- what both sides know alike -/
theorem kRel_mrg (h : kRel V r K N) (k : kRel V r' F G) (hK : kOK V K N) (hF : kOK V F G) (hN : ∀ v : Int, 0 ≤ v → v < V → -2147483648 ≤ N v ∧ -2147483648 ≤ G v) : kRel V (mrg r r') (mK K N F G) (mN K N F G) := by
  intro v v0 v1
  have a := h v v0 v1
  have b := k v v0 v1
  have c := hK v v0 v1
  have d := hF v v0 v1
  have e := hN v v0 v1
  unfold mrg mK mN
  by_cases g : K v = 1 ∧ F v = 1 ∧ G v = N v
  · rw [if_neg (by omega)] at a
    rw [if_neg (by omega)] at b
    rw [if_pos g, if_pos g, if_pos (by omega), if_neg (by omega)]; exact a
  · rw [if_neg g, if_neg g, if_pos rfl]
    by_cases y : K v = 0
    · rw [if_pos y] at a
      split
      · exact a
      · rfl
    · rw [if_neg y] at a
      by_cases z : F v = 0
      · rw [if_pos z] at b
        rw [if_neg (by omega)]
      · rw [if_neg z] at b
        rw [if_neg (by omega)]
end
