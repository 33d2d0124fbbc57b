/-! The result as code that is run: its lines in blocks, on both sides -/
section
variable {M L : Nat → Int → Int} {nF : Int} {TO : Int → Int}
theorem ySeg_dpb : ∀ (n : Nat) (lv br a b : Int), ySeg L (okR M L nF TO) n lv br a b → ∀ j : Int, a ≤ j → j < b → lv ≤ M 449 (j - 120) ∧ (M 449 (j - 120) = lv → 0 < lv → M 450 (j - 120) = br) := by
  intro n
  induction n with
  | zero => intro lv br a b q j h0 h1; have e : a = b := q; omega
  | succ n ih =>
    intro lv br a b q j h0 h1
    rcases q with q | ⟨q1, q2, q3, q4, q5⟩
    · omega
    · have o := q2.1
      by_cases e : j = a
      · rw [e]; exact ⟨by omega, fun _ z => o.2.1 z⟩
      · by_cases e1 : j < a + 1 + L 488 a
        · have z := (ih _ _ _ _ q3 j (by omega) e1).1
          exact ⟨by omega, fun y => by omega⟩
        · by_cases e2 : j < a + 1 + L 488 a + L 489 a
          · have z := (ih _ _ _ _ q4 j (by omega) e2).1
            exact ⟨by omega, fun y => by omega⟩
          · exact ih _ _ _ _ q5 j (by omega) h1
theorem ySeg_end {N : Int} : ∀ (n : Nat) (lv br a b : Int), 0 ≤ lv → ySeg L (okR M L nF TO) n lv br a b → (b = 120 + N ∨ (b < 120 + N ∧ M 449 (b - 120) ≤ lv)) → 120 ≤ a → ∀ r : Int, a ≤ r → r < b → isEnd (M 449) N (r - 120) (r - 120 + 1 + L 488 r + L 489 r) ∧ isMid (M 449) (M 450) N (r - 120) (r - 120 + 1 + L 488 r) := by
  intro n
  induction n with
  | zero => intro lv br a b _ q _ _ r h0 h1; have e : a = b := q; omega
  | succ n ih =>
    intro lv br a b l0 q hb ha r h0 h1
    rcases q with q | ⟨q1, q2, q3, q4, q5⟩
    · omega
    · obtain ⟨o, _, o3, _⟩ := id q2
      have t3 := ySegE_le ⟨n, q3⟩
      have t4 := ySegE_le ⟨n, q4⟩
      have t5 := ySegE_le ⟨n, q5⟩
      have d3 := ySeg_dpb n _ _ _ _ q3
      have d4 := ySeg_dpb n _ _ _ _ q4
      have ce : (a + 1 + L 488 a + L 489 a = 120 + N ∨ (a + 1 + L 488 a + L 489 a < 120 + N ∧ M 449 (a + 1 + L 488 a + L 489 a - 120) ≤ lv)) := by
        by_cases e : a + 1 + L 488 a + L 489 a = b
        · rw [e]; exact hb
        · have z := (ySegE_inv ⟨n, q5⟩ e).2.1.1.1
          right; refine ⟨by omega, by omega⟩
      have cm : (a + 1 + L 488 a = 120 + N ∨ (a + 1 + L 488 a < 120 + N ∧ (M 449 (a + 1 + L 488 a - 120) ≤ lv ∨ (M 449 (a + 1 + L 488 a - 120) = lv + 1 ∧ M 450 (a + 1 + L 488 a - 120) = 1)))) := by
        by_cases e : a + 1 + L 488 a = a + 1 + L 488 a + L 489 a
        · rw [← e] at ce
          rcases ce with z | z
          · exact Or.inl z
          · exact Or.inr ⟨z.1, Or.inl z.2⟩
        · have z := (ySegE_inv ⟨n, q4⟩ e).2.1.1
          have z2 := z.2.1 (by omega)
          right; refine ⟨by omega, Or.inr ⟨z.1, z2⟩⟩
      by_cases e : r = a
      · subst e
        have dl : M 449 (r - 120) = lv := o.1
        refine ⟨⟨by omega, fun j j0 j1 => ?_, ?_⟩, ⟨by omega, fun j j0 j1 => ?_, ?_⟩⟩
        · rw [dl]
          by_cases e1 : j + 120 < r + 1 + L 488 r
          · have z := (d3 (j + 120) (by omega) e1).1
            rw [show j + 120 - 120 = j by omega] at z; omega
          · have z := (d4 (j + 120) (by omega) (by omega)).1
            rw [show j + 120 - 120 = j by omega] at z; omega
        · rw [dl, show r - 120 + 1 + L 488 r + L 489 r = r + 1 + L 488 r + L 489 r - 120 by omega]
          rcases ce with z | z
          · left; omega
          · right; exact z.2
        · rw [dl]
          have z := d3 (j + 120) (by omega) (by omega)
          rw [show j + 120 - 120 = j by omega] at z
          refine ⟨by omega, fun y => ?_⟩
          have w := z.2 y.1 (by omega)
          omega
        · rw [dl, show r - 120 + 1 + L 488 r = r + 1 + L 488 r - 120 by omega]
          rcases cm with z | z
          · left; omega
          · right; exact z.2
      · by_cases e1 : r < a + 1 + L 488 a
        · refine ih _ _ _ _ (by omega) q3 ?_ (by omega) r (by omega) e1
          rcases cm with z | z
          · exact Or.inl z
          · right; refine ⟨z.1, ?_⟩
            rcases z.2 with y | y <;> omega
        · by_cases e2 : r < a + 1 + L 488 a + L 489 a
          · refine ih _ _ _ _ (by omega) q4 ?_ (by omega) r (by omega) e2
            rcases ce with z | z
            · exact Or.inl z
            · right; refine ⟨z.1, by omega⟩
          · exact ih _ _ _ _ l0 q5 hb (by omega) r (by omega) h1
theorem rCode (rel : rRel M L) (ys : ySegE L (okR M L nF TO) 0 0 120 (120 + M 442 13)) (cl : cL (M 449) (M 450) (M 452) (M 453) (M 454) (M 455) (M 442 13)) : cCode L 120 (M 442 13) (M 443) (M 444) (M 445) (M 446) (M 447) (M 448) (M 452) (M 453) := by
  intro l l0 l1
  obtain ⟨n, h⟩ := ys
  have z := ySeg_end (N := M 442 13) n 0 0 120 (120 + M 442 13) (by decide) h (Or.inl rfl) (by decide) (l + 120) (by omega) (by omega)
  rw [show l + 120 - 120 = l by omega] at z
  have c := (cl.2.1 l l0 l1).2.2
  obtain ⟨lv, br, _, ok⟩ := ySeg_at n _ _ _ _ h (show 120 ≤ l + 120 by omega) (by omega)
  have q := rel.2.2 l l0 l1
  unfold rRow at q
  rw [show 120 + l = l + 120 by omega] at q
  exact ⟨q.1, q.2.1, q.2.2.1, q.2.2.2.1, q.2.2.2.2.1, q.2.2.2.2.2.1, isMid_uniq c.1 z.2, isEnd_uniq c.2 z.1, ok.2.2.2.1.2.2.2⟩
theorem rSegX {o1 n1 : Int} {TO2 : Int → Int} (h2 : ∀ s : Int, 0 ≤ s → TO2 s = TO s) : ∀ (n : Nat) (lv br a b : Int), 120 ≤ a → b ≤ 120 + M 442 13 → ySeg L (okR M L nF TO) n lv br a b → xSeg L (xok L 120 (M 442 13) o1 n1 nF TO2 0 (M 441 1)) 131 n lv a b := by
  intro n
  induction n with
  | zero => intro lv br a b _ _ q; exact q
  | succ n ih =>
    intro lv br a b ha hb q
    rcases q with q | ⟨q1, q2, q3, q4, q5⟩
    · exact Or.inl q
    · obtain ⟨o1, o2, o3, o4, o5, o6⟩ := id q2
      have t3 := ySegE_le ⟨n, q3⟩
      have t4 := ySegE_le ⟨n, q4⟩
      have t5 := ySegE_le ⟨n, q5⟩
      refine Or.inr ⟨q1, ⟨xv_xLine o2 ⟨by omega, by omega⟩ ⟨o3.2.1, o3.2.2.1, o3.2.2.2.1, o3.2.2.2.2⟩, fun _ => ⟨by omega, by omega⟩, fun z => absurd rfl z, fun k => ⟨(o4.1 k).1, by rw [h2 _ (o2.2.2.2.2 k).2.1.1]; exact (o4.1 k).2⟩⟩, ⟨o3.2.1, o3.2.2.2.1⟩, by omega, o5, o6, fun _ => by omega, ih _ _ _ _ (by omega) (by omega) q3, ih _ _ _ _ (by omega) (by omega) q4, ih _ _ _ _ (by omega) hb q5⟩
end
