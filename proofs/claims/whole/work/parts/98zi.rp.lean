/-! Both readers together: rp -/
theorem yEnd_eq {dp : Int → Int} {n i e e' : Int} (h : isEnd dp n i e) (k : isEnd dp n i e') : e = e' := by
  obtain ⟨⟨a1, a2⟩, a3, a4⟩ := h
  obtain ⟨⟨c1, c2⟩, c3, c4⟩ := k
  by_cases x : e < e'
  · have z := c3 e a1 x
    rcases a4 with y | y <;> omega
  · by_cases x2 : e' < e
    · have z := a3 e' c1 x2
      rcases c4 with y | y <;> omega
    · omega
theorem yMid_eq {dp br : Int → Int} {n i e e' : Int} (h : isMid dp br n i e) (k : isMid dp br n i e') : e = e' := by
  obtain ⟨⟨a1, a2⟩, a3, a4⟩ := h
  obtain ⟨⟨c1, c2⟩, c3, c4⟩ := k
  by_cases x : e < e'
  · have z := c3 e a1 x
    rcases a4 with y | y | y
    · omega
    · omega
    · exact absurd y z.2
  · by_cases x2 : e' < e
    · have z := a3 e' c1 x2
      rcases c4 with y | y | y
      · omega
      · omega
      · exact absurd y z.2
    · omega
theorem yE_endb {dp br th el : Int → Int} {o N : Int} : ∀ (n : Nat) (lv b x y : Int), 0 ≤ lv → ySeg (thL th el) (okS dp br th el o) n lv b x y → (y = o + N ∨ (y < o + N ∧ dp (y - o) ≤ lv)) → ∀ r : Int, x ≤ r → r < y → isEnd dp N (r - o) (r - o + 1 + th r + el r) ∧ isMid dp br N (r - o) (r - o + 1 + th r) := by
  intro n
  induction n with
  | zero => intro lv b x y _ q _ r h0 h1; have e : x = y := q; omega
  | succ n ih =>
    intro lv b x y l0 q hb r h0 h1
    rcases q with q | ⟨q1, q2, q3, q4, q5⟩
    · omega
    · have q3 : ySeg (thL th el) (okS dp br th el o) n (lv + 1) 0 (x + 1) (x + 1 + th x) := q3
      have q4 : ySeg (thL th el) (okS dp br th el o) n (lv + 1) 1 (x + 1 + th x) (x + 1 + th x + el x) := q4
      have q5 : ySeg (thL th el) (okS dp br th el o) n lv b (x + 1 + th x + el x) y := q5
      obtain ⟨o1, o3⟩ := id q2
      have t3 := ySegE_le ⟨n, q3⟩
      have t4 := ySegE_le ⟨n, q4⟩
      have t5 := ySegE_le ⟨n, q5⟩
      have d3 := yE_dpb n _ _ _ _ q3
      have d4 := yE_dpb n _ _ _ _ q4
      have ce : (x + 1 + th x + el x = o + N ∨ (x + 1 + th x + el x < o + N ∧ dp (x + 1 + th x + el x - o) ≤ lv)) := by
        by_cases e : x + 1 + th x + el x = y
        · rw [e]; exact hb
        · have z := (ySegE_inv ⟨n, q5⟩ e).2.1.1.1
          right; refine ⟨by omega, by omega⟩
      have cm : (x + 1 + th x = o + N ∨ (x + 1 + th x < o + N ∧ (dp (x + 1 + th x - o) ≤ lv ∨ (dp (x + 1 + th x - o) = lv + 1 ∧ br (x + 1 + th x - o) = 1)))) := by
        by_cases e : x + 1 + th x = x + 1 + th x + el x
        · rw [← e] at ce
          rcases ce with z | z
          · exact Or.inl z
          · exact Or.inr ⟨z.1, Or.inl z.2⟩
        · have z := (ySegE_inv ⟨n, q4⟩ e).2.1.1
          have z2 := z.2 (by omega)
          right; refine ⟨by omega, Or.inr ⟨z.1, z2⟩⟩
      by_cases e : r = x
      · subst e
        have dl : dp (r - o) = lv := o1.1
        refine ⟨⟨by omega, fun j j0 j1 => ?_, ?_⟩, ⟨by omega, fun j j0 j1 => ?_, ?_⟩⟩
        · rw [dl]
          by_cases e1 : j + o < r + 1 + th r
          · have z := (d3 (j + o) (by omega) e1).1
            rw [show j + o - o = j by omega] at z; omega
          · have z := (d4 (j + o) (by omega) (by omega)).1
            rw [show j + o - o = j by omega] at z; omega
        · rw [dl, show r - o + 1 + th r + el r = r + 1 + th r + el r - o by omega]
          rcases ce with z | z
          · left; omega
          · right; exact z.2
        · rw [dl]
          have z := d3 (j + o) (by omega) (by omega)
          rw [show j + o - o = j by omega] at z
          refine ⟨by omega, fun y => ?_⟩
          have w := z.2 y.1 (by omega)
          omega
        · rw [dl, show r - o + 1 + th r = r + 1 + th r - o by omega]
          rcases cm with z | z
          · left; omega
          · right; exact z.2
      · by_cases e1 : r < x + 1 + th x
        · refine ih _ _ _ _ (by omega) q3 ?_ r (by omega) e1
          rcases cm with z | z
          · exact Or.inl z
          · right; refine ⟨z.1, ?_⟩
            rcases z.2 with y | y <;> omega
        · by_cases e2 : r < x + 1 + th x + el x
          · refine ih _ _ _ _ (by omega) q4 ?_ r (by omega) e2
            rcases ce with z | z
            · exact Or.inl z
            · right; refine ⟨z.1, by omega⟩
          · exact ih _ _ _ _ l0 q5 hb r (by omega) h1
/-- lines in blocks, as they are run -/
theorem xS_of {dp br th el : Int → Int} {N : Nat → Int → Int} {o A B : Int} {ok : Int → Prop} (H : ∀ r : Int, A ≤ r → r < B → ok r ∧ (N 488 r = th r ∧ N 489 r = el r) ∧ ((N 480 r = 7 ∨ N 480 r = 8) ∨ (th r = 0 ∧ el r = 0)) ∧ (N 480 r = 8 → el r = 0) ∧ dp (r - o) ≤ 4) : ∀ (n : Nat) (lv b x y : Int), A ≤ x → y ≤ B → ySeg (thL th el) (okS dp br th el o) n lv b x y → xSeg N ok 5 n lv x y := by
  intro n
  induction n with
  | zero => intro lv b x y _ _ q; exact q
  | succ n ih =>
    intro lv b x y x0 y0 q
    rcases q with q | ⟨q1, q2, q3, q4, q5⟩
    · exact Or.inl q
    · have q3 : ySeg (thL th el) (okS dp br th el o) n (lv + 1) 0 (x + 1) (x + 1 + th x) := q3
      have q4 : ySeg (thL th el) (okS dp br th el o) n (lv + 1) 1 (x + 1 + th x) (x + 1 + th x + el x) := q4
      have q5 : ySeg (thL th el) (okS dp br th el o) n lv b (x + 1 + th x + el x) y := q5
      obtain ⟨⟨o1, _⟩, o3, o4⟩ := id q2
      have t5 := ySegE_le ⟨n, q5⟩
      obtain ⟨h1, ⟨h2, h3⟩, h4, h5, h6⟩ := H x x0 (by omega)
      refine Or.inr ⟨q1, h1, ?_⟩
      rw [h2, h3]
      exact ⟨⟨o3, o4⟩, t5, h4, h5, fun _ => by omega, ih _ _ _ _ (by omega) (by omega) q3, ih _ _ _ _ (by omega) (by omega) q4, ih _ _ _ _ (by omega) y0 q5⟩
section
variable {p : Nat} {b : Int} {M τ N : Nat → Int → Int}
theorem PR_mono (h : PR p b M τ) : ∀ (n : Nat) (g : Int), 0 ≤ g → g + (n : Int) < M p 0 → M (p + 5) g + M (p + 6) g ≤ M (p + 5) (g + n) + M (p + 6) (g + n) ∧ (0 < n → M (p + 5) g + M (p + 6) g ≤ M (p + 5) (g + n)) := by
  intro n
  induction n with
  | zero => intro g g0 g1; rw [show g + ((0 : Nat) : Int) = g by omega]; exact ⟨Int.le_refl _, fun z => absurd z (by decide)⟩
  | succ n ih =>
    intro g g0 g1
    have z := ih g g0 (by omega)
    have s := (h.2.2.2.2.2.2.2.1 (g + n) (by omega) (by omega)).1
    have f := (h.2.2.2.2.2.1 (g + n + 1) (by omega) (by omega)).2.2.1.1
    rw [show g + ((n + 1 : Nat) : Int) = g + n + 1 by omega]
    exact ⟨by omega, fun _ => by omega⟩
theorem PR_lineN (h : PR p b M τ) {l : Int} (l0 : 0 ≤ l) : ∀ k : Nat, (k : Int) < M p 0 → l < M (p + 5) k + M (p + 6) k → ∃ g : Int, (0 ≤ g ∧ g < M p 0) ∧ M (p + 5) g ≤ l ∧ l < M (p + 5) g + M (p + 6) g := by
  intro k
  induction k with
  | zero =>
    intro k1 l1
    have z := h.2.2.2.2.2.2.2.2.1 (by omega)
    refine ⟨0, ⟨by decide, by omega⟩, ?_, l1⟩
    rw [z.1]; exact l0
  | succ k ih =>
    intro k1 l1
    by_cases e : M (p + 5) ((k + 1 : Nat) : Int) ≤ l
    · exact ⟨_, ⟨by omega, k1⟩, e, l1⟩
    · have s := (h.2.2.2.2.2.2.2.1 k (by omega) (by omega)).1
      rw [show ((k + 1 : Nat) : Int) = (k : Int) + 1 by omega] at e
      exact ih (by omega) (by omega)
theorem PR_line (h : PR p b M τ) {l : Int} (l0 : 0 ≤ l) (l1 : l < M (p + 15) 13) : ∃ g : Int, (0 ≤ g ∧ g < M p 0) ∧ M (p + 5) g ≤ l ∧ l < M (p + 5) g + M (p + 6) g := by
  have i := PR_in h
  by_cases e : M p 0 = 0
  · have z := h.2.2.2.2.2.2.2.2.2 e
    omega
  · have z := h.2.2.2.2.2.2.2.2.1 (by omega)
    refine PR_lineN h l0 (M p 0 - 1).toNat (by omega) ?_
    rw [show ((M p 0 - 1).toNat : Int) = M p 0 - 1 by omega]
    omega
theorem PR_bd (h : PR p b M τ) {g : Int} (g0 : 0 ≤ g) (g1 : g < M p 0) : M (p + 5) g + M (p + 6) g = M (p + 15) 13 ∨ (M (p + 5) g + M (p + 6) g < M (p + 15) 13 ∧ M (p + 22) (M (p + 5) g + M (p + 6) g) ≤ 0) := by
  have f := (h.2.2.2.2.2.1 g g0 g1).2.2.1.1
  by_cases e : M (p + 5) g + M (p + 6) g = M (p + 15) 13
  · exact Or.inl e
  · have c1 : M (p + 5) g + M (p + 6) g < M (p + 15) 13 := by omega
    obtain ⟨k, ⟨k0, k1⟩, k2, k3⟩ := PR_line h (by omega) c1
    have gk : g < k := by
      by_cases x : g < k
      · exact x
      · have m := (PR_mono h (g - k).toNat k k0 (by omega)).1
        rw [show k + ((g - k).toNat : Int) = g by omega] at m
        omega
    have m := (PR_mono h (k - g).toNat g g0 (by omega)).2 (by omega)
    rw [show g + ((k - g).toNat : Int) = k by omega] at m
    have fk := h.2.2.2.2.2.1 k k0 k1
    have y := fk.2.2.2.2.2.2.1
    have y1 := (ySegE_inv y (by omega)).2.1.1.1
    rw [show 60 * b + M (p + 5) k - 60 * b = M (p + 5) g + M (p + 6) g by omega] at y1
    exact Or.inr ⟨c1, by omega⟩
theorem PR_end (h : PR p b M τ) {l : Int} (l0 : 0 ≤ l) (l1 : l < M (p + 15) 13) : M (p + 25) l = l + 1 + τ 488 (60 * b + l) ∧ M (p + 26) l = l + 1 + τ 488 (60 * b + l) + τ 489 (60 * b + l) := by
  obtain ⟨g, ⟨g0, g1⟩, g2, g3⟩ := PR_line h l0 l1
  have f := h.2.2.2.2.2.1 g g0 g1
  obtain ⟨n, y⟩ := f.2.2.2.2.2.2.1
  have bd := PR_bd h g0 g1
  have c := (h.2.2.2.1.2.1 l l0 l1).2.2
  have z := yE_endb (N := M (p + 15) 13) n 0 0 _ _ (Int.le_refl _) y (by
    rcases bd with z | z
    · left; omega
    · right; refine ⟨by omega, ?_⟩
      rw [show 60 * b + (M (p + 5) g + M (p + 6) g) - 60 * b = M (p + 5) g + M (p + 6) g by omega]
      exact z.2) (60 * b + l) (by omega) (by omega)
  rw [show 60 * b + l - 60 * b = l by omega] at z
  exact ⟨yMid_eq c.1 z.2, yEnd_eq c.2 z.1⟩
/-- the memory of both, once a program was read and is told -/
def NW (p : Nat) (b : Int) (M τ N : Nat → Int → Int) : Prop :=
  (∀ c : Nat, p ≤ c → c ≤ p + 28 → ¬ c = p + 12 → N c = M c) ∧ (∀ s : Int, 0 ≤ s → s < M p 1 → GDc p M s ∧ N (p + 12) s = fnd (M (p + 1)) (M 96 s) (M p 0)) ∧
  (∀ c : Nat, 469 ≤ c → c ≤ 499 → ¬ c = 485 → N c = τ c) ∧ W485 p b M τ (N 485) ∧ N 467 11 = b ∧ ∀ k : Int, 0 ≤ k → k < 8 → N 503 k = k
theorem cn6_lin {K : Int → Int} (a : Nat) : ∀ n : Nat, cn6 K (a + n) ≤ cn6 K a + n := by
  intro n
  induction n with
  | zero => exact Int.le_of_eq (by show cn6 K a = cn6 K a + 0; omega)
  | succ n ih =>
    show cn6 K (a + n) + (if K ((a + n : Nat) : Int) = 6 then 1 else 0) ≤ _
    split <;> omega
theorem PR_sn (h : PR p b M τ) {g : Int} (g0 : 0 ≤ g) (g1 : g < M p 0) : M (p + 7) g + M (p + 8) g = cn6 (M (p + 16)) (M (p + 5) g + M (p + 6) g).toNat := by
  have i := PR_in h
  by_cases e : g + 1 < M p 0
  · have z := h.2.2.2.2.2.2.2.1 g g0 e
    have f := (h.2.2.2.2.2.1 (g + 1) (by omega) e).2.2.2.2.2.2.2
    rw [← z.2, ← z.1]; exact f
  · have z := h.2.2.2.2.2.2.2.2.1 (by omega)
    rw [show M p 0 - 1 = g by omega] at z
    rw [z.2.2.1, z.2.2.2]
    exact h.2.2.2.2.1.1
theorem PR_few (h : PR p b M τ) {g : Int} (g0 : 0 ≤ g) (g1 : g < M p 0) : M (p + 8) g ≤ M (p + 6) g - τ 479 (8 * b + g) := by
  have f := h.2.2.2.2.2.1 g g0 g1
  have s := PR_sn h g0 g1
  have f7 := f.2.2.2.2.2.2.2
  have f5 := f.2.2.1.1
  obtain ⟨e1, _, _, e4⟩ := f.2.2.2.2.1
  rcases e1 with e | e
  · have z := cn6_lin (K := M (p + 16)) (M (p + 5) g).toNat (M (p + 6) g).toNat
    rw [show (M (p + 5) g).toNat + (M (p + 6) g).toNat = (M (p + 5) g + M (p + 6) g).toNat by omega] at z
    omega
  · obtain ⟨x1, x2, _⟩ := e4 e
    have z := cn6_lin (K := M (p + 16)) (M (p + 5) g).toNat (M (p + 6) g - 1).toNat
    rw [show (M (p + 5) g).toNat + (M (p + 6) g - 1).toNat = (M (p + 5) g + M (p + 6) g - 1).toNat by omega] at z
    have y := cn6_suc (K := M (p + 16)) (n := M (p + 5) g + M (p + 6) g - 1) (by omega)
    rw [show M (p + 5) g + M (p + 6) g - 1 + 1 = M (p + 5) g + M (p + 6) g by omega, x2, if_neg (by decide)] at y
    omega
theorem NW_to (h : PR p b M τ) (w : NW p b M τ N) {s : Int} (s0 : 0 ≤ s) (s1 : s < M p 1) : (0 ≤ N (p + 12) s ∧ N (p + 12) s < M p 0) ∧ M (p + 3) (N (p + 12) s) = M 98 s ∧ N 485 (60 * b + M (p + 13) s) = N (p + 12) s ∧ TOf N s = N (p + 12) s := by
  obtain ⟨w1, w2, w3, w4, w5, w6⟩ := w
  have i := PR_in h
  have g := w2 s s0 s1
  have fi := fnd_in (r := M (p + 1)) (w := M 96 s) i.2.1.1
  have g1 : 0 ≤ fnd (M (p + 1)) (M 96 s) (M p 0) := g.1.1
  have g2 := g.1.2
  have e := w4.1 s s0 s1
  rw [g.2]
  refine ⟨⟨g1, by rcases fi with z | z <;> omega⟩, g2, e, ?_⟩
  unfold TOf
  rw [w5, w3 471 (by decide) (by decide) (by decide), w3 492 (by decide) (by decide) (by decide), i.2.2.2.2.2.2.2.2.1, if_pos s1, (PR_st h s0 s1).1]
  exact e
end
