/-! Both readers together: ro -/
theorem lsx_no {r : Int → Int} {w : Int} : ∀ k : Nat, lstN r w k = -1 → ∀ j : Int, 0 ≤ j → j < (k : Int) → ¬ r j = w
  | 0, _, j, a, c => by omega
  | k + 1, e, j, a, c => by
    by_cases c1 : r (k : Int) = w
    · have e1 : lstN r w (k + 1) = (k : Int) := if_pos c1
      omega
    · have e1 : lstN r w (k + 1) = lstN r w k := if_neg c1
      by_cases c2 : j = (k : Int)
      · rw [c2]; exact c1
      · exact lsx_no k (e1.symm.trans e) j a (by omega)
theorem lsx_fnd {r r' : Int → Int} {w m : Int} (hm : 0 ≤ m) (h : ∀ j : Int, 0 ≤ j → j < m → r j = r' j) (hd : ∀ g k : Int, 0 ≤ g → g < k → k < m → ¬ r' g = r' k) : lst r w m = fnd r' w m := by
  have l := lst_in (r := r) (w := w) m.toNat
  have f := fnd_in (r := r') (w := w) hm
  have el : lst r w m = lstN r w m.toNat := rfl
  rcases l with l | ⟨l1, l2, l3⟩
  · have no := lsx_no m.toNat l
    rcases f with f | ⟨f1, f2, f3, f4⟩
    · omega
    · exact absurd ((h _ f1 f2).trans f3) (no _ f1 (by omega))
  · have l2' : lstN r w m.toNat < m := by omega
    have l3' := (h _ l1 l2').symm.trans l3
    rcases f with ⟨f1, f2⟩ | ⟨f1, f2, f3, f4⟩
    · exact absurd l3' (f2 _ l1 l2')
    · by_cases c : lstN r w m.toNat < fnd r' w m
      · exact absurd (l3'.trans f3.symm) (hd _ _ l1 c f2)
      · by_cases c2 : fnd r' w m < lstN r w m.toNat
        · exact absurd (f3.trans l3'.symm) (hd _ _ f1 c2 l2')
        · omega
/-- a site calls a function that there is, as it should -/
def GDc (p : Nat) (M : Nat → Int → Int) (s : Int) : Prop := 0 ≤ fnd (M (p + 1)) (M 96 s) (M p 0) ∧ M (p + 3) (fnd (M (p + 1)) (M 96 s) (M p 0)) = M 98 s
section
variable {p : Nat} {b : Int} {M τ : Nat → Int → Int}
theorem PR_st (h : PR p b M τ) {s : Int} (s0 : 0 ≤ s) (s1 : s < M p 1) : τ 492 (16 * b + s) = 60 * b + M (p + 13) s ∧ (0 ≤ M (p + 13) s ∧ M (p + 13) s < M (p + 15) 13) ∧ τ 496 (16 * b + s) = M 97 s ∧ (0 ≤ M 97 s ∧ M 97 s ≤ 400) ∧ τ 495 (16 * b + s) = M 98 s ∧ τ 499 (16 * b + s) = M 96 s ∧ M (p + 21) (M (p + 13) s) = s := by
  obtain ⟨_, _, _, _, p5, _⟩ := h
  obtain ⟨⟨a1, a2, a3⟩, _, ⟨c1, c2, c3⟩, e2, e3, e4, e5, e6, e7, e8, e9⟩ := p5.2.2.1 s s0 s1
  exact ⟨e2, a1, e6, c2, e5, e9, a3⟩
theorem PR_lst (h : PR p b M τ) (w : Int) : lst (rofs (τ 472) (8 * b)) w (M p 0) = fnd (M (p + 1)) w (M p 0) := by
  obtain ⟨_, ⟨q1, q2, ⟨q3, q3b, q3c⟩, _⟩, _, _, _, p6, p7, _⟩ := h
  exact lsx_fnd q3b (fun j a c => (p6 j a c).1.2.2) p7
theorem PR_gd (h : PR p b M τ) {s : Int} (s0 : 0 ≤ s) (s1 : s < M p 1) : (0 ≤ lst (rofs (τ 472) (8 * b)) (τ 499 (16 * b + s)) (τ 469 b) ∧ τ 473 (8 * b + lst (rofs (τ 472) (8 * b)) (τ 499 (16 * b + s)) (τ 469 b)) = τ 495 (16 * b + s)) ↔ GDc p M s := by
  have st := PR_st h s0 s1
  have l := PR_lst h (M 96 s)
  have i := PR_in h
  rw [st.2.2.2.2.2.1, i.2.2.2.2.2.2.1, l, st.2.2.2.2.1]
  have fi := fnd_in (r := M (p + 1)) (w := M 96 s) i.2.1.1
  unfold GDc
  constructor
  · intro ⟨a, c⟩
    have f1 : fnd (M (p + 1)) (M 96 s) (M p 0) < M p 0 := by rcases fi with z | z <;> omega
    exact ⟨a, by rw [← (h.2.2.2.2.2.1 _ a f1).2.1.2.1]; exact c⟩
  · intro ⟨a, c⟩
    have f1 : fnd (M (p + 1)) (M 96 s) (M p 0) < M p 0 := by rcases fi with z | z <;> omega
    exact ⟨a, by rw [(h.2.2.2.2.2.1 _ a f1).2.1.2.1]; exact c⟩
/-- what finds() of the reference does: all sites' functions -/
def W485 (p : Nat) (b : Int) (M τ : Nat → Int → Int) (w : Int → Int) : Prop := (∀ s : Int, 0 ≤ s → s < M p 1 → w (60 * b + M (p + 13) s) = fnd (M (p + 1)) (M 96 s) (M p 0)) ∧ ∀ j : Int, (∀ s : Int, 0 ≤ s → s < M p 1 → ¬ j = 60 * b + M (p + 13) s) → w j = τ 485 j
theorem finds_pre (h : PR p b M τ) : (∀ xk : Int, 0 ≤ xk → xk < τ 471 b → (0 ≤ τ 496 (16 * b + xk) ∧ τ 496 (16 * b + xk) ≤ 400) ∧ 0 ≤ τ 492 (16 * b + xk) ∧ τ 492 (16 * b + xk) < 520) ∧ ∀ xk xl : Int, 0 ≤ xk → xk < xl → xl < τ 471 b → ¬ τ 492 (16 * b + xk) = τ 492 (16 * b + xl) := by
  have i := PR_in h
  rw [i.2.2.2.2.2.2.2.2.1]
  refine ⟨fun s s0 s1 => ?_, fun s t s0 st t1 => ?_⟩
  · have z := PR_st h s0 s1
    rw [z.2.2.1, z.1]
    omega
  · have z := PR_st h s0 (show s < M p 1 by omega)
    have y := PR_st h (show 0 ≤ t by omega) t1
    rw [z.1, y.1]
    intro e
    have e1 : M (p + 13) s = M (p + 13) t := by omega
    have z7 := z.2.2.2.2.2.2
    rw [e1, y.2.2.2.2.2.2] at z7
    omega
theorem finds_oth (h : PR p b M τ) {w : Int → Int} (z : ∀ xj : Int, (∀ xk : Int, 0 ≤ xk → xk < τ 471 b → ¬ xj = τ 492 (16 * b + xk)) → w xj = τ 485 xj) : ∀ j : Int, (∀ s : Int, 0 ≤ s → s < M p 1 → ¬ j = 60 * b + M (p + 13) s) → w j = τ 485 j := by
  intro j q
  refine z j (fun s s0 s1 => ?_)
  rw [(PR_in h).2.2.2.2.2.2.2.2.1] at s1
  rw [(PR_st h s0 s1).1]
  exact q s s0 s1
theorem finds_ok (h : PR p b M τ) (g : ∀ s : Int, 0 ≤ s → s < M p 1 → GDc p M s) (d : Nat) (P : Nat → Nat → Nat) (A : Nat → Int → Int) (Q : zQ) (k : ∀ w : Int → Int, W485 p b M τ w → Q (zS P (mix A (zrow τ 485 w))) (some (vI 1))) : WC (d + 2) 65 [vR 467] (zS P (mix A τ)) Q := by
  have i := PR_in h
  obtain ⟨ib, i0, i60, i16, iat, iN, t469, t470, t471, t11⟩ := i
  have pre := finds_pre h
  have gd := fun s a c => PR_gd h (s := s) a c
  have oth := fun w z => finds_oth h (w := w) z
  have st := fun s a c => PR_st h (s := s) a c
  have ls := PR_lst h
  subst t11
  refine finds_m_r (τ := τ) ib (by rw [t471]; exact i16) (by rw [t469]; exact i0) pre.1 pre.2 (fun w z1 z2 => k w ⟨fun s s0 s1 => ?_, oth w z2⟩) (fun w v x x0 x1 x2 x3 x4 => ?_)
  · have z := (z1 s s0 (by rw [t471]; exact s1)).2
    have y := st s s0 s1
    rw [y.1, y.2.2.2.2.2.1, t469, ls] at z
    exact z
  · exact absurd ((gd x x0.1 (by rw [← t471]; exact x0.2)).mpr (g x x0.1 (by rw [← t471]; exact x0.2))) x2
theorem finds_no (h : PR p b M τ) {x : Int} (x0 : 0 ≤ x ∧ x < M p 1) (g : ∀ s : Int, 0 ≤ s → s < x → GDc p M s) (gx : ¬ GDc p M x) (d : Nat) (P : Nat → Nat → Nat) (A : Nat → Int → Int) (Q : zQ) (k : ∀ w : Int → Int, (∀ j : Int, (∀ s : Int, 0 ≤ s → s < M p 1 → ¬ j = 60 * b + M (p + 13) s) → w j = τ 485 j) → Q (zS P (mix A (zup (zrow τ 485 w) 467 4 (-6000 - M 97 x)))) (some (vI 0))) : WC (d + 2) 65 [vR 467] (zS P (mix A τ)) Q := by
  have i := PR_in h
  obtain ⟨ib, i0, i60, i16, iat, iN, t469, t470, t471, t11⟩ := i
  have pre := finds_pre h
  have gd := fun s a c => PR_gd h (s := s) a c
  have oth := fun w z => finds_oth h (w := w) z
  have st := fun s a c => PR_st h (s := s) a c
  subst t11
  refine finds_m_r (τ := τ) ib (by rw [t471]; exact i16) (by rw [t469]; exact i0) pre.1 pre.2 (fun w z1 z2 => ?_) (fun w v y y0 y1 y2 y3 y4 => ?_)
  · exact absurd ((gd x x0.1 x0.2).mp (z1 x x0.1 (by rw [t471]; exact x0.2)).1) gx
  · have y0' : y < M p 1 := by rw [← t471]; exact y0.2
    have e : y = x := by
      by_cases c : y < x
      · exact absurd ((gd y y0.1 y0').mpr (g y y0.1 c)) y2
      · by_cases c2 : x < y
        · exact absurd ((gd x x0.1 x0.2).mp (y1 x x0.1 c2)) gx
        · omega
    subst e
    rw [y3, (st y y0.1 y0').2.2.1]
    exact k w (oth w y4)
end
