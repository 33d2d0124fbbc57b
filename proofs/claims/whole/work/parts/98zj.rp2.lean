/-! Both readers together: rp2 -/
section
variable {p : Nat} {b : Int} {M τ N : Nat → Int → Int}
theorem PR_ln (h : PR p b M τ) {l : Int} (l0 : 0 ≤ l) (l1 : l < M (p + 15) 13) : M (p + 16) l = τ 480 (60 * b + l) ∧ M (p + 17) l = τ 481 (60 * b + l) ∧ M (p + 18) l = τ 482 (60 * b + l) ∧ M (p + 19) l = τ 483 (60 * b + l) ∧ M (p + 20) l = τ 484 (60 * b + l) ∧ τ 485 (60 * b + l) = -2 ∧ M (p + 21) l = τ 486 (60 * b + l) ∧ M (p + 22) l = τ 487 (60 * b + l) ∧ M (p + 24) l = τ 491 (60 * b + l) := by
  obtain ⟨_, _, ⟨a0, a1, a2, a3, a4, a5, a6, a7, a11⟩, _⟩ := h
  exact ⟨a0 l l0 l1, a1 l l0 l1, a2 l l0 l1, a3 l l0 l1, a4 l l0 l1, a5 l l0 l1, a6 l l0 l1, a7 l l0 l1, a11 l l0 l1⟩
/-- what a line of a function is -/
theorem PR_lk (h : PR p b M τ) {g l : Int} (g0 : 0 ≤ g) (g1 : g < M p 0) (l0 : M (p + 5) g ≤ l) (l1 : l < M (p + 5) g + M (p + 6) g) : lk (M (p + 4) g) (M (p + 16)) (M (p + 17)) (M (p + 18)) (M (p + 19)) (M (p + 20)) (M (p + 21)) (M 98) l ∧ fx (τ 479 (8 * b + g)) (M (p + 5) g + M (p + 6) g) (M (p + 16)) (M (p + 24)) (M (p + 22)) (τ 488) (τ 489) (60 * b) l ∧ (0 ≤ l ∧ l < M (p + 15) 13) ∧ (M (p + 16) l = 6 → M (p + 21) l = cn6 (M (p + 16)) l.toNat ∧ 0 ≤ M (p + 21) l ∧ M (p + 21) l < M p 1 ∧ M (p + 13) (M (p + 21) l) = l) ∧ (¬ M (p + 16) l = 6 → M (p + 21) l = -2) := by
  have f := h.2.2.2.2.2.1 g g0 g1
  have c := f.2.2.1.1
  have z := f.2.2.2.2.2.1 l l0 l1
  have q := h.2.2.2.2.1.2.1 l (by omega) (by omega)
  refine ⟨z.1, z.2, ⟨by omega, by omega⟩, fun k => ⟨(q.1 k).1, (q.1 k).2.1, (q.1 k).2.2, ?_⟩, q.2⟩
  have s := h.2.2.2.2.1.2.2.1 (M (p + 21) l) (q.1 k).2.1 (q.1 k).2.2
  obtain ⟨⟨a1, a2, a3⟩, _⟩ := s
  have e1 := (h.2.2.2.2.1.2.1 _ a1.1 a1.2).1 a2
  have e2 := (q.1 k).1
  rw [a3] at e1
  -- the same number of calls ahead of both
  by_cases x : M (p + 13) (M (p + 21) l) < l
  · have m := cn6_le (K := M (p + 16)) (M (p + 13) (M (p + 21) l) + 1).toNat l.toNat (by omega)
    have y := cn6_suc (K := M (p + 16)) a1.1
    rw [if_pos a2] at y
    omega
  · by_cases x2 : l < M (p + 13) (M (p + 21) l)
    · have m := cn6_le (K := M (p + 16)) (l + 1).toNat (M (p + 13) (M (p + 21) l)).toNat (by omega)
      have y := cn6_suc (K := M (p + 16)) (show 0 ≤ l by omega)
      rw [if_pos k] at y
      omega
    · omega
theorem PR_oth (h : PR p b M τ) (w : NW p b M τ N) {l : Int} (l0 : 0 ≤ l) (l1 : l < M (p + 15) 13) (hk : ¬ M (p + 16) l = 6) : N 485 (60 * b + l) = -2 := by
  rw [w.2.2.2.1.2 (60 * b + l) (fun s s0 s1 q => ?_)]
  · exact (PR_ln h l0 l1).2.2.2.2.2.1
  · have s := h.2.2.2.2.1.2.2.1 s s0 s1
    obtain ⟨⟨a1, a2, a3⟩, _⟩ := s
    rw [show M (p + 13) s = l by omega] at a2
    exact hk a2
theorem opk_x {v x : Int} (hv : v ≤ 8) (h : opk v x) : (0 ≤ x ∧ x < 1000) ∨ (-700 ≤ x ∧ x ≤ -10 ∧ 0 - 10 - x < v) := by unfold opk at h; omega
theorem opn_x {v x : Int} (hv : v ≤ 8) (h : opn v x) : -20 ≤ x ∧ x ≤ 999 := by unfold opn opk at h; omega
theorem NW_ok (h : PR p b M τ) (w : NW p b M τ N) {g r : Int} (g0 : 0 ≤ g) (g1 : g < M p 0) (r0 : 60 * b + M (p + 5) g ≤ r) (r1 : r < 60 * b + (M (p + 5) g + M (p + 6) g)) : xok N (60 * b) (M (p + 15) 13) (60 * b) (M (p + 15) 13) (M p 0) (TOf N) 1 (M (p + 4) g) r ∧ (N 488 r = τ 488 r ∧ N 489 r = τ 489 r) ∧ ((N 480 r = 7 ∨ N 480 r = 8) ∨ (τ 488 r = 0 ∧ τ 489 r = 0)) ∧ (N 480 r = 8 → τ 489 r = 0) ∧ M (p + 22) (r - 60 * b) ≤ 4 := by
  have f := h.2.2.2.2.2.1 g g0 g1
  obtain ⟨q1, q2, q3, q4, q5⟩ := PR_lk h g0 g1 (l := r - 60 * b) (by omega) (by omega)
  have ln := PR_ln h q3.1 q3.2
  have oth := PR_oth h w q3.1 q3.2
  have to := fun (s : Int) a c => NW_to h w (s := s) a c
  rw [show 60 * b + (r - 60 * b) = r by omega] at ln oth
  obtain ⟨w1, w2, w3, w4, w5, w6⟩ := w
  have R : ∀ c : Nat, 469 ≤ c → c ≤ 499 → ¬ c = 485 → N c = τ c := w3
  have i := PR_in h
  have v8 := f.2.1.1
  obtain ⟨a1, a2, a3, a4, a5, a6, a7, a8⟩ := q1
  obtain ⟨x1, x2, x3, x4, x5, x6⟩ := q2
  rw [show 60 * b + (r - 60 * b) = r by omega] at x3 x4
  rw [ln.1] at a1 a2 a3 a4 a5 a6 a7 q4 q5 oth x2 x4 x6
  have sz := PR_end h q3.1 q3.2
  have cl := (h.2.2.2.1.2.1 _ q3.1 q3.2).2.2
  rw [show 60 * b + (r - 60 * b) = r by omega] at sz
  have m1 := cl.1.1
  have m2 := cl.2.1
  have y := f.2.2.2.2.2.2.1
  obtain ⟨lv, br, _, ok⟩ := (show ∃ lv br : Int, 0 ≤ lv ∧ okS (M (p + 22)) (M (p + 23)) (τ 488) (τ 489) (60 * b) lv br r by
    obtain ⟨n, y⟩ := y
    exact ySeg_at n _ _ _ _ y r0 r1)
  have t0 := ok.2
  unfold xok xLine
  rw [w5, R 480 (by decide) (by decide) (by decide), R 481 (by decide) (by decide) (by decide), R 482 (by decide) (by decide) (by decide), R 483 (by decide) (by decide) (by decide), R 484 (by decide) (by decide) (by decide), R 486 (by decide) (by decide) (by decide), R 488 (by decide) (by decide) (by decide), R 489 (by decide) (by decide) (by decide), R 473 (by decide) (by decide) (by decide), R 474 (by decide) (by decide) (by decide), R 475 (by decide) (by decide) (by decide), R 476 (by decide) (by decide) (by decide)]
  refine ⟨⟨⟨⟨by omega, by omega⟩, a1, ⟨t0.1, by omega, t0.2, by omega⟩, fun q => ?_, fun q => ?_, fun q => ?_, fun q => ?_⟩, fun q => absurd q (by decide), fun _ => ⟨by omega, by omega⟩, fun q => ?_⟩, ⟨rfl, rfl⟩, ?_, ?_, x5.2⟩
  · rw [← ln.2.2.1]; exact opk_x v8.2.2.2 (a2 q)
  · rw [← ln.2.2.2.1]; exact opk_x v8.2.2.2 (a3 q)
  · rw [← ln.2.1]; have := a4 q; omega
  · obtain ⟨s1, s2, s3, s4⟩ := q4 q
    rw [← ln.2.2.2.2.2.2.1]
    obtain ⟨u1, u2, u3, u4⟩ := to (M (p + 21) (r - 60 * b)) s2 s3
    rw [s4, show 60 * b + (r - 60 * b) = r by omega] at u3
    rw [u3]
    have fc := h.2.2.2.2.2.1 _ u1.1 u1.2
    rw [fc.2.1.2.1, fc.2.1.2.2, fc.2.2.1.2.1, fc.2.2.1.2.2]
    have c1 := fc.2.1.1
    have c2 := fc.2.2.1.1
    have k := a7 q
    rw [← u2] at k
    refine ⟨⟨u1.1, by omega⟩, ⟨s2, by omega⟩, ⟨c1.1, c1.2.1, c1.2.2.1, c1.2.2.2⟩, ⟨c2.1, by omega, c2.2.1, by omega⟩, fun z => ?_, fun z => ?_, fun z => ?_⟩
    · rw [← ln.2.2.1]; exact opk_x v8.2.2.2 (k.1 z)
    · rw [← ln.2.2.2.1]; exact opk_x v8.2.2.2 (k.2.1 z)
    · rw [← ln.2.2.2.2.1]; exact opk_x v8.2.2.2 (k.2.2 z)
  · obtain ⟨s1, s2, s3, s4⟩ := q4 q
    obtain ⟨u1, u2, u3, u4⟩ := to (M (p + 21) (r - 60 * b)) s2 s3
    rw [s4, show 60 * b + (r - 60 * b) = r by omega] at u3
    rw [← ln.2.2.2.2.2.2.1, u3]
    exact ⟨u1.2, u4⟩
  · by_cases z : τ 480 r = 7 ∨ τ 480 r = 8
    · exact Or.inl z
    · exact Or.inr (x4 z)
  · intro z
    rcases x1 with e | e
    · exact x3 e
    · have := x2 e
      omega
theorem NW_iprog (h : PR p b M τ) (w : NW p b M τ N) : iprog p N := by
  have i := PR_in h
  have to := fun (s : Int) a c => NW_to h w (s := s) a c
  have ok := fun (g r : Int) a c d e => NW_ok h w (g := g) (r := r) a c d e
  obtain ⟨ib, i0, i60, i16, iat, iN, t469, t470, t471, t11⟩ := i
  obtain ⟨w1, w2, w3, w4, w5, w6⟩ := w
  have R : ∀ c : Nat, 469 ≤ c → c ≤ 499 → ¬ c = 485 → N c = τ c := w3
  have C : ∀ k : Nat, k ≤ 28 → ¬ k = 12 → N (p + k) = M (p + k) := fun k a c => w1 (p + k) (by omega) (by omega) (by omega)
  have C0 : N p = M p := w1 p (by omega) (by omega) (by omega)
  unfold iprog
  rw [w5, C0, C 15 (by decide) (by decide), R 469 (by decide) (by decide) (by decide), R 470 (by decide) (by decide) (by decide), R 471 (by decide) (by decide) (by decide), t469, t470, t471]
  refine ⟨ib, ⟨rfl, rfl, rfl⟩, i16, i60, ?_, ?_, fun g g0 g1 => ?_, fun g g0 g1 => ?_⟩
  · unfold cCode
    rw [C 16 (by decide) (by decide), C 17 (by decide) (by decide), C 18 (by decide) (by decide), C 19 (by decide) (by decide), C 20 (by decide) (by decide), C 21 (by decide) (by decide), C 25 (by decide) (by decide), C 26 (by decide) (by decide), R 480 (by decide) (by decide) (by decide), R 481 (by decide) (by decide) (by decide), R 482 (by decide) (by decide) (by decide), R 483 (by decide) (by decide) (by decide), R 484 (by decide) (by decide) (by decide), R 486 (by decide) (by decide) (by decide), R 488 (by decide) (by decide) (by decide), R 489 (by decide) (by decide) (by decide)]
    intro l l0 l1
    have ln := PR_ln h l0 l1
    have e := PR_end h l0 l1
    obtain ⟨g, ⟨g0, g1⟩, g2, g3⟩ := PR_line h l0 l1
    have q := (PR_lk h g0 g1 g2 g3).1.2.2.2.2.1
    rw [show l + 60 * b = 60 * b + l by omega]
    refine ⟨ln.1, ln.2.1, ln.2.2.1, ln.2.2.2.1, ln.2.2.2.2.1, ln.2.2.2.2.2.2.1, e.1, e.2, fun z => ?_⟩
    rw [← ln.2.2.2.1]
    rw [← ln.1] at z
    exact q z
  · refine ⟨fun f f0 f1 => ?_, fun s s0 s1 s2 => ?_, i0, fun a c a0 a1 c0 c1 e => ?_⟩
    · have q := h.2.2.2.2.2.1 f f0 f1
      rw [w6 f f0 (by omega), w5, C 3 (by decide) (by decide), C 4 (by decide) (by decide), C 5 (by decide) (by decide), C 6 (by decide) (by decide), R 473 (by decide) (by decide) (by decide), R 474 (by decide) (by decide) (by decide), R 475 (by decide) (by decide) (by decide), R 476 (by decide) (by decide) (by decide)]
      exact ⟨⟨f0, f1⟩, q.2.1.2.1.symm, q.2.1.2.2.symm, q.2.2.1.2.1.symm, q.2.2.1.2.2.symm⟩
    · by_cases e : s < M p 1
      · obtain ⟨u1, u2, u3, u4⟩ := to s s0 e
        rw [u4, w6 _ u1.1 (by omega)]
        exact ⟨u1.1, u1.2, rfl⟩
      · exfalso
        have z : TOf N s = -1 := by
          unfold TOf
          rw [w5, R 471 (by decide) (by decide) (by decide), t471, if_neg e]
        omega
    · rw [w6 a a0 a1, w6 c c0 c1] at e; exact e
  · have q := h.2.2.2.2.2.1 g g0 g1
    rw [R 474 (by decide) (by decide) (by decide), R 475 (by decide) (by decide) (by decide), R 476 (by decide) (by decide) (by decide), q.2.1.2.2, q.2.2.1.2.1, q.2.2.1.2.2]
    obtain ⟨n, y⟩ := q.2.2.2.2.2.2.1
    rw [show 60 * b + M (p + 5) g + M (p + 6) g = 60 * b + (M (p + 5) g + M (p + 6) g) by omega]
    exact ⟨n, xS_of (dp := M (p + 22)) (br := M (p + 23)) (th := τ 488) (el := τ 489) (o := 60 * b) (fun r r0 r1 => ok g r g0 g1 r0 r1) n 0 0 _ _ (Int.le_refl _) (Int.le_refl _) y⟩
  · have q := h.2.2.2.2.2.1 g g0 g1
    rw [R 473 (by decide) (by decide) (by decide), R 474 (by decide) (by decide) (by decide), R 475 (by decide) (by decide) (by decide), R 476 (by decide) (by decide) (by decide), q.2.1.2.1, q.2.1.2.2, q.2.2.1.2.1, q.2.2.1.2.2]
    have c1 := q.2.1.1
    have c2 := q.2.2.1.1
    exact ⟨c1.1, c1.2.1, c1.2.2.1, c1.2.2.2, c2.1, by omega, c2.2.1, by omega⟩
end
