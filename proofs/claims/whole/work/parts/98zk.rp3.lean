/-! Both readers together: rp3 -/
section
variable {p : Nat} {b : Int} {M τ N : Nat → Int → Int}
theorem NW_yfun (h : PR p b M τ) (w : NW p b M τ N) {g : Int} (g0 : 0 ≤ g) (g1 : g < M p 0) : yfun p N g := by
  have f := h.2.2.2.2.2.1 g g0 g1
  have c := f.2.2.1.1
  have sn := PR_sn h g0 g1
  have s7 := f.2.2.2.2.2.2.2
  have lnk := fun (l : Int) a d => PR_lk h g0 g1 (l := l) a d
  have ln := fun (l : Int) a d => PR_ln h (l := l) a d
  have oth := fun (l : Int) a d e => PR_oth h w (l := l) a d e
  have i := PR_in h
  obtain ⟨w1, w2, w3, w4, w5, w6⟩ := w
  have R : ∀ c : Nat, 469 ≤ c → c ≤ 499 → ¬ c = 485 → N c = τ c := w3
  have C : ∀ k : Nat, k ≤ 28 → ¬ k = 12 → N (p + k) = M (p + k) := fun k a c => w1 (p + k) (by omega) (by omega) (by omega)
  obtain ⟨n, y⟩ := f.2.2.2.2.2.2.1
  obtain ⟨⟨n1, n2, n3⟩, ⟨v8, p3, p4⟩, ⟨_, f5, f6⟩, ⟨_, f7, f8⟩, ⟨e1, e2, e3, e4⟩, _⟩ := f
  have en : 60 * b + M (p + 5) g + M (p + 6) g = 60 * b + (M (p + 5) g + M (p + 6) g) := by omega
  unfold yfun
  rw [w5, R 472 (by decide) (by decide) (by decide), R 475 (by decide) (by decide) (by decide), R 476 (by decide) (by decide) (by decide), R 477 (by decide) (by decide) (by decide), R 478 (by decide) (by decide) (by decide), R 479 (by decide) (by decide) (by decide), R 480 (by decide) (by decide) (by decide), R 482 (by decide) (by decide) (by decide), n3, f5, f6, f7, f8, en]
  refine ⟨n1, fun z => ?_, fun a => cn6 (M (p + 16)) (a - 60 * b).toNat, ?_, ?_, n, ?_⟩
  · obtain ⟨x1, x2, x3, x4⟩ := e4 z
    have l := ln (M (p + 5) g + M (p + 6) g - 1) (by omega) (by omega)
    rw [show 60 * b + (M (p + 5) g + M (p + 6) g) - 1 = 60 * b + (M (p + 5) g + M (p + 6) g - 1) by omega, ← l.1, ← l.2.2.1]
    exact ⟨x1, x2, x4⟩
  · show cn6 (M (p + 16)) (60 * b + M (p + 5) g - 60 * b).toNat = _
    rw [show 60 * b + M (p + 5) g - 60 * b = M (p + 5) g by omega]; exact s7.symm
  · show cn6 (M (p + 16)) (60 * b + (M (p + 5) g + M (p + 6) g) - 60 * b).toNat = _
    rw [show 60 * b + (M (p + 5) g + M (p + 6) g) - 60 * b = M (p + 5) g + M (p + 6) g by omega]; exact sn.symm
  · refine ySeg_rng (L := thL (τ 488) (τ 489)) (A := 60 * b + M (p + 5) g) (B := 60 * b + (M (p + 5) g + M (p + 6) g)) (fun r _ _ => ⟨?_, ?_⟩) (fun lv br r r0 r1 q => ?_) (fun lv br r q => q.2) n 0 0 _ _ (Int.le_refl _) (Int.le_refl _) y
    · show N 488 r = τ 488 r
      rw [R 488 (by decide) (by decide) (by decide)]
    · show N 489 r = τ 489 r
      rw [R 489 (by decide) (by decide) (by decide)]
    · obtain ⟨q1, q2, q3, q4, q5⟩ := lnk (r - 60 * b) (by omega) (by omega)
      have l := ln (r - 60 * b) q3.1 q3.2
      have ot := oth (r - 60 * b) q3.1 q3.2
      rw [show 60 * b + (r - 60 * b) = r by omega] at l ot
      obtain ⟨⟨o1, o2⟩, o3, o4⟩ := q
      obtain ⟨a1, a2, a3, a4, a5, a6, a7, a8⟩ := q1
      obtain ⟨x1, x2, x3, x4, x5, x6⟩ := q2
      rw [show 60 * b + (r - 60 * b) = r by omega] at x3 x4
      have su := cn6_suc (K := M (p + 16)) (n := r - 60 * b) q3.1
      rw [show r - 60 * b + 1 = r + 1 - 60 * b by omega] at su
      unfold yok
      rw [w5, C 22 (by decide) (by decide), C 23 (by decide) (by decide), C 24 (by decide) (by decide), R 487 (by decide) (by decide) (by decide), R 491 (by decide) (by decide) (by decide), R 480 (by decide) (by decide) (by decide), R 489 (by decide) (by decide) (by decide), R 479 (by decide) (by decide) (by decide), R 486 (by decide) (by decide) (by decide), R 481 (by decide) (by decide) (by decide), R 482 (by decide) (by decide) (by decide), R 483 (by decide) (by decide) (by decide), R 484 (by decide) (by decide) (by decide)]
      rw [← l.1, ← l.2.1, ← l.2.2.1, ← l.2.2.2.1, ← l.2.2.2.2.1, ← l.2.2.2.2.2.2.1, ← l.2.2.2.2.2.2.2.1, ← l.2.2.2.2.2.2.2.2]
      refine ⟨⟨o1, o1, o2⟩, ⟨rfl, x1, x2, x3⟩, fun z => ?_, fun z => ⟨(q4 z).1, ?_⟩, fun z => ⟨ot z, q5 z, ?_⟩, ⟨?_, a6, opn_x v8.2.2.2 a8.1, opn_x v8.2.2.2 a8.2.1, opn_x v8.2.2.2 a8.2.2⟩⟩
      · have w := x6 z
        exact ⟨by omega, by omega, w.1⟩
      · show cn6 (M (p + 16)) (r + 1 - 60 * b).toNat = cn6 (M (p + 16)) (r - 60 * b).toNat + 1
        rw [su, if_pos z]
      · show cn6 (M (p + 16)) (r + 1 - 60 * b).toNat = cn6 (M (p + 16)) (r - 60 * b).toNat
        rw [su, if_neg z]; omega
      · by_cases z : M (p + 16) (r - 60 * b) ≤ 6
        · have := a4 z; omega
        · have := a6 (by omega); omega
theorem NW_ipx (h : PR p b M τ) (w : NW p b M τ N) : ipx p N := by
  have i := PR_in h
  have to := fun (s : Int) a c => NW_to h w (s := s) a c
  have yf := fun (g : Int) a c => NW_yfun h w (g := g) a c
  have few := fun (g : Int) a c => PR_few h (g := g) a c
  have sn := fun (g : Int) a c => PR_sn h (g := g) a c
  have ln := fun (l : Int) a d => PR_ln h (l := l) a d
  obtain ⟨ib, i0, i60, i16, iat, iN, t469, t470, t471, t11⟩ := i
  obtain ⟨w1, w2, w3, w4, w5, w6⟩ := w
  have R : ∀ c : Nat, 469 ≤ c → c ≤ 499 → ¬ c = 485 → N c = τ c := w3
  have C : ∀ k : Nat, k ≤ 28 → ¬ k = 12 → N (p + k) = M (p + k) := fun k a c => w1 (p + k) (by omega) (by omega) (by omega)
  have F : ∀ g : Int, 0 ≤ g → g < M p 0 → FdP p b M τ g := h.2.2.2.2.2.1
  unfold ipx
  rw [w5, R 469 (by decide) (by decide) (by decide), R 471 (by decide) (by decide) (by decide), R 477 (by decide) (by decide) (by decide), R 478 (by decide) (by decide) (by decide), R 476 (by decide) (by decide) (by decide), R 479 (by decide) (by decide) (by decide), R 474 (by decide) (by decide) (by decide), R 497 (by decide) (by decide) (by decide), R 492 (by decide) (by decide) (by decide), C 7 (by decide) (by decide), C 8 (by decide) (by decide), C 10 (by decide) (by decide), C 14 (by decide) (by decide), t469, t471]
  refine ⟨fun f f0 f1 => ?_, fun g g0 g1 => ?_, fun s s0 s1 => ?_, ?_⟩
  · obtain ⟨_, ⟨_, p3, p4⟩, ⟨_, f5, f6⟩, ⟨_, f7, f8⟩, ⟨_, e2, _⟩, _⟩ := F f f0 f1
    rw [w6 f f0 (by omega), f7, f8, f6, p4]
    exact ⟨rfl, rfl, e2⟩
  · have w := few g g0 g1
    obtain ⟨_, ⟨v8, p3, p4⟩, ⟨_, f5, f6⟩, ⟨c7, f7, f8⟩, ⟨e1, e2, _⟩, _⟩ := F g g0 g1
    rw [f7, f8, f6, p4]
    refine ⟨⟨c7.1, c7.2.1, c7.2.2⟩, e1, ⟨by omega, ?_⟩, g, g0, g1, w6 g g0 (by omega)⟩
    rcases e1 with e | e <;> omega
  · have st := h.2.2.2.2.1.2.2.1 s s0 s1
    obtain ⟨⟨a1, a2, a3⟩, _, ⟨c1, c2, c3⟩, r2, r3, r4, r5, r6, r7, r8, r9⟩ := st
    obtain ⟨u1, u2, u3, u4⟩ := to s s0 s1
    rw [r7, r2, u3]
    exact ⟨rfl, ⟨c1.1, by omega⟩, ⟨by omega, by omega⟩, u1.1, u1.2⟩
  · unfold ipy
    rw [w5, R 469 (by decide) (by decide) (by decide), R 470 (by decide) (by decide) (by decide), R 471 (by decide) (by decide) (by decide), R 472 (by decide) (by decide) (by decide), R 498 (by decide) (by decide) (by decide), C 1 (by decide) (by decide), C 2 (by decide) (by decide), C 9 (by decide) (by decide), C 11 (by decide) (by decide), C 22 (by decide) (by decide), C 27 (by decide) (by decide), t469, t470, t471]
    refine ⟨fun f f0 f1 => ?_, yf, fun s s0 s1 => ⟨?_, ?_⟩, fun l l0 l1 => ?_⟩
    · obtain ⟨⟨n1, n2, n3⟩, ⟨v8, p3, p4⟩, ⟨c5, f5, f6⟩, ⟨c7, f7, f8⟩, ⟨e1, e2, e3, e4⟩, _⟩ := F f f0 f1
      rw [w6 f f0 (by omega), n3]
      refine ⟨rfl, n2, ?_⟩
      unfold ygiv
      rw [w5, R 479 (by decide) (by decide) (by decide), R 482 (by decide) (by decide) (by decide), R 475 (by decide) (by decide) (by decide), R 476 (by decide) (by decide) (by decide), f5, f6]
      rcases e1 with e | e
      · rw [if_pos e]; exact e3 e
      · rw [if_neg (by omega)]
        obtain ⟨x1, x2, x3, x4⟩ := e4 e
        rw [x3, (ln _ (by omega) (by omega)).2.2.1, show 60 * b + (M (p + 5) f + M (p + 6) f - 1) = 60 * b + M (p + 5) f + M (p + 6) f - 1 by omega]
    · have st := h.2.2.2.2.1.2.2.1 s s0 s1
      obtain ⟨_, ⟨b1, b2⟩, _, r2, r3, r4, r5, r6, r7, r8, r9⟩ := st
      rw [r8, w6 _ b1.1 (by omega)]
      exact ⟨b1, rfl⟩
    · have st := h.2.2.2.2.1.2.2.1 s s0 s1
      obtain ⟨⟨a1, a2, a3⟩, ⟨b1, b2⟩, ⟨c1, c2, c3⟩, r2, r3, r4, r5, r6, r7, r8, r9⟩ := st
      unfold ysite
      rw [w5, C 13 (by decide) (by decide), C 16 (by decide) (by decide), C 22 (by decide) (by decide), C 27 (by decide) (by decide), R 492 (by decide) (by decide) (by decide), R 493 (by decide) (by decide) (by decide), R 494 (by decide) (by decide) (by decide), R 498 (by decide) (by decide) (by decide), R 477 (by decide) (by decide) (by decide), R 478 (by decide) (by decide) (by decide), R 469 (by decide) (by decide) (by decide), R 470 (by decide) (by decide) (by decide), t469, t470, r2, r3, r4, r8]
      refine ⟨⟨by omega, a1.1, a1.2⟩, ⟨rfl, rfl⟩, fun g g0 g1 => ?_⟩
      obtain ⟨_, _, _, ⟨c7, f7, f8⟩, _⟩ := F g g0 g1
      rw [f7, f8]
      have bg := b2 g g0 g1
      by_cases e : g + 1 < M p 0
      · have z := (h.2.2.2.2.2.2.2.1 g g0 e).2
        have bn := b2 (g + 1) (by omega) e
        rw [z] at bn
        constructor
        · intro x
          refine ⟨bg.mpr (by omega), ?_⟩
          by_cases y : s < M (p + 7) g + M (p + 8) g
          · exact y
          · have := bn.mp (by omega); omega
        · intro ⟨x, y⟩
          have x1 := bg.mp x
          by_cases z1 : g + 1 ≤ M (p + 11) s
          · have := bn.mpr z1; omega
          · omega
      · have z := h.2.2.2.2.2.2.2.2.1 (by omega)
        rw [show M p 0 - 1 = g by omega] at z
        constructor
        · intro x
          exact ⟨bg.mpr (by omega), by omega⟩
        · intro ⟨x, y⟩
          have x1 := bg.mp x
          omega
    · obtain ⟨g, ⟨g0, g1⟩, g2, g3⟩ := PR_line h l0 l1
      have x := (PR_lk h g0 g1 g2 g3).2.1.2.2.2.2.1
      have c := (h.2.2.2.1.2.1 l l0 l1).2.1
      exact ⟨x, c⟩
end
