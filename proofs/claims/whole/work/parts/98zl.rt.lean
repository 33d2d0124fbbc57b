/-! Both readers together: rt -/
/-- the reference's memory: in the half that is told as it was -/
def FrH (M A : Nat → Int → Int) : Prop := A 467 11 = M 467 11 ∧ (∀ c : Nat, 469 ≤ c → c ≤ 471 → A c (M 467 11) = M c (M 467 11)) ∧
  (∀ (c : Nat) (j : Int), 472 ≤ c → c ≤ 479 → 8 * M 467 11 ≤ j → j < 8 * M 467 11 + 8 → A c j = M c j) ∧
  (∀ (c : Nat) (j : Int), 480 ≤ c → c ≤ 491 → 60 * M 467 11 ≤ j → j < 60 * M 467 11 + 60 → A c j = M c j) ∧
  (∀ (c : Nat) (j : Int), 492 ≤ c → c ≤ 499 → 16 * M 467 11 ≤ j → j < 16 * M 467 11 + 16 → A c j = M c j) ∧ (A 503 = M 503 ∧ A 504 = M 504)
section
variable {p : Nat} {M A : Nat → Int → Int}
theorem frH_to (f : FrH M A) (h : iprog p M) (hx : ipx p M) : ∀ s : Int, 0 ≤ s → TOf A s = TOf M s := by
  intro s s0
  obtain ⟨i1, ⟨i2, i2b, i2c⟩, i3, i4, _⟩ := h
  obtain ⟨e, B, F, R, S, _⟩ := f
  unfold TOf
  rw [e, B 471 (by decide) (by decide)]
  split
  · next z =>
    have y := (hx.2.2.2.2.2.1 s s0 z).2.1
    rw [S 492 _ (by decide) (by decide) (by omega) (by omega)]
    exact R 485 _ (by decide) (by decide) (by omega) (by omega)
  · rfl
theorem iprog_ph (h : iprog p M) {g r : Int} (g0 : 0 ≤ g) (g1 : g < M 469 (M 467 11)) (r0 : 60 * M 467 11 + M 475 (8 * M 467 11 + g) ≤ r) (r1 : r < 60 * M 467 11 + M 475 (8 * M 467 11 + g) + M 476 (8 * M 467 11 + g)) : (60 * M 467 11 ≤ r ∧ r < 60 * M 467 11 + 60) ∧ 0 ≤ M 488 r ∧ 0 ≤ M 489 r := by
  obtain ⟨i1, ⟨i2, i2b, i2c⟩, i3, i4, i5, i6, i7, i8⟩ := h
  obtain ⟨n, q⟩ := i7 g g0 g1
  have z := xSeg_all n _ _ _ q r0 r1
  have y := z.1.2.2.1 (by decide)
  omega
theorem frH_giv (f : FrH M A) (h : iprog p M) (hx : ipx p M) {g : Int} (g0 : 0 ≤ g) (g1 : g < M 469 (M 467 11)) : ygiv A g = ygiv M g := by
  have g8 : g < 8 := by have := h.2.2.2.2.2.1.2.2.1.2; omega
  obtain ⟨e, B, F, R, S, _⟩ := f
  unfold ygiv
  rw [e, F 475 _ (by decide) (by decide) (by omega) (by omega), F 476 _ (by decide) (by decide) (by omega) (by omega), F 479 _ (by decide) (by decide) (by omega) (by omega)]
  split
  · rfl
  · next z =>
    have z1 : M 479 (8 * M 467 11 + g) = 1 := (hx.2.1 g g0 g1).2.1.resolve_left z
    have y := (hx.2.2.2.2.1 g g0 g1).2.1 z1
    have w := (iprog_ph h g0 g1 (r := 60 * M 467 11 + M 475 (8 * M 467 11 + g) + M 476 (8 * M 467 11 + g) - 1) (by omega) (by omega)).1
    exact R 482 _ (by decide) (by decide) w.1 w.2
theorem iprog_frH (hp : p + 40 < 467) (l : ∀ c : Nat, p ≤ c → c ≤ p + 28 → A c = M c) (f : FrH M A) (h : iprog p M) (hx : ipx p M) : iprog p A := by
  have to := frH_to f h hx
  have pl := fun (g : Int) (a : 0 ≤ g) (b : g < M 469 (M 467 11)) (r : Int) r0 r1 => iprog_ph h (g := g) (r := r) a b r0 r1
  obtain ⟨i1, ⟨i2, i2b, i2c⟩, i3, i4, i5, i6, i7, i8⟩ := h
  obtain ⟨e, B, F0, R, S, ⟨D3, D4⟩⟩ := f
  have n8 := i6.2.2.1
  have F : ∀ (c : Nat) (g : Int), 472 ≤ c → c ≤ 479 → 0 ≤ g → g < 8 → A c (8 * M 467 11 + g) = M c (8 * M 467 11 + g) := fun c g a b g0 g1 => F0 c _ a b (by omega) (by omega)
  have hn : M 470 (M 467 11) ≤ 60 := by omega
  unfold iprog
  rw [e, B 469 (by decide) (by decide), B 470 (by decide) (by decide), B 471 (by decide) (by decide), l p (by omega) (by omega), l (p + 15) (by omega) (by omega)]
  refine ⟨i1, ⟨i2, i2b, i2c⟩, i3, i4, fun k k0 k1 => ?_, ?_, fun g g0 g1 => ?_, fun g g0 g1 => ?_⟩
  · rw [R 480 _ (by decide) (by decide) (by omega) (by omega), R 481 _ (by decide) (by decide) (by omega) (by omega), R 482 _ (by decide) (by decide) (by omega) (by omega), R 483 _ (by decide) (by decide) (by omega) (by omega), R 484 _ (by decide) (by decide) (by omega) (by omega), R 486 _ (by decide) (by decide) (by omega) (by omega), R 488 _ (by decide) (by decide) (by omega) (by omega), R 489 _ (by decide) (by decide) (by omega) (by omega), l (p + 16) (by omega) (by omega), l (p + 17) (by omega) (by omega), l (p + 18) (by omega) (by omega), l (p + 19) (by omega) (by omega), l (p + 20) (by omega) (by omega), l (p + 21) (by omega) (by omega), l (p + 25) (by omega) (by omega), l (p + 26) (by omega) (by omega)]
    exact i5 k k0 k1
  · unfold cProg at i6 ⊢
    rw [e, D3, l (p + 3) (by omega) (by omega), l (p + 4) (by omega) (by omega), l (p + 5) (by omega) (by omega), l (p + 6) (by omega) (by omega), l (p + 12) (by omega) (by omega)]
    refine ⟨fun f f0 f1 => ?_, fun s s0 s1 t => ?_, i6.2.2⟩
    · have w := i6.1 f f0 f1
      have w8 : M 503 f < 8 := by have := w.1.2; omega
      rw [F 473 _ (by decide) (by decide) w.1.1 w8, F 474 _ (by decide) (by decide) w.1.1 w8, F 475 _ (by decide) (by decide) w.1.1 w8, F 476 _ (by decide) (by decide) w.1.1 w8]
      exact w
    · rw [to s s0] at t ⊢
      exact i6.2.1 s s0 s1 t
  · obtain ⟨n, q⟩ := i7 g g0 g1
    have g8 : g < 8 := by omega
    rw [F 474 _ (by decide) (by decide) g0 g8, F 475 _ (by decide) (by decide) g0 g8, F 476 _ (by decide) (by decide) g0 g8]
    refine ⟨n, xSeg_rng (fun r r0 r1 => ?_) (fun r r0 r1 z => ?_) n _ _ _ (Int.le_refl _) (Int.le_refl _) q⟩
    · have w := (pl g g0 g1 _ r0 r1).1
      exact ⟨R 480 _ (by decide) (by decide) w.1 w.2, R 488 _ (by decide) (by decide) w.1 w.2, R 489 _ (by decide) (by decide) w.1 w.2⟩
    · have w := (pl g g0 g1 _ r0 r1).1
      obtain ⟨z1, z2, z3, z4⟩ := z
      have xl : xLine (M 474 (8 * M 467 11 + g)) 0 (A 467 11) (A 480) (A 481) (A 482) (A 483) (A 484) (A 485) (A 486) (A 488) (A 489) (A 473) (A 474) (A 475) (A 476) r := by
        unfold xLine at z1 ⊢
        obtain ⟨u1, u2, u3, u4, u5, u6, u7⟩ := z1
        rw [e, R 480 r (by decide) (by decide) w.1 w.2, R 481 r (by decide) (by decide) w.1 w.2, R 482 r (by decide) (by decide) w.1 w.2, R 483 r (by decide) (by decide) w.1 w.2, R 484 r (by decide) (by decide) w.1 w.2, R 485 r (by decide) (by decide) w.1 w.2, R 486 r (by decide) (by decide) w.1 w.2, R 488 r (by decide) (by decide) w.1 w.2, R 489 r (by decide) (by decide) w.1 w.2]
        refine ⟨u1, u2, u3, u4, u5, u6, fun k => ?_⟩
        obtain ⟨v1, v2⟩ := u7 k
        rw [F 473 _ (by decide) (by decide) v1.1 v1.2, F 474 _ (by decide) (by decide) v1.1 v1.2, F 475 _ (by decide) (by decide) v1.1 v1.2, F 476 _ (by decide) (by decide) v1.1 v1.2]
        exact ⟨v1, v2⟩
      refine ⟨xl, z2, z3, fun k => ?_⟩
      rw [R 480 r (by decide) (by decide) w.1 w.2] at k
      rw [R 485 r (by decide) (by decide) w.1 w.2, R 486 r (by decide) (by decide) w.1 w.2, to _ (z1.2.2.2.2.2.2 k).2.1.1]
      exact z4 k
  · have g8 : g < 8 := by omega
    rw [F 473 _ (by decide) (by decide) g0 g8, F 474 _ (by decide) (by decide) g0 g8, F 475 _ (by decide) (by decide) g0 g8, F 476 _ (by decide) (by decide) g0 g8]
    exact i8 g g0 g1
theorem ipx_frH (hp : p + 40 < 467) (l : ∀ c : Nat, p ≤ c → c ≤ p + 28 → A c = M c) (f : FrH M A) (h : iprog p M) (hx : ipx p M) : ipx p A := by
  have gv := fun (g : Int) a b => frH_giv f h hx (g := g) a b
  have pl := fun (g : Int) (a : 0 ≤ g) (b : g < M 469 (M 467 11)) (r : Int) r0 r1 => iprog_ph h (g := g) (r := r) a b r0 r1
  obtain ⟨i1, ⟨i2, i2b, i2c⟩, i3, i4, i5, i6, i7, i8⟩ := h
  obtain ⟨e, B, F0, R, S0, ⟨D3, D4⟩⟩ := f
  have n8 := i6.2.2.1
  have F : ∀ (c : Nat) (g : Int), 472 ≤ c → c ≤ 479 → 0 ≤ g → g < M 469 (M 467 11) → A c (8 * M 467 11 + g) = M c (8 * M 467 11 + g) := fun c g a b g0 g1 => F0 c _ a b (by omega) (by omega)
  have S : ∀ (c : Nat) (s : Int), 492 ≤ c → c ≤ 499 → 0 ≤ s → s < M 471 (M 467 11) → A c (16 * M 467 11 + s) = M c (16 * M 467 11 + s) := fun c s a b s0 s1 => S0 c _ a b (by omega) (by omega)
  have hn : M 470 (M 467 11) ≤ 60 := by omega
  obtain ⟨x1, x2, x3, ⟨y1, y2, y3, y4⟩⟩ := hx
  have pi := fun (f : Int) a b => (i6.1 f a b).1
  unfold ipx ipy
  rw [e, B 469 (by decide) (by decide), B 470 (by decide) (by decide), B 471 (by decide) (by decide), D3, l (p + 7) (by omega) (by omega), l (p + 8) (by omega) (by omega), l (p + 10) (by omega) (by omega), l (p + 14) (by omega) (by omega), l (p + 1) (by omega) (by omega), l (p + 2) (by omega) (by omega), l (p + 9) (by omega) (by omega), l (p + 11) (by omega) (by omega), l (p + 22) (by omega) (by omega), l (p + 27) (by omega) (by omega)]
  refine ⟨fun f f0 f1 => ?_, fun g g0 g1 => ?_, fun s s0 s1 => ?_, fun g g0 g1 => ?_, fun g g0 g1 => ?_, fun s s0 s1 => ⟨?_, ?_⟩, ?_⟩
  · obtain ⟨w0, w1⟩ := pi f f0 f1
    rw [F 477 _ (by decide) (by decide) w0 w1, F 478 _ (by decide) (by decide) w0 w1, F 476 _ (by decide) (by decide) w0 w1, F 479 _ (by decide) (by decide) w0 w1, F 474 _ (by decide) (by decide) w0 w1]
    exact x1 f f0 f1
  · rw [F 477 _ (by decide) (by decide) g0 g1, F 478 _ (by decide) (by decide) g0 g1, F 476 _ (by decide) (by decide) g0 g1, F 479 _ (by decide) (by decide) g0 g1, F 474 _ (by decide) (by decide) g0 g1]
    exact x2 g g0 g1
  · have y := (y3 s s0 s1).2.1
    rw [S 492 _ (by decide) (by decide) s0 s1, S 497 _ (by decide) (by decide) s0 s1, R 485 _ (by decide) (by decide) (by omega) (by omega)]
    exact x3 s s0 s1
  · have w := pi g g0 g1
    rw [gv _ w.1 w.2, F 472 _ (by decide) (by decide) w.1 w.2]
    exact y1 g g0 g1
  · obtain ⟨u1, u2, SN, u3, u4, n, u5⟩ := y2 g g0 g1
    unfold yfun
    rw [e, F 472 _ (by decide) (by decide) g0 g1, F 475 _ (by decide) (by decide) g0 g1, F 476 _ (by decide) (by decide) g0 g1, F 477 _ (by decide) (by decide) g0 g1, F 478 _ (by decide) (by decide) g0 g1, F 479 _ (by decide) (by decide) g0 g1]
    refine ⟨u1, fun z => ?_, SN, u3, u4, n, ySeg_rngb (fun r r0 r1 => ?_) (fun lv br r r0 r1 q => ?_) (fun r r0 r1 => (pl g g0 g1 _ r0 r1).2) n _ _ _ _ (Int.le_refl _) (Int.le_refl _) u5⟩
    · have y := u2 z
      have w := (pl g g0 g1 (60 * M 467 11 + M 475 (8 * M 467 11 + g) + M 476 (8 * M 467 11 + g) - 1) (by omega) (by omega)).1
      rw [R 480 _ (by decide) (by decide) w.1 w.2, R 482 _ (by decide) (by decide) w.1 w.2]
      exact y
    · have w := (pl g g0 g1 _ r0 r1).1
      exact ⟨R 488 _ (by decide) (by decide) w.1 w.2, R 489 _ (by decide) (by decide) w.1 w.2⟩
    · have w := (pl g g0 g1 _ r0 r1).1
      unfold yok at q ⊢
      rw [e, l (p + 22) (by omega) (by omega), l (p + 23) (by omega) (by omega), l (p + 24) (by omega) (by omega), F 479 _ (by decide) (by decide) g0 g1, R 480 r (by decide) (by decide) w.1 w.2, R 481 r (by decide) (by decide) w.1 w.2, R 482 r (by decide) (by decide) w.1 w.2, R 483 r (by decide) (by decide) w.1 w.2, R 484 r (by decide) (by decide) w.1 w.2, R 485 r (by decide) (by decide) w.1 w.2, R 486 r (by decide) (by decide) w.1 w.2, R 487 r (by decide) (by decide) w.1 w.2, R 489 r (by decide) (by decide) w.1 w.2, R 491 r (by decide) (by decide) w.1 w.2]
      exact q
  · rw [S 498 _ (by decide) (by decide) s0 s1]
    exact (y3 s s0 s1).1
  · unfold ysite
    rw [e, B 469 (by decide) (by decide), B 470 (by decide) (by decide), S 492 _ (by decide) (by decide) s0 s1, S 493 _ (by decide) (by decide) s0 s1, S 494 _ (by decide) (by decide) s0 s1, S 498 _ (by decide) (by decide) s0 s1, l (p + 13) (by omega) (by omega), l (p + 16) (by omega) (by omega), l (p + 22) (by omega) (by omega), l (p + 27) (by omega) (by omega)]
    have y := (y3 s s0 s1).2
    refine ⟨y.1, y.2.1, fun g g0 g1 => ?_⟩
    rw [F 477 _ (by decide) (by decide) g0 g1, F 478 _ (by decide) (by decide) g0 g1]
    exact y.2.2 g g0 g1
  · exact y4
end
