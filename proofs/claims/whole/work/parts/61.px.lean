/-! The program alike on both sides: what trees need of it -/
def ipx (p : Nat) (M : Nat → Int → Int) : Prop :=
  (∀ f : Int, 0 ≤ f → f < M 469 (M 467 11) → M (p + 7) f = M 477 (8 * M 467 11 + M 503 f) ∧ M (p + 8) f = M 478 (8 * M 467 11 + M 503 f) ∧ M (p + 10) f = M 476 (8 * M 467 11 + M 503 f) - M 479 (8 * M 467 11 + M 503 f) + M 474 (8 * M 467 11 + M 503 f)) ∧
  (∀ g : Int, 0 ≤ g → g < M 469 (M 467 11) → (0 ≤ M 477 (8 * M 467 11 + g) ∧ 0 ≤ M 478 (8 * M 467 11 + g) ∧ M 477 (8 * M 467 11 + g) + M 478 (8 * M 467 11 + g) ≤ M 471 (M 467 11)) ∧ (M 479 (8 * M 467 11 + g) = 0 ∨ M 479 (8 * M 467 11 + g) = 1) ∧ (M 478 (8 * M 467 11 + g) ≤ M 476 (8 * M 467 11 + g) - M 479 (8 * M 467 11 + g) + M 474 (8 * M 467 11 + g) ∧ M 478 (8 * M 467 11 + g) ≤ M 476 (8 * M 467 11 + g)) ∧ ∃ f : Int, 0 ≤ f ∧ f < M 469 (M 467 11) ∧ M 503 f = g) ∧
  (∀ s : Int, 0 ≤ s → s < M 471 (M 467 11) → M (p + 14) s = M 497 (16 * M 467 11 + s) ∧ (0 ≤ M 497 (16 * M 467 11 + s) ∧ M 497 (16 * M 467 11 + s) ≤ 400) ∧ (0 ≤ M 492 (16 * M 467 11 + s) ∧ M 492 (16 * M 467 11 + s) < 520) ∧ 0 ≤ M 485 (M 492 (16 * M 467 11 + s)) ∧ M 485 (M 492 (16 * M 467 11 + s)) < M 469 (M 467 11)) ∧ ipy p M
theorem px_33 {M : Nat → Int → Int} (hip : iprog 33 M) (hx : ipx 33 M) (hs : iset M) : (tPg (tD (M 40) (M 41) (M 45) (M 43) (M 37) (M 47) (M 22) (M 23) (M 19)) (M 33 0) (M 33 1) ∧ ∀ xf : Int, 0 ≤ xf → xf < M 33 0 → 0 ≤ M 41 xf ∧ M 41 xf ≤ M 39 xf ∧ M 39 xf ≤ 60) ∧ (tPg (tD (fun xf => (M 477 (8 * (M 467 11) + xf))) (fun xf => (M 478 (8 * (M 467 11) + xf))) (fun xs => (M 485 (M 492 (16 * (M 467 11) + xs)))) (fun xf => (M 476 (8 * (M 467 11) + xf)) - (M 479 (8 * (M 467 11) + xf)) + (M 474 (8 * (M 467 11) + xf))) (fun xf => (M 474 (8 * (M 467 11) + xf))) (fun xs => (M 497 (16 * (M 467 11) + xs))) (M 507) (M 508) (M 506)) (M 469 (M 467 11)) (M 471 (M 467 11))) ∧ (∀ xs : Int, 0 ≤ xs → xs < (M 471 (M 467 11)) → 0 ≤ (M 492 (16 * (M 467 11) + xs)) ∧ (M 492 (16 * (M 467 11) + xs)) < 520) ∧ (∀ xf : Int, 0 ≤ xf → xf < (M 469 (M 467 11)) → (M 479 (8 * (M 467 11) + xf)) = 0 ∨ (M 479 (8 * (M 467 11) + xf)) = 1) ∧ (∀ xf : Int, 0 ≤ xf → xf < (M 469 (M 467 11)) → 0 ≤ (M 503 xf) ∧ (M 503 xf) < (M 469 (M 467 11))) ∧ (∀ xf : Int, 0 ≤ xf → xf < (M 469 (M 467 11)) → 0 ≤ (M 478 (8 * (M 467 11) + xf)) ∧ (M 478 (8 * (M 467 11) + xf)) ≤ (M 476 (8 * (M 467 11) + xf)) ∧ (M 476 (8 * (M 467 11) + xf)) ≤ 60) := by
  obtain ⟨i1, ⟨i2, i2b, i2c⟩, i3, i4, i5, ⟨i6, i6b, i6c, i6d⟩, i7, i8⟩ := hip
  obtain ⟨x1, x2, x3, x4⟩ := hx
  have i6 : ∀ f : Int, 0 ≤ f → f < M 469 (M 467 11) → (0 ≤ M 503 f ∧ M 503 f < M 469 (M 467 11)) ∧ M 36 f = M 473 (8 * M 467 11 + M 503 f) ∧ M 37 f = M 474 (8 * M 467 11 + M 503 f) ∧ M 38 f = M 475 (8 * M 467 11 + M 503 f) ∧ M 39 f = M 476 (8 * M 467 11 + M 503 f) := i6
  have x1 : ∀ f : Int, 0 ≤ f → f < M 469 (M 467 11) → M 40 f = M 477 (8 * M 467 11 + M 503 f) ∧ M 41 f = M 478 (8 * M 467 11 + M 503 f) ∧ M 43 f = M 476 (8 * M 467 11 + M 503 f) - M 479 (8 * M 467 11 + M 503 f) + M 474 (8 * M 467 11 + M 503 f) := x1
  have x3 : ∀ s : Int, 0 ≤ s → s < M 471 (M 467 11) → M 47 s = M 497 (16 * M 467 11 + s) ∧ (0 ≤ M 497 (16 * M 467 11 + s) ∧ M 497 (16 * M 467 11 + s) ≤ 400) ∧ (0 ≤ M 492 (16 * M 467 11 + s) ∧ M 492 (16 * M 467 11 + s) < 520) ∧ 0 ≤ M 485 (M 492 (16 * M 467 11 + s)) ∧ M 485 (M 492 (16 * M 467 11 + s)) < M 469 (M 467 11) := x3
  have set4 : ∀ r : Int → Int, (∀ k : Int, 0 ≤ k → k < 4 → isSet k (r k)) → (0 ≤ r 0 ∧ r 0 ≤ 300) ∧ (1 ≤ r 1 ∧ r 1 ≤ 50) ∧ 0 ≤ r 2 ∧ r 2 ≤ 3 := fun r h => by
    have a := h 0 (by decide) (by decide)
    have b := h 1 (by decide) (by decide)
    have c := h 2 (by decide) (by decide)
    unfold isSet at a b c
    omega
  have to : ∀ s : Int, 0 ≤ s → s < M 471 (M 467 11) → TOf M s = M 485 (M 492 (16 * M 467 11 + s)) := fun s _ s1 => if_pos s1
  have ns : 0 ≤ M 471 (M 467 11) ∧ M 471 (M 467 11) ≤ 16 := by rw [← i2b]; exact i3
  refine ⟨⟨⟨⟨by rw [i2]; exact i6c, i3⟩, fun f f0 f1 => ?_, fun s s0 s1 => ?_, ?_⟩, fun f f0 f1 => ?_⟩, ⟨⟨i6c, ns⟩, fun g g0 g1 => ?_, fun s s0 s1 => ?_, ?_⟩, fun s s0 s1 => (x3 s s0 s1).2.2.1, fun g g0 g1 => (x2 g g0 g1).2.1, fun f f0 f1 => (i6 f f0 f1).1, fun g g0 g1 => ?_⟩
  · have f1' : f < M 469 (M 467 11) := by rw [← i2]; exact f1
    have a := x1 f f0 f1'
    have b := i6 f f0 f1'
    have c := x2 _ b.1.1 b.1.2
    have d := i8 _ b.1.1 b.1.2
    show (0 ≤ M 40 f ∧ 0 ≤ M 41 f ∧ M 40 f + M 41 f ≤ M 33 1) ∧ (0 ≤ M 43 f ∧ M 43 f ≤ 68 ∧ M 41 f ≤ M 43 f) ∧ 0 ≤ M 37 f ∧ M 37 f ≤ 8
    rw [a.1, a.2.1, a.2.2, b.2.2.1, i2b]
    omega
  · have s1' : s < M 471 (M 467 11) := by rw [← i2b]; exact s1
    have a := x3 s s0 s1'
    have t := i6b s s0 (by omega) (by rw [to s s0 s1']; exact a.2.2.2.1)
    show (0 ≤ M 45 s ∧ M 45 s < M 33 0) ∧ 0 ≤ M 47 s ∧ M 47 s ≤ 400
    rw [a.1, i2]
    exact ⟨⟨t.1, t.2.1⟩, a.2.1⟩
  · exact set4 (M 19) (fun k k0 k1 => by rw [(hs k k0 k1).1]; exact (hs k k0 k1).2)
  · have f1' : f < M 469 (M 467 11) := by rw [← i2]; exact f1
    have a := x1 f f0 f1'
    have b := i6 f f0 f1'
    have c := x2 _ b.1.1 b.1.2
    have d := i8 _ b.1.1 b.1.2
    rw [a.2.1, b.2.2.2.2]
    omega
  · have c := x2 g g0 g1
    have d := i8 g g0 g1
    show (0 ≤ M 477 (8 * M 467 11 + g) ∧ 0 ≤ M 478 (8 * M 467 11 + g) ∧ M 477 (8 * M 467 11 + g) + M 478 (8 * M 467 11 + g) ≤ M 471 (M 467 11)) ∧ (0 ≤ M 476 (8 * M 467 11 + g) - M 479 (8 * M 467 11 + g) + M 474 (8 * M 467 11 + g) ∧ M 476 (8 * M 467 11 + g) - M 479 (8 * M 467 11 + g) + M 474 (8 * M 467 11 + g) ≤ 68 ∧ M 478 (8 * M 467 11 + g) ≤ M 476 (8 * M 467 11 + g) - M 479 (8 * M 467 11 + g) + M 474 (8 * M 467 11 + g)) ∧ 0 ≤ M 474 (8 * M 467 11 + g) ∧ M 474 (8 * M 467 11 + g) ≤ 8
    omega
  · have a := x3 s s0 s1
    exact ⟨a.2.2.2, a.2.1⟩
  · exact set4 (M 506) (fun k k0 k1 => (hs k k0 k1).2)
  · have c := x2 g g0 g1
    have d := i8 g g0 g1
    omega
theorem dx_33 {M : Nat → Int → Int} {m : Nat} {r : Int → Int} (hip : iprog 33 M) (hx : ipx 33 M) (hper : iperm M) (hs : iset M) (hf : iprof m M) (hr : ∀ k : Int, 0 ≤ k → k < 4 → r k = M 19 k) : dRel (M 504) (tD (M 40) (M 41) (M 45) (M 43) (M 37) (M 47) (M 22) (M 23) r) (tD (fun xf => (M 477 (8 * (M 467 11) + xf))) (fun xf => (M 478 (8 * (M 467 11) + xf))) (fun xs => (M 485 (M 492 (16 * (M 467 11) + xs)))) (fun xf => (M 476 (8 * (M 467 11) + xf)) - (M 479 (8 * (M 467 11) + xf)) + (M 474 (8 * (M 467 11) + xf))) (fun xf => (M 474 (8 * (M 467 11) + xf))) (fun xs => (M 497 (16 * (M 467 11) + xs))) (M 507) (M 508) (M 506)) (M 469 (M 467 11)) (M 471 (M 467 11)) := by
  obtain ⟨i1, ⟨i2, i2b, i2c⟩, i3, i4, i5, ⟨i6, i6b, i6c, i6d⟩, i7, i8⟩ := hip
  obtain ⟨x1, x2, x3, x4⟩ := hx
  have inv : ∀ g : Int, 0 ≤ g → g < M 469 (M 467 11) → (0 ≤ M 504 g ∧ M 504 g < M 469 (M 467 11)) ∧ M 503 (M 504 g) = g := fun g g0 g1 => by
    obtain ⟨f, f0, f1, e⟩ := (x2 g g0 g1).2.2.2
    have q := (hper f f0 (by omega)).2.2.1
    rw [e] at q
    rw [q]; exact ⟨⟨f0, f1⟩, e⟩
  have to : ∀ s : Int, 0 ≤ s → s < M 471 (M 467 11) → TOf M s = M 485 (M 492 (16 * M 467 11 + s)) := fun s _ s1 => if_pos s1
  have ns : 0 ≤ M 471 (M 467 11) ∧ M 471 (M 467 11) ≤ 16 := by rw [← i2b]; exact i3
  refine ⟨fun g g0 g1 => ?_, fun s s0 s1 => ?_, fun k k0 k1 => ?_, fun f g f0 f1 g0 g1 e => ?_⟩
  · obtain ⟨v1, v2⟩ := inv g g0 g1
    have a := x1 _ v1.1 v1.2
    have b := i6 _ v1.1 v1.2
    have c := hf.1 (M 504 g) v1.1 (by omega)
    rw [v2] at a b c
    exact ⟨v1, a.1, a.2.1, a.2.2, b.2.2.1, c⟩
  · have a := x3 s s0 s1
    have t := i6b s s0 (by omega) (by rw [to s s0 s1]; exact a.2.2.2.1)
    rw [to s s0 s1] at t
    have q := (hper _ t.1 (by omega)).2.2.1
    rw [t.2.2] at q
    exact ⟨q.symm, a.1, (hf.2.2 s s0 (by omega)).1⟩
  · show r k = M 506 k
    rw [hr k k0 k1]; exact (hs k k0 k1).1
  · have a := (inv f f0 f1).2
    have b := (inv g g0 g1).2
    rw [e] at a
    exact a.symm.trans b
theorem px_62 {M : Nat → Int → Int} (hip : iprog 62 M) (hx : ipx 62 M) (hs : iset M) : (tPg (tD (M 69) (M 70) (M 74) (M 72) (M 66) (M 76) (M 22) (M 23) (M 19)) (M 62 0) (M 62 1) ∧ ∀ xf : Int, 0 ≤ xf → xf < M 62 0 → 0 ≤ M 70 xf ∧ M 70 xf ≤ M 68 xf ∧ M 68 xf ≤ 60) ∧ (tPg (tD (fun xf => (M 477 (8 * (M 467 11) + xf))) (fun xf => (M 478 (8 * (M 467 11) + xf))) (fun xs => (M 485 (M 492 (16 * (M 467 11) + xs)))) (fun xf => (M 476 (8 * (M 467 11) + xf)) - (M 479 (8 * (M 467 11) + xf)) + (M 474 (8 * (M 467 11) + xf))) (fun xf => (M 474 (8 * (M 467 11) + xf))) (fun xs => (M 497 (16 * (M 467 11) + xs))) (M 507) (M 508) (M 506)) (M 469 (M 467 11)) (M 471 (M 467 11))) ∧ (∀ xs : Int, 0 ≤ xs → xs < (M 471 (M 467 11)) → 0 ≤ (M 492 (16 * (M 467 11) + xs)) ∧ (M 492 (16 * (M 467 11) + xs)) < 520) ∧ (∀ xf : Int, 0 ≤ xf → xf < (M 469 (M 467 11)) → (M 479 (8 * (M 467 11) + xf)) = 0 ∨ (M 479 (8 * (M 467 11) + xf)) = 1) ∧ (∀ xf : Int, 0 ≤ xf → xf < (M 469 (M 467 11)) → 0 ≤ (M 503 xf) ∧ (M 503 xf) < (M 469 (M 467 11))) ∧ (∀ xf : Int, 0 ≤ xf → xf < (M 469 (M 467 11)) → 0 ≤ (M 478 (8 * (M 467 11) + xf)) ∧ (M 478 (8 * (M 467 11) + xf)) ≤ (M 476 (8 * (M 467 11) + xf)) ∧ (M 476 (8 * (M 467 11) + xf)) ≤ 60) := by
  obtain ⟨i1, ⟨i2, i2b, i2c⟩, i3, i4, i5, ⟨i6, i6b, i6c, i6d⟩, i7, i8⟩ := hip
  obtain ⟨x1, x2, x3, x4⟩ := hx
  have i6 : ∀ f : Int, 0 ≤ f → f < M 469 (M 467 11) → (0 ≤ M 503 f ∧ M 503 f < M 469 (M 467 11)) ∧ M 65 f = M 473 (8 * M 467 11 + M 503 f) ∧ M 66 f = M 474 (8 * M 467 11 + M 503 f) ∧ M 67 f = M 475 (8 * M 467 11 + M 503 f) ∧ M 68 f = M 476 (8 * M 467 11 + M 503 f) := i6
  have x1 : ∀ f : Int, 0 ≤ f → f < M 469 (M 467 11) → M 69 f = M 477 (8 * M 467 11 + M 503 f) ∧ M 70 f = M 478 (8 * M 467 11 + M 503 f) ∧ M 72 f = M 476 (8 * M 467 11 + M 503 f) - M 479 (8 * M 467 11 + M 503 f) + M 474 (8 * M 467 11 + M 503 f) := x1
  have x3 : ∀ s : Int, 0 ≤ s → s < M 471 (M 467 11) → M 76 s = M 497 (16 * M 467 11 + s) ∧ (0 ≤ M 497 (16 * M 467 11 + s) ∧ M 497 (16 * M 467 11 + s) ≤ 400) ∧ (0 ≤ M 492 (16 * M 467 11 + s) ∧ M 492 (16 * M 467 11 + s) < 520) ∧ 0 ≤ M 485 (M 492 (16 * M 467 11 + s)) ∧ M 485 (M 492 (16 * M 467 11 + s)) < M 469 (M 467 11) := x3
  have set4 : ∀ r : Int → Int, (∀ k : Int, 0 ≤ k → k < 4 → isSet k (r k)) → (0 ≤ r 0 ∧ r 0 ≤ 300) ∧ (1 ≤ r 1 ∧ r 1 ≤ 50) ∧ 0 ≤ r 2 ∧ r 2 ≤ 3 := fun r h => by
    have a := h 0 (by decide) (by decide)
    have b := h 1 (by decide) (by decide)
    have c := h 2 (by decide) (by decide)
    unfold isSet at a b c
    omega
  have to : ∀ s : Int, 0 ≤ s → s < M 471 (M 467 11) → TOf M s = M 485 (M 492 (16 * M 467 11 + s)) := fun s _ s1 => if_pos s1
  have ns : 0 ≤ M 471 (M 467 11) ∧ M 471 (M 467 11) ≤ 16 := by rw [← i2b]; exact i3
  refine ⟨⟨⟨⟨by rw [i2]; exact i6c, i3⟩, fun f f0 f1 => ?_, fun s s0 s1 => ?_, ?_⟩, fun f f0 f1 => ?_⟩, ⟨⟨i6c, ns⟩, fun g g0 g1 => ?_, fun s s0 s1 => ?_, ?_⟩, fun s s0 s1 => (x3 s s0 s1).2.2.1, fun g g0 g1 => (x2 g g0 g1).2.1, fun f f0 f1 => (i6 f f0 f1).1, fun g g0 g1 => ?_⟩
  · have f1' : f < M 469 (M 467 11) := by rw [← i2]; exact f1
    have a := x1 f f0 f1'
    have b := i6 f f0 f1'
    have c := x2 _ b.1.1 b.1.2
    have d := i8 _ b.1.1 b.1.2
    show (0 ≤ M 69 f ∧ 0 ≤ M 70 f ∧ M 69 f + M 70 f ≤ M 62 1) ∧ (0 ≤ M 72 f ∧ M 72 f ≤ 68 ∧ M 70 f ≤ M 72 f) ∧ 0 ≤ M 66 f ∧ M 66 f ≤ 8
    rw [a.1, a.2.1, a.2.2, b.2.2.1, i2b]
    omega
  · have s1' : s < M 471 (M 467 11) := by rw [← i2b]; exact s1
    have a := x3 s s0 s1'
    have t := i6b s s0 (by omega) (by rw [to s s0 s1']; exact a.2.2.2.1)
    show (0 ≤ M 74 s ∧ M 74 s < M 62 0) ∧ 0 ≤ M 76 s ∧ M 76 s ≤ 400
    rw [a.1, i2]
    exact ⟨⟨t.1, t.2.1⟩, a.2.1⟩
  · exact set4 (M 19) (fun k k0 k1 => by rw [(hs k k0 k1).1]; exact (hs k k0 k1).2)
  · have f1' : f < M 469 (M 467 11) := by rw [← i2]; exact f1
    have a := x1 f f0 f1'
    have b := i6 f f0 f1'
    have c := x2 _ b.1.1 b.1.2
    have d := i8 _ b.1.1 b.1.2
    rw [a.2.1, b.2.2.2.2]
    omega
  · have c := x2 g g0 g1
    have d := i8 g g0 g1
    show (0 ≤ M 477 (8 * M 467 11 + g) ∧ 0 ≤ M 478 (8 * M 467 11 + g) ∧ M 477 (8 * M 467 11 + g) + M 478 (8 * M 467 11 + g) ≤ M 471 (M 467 11)) ∧ (0 ≤ M 476 (8 * M 467 11 + g) - M 479 (8 * M 467 11 + g) + M 474 (8 * M 467 11 + g) ∧ M 476 (8 * M 467 11 + g) - M 479 (8 * M 467 11 + g) + M 474 (8 * M 467 11 + g) ≤ 68 ∧ M 478 (8 * M 467 11 + g) ≤ M 476 (8 * M 467 11 + g) - M 479 (8 * M 467 11 + g) + M 474 (8 * M 467 11 + g)) ∧ 0 ≤ M 474 (8 * M 467 11 + g) ∧ M 474 (8 * M 467 11 + g) ≤ 8
    omega
  · have a := x3 s s0 s1
    exact ⟨a.2.2.2, a.2.1⟩
  · exact set4 (M 506) (fun k k0 k1 => (hs k k0 k1).2)
  · have c := x2 g g0 g1
    have d := i8 g g0 g1
    omega
theorem dx_62 {M : Nat → Int → Int} {m : Nat} {r : Int → Int} (hip : iprog 62 M) (hx : ipx 62 M) (hper : iperm M) (hs : iset M) (hf : iprof m M) (hr : ∀ k : Int, 0 ≤ k → k < 4 → r k = M 19 k) : dRel (M 504) (tD (M 69) (M 70) (M 74) (M 72) (M 66) (M 76) (M 22) (M 23) r) (tD (fun xf => (M 477 (8 * (M 467 11) + xf))) (fun xf => (M 478 (8 * (M 467 11) + xf))) (fun xs => (M 485 (M 492 (16 * (M 467 11) + xs)))) (fun xf => (M 476 (8 * (M 467 11) + xf)) - (M 479 (8 * (M 467 11) + xf)) + (M 474 (8 * (M 467 11) + xf))) (fun xf => (M 474 (8 * (M 467 11) + xf))) (fun xs => (M 497 (16 * (M 467 11) + xs))) (M 507) (M 508) (M 506)) (M 469 (M 467 11)) (M 471 (M 467 11)) := by
  obtain ⟨i1, ⟨i2, i2b, i2c⟩, i3, i4, i5, ⟨i6, i6b, i6c, i6d⟩, i7, i8⟩ := hip
  obtain ⟨x1, x2, x3, x4⟩ := hx
  have inv : ∀ g : Int, 0 ≤ g → g < M 469 (M 467 11) → (0 ≤ M 504 g ∧ M 504 g < M 469 (M 467 11)) ∧ M 503 (M 504 g) = g := fun g g0 g1 => by
    obtain ⟨f, f0, f1, e⟩ := (x2 g g0 g1).2.2.2
    have q := (hper f f0 (by omega)).2.2.1
    rw [e] at q
    rw [q]; exact ⟨⟨f0, f1⟩, e⟩
  have to : ∀ s : Int, 0 ≤ s → s < M 471 (M 467 11) → TOf M s = M 485 (M 492 (16 * M 467 11 + s)) := fun s _ s1 => if_pos s1
  have ns : 0 ≤ M 471 (M 467 11) ∧ M 471 (M 467 11) ≤ 16 := by rw [← i2b]; exact i3
  refine ⟨fun g g0 g1 => ?_, fun s s0 s1 => ?_, fun k k0 k1 => ?_, fun f g f0 f1 g0 g1 e => ?_⟩
  · obtain ⟨v1, v2⟩ := inv g g0 g1
    have a := x1 _ v1.1 v1.2
    have b := i6 _ v1.1 v1.2
    have c := hf.1 (M 504 g) v1.1 (by omega)
    rw [v2] at a b c
    exact ⟨v1, a.1, a.2.1, a.2.2, b.2.2.1, c⟩
  · have a := x3 s s0 s1
    have t := i6b s s0 (by omega) (by rw [to s s0 s1]; exact a.2.2.2.1)
    rw [to s s0 s1] at t
    have q := (hper _ t.1 (by omega)).2.2.1
    rw [t.2.2] at q
    exact ⟨q.symm, a.1, (hf.2.2 s s0 (by omega)).1⟩
  · show r k = M 506 k
    rw [hr k k0 k1]; exact (hs k k0 k1).1
  · have a := (inv f f0 f1).2
    have b := (inv g g0 g1).2
    rw [e] at a
    exact a.symm.trans b
