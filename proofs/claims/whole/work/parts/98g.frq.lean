/-! The result: what the reference's lines change; a result at hand -/
theorem xSeg_rng {L L' : Nat → Int → Int} {ok ok' : Int → Prop} {mx A B : Int} (h1 : ∀ r : Int, A ≤ r → r < B → L' 480 r = L 480 r ∧ L' 488 r = L 488 r ∧ L' 489 r = L 489 r) (h : ∀ r : Int, A ≤ r → r < B → ok r → ok' r) : ∀ (n : Nat) (lv a b : Int), A ≤ a → b ≤ B → xSeg L ok mx n lv a b → xSeg L' ok' mx n lv a b := by
  intro n
  induction n with
  | zero => intro lv a b _ _ q; exact q
  | succ n ih =>
    intro lv a b a0 b0 q
    rcases q with q | ⟨q1, q2, q3, q4, q5, q6, q7, q8, q9, q10⟩
    · exact Or.inl q
    · obtain ⟨e0, e1, e2⟩ := h1 a a0 (by omega)
      refine Or.inr ⟨q1, h a a0 (by omega) q2, ?_⟩
      rw [e0, e1, e2]
      exact ⟨q3, q4, q5, q6, q7, ih _ _ _ (by omega) (by omega) q8, ih _ _ _ (by omega) (by omega) q9, ih _ _ _ (by omega) b0 q10⟩
theorem ySeg_rngb {L L' : Nat → Int → Int} {ok ok' : Int → Int → Int → Prop} {A B : Int} (h1 : ∀ r : Int, A ≤ r → r < B → L' 488 r = L 488 r ∧ L' 489 r = L 489 r) (h : ∀ lv br r : Int, A ≤ r → r < B → ok lv br r → ok' lv br r) (h0 : ∀ r : Int, A ≤ r → r < B → 0 ≤ L 488 r ∧ 0 ≤ L 489 r) : ∀ (n : Nat) (lv br a b : Int), A ≤ a → b ≤ B → ySeg L ok n lv br a b → ySeg L' ok' n lv br a b := by
  intro n
  induction n with
  | zero => intro lv br a b _ _ q; exact q
  | succ n ih =>
    intro lv br a b a0 b0 q
    rcases q with q | ⟨q1, q2, q3, q4, q5⟩
    · exact Or.inl q
    · have l := ySegE_le ⟨n, q5⟩
      have z := h0 a a0 (by omega)
      obtain ⟨e1, e2⟩ := h1 a a0 (by omega)
      refine Or.inr ⟨q1, h _ _ _ a0 (by omega) q2, ?_⟩
      rw [e1, e2]
      exact ⟨ih _ _ _ _ (by omega) (by omega) q3, ih _ _ _ _ (by omega) (by omega) q4, ih _ _ _ _ (by omega) b0 q5⟩
/-- the program's cells in the reference, its lines below 120 -/
def FrL (M A : Nat → Int → Int) : Prop := A 467 11 = M 467 11 ∧ (∀ c : Nat, 469 ≤ c → c ≤ 499 → ¬ (480 ≤ c ∧ c ≤ 491) → A c = M c) ∧ (A 503 = M 503 ∧ A 504 = M 504) ∧ ∀ (c : Nat) (j : Int), 480 ≤ c → c ≤ 491 → j < 120 → A c j = M c j
/-- what the reference changes as it lays a result: lines behind 120, its own cells -/
def FrQ (M A : Nat → Int → Int) : Prop := (∀ c : Nat, c < 467 → A c = M c) ∧ FrL M A ∧ A 467 1 = M 467 1 ∧ A 468 = M 468 ∧ A 505 = M 505 ∧ A 506 = M 506 ∧ A 507 = M 507 ∧ A 508 = M 508
theorem frP_L {M A : Nat → Int → Int} (f : FrP M A) : FrL M A := ⟨f.1, fun c a b d => f.2 c (by unfold gCell; simp; omega), ⟨f.2 503 rfl, f.2 504 rfl⟩, fun c j a b _ => congrFun (f.2 c (by unfold gCell; simp; omega)) j⟩
section
variable {p : Nat} {M A : Nat → Int → Int}
theorem frL_to (f : FrL M A) (h : iprog p M) (hx : ipx p M) : ∀ s : Int, 0 ≤ s → TOf A s = TOf M s := by
  intro s s0
  obtain ⟨i1, ⟨i2, i2b, i2c⟩, i3, i4, _⟩ := h
  obtain ⟨e, C, _, R⟩ := f
  unfold TOf
  rw [e, C 471 (by decide) (by decide) (by decide), C 492 (by decide) (by decide) (by decide)]
  split
  · next z =>
    have y := (hx.2.2.2.2.2.1 s s0 z).2.1
    exact R 485 _ (by decide) (by decide) (by omega)
  · rfl
theorem frL_tog (f : FrL M A) (h : iprog p M) (hx : ipx p M) : TOg A = TOg M := by
  funext s
  unfold TOg
  split
  · next z => exact frL_to f h hx s z
  · rfl
theorem iprog_pl (h : iprog p M) {g r : Int} (g0 : 0 ≤ g) (g1 : g < M 469 (M 467 11)) (r0 : 60 * M 467 11 + M 475 (8 * M 467 11 + g) ≤ r) (r1 : r < 60 * M 467 11 + M 475 (8 * M 467 11 + g) + M 476 (8 * M 467 11 + g)) : 0 ≤ r ∧ r < 120 ∧ 0 ≤ M 488 r ∧ 0 ≤ M 489 r := by
  obtain ⟨i1, ⟨i2, i2b, i2c⟩, i3, i4, i5, i6, i7, i8⟩ := h
  obtain ⟨n, q⟩ := i7 g g0 g1
  have z := xSeg_all n _ _ _ q r0 r1
  have y := z.1.2.2.1 (by decide)
  omega
theorem frL_giv (f : FrL M A) (h : iprog p M) (hx : ipx p M) {g : Int} (g0 : 0 ≤ g) (g1 : g < M 469 (M 467 11)) : ygiv A g = ygiv M g := by
  obtain ⟨e, C, _, R⟩ := f
  unfold ygiv
  rw [e, C 475 (by decide) (by decide) (by decide), C 476 (by decide) (by decide) (by decide), C 479 (by decide) (by decide) (by decide)]
  split
  · rfl
  · next z =>
    have z1 : M 479 (8 * M 467 11 + g) = 1 := (hx.2.1 g g0 g1).2.1.resolve_left z
    have y := (hx.2.2.2.2.1 g g0 g1).2.1 z1
    exact R 482 _ (by decide) (by decide) (iprog_pl h g0 g1 (r := 60 * M 467 11 + M 475 (8 * M 467 11 + g) + M 476 (8 * M 467 11 + g) - 1) (by omega) (by omega)).2.1
theorem iprog_frL (hp : p + 40 < 467) (l : ∀ c : Nat, p ≤ c → c ≤ p + 28 → A c = M c) (f : FrL M A) (h : iprog p M) (hx : ipx p M) : iprog p A := by
  have to := frL_to f h hx
  have pl := fun (g : Int) (a : 0 ≤ g) (b : g < M 469 (M 467 11)) (r : Int) r0 r1 => iprog_pl h (g := g) (r := r) a b r0 r1
  obtain ⟨i1, ⟨i2, i2b, i2c⟩, i3, i4, i5, i6, i7, i8⟩ := h
  obtain ⟨e, C, ⟨D3, D4⟩, R⟩ := f
  have C := fun (c : Nat) a b d => C c a b d
  have hn : M 470 (M 467 11) ≤ 60 := by omega
  refine ⟨by rw [e]; exact i1, ?_, ?_, ?_, fun k k0 k1 => ?_, ?_, fun g g0 g1 => ?_, fun g g0 g1 => ?_⟩
  · rw [e, C 469 (by decide) (by decide) (by decide), C 470 (by decide) (by decide) (by decide), C 471 (by decide) (by decide) (by decide), l p (by omega) (by omega), l (p + 15) (by omega) (by omega)]; exact ⟨i2, i2b, i2c⟩
  · rw [l p (by omega) (by omega)]; exact i3
  · rw [l (p + 15) (by omega) (by omega)]; exact i4
  · rw [e, C 470 (by decide) (by decide) (by decide)] at k1
    rw [e, R 480 _ (by decide) (by decide) (by omega), R 481 _ (by decide) (by decide) (by omega), R 482 _ (by decide) (by decide) (by omega), R 483 _ (by decide) (by decide) (by omega), R 484 _ (by decide) (by decide) (by omega), R 486 _ (by decide) (by decide) (by omega), R 488 _ (by decide) (by decide) (by omega), R 489 _ (by decide) (by decide) (by omega), l (p + 16) (by omega) (by omega), l (p + 17) (by omega) (by omega), l (p + 18) (by omega) (by omega), l (p + 19) (by omega) (by omega), l (p + 20) (by omega) (by omega), l (p + 21) (by omega) (by omega), l (p + 25) (by omega) (by omega), l (p + 26) (by omega) (by omega)]
    exact i5 k k0 k1
  · unfold cProg at i6 ⊢
    rw [e, C 469 (by decide) (by decide) (by decide), C 473 (by decide) (by decide) (by decide), C 474 (by decide) (by decide) (by decide), C 475 (by decide) (by decide) (by decide), C 476 (by decide) (by decide) (by decide), D3, l (p + 3) (by omega) (by omega), l (p + 4) (by omega) (by omega), l (p + 5) (by omega) (by omega), l (p + 6) (by omega) (by omega), l (p + 12) (by omega) (by omega)]
    refine ⟨i6.1, fun s s0 s1 t => ?_, i6.2.2⟩
    rw [to s s0] at t ⊢
    exact i6.2.1 s s0 s1 t
  · rw [e, C 469 (by decide) (by decide) (by decide)] at g1
    obtain ⟨n, q⟩ := i7 g g0 g1
    rw [e, C 469 (by decide) (by decide) (by decide), C 470 (by decide) (by decide) (by decide), C 474 (by decide) (by decide) (by decide), C 475 (by decide) (by decide) (by decide), C 476 (by decide) (by decide) (by decide)]
    refine ⟨n, xSeg_rng (fun r r0 r1 => ?_) (fun r r0 r1 z => ?_) n _ _ _ (Int.le_refl _) (Int.le_refl _) q⟩
    · have w := (pl g g0 g1 _ r0 r1).2.1
      exact ⟨R 480 _ (by decide) (by decide) w, R 488 _ (by decide) (by decide) w, R 489 _ (by decide) (by decide) w⟩
    · have w := (pl g g0 g1 _ r0 r1).2.1
      obtain ⟨z1, z2, z3, z4⟩ := z
      have xl : xLine (M 474 (8 * M 467 11 + g)) 0 (A 467 11) (A 480) (A 481) (A 482) (A 483) (A 484) (A 485) (A 486) (A 488) (A 489) (A 473) (A 474) (A 475) (A 476) r := by
        unfold xLine at z1 ⊢
        rw [e, C 473 (by decide) (by decide) (by decide), C 474 (by decide) (by decide) (by decide), C 475 (by decide) (by decide) (by decide), C 476 (by decide) (by decide) (by decide), R 480 r (by decide) (by decide) w, R 481 r (by decide) (by decide) w, R 482 r (by decide) (by decide) w, R 483 r (by decide) (by decide) w, R 484 r (by decide) (by decide) w, R 485 r (by decide) (by decide) w, R 486 r (by decide) (by decide) w, R 488 r (by decide) (by decide) w, R 489 r (by decide) (by decide) w]
        exact z1
      refine ⟨xl, z2, z3, fun k => ?_⟩
      rw [R 480 r (by decide) (by decide) w] at k
      rw [R 485 r (by decide) (by decide) w, R 486 r (by decide) (by decide) w, to _ ((xLine_xv z1).2.2.2.2 k).2.1.1]
      exact z4 k
  · rw [e, C 469 (by decide) (by decide) (by decide)] at g1
    rw [e, C 473 (by decide) (by decide) (by decide), C 474 (by decide) (by decide) (by decide), C 475 (by decide) (by decide) (by decide), C 476 (by decide) (by decide) (by decide)]
    exact i8 g g0 g1
theorem ipx_frL (hp : p + 40 < 467) (l : ∀ c : Nat, p ≤ c → c ≤ p + 28 → A c = M c) (f : FrL M A) (h : iprog p M) (hx : ipx p M) : ipx p A := by
  have gv := fun (g : Int) a b => frL_giv f h hx (g := g) a b
  have pl := fun (g : Int) (a : 0 ≤ g) (b : g < M 469 (M 467 11)) (r : Int) r0 r1 => iprog_pl h (g := g) (r := r) a b r0 r1
  obtain ⟨i1, ⟨i2, i2b, i2c⟩, i3, i4, i5, i6, i7, i8⟩ := h
  obtain ⟨e, C, ⟨D3, D4⟩, R⟩ := f
  have C := fun (c : Nat) a b d => C c a b d
  have hn : M 470 (M 467 11) ≤ 60 := by omega
  obtain ⟨x1, x2, x3, ⟨y1, y2, y3, y4⟩⟩ := hx
  refine ⟨?_, ?_, fun s s0 s1 => ?_, fun g g0 g1 => ?_, fun g g0 g1 => ?_, fun s s0 s1 => ?_, ?_⟩
  · rw [e, C 469 (by decide) (by decide) (by decide), C 474 (by decide) (by decide) (by decide), C 476 (by decide) (by decide) (by decide), C 477 (by decide) (by decide) (by decide), C 478 (by decide) (by decide) (by decide), C 479 (by decide) (by decide) (by decide), D3, l (p + 7) (by omega) (by omega), l (p + 8) (by omega) (by omega), l (p + 10) (by omega) (by omega)]; exact x1
  · rw [e, C 469 (by decide) (by decide) (by decide), C 471 (by decide) (by decide) (by decide), C 474 (by decide) (by decide) (by decide), C 476 (by decide) (by decide) (by decide), C 477 (by decide) (by decide) (by decide), C 478 (by decide) (by decide) (by decide), C 479 (by decide) (by decide) (by decide), D3]; exact x2
  · rw [e, C 471 (by decide) (by decide) (by decide)] at s1
    have y := (y3 s s0 s1).2.1
    rw [e, C 469 (by decide) (by decide) (by decide), C 492 (by decide) (by decide) (by decide), C 497 (by decide) (by decide) (by decide), l (p + 14) (by omega) (by omega), R 485 _ (by decide) (by decide) (by omega)]
    exact x3 s s0 s1
  · rw [e, C 469 (by decide) (by decide) (by decide)] at g1
    have w := (i6.1 g g0 g1).1
    rw [e, D3, gv _ w.1 w.2, C 472 (by decide) (by decide) (by decide), l (p + 1) (by omega) (by omega), l (p + 2) (by omega) (by omega), l (p + 9) (by omega) (by omega)]
    exact y1 g g0 g1
  · rw [e, C 469 (by decide) (by decide) (by decide)] at g1
    obtain ⟨u1, u2, SN, u3, u4, n, u5⟩ := y2 g g0 g1
    unfold yfun
    rw [e, C 472 (by decide) (by decide) (by decide), C 475 (by decide) (by decide) (by decide), C 476 (by decide) (by decide) (by decide), C 477 (by decide) (by decide) (by decide), C 478 (by decide) (by decide) (by decide), C 479 (by decide) (by decide) (by decide)]
    refine ⟨u1, fun z => ?_, SN, u3, u4, n, ySeg_rngb (fun r r0 r1 => ?_) (fun lv br r r0 r1 q => ?_) (fun r r0 r1 => (pl g g0 g1 _ r0 r1).2.2) n _ _ _ _ (Int.le_refl _) (Int.le_refl _) u5⟩
    · have y := u2 z
      have w := (pl g g0 g1 (60 * M 467 11 + M 475 (8 * M 467 11 + g) + M 476 (8 * M 467 11 + g) - 1) (by omega) (by omega)).2.1
      rw [R 480 _ (by decide) (by decide) w, R 482 _ (by decide) (by decide) w]
      exact y
    · have w := (pl g g0 g1 _ r0 r1).2.1
      exact ⟨R 488 _ (by decide) (by decide) w, R 489 _ (by decide) (by decide) w⟩
    · have w := (pl g g0 g1 _ r0 r1).2.1
      unfold yok at q ⊢
      rw [e, l (p + 22) (by omega) (by omega), l (p + 23) (by omega) (by omega), l (p + 24) (by omega) (by omega), C 479 (by decide) (by decide) (by decide), R 480 r (by decide) (by decide) w, R 481 r (by decide) (by decide) w, R 482 r (by decide) (by decide) w, R 483 r (by decide) (by decide) w, R 484 r (by decide) (by decide) w, R 485 r (by decide) (by decide) w, R 486 r (by decide) (by decide) w, R 487 r (by decide) (by decide) w, R 489 r (by decide) (by decide) w, R 491 r (by decide) (by decide) w]
      exact q
  · rw [e, C 471 (by decide) (by decide) (by decide)] at s1
    unfold ysite
    rw [e, C 469 (by decide) (by decide) (by decide), C 470 (by decide) (by decide) (by decide), C 477 (by decide) (by decide) (by decide), C 478 (by decide) (by decide) (by decide), C 492 (by decide) (by decide) (by decide), C 493 (by decide) (by decide) (by decide), C 494 (by decide) (by decide) (by decide), C 498 (by decide) (by decide) (by decide), D3, l (p + 11) (by omega) (by omega), l (p + 13) (by omega) (by omega), l (p + 16) (by omega) (by omega), l (p + 22) (by omega) (by omega), l (p + 27) (by omega) (by omega)]
    exact y3 s s0 s1
  · rw [e, C 470 (by decide) (by decide) (by decide), l (p + 22) (by omega) (by omega), l (p + 27) (by omega) (by omega)]; exact y4
/-- what a result at hand wants of the reference as it begins -/
def rPrem (p : Nat) (M τ0 G : Nat → Int → Int) (lf : Int → List Int) (ND : Int → Prop) : Prop :=
  rProg M τ0 ∧ ((∀ i : Int, 0 ≤ i ∧ i < 320 → M (zcall i) 1 = G 0 i) ∧ (∀ i : Int, 0 ≤ i ∧ i < 320 → M (zcall i) 3 = G 3 i) ∧ (∀ i : Int, 0 ≤ i ∧ i < 320 → M (zcall i) 5 = G 2 i) ∧ ∀ i : Int, 0 ≤ i ∧ i < 320 → M (zcall i) 6 = G 4 i) ∧
  rTr p M τ0 (TOg M) (G 0) (G 1) (G 2) (G 3) (G 4) (G 5) ND lf (G 6 0) ∧ (ND 0 ∧ G 3 0 = 0) ∧
  (M 476 (8 * M 467 11 + G 1 0) + nsum (kgs (G 4) (G 2) (G 5) 0) (M 478 (8 * M 467 11 + G 1 0)).toNat ≤ 300 ∧ ((lf 0).length : Int) ≤ 400) ∧
  (rTop τ0 0 0 (60 * M 467 11 + M 475 (8 * M 467 11 + G 1 0)) (60 * M 467 11 + M 475 (8 * M 467 11 + G 1 0) + M 476 (8 * M 467 11 + G 1 0)) 0 0 0 ∧ τ0 467 109 = 120 ∧ τ0 467 110 = M 474 (8 * M 467 11 + G 1 0) ∧ τ0 467 111 = 0)
/-- the reference has laid the same lines -/
def rFin (M τ0 τ' : Nat → Int → Int) (nF : Int) (TO : Int → Int) (l : List Int) : Prop :=
  rTo τ0 τ' ∧ τ' 467 107 = 0 ∧ rRel M τ' ∧ ySegE τ' (okR M τ' nF TO) 0 0 120 (120 + M 442 13) ∧ cL (M 449) (M 450) (M 452) (M 453) (M 454) (M 455) (M 442 13) ∧ (∃ r0 : Int → Int, rLeft τ' r0 l) ∧ rPr τ0 τ' 0 0 120 ∧ (0 ≤ M 442 13 ∧ M 442 13 ≤ 300) ∧ (0 ≤ M 441 1 ∧ M 441 1 ≤ 8 + M 442 13)
def rHold (p : Nat) (M : Nat → Int → Int) (f : Int) : Prop :=
  (M 441 2 = M (p + 3) f ∧ rW M (if M (p + 9) f = -2 then -1 else M 442 13) 0 0 ∧ (¬ M (p + 9) f = -2 → 1 ≤ M 442 13)) ∧ M (p + 3) f ≤ M 441 1 ∧ ∀ (τ0 G : Nat → Int → Int) (lf : Int → List Int) (ND : Int → Prop), rPrem p M τ0 G lf ND → ∃ τ' : Nat → Int → Int, rFin M τ0 τ' (M 469 (M 467 11)) (TOg M) (lf 0)
theorem rPrem_fr (hp : p + 40 < 467) (l : ∀ c : Nat, p ≤ c → c ≤ p + 28 → A c = M c) (lc : ∀ c : Nat, 121 ≤ c → c ≤ 440 → A c = M c) (f : FrL M A) (h : iprog p M) (hx : ipx p M) {τ0 G : Nat → Int → Int} {lf : Int → List Int} {ND : Int → Prop} (q : rPrem p A τ0 G lf ND) : rPrem p M τ0 G lf ND := by
  have gv := fun (g : Int) a b => frL_giv f h hx (g := g) a b
  have tg := frL_tog f h hx
  obtain ⟨e, C, ⟨D3, D4⟩, R⟩ := f
  obtain ⟨q1, ⟨c1, c2, c3, c4⟩, q3, q4, q5, q6⟩ := q
  have zc : ∀ i : Int, 0 ≤ i ∧ i < 320 → A (zcall i) = M (zcall i) := fun i hi => lc _ (by have := zcall_in hi; omega) (by have := zcall_in hi; omega)
  rw [e, C 474 (by decide) (by decide) (by decide), C 475 (by decide) (by decide) (by decide), C 476 (by decide) (by decide) (by decide)] at q6
  rw [e, C 476 (by decide) (by decide) (by decide), C 478 (by decide) (by decide) (by decide)] at q5
  refine ⟨⟨fun c j a b d d' => ?_, fun c j a b d d' => ?_, ?_⟩, ⟨fun i hi => ?_, fun i hi => ?_, fun i hi => ?_, fun i hi => ?_⟩, fun x hx => ?_, q4, q5, q6⟩
  · rw [q1.1 c j a b (by rw [e]; exact d) (by rw [e]; exact d')]; exact congrFun (C c (by omega) (by omega) (by omega)) j
  · rw [q1.2.1 c j a b (by rw [e]; exact d) (by rw [e]; exact d')]; exact R c j a b (by have := h.1; omega)
  · rw [q1.2.2]; exact e
  · rw [← zc i hi]; exact c1 i hi
  · rw [← zc i hi]; exact c2 i hi
  · rw [← zc i hi]; exact c3 i hi
  · rw [← zc i hi]; exact c4 i hi
  · have w := q3 x hx
    unfold rFn at w ⊢
    rw [e, C 469 (by decide) (by decide) (by decide), C 473 (by decide) (by decide) (by decide), C 474 (by decide) (by decide) (by decide), C 475 (by decide) (by decide) (by decide), C 476 (by decide) (by decide) (by decide), C 477 (by decide) (by decide) (by decide), C 478 (by decide) (by decide) (by decide), C 479 (by decide) (by decide) (by decide), tg, l (p + 3) (by omega) (by omega), l (p + 4) (by omega) (by omega), l (p + 5) (by omega) (by omega), l (p + 6) (by omega) (by omega), l (p + 7) (by omega) (by omega), l (p + 9) (by omega) (by omega)] at w
    rw [gv _ w.2.1.2.1.1 w.2.1.2.1.2.1] at w
    exact w
theorem rHold_fr (hp : p + 40 < 467) (l : ∀ c : Nat, p ≤ c → c ≤ p + 28 → A c = M c) (lc : ∀ c : Nat, 121 ≤ c → c ≤ 455 → A c = M c) (f : FrL M A) (h : iprog p M) (hx : ipx p M) {g : Int} (q : rHold p M g) : rHold p A g := by
  obtain ⟨q1, q1b, q2⟩ := q
  refine ⟨?_, ?_, fun τ0 G lf ND w => ?_⟩
  · rw [lc 441 (by decide) (by decide), l (p + 3) (by omega) (by omega), l (p + 9) (by omega) (by omega), lc 442 (by decide) (by decide)]
    unfold rW at q1 ⊢
    rw [lc 441 (by decide) (by decide), lc 442 (by decide) (by decide), lc 443 (by decide) (by decide), lc 445 (by decide) (by decide), lc 449 (by decide) (by decide)]
    exact q1
  · rw [lc 441 (by decide) (by decide), l (p + 3) (by omega) (by omega)]; exact q1b
  · obtain ⟨τ', r⟩ := q2 τ0 G lf ND (rPrem_fr hp l (fun c a b => lc c a (by omega)) f h hx w)
    refine ⟨τ', ?_⟩
    rw [frL_tog f h hx, f.1, f.2.1 469 (by decide) (by decide) (by decide)]
    unfold rFin rRel rRow okR at r ⊢
    rw [lc 441 (by decide) (by decide), lc 442 (by decide) (by decide), lc 443 (by decide) (by decide), lc 444 (by decide) (by decide), lc 445 (by decide) (by decide), lc 446 (by decide) (by decide), lc 447 (by decide) (by decide), lc 448 (by decide) (by decide), lc 449 (by decide) (by decide), lc 450 (by decide) (by decide), lc 451 (by decide) (by decide), lc 452 (by decide) (by decide), lc 453 (by decide) (by decide), lc 454 (by decide) (by decide), lc 455 (by decide) (by decide)]
    exact r
def RT (p : Nat) (M : Nat → Int → Int) : Prop := M 16 15 = -1 ∨ (M 16 15 = M 16 14 ∧ 0 ≤ M 16 15 ∧ M 16 15 < M p 0 ∧ rHold p M (M 16 15))
def RP (P : Nat → Nat → Nat) (M : Nat → Int → Int) : Prop := (P 16 11 = 33 → RT 33 M) ∧ (P 16 11 = 62 → RT 62 M)
theorem RT_fr (hp : p + 40 < 467) (l : ∀ c : Nat, p ≤ c → c ≤ p + 28 → A c = M c) (lc : ∀ c : Nat, 121 ≤ c → c ≤ 455 → A c = M c) (e : A 16 14 = M 16 14 ∧ A 16 15 = M 16 15) (f : FrL M A) (h : iprog p M) (hx : ipx p M) (q : RT p M) : RT p A := by
  unfold RT
  rw [e.1, e.2, l p (by omega) (by omega)]
  rcases q with q | ⟨q1, q2, q3, q4⟩
  · exact Or.inl q
  · exact Or.inr ⟨q1, q2, q3, rHold_fr hp l lc f h hx q4⟩
end
theorem IB_frQ {L0 : Nat} {xs : Nat → Int32} {m : Nat} {P P' : Nat → Nat → Nat} {M A : Nat → Int → Int} (f : FrQ M A) (h1 : P' 16 11 = P 16 11) (h2 : P' 16 12 = P 16 12) (h : IB L0 xs m P M) (hk : KP P M) : IB L0 xs m P' A ∧ KP P' A ∧ (RP P M → RP P' A) := by
  obtain ⟨c1, c2, c3, c4, c5, c6, c7⟩ := h
  obtain ⟨l, fl, f1, f468, f505, f506, f507, f508⟩ := f
  obtain ⟨D3, D4⟩ := fl.2.2.1
  have lo := fun (c : Nat) (q : c < 467) => l c q
  have main : ∀ p : Nat, p + 40 < 467 → iprog p M → ipx p M → iprog p A ∧ ipx p A ∧ (∀ s : Int, 0 ≤ s → TOf A s = TOf M s) ∧ (RT p M → RT p A) := fun p hp a b =>
    ⟨iprog_frL hp (fun c _ _ => l c (by omega)) fl a b, ipx_frL hp (fun c _ _ => l c (by omega)) fl a b, frL_to fl a b, fun q => RT_fr hp (fun c _ _ => l c (by omega)) (fun c _ _ => l c (by omega)) ⟨by rw [l 16 (by decide)], by rw [l 16 (by decide)]⟩ fl a b q⟩
  have fin : ∀ p : Nat, iprog p A → (∀ s : Int, 0 ≤ s → TOf A s = TOf M s) → iptr P' A → IB L0 xs m P' A := fun p _ to ip => by
    refine ⟨fun c q => ?_, ?_, ?_, ?_, ?_, ?_, ip⟩
    · rw [l c (by omega)]; exact c1 c q
    · unfold itape; rw [l 16 (by decide), l 17 (by decide), f1, f468]; exact c2
    · unfold iarg; rw [l 18 (by decide), f505]; exact c3
    · unfold iset; rw [l 19 (by decide), f506]; exact c4
    · unfold iperm; rw [D3, D4]; exact c5
    · obtain ⟨u1, u2, u3⟩ := c6
      unfold iprof
      rw [l 22 (by decide), l 23 (by decide), D3, f507, f508]
      refine ⟨u1, u2, fun s s0 s1 => ?_⟩
      rw [to s s0]; exact u3 s s0 s1
  rcases c7 with ⟨p1, p2, p3⟩ | ⟨p1, p2, p3⟩
  · obtain ⟨k1, k2⟩ := hk.1 p1
    obtain ⟨a1, a2, a3, a4⟩ := main 33 (by decide) p3 k1
    refine ⟨fin 33 a1 a3 (Or.inl ⟨h1.trans p1, h2.trans p2, a1⟩), ⟨fun _ => ⟨a2, ?_⟩, fun z => by rw [h1, p1] at z; exact absurd z (by decide)⟩, fun q => ⟨fun _ => a4 (q.1 p1), fun z => by rw [h1, p1] at z; exact absurd z (by decide)⟩⟩
    rw [l 16 (by decide), l 33 (by decide)]
    rcases k2 with z | ⟨z1, z2, z3⟩
    · exact Or.inl z
    · exact Or.inr ⟨z1, z2, tHold_low_33 lo z3⟩
  · obtain ⟨k1, k2⟩ := hk.2 p1
    obtain ⟨a1, a2, a3, a4⟩ := main 62 (by decide) p3 k1
    refine ⟨fin 62 a1 a3 (Or.inr ⟨h1.trans p1, h2.trans p2, a1⟩), ⟨fun z => by rw [h1, p1] at z; exact absurd z (by decide), fun _ => ⟨a2, ?_⟩⟩, fun q => ⟨fun z => by rw [h1, p1] at z; exact absurd z (by decide), fun _ => a4 (q.2 p1)⟩⟩
    rw [l 16 (by decide), l 62 (by decide)]
    rcases k2 with z | ⟨z1, z2, z3⟩
    · exact Or.inl z
    · exact Or.inr ⟨z1, z2, tHold_low_62 lo z3⟩
