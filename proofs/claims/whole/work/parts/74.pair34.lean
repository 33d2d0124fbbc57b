/-! The pairs function, site -/
theorem fn_rel_33 {M : Nat → Int → Int} {m : Nat} (hip : iprog 33 M) (hx : ipx 33 M) (hper : iperm M) (hs : iset M) (hf : iprof m M) : (∀ f : Int, 0 ≤ f → f < M 33 0 → (∀ w : Int, fnV (M 36 f) (M 37 f) (M 39 f) (M 41 f) (M 22 f) (M 43 f) (if M 42 f = -2 then 0 else 1) (M 34 f) w = fnV (M 473 (8 * M 467 11 + M 503 f)) (M 474 (8 * M 467 11 + M 503 f)) (M 476 (8 * M 467 11 + M 503 f)) (M 478 (8 * M 467 11 + M 503 f)) (M 507 (M 503 f)) (M 476 (8 * M 467 11 + M 503 f) - M 479 (8 * M 467 11 + M 503 f) + M 474 (8 * M 467 11 + M 503 f)) (M 479 (8 * M 467 11 + M 503 f)) (M 472 (8 * M 467 11 + M 503 f)) w) ∧ (rch (fun xh xg => (0 ≤ xh ∧ xh < M 33 0) ∧ ∃ xs : Int, M 40 xh ≤ xs ∧ xs < M 40 xh + M 41 xh ∧ M 45 xs = xg) f f ↔ rch (dE (M 471 (M 467 11)) (fun xk => M 498 (16 * M 467 11 + xk)) (fun xk => M 485 (M 492 (16 * M 467 11 + xk)))) (M 503 f) (M 503 f))) ∧
    (∀ f : Int, 0 ≤ f → f < M 33 0 → (0 < M 34 f ∧ M 34 f < 1073741824) ∧ M 35 f = nlet (M 34 f)) ∧
    (∀ g : Int, 0 ≤ g → g < M 469 (M 467 11) → (0 < M 472 (8 * M 467 11 + g) ∧ M 472 (8 * M 467 11 + g) < 1073741824) ∧ (0 ≤ M 476 (8 * M 467 11 + g) ∧ M 476 (8 * M 467 11 + g) ≤ 60) ∧ (0 ≤ M 474 (8 * M 467 11 + g) ∧ M 474 (8 * M 467 11 + g) ≤ 8)) ∧
    (∀ s : Int, 0 ≤ s → s < M 471 (M 467 11) → (0 ≤ M 492 (16 * M 467 11 + s) ∧ M 492 (16 * M 467 11 + s) < 520) ∧ (0 ≤ M 485 (M 492 (16 * M 467 11 + s)) ∧ M 485 (M 492 (16 * M 467 11 + s)) < M 469 (M 467 11)) ∧ 0 ≤ M 498 (16 * M 467 11 + s) ∧ M 498 (16 * M 467 11 + s) < M 469 (M 467 11)) ∧
    (∀ s : Int, 0 ≤ s → s < M 33 1 → (0 ≤ M 46 s ∧ M 46 s < M 48 13) ∧ ∀ w : Int, siV (M 44 s) (M 45 s) (M 23 s) (hma (M 49) (M 60) 8 (M 55 (M 46 s)).toNat (M 46 s)) (hma (M 49) (M 60) 7 (M 55 (M 46 s)).toNat (M 46 s)) (M 46 s) (M 50 (M 46 s)) w = siV (M 504 (M 498 (16 * M 467 11 + s))) (M 504 (M 485 (M 492 (16 * M 467 11 + s)))) (M 508 s) (M 493 (16 * M 467 11 + s)) (M 494 (16 * M 467 11 + s)) (M 492 (16 * M 467 11 + s) - 60 * M 467 11) (M 481 (M 492 (16 * M 467 11 + s))) w) := by
  obtain ⟨i1, ⟨i2, i2b, i2c⟩, i3, i4, i5, ⟨i6, i6b, i6c, i6d⟩, i7, i8⟩ := hip
  obtain ⟨x1, x2, x3, ⟨y1, y2, y3, y4⟩⟩ := hx
  have i6 : ∀ f : Int, 0 ≤ f → f < M 469 (M 467 11) → (0 ≤ M 503 f ∧ M 503 f < M 469 (M 467 11)) ∧ M 36 f = M 473 (8 * M 467 11 + M 503 f) ∧ M 37 f = M 474 (8 * M 467 11 + M 503 f) ∧ M 38 f = M 475 (8 * M 467 11 + M 503 f) ∧ M 39 f = M 476 (8 * M 467 11 + M 503 f) := i6
  have x1 : ∀ f : Int, 0 ≤ f → f < M 469 (M 467 11) → M 40 f = M 477 (8 * M 467 11 + M 503 f) ∧ M 41 f = M 478 (8 * M 467 11 + M 503 f) ∧ M 43 f = M 476 (8 * M 467 11 + M 503 f) - M 479 (8 * M 467 11 + M 503 f) + M 474 (8 * M 467 11 + M 503 f) := x1
  have y1 : ∀ f : Int, 0 ≤ f → f < M 469 (M 467 11) → M 34 f = M 472 (8 * M 467 11 + M 503 f) ∧ M 35 f = nlet (M 472 (8 * M 467 11 + M 503 f)) ∧ M 42 f = ygiv M (M 503 f) := y1
  have y3 : ∀ s : Int, 0 ≤ s → s < M 471 (M 467 11) → ((0 ≤ M 44 s ∧ M 44 s < M 469 (M 467 11)) ∧ M 503 (M 44 s) = M 498 (16 * M 467 11 + s)) ∧ (M 46 s = M 492 (16 * M 467 11 + s) - 60 * M 467 11 ∧ 0 ≤ M 46 s ∧ M 46 s < M 470 (M 467 11)) ∧ (M 493 (16 * M 467 11 + s) = hma (M 49) (M 60) 8 (M 55 (M 46 s)).toNat (M 46 s) ∧ M 494 (16 * M 467 11 + s) = hma (M 49) (M 60) 7 (M 55 (M 46 s)).toNat (M 46 s)) ∧
    ∀ g : Int, 0 ≤ g → g < M 469 (M 467 11) → (M 498 (16 * M 467 11 + s) = g ↔ (M 477 (8 * M 467 11 + g) ≤ s ∧ s < M 477 (8 * M 467 11 + g) + M 478 (8 * M 467 11 + g))) := y3
  have i6b : ∀ s : Int, 0 ≤ s → s < 16 → 0 ≤ TOf M s → 0 ≤ M 45 s ∧ M 45 s < M 469 (M 467 11) ∧ M 503 (M 45 s) = TOf M s := i6b
  have i5 : ∀ l : Int, 0 ≤ l → l < M 470 (M 467 11) → M 49 l = M 480 (l + 60 * M 467 11) ∧ M 50 l = M 481 (l + 60 * M 467 11) ∧ _ := i5
  have ns : 0 ≤ M 471 (M 467 11) ∧ M 471 (M 467 11) ≤ 16 := by rw [← i2b]; exact i3
  have to : ∀ s : Int, 0 ≤ s → s < M 471 (M 467 11) → TOf M s = M 485 (M 492 (16 * M 467 11 + s)) := fun s _ s1 => if_pos s1
  have tp : ∀ s : Int, 0 ≤ s → s < M 471 (M 467 11) → 0 ≤ M 45 s ∧ M 45 s < M 469 (M 467 11) ∧ M 503 (M 45 s) = M 485 (M 492 (16 * M 467 11 + s)) := fun s s0 s1 => by
    have a := x3 s s0 s1
    have z := i6b s s0 (by omega) (by rw [to s s0 s1]; exact a.2.2.2.1)
    rw [to s s0 s1] at z
    exact z
  have si : ∀ s : Int, 0 ≤ s → s < M 471 (M 467 11) → 0 ≤ M 498 (16 * M 467 11 + s) ∧ M 498 (16 * M 467 11 + s) < M 469 (M 467 11) := fun s s0 s1 => by
    have z := (y3 s s0 s1).1
    rw [← z.2]; exact (i6 _ z.1.1 z.1.2).1
  have inv : ∀ f : Int, 0 ≤ f → f < M 469 (M 467 11) → M 504 (M 503 f) = f := fun f f0 f1 => (hper f f0 (by omega)).2.2.1
  refine ⟨fun f f0 f1 => ⟨fun w => ?_, ?_⟩, fun f f0 f1 => ?_, fun g g0 g1 => ?_, fun s s0 s1 => ⟨(x3 s s0 s1).2.2.1, (x3 s s0 s1).2.2.2, si s s0 s1⟩, fun s s0 s1 => ⟨?_, fun w => ?_⟩⟩
  · rw [i2] at f1
    have a := i6 f f0 f1
    have b := x1 f f0 f1
    have c := y1 f f0 f1
    have g6 := (x2 _ a.1.1 a.1.2).2.1
    have gy := (y2 _ a.1.1 a.1.2).2.1
    have e6 : (if M 42 f = -2 then (0 : Int) else 1) = M 479 (8 * M 467 11 + M 503 f) := by
      rw [c.2.2]
      unfold ygiv
      rcases g6 with z | z
      · rw [if_pos z, z]; rfl
      · rw [if_neg, z]
        rw [if_neg (show ¬ M 479 (8 * M 467 11 + M 503 f) = 0 by omega)]
        exact (gy z).2.2
    rw [e6, a.2.1, a.2.2.1, a.2.2.2.2, b.2.1, b.2.2, c.1, hf.1 f f0 (by omega)]
  · rw [i2] at f1
    constructor
    · rintro ⟨n, r⟩
      refine ⟨n, rch_map (ρ := M 503) (fun a c e => ?_) n f f r⟩
      obtain ⟨⟨a0, a1⟩, s, s1, s2, s3⟩ := e
      rw [i2] at a1
      have b := x1 a a0 a1
      have g := (i6 a a0 a1).1
      have v := (x2 _ g.1 g.2).1
      rw [b.1] at s1 s2
      rw [b.2.1] at s2
      refine ⟨s, by omega, by omega, ((y3 s (by omega) (by omega)).2.2.2 _ g.1 g.2).mpr ⟨s1, s2⟩, ?_⟩
      have t := tp s (by omega) (by omega)
      show M 485 (M 492 (16 * M 467 11 + s)) = M 503 c
      rw [← t.2.2, s3]
    · rintro ⟨n, r⟩
      have z := rch_map (ρ := M 504) (F := (fun xh xg => (0 ≤ xh ∧ xh < M 33 0) ∧ ∃ xs : Int, M 40 xh ≤ xs ∧ xs < M 40 xh + M 41 xh ∧ M 45 xs = xg)) (fun a c e => ?_) n _ _ r
      · rw [inv f f0 f1] at z
        exact ⟨n, z⟩
      · obtain ⟨s, s0, s1, s2, s3⟩ := e
        have s2 : M 498 (16 * M 467 11 + s) = a := s2
        have s3 : M 485 (M 492 (16 * M 467 11 + s)) = c := s3
        have u := y3 s s0 s1
        have t := tp s s0 s1
        have ea : M 504 a = M 44 s := by rw [← s2, ← u.1.2]; exact inv _ u.1.1.1 u.1.1.2
        have ec : M 504 c = M 45 s := by rw [← s3, ← t.2.2]; exact inv _ t.1 t.2.1
        have b := x1 _ u.1.1.1 u.1.1.2
        have w := si s s0 s1
        have k := (u.2.2.2 a (by omega) (by omega)).mp s2
        rw [ea, ec]
        refine ⟨⟨u.1.1.1, by rw [i2]; exact u.1.1.2⟩, s, ?_, ?_, rfl⟩
        · rw [b.1, u.1.2, s2]; exact k.1
        · rw [b.1, b.2.1, u.1.2, s2]; exact k.2
  · rw [i2] at f1
    have a := i6 f f0 f1
    have c := y1 f f0 f1
    rw [c.1, c.2.1]
    exact ⟨(y2 _ a.1.1 a.1.2).1, rfl⟩
  · have d := i8 g g0 g1
    exact ⟨(y2 g g0 g1).1, ⟨d.2.2.2.2.2.2.1, d.2.2.2.2.2.2.2⟩, by omega, by omega⟩
  · rw [i2b] at s1
    have u := (y3 s s0 s1).2.1
    have e : M 48 13 = M 470 (M 467 11) := i2c
    exact ⟨u.2.1, by rw [e]; exact u.2.2⟩
  · rw [i2b] at s1
    have u := y3 s s0 s1
    have t := tp s s0 s1
    have l := i5 _ u.2.1.2.1 u.2.1.2.2
    have e1 : M 504 (M 498 (16 * M 467 11 + s)) = M 44 s := by rw [← u.1.2]; exact inv _ u.1.1.1 u.1.1.2
    have e2 : M 504 (M 485 (M 492 (16 * M 467 11 + s))) = M 45 s := by rw [← t.2.2]; exact inv _ t.1 t.2.1
    have e3 : M 50 (M 46 s) = M 481 (M 492 (16 * M 467 11 + s)) := by rw [l.2.1, u.2.1.1]; congr 1; omega
    rw [e1, e2, e3, u.2.2.1.1, u.2.2.1.2, (hf.2.2 s s0 (by omega)).1, ← u.2.1.1]
theorem pair_3_33 {R : (Nat → Nat → Nat) → (Nat → Int → Int) → Prop} {L0 : Nat} {xs : Nat → Int32} {m d : Nat} {P : Nat → Nat → Nat} {M : Nat → Int → Int} {a0 a1 : Int} (r1 : in32 a1) (hB : IB L0 xs m P M) (hK : KP P M) (hk : KT 33 M) (hR : R P M) (hp : P 16 11 = 33) (hq : P 16 12 = 62) (hip : iprog 33 M) {Q1 : zQ} (h1 : ∀ (P1 : Nat → Nat → Nat) (M1 : Nat → Int → Int) (x : Int), M1 1 = M 1 → (∀ (Q2 : zQ), (∀ (P2 : Nat → Nat → Nat) (M2 : Nat → Int → Int), M2 1 = M 1 → IB L0 xs (m + 1) P2 M2 ∧ KP P2 M2 ∧ R P2 M2 → Q2 (zS P2 M2) (some (vI x))) → WC (d + 80) 151 [vR 467, vI a0, vI a1] (zS P1 M1) Q2) → Q1 (zS P1 M1) (some (vI x))) : WC (d + 80) 5 [vR 16, vI a0, vI a1] (zS P M) Q1 := by
  obtain ⟨b1, b2, b3, b4, b5, b6, b7⟩ := id hB
  obtain ⟨⟨hgA, h3⟩, hgB, hl, hv, hpp, hz⟩ := px_33 hip hk.1 b4
  obtain ⟨f1, f2, f3, f4, f5⟩ := fn_rel_33 hip hk.1 b5 b4 b6
  obtain ⟨i1, ⟨i2, i2b, i2c⟩, i3, i4, i5, i6, i7, i8⟩ := id hip
  have eP : zupN P 16 11 33 = P := by
    have := zupN_self P 16 11
    rw [hp] at this
    exact this
  have up : IB L0 xs (m + 1) P M := ⟨b1, b2, b3, b4, b5, iprof_up b6, b7⟩
  have J : IB L0 xs (m + 1) (zupN P 16 11 33) M ∧ KP (zupN P 16 11 33) M ∧ R (zupN P 16 11 33) M := by rw [eP]; exact ⟨up, hK, hR⟩
  have hn : M 33 0 ≤ 8 ∧ M 33 1 ≤ 16 := by rw [i2]; exact ⟨hgB.1.1.2, i3.2⟩
  refine eqC eP.symm rfl (function_c_33 (d := d + 77) a0 a1 hn (fun f f0 f1 => (hgA.2.1 f f0 f1).1) (fun s s0 s1 => (hgA.2.2.1 s s0 s1).1) r1 f2 (fun q => ?_) (fun q => ?_) (fun r q q2 => ?_))
  · refine h1 _ M _ rfl (fun Q2 h2 => function_m (d := d + 77) a0 a1 i1 hgB.1 f4 r1 hpp f3 hv (fun _ => h2 _ M rfl J) (fun q' => ?_) (fun r q' _ => ?_))
    · exfalso; omega
    · exfalso; omega
  · refine h1 _ M _ rfl (fun Q2 h2 => function_m (d := d + 77) a0 a1 i1 hgB.1 f4 r1 hpp f3 hv (fun q' => eqR ?_ (h2 _ M rfl J)) (fun q' => ?_) (fun r q' _ => ?_))
    · unfold fnV
      repeat (first | rw [if_neg (by omega)])
    · exact eqR ((f1 a0 q.1.1 q.1.2).1 a1).symm (h2 _ M rfl J)
    · exact absurd q'.2 q.2
  · refine h1 _ M _ rfl (fun Q2 h2 => function_m (d := d + 77) a0 a1 i1 hgB.1 f4 r1 hpp f3 hv (fun q' => ?_) (fun q' => ?_) (fun r' q' q3 => ?_))
    · exfalso; omega
    · exact absurd q.2 q'.2
    · refine eqR ?_ (h2 _ M rfl J)
      have z := (f1 a0 q.1.1 q.1.2).2
      have y : r = 1 ↔ r' = 1 := q2.2.trans (z.trans q3.2.symm)
      have y1 := q2.1
      have y2 := q3.1
      omega
theorem pair_4_33 {R : (Nat → Nat → Nat) → (Nat → Int → Int) → Prop} {L0 : Nat} {xs : Nat → Int32} {m d : Nat} {P : Nat → Nat → Nat} {M : Nat → Int → Int} {a0 a1 : Int} (hB : IB L0 xs m P M) (hK : KP P M) (hk : KT 33 M) (hR : R P M) (hp : P 16 11 = 33) (hq : P 16 12 = 62) (hip : iprog 33 M) {Q1 : zQ} (h1 : ∀ (P1 : Nat → Nat → Nat) (M1 : Nat → Int → Int) (x : Int), M1 1 = M 1 → (∀ (Q2 : zQ), (∀ (P2 : Nat → Nat → Nat) (M2 : Nat → Int → Int), M2 1 = M 1 → IB L0 xs (m + 1) P2 M2 ∧ KP P2 M2 ∧ R P2 M2 → Q2 (zS P2 M2) (some (vI x))) → WC (d + 80) 152 [vR 467, vI a0, vI a1] (zS P1 M1) Q2) → Q1 (zS P1 M1) (some (vI x))) : WC (d + 80) 6 [vR 16, vI a0, vI a1] (zS P M) Q1 := by
  obtain ⟨b1, b2, b3, b4, b5, b6, b7⟩ := id hB
  obtain ⟨⟨hgA, h3⟩, hgB, hl, hv, hpp, hz⟩ := px_33 hip hk.1 b4
  obtain ⟨f1, f2, f3, f4, f5⟩ := fn_rel_33 hip hk.1 b5 b4 b6
  obtain ⟨i1, ⟨i2, i2b, i2c⟩, i3, i4, i5, i6, i7, i8⟩ := id hip
  have eP : zupN P 16 11 33 = P := by
    have := zupN_self P 16 11
    rw [hp] at this
    exact this
  have up : IB L0 xs (m + 1) P M := ⟨b1, b2, b3, b4, b5, iprof_up b6, b7⟩
  have J : IB L0 xs (m + 1) (zupN P 16 11 33) M ∧ KP (zupN P 16 11 33) M ∧ R (zupN P 16 11 33) M := by rw [eP]; exact ⟨up, hK, hR⟩
  have e15 : M 48 13 = M 470 (M 467 11) := i2c
  refine eqC eP.symm rfl (site_c_33 (d := d + 78) a0 a1 i3.2 (fun s s0 s1 => (f5 s s0 s1).1) i4.2 (fun l l0 l1 => hk.1.2.2.2.2.2.2 l l0 (by rw [← e15]; exact l1)) (fun q => ?_) (fun q => ?_))
  · refine h1 _ M _ rfl (fun Q2 h2 => site_m (d := d + 78) a0 a1 i1 hgB.1 f4 (fun _ => h2 _ M rfl J) (fun q' => ?_))
    exfalso; omega
  · refine h1 _ M _ rfl (fun Q2 h2 => site_m (d := d + 78) a0 a1 i1 hgB.1 f4 (fun q' => ?_) (fun q' => ?_))
    · exfalso; omega
    · exact eqR ((f5 a0 q.1 q.2).2 a1).symm (h2 _ M rfl J)
theorem fn_rel_62 {M : Nat → Int → Int} {m : Nat} (hip : iprog 62 M) (hx : ipx 62 M) (hper : iperm M) (hs : iset M) (hf : iprof m M) : (∀ f : Int, 0 ≤ f → f < M 62 0 → (∀ w : Int, fnV (M 65 f) (M 66 f) (M 68 f) (M 70 f) (M 22 f) (M 72 f) (if M 71 f = -2 then 0 else 1) (M 63 f) w = fnV (M 473 (8 * M 467 11 + M 503 f)) (M 474 (8 * M 467 11 + M 503 f)) (M 476 (8 * M 467 11 + M 503 f)) (M 478 (8 * M 467 11 + M 503 f)) (M 507 (M 503 f)) (M 476 (8 * M 467 11 + M 503 f) - M 479 (8 * M 467 11 + M 503 f) + M 474 (8 * M 467 11 + M 503 f)) (M 479 (8 * M 467 11 + M 503 f)) (M 472 (8 * M 467 11 + M 503 f)) w) ∧ (rch (fun xh xg => (0 ≤ xh ∧ xh < M 62 0) ∧ ∃ xs : Int, M 69 xh ≤ xs ∧ xs < M 69 xh + M 70 xh ∧ M 74 xs = xg) f f ↔ rch (dE (M 471 (M 467 11)) (fun xk => M 498 (16 * M 467 11 + xk)) (fun xk => M 485 (M 492 (16 * M 467 11 + xk)))) (M 503 f) (M 503 f))) ∧
    (∀ f : Int, 0 ≤ f → f < M 62 0 → (0 < M 63 f ∧ M 63 f < 1073741824) ∧ M 64 f = nlet (M 63 f)) ∧
    (∀ g : Int, 0 ≤ g → g < M 469 (M 467 11) → (0 < M 472 (8 * M 467 11 + g) ∧ M 472 (8 * M 467 11 + g) < 1073741824) ∧ (0 ≤ M 476 (8 * M 467 11 + g) ∧ M 476 (8 * M 467 11 + g) ≤ 60) ∧ (0 ≤ M 474 (8 * M 467 11 + g) ∧ M 474 (8 * M 467 11 + g) ≤ 8)) ∧
    (∀ s : Int, 0 ≤ s → s < M 471 (M 467 11) → (0 ≤ M 492 (16 * M 467 11 + s) ∧ M 492 (16 * M 467 11 + s) < 520) ∧ (0 ≤ M 485 (M 492 (16 * M 467 11 + s)) ∧ M 485 (M 492 (16 * M 467 11 + s)) < M 469 (M 467 11)) ∧ 0 ≤ M 498 (16 * M 467 11 + s) ∧ M 498 (16 * M 467 11 + s) < M 469 (M 467 11)) ∧
    (∀ s : Int, 0 ≤ s → s < M 62 1 → (0 ≤ M 75 s ∧ M 75 s < M 77 13) ∧ ∀ w : Int, siV (M 73 s) (M 74 s) (M 23 s) (hma (M 78) (M 89) 8 (M 84 (M 75 s)).toNat (M 75 s)) (hma (M 78) (M 89) 7 (M 84 (M 75 s)).toNat (M 75 s)) (M 75 s) (M 79 (M 75 s)) w = siV (M 504 (M 498 (16 * M 467 11 + s))) (M 504 (M 485 (M 492 (16 * M 467 11 + s)))) (M 508 s) (M 493 (16 * M 467 11 + s)) (M 494 (16 * M 467 11 + s)) (M 492 (16 * M 467 11 + s) - 60 * M 467 11) (M 481 (M 492 (16 * M 467 11 + s))) w) := by
  obtain ⟨i1, ⟨i2, i2b, i2c⟩, i3, i4, i5, ⟨i6, i6b, i6c, i6d⟩, i7, i8⟩ := hip
  obtain ⟨x1, x2, x3, ⟨y1, y2, y3, y4⟩⟩ := hx
  have i6 : ∀ f : Int, 0 ≤ f → f < M 469 (M 467 11) → (0 ≤ M 503 f ∧ M 503 f < M 469 (M 467 11)) ∧ M 65 f = M 473 (8 * M 467 11 + M 503 f) ∧ M 66 f = M 474 (8 * M 467 11 + M 503 f) ∧ M 67 f = M 475 (8 * M 467 11 + M 503 f) ∧ M 68 f = M 476 (8 * M 467 11 + M 503 f) := i6
  have x1 : ∀ f : Int, 0 ≤ f → f < M 469 (M 467 11) → M 69 f = M 477 (8 * M 467 11 + M 503 f) ∧ M 70 f = M 478 (8 * M 467 11 + M 503 f) ∧ M 72 f = M 476 (8 * M 467 11 + M 503 f) - M 479 (8 * M 467 11 + M 503 f) + M 474 (8 * M 467 11 + M 503 f) := x1
  have y1 : ∀ f : Int, 0 ≤ f → f < M 469 (M 467 11) → M 63 f = M 472 (8 * M 467 11 + M 503 f) ∧ M 64 f = nlet (M 472 (8 * M 467 11 + M 503 f)) ∧ M 71 f = ygiv M (M 503 f) := y1
  have y3 : ∀ s : Int, 0 ≤ s → s < M 471 (M 467 11) → ((0 ≤ M 73 s ∧ M 73 s < M 469 (M 467 11)) ∧ M 503 (M 73 s) = M 498 (16 * M 467 11 + s)) ∧ (M 75 s = M 492 (16 * M 467 11 + s) - 60 * M 467 11 ∧ 0 ≤ M 75 s ∧ M 75 s < M 470 (M 467 11)) ∧ (M 493 (16 * M 467 11 + s) = hma (M 78) (M 89) 8 (M 84 (M 75 s)).toNat (M 75 s) ∧ M 494 (16 * M 467 11 + s) = hma (M 78) (M 89) 7 (M 84 (M 75 s)).toNat (M 75 s)) ∧
    ∀ g : Int, 0 ≤ g → g < M 469 (M 467 11) → (M 498 (16 * M 467 11 + s) = g ↔ (M 477 (8 * M 467 11 + g) ≤ s ∧ s < M 477 (8 * M 467 11 + g) + M 478 (8 * M 467 11 + g))) := y3
  have i6b : ∀ s : Int, 0 ≤ s → s < 16 → 0 ≤ TOf M s → 0 ≤ M 74 s ∧ M 74 s < M 469 (M 467 11) ∧ M 503 (M 74 s) = TOf M s := i6b
  have i5 : ∀ l : Int, 0 ≤ l → l < M 470 (M 467 11) → M 78 l = M 480 (l + 60 * M 467 11) ∧ M 79 l = M 481 (l + 60 * M 467 11) ∧ _ := i5
  have ns : 0 ≤ M 471 (M 467 11) ∧ M 471 (M 467 11) ≤ 16 := by rw [← i2b]; exact i3
  have to : ∀ s : Int, 0 ≤ s → s < M 471 (M 467 11) → TOf M s = M 485 (M 492 (16 * M 467 11 + s)) := fun s _ s1 => if_pos s1
  have tp : ∀ s : Int, 0 ≤ s → s < M 471 (M 467 11) → 0 ≤ M 74 s ∧ M 74 s < M 469 (M 467 11) ∧ M 503 (M 74 s) = M 485 (M 492 (16 * M 467 11 + s)) := fun s s0 s1 => by
    have a := x3 s s0 s1
    have z := i6b s s0 (by omega) (by rw [to s s0 s1]; exact a.2.2.2.1)
    rw [to s s0 s1] at z
    exact z
  have si : ∀ s : Int, 0 ≤ s → s < M 471 (M 467 11) → 0 ≤ M 498 (16 * M 467 11 + s) ∧ M 498 (16 * M 467 11 + s) < M 469 (M 467 11) := fun s s0 s1 => by
    have z := (y3 s s0 s1).1
    rw [← z.2]; exact (i6 _ z.1.1 z.1.2).1
  have inv : ∀ f : Int, 0 ≤ f → f < M 469 (M 467 11) → M 504 (M 503 f) = f := fun f f0 f1 => (hper f f0 (by omega)).2.2.1
  refine ⟨fun f f0 f1 => ⟨fun w => ?_, ?_⟩, fun f f0 f1 => ?_, fun g g0 g1 => ?_, fun s s0 s1 => ⟨(x3 s s0 s1).2.2.1, (x3 s s0 s1).2.2.2, si s s0 s1⟩, fun s s0 s1 => ⟨?_, fun w => ?_⟩⟩
  · rw [i2] at f1
    have a := i6 f f0 f1
    have b := x1 f f0 f1
    have c := y1 f f0 f1
    have g6 := (x2 _ a.1.1 a.1.2).2.1
    have gy := (y2 _ a.1.1 a.1.2).2.1
    have e6 : (if M 71 f = -2 then (0 : Int) else 1) = M 479 (8 * M 467 11 + M 503 f) := by
      rw [c.2.2]
      unfold ygiv
      rcases g6 with z | z
      · rw [if_pos z, z]; rfl
      · rw [if_neg, z]
        rw [if_neg (show ¬ M 479 (8 * M 467 11 + M 503 f) = 0 by omega)]
        exact (gy z).2.2
    rw [e6, a.2.1, a.2.2.1, a.2.2.2.2, b.2.1, b.2.2, c.1, hf.1 f f0 (by omega)]
  · rw [i2] at f1
    constructor
    · rintro ⟨n, r⟩
      refine ⟨n, rch_map (ρ := M 503) (fun a c e => ?_) n f f r⟩
      obtain ⟨⟨a0, a1⟩, s, s1, s2, s3⟩ := e
      rw [i2] at a1
      have b := x1 a a0 a1
      have g := (i6 a a0 a1).1
      have v := (x2 _ g.1 g.2).1
      rw [b.1] at s1 s2
      rw [b.2.1] at s2
      refine ⟨s, by omega, by omega, ((y3 s (by omega) (by omega)).2.2.2 _ g.1 g.2).mpr ⟨s1, s2⟩, ?_⟩
      have t := tp s (by omega) (by omega)
      show M 485 (M 492 (16 * M 467 11 + s)) = M 503 c
      rw [← t.2.2, s3]
    · rintro ⟨n, r⟩
      have z := rch_map (ρ := M 504) (F := (fun xh xg => (0 ≤ xh ∧ xh < M 62 0) ∧ ∃ xs : Int, M 69 xh ≤ xs ∧ xs < M 69 xh + M 70 xh ∧ M 74 xs = xg)) (fun a c e => ?_) n _ _ r
      · rw [inv f f0 f1] at z
        exact ⟨n, z⟩
      · obtain ⟨s, s0, s1, s2, s3⟩ := e
        have s2 : M 498 (16 * M 467 11 + s) = a := s2
        have s3 : M 485 (M 492 (16 * M 467 11 + s)) = c := s3
        have u := y3 s s0 s1
        have t := tp s s0 s1
        have ea : M 504 a = M 73 s := by rw [← s2, ← u.1.2]; exact inv _ u.1.1.1 u.1.1.2
        have ec : M 504 c = M 74 s := by rw [← s3, ← t.2.2]; exact inv _ t.1 t.2.1
        have b := x1 _ u.1.1.1 u.1.1.2
        have w := si s s0 s1
        have k := (u.2.2.2 a (by omega) (by omega)).mp s2
        rw [ea, ec]
        refine ⟨⟨u.1.1.1, by rw [i2]; exact u.1.1.2⟩, s, ?_, ?_, rfl⟩
        · rw [b.1, u.1.2, s2]; exact k.1
        · rw [b.1, b.2.1, u.1.2, s2]; exact k.2
  · rw [i2] at f1
    have a := i6 f f0 f1
    have c := y1 f f0 f1
    rw [c.1, c.2.1]
    exact ⟨(y2 _ a.1.1 a.1.2).1, rfl⟩
  · have d := i8 g g0 g1
    exact ⟨(y2 g g0 g1).1, ⟨d.2.2.2.2.2.2.1, d.2.2.2.2.2.2.2⟩, by omega, by omega⟩
  · rw [i2b] at s1
    have u := (y3 s s0 s1).2.1
    have e : M 77 13 = M 470 (M 467 11) := i2c
    exact ⟨u.2.1, by rw [e]; exact u.2.2⟩
  · rw [i2b] at s1
    have u := y3 s s0 s1
    have t := tp s s0 s1
    have l := i5 _ u.2.1.2.1 u.2.1.2.2
    have e1 : M 504 (M 498 (16 * M 467 11 + s)) = M 73 s := by rw [← u.1.2]; exact inv _ u.1.1.1 u.1.1.2
    have e2 : M 504 (M 485 (M 492 (16 * M 467 11 + s))) = M 74 s := by rw [← t.2.2]; exact inv _ t.1 t.2.1
    have e3 : M 79 (M 75 s) = M 481 (M 492 (16 * M 467 11 + s)) := by rw [l.2.1, u.2.1.1]; congr 1; omega
    rw [e1, e2, e3, u.2.2.1.1, u.2.2.1.2, (hf.2.2 s s0 (by omega)).1, ← u.2.1.1]
theorem pair_3_62 {R : (Nat → Nat → Nat) → (Nat → Int → Int) → Prop} {L0 : Nat} {xs : Nat → Int32} {m d : Nat} {P : Nat → Nat → Nat} {M : Nat → Int → Int} {a0 a1 : Int} (r1 : in32 a1) (hB : IB L0 xs m P M) (hK : KP P M) (hk : KT 62 M) (hR : R P M) (hp : P 16 11 = 62) (hq : P 16 12 = 33) (hip : iprog 62 M) {Q1 : zQ} (h1 : ∀ (P1 : Nat → Nat → Nat) (M1 : Nat → Int → Int) (x : Int), M1 1 = M 1 → (∀ (Q2 : zQ), (∀ (P2 : Nat → Nat → Nat) (M2 : Nat → Int → Int), M2 1 = M 1 → IB L0 xs (m + 1) P2 M2 ∧ KP P2 M2 ∧ R P2 M2 → Q2 (zS P2 M2) (some (vI x))) → WC (d + 80) 151 [vR 467, vI a0, vI a1] (zS P1 M1) Q2) → Q1 (zS P1 M1) (some (vI x))) : WC (d + 80) 5 [vR 16, vI a0, vI a1] (zS P M) Q1 := by
  obtain ⟨b1, b2, b3, b4, b5, b6, b7⟩ := id hB
  obtain ⟨⟨hgA, h3⟩, hgB, hl, hv, hpp, hz⟩ := px_62 hip hk.1 b4
  obtain ⟨f1, f2, f3, f4, f5⟩ := fn_rel_62 hip hk.1 b5 b4 b6
  obtain ⟨i1, ⟨i2, i2b, i2c⟩, i3, i4, i5, i6, i7, i8⟩ := id hip
  have eP : zupN P 16 11 62 = P := by
    have := zupN_self P 16 11
    rw [hp] at this
    exact this
  have up : IB L0 xs (m + 1) P M := ⟨b1, b2, b3, b4, b5, iprof_up b6, b7⟩
  have J : IB L0 xs (m + 1) (zupN P 16 11 62) M ∧ KP (zupN P 16 11 62) M ∧ R (zupN P 16 11 62) M := by rw [eP]; exact ⟨up, hK, hR⟩
  have hn : M 62 0 ≤ 8 ∧ M 62 1 ≤ 16 := by rw [i2]; exact ⟨hgB.1.1.2, i3.2⟩
  refine eqC eP.symm rfl (function_c_62 (d := d + 77) a0 a1 hn (fun f f0 f1 => (hgA.2.1 f f0 f1).1) (fun s s0 s1 => (hgA.2.2.1 s s0 s1).1) r1 f2 (fun q => ?_) (fun q => ?_) (fun r q q2 => ?_))
  · refine h1 _ M _ rfl (fun Q2 h2 => function_m (d := d + 77) a0 a1 i1 hgB.1 f4 r1 hpp f3 hv (fun _ => h2 _ M rfl J) (fun q' => ?_) (fun r q' _ => ?_))
    · exfalso; omega
    · exfalso; omega
  · refine h1 _ M _ rfl (fun Q2 h2 => function_m (d := d + 77) a0 a1 i1 hgB.1 f4 r1 hpp f3 hv (fun q' => eqR ?_ (h2 _ M rfl J)) (fun q' => ?_) (fun r q' _ => ?_))
    · unfold fnV
      repeat (first | rw [if_neg (by omega)])
    · exact eqR ((f1 a0 q.1.1 q.1.2).1 a1).symm (h2 _ M rfl J)
    · exact absurd q'.2 q.2
  · refine h1 _ M _ rfl (fun Q2 h2 => function_m (d := d + 77) a0 a1 i1 hgB.1 f4 r1 hpp f3 hv (fun q' => ?_) (fun q' => ?_) (fun r' q' q3 => ?_))
    · exfalso; omega
    · exact absurd q.2 q'.2
    · refine eqR ?_ (h2 _ M rfl J)
      have z := (f1 a0 q.1.1 q.1.2).2
      have y : r = 1 ↔ r' = 1 := q2.2.trans (z.trans q3.2.symm)
      have y1 := q2.1
      have y2 := q3.1
      omega
theorem pair_4_62 {R : (Nat → Nat → Nat) → (Nat → Int → Int) → Prop} {L0 : Nat} {xs : Nat → Int32} {m d : Nat} {P : Nat → Nat → Nat} {M : Nat → Int → Int} {a0 a1 : Int} (hB : IB L0 xs m P M) (hK : KP P M) (hk : KT 62 M) (hR : R P M) (hp : P 16 11 = 62) (hq : P 16 12 = 33) (hip : iprog 62 M) {Q1 : zQ} (h1 : ∀ (P1 : Nat → Nat → Nat) (M1 : Nat → Int → Int) (x : Int), M1 1 = M 1 → (∀ (Q2 : zQ), (∀ (P2 : Nat → Nat → Nat) (M2 : Nat → Int → Int), M2 1 = M 1 → IB L0 xs (m + 1) P2 M2 ∧ KP P2 M2 ∧ R P2 M2 → Q2 (zS P2 M2) (some (vI x))) → WC (d + 80) 152 [vR 467, vI a0, vI a1] (zS P1 M1) Q2) → Q1 (zS P1 M1) (some (vI x))) : WC (d + 80) 6 [vR 16, vI a0, vI a1] (zS P M) Q1 := by
  obtain ⟨b1, b2, b3, b4, b5, b6, b7⟩ := id hB
  obtain ⟨⟨hgA, h3⟩, hgB, hl, hv, hpp, hz⟩ := px_62 hip hk.1 b4
  obtain ⟨f1, f2, f3, f4, f5⟩ := fn_rel_62 hip hk.1 b5 b4 b6
  obtain ⟨i1, ⟨i2, i2b, i2c⟩, i3, i4, i5, i6, i7, i8⟩ := id hip
  have eP : zupN P 16 11 62 = P := by
    have := zupN_self P 16 11
    rw [hp] at this
    exact this
  have up : IB L0 xs (m + 1) P M := ⟨b1, b2, b3, b4, b5, iprof_up b6, b7⟩
  have J : IB L0 xs (m + 1) (zupN P 16 11 62) M ∧ KP (zupN P 16 11 62) M ∧ R (zupN P 16 11 62) M := by rw [eP]; exact ⟨up, hK, hR⟩
  have e15 : M 77 13 = M 470 (M 467 11) := i2c
  refine eqC eP.symm rfl (site_c_62 (d := d + 78) a0 a1 i3.2 (fun s s0 s1 => (f5 s s0 s1).1) i4.2 (fun l l0 l1 => hk.1.2.2.2.2.2.2 l l0 (by rw [← e15]; exact l1)) (fun q => ?_) (fun q => ?_))
  · refine h1 _ M _ rfl (fun Q2 h2 => site_m (d := d + 78) a0 a1 i1 hgB.1 f4 (fun _ => h2 _ M rfl J) (fun q' => ?_))
    exfalso; omega
  · refine h1 _ M _ rfl (fun Q2 h2 => site_m (d := d + 78) a0 a1 i1 hgB.1 f4 (fun q' => ?_) (fun q' => ?_))
    · exfalso; omega
    · exact eqR ((f5 a0 q.1 q.2).2 a1).symm (h2 _ M rfl J)
theorem pair_3 {R : (Nat → Nat → Nat) → (Nat → Int → Int) → Prop} {L0 : Nat} {xs : Nat → Int32} {m d : Nat} : pr_3 (d + 80) (fun P M => IB L0 xs m P M ∧ KP P M ∧ R P M) (fun P M => IB L0 xs (m + 1) P M ∧ KP P M ∧ R P M) := by
  intro P M a0 a1 hI r0 r1 Q1 h1
  obtain ⟨hB, hK, hR⟩ := hI
  rcases hB.2.2.2.2.2.2 with ⟨p1, p2, p3⟩ | ⟨p1, p2, p3⟩
  · exact pair_3_33 r1 hB hK (hK.1 p1) hR p1 p2 p3 h1
  · exact pair_3_62 r1 hB hK (hK.2 p1) hR p1 p2 p3 h1
theorem pair_4 {R : (Nat → Nat → Nat) → (Nat → Int → Int) → Prop} {L0 : Nat} {xs : Nat → Int32} {m d : Nat} : pr_4 (d + 80) (fun P M => IB L0 xs m P M ∧ KP P M ∧ R P M) (fun P M => IB L0 xs (m + 1) P M ∧ KP P M ∧ R P M) := by
  intro P M a0 a1 hI r0 r1 Q1 h1
  obtain ⟨hB, hK, hR⟩ := hI
  rcases hB.2.2.2.2.2.2 with ⟨p1, p2, p3⟩ | ⟨p1, p2, p3⟩
  · exact pair_4_33 hB hK (hK.1 p1) hR p1 p2 p3 h1
  · exact pair_4_62 hB hK (hK.2 p1) hR p1 p2 p3 h1
