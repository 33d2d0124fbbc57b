/-! The class runs the result, whatever lines like it the reference has -/
def rLn (M L : Nat → Int → Int) : Prop := FrL M L ∧ (L 505 = M 505 ∧ L 506 = M 506) ∧ rRel M L ∧ ySegE L (okR M L (M 469 (M 467 11)) (TOg M)) 0 0 120 (120 + M 442 13)
def ranR (M M3 L : Nat → Int → Int) : Prop := ∃ (j : Nat) (τ : Nat → Int → Int), xRuns j (xinit L 120 (M 442 13) (M 441 1) (M 441 2)) τ ∧ fRel (M 503) (fun _ => 0) (TOf M) M3 τ
theorem zS_inj2 {P P' : Nat → Nat → Nat} {M N : Nat → Int → Int} (h : (zS P M) = (zS P' N)) : M = N := congrArg (fun s : zM => s.2.2.1) h
theorem cCode_L {M L : Nat → Int → Int} {kd tg fi se th si mi en : Int → Int} (f : FrL M L) (hb : 0 ≤ M 467 11 ∧ M 467 11 ≤ 1) (hn : M 470 (M 467 11) ≤ 60) (h : cCode M (60 * M 467 11) (M 470 (M 467 11)) kd tg fi se th si mi en) : cCode L (60 * L 467 11) (M 470 (M 467 11)) kd tg fi se th si mi en := by
  obtain ⟨e, C, _, R⟩ := f
  intro l l0 l1
  rw [e, R 480 _ (by decide) (by decide) (by omega), R 481 _ (by decide) (by decide) (by omega), R 482 _ (by decide) (by decide) (by omega), R 483 _ (by decide) (by decide) (by omega), R 484 _ (by decide) (by decide) (by omega), R 486 _ (by decide) (by decide) (by omega), R 488 _ (by decide) (by decide) (by omega), R 489 _ (by decide) (by decide) (by omega)]
  exact h l l0 l1
theorem cProg_L {M L : Nat → Int → Int} {nF : Int} {π TO pa va fl lc sTo : Int → Int} (f : FrL M L) (h : cProg M nF π TO pa va fl lc sTo) : cProg L nF π TO pa va fl lc sTo := by
  obtain ⟨e, C, _, R⟩ := f
  unfold cProg at h ⊢
  rw [e, C 473 (by decide) (by decide) (by decide), C 474 (by decide) (by decide) (by decide), C 475 (by decide) (by decide) (by decide), C 476 (by decide) (by decide) (by decide)]
  exact h
theorem fn_L {p : Nat} {M L : Nat → Int → Int} {o0 n0 : Int} (f : FrL M L) (hip : iprog p M) : ∀ g : Int, 0 ≤ g → g < M 469 (M 467 11) → xSegE L (xok L o0 n0 (60 * L 467 11) (M 470 (M 467 11)) (M 469 (M 467 11)) (TOf M) 1 (L 474 (8 * L 467 11 + g))) 5 0 (60 * L 467 11 + L 475 (8 * L 467 11 + g)) (60 * L 467 11 + L 475 (8 * L 467 11 + g) + L 476 (8 * L 467 11 + g)) := by
  intro g g0 g1
  have pl := fun (r : Int) r0 r1 => iprog_pl hip (g := g) (r := r) g0 g1 r0 r1
  obtain ⟨i1, ⟨i2, i2b, i2c⟩, i3, i4, i5, i6, i7, i8⟩ := hip
  obtain ⟨e, C, _, R⟩ := f
  obtain ⟨n, q⟩ := i7 g g0 g1
  rw [e, C 474 (by decide) (by decide) (by decide), C 475 (by decide) (by decide) (by decide), C 476 (by decide) (by decide) (by decide)]
  refine ⟨n, xSeg_rng (fun r r0 r1 => ?_) (fun r r0 r1 z => ?_) n _ _ _ (Int.le_refl _) (Int.le_refl _) q⟩
  · have w := (pl r r0 r1).2.1
    exact ⟨R 480 _ (by decide) (by decide) w, R 488 _ (by decide) (by decide) w, R 489 _ (by decide) (by decide) w⟩
  · have w := (pl r r0 r1).2.1
    obtain ⟨z1, z2, z3, z4⟩ := z
    have xl : xLine (M 474 (8 * M 467 11 + g)) 0 (L 467 11) (L 480) (L 481) (L 482) (L 483) (L 484) (L 485) (L 486) (L 488) (L 489) (L 473) (L 474) (L 475) (L 476) r := by
      unfold xLine at z1 ⊢
      rw [e, C 473 (by decide) (by decide) (by decide), C 474 (by decide) (by decide) (by decide), C 475 (by decide) (by decide) (by decide), C 476 (by decide) (by decide) (by decide), R 480 r (by decide) (by decide) w, R 481 r (by decide) (by decide) w, R 482 r (by decide) (by decide) w, R 483 r (by decide) (by decide) w, R 484 r (by decide) (by decide) w, R 485 r (by decide) (by decide) w, R 486 r (by decide) (by decide) w, R 488 r (by decide) (by decide) w, R 489 r (by decide) (by decide) w]
      exact z1
    refine ⟨xl, fun z => absurd z (by decide), z3, fun k => ?_⟩
    rw [R 480 r (by decide) (by decide) w] at k
    rw [R 485 r (by decide) (by decide) w, R 486 r (by decide) (by decide) w]
    exact z4 k
theorem frR_Q {M A : Nat → Int → Int} (f : FrR M A) : FrQ M A := by
  have C : ∀ c : Nat, ¬ c = 467 → ¬ (509 ≤ c ∧ c ≤ 520) → A c = M c := fun c a b => f.1 c (by unfold rCell; simp; omega)
  exact ⟨fun c hc => C c (by omega) (by omega), ⟨f.2 11 (by decide), fun c a b _ => C c (by omega) (by omega), ⟨C 503 (by decide) (by decide), C 504 (by decide) (by decide)⟩, fun c j a b _ => congrFun (C c (by omega) (by omega)) j⟩, f.2 1 (by decide), C 468 (by decide) (by decide), C 505 (by decide) (by decide), C 506 (by decide) (by decide), C 507 (by decide) (by decide), C 508 (by decide) (by decide)⟩
theorem rBeg_ex2 {M A T : Nat → Int → Int} {g : Int} : ∃ τ0 : Nat → Int → Int, rBeg M τ0 A T g ∧ τ0 505 = M 505 ∧ τ0 506 = M 506 ∧ ∀ c : Nat, ¬ c = 467 → ¬ (523 ≤ c ∧ c ≤ 541) → τ0 c = M c := by
  refine ⟨zup (zup (zup (zup (zup (zrow (zrow (zrow (zrow (zrow (zrow (zrow (zrow (zrow M 523 (fun x => M 503 (T 2 x))) 526 (T 5)) 531 (tkp A T)) 535 (fun _ => 0)) 536 (fun _ => 60 * M 467 11 + M 475 (8 * M 467 11 + g))) 537 (fun _ => 60 * M 467 11 + M 475 (8 * M 467 11 + g) + M 476 (8 * M 467 11 + g))) 538 (fun _ => 0)) 539 (fun _ => 0)) 541 (fun _ => 0)) 467 107 1) 467 108 0) 467 109 120) 467 110 (M 474 (8 * M 467 11 + g))) 467 111 0, ⟨⟨fun c j a b _ _ => congrFun ?_ j, fun c j a b _ _ => congrFun ?_ j, rfl⟩, fun _ _ _ _ => rfl, fun _ _ _ _ => rfl, fun _ _ _ _ _ _ _ _ => rfl, ⟨rfl, rfl, rfl, rfl, rfl, rfl, rfl, rfl⟩, rfl, rfl, rfl⟩, ?_, ?_, fun c a b => ?_⟩
  · repeat (first | rw [zr_ne (by omega)] | rw [zu_ne (by omega)])
  · repeat (first | rw [zr_ne (by omega)] | rw [zu_ne (by omega)])
  · repeat (first | rw [zr_ne (by decide)] | rw [zu_ne (by decide)])
  · repeat (first | rw [zr_ne (by decide)] | rw [zu_ne (by decide)])
  · repeat (first | rw [zr_ne (by omega)] | rw [zu_ne (by omega)])
theorem SB_fin_33 {L0 : Nat} {xs : Nat → Int32} {m : Nat} {S : Int → Int} {f : Int} {P : Nat → Nat → Nat} {M : Nat → Int → Int} (h : SB 33 L0 xs m S f P M) : (cL (M 449) (M 450) (M 452) (M 453) (M 454) (M 455) (M 442 13) ∧ (0 ≤ M 442 13 ∧ M 442 13 ≤ 300) ∧ 0 ≤ M 441 1 ∧ M 441 1 ≤ 8 + M 442 13) ∧ ∃ L : Nat → Int → Int, rLn M L := by
  obtain ⟨hA, e15, hold⟩ := h
  have hh := SA_hold_33 hA
  obtain ⟨s1, s2, s3, s4, s5, s6, s7, s8⟩ := id hA
  obtain ⟨A, T, G, y1, y2, y3, y4, y5, y6, y7, y8, yc, y10⟩ := rPrem_ex_33 s8 s3.1 s2.2.2.2.1 s6.1 s6.2 hh
  obtain ⟨τb, hb, h505, h506, hlow⟩ := rBeg_ex2 (M := M) (A := A) (T := T) (g := M 503 f)
  obtain ⟨τ', r⟩ := hold.2.2 τb G _ _ (y10 τb hb)
  obtain ⟨r1, r2, r3, r4, r5, r6, r7, r8, r9⟩ := r
  refine ⟨⟨r5, r8, r9⟩, τ', ⟨?_, fun c a b d => ?_, ⟨?_, ?_⟩, fun c j a b d => ?_⟩, ⟨?_, ?_⟩, r3, r4⟩
  · rw [r7.2.1 11 (by decide)]; exact hb.1.2.2
  · rw [r7.1 c (by unfold vCell; simp; omega)]; exact hlow c (by omega) (by omega)
  · rw [r7.1 503 rfl]; exact hlow 503 (by decide) (by decide)
  · rw [r7.1 504 rfl]; exact hlow 504 (by decide) (by decide)
  · rw [r7.2.2.1 c j a b d]; exact congrFun (hlow c (by omega) (by omega)) j
  · rw [r7.1 505 rfl]; exact h505
  · rw [r7.1 506 rfl]; exact h506
set_option maxHeartbeats 1000000 in
theorem runR_h_33 {d : Nat} {P : Nat → Nat → Nat} {Q : zQ} {L0 : Nat} {xs : Nat → Int32} {m : Nat} {S : Int → Int} {f : Int} {P0 : Nat → Nat → Nat} {M : Nat → Int → Int} (h : SB 33 L0 xs m S f P0 M) (hQ : ∀ (P' : Nat → Nat → Nat) (M3 : Nat → Int → Int), P' 16 11 = P 16 11 → P' 16 12 = P 16 12 → Fr M M3 → (∀ L : Nat → Int → Int, rLn M L → ranR M M3 L) → Q (zS P' M3) none) : WC (d + 7) 187 [vR 101, vR 33, vR 441, vR 18, vI (M 19 1)] (zS P M) Q := by
  obtain ⟨⟨c1, c2, c3⟩, Lb, hLb⟩ := SB_fin_33 h
  obtain ⟨hA, e15, hold⟩ := h
  obtain ⟨s1, s2, s3, s4, s5, s6, s7, s8⟩ := id hA
  obtain ⟨b1, b2, b3, b4, b5, b6, b7⟩ := id s2
  obtain ⟨i1, ⟨i2, i2b, i2c⟩, i3, i4, i5, i6, i7, i8⟩ := id s8
  have i4 : 0 ≤ M 48 13 ∧ M 48 13 ≤ 60 := i4
  have i2c : M 48 13 = M 470 (M 467 11) := i2c
  have fv : 0 ≤ f ∧ f < M 469 (M 467 11) := ⟨s6.1, by rw [← i2]; exact s6.2⟩
  have pf := i6.1 f fv.1 fv.2
  have pb := i8 (M 503 f) pf.1.1 pf.1.2
  have par : M 441 2 = M 473 (8 * M 467 11 + M 503 f) := hold.1.1.trans pf.2.1
  have par2 : M 441 2 ≤ M 441 1 := by rw [hold.1.1]; exact hold.2.1
  have hco := b4 1 (by decide) (by decide)
  have one : ∀ i : {L : Nat → Int → Int // rLn M L}, WC (d + 7) 187 [vR 101, vR 33, vR 441, vR 18, vI (M 19 1)] (zS P M) (fun σ r => r = none ∧ ∃ (cc : Nat) (M3 : Nat → Int → Int), σ = zS (zupN (zupN (zupN P 101 6 33) 101 7 cc) 101 8 442) M3 ∧ Fr M M3 ∧ ranR M M3 i.1) := by
    rintro ⟨L, hL⟩
    obtain ⟨fl, ⟨e505, e506⟩, rel, ys⟩ := hL
    refine runResult_c_33 (d := d) (L := L) (n1 := M 470 (M 467 11)) (nF := M 469 (M 467 11)) (TO := TOf M) (π := M 503) (M 19 1) (cCode_L fl i1 (by omega) i5) (rCode rel ys c1) (cProg_L fl i6) (fn_L fl s8) ?_ c2 (by omega) (by rw [fl.1]; exact i1) ⟨c3.1, by omega⟩ ⟨by omega, by omega, par2⟩ ?_ (fun k k0 k1 => ?_) (fun a a0 a1 => (b5 a a0 a1).1) (fun M3 cc τ j r1 r2 r3 => ⟨rfl, cc, M3, rfl, r3, j, τ, r1, r2⟩)
    · obtain ⟨n, hh⟩ := ys
      exact ⟨n, rSegX (fun s s0 => by unfold TOg; rw [if_pos s0]) n 0 0 120 (120 + M 442 13) (Int.le_refl _) (Int.le_refl _) hh⟩
    · rw [e506]
      unfold isSet at hco
      refine ⟨hco.1, ?_⟩
      omega
    · rw [e505]; exact b3 k k0 k1
  refine WC_all (by decide) (one ⟨Lb, hLb⟩) one (fun σ r h0 hI => ?_)
  obtain ⟨e1, cc, M3, e2, e3, _⟩ := h0
  subst e1
  subst e2
  refine hQ _ M3 rfl rfl e3 (fun L hL => ?_)
  obtain ⟨_, cc2, M4, m1, m2, m3⟩ := hI ⟨L, hL⟩
  have em := zS_inj2 m1
  subst em
  exact m3
theorem SB_run_33 {L0 : Nat} {xs : Nat → Int32} {m : Nat} {S : Int → Int} {f : Int} {P P' : Nat → Nat → Nat} {M M3 : Nat → Int → Int} (h : SB 33 L0 xs m S f P M) (e1 : P' 16 11 = P 16 11) (e2 : P' 16 12 = P 16 12) (fr : Fr M M3) : SB 33 L0 xs m S f P' M3 := by
  have hh := SA_hold_33 h.1
  obtain ⟨⟨s1, s2, s3, s4, s5, s6, s7, s8⟩, e15, hold⟩ := h
  have low : ∀ c : Nat, ¬ (101 ≤ c ∧ c ≤ 115) → M3 c = M c := fun c hc => fr c hc
  have fp : FrP M M3 := ⟨congrFun (low 467 (by decide)) 11, fun c hc => low c (by unfold gCell at hc; simp at hc; omega)⟩
  have hip := iprog_fr33 fp s8
  have hx := ipx_fr33 fp s3.1
  have hold2 : rHold 33 M3 f := rHold_fr (p := 33) (M := M) (A := M3) (by decide) (fun c a b => low c (by omega)) (fun c a b => low c (by omega)) (frP_L fp) s8 s3.1 hold
  have e16 : M3 16 = M 16 := low 16 (by decide)
  have e0 : M3 33 0 = M 33 0 := congrFun (low 33 (by decide)) 0
  have th : tHold 33 M3 f := tHold_ne_33 (fun c a b c2 => low c (by omega)) hh
  refine ⟨⟨e1.trans s1, IB_fr (fun c a _ => low c a) (fun k _ => congrFun (low 467 (by decide)) k) e1 e2 s2, ⟨hx, Or.inr ?_⟩, Or.inr ?_, by rw [e16]; exact s5, ⟨s6.1, by rw [e0]; exact s6.2⟩, (low 1 (by decide)).trans s7, hip⟩, by rw [e16]; exact e15, hold2⟩
  · rw [e16, e0, s5]; exact ⟨s6.1, s6.2, th⟩
  · rw [e16, e0, e15, s5]; exact ⟨rfl, s6.1, s6.2, hold2⟩
theorem SB_Q_33 {L0 : Nat} {xs : Nat → Int32} {m : Nat} {S : Int → Int} {f : Int} {P P' : Nat → Nat → Nat} {M A : Nat → Int → Int} (h : SB 33 L0 xs m S f P M) (e1 : P' 16 11 = P 16 11) (e2 : P' 16 12 = P 16 12) (fq : FrQ M A) : SB 33 L0 xs m S f P' A := by
  have hh := SA_hold_33 h.1
  have k := SA_KP_33 (P' := P) h.1 rfl
  obtain ⟨⟨s1, s2, s3, s4, s5, s6, s7, s8⟩, e15, hold⟩ := h
  obtain ⟨q1, q2, q3⟩ := IB_frQ fq e1 e2 s2 k.1
  have p1 : P' 16 11 = 33 := e1.trans s1
  have e16 : A 16 = M 16 := fq.1 16 (by decide)
  have e0 : A 33 0 = M 33 0 := congrFun (fq.1 33 (by decide)) 0
  refine ⟨⟨p1, q1, by first | exact q2.1 p1 | exact q2.2 p1, by first | exact (q3 k.2).1 p1 | exact (q3 k.2).2 p1, by rw [e16]; exact s5, ⟨s6.1, by rw [e0]; exact s6.2⟩, (fq.1 1 (by decide)).trans s7, iprog_frL (by decide) (fun c a b => fq.1 c (by omega)) fq.2.1 s8 s3.1⟩, by rw [e16]; exact e15, rHold_fr (p := 33) (M := M) (A := A) (by decide) (fun c a b => fq.1 c (by omega)) (fun c a b => fq.1 c (by omega)) fq.2.1 s8 s3.1 hold⟩
theorem LK_ln_33 {P : Nat → Nat → Nat} {M M1 : Nat → Int → Int} {L0 : Nat} {xs : Nat → Int32} {m : Nat} {S : Int → Int} {f : Int} (h : LK 33 M M M1 f) : rLn M M1 ∧ FrQ M M1 := by
  obtain ⟨N, τ', A, T, B, U, n0, g, y0, a1, a2, a3, a4, a5, a6, a7, a8, a9, a10, a11, a12, a13, a14, a15, ac, a16⟩ := h
  obtain ⟨r1, r2, ⟨r3, r4, r5⟩, r6, _⟩ := a13
  rw [a16]
  refine ⟨⟨a12.2.1, ⟨a12.2.2.2.2.1, a12.2.2.2.2.2.1⟩, ⟨by rw [mixc (by decide)]; exact r3, by rw [mixc (by decide)]; exact r4, fun i x0 x1 => ?_⟩, ?_⟩, a12⟩
  · have q := r5 i x0 x1
    unfold rRow at q ⊢
    rw [mixc (by decide), mixc (by decide), mixc (by decide), mixc (by decide), mixc (by decide), mixc (by decide), mixc (by decide), mixc (by decide)]
    exact q
  · refine ySegE_rng r6 (fun r _ _ => ⟨by rw [mixc (by decide)], by rw [mixc (by decide)]⟩) (fun lv br r _ _ q => ?_) okR_pos
    unfold okR at q ⊢
    rw [mixc (c := 467) (by decide), mixc (c := 473) (by decide), mixc (c := 474) (by decide), mixc (c := 475) (by decide), mixc (c := 476) (by decide), mixc (c := 480) (by decide), mixc (c := 481) (by decide), mixc (c := 482) (by decide), mixc (c := 483) (by decide), mixc (c := 484) (by decide), mixc (c := 485) (by decide), mixc (c := 486) (by decide), mixc (c := 488) (by decide), mixc (c := 489) (by decide)]
    exact q
theorem SB_fin_62 {L0 : Nat} {xs : Nat → Int32} {m : Nat} {S : Int → Int} {f : Int} {P : Nat → Nat → Nat} {M : Nat → Int → Int} (h : SB 62 L0 xs m S f P M) : (cL (M 449) (M 450) (M 452) (M 453) (M 454) (M 455) (M 442 13) ∧ (0 ≤ M 442 13 ∧ M 442 13 ≤ 300) ∧ 0 ≤ M 441 1 ∧ M 441 1 ≤ 8 + M 442 13) ∧ ∃ L : Nat → Int → Int, rLn M L := by
  obtain ⟨hA, e15, hold⟩ := h
  have hh := SA_hold_62 hA
  obtain ⟨s1, s2, s3, s4, s5, s6, s7, s8⟩ := id hA
  obtain ⟨A, T, G, y1, y2, y3, y4, y5, y6, y7, y8, yc, y10⟩ := rPrem_ex_62 s8 s3.1 s2.2.2.2.1 s6.1 s6.2 hh
  obtain ⟨τb, hb, h505, h506, hlow⟩ := rBeg_ex2 (M := M) (A := A) (T := T) (g := M 503 f)
  obtain ⟨τ', r⟩ := hold.2.2 τb G _ _ (y10 τb hb)
  obtain ⟨r1, r2, r3, r4, r5, r6, r7, r8, r9⟩ := r
  refine ⟨⟨r5, r8, r9⟩, τ', ⟨?_, fun c a b d => ?_, ⟨?_, ?_⟩, fun c j a b d => ?_⟩, ⟨?_, ?_⟩, r3, r4⟩
  · rw [r7.2.1 11 (by decide)]; exact hb.1.2.2
  · rw [r7.1 c (by unfold vCell; simp; omega)]; exact hlow c (by omega) (by omega)
  · rw [r7.1 503 rfl]; exact hlow 503 (by decide) (by decide)
  · rw [r7.1 504 rfl]; exact hlow 504 (by decide) (by decide)
  · rw [r7.2.2.1 c j a b d]; exact congrFun (hlow c (by omega) (by omega)) j
  · rw [r7.1 505 rfl]; exact h505
  · rw [r7.1 506 rfl]; exact h506
set_option maxHeartbeats 1000000 in
theorem runR_h_62 {d : Nat} {P : Nat → Nat → Nat} {Q : zQ} {L0 : Nat} {xs : Nat → Int32} {m : Nat} {S : Int → Int} {f : Int} {P0 : Nat → Nat → Nat} {M : Nat → Int → Int} (h : SB 62 L0 xs m S f P0 M) (hQ : ∀ (P' : Nat → Nat → Nat) (M3 : Nat → Int → Int), P' 16 11 = P 16 11 → P' 16 12 = P 16 12 → Fr M M3 → (∀ L : Nat → Int → Int, rLn M L → ranR M M3 L) → Q (zS P' M3) none) : WC (d + 7) 187 [vR 101, vR 62, vR 441, vR 18, vI (M 19 1)] (zS P M) Q := by
  obtain ⟨⟨c1, c2, c3⟩, Lb, hLb⟩ := SB_fin_62 h
  obtain ⟨hA, e15, hold⟩ := h
  obtain ⟨s1, s2, s3, s4, s5, s6, s7, s8⟩ := id hA
  obtain ⟨b1, b2, b3, b4, b5, b6, b7⟩ := id s2
  obtain ⟨i1, ⟨i2, i2b, i2c⟩, i3, i4, i5, i6, i7, i8⟩ := id s8
  have i4 : 0 ≤ M 77 13 ∧ M 77 13 ≤ 60 := i4
  have i2c : M 77 13 = M 470 (M 467 11) := i2c
  have fv : 0 ≤ f ∧ f < M 469 (M 467 11) := ⟨s6.1, by rw [← i2]; exact s6.2⟩
  have pf := i6.1 f fv.1 fv.2
  have pb := i8 (M 503 f) pf.1.1 pf.1.2
  have par : M 441 2 = M 473 (8 * M 467 11 + M 503 f) := hold.1.1.trans pf.2.1
  have par2 : M 441 2 ≤ M 441 1 := by rw [hold.1.1]; exact hold.2.1
  have hco := b4 1 (by decide) (by decide)
  have one : ∀ i : {L : Nat → Int → Int // rLn M L}, WC (d + 7) 187 [vR 101, vR 62, vR 441, vR 18, vI (M 19 1)] (zS P M) (fun σ r => r = none ∧ ∃ (cc : Nat) (M3 : Nat → Int → Int), σ = zS (zupN (zupN (zupN P 101 6 62) 101 7 cc) 101 8 442) M3 ∧ Fr M M3 ∧ ranR M M3 i.1) := by
    rintro ⟨L, hL⟩
    obtain ⟨fl, ⟨e505, e506⟩, rel, ys⟩ := hL
    refine runResult_c_62 (d := d) (L := L) (n1 := M 470 (M 467 11)) (nF := M 469 (M 467 11)) (TO := TOf M) (π := M 503) (M 19 1) (cCode_L fl i1 (by omega) i5) (rCode rel ys c1) (cProg_L fl i6) (fn_L fl s8) ?_ c2 (by omega) (by rw [fl.1]; exact i1) ⟨c3.1, by omega⟩ ⟨by omega, by omega, par2⟩ ?_ (fun k k0 k1 => ?_) (fun a a0 a1 => (b5 a a0 a1).1) (fun M3 cc τ j r1 r2 r3 => ⟨rfl, cc, M3, rfl, r3, j, τ, r1, r2⟩)
    · obtain ⟨n, hh⟩ := ys
      exact ⟨n, rSegX (fun s s0 => by unfold TOg; rw [if_pos s0]) n 0 0 120 (120 + M 442 13) (Int.le_refl _) (Int.le_refl _) hh⟩
    · rw [e506]
      unfold isSet at hco
      refine ⟨hco.1, ?_⟩
      omega
    · rw [e505]; exact b3 k k0 k1
  refine WC_all (by decide) (one ⟨Lb, hLb⟩) one (fun σ r h0 hI => ?_)
  obtain ⟨e1, cc, M3, e2, e3, _⟩ := h0
  subst e1
  subst e2
  refine hQ _ M3 rfl rfl e3 (fun L hL => ?_)
  obtain ⟨_, cc2, M4, m1, m2, m3⟩ := hI ⟨L, hL⟩
  have em := zS_inj2 m1
  subst em
  exact m3
theorem SB_run_62 {L0 : Nat} {xs : Nat → Int32} {m : Nat} {S : Int → Int} {f : Int} {P P' : Nat → Nat → Nat} {M M3 : Nat → Int → Int} (h : SB 62 L0 xs m S f P M) (e1 : P' 16 11 = P 16 11) (e2 : P' 16 12 = P 16 12) (fr : Fr M M3) : SB 62 L0 xs m S f P' M3 := by
  have hh := SA_hold_62 h.1
  obtain ⟨⟨s1, s2, s3, s4, s5, s6, s7, s8⟩, e15, hold⟩ := h
  have low : ∀ c : Nat, ¬ (101 ≤ c ∧ c ≤ 115) → M3 c = M c := fun c hc => fr c hc
  have fp : FrP M M3 := ⟨congrFun (low 467 (by decide)) 11, fun c hc => low c (by unfold gCell at hc; simp at hc; omega)⟩
  have hip := iprog_fr62 fp s8
  have hx := ipx_fr62 fp s3.1
  have hold2 : rHold 62 M3 f := rHold_fr (p := 62) (M := M) (A := M3) (by decide) (fun c a b => low c (by omega)) (fun c a b => low c (by omega)) (frP_L fp) s8 s3.1 hold
  have e16 : M3 16 = M 16 := low 16 (by decide)
  have e0 : M3 62 0 = M 62 0 := congrFun (low 62 (by decide)) 0
  have th : tHold 62 M3 f := tHold_ne_62 (fun c a b c2 => low c (by omega)) hh
  refine ⟨⟨e1.trans s1, IB_fr (fun c a _ => low c a) (fun k _ => congrFun (low 467 (by decide)) k) e1 e2 s2, ⟨hx, Or.inr ?_⟩, Or.inr ?_, by rw [e16]; exact s5, ⟨s6.1, by rw [e0]; exact s6.2⟩, (low 1 (by decide)).trans s7, hip⟩, by rw [e16]; exact e15, hold2⟩
  · rw [e16, e0, s5]; exact ⟨s6.1, s6.2, th⟩
  · rw [e16, e0, e15, s5]; exact ⟨rfl, s6.1, s6.2, hold2⟩
theorem SB_Q_62 {L0 : Nat} {xs : Nat → Int32} {m : Nat} {S : Int → Int} {f : Int} {P P' : Nat → Nat → Nat} {M A : Nat → Int → Int} (h : SB 62 L0 xs m S f P M) (e1 : P' 16 11 = P 16 11) (e2 : P' 16 12 = P 16 12) (fq : FrQ M A) : SB 62 L0 xs m S f P' A := by
  have hh := SA_hold_62 h.1
  have k := SA_KP_62 (P' := P) h.1 rfl
  obtain ⟨⟨s1, s2, s3, s4, s5, s6, s7, s8⟩, e15, hold⟩ := h
  obtain ⟨q1, q2, q3⟩ := IB_frQ fq e1 e2 s2 k.1
  have p1 : P' 16 11 = 62 := e1.trans s1
  have e16 : A 16 = M 16 := fq.1 16 (by decide)
  have e0 : A 62 0 = M 62 0 := congrFun (fq.1 62 (by decide)) 0
  refine ⟨⟨p1, q1, by first | exact q2.1 p1 | exact q2.2 p1, by first | exact (q3 k.2).1 p1 | exact (q3 k.2).2 p1, by rw [e16]; exact s5, ⟨s6.1, by rw [e0]; exact s6.2⟩, (fq.1 1 (by decide)).trans s7, iprog_frL (by decide) (fun c a b => fq.1 c (by omega)) fq.2.1 s8 s3.1⟩, by rw [e16]; exact e15, rHold_fr (p := 62) (M := M) (A := A) (by decide) (fun c a b => fq.1 c (by omega)) (fun c a b => fq.1 c (by omega)) fq.2.1 s8 s3.1 hold⟩
theorem LK_ln_62 {P : Nat → Nat → Nat} {M M1 : Nat → Int → Int} {L0 : Nat} {xs : Nat → Int32} {m : Nat} {S : Int → Int} {f : Int} (h : LK 62 M M M1 f) : rLn M M1 ∧ FrQ M M1 := by
  obtain ⟨N, τ', A, T, B, U, n0, g, y0, a1, a2, a3, a4, a5, a6, a7, a8, a9, a10, a11, a12, a13, a14, a15, ac, a16⟩ := h
  obtain ⟨r1, r2, ⟨r3, r4, r5⟩, r6, _⟩ := a13
  rw [a16]
  refine ⟨⟨a12.2.1, ⟨a12.2.2.2.2.1, a12.2.2.2.2.2.1⟩, ⟨by rw [mixc (by decide)]; exact r3, by rw [mixc (by decide)]; exact r4, fun i x0 x1 => ?_⟩, ?_⟩, a12⟩
  · have q := r5 i x0 x1
    unfold rRow at q ⊢
    rw [mixc (by decide), mixc (by decide), mixc (by decide), mixc (by decide), mixc (by decide), mixc (by decide), mixc (by decide), mixc (by decide)]
    exact q
  · refine ySegE_rng r6 (fun r _ _ => ⟨by rw [mixc (by decide)], by rw [mixc (by decide)]⟩) (fun lv br r _ _ q => ?_) okR_pos
    unfold okR at q ⊢
    rw [mixc (c := 467) (by decide), mixc (c := 473) (by decide), mixc (c := 474) (by decide), mixc (c := 475) (by decide), mixc (c := 476) (by decide), mixc (c := 480) (by decide), mixc (c := 481) (by decide), mixc (c := 482) (by decide), mixc (c := 483) (by decide), mixc (c := 484) (by decide), mixc (c := 485) (by decide), mixc (c := 486) (by decide), mixc (c := 488) (by decide), mixc (c := 489) (by decide)]
    exact q
