/-! The pairs after and saved -/
theorem ranv_of {π e0 TO : Int → Int} {M τ : Nat → Int → Int} (h : fRel π e0 TO M τ) {w : Int} (w0 : 0 ≤ w ∧ w ≤ 4) : ranv (τ 467 73) (τ 467 74) (τ 467 70) (τ 467 71) (τ 467 72) w = M 102 w := by
  obtain ⟨f1, f2, f3, f4, f5, f6, f7, f8, _⟩ := h
  unfold ranv
  rcases (by omega : w = 0 ∨ w = 1 ∨ w = 2 ∨ w = 3 ∨ w = 4) with z | z | z | z | z <;> subst z
  · exact f2.symm
  · exact f5.symm
  · exact f6.symm
  · exact f7.symm
  · exact f8.symm
theorem rLn_cong {M M' L : Nat → Int → Int} (hc : ∀ c : Nat, 441 ≤ c → c ≤ 455 → M' c = M c) (f : FrL M M') (e5 : M' 505 = M 505) (e6 : M' 506 = M 506) (et : TOg M' = TOg M) (h : rLn M' L) : rLn M L := by
  obtain ⟨⟨l1, l2, ⟨l3, l4⟩, l5⟩, ⟨h5, h6⟩, ⟨r1, r2, r3⟩, ys⟩ := h
  refine ⟨⟨l1.trans f.1, fun c a b d => (l2 c a b d).trans (f.2.1 c a b d), ⟨l3.trans f.2.2.1.1, l4.trans f.2.2.1.2⟩, fun c j a b d => (l5 c j a b d).trans (f.2.2.2 c j a b d)⟩, ⟨h5.trans e5, h6.trans e6⟩, ⟨by rw [r1, hc 442 (by decide) (by decide)], by rw [r2, hc 441 (by decide) (by decide)], fun i x0 x1 => ?_⟩, ?_⟩
  · have q := r3 i x0 (by rw [hc 442 (by decide) (by decide)]; exact x1)
    unfold rRow at q ⊢
    rw [hc 443 (by decide) (by decide), hc 444 (by decide) (by decide), hc 445 (by decide) (by decide), hc 446 (by decide) (by decide), hc 447 (by decide) (by decide), hc 448 (by decide) (by decide), hc 449 (by decide) (by decide), hc 451 (by decide) (by decide)] at q
    exact q
  · rw [et, f.1, f.2.1 469 (by decide) (by decide) (by decide), hc 442 (by decide) (by decide)] at ys
    refine ySegE_rng ys (fun r _ _ => ⟨rfl, rfl⟩) (fun lv br r _ _ q => ?_) okR_pos
    unfold okR at q ⊢
    rw [hc 441 (by decide) (by decide), hc 449 (by decide) (by decide), hc 450 (by decide) (by decide)] at q
    exact q
theorem fr_L {M A : Nat → Int → Int} (f : Fr M A) : FrL M A := ⟨congrFun (f 467 (by decide)) 11, fun c a b _ => f c (by omega), ⟨f 503 (by decide), f 504 (by decide)⟩, fun c j a b _ => congrFun (f c (by omega)) j⟩
theorem refRun_33 {d : Nat} {P P0 : Nat → Nat → Nat} {Q : zQ} {L0 : Nat} {xs : Nat → Int32} {m : Nat} {S : Int → Int} {f : Int} {M3 M1 : Nat → Int → Int} {Pr : (Nat → Int → Int) → Prop} (hS : SB 33 L0 xs m S f P0 M3) (hL : LK 33 M3 M3 M1 f) (hr : ∃ (j : Nat) (τ : Nat → Int → Int), xRuns j (xinit M1 120 (M3 442 13) (M3 441 1) (M3 441 2)) τ ∧ Pr τ) (hQ : ∀ τ : Nat → Int → Int, Pr τ → FrR M1 τ → Q (zS P τ) none) : WC (d + 4) 84 [vR 467, vI 120, vI (M1 467 109 - 120), vI (M1 467 110), vI (M1 473 (8 * M1 467 11 + M3 503 f))] (zS P M1) Q := by
  obtain ⟨⟨g1, g2, g3⟩, b1, b2, ⟨g4, g5, g6, g7, g8⟩, _⟩ := LK_f_33 hS hL
  obtain ⟨hA, e15, hold⟩ := hS
  obtain ⟨s1, s2, s3, s4, s5, s6, s7, s8⟩ := id hA
  obtain ⟨i1, ⟨i2, i2b, i2c⟩, i3, i4, i5, i6, i7, i8⟩ := id s8
  have pf := i6.1 f s6.1 (by rw [← i2]; exact s6.2)
  have pb := i8 (M3 503 f) pf.1.1 pf.1.2
  have par : M3 441 2 = M3 473 (8 * M3 467 11 + M3 503 f) := hold.1.1.trans pf.2.1
  obtain ⟨j, τ, x, y⟩ := hr
  rw [g1, g2, g4, g7, ← par, show 120 + M3 442 13 - 120 = M3 442 13 by omega]
  exact runs_m (d := d) 120 (M3 442 13) (M3 441 1) (M3 441 2) (by omega) (by omega) (by omega) x (hQ τ y (frR_runs j _ _ x (frR_init _ _ _ _)))
set_option maxHeartbeats 1000000 in
theorem pair_17_33 {L0 : Nat} {xs : Nat → Int32} {m d : Nat} {P : Nat → Nat → Nat} {M : Nat → Int → Int} {a0 a1 : Int} (hB : IB L0 xs m P M) (hk : KT 33 M) (hR : RT 33 M) (hp : P 16 11 = 33) (hip : iprog 33 M) {Q1 : zQ} (h1 : ∀ (P1 : Nat → Nat → Nat) (M1 : Nat → Int → Int) (x : Int), M1 1 = M 1 → (∀ (Q2 : zQ), (∀ (P2 : Nat → Nat → Nat) (M2 : Nat → Int → Int), M2 1 = M 1 → IB L0 xs (m + 1) P2 M2 ∧ KP P2 M2 ∧ RP P2 M2 → Q2 (zS P2 M2) (some (vI x))) → WC (d + 80) 127 [vR 467, vI a0, vI a1] (zS P1 M1) Q2) → Q1 (zS P1 M1) (some (vI x))) : WC (d + 80) 19 [vR 16, vI a0, vI a1] (zS P M) Q1 := by
  obtain ⟨b1, b2, b3, b4, b5, b6, b7⟩ := id hB
  obtain ⟨i1, ⟨i2, i2b, i2c⟩, i3, i4, i5, i6, i7, i8⟩ := id hip
  have eP : zupN P 16 11 33 = P := by
    have := zupN_self P 16 11
    rw [hp] at this
    exact this
  have kp : KP P M ∧ RP P M := ⟨⟨fun z => by first | exact hk | (rw [hp] at z; exact absurd z (by decide)), fun z => by first | exact hk | (rw [hp] at z; exact absurd z (by decide))⟩, ⟨fun z => by first | exact hR | (rw [hp] at z; exact absurd z (by decide)), fun z => by first | exact hR | (rw [hp] at z; exact absurd z (by decide))⟩⟩
  have up : IB L0 xs (m + 1) (zupN P 16 11 33) M ∧ KP (zupN P 16 11 33) M ∧ RP (zupN P 16 11 33) M := by rw [eP]; exact ⟨IB_up hB, kp.1, kp.2⟩
  have hn : 0 ≤ M 469 (M 467 11) ∧ M 469 (M 467 11) ≤ 8 := i6.2.2.1
  have hpp : ∀ xf : Int, 0 ≤ xf → xf < M 469 (M 467 11) → 0 ≤ M 503 xf ∧ M 503 xf < 8 := fun xf x0 x1 => (b5 xf x0 (by omega)).1
  refine eqC eP.symm rfl (after_c_33 (d := d + 5) (HK1 := fun P1 M1 => SA 33 L0 xs m (M 1) a0 P1 M1) (HK2 := fun _ _ P2 M2 => SB 33 L0 xs m (M 1) a0 P2 M2) (HK3 := fun _ _ P2 M2 P3 M3 => P3 16 11 = P2 16 11 ∧ P3 16 12 = P2 16 12 ∧ Fr M2 M3 ∧ ∀ L : Nat → Int → Int, rLn M2 L → ranR M2 M3 L) a0 a1 (fun Q' q0 q1 => growTree_h_33 (d := d + 5) hB hk hR hp hip q0 q1) (fun P1 M1 s Q' q => writeResult_h_33 (d := d + 5) s q) (fun P1 M1 s P2 M2 s2 Q' q => ?_) (fun nq => ?_) (fun P1 M1 s P2 M2 s2 P3 M3 s3 w5 => ?_))
  · refine runR_h_33 (d := d + 72) s2 (fun P' M3 e1 e2 fr fam => ?_)
    have e1 : P' 16 11 = 33 := e1
    have z := q P' M3 ⟨e1.trans s2.1.1.symm, e2, fr, fam⟩
    have e : zupN P' 16 11 33 = P' := by
      have := zupN_self P' 16 11
      rw [e1] at this
      exact this
    rw [e] at z
    exact z
  · refine h1 (zupN P 16 11 33) M _ rfl (fun Q2 h2 => after_m (d := d + 64) (HK1 := fun _ => False) (HK2 := fun _ _ => False) a0 a1 i1 hn (fun _ z => z.elim) hpp (fun v w => absurd ⟨⟨w.1, by omega⟩, v.1, by rw [i2]; exact v.2⟩ nq) (fun _ z => z.elim) (fun _ => h2 _ M rfl up) (fun _ z => z.elim))
  · obtain ⟨e1, e2, fr, fam⟩ := s3
    have s3 := SB_run_33 s2 e1 e2 fr
    obtain ⟨u1, u2, u3, u4, u5, u6, u7, u8⟩ := id s3.1
    obtain ⟨j1, ⟨j2, j2b, j2c⟩, j3, j4, j5, j6, j7, j8⟩ := id u8
    have hpp3 : ∀ xf : Int, 0 ≤ xf → xf < M3 469 (M3 467 11) → 0 ≤ M3 503 xf ∧ M3 503 xf < 8 := fun xf x0 x1 => (u2.2.2.2.2.1 xf x0 (by have := j6.2.2.1.2; omega)).1
    refine h1 (zupN P3 16 11 33) M3 _ u7 (fun Q2 h2 => after_m (d := d + 64) (HK1 := fun M1 => LK 33 M3 M3 M1 a0) (HK2 := fun M1 τ => (ranv (τ 467 73) (τ 467 74) (τ 467 70) (τ 467 71) (τ 467 72) a1 = M3 102 a1) ∧ FrR M1 τ) a0 a1 j1 j6.2.2.1 (fun M1 z => ?_) hpp3 (fun v w Q' qq => lays_k_33 (d := d + 64) s3.1 (fun _ _ => rfl) s3.2.2 qq) (fun M1 z Q' qq => ?_) (fun w => ?_) (fun M1 z τ hh w => ?_))
    · have F := LK_f_33 s3 z
      have pf := (j6.1 a0 u6.1 (by rw [← j2]; exact u6.2)).1
      have n8 := j6.2.2.1
      rw [F.2.2.2.1.1, F.2.2.2.1.2.1]
      omega
    · refine refRun_33 (d := d + 74) (Pr := fun τ => ranv (τ 467 73) (τ 467 74) (τ 467 70) (τ 467 71) (τ 467 72) a1 = M3 102 a1) s3 z ?_ (fun τ y g => qq τ ⟨y, g⟩)
      have tg := frL_tog (fr_L fr) s2.1.2.2.2.2.2.2.2 s2.1.2.2.1.1
      obtain ⟨j, τ, x, y⟩ := fam M1 (rLn_cong (fun c a b => fr c (by omega)) (fr_L fr) (fr 505 (by decide)) (fr 506 (by decide)) tg (LK_ln_33 (L0 := L0) (xs := xs) (m := m) (P := P3) (S := M 1) z).1)
      rw [← fr 441 (by decide), ← fr 442 (by decide)] at x
      exact ⟨j, τ, x, ranv_of y ⟨w5.1, by omega⟩⟩
    · exact absurd ⟨⟨u6.1, by rw [← j2]; exact u6.2⟩, w5.1, by omega⟩ w
    · have en := LK_end_33 (P' := zupN P3 16 11 33) s3.1 z u1.symm rfl
      have fq := frR_Q hh.2
      have z2 := IB_frQ fq rfl rfl en.2.1 en.2.2.1
      exact eqR hh.1 (h2 _ τ ((fq.1 1 (by decide)).trans en.1) ⟨z2.1, z2.2.1, z2.2.2 en.2.2.2⟩)
set_option maxHeartbeats 1000000 in
theorem pair_18_33 {L0 : Nat} {xs : Nat → Int32} {m d : Nat} {P : Nat → Nat → Nat} {M : Nat → Int → Int} {a0 : Int} (hB : IB L0 xs m P M) (hk : KT 33 M) (hR : RT 33 M) (hp : P 16 11 = 33) (hip : iprog 33 M) {Q1 : zQ} (h1 : ∀ (P1 : Nat → Nat → Nat) (M1 : Nat → Int → Int) (x : Int), M1 1 = M 1 → (∀ (Q2 : zQ), (∀ (P2 : Nat → Nat → Nat) (M2 : Nat → Int → Int), M2 1 = M 1 → IB L0 xs (m + 1) P2 M2 ∧ KP P2 M2 ∧ RP P2 M2 → Q2 (zS P2 M2) (some (vI x))) → WC (d + 80) 128 [vR 467, vI a0] (zS P1 M1) Q2) → Q1 (zS P1 M1) (some (vI x))) : WC (d + 80) 20 [vR 16, vI a0] (zS P M) Q1 := by
  obtain ⟨b1, b2, b3, b4, b5, b6, b7⟩ := id hB
  obtain ⟨i1, ⟨i2, i2b, i2c⟩, i3, i4, i5, i6, i7, i8⟩ := id hip
  have eP : zupN P 16 11 33 = P := by
    have := zupN_self P 16 11
    rw [hp] at this
    exact this
  have kp : KP P M ∧ RP P M := ⟨⟨fun z => by first | exact hk | (rw [hp] at z; exact absurd z (by decide)), fun z => by first | exact hk | (rw [hp] at z; exact absurd z (by decide))⟩, ⟨fun z => by first | exact hR | (rw [hp] at z; exact absurd z (by decide)), fun z => by first | exact hR | (rw [hp] at z; exact absurd z (by decide))⟩⟩
  have up : IB L0 xs (m + 1) (zupN P 16 11 33) M ∧ KP (zupN P 16 11 33) M ∧ RP (zupN P 16 11 33) M := by rw [eP]; exact ⟨IB_up hB, kp.1, kp.2⟩
  have hn : 0 ≤ M 469 (M 467 11) ∧ M 469 (M 467 11) ≤ 8 := i6.2.2.1
  have hpp : ∀ xf : Int, 0 ≤ xf → xf < M 469 (M 467 11) → 0 ≤ M 503 xf ∧ M 503 xf < 8 := fun xf x0 x1 => (b5 xf x0 (by omega)).1
  refine eqC eP.symm rfl (saved_c_33 (d := d + 5) (HK1 := fun P1 M1 => SA 33 L0 xs m (M 1) a0 P1 M1) (HK2 := fun _ _ P2 M2 => SB 33 L0 xs m (M 1) a0 P2 M2) (HK3 := fun _ _ P2 M2 P3 M3 => P3 16 11 = P2 16 11 ∧ P3 16 12 = P2 16 12 ∧ Fr M2 M3 ∧ ∃ (τ : Nat → Int → Int) (j : Nat), xRuns j (xinit M2 (60 * M2 467 11 + M2 475 (8 * M2 467 11 + M2 503 a0)) (M2 476 (8 * M2 467 11 + M2 503 a0)) (M2 474 (8 * M2 467 11 + M2 503 a0)) (M2 473 (8 * M2 467 11 + M2 503 a0))) τ ∧ fRel (M2 503) (fun g => if g = a0 then 1 else 0) (TOf M2) M3 τ) (HK4 := fun _ _ _ _ P3 M3 P4 M4 => P4 16 11 = P3 16 11 ∧ P4 16 12 = P3 16 12 ∧ Fr M3 M4 ∧ ∀ L : Nat → Int → Int, rLn M3 L → ranR M3 M4 L) a0 (fun P1 M1 s P2 M2 s2 P3 M3 s3 P4 M4 s4 => ?_) (fun Q' q0 q1 => growTree_h_33 (d := d + 5) hB hk hR hp hip q0 q1) (fun P1 M1 s Q' q => writeResult_h_33 (d := d + 5) s q) (fun P1 M1 s P2 M2 s2 Q' q => ?_) (fun P1 M1 s P2 M2 s2 P3 M3 s3 Q' q => ?_) (fun nq => ?_) (fun P1 M1 s P2 M2 s2 P3 M3 s3 P4 M4 s4 => ?_))
  · obtain ⟨e1, e2, fr, τ, j, x, y⟩ := s3
    have S3 := SB_run_33 s2 e1 e2 fr
    obtain ⟨_, L, hL⟩ := SB_fin_33 S3
    obtain ⟨j', τ', x', y'⟩ := s4.2.2.2 L hL
    have a := y.2.2.2.2.2.2.2.2.1
    have b := y'.2.2.2.2.2.2.2.2.1
    omega
  · obtain ⟨u1, u2, u3, u4, u5, u6, u7, u8⟩ := id s2.1
    obtain ⟨j1, ⟨j2, j2b, j2c⟩, j3, j4, j5, j6, j7, j8⟩ := id u8
    have j4 : 0 ≤ M2 48 13 ∧ M2 48 13 ≤ 60 := j4
    have j2c : M2 48 13 = M2 470 (M2 467 11) := j2c
    have fv : 0 ≤ a0 ∧ a0 < M2 469 (M2 467 11) := ⟨u6.1, by rw [← j2]; exact u6.2⟩
    have pf := j6.1 a0 fv.1 fv.2
    have hco := u2.2.2.2.1 1 (by decide) (by decide)
    unfold isSet at hco
    refine runFunction_c_33 (d := d + 72) (n1 := M2 470 (M2 467 11)) (nF := M2 469 (M2 467 11)) (TO := TOf M2) (π := M2 503) a0 (M2 19 1) fv j5 j6 j7 (by omega) j1 (j8 _ pf.1.1 pf.1.2) ⟨hco.1, by omega⟩ u2.2.2.1 (fun a x0 x1 => (u2.2.2.2.2.1 a x0 x1).1) (fun M3 cc τ j r1 r2 r3 => ?_)
    have z := q (zupN (zupN (zupN (zupN P2 16 11 33) 101 6 33) 101 7 cc) 101 8 48) M3 ⟨u1.symm, rfl, r3, τ, j, r1, r2⟩
    have e : zupN (zupN (zupN (zupN (zupN P2 16 11 33) 101 6 33) 101 7 cc) 101 8 48) 16 11 33 = zupN (zupN (zupN (zupN P2 16 11 33) 101 6 33) 101 7 cc) 101 8 48 := zupN_self (zupN (zupN (zupN (zupN P2 16 11 33) 101 6 33) 101 7 cc) 101 8 48) 16 11
    rw [e] at z
    exact z
  · obtain ⟨e1, e2, fr, _⟩ := s3
    have S3 := SB_run_33 s2 e1 e2 fr
    refine runR_h_33 (d := d + 72) S3 (fun P' M4 e1' e2' fr' fam => ?_)
    have e1' : P' 16 11 = 33 := e1'
    have z := q P' M4 ⟨e1'.trans S3.1.1.symm, e2', fr', fam⟩
    have e : zupN P' 16 11 33 = P' := by
      have := zupN_self P' 16 11
      rw [e1'] at this
      exact this
    rw [e] at z
    exact z
  · refine h1 (zupN P 16 11 33) M _ rfl (fun Q2 h2 => saved_m (d := d + 64) (HK1 := fun _ => False) (HK2 := fun _ _ => False) (HK3 := fun _ _ _ => False) a0 i1 hn ⟨fun _ z => z.elim, fun _ z => z.elim⟩ hpp (fun v => absurd ⟨v.1, by rw [i2]; exact v.2⟩ nq) (fun _ z => z.elim) (fun _ z => z.elim) (fun _ => h2 _ M rfl up) (fun _ z => z.elim) (fun _ z => z.elim))
  · obtain ⟨e1, e2, fr, τ, j, x, y⟩ := s3
    obtain ⟨e1', e2', fr', fam⟩ := s4
    have S3 := SB_run_33 s2 e1 e2 fr
    have S4 := SB_run_33 S3 e1' e2' fr'
    have frr : Fr M2 M4 := fr_trans fr fr'
    obtain ⟨u1, u2, u3, u4, u5, u6, u7, u8⟩ := id S4.1
    obtain ⟨j1, ⟨j2, j2b, j2c⟩, j3, j4, j5, j6, j7, j8⟩ := id u8
    have fv : 0 ≤ a0 ∧ a0 < M4 469 (M4 467 11) := ⟨u6.1, by rw [← j2]; exact u6.2⟩
    have pf := j6.1 a0 fv.1 fv.2
    have n8 := j6.2.2.1
    have hpp4 : ∀ xf : Int, 0 ≤ xf → xf < M4 469 (M4 467 11) → 0 ≤ M4 503 xf ∧ M4 503 xf < 8 := fun xf x0 x1 => (u2.2.2.2.2.1 xf x0 (by omega)).1
    have hR4 : xRuns j (xinit M4 (60 * M4 467 11 + M4 475 (8 * M4 467 11 + M4 503 a0)) (M4 476 (8 * M4 467 11 + M4 503 a0)) (M4 474 (8 * M4 467 11 + M4 503 a0)) (M4 473 (8 * M4 467 11 + M4 503 a0))) (mix M4 τ) := by
      have a : ∀ c : Nat, ¬ (101 ≤ c ∧ c ≤ 115) → M4 c = M2 c := fun c hc => frr c hc
      rw [a 467 (by decide), a 473 (by decide), a 474 (by decide), a 475 (by decide), a 476 (by decide), a 503 (by decide), xinit_of frr]
      exact xRuns_mix M4 j _ _ x
    have y509 := y.2.2.2.2.2.2.2.2.2.2.1 (M2 503 a0)
    have y3 := y.2.2.2.2.2.2.2.2.1
    have g4 : M4 503 = M2 503 := frr 503 (by decide)
    refine h1 (zupN P4 16 11 33) M4 _ u7 (fun Q2 h2 => saved_m (d := d + 64) (HK1 := fun M1 => (M1 467 73 = τ 467 73 ∧ M1 467 70 = τ 467 70) ∧ FrQ M4 M1) (HK2 := fun M1 M2 => LK 33 M1 M1 M2 a0) (HK3 := fun M1 M2 τ3 => (τ3 467 73 = M4 102 0 ∧ τ3 467 70 = M4 102 2 ∧ 0 ≤ τ3 467 73 ∧ 0 ≤ τ3 467 70 ∧ τ3 467 70 ≤ 3000) ∧ FrR M2 τ3) a0 j1 j6.2.2.1 ⟨fun M1 z => ?_, fun M1 z M2' z2 => ⟨?_, fun M3' z3 => ?_⟩⟩ hpp4 (fun v Q' qq => ?_) (fun M1 z Q' qq => ?_) (fun M1 z M2' z2 Q' qq => ?_) (fun w => absurd fv w) (fun M1 z w => ?_) (fun M1 z M2' z2 M3' z3 w => ?_))
    · rw [z.1.2, z.2.2.1.2.2.1.1]
      have := y.2.2.2.2.2.1
      omega
    · have F := LK_f_33 (SB_Q_33 (P' := P4) S4 rfl rfl z.2) z2
      rw [F.2.2.2.1.1, F.2.2.2.1.2.1, z.2.2.1.1, z.2.2.1.2.2.1.1]
      have c1 := F.1.1
      have c2 := F.2.1
      omega
    · have := z3.1
      omega
    · refine runsOf_m (d := d + 74) (τ := mix M4 τ) (M4 503 a0) j1 ⟨pf.1.1, by omega⟩ (j8 _ pf.1.1 pf.1.2) hR4 ?_ (qq _ ⟨⟨rfl, rfl⟩, ?_⟩)
      · show 0 ≤ τ 509 (M4 503 a0) ∧ τ 509 (M4 503 a0) ≤ 3000
        rw [g4]
        have := y509 (by rw [← g4]; exact pf.1.1) (by rw [← g4]; omega)
        omega
      · have fR := frR_runs j _ _ hR4 (frR_init _ _ _ _)
        refine frR_Q ⟨fun c hc => ?_, fun k hk => ?_⟩
        · rw [zr_ne (fun z => by subst z; exact absurd hc (by decide))]; exact fR.1 c hc
        · rw [zrow_n (by decide)]; exact fR.2 k hk
    · have SQ := SB_Q_33 (P' := P4) S4 rfl rfl z.2
      exact lays_k_33 (d := d + 64) SQ.1 (fun _ _ => rfl) SQ.2.2 qq
    · have SQ := SB_Q_33 (P' := P4) S4 rfl rfl z.2
      refine refRun_33 (d := d + 74) (Pr := fun τ3 => τ3 467 73 = M4 102 0 ∧ τ3 467 70 = M4 102 2 ∧ 0 ≤ τ3 467 73 ∧ 0 ≤ τ3 467 70 ∧ τ3 467 70 ≤ 3000) SQ z2 ?_ (fun τ3 y g => qq τ3 ⟨y, g⟩)
      have t1 := frL_tog z.2.2.1 u8 u3.1
      have t2 := frL_tog (fr_L fr') S3.1.2.2.2.2.2.2.2 S3.1.2.2.1.1
      have l1 := (LK_ln_33 (L0 := L0) (xs := xs) (m := m) (P := P4) (S := M 1) z2).1
      have l2 := rLn_cong (fun c a b => z.2.1 c (by omega)) z.2.2.1 z.2.2.2.2.2.1 z.2.2.2.2.2.2.1 t1 l1
      obtain ⟨j3', τ3, x3, y3⟩ := fam M2' (rLn_cong (fun c a b => fr' c (by omega)) (fr_L fr') (fr' 505 (by decide)) (fr' 506 (by decide)) t2 l2)
      rw [← fr' 441 (by decide), ← fr' 442 (by decide), ← z.2.1 441 (by decide), ← z.2.1 442 (by decide)] at x3
      obtain ⟨f1, f2, f3, f4, f5, f6, f7, f8, f9, _⟩ := y3
      exact ⟨j3', τ3, x3, f2.symm, f6.symm, f3, by omega, by omega⟩
    · have SQ := SB_Q_33 (P' := P4) S4 rfl rfl z.2
      have z4 := IB_frQ (P' := zupN P4 16 11 33) z.2 u1.symm rfl (IB_up u2) (SA_KP_33 S4.1 rfl).1
      refine eqR ?_ (h2 _ M1 SQ.1.2.2.2.2.2.2.1 ⟨z4.1, z4.2.1, z4.2.2 (SA_KP_33 S4.1 rfl).2⟩)
      have a := y.2.1
      rw [if_neg (by rw [z.1.1] at w; omega)]
    · have SQ := SB_Q_33 (P' := P4) S4 rfl rfl z.2
      have en := LK_end_33 (P' := zupN P4 16 11 33) SQ.1 z2 u1.symm rfl
      have fq := frR_Q z3.2
      have z5 := IB_frQ fq rfl rfl en.2.1 en.2.2.1
      refine eqR ?_ (h2 _ M3' ((fq.1 1 (by decide)).trans en.1) ⟨z5.1, z5.2.1, z5.2.2 en.2.2.2⟩)
      have a := y.2.1
      have b := y.2.2.2.2.2.1
      have b0 := y.2.2.1
      obtain ⟨c1, c2, c3, c4, c5⟩ := z3.1
      rw [z.1.1] at w
      rw [z.1.2, c1, c2]
      by_cases k : M4 102 0 = 0
      · rw [if_neg (by omega), if_pos ⟨by omega, k⟩]; omega
      · rw [if_pos (by omega), if_neg (fun q => k q.2)]
theorem refRun_62 {d : Nat} {P P0 : Nat → Nat → Nat} {Q : zQ} {L0 : Nat} {xs : Nat → Int32} {m : Nat} {S : Int → Int} {f : Int} {M3 M1 : Nat → Int → Int} {Pr : (Nat → Int → Int) → Prop} (hS : SB 62 L0 xs m S f P0 M3) (hL : LK 62 M3 M3 M1 f) (hr : ∃ (j : Nat) (τ : Nat → Int → Int), xRuns j (xinit M1 120 (M3 442 13) (M3 441 1) (M3 441 2)) τ ∧ Pr τ) (hQ : ∀ τ : Nat → Int → Int, Pr τ → FrR M1 τ → Q (zS P τ) none) : WC (d + 4) 84 [vR 467, vI 120, vI (M1 467 109 - 120), vI (M1 467 110), vI (M1 473 (8 * M1 467 11 + M3 503 f))] (zS P M1) Q := by
  obtain ⟨⟨g1, g2, g3⟩, b1, b2, ⟨g4, g5, g6, g7, g8⟩, _⟩ := LK_f_62 hS hL
  obtain ⟨hA, e15, hold⟩ := hS
  obtain ⟨s1, s2, s3, s4, s5, s6, s7, s8⟩ := id hA
  obtain ⟨i1, ⟨i2, i2b, i2c⟩, i3, i4, i5, i6, i7, i8⟩ := id s8
  have pf := i6.1 f s6.1 (by rw [← i2]; exact s6.2)
  have pb := i8 (M3 503 f) pf.1.1 pf.1.2
  have par : M3 441 2 = M3 473 (8 * M3 467 11 + M3 503 f) := hold.1.1.trans pf.2.1
  obtain ⟨j, τ, x, y⟩ := hr
  rw [g1, g2, g4, g7, ← par, show 120 + M3 442 13 - 120 = M3 442 13 by omega]
  exact runs_m (d := d) 120 (M3 442 13) (M3 441 1) (M3 441 2) (by omega) (by omega) (by omega) x (hQ τ y (frR_runs j _ _ x (frR_init _ _ _ _)))
set_option maxHeartbeats 1000000 in
theorem pair_17_62 {L0 : Nat} {xs : Nat → Int32} {m d : Nat} {P : Nat → Nat → Nat} {M : Nat → Int → Int} {a0 a1 : Int} (hB : IB L0 xs m P M) (hk : KT 62 M) (hR : RT 62 M) (hp : P 16 11 = 62) (hip : iprog 62 M) {Q1 : zQ} (h1 : ∀ (P1 : Nat → Nat → Nat) (M1 : Nat → Int → Int) (x : Int), M1 1 = M 1 → (∀ (Q2 : zQ), (∀ (P2 : Nat → Nat → Nat) (M2 : Nat → Int → Int), M2 1 = M 1 → IB L0 xs (m + 1) P2 M2 ∧ KP P2 M2 ∧ RP P2 M2 → Q2 (zS P2 M2) (some (vI x))) → WC (d + 80) 127 [vR 467, vI a0, vI a1] (zS P1 M1) Q2) → Q1 (zS P1 M1) (some (vI x))) : WC (d + 80) 19 [vR 16, vI a0, vI a1] (zS P M) Q1 := by
  obtain ⟨b1, b2, b3, b4, b5, b6, b7⟩ := id hB
  obtain ⟨i1, ⟨i2, i2b, i2c⟩, i3, i4, i5, i6, i7, i8⟩ := id hip
  have eP : zupN P 16 11 62 = P := by
    have := zupN_self P 16 11
    rw [hp] at this
    exact this
  have kp : KP P M ∧ RP P M := ⟨⟨fun z => by first | exact hk | (rw [hp] at z; exact absurd z (by decide)), fun z => by first | exact hk | (rw [hp] at z; exact absurd z (by decide))⟩, ⟨fun z => by first | exact hR | (rw [hp] at z; exact absurd z (by decide)), fun z => by first | exact hR | (rw [hp] at z; exact absurd z (by decide))⟩⟩
  have up : IB L0 xs (m + 1) (zupN P 16 11 62) M ∧ KP (zupN P 16 11 62) M ∧ RP (zupN P 16 11 62) M := by rw [eP]; exact ⟨IB_up hB, kp.1, kp.2⟩
  have hn : 0 ≤ M 469 (M 467 11) ∧ M 469 (M 467 11) ≤ 8 := i6.2.2.1
  have hpp : ∀ xf : Int, 0 ≤ xf → xf < M 469 (M 467 11) → 0 ≤ M 503 xf ∧ M 503 xf < 8 := fun xf x0 x1 => (b5 xf x0 (by omega)).1
  refine eqC eP.symm rfl (after_c_62 (d := d + 5) (HK1 := fun P1 M1 => SA 62 L0 xs m (M 1) a0 P1 M1) (HK2 := fun _ _ P2 M2 => SB 62 L0 xs m (M 1) a0 P2 M2) (HK3 := fun _ _ P2 M2 P3 M3 => P3 16 11 = P2 16 11 ∧ P3 16 12 = P2 16 12 ∧ Fr M2 M3 ∧ ∀ L : Nat → Int → Int, rLn M2 L → ranR M2 M3 L) a0 a1 (fun Q' q0 q1 => growTree_h_62 (d := d + 5) hB hk hR hp hip q0 q1) (fun P1 M1 s Q' q => writeResult_h_62 (d := d + 5) s q) (fun P1 M1 s P2 M2 s2 Q' q => ?_) (fun nq => ?_) (fun P1 M1 s P2 M2 s2 P3 M3 s3 w5 => ?_))
  · refine runR_h_62 (d := d + 72) s2 (fun P' M3 e1 e2 fr fam => ?_)
    have e1 : P' 16 11 = 62 := e1
    have z := q P' M3 ⟨e1.trans s2.1.1.symm, e2, fr, fam⟩
    have e : zupN P' 16 11 62 = P' := by
      have := zupN_self P' 16 11
      rw [e1] at this
      exact this
    rw [e] at z
    exact z
  · refine h1 (zupN P 16 11 62) M _ rfl (fun Q2 h2 => after_m (d := d + 64) (HK1 := fun _ => False) (HK2 := fun _ _ => False) a0 a1 i1 hn (fun _ z => z.elim) hpp (fun v w => absurd ⟨⟨w.1, by omega⟩, v.1, by rw [i2]; exact v.2⟩ nq) (fun _ z => z.elim) (fun _ => h2 _ M rfl up) (fun _ z => z.elim))
  · obtain ⟨e1, e2, fr, fam⟩ := s3
    have s3 := SB_run_62 s2 e1 e2 fr
    obtain ⟨u1, u2, u3, u4, u5, u6, u7, u8⟩ := id s3.1
    obtain ⟨j1, ⟨j2, j2b, j2c⟩, j3, j4, j5, j6, j7, j8⟩ := id u8
    have hpp3 : ∀ xf : Int, 0 ≤ xf → xf < M3 469 (M3 467 11) → 0 ≤ M3 503 xf ∧ M3 503 xf < 8 := fun xf x0 x1 => (u2.2.2.2.2.1 xf x0 (by have := j6.2.2.1.2; omega)).1
    refine h1 (zupN P3 16 11 62) M3 _ u7 (fun Q2 h2 => after_m (d := d + 64) (HK1 := fun M1 => LK 62 M3 M3 M1 a0) (HK2 := fun M1 τ => (ranv (τ 467 73) (τ 467 74) (τ 467 70) (τ 467 71) (τ 467 72) a1 = M3 102 a1) ∧ FrR M1 τ) a0 a1 j1 j6.2.2.1 (fun M1 z => ?_) hpp3 (fun v w Q' qq => lays_k_62 (d := d + 64) s3.1 (fun _ _ => rfl) s3.2.2 qq) (fun M1 z Q' qq => ?_) (fun w => ?_) (fun M1 z τ hh w => ?_))
    · have F := LK_f_62 s3 z
      have pf := (j6.1 a0 u6.1 (by rw [← j2]; exact u6.2)).1
      have n8 := j6.2.2.1
      rw [F.2.2.2.1.1, F.2.2.2.1.2.1]
      omega
    · refine refRun_62 (d := d + 74) (Pr := fun τ => ranv (τ 467 73) (τ 467 74) (τ 467 70) (τ 467 71) (τ 467 72) a1 = M3 102 a1) s3 z ?_ (fun τ y g => qq τ ⟨y, g⟩)
      have tg := frL_tog (fr_L fr) s2.1.2.2.2.2.2.2.2 s2.1.2.2.1.1
      obtain ⟨j, τ, x, y⟩ := fam M1 (rLn_cong (fun c a b => fr c (by omega)) (fr_L fr) (fr 505 (by decide)) (fr 506 (by decide)) tg (LK_ln_62 (L0 := L0) (xs := xs) (m := m) (P := P3) (S := M 1) z).1)
      rw [← fr 441 (by decide), ← fr 442 (by decide)] at x
      exact ⟨j, τ, x, ranv_of y ⟨w5.1, by omega⟩⟩
    · exact absurd ⟨⟨u6.1, by rw [← j2]; exact u6.2⟩, w5.1, by omega⟩ w
    · have en := LK_end_62 (P' := zupN P3 16 11 62) s3.1 z u1.symm rfl
      have fq := frR_Q hh.2
      have z2 := IB_frQ fq rfl rfl en.2.1 en.2.2.1
      exact eqR hh.1 (h2 _ τ ((fq.1 1 (by decide)).trans en.1) ⟨z2.1, z2.2.1, z2.2.2 en.2.2.2⟩)
set_option maxHeartbeats 1000000 in
theorem pair_18_62 {L0 : Nat} {xs : Nat → Int32} {m d : Nat} {P : Nat → Nat → Nat} {M : Nat → Int → Int} {a0 : Int} (hB : IB L0 xs m P M) (hk : KT 62 M) (hR : RT 62 M) (hp : P 16 11 = 62) (hip : iprog 62 M) {Q1 : zQ} (h1 : ∀ (P1 : Nat → Nat → Nat) (M1 : Nat → Int → Int) (x : Int), M1 1 = M 1 → (∀ (Q2 : zQ), (∀ (P2 : Nat → Nat → Nat) (M2 : Nat → Int → Int), M2 1 = M 1 → IB L0 xs (m + 1) P2 M2 ∧ KP P2 M2 ∧ RP P2 M2 → Q2 (zS P2 M2) (some (vI x))) → WC (d + 80) 128 [vR 467, vI a0] (zS P1 M1) Q2) → Q1 (zS P1 M1) (some (vI x))) : WC (d + 80) 20 [vR 16, vI a0] (zS P M) Q1 := by
  obtain ⟨b1, b2, b3, b4, b5, b6, b7⟩ := id hB
  obtain ⟨i1, ⟨i2, i2b, i2c⟩, i3, i4, i5, i6, i7, i8⟩ := id hip
  have eP : zupN P 16 11 62 = P := by
    have := zupN_self P 16 11
    rw [hp] at this
    exact this
  have kp : KP P M ∧ RP P M := ⟨⟨fun z => by first | exact hk | (rw [hp] at z; exact absurd z (by decide)), fun z => by first | exact hk | (rw [hp] at z; exact absurd z (by decide))⟩, ⟨fun z => by first | exact hR | (rw [hp] at z; exact absurd z (by decide)), fun z => by first | exact hR | (rw [hp] at z; exact absurd z (by decide))⟩⟩
  have up : IB L0 xs (m + 1) (zupN P 16 11 62) M ∧ KP (zupN P 16 11 62) M ∧ RP (zupN P 16 11 62) M := by rw [eP]; exact ⟨IB_up hB, kp.1, kp.2⟩
  have hn : 0 ≤ M 469 (M 467 11) ∧ M 469 (M 467 11) ≤ 8 := i6.2.2.1
  have hpp : ∀ xf : Int, 0 ≤ xf → xf < M 469 (M 467 11) → 0 ≤ M 503 xf ∧ M 503 xf < 8 := fun xf x0 x1 => (b5 xf x0 (by omega)).1
  refine eqC eP.symm rfl (saved_c_62 (d := d + 5) (HK1 := fun P1 M1 => SA 62 L0 xs m (M 1) a0 P1 M1) (HK2 := fun _ _ P2 M2 => SB 62 L0 xs m (M 1) a0 P2 M2) (HK3 := fun _ _ P2 M2 P3 M3 => P3 16 11 = P2 16 11 ∧ P3 16 12 = P2 16 12 ∧ Fr M2 M3 ∧ ∃ (τ : Nat → Int → Int) (j : Nat), xRuns j (xinit M2 (60 * M2 467 11 + M2 475 (8 * M2 467 11 + M2 503 a0)) (M2 476 (8 * M2 467 11 + M2 503 a0)) (M2 474 (8 * M2 467 11 + M2 503 a0)) (M2 473 (8 * M2 467 11 + M2 503 a0))) τ ∧ fRel (M2 503) (fun g => if g = a0 then 1 else 0) (TOf M2) M3 τ) (HK4 := fun _ _ _ _ P3 M3 P4 M4 => P4 16 11 = P3 16 11 ∧ P4 16 12 = P3 16 12 ∧ Fr M3 M4 ∧ ∀ L : Nat → Int → Int, rLn M3 L → ranR M3 M4 L) a0 (fun P1 M1 s P2 M2 s2 P3 M3 s3 P4 M4 s4 => ?_) (fun Q' q0 q1 => growTree_h_62 (d := d + 5) hB hk hR hp hip q0 q1) (fun P1 M1 s Q' q => writeResult_h_62 (d := d + 5) s q) (fun P1 M1 s P2 M2 s2 Q' q => ?_) (fun P1 M1 s P2 M2 s2 P3 M3 s3 Q' q => ?_) (fun nq => ?_) (fun P1 M1 s P2 M2 s2 P3 M3 s3 P4 M4 s4 => ?_))
  · obtain ⟨e1, e2, fr, τ, j, x, y⟩ := s3
    have S3 := SB_run_62 s2 e1 e2 fr
    obtain ⟨_, L, hL⟩ := SB_fin_62 S3
    obtain ⟨j', τ', x', y'⟩ := s4.2.2.2 L hL
    have a := y.2.2.2.2.2.2.2.2.1
    have b := y'.2.2.2.2.2.2.2.2.1
    omega
  · obtain ⟨u1, u2, u3, u4, u5, u6, u7, u8⟩ := id s2.1
    obtain ⟨j1, ⟨j2, j2b, j2c⟩, j3, j4, j5, j6, j7, j8⟩ := id u8
    have j4 : 0 ≤ M2 77 13 ∧ M2 77 13 ≤ 60 := j4
    have j2c : M2 77 13 = M2 470 (M2 467 11) := j2c
    have fv : 0 ≤ a0 ∧ a0 < M2 469 (M2 467 11) := ⟨u6.1, by rw [← j2]; exact u6.2⟩
    have pf := j6.1 a0 fv.1 fv.2
    have hco := u2.2.2.2.1 1 (by decide) (by decide)
    unfold isSet at hco
    refine runFunction_c_62 (d := d + 72) (n1 := M2 470 (M2 467 11)) (nF := M2 469 (M2 467 11)) (TO := TOf M2) (π := M2 503) a0 (M2 19 1) fv j5 j6 j7 (by omega) j1 (j8 _ pf.1.1 pf.1.2) ⟨hco.1, by omega⟩ u2.2.2.1 (fun a x0 x1 => (u2.2.2.2.2.1 a x0 x1).1) (fun M3 cc τ j r1 r2 r3 => ?_)
    have z := q (zupN (zupN (zupN (zupN P2 16 11 62) 101 6 62) 101 7 cc) 101 8 77) M3 ⟨u1.symm, rfl, r3, τ, j, r1, r2⟩
    have e : zupN (zupN (zupN (zupN (zupN P2 16 11 62) 101 6 62) 101 7 cc) 101 8 77) 16 11 62 = zupN (zupN (zupN (zupN P2 16 11 62) 101 6 62) 101 7 cc) 101 8 77 := zupN_self (zupN (zupN (zupN (zupN P2 16 11 62) 101 6 62) 101 7 cc) 101 8 77) 16 11
    rw [e] at z
    exact z
  · obtain ⟨e1, e2, fr, _⟩ := s3
    have S3 := SB_run_62 s2 e1 e2 fr
    refine runR_h_62 (d := d + 72) S3 (fun P' M4 e1' e2' fr' fam => ?_)
    have e1' : P' 16 11 = 62 := e1'
    have z := q P' M4 ⟨e1'.trans S3.1.1.symm, e2', fr', fam⟩
    have e : zupN P' 16 11 62 = P' := by
      have := zupN_self P' 16 11
      rw [e1'] at this
      exact this
    rw [e] at z
    exact z
  · refine h1 (zupN P 16 11 62) M _ rfl (fun Q2 h2 => saved_m (d := d + 64) (HK1 := fun _ => False) (HK2 := fun _ _ => False) (HK3 := fun _ _ _ => False) a0 i1 hn ⟨fun _ z => z.elim, fun _ z => z.elim⟩ hpp (fun v => absurd ⟨v.1, by rw [i2]; exact v.2⟩ nq) (fun _ z => z.elim) (fun _ z => z.elim) (fun _ => h2 _ M rfl up) (fun _ z => z.elim) (fun _ z => z.elim))
  · obtain ⟨e1, e2, fr, τ, j, x, y⟩ := s3
    obtain ⟨e1', e2', fr', fam⟩ := s4
    have S3 := SB_run_62 s2 e1 e2 fr
    have S4 := SB_run_62 S3 e1' e2' fr'
    have frr : Fr M2 M4 := fr_trans fr fr'
    obtain ⟨u1, u2, u3, u4, u5, u6, u7, u8⟩ := id S4.1
    obtain ⟨j1, ⟨j2, j2b, j2c⟩, j3, j4, j5, j6, j7, j8⟩ := id u8
    have fv : 0 ≤ a0 ∧ a0 < M4 469 (M4 467 11) := ⟨u6.1, by rw [← j2]; exact u6.2⟩
    have pf := j6.1 a0 fv.1 fv.2
    have n8 := j6.2.2.1
    have hpp4 : ∀ xf : Int, 0 ≤ xf → xf < M4 469 (M4 467 11) → 0 ≤ M4 503 xf ∧ M4 503 xf < 8 := fun xf x0 x1 => (u2.2.2.2.2.1 xf x0 (by omega)).1
    have hR4 : xRuns j (xinit M4 (60 * M4 467 11 + M4 475 (8 * M4 467 11 + M4 503 a0)) (M4 476 (8 * M4 467 11 + M4 503 a0)) (M4 474 (8 * M4 467 11 + M4 503 a0)) (M4 473 (8 * M4 467 11 + M4 503 a0))) (mix M4 τ) := by
      have a : ∀ c : Nat, ¬ (101 ≤ c ∧ c ≤ 115) → M4 c = M2 c := fun c hc => frr c hc
      rw [a 467 (by decide), a 473 (by decide), a 474 (by decide), a 475 (by decide), a 476 (by decide), a 503 (by decide), xinit_of frr]
      exact xRuns_mix M4 j _ _ x
    have y509 := y.2.2.2.2.2.2.2.2.2.2.1 (M2 503 a0)
    have y3 := y.2.2.2.2.2.2.2.2.1
    have g4 : M4 503 = M2 503 := frr 503 (by decide)
    refine h1 (zupN P4 16 11 62) M4 _ u7 (fun Q2 h2 => saved_m (d := d + 64) (HK1 := fun M1 => (M1 467 73 = τ 467 73 ∧ M1 467 70 = τ 467 70) ∧ FrQ M4 M1) (HK2 := fun M1 M2 => LK 62 M1 M1 M2 a0) (HK3 := fun M1 M2 τ3 => (τ3 467 73 = M4 102 0 ∧ τ3 467 70 = M4 102 2 ∧ 0 ≤ τ3 467 73 ∧ 0 ≤ τ3 467 70 ∧ τ3 467 70 ≤ 3000) ∧ FrR M2 τ3) a0 j1 j6.2.2.1 ⟨fun M1 z => ?_, fun M1 z M2' z2 => ⟨?_, fun M3' z3 => ?_⟩⟩ hpp4 (fun v Q' qq => ?_) (fun M1 z Q' qq => ?_) (fun M1 z M2' z2 Q' qq => ?_) (fun w => absurd fv w) (fun M1 z w => ?_) (fun M1 z M2' z2 M3' z3 w => ?_))
    · rw [z.1.2, z.2.2.1.2.2.1.1]
      have := y.2.2.2.2.2.1
      omega
    · have F := LK_f_62 (SB_Q_62 (P' := P4) S4 rfl rfl z.2) z2
      rw [F.2.2.2.1.1, F.2.2.2.1.2.1, z.2.2.1.1, z.2.2.1.2.2.1.1]
      have c1 := F.1.1
      have c2 := F.2.1
      omega
    · have := z3.1
      omega
    · refine runsOf_m (d := d + 74) (τ := mix M4 τ) (M4 503 a0) j1 ⟨pf.1.1, by omega⟩ (j8 _ pf.1.1 pf.1.2) hR4 ?_ (qq _ ⟨⟨rfl, rfl⟩, ?_⟩)
      · show 0 ≤ τ 509 (M4 503 a0) ∧ τ 509 (M4 503 a0) ≤ 3000
        rw [g4]
        have := y509 (by rw [← g4]; exact pf.1.1) (by rw [← g4]; omega)
        omega
      · have fR := frR_runs j _ _ hR4 (frR_init _ _ _ _)
        refine frR_Q ⟨fun c hc => ?_, fun k hk => ?_⟩
        · rw [zr_ne (fun z => by subst z; exact absurd hc (by decide))]; exact fR.1 c hc
        · rw [zrow_n (by decide)]; exact fR.2 k hk
    · have SQ := SB_Q_62 (P' := P4) S4 rfl rfl z.2
      exact lays_k_62 (d := d + 64) SQ.1 (fun _ _ => rfl) SQ.2.2 qq
    · have SQ := SB_Q_62 (P' := P4) S4 rfl rfl z.2
      refine refRun_62 (d := d + 74) (Pr := fun τ3 => τ3 467 73 = M4 102 0 ∧ τ3 467 70 = M4 102 2 ∧ 0 ≤ τ3 467 73 ∧ 0 ≤ τ3 467 70 ∧ τ3 467 70 ≤ 3000) SQ z2 ?_ (fun τ3 y g => qq τ3 ⟨y, g⟩)
      have t1 := frL_tog z.2.2.1 u8 u3.1
      have t2 := frL_tog (fr_L fr') S3.1.2.2.2.2.2.2.2 S3.1.2.2.1.1
      have l1 := (LK_ln_62 (L0 := L0) (xs := xs) (m := m) (P := P4) (S := M 1) z2).1
      have l2 := rLn_cong (fun c a b => z.2.1 c (by omega)) z.2.2.1 z.2.2.2.2.2.1 z.2.2.2.2.2.2.1 t1 l1
      obtain ⟨j3', τ3, x3, y3⟩ := fam M2' (rLn_cong (fun c a b => fr' c (by omega)) (fr_L fr') (fr' 505 (by decide)) (fr' 506 (by decide)) t2 l2)
      rw [← fr' 441 (by decide), ← fr' 442 (by decide), ← z.2.1 441 (by decide), ← z.2.1 442 (by decide)] at x3
      obtain ⟨f1, f2, f3, f4, f5, f6, f7, f8, f9, _⟩ := y3
      exact ⟨j3', τ3, x3, f2.symm, f6.symm, f3, by omega, by omega⟩
    · have SQ := SB_Q_62 (P' := P4) S4 rfl rfl z.2
      have z4 := IB_frQ (P' := zupN P4 16 11 62) z.2 u1.symm rfl (IB_up u2) (SA_KP_62 S4.1 rfl).1
      refine eqR ?_ (h2 _ M1 SQ.1.2.2.2.2.2.2.1 ⟨z4.1, z4.2.1, z4.2.2 (SA_KP_62 S4.1 rfl).2⟩)
      have a := y.2.1
      rw [if_neg (by rw [z.1.1] at w; omega)]
    · have SQ := SB_Q_62 (P' := P4) S4 rfl rfl z.2
      have en := LK_end_62 (P' := zupN P4 16 11 62) SQ.1 z2 u1.symm rfl
      have fq := frR_Q z3.2
      have z5 := IB_frQ fq rfl rfl en.2.1 en.2.2.1
      refine eqR ?_ (h2 _ M3' ((fq.1 1 (by decide)).trans en.1) ⟨z5.1, z5.2.1, z5.2.2 en.2.2.2⟩)
      have a := y.2.1
      have b := y.2.2.2.2.2.1
      have b0 := y.2.2.1
      obtain ⟨c1, c2, c3, c4, c5⟩ := z3.1
      rw [z.1.1] at w
      rw [z.1.2, c1, c2]
      by_cases k : M4 102 0 = 0
      · rw [if_neg (by omega), if_pos ⟨by omega, k⟩]; omega
      · rw [if_pos (by omega), if_neg (fun q => k q.2)]
theorem pair_17 {L0 : Nat} {xs : Nat → Int32} {m d : Nat} : pr_17 (d + 80) (fun P M => IB L0 xs m P M ∧ KP P M ∧ RP P M) (fun P M => IB L0 xs (m + 1) P M ∧ KP P M ∧ RP P M) := by
  intro P M a0 a1 hI r0 r1 Q1 h1
  obtain ⟨hB, hK, hR⟩ := hI
  rcases hB.2.2.2.2.2.2 with ⟨p1, p2, p3⟩ | ⟨p1, p2, p3⟩
  · exact pair_17_33 hB (hK.1 p1) (hR.1 p1) p1 p3 h1
  · exact pair_17_62 hB (hK.2 p1) (hR.2 p1) p1 p3 h1
theorem pair_18 {L0 : Nat} {xs : Nat → Int32} {m d : Nat} : pr_18 (d + 80) (fun P M => IB L0 xs m P M ∧ KP P M ∧ RP P M) (fun P M => IB L0 xs (m + 1) P M ∧ KP P M ∧ RP P M) := by
  intro P M a0 hI r0 Q1 h1
  obtain ⟨hB, hK, hR⟩ := hI
  rcases hB.2.2.2.2.2.2 with ⟨p1, p2, p3⟩ | ⟨p1, p2, p3⟩
  · exact pair_18_33 hB (hK.1 p1) (hR.1 p1) p1 p3 h1
  · exact pair_18_62 hB (hK.2 p1) (hR.2 p1) p1 p3 h1
