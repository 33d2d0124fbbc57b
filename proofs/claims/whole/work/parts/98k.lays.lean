/-! The result: the reference lays the lines that the class has written -/
theorem mix_self {N : Nat → Int → Int} : mix N N = N := by
  funext c k; unfold mix; split <;> rfl
theorem mix_low {M N τ : Nat → Int → Int} (h : ∀ c : Nat, c < 467 → N c = M c) : mix N τ = mix M τ := by
  funext c k; unfold mix
  split
  · next z => rw [h c z]
  · rfl
theorem mix_lo {M τ : Nat → Int → Int} {c : Nat} (h : c < 467) : mix M τ c = M c := by
  funext k; unfold mix; rw [if_pos h]
/-- as one memory is as another but for lines and trees -/
theorem frQ_lays {M N τ' : Nat → Int → Int} (h1 : ∀ c : Nat, ¬ (521 ≤ c ∧ c ≤ 541) → ¬ c = 467 → N c = M c) (h2 : ∀ k : Int, ¬ (86 ≤ k ∧ k ≤ 111) → N 467 k = M 467 k) (pr : rPr N τ' 0 0 120) : FrQ M (mix M τ') := by
  have C : ∀ c : Nat, 467 < c → vCell c = false → ¬ (521 ≤ c ∧ c ≤ 541) → mix M τ' c = M c := fun c a b d => by rw [mix_cell M τ' (by omega), pr.1 c b, h1 c d (by omega)]
  refine ⟨fun c hc => mix_lo hc, ⟨?_, fun c a b d => C c (by omega) ?_ (by omega), ⟨C 503 (by decide) rfl (by decide), C 504 (by decide) rfl (by decide)⟩, fun c j a b d => ?_⟩, ?_, C 468 (by decide) rfl (by decide), C 505 (by decide) rfl (by decide), C 506 (by decide) rfl (by decide), C 507 (by decide) rfl (by decide), C 508 (by decide) rfl (by decide)⟩
  · rw [mix_cell M τ' (by decide), pr.2.1 11 (by decide), h2 11 (by decide)]
  · unfold vCell; simp; omega
  · rw [mix_cell M τ' (by omega), pr.2.2.1 c j a b d, h1 c (by omega) (by omega)]
  · rw [mix_cell M τ' (by decide), pr.2.1 1 (by decide), h2 1 (by decide)]
set_option maxHeartbeats 2000000 in
theorem lays_h_33 {d : Nat} {P : Nat → Nat → Nat} {M Mh : Nat → Int → Int} {Q : zQ} {m : Nat} {f : Int} (hip : iprog 33 M) (hx : ipx 33 M) (hper : iperm M) (hs : iset M) (hf : iprof m M) (f0 : 0 ≤ f) (f1 : f < M 33 0) (hh : tHold 33 M f) (hm : ∀ c : Nat, ¬ (441 ≤ c ∧ c ≤ 455) → Mh c = M c) (hold : rHold 33 Mh f)
    (hQ : ∀ (N τ' A T B U : Nat → Int → Int) (n0 : Int → Int) (g : Int → Int) (y0 : Int), tPg A (M 469 (M 467 11)) (M 471 (M 467 11)) → tInv A T (M 469 (M 467 11)) (M 471 (M 467 11)) → tPg B (M 469 (M 467 11)) (M 471 (M 467 11)) → tInv B U (M 469 (M 467 11)) (M 471 (M 467 11)) → dRel (M 504) A B (M 469 (M 467 11)) (M 471 (M 467 11)) → tRel (M 504) T U → A = tD (M 40) (M 41) (M 45) (M 43) (M 37) (M 47) (M 22) (M 23) (M 120) → B = (tD (fun xf => (M 477 (8 * (M 467 11) + xf))) (fun xf => (M 478 (8 * (M 467 11) + xf))) (fun xs => (M 485 (M 492 (16 * (M 467 11) + xs)))) (fun xf => (M 476 (8 * (M 467 11) + xf)) - (M 479 (8 * (M 467 11) + xf)) + (M 474 (8 * (M 467 11) + xf))) (fun xf => (M 474 (8 * (M 467 11) + xf))) (fun xs => (M 497 (16 * (M 467 11) + xs))) (M 507) (M 508) (M 506)) → U = tT (N 521) (N 522) (N 523) (N 524) (N 525) (N 526) g (N 529) (N 467 86) y0 (N 467 87) → N 533 = znum (M 533) 0 (tPre B U 0) → (M 116 4 = ((tLft A T 0).length : Int) ∧ M 119 = zlst n0 0 (tLft A T 0)) → T 2 0 = f → FrQ M (mix M τ') → rFin Mh N τ' (M 469 (M 467 11)) (TOg M) (tLft A T 0) → (∀ c : Nat, ¬ (521 ≤ c ∧ c ≤ 541) → ¬ c = 467 → N c = M c) → (∀ k : Int, ¬ (86 ≤ k ∧ k ≤ 111) → N 467 k = M 467 k) → tCols M A T → Q (zS P (mix M τ')) none) : WC (d + 14) 122 [vR 467, vI (M 503 f)] (zS P M) Q := by
  obtain ⟨A, T, G, y1, y2, ⟨n, T1, y3⟩, y4, y5, y6, ⟨y7, n9, y7b⟩, ⟨y8, y9⟩, yc, y10⟩ := rPrem_ex_33 hip hx hs f0 f1 hh
  have px := px_33 hip hx hs
  have hd := dx_33 (r := M 120) hip hx hper hs hf y6
  obtain ⟨i1, ⟨i2, i2b, i2c⟩, i3, i4, i5, i6, i7, i8⟩ := id hip
  have f1' : f < M 469 (M 467 11) := by rw [← i2]; exact f1
  have g := (i6.1 f f0 f1').1
  have e1 : M 504 (M 503 f) = f := (hper f f0 (by have := i6.2.2.1.2; omega)).2.2.1
  have e2 : M 22 f = M 507 (M 503 f) := hf.1 f f0 (by have := i6.2.2.1.2; omega)
  have e3 : M 39 f = M 476 (8 * M 467 11 + M 503 f) := (i6.1 f f0 f1').2.2.2.2
  have hz := px.2.2.2.2.2 (M 503 f) g.1 g.2
  refine ⟨_, rfl, laysR_m (d := d) (M 503 f) i1 px.2.1 px.2.2.1 px.2.2.2.1 g hz i6.2.2.1 (fun xf x0 x1 => by have := i8 xf x0 x1; omega) ?_⟩
  intro w521 w522 w523 w524 w525 w526 w527 w528 w529 w530 w531 w532 w533 w534 v86 v87 v88 v89 v90 v94 w535 w536 w537 w538 w539 w540 w541 v107 v108 v109 v110 v111 n0 gg y0 q1 q2 q3 q6 q9 r1 r2 x2'
  obtain ⟨B, eB⟩ : ∃ B : Nat → Int → Int, B = (tD (fun xf => (M 477 (8 * (M 467 11) + xf))) (fun xf => (M 478 (8 * (M 467 11) + xf))) (fun xs => (M 485 (M 492 (16 * (M 467 11) + xs)))) (fun xf => (M 476 (8 * (M 467 11) + xf)) - (M 479 (8 * (M 467 11) + xf)) + (M 474 (8 * (M 467 11) + xf))) (fun xf => (M 474 (8 * (M 467 11) + xf))) (fun xs => (M 497 (16 * (M 467 11) + xs))) (M 507) (M 508) (M 506)) := ⟨_, rfl⟩
  obtain ⟨U, eU⟩ : ∃ U : Nat → Int → Int, U = tT w521 w522 w523 w524 w525 w526 gg w529 v86 y0 v87 := ⟨_, rfl⟩
  have hgB := px.2.1
  rw [← eB] at hgB hd q1 q2 q3 q6 q9
  rw [← y5] at hd
  rw [← eU] at q1 q2 q3 q6 q9
  have rr := tRel_root (ρ := M 504) (T := T1) (U := (tT (M 521) (M 522) (M 523) (M 524) (M 525) (M 526) (M 531) (M 529) (M 467 86) (M 467 90) (M 467 87))) hgB hd (f := M 503 f) (e := M 507 (M 503 f)) (z := M 476 (8 * M 467 11 + M 503 f)) g.1 g.2
  rw [e1] at rr
  rw [e2, e3] at y3
  have b1 : B 1 (M 503 f) = M 478 (8 * M 467 11 + M 503 f) := by rw [eB]; rfl
  have hI0 : tInv B (tlay B (troot (tT (M 521) (M 522) (M 523) (M 524) (M 525) (M 526) (M 531) (M 529) (M 467 86) (M 467 90) (M 467 87)) (M 503 f) (M 507 (M 503 f)) (M 476 (8 * M 467 11 + M 503 f))) 0) (M 469 (M 467 11)) (M 471 (M 467 11)) := tInv_lay hgB (tInv_root (f := M 503 f) (e := M 507 (M 503 f)) g (by rw [b1]; omega) i6.2.2.1.2) rfl rfl rfl rfl rfl rfl rfl rfl rfl rfl rfl
  have z := (tRel_opens hgB hd n n0 _ _ _ _ hI0 rr y3 y4 q1 q2).2
  have U2 : U 2 = w523 := by rw [eU]; rfl
  have U5 : U 5 = w526 := by rw [eU]; rfl
  have u0 : M 503 f = w523 0 := by
    have a := (z.2 0 (by decide) (by have := y2.2.1.1; omega)).2.2.1
    have b := (q9.2.2.1 0 (by decide) (by have := q9.2.1.1; omega)).1
    rw [← U2, ← y8, a]
    exact (hper (U 2 0) b.1 (by have := i6.2.2.1.2; omega)).2.2.2
  have key : ∀ N : Nat → Int → Int, (∀ c : Nat, ¬ (521 ≤ c ∧ c ≤ 541) → ¬ c = 467 → N c = M c) → (∀ k : Int, ¬ (86 ≤ k ∧ k ≤ 111) → N 467 k = M 467 k) → (N 521 = w521 ∧ N 522 = w522 ∧ N 523 = w523 ∧ N 524 = w524 ∧ N 525 = w525 ∧ N 526 = w526 ∧ N 529 = w529 ∧ N 531 = w531 ∧ N 533 = w533) → (N 467 86 = v86 ∧ N 467 87 = v87) → (N 535 = w535 ∧ N 536 = w536 ∧ N 537 = w537 ∧ N 538 = w538 ∧ N 539 = w539 ∧ N 541 = w541) → (N 467 107 = v107 ∧ N 467 108 = v108 ∧ N 467 109 = v109 ∧ N 467 110 = v110 ∧ N 467 111 = v111) → WP (d + 13) 122 0 0 38 [some (vR 467), some (vI (M 503 f)), x2'] [] (zS P N) Q := by
    intro N h1 h2 h3 h4 h5 h6
    obtain ⟨a0, a1, a2, a3, a4, a5, a8, a10, a12⟩ := h3
    obtain ⟨s1, s2, s3, s4, s5, s6⟩ := r1
    obtain ⟨t1, t2, t3, t4, t5⟩ := r2
    rw [← u0] at s2 s3 t4
    have beg : rBeg M N A T (M 503 f) := by
      refine ⟨⟨fun c j a b _ _ => congrFun (h1 c (by omega) (by omega)) j, fun c j a b _ _ => congrFun (h1 c (by omega) (by omega)) j, h2 11 (by decide)⟩, fun x x0 x1 xs => ?_, fun x x0 x1 xs => ?_, fun x k x0 x1 xs k0 k1 ku => ?_, ⟨?_, ?_, ?_, ?_, ?_, ?_, ?_, ?_⟩, ?_, ?_, ?_⟩
      · have a := (z.2 x x0 x1).2.2.1
        have b := (q9.2.2.1 x x0 (by rw [← z.1.1]; exact x1)).1
        rw [a2, ← U2, a]
        exact (hper (U 2 x) b.1 (by have := i6.2.2.1.2; omega)).2.2.2.symm
      · rw [a5, ← U5]
        exact ((z.2 x x0 x1).2.2.2.2.2.1 (tnode6 y2 x0 x1 xs).1).symm
      · have c := q3 k (by omega) (by have e8 : U 8 0 = v86 := (by rw [eU]; rfl); have := z.1.1; omega)
        rw [a10, c, ← tRel_tst hgB hd y2 q9 z (T 8 0).toNat k (by omega) (by omega) (by rw [← z.1.1]; exact k1), tst_up y2 k0 k1, ku, xs]
        rcases tkp_01 A T k with y | y
        · rw [y, if_pos rfl]
        · rw [y, if_neg (by decide)]
      · rw [h6.1]; omega
      · rw [h5.1]; exact s1.symm
      · rw [h5.2.1]; exact s2.symm
      · rw [h5.2.2.1]; exact s3.symm
      · rw [h5.2.2.2.1]; exact s4.symm
      · rw [h5.2.2.2.2.1]; exact s5.symm
      · rw [h5.2.2.2.2.2]; exact s6
      · rw [h6.2.1]; omega
      · rw [h6.2.2.1]; exact t3
      · rw [h6.2.2.2.1]; exact t4
      · rw [h6.2.2.2.2]; exact t5
    have fl : FrL M Mh := ⟨congrFun (hm 467 (by decide)) 11, fun c a b _ => hm c (by omega), ⟨hm 503 (by decide), hm 504 (by decide)⟩, fun c j a b _ => congrFun (hm c (by omega)) j⟩
    have fl2 : FrL Mh M := ⟨(congrFun (hm 467 (by decide)) 11).symm, fun c a b _ => (hm c (by omega)).symm, ⟨(hm 503 (by decide)).symm, (hm 504 (by decide)).symm⟩, fun c j a b _ => (congrFun (hm c (by omega)) j).symm⟩
    have fpH : FrP M Mh := ⟨congrFun (hm 467 (by decide)) 11, fun c hc => hm c (by unfold gCell at hc; simp at hc; omega)⟩
    obtain ⟨τ', r⟩ := hold.2.2 N G _ _ (rPrem_fr (p := 33) (M := Mh) (A := M) (by decide) (fun c a b => (hm c (by omega)).symm) (fun c a b => (hm c (by omega)).symm) fl2 (iprog_fr33 fpH hip) (ipx_fr33 fpH hx) (y10 N beg))
    rw [frL_tog fl hip hx, fl.1, hm 469 (by decide)] at r
    have ml : mix N τ' = mix M τ' := mix_low (fun c hc => h1 c (by omega) (by omega))
    have w := r.1 N P (d + 7) (M 503 f) Q (fun x2 => R_end_r (d := d + 7) (M 503 f) (by rw [r.2.1]; decide) (by
      rw [ml]
      exact hQ N τ' A T B U n9 gg y0 y1 y2 hgB q9 hd z y5 eB (by rw [a0, a1, a2, a3, a4, a5, a8, h4.1, h4.2]; exact eU) (by rw [a12]; exact q6) ⟨y7, y7b⟩ y8 (frQ_lays h1 h2 r.2.2.2.2.2.2.1) r h1 h2 yc)) x2'
    rw [mix_self] at w
    exact w
  refine key _ (fun c a b => ?_) (fun k hk => ?_) ⟨rfl, rfl, rfl, rfl, rfl, rfl, rfl, rfl, rfl⟩ ⟨rfl, rfl⟩ ⟨rfl, rfl, rfl, rfl, rfl, rfl⟩ ⟨rfl, rfl, rfl, rfl, rfl⟩
  · repeat (first | rw [zr_ne (by omega)] | rw [zu_ne (by omega)])
  · (repeat (rw [zup_f (by omega)])); (repeat (rw [zrow_n (by decide)]))
set_option maxHeartbeats 2000000 in
theorem lays_h_62 {d : Nat} {P : Nat → Nat → Nat} {M Mh : Nat → Int → Int} {Q : zQ} {m : Nat} {f : Int} (hip : iprog 62 M) (hx : ipx 62 M) (hper : iperm M) (hs : iset M) (hf : iprof m M) (f0 : 0 ≤ f) (f1 : f < M 62 0) (hh : tHold 62 M f) (hm : ∀ c : Nat, ¬ (441 ≤ c ∧ c ≤ 455) → Mh c = M c) (hold : rHold 62 Mh f)
    (hQ : ∀ (N τ' A T B U : Nat → Int → Int) (n0 : Int → Int) (g : Int → Int) (y0 : Int), tPg A (M 469 (M 467 11)) (M 471 (M 467 11)) → tInv A T (M 469 (M 467 11)) (M 471 (M 467 11)) → tPg B (M 469 (M 467 11)) (M 471 (M 467 11)) → tInv B U (M 469 (M 467 11)) (M 471 (M 467 11)) → dRel (M 504) A B (M 469 (M 467 11)) (M 471 (M 467 11)) → tRel (M 504) T U → A = tD (M 69) (M 70) (M 74) (M 72) (M 66) (M 76) (M 22) (M 23) (M 120) → B = (tD (fun xf => (M 477 (8 * (M 467 11) + xf))) (fun xf => (M 478 (8 * (M 467 11) + xf))) (fun xs => (M 485 (M 492 (16 * (M 467 11) + xs)))) (fun xf => (M 476 (8 * (M 467 11) + xf)) - (M 479 (8 * (M 467 11) + xf)) + (M 474 (8 * (M 467 11) + xf))) (fun xf => (M 474 (8 * (M 467 11) + xf))) (fun xs => (M 497 (16 * (M 467 11) + xs))) (M 507) (M 508) (M 506)) → U = tT (N 521) (N 522) (N 523) (N 524) (N 525) (N 526) g (N 529) (N 467 86) y0 (N 467 87) → N 533 = znum (M 533) 0 (tPre B U 0) → (M 116 4 = ((tLft A T 0).length : Int) ∧ M 119 = zlst n0 0 (tLft A T 0)) → T 2 0 = f → FrQ M (mix M τ') → rFin Mh N τ' (M 469 (M 467 11)) (TOg M) (tLft A T 0) → (∀ c : Nat, ¬ (521 ≤ c ∧ c ≤ 541) → ¬ c = 467 → N c = M c) → (∀ k : Int, ¬ (86 ≤ k ∧ k ≤ 111) → N 467 k = M 467 k) → tCols M A T → Q (zS P (mix M τ')) none) : WC (d + 14) 122 [vR 467, vI (M 503 f)] (zS P M) Q := by
  obtain ⟨A, T, G, y1, y2, ⟨n, T1, y3⟩, y4, y5, y6, ⟨y7, n9, y7b⟩, ⟨y8, y9⟩, yc, y10⟩ := rPrem_ex_62 hip hx hs f0 f1 hh
  have px := px_62 hip hx hs
  have hd := dx_62 (r := M 120) hip hx hper hs hf y6
  obtain ⟨i1, ⟨i2, i2b, i2c⟩, i3, i4, i5, i6, i7, i8⟩ := id hip
  have f1' : f < M 469 (M 467 11) := by rw [← i2]; exact f1
  have g := (i6.1 f f0 f1').1
  have e1 : M 504 (M 503 f) = f := (hper f f0 (by have := i6.2.2.1.2; omega)).2.2.1
  have e2 : M 22 f = M 507 (M 503 f) := hf.1 f f0 (by have := i6.2.2.1.2; omega)
  have e3 : M 68 f = M 476 (8 * M 467 11 + M 503 f) := (i6.1 f f0 f1').2.2.2.2
  have hz := px.2.2.2.2.2 (M 503 f) g.1 g.2
  refine ⟨_, rfl, laysR_m (d := d) (M 503 f) i1 px.2.1 px.2.2.1 px.2.2.2.1 g hz i6.2.2.1 (fun xf x0 x1 => by have := i8 xf x0 x1; omega) ?_⟩
  intro w521 w522 w523 w524 w525 w526 w527 w528 w529 w530 w531 w532 w533 w534 v86 v87 v88 v89 v90 v94 w535 w536 w537 w538 w539 w540 w541 v107 v108 v109 v110 v111 n0 gg y0 q1 q2 q3 q6 q9 r1 r2 x2'
  obtain ⟨B, eB⟩ : ∃ B : Nat → Int → Int, B = (tD (fun xf => (M 477 (8 * (M 467 11) + xf))) (fun xf => (M 478 (8 * (M 467 11) + xf))) (fun xs => (M 485 (M 492 (16 * (M 467 11) + xs)))) (fun xf => (M 476 (8 * (M 467 11) + xf)) - (M 479 (8 * (M 467 11) + xf)) + (M 474 (8 * (M 467 11) + xf))) (fun xf => (M 474 (8 * (M 467 11) + xf))) (fun xs => (M 497 (16 * (M 467 11) + xs))) (M 507) (M 508) (M 506)) := ⟨_, rfl⟩
  obtain ⟨U, eU⟩ : ∃ U : Nat → Int → Int, U = tT w521 w522 w523 w524 w525 w526 gg w529 v86 y0 v87 := ⟨_, rfl⟩
  have hgB := px.2.1
  rw [← eB] at hgB hd q1 q2 q3 q6 q9
  rw [← y5] at hd
  rw [← eU] at q1 q2 q3 q6 q9
  have rr := tRel_root (ρ := M 504) (T := T1) (U := (tT (M 521) (M 522) (M 523) (M 524) (M 525) (M 526) (M 531) (M 529) (M 467 86) (M 467 90) (M 467 87))) hgB hd (f := M 503 f) (e := M 507 (M 503 f)) (z := M 476 (8 * M 467 11 + M 503 f)) g.1 g.2
  rw [e1] at rr
  rw [e2, e3] at y3
  have b1 : B 1 (M 503 f) = M 478 (8 * M 467 11 + M 503 f) := by rw [eB]; rfl
  have hI0 : tInv B (tlay B (troot (tT (M 521) (M 522) (M 523) (M 524) (M 525) (M 526) (M 531) (M 529) (M 467 86) (M 467 90) (M 467 87)) (M 503 f) (M 507 (M 503 f)) (M 476 (8 * M 467 11 + M 503 f))) 0) (M 469 (M 467 11)) (M 471 (M 467 11)) := tInv_lay hgB (tInv_root (f := M 503 f) (e := M 507 (M 503 f)) g (by rw [b1]; omega) i6.2.2.1.2) rfl rfl rfl rfl rfl rfl rfl rfl rfl rfl rfl
  have z := (tRel_opens hgB hd n n0 _ _ _ _ hI0 rr y3 y4 q1 q2).2
  have U2 : U 2 = w523 := by rw [eU]; rfl
  have U5 : U 5 = w526 := by rw [eU]; rfl
  have u0 : M 503 f = w523 0 := by
    have a := (z.2 0 (by decide) (by have := y2.2.1.1; omega)).2.2.1
    have b := (q9.2.2.1 0 (by decide) (by have := q9.2.1.1; omega)).1
    rw [← U2, ← y8, a]
    exact (hper (U 2 0) b.1 (by have := i6.2.2.1.2; omega)).2.2.2
  have key : ∀ N : Nat → Int → Int, (∀ c : Nat, ¬ (521 ≤ c ∧ c ≤ 541) → ¬ c = 467 → N c = M c) → (∀ k : Int, ¬ (86 ≤ k ∧ k ≤ 111) → N 467 k = M 467 k) → (N 521 = w521 ∧ N 522 = w522 ∧ N 523 = w523 ∧ N 524 = w524 ∧ N 525 = w525 ∧ N 526 = w526 ∧ N 529 = w529 ∧ N 531 = w531 ∧ N 533 = w533) → (N 467 86 = v86 ∧ N 467 87 = v87) → (N 535 = w535 ∧ N 536 = w536 ∧ N 537 = w537 ∧ N 538 = w538 ∧ N 539 = w539 ∧ N 541 = w541) → (N 467 107 = v107 ∧ N 467 108 = v108 ∧ N 467 109 = v109 ∧ N 467 110 = v110 ∧ N 467 111 = v111) → WP (d + 13) 122 0 0 38 [some (vR 467), some (vI (M 503 f)), x2'] [] (zS P N) Q := by
    intro N h1 h2 h3 h4 h5 h6
    obtain ⟨a0, a1, a2, a3, a4, a5, a8, a10, a12⟩ := h3
    obtain ⟨s1, s2, s3, s4, s5, s6⟩ := r1
    obtain ⟨t1, t2, t3, t4, t5⟩ := r2
    rw [← u0] at s2 s3 t4
    have beg : rBeg M N A T (M 503 f) := by
      refine ⟨⟨fun c j a b _ _ => congrFun (h1 c (by omega) (by omega)) j, fun c j a b _ _ => congrFun (h1 c (by omega) (by omega)) j, h2 11 (by decide)⟩, fun x x0 x1 xs => ?_, fun x x0 x1 xs => ?_, fun x k x0 x1 xs k0 k1 ku => ?_, ⟨?_, ?_, ?_, ?_, ?_, ?_, ?_, ?_⟩, ?_, ?_, ?_⟩
      · have a := (z.2 x x0 x1).2.2.1
        have b := (q9.2.2.1 x x0 (by rw [← z.1.1]; exact x1)).1
        rw [a2, ← U2, a]
        exact (hper (U 2 x) b.1 (by have := i6.2.2.1.2; omega)).2.2.2.symm
      · rw [a5, ← U5]
        exact ((z.2 x x0 x1).2.2.2.2.2.1 (tnode6 y2 x0 x1 xs).1).symm
      · have c := q3 k (by omega) (by have e8 : U 8 0 = v86 := (by rw [eU]; rfl); have := z.1.1; omega)
        rw [a10, c, ← tRel_tst hgB hd y2 q9 z (T 8 0).toNat k (by omega) (by omega) (by rw [← z.1.1]; exact k1), tst_up y2 k0 k1, ku, xs]
        rcases tkp_01 A T k with y | y
        · rw [y, if_pos rfl]
        · rw [y, if_neg (by decide)]
      · rw [h6.1]; omega
      · rw [h5.1]; exact s1.symm
      · rw [h5.2.1]; exact s2.symm
      · rw [h5.2.2.1]; exact s3.symm
      · rw [h5.2.2.2.1]; exact s4.symm
      · rw [h5.2.2.2.2.1]; exact s5.symm
      · rw [h5.2.2.2.2.2]; exact s6
      · rw [h6.2.1]; omega
      · rw [h6.2.2.1]; exact t3
      · rw [h6.2.2.2.1]; exact t4
      · rw [h6.2.2.2.2]; exact t5
    have fl : FrL M Mh := ⟨congrFun (hm 467 (by decide)) 11, fun c a b _ => hm c (by omega), ⟨hm 503 (by decide), hm 504 (by decide)⟩, fun c j a b _ => congrFun (hm c (by omega)) j⟩
    have fl2 : FrL Mh M := ⟨(congrFun (hm 467 (by decide)) 11).symm, fun c a b _ => (hm c (by omega)).symm, ⟨(hm 503 (by decide)).symm, (hm 504 (by decide)).symm⟩, fun c j a b _ => (congrFun (hm c (by omega)) j).symm⟩
    have fpH : FrP M Mh := ⟨congrFun (hm 467 (by decide)) 11, fun c hc => hm c (by unfold gCell at hc; simp at hc; omega)⟩
    obtain ⟨τ', r⟩ := hold.2.2 N G _ _ (rPrem_fr (p := 62) (M := Mh) (A := M) (by decide) (fun c a b => (hm c (by omega)).symm) (fun c a b => (hm c (by omega)).symm) fl2 (iprog_fr62 fpH hip) (ipx_fr62 fpH hx) (y10 N beg))
    rw [frL_tog fl hip hx, fl.1, hm 469 (by decide)] at r
    have ml : mix N τ' = mix M τ' := mix_low (fun c hc => h1 c (by omega) (by omega))
    have w := r.1 N P (d + 7) (M 503 f) Q (fun x2 => R_end_r (d := d + 7) (M 503 f) (by rw [r.2.1]; decide) (by
      rw [ml]
      exact hQ N τ' A T B U n9 gg y0 y1 y2 hgB q9 hd z y5 eB (by rw [a0, a1, a2, a3, a4, a5, a8, h4.1, h4.2]; exact eU) (by rw [a12]; exact q6) ⟨y7, y7b⟩ y8 (frQ_lays h1 h2 r.2.2.2.2.2.2.1) r h1 h2 yc)) x2'
    rw [mix_self] at w
    exact w
  refine key _ (fun c a b => ?_) (fun k hk => ?_) ⟨rfl, rfl, rfl, rfl, rfl, rfl, rfl, rfl, rfl⟩ ⟨rfl, rfl⟩ ⟨rfl, rfl, rfl, rfl, rfl, rfl⟩ ⟨rfl, rfl, rfl, rfl, rfl⟩
  · repeat (first | rw [zr_ne (by omega)] | rw [zu_ne (by omega)])
  · (repeat (rw [zup_f (by omega)])); (repeat (rw [zrow_n (by decide)]))
