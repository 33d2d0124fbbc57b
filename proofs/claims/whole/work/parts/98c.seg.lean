/-! The result: a part of a function, line by line -/
def hidP (q : Prop) : Prop := Unit → q
theorem hid {q : Prop} (h : q) : hidP q := fun _ => h
set_option maxRecDepth 100000 in
set_option maxHeartbeats 8000000 in
theorem rSeg_33 {d : Nat} {P : Nat → Nat → Nat} {Q : zQ} {M0 τ0 : Nat → Int → Int} {U nF m : Int} {TO cf mf fc dp r6 CA : Int → Int} {ND : Int → Prop} {lf : Int → List Int} (hb : 0 ≤ M0 467 11 ∧ M0 467 11 ≤ 1) (hn1 : M0 470 (M0 467 11) ≤ 60) (hcc : cCode M0 (60 * M0 467 11) (M0 470 (M0 467 11)) (M0 49) (M0 50) (M0 51) (M0 52) (M0 53) (M0 54) (M0 58) (M0 59)) (hd4 : ∀ l : Int, 0 ≤ l → l < M0 470 (M0 467 11) → 0 ≤ M0 55 l ∧ M0 55 l ≤ 4) (hpg : rProg M0 τ0) (h1 : ∀ i : Int, 0 ≤ i ∧ i < 320 → M0 (zcall i) 1 = cf i) (h3 : ∀ i : Int, 0 ≤ i ∧ i < 320 → M0 (zcall i) 3 = dp i) (h5 : ∀ i : Int, 0 ≤ i ∧ i < 320 → M0 (zcall i) 5 = fc i) (h6 : ∀ i : Int, 0 ≤ i ∧ i < 320 → M0 (zcall i) 6 = r6 i) (hfun : ∀ g : Int, 0 ≤ g → g < M0 469 (M0 467 11) → ∃ SN : Int → Int, rFun 33 M0 nF TO SN g) (htr : rTr 33 M0 τ0 TO cf mf fc dp r6 CA ND lf m) {N : Nat} (hN : rNode_33 d N M0 τ0 U nF m TO cf mf fc dp r6 CA ND lf) {x K base deep b0 C : Int} {Lb : List Int} {r0 SN : Int → Int} (hx : ND x) (hdN : 32 - dp x ≤ N + 1) (hK : K = dp x) (hdp : 0 ≤ deep ∧ deep ≤ 4 * K) (hfu : rFun 33 M0 nF TO SN (mf x)) (hC : C + (60 * M0 467 11 + M0 475 (8 * M0 467 11 + mf x) + M0 476 (8 * M0 467 11 + mf x)) + nsum (kgs r6 fc CA x) ((M0 478 (8 * M0 467 11 + mf x))).toNat ≤ 319) (hLb : (Lb.length : Int) + ((lf x).length : Int) ≤ 400) (hU : x = 0 → U = if (M0 479 (8 * M0 467 11 + mf x)) = 1 then C + (60 * M0 467 11 + M0 475 (8 * M0 467 11 + mf x) + M0 476 (8 * M0 467 11 + mf x)) + nsum (kgs r6 fc CA x) ((M0 478 (8 * M0 467 11 + mf x))).toNat else -1) :
    ∀ (n : Nat) (lv br a b' : Int), ySeg M0 (yok 33 M0 SN (mf x) (60 * M0 467 11 + M0 475 (8 * M0 467 11 + mf x) + M0 476 (8 * M0 467 11 + mf x))) n lv br a b' → ∀ (bq : Int) (M τ : Nat → Int → Int), (lv = 0 → bq = b0) → (¬ lv = 0 → bq = br) → 0 ≤ lv → (60 * M0 467 11 + M0 475 (8 * M0 467 11 + mf x)) ≤ a → b' ≤ (60 * M0 467 11 + M0 475 (8 * M0 467 11 + mf x) + M0 476 (8 * M0 467 11 + mf x)) → (¬ x = 0 → b' ≤ (60 * M0 467 11 + M0 475 (8 * M0 467 11 + mf x) + M0 476 (8 * M0 467 11 + mf x)) - (M0 479 (8 * M0 467 11 + mf x))) → (M0 477 (8 * M0 467 11 + mf x)) ≤ SN a → SN b' ≤ (M0 477 (8 * M0 467 11 + mf x)) + (M0 478 (8 * M0 467 11 + mf x)) → rInv M0 τ0 M τ K x a (60 * M0 467 11 + M0 475 (8 * M0 467 11 + mf x) + M0 476 (8 * M0 467 11 + mf x)) base deep lv → cP (M 449) (M 452) (M 455) (M 442 13) (deep + lv) bq → (0 < lv → τ 544 (deep + lv - 1) = b') → base + (M0 474 (8 * M0 467 11 + mf x)) ≤ M 441 1 → M 442 13 = C + a + nsum (kgs r6 fc CA x) (SN a - (M0 477 (8 * M0 467 11 + mf x))).toNat → rLeft τ r0 (Lb ++ tkids r6 lf (fun e => [e]) (fc x) (SN a - (M0 477 (8 * M0 467 11 + mf x))).toNat) →
      (∀ M' τ' : Nat → Int → Int, rPost U nF TO M0 τ0 M τ M' τ' K x b' (60 * M0 467 11 + M0 475 (8 * M0 467 11 + mf x) + M0 476 (8 * M0 467 11 + mf x)) base deep lv bq → M' 442 13 = C + b' + nsum (kgs r6 fc CA x) (SN b' - (M0 477 (8 * M0 467 11 + mf x))).toNat → rLeft τ' r0 (Lb ++ tkids r6 lf (fun e => [e]) (fc x) (SN b' - (M0 477 (8 * M0 467 11 + mf x))).toNat) → ∀ (x9 x10 x11 : Option zV), WP (d + 5) 256 0 0 37 [some (vR 441), some (vR 116), some (vR (zcall x)), some (vI base), some (vI deep), some (vI b0), some (vR 48), some (vI (cf x)), some (vI (b' - 60 * M0 467 11)), x9, x10, x11] [] (zS (zupN P 441 3 33) M') Q) → ∀ (x9 x10 x11 : Option zV), WP (d + 5) 256 0 0 37 [some (vR 441), some (vR 116), some (vR (zcall x)), some (vI base), some (vI deep), some (vI b0), some (vR 48), some (vI (cf x)), some (vI (a - 60 * M0 467 11)), x9, x10, x11] [] (zS (zupN P 441 3 33) M) Q := by
  intro n
  induction n with
  | zero =>
    intro lv br a b' h bq M τ _ _ _ _ _ _ _ _ i0 cp _ _ cnt lft kt x9 x10 x11
    have e : a = b' := h
    subst e
    exact kt M τ (rPost_refl i0 cp) cnt lft x9 x10 x11
  | succ n ih =>
    intro lv br a b' h bq M τ hq0 hq1 lv0 aF bE bG sa sb i0 cp oe bv cnt lft kt x9 x10 x11
    rcases h with h | ⟨q1, q2, s3, s4, s5⟩
    · subst h
      exact kt M τ (rPost_refl i0 cp) cnt lft x9 x10 x11
    have sn1 := yok_SN q2
    have sn3 := ySeg_SN n _ _ _ _ s3
    have sn4 := ySeg_SN n _ _ _ _ s4
    have sn5 := ySeg_SN n _ _ _ _ s5
    have l3 := ySegE_le ⟨n, s3⟩
    have l4 := ySegE_le ⟨n, s4⟩
    have l5 := ySegE_le ⟨n, s5⟩
    obtain ⟨⟨y1, y2, y3⟩, ⟨y4, y5, y6, y7⟩, y8, y9, y10, y11⟩ := id q2
    obtain ⟨⟨f1, f2, f3, f4⟩, fl, ⟨fs1, fs2, fs3⟩, fgv⟩ := id hfu
    obtain ⟨⟨g1, g2⟩, ⟨g3, g3b⟩, g4, g5, g6, g7⟩ := fl a aF (by omega)
    obtain ⟨⟨t1, t2, t3⟩, ⟨u1, u2, u3, u4, u5, u6, u7, u8⟩, ⟨v1, v2, v3⟩, ⟨w1, w2⟩, ⟨z1, z2⟩, ⟨ca1, ca2⟩, lfx, kids⟩ := htr x hx
    obtain ⟨j1, j2, j3, j4, j5, j6, j7⟩ := id i0
    have fr := j1.1
    have cc := hcc (a - 60 * M0 467 11) (by omega) (by omega)
    rw [show a - 60 * M0 467 11 + 60 * M0 467 11 = a by omega] at cc
    obtain ⟨c1, c2, c3, c4, c5, c6, _, _, c9⟩ := cc
    have d4 := hd4 (a - 60 * M0 467 11) (by omega) (by omega)
    have y1 : M0 55 (a - 60 * M0 467 11) = lv := y1
    have y3 : 0 < lv → M0 56 (a - 60 * M0 467 11) = br := y3
    have y4 : M0 57 (a - 60 * M0 467 11) = M0 491 a := y4
    have u3 : M0 36 (cf x) = M0 473 (8 * M0 467 11 + mf x) := u3
    have u4 : M0 37 (cf x) = M0 474 (8 * M0 467 11 + mf x) := u4
    have u5 : M0 38 (cf x) = M0 475 (8 * M0 467 11 + mf x) := u5
    have u6 : M0 39 (cf x) = M0 476 (8 * M0 467 11 + mf x) := u6
    have u7 : M0 40 (cf x) = M0 477 (8 * M0 467 11 + mf x) := u7
    rw [y1] at d4
    have tr : ∀ c : Nat, 480 ≤ c → c ≤ 491 → τ c a = M0 c a := fun c a1 a2 => (j2.2.2.1 c a a1 a2 (by omega)).trans (hpg.2.1 c a a1 a2 (by omega) (by omega))
    have tq : ∀ (c : Nat) (g : Int), 473 ≤ c → c ≤ 479 → 0 ≤ g → g < 8 → τ c (8 * M0 467 11 + g) = M0 c (8 * M0 467 11 + g) := fun c g a1 a2 g0 g8 => (congrFun (j2.1 c (by unfold vCell; simp; omega)) _).trans (hpg.1 c _ a1 a2 (by omega) (by omega))
    have tb : τ 467 11 = M0 467 11 := (j2.2.1 11 (by decide)).trans hpg.2.2
    have t523 : τ 523 x = mf x := by rw [j2.1 523 rfl]; exact z1
    have mfx : 0 ≤ mf x ∧ mf x < 8 := by have := (htr x hx).2.1.2.1; omega
    have t526 : τ 526 x = fc x := by rw [j2.1 526 rfl]; exact z2
    have e480 := tr 480 (by decide) (by decide)
    have e481 := tr 481 (by decide) (by decide)
    have e482 := tr 482 (by decide) (by decide)
    have e483 := tr 483 (by decide) (by decide)
    have e484 := tr 484 (by decide) (by decide)
    have e485 := tr 485 (by decide) (by decide)
    have e486 := tr 486 (by decide) (by decide)
    have e487 := (tr 487 (by decide) (by decide)).trans y2
    have e488 := tr 488 (by decide) (by decide)
    have e491 := tr 491 (by decide) (by decide)
    have hr3 : ∀ i : Int, 0 ≤ i ∧ i < 320 → M (zcall i) 3 = dp i := fun i hi => by rw [fr _ (by have := zcall_in hi; omega)]; exact h3 i hi
    have hr5 : ∀ i : Int, 0 ≤ i ∧ i < 320 → M (zcall i) 5 = fc i := fun i hi => by rw [fr _ (by have := zcall_in hi; omega)]; exact h5 i hi
    have hr6 : ∀ i : Int, 0 ≤ i ∧ i < 320 → M (zcall i) 6 = r6 i := fun i hi => by rw [fr _ (by have := zcall_in hi; omega)]; exact h6 i hi
    have hr1 : ∀ i : Int, 0 ≤ i ∧ i < 320 → M (zcall i) 1 = cf i := fun i hi => by rw [fr _ (by have := zcall_in hi; omega)]; exact h1 i hi
    have eB : (if lv = 0 then b0 else M 56 (a - 60 * M0 467 11)) = bq := by
      by_cases z : lv = 0
      · rw [if_pos z]; exact (hq0 z).symm
      · rw [if_neg z, fr 56 (by decide), y3 (by omega)]; exact (hq1 z).symm
    have ek : a - 60 * M0 467 11 + 1 = a + 1 - 60 * M0 467 11 := by omega
    have nn := j5.1
    have gsm : ∀ i j : Int, 0 ≤ i → i ≤ j → j ≤ (M0 478 (8 * M0 467 11 + mf x)) → nsum (kgs r6 fc CA x) i.toNat ≤ nsum (kgs r6 fc CA x) j.toNat := fun i j i0 ij jn => by
      have z := nsum_le (f := kgs r6 fc CA x) (j.toNat - i.toNat) i.toNat (fun q q0 q1 => by
        unfold kgs
        split
        · exact Int.le_refl _
        · next zz =>
          rcases (kids q q0 (by omega)).2 with y | y
          · exact absurd y zz
          · exact (htr _ y.2.1).2.2.2.2.2.1.1)
      rw [show i.toNat + (j.toNat - i.toNat) = j.toNat by omega] at z
      exact z
    have nbd : M 442 13 < 320 := by
      have z := gsm (SN a - (M0 477 (8 * M0 467 11 + mf x))) (M0 478 (8 * M0 467 11 + mf x)) (by omega) (by omega) (Int.le_refl _)
      omega
    have nb : lv = 0 ∨ ¬ a = τ 544 (deep + lv - 1) := by
      by_cases z : lv = 0
      · exact Or.inl z
      · right; rw [oe (by omega)]; omega
    have dsm : 0 ≤ deep ∧ 0 ≤ lv ∧ deep + lv ≤ 300 := by omega
    have opb : (-2 ≤ τ 481 a ∧ τ 481 a ≤ 1000) ∧ (-100 ≤ τ 482 a ∧ τ 482 a ≤ 1000) ∧ (-100 ≤ τ 483 a ∧ τ 483 a ≤ 1000) ∧ -100 ≤ τ 484 a ∧ τ 484 a ≤ 1000 := by rw [e481, e482, e483, e484]; omega
    have llb : 120 ≤ τ 467 109 ∧ τ 467 109 < 520 := by rw [j3.1]; omega
    have xvl : xv (M 441 1) (τ 467 11) (τ 473) (τ 474) (τ 475) (τ 476) (M0 480 a) (tgx (M0 481 a) base) (shf (M0 482 a) base) (shf (M0 483 a) base) (shf (M0 484 a) base) (M0 485 a) (M0 486 a) := by
      rw [tb]
      exact xv_cg (fun g g0 g8 => ⟨tq 473 g (by decide) (by decide) g0 g8, tq 474 g (by decide) (by decide) g0 g8, tq 475 g (by decide) (by decide) g0 g8, tq 476 g (by decide) (by decide) g0 g8⟩) (xv_shf g3 j6 bv (by omega))
    have hfl : -20 - M 441 1 ≤ shf (M0 482 a) base ∧ shf (M0 482 a) base ≤ 1000 := shf_b y11.2.2.1 j6 (by omega)
    have x9l : M0 480 a = 9 → x = 0 := fun z => by
      by_cases zz : x = 0
      · exact zz
      · have := (y8 z).2.1; have := bG zz; have := (y8 z).2.2; omega
    have h9l : (M0 480 a = 9 ↔ (K = 0 ∧ M 442 13 + 1 = U)) ∧ (M0 480 a = 9 → deep + lv ≤ 0) := by
      refine ⟨⟨fun z => ?_, ?_⟩, fun z => ?_⟩
      · have x0 := x9l z
        have yz := y8 z
        have sn := (y10 (by omega)).2.2
        rw [hU x0, if_pos yz.2.2, cnt]
        refine ⟨by rw [hK]; exact v3.mp x0, ?_⟩
        rw [show SN a - (M0 477 (8 * M0 467 11 + mf x)) = (M0 478 (8 * M0 467 11 + mf x)) by have e := yz.2.1; rw [e, fs2] at sn; omega]
        have e := yz.2.1
        omega
      · rintro ⟨z1, z2⟩
        have x0 : x = 0 := v3.mpr (by omega)
        have hu := hU x0
        rcases f3 with g0 | g1
        · rw [if_neg (by omega)] at hu; omega
        · rw [if_pos g1] at hu
          have z := gsm (SN a - (M0 477 (8 * M0 467 11 + mf x))) (M0 478 (8 * M0 467 11 + mf x)) (by omega) (by omega) (Int.le_refl _)
          have w := fgv g1
          rw [show a = (60 * M0 467 11 + M0 475 (8 * M0 467 11 + mf x) + M0 476 (8 * M0 467 11 + mf x)) - 1 by omega]
          exact w.2.1
      · have k0 := v3.mp (x9l z)
        have l0 := (y8 z).1
        omega
    have okl : (M0 480 a = 6 → M0 485 a < nF ∧ TO (M0 486 a) = M0 485 a) ∧ (¬ M0 480 a = 6 → M0 485 a = -2 ∧ M0 486 a = -2) ∧ (7 ≤ M0 480 a → tgx (M0 481 a) base = -2) ∧ (M0 480 a = 0 → shf (M0 483 a) base = -2) := by
      refine ⟨g3b, fun z => ⟨(y10 z).1, (y10 z).2.1⟩, fun z => ?_, fun z => ?_⟩
      · rw [y11.2.1 z]; rfl
      · rw [c9 z]; rfl
    have y11b := y11.2.1
    have y11r := And.intro y11.1 y11.2.2
    clear y11
    replace y3 := hid y3
    replace y5 := hid y5
    replace y6 := hid y6
    replace y7 := hid y7
    replace y8 := hid y8
    replace y9 := hid y9
    replace y10 := hid y10
    replace hq0 := hid hq0
    replace hq1 := hid hq1
    replace bG := hid bG
    replace oe := hid oe
    replace okl := hid okl
    replace g6 := hid g6
    replace g7 := hid g7
    replace nb := hid nb
    replace f3 := hid f3
    replace fgv := hid fgv
    replace v3 := hid v3
    replace c9 := hid c9
    replace g3b := hid g3b
    replace ca2 := hid ca2
    replace hU := hid hU
    replace h9l := hid h9l
    replace x9l := hid x9l
    have eH : ∀ c : Nat, ¬ (441 ≤ c ∧ c ≤ 455) → M c = M0 c := fr
    have m1 := congrFun (fr 49 (by decide)) (a - 60 * M0 467 11)
    have m2 := congrFun (fr 50 (by decide)) (a - 60 * M0 467 11)
    have m3 := congrFun (fr 51 (by decide)) (a - 60 * M0 467 11)
    have m4 := congrFun (fr 52 (by decide)) (a - 60 * M0 467 11)
    have m5 := congrFun (fr 53 (by decide)) (a - 60 * M0 467 11)
    have m6 := congrFun (fr 54 (by decide)) (a - 60 * M0 467 11)
    have m7 := congrFun (fr 55 (by decide)) (a - 60 * M0 467 11)
    have m9 := congrFun (fr 57 (by decide)) (a - 60 * M0 467 11)
    rw [c1] at m1
    rw [c2] at m2
    rw [c3] at m3
    rw [c4] at m4
    rw [c5] at m5
    rw [c6] at m6
    rw [y1] at m7
    rw [y4] at m9
    have n5 := congrFun (fr 38 (by decide)) (cf x)
    have n6 := congrFun (fr 39 (by decide)) (cf x)
    have n7 := congrFun (fr 40 (by decide)) (cf x)
    rw [u5] at n5
    rw [u6] at n6
    rw [u7] at n7
    have pl6 : M0 480 a = 6 → 0 ≤ SN a - (M0 477 (8 * M0 467 11 + mf x)) ∧ SN a - (M0 477 (8 * M0 467 11 + mf x)) < (M0 478 (8 * M0 467 11 + mf x)) ∧ fc x + M0 486 a - (M0 477 (8 * M0 467 11 + mf x)) = fc x + (SN a - (M0 477 (8 * M0 467 11 + mf x))) := fun z => by have y := (y9 ()) z; omega
    replace pl6 := hid pl6
    have H := @C_ln_33 d P M Q x base deep b0 (cf x) (a - 60 * M0 467 11) dp hr3 fc hr5 r6 hr6 x9 x10 x11
    rw [m1, m2, m3, m4, m5, m6, m7, m9, n5, n6, n7, eB, ek] at H
    have LN : ∀ kt2 : (∀ (M' : Nat → Int → Int), cPut M M' (M0 480 a) (tgx (M0 481 a) base) (shf (M0 482 a) base) (shf (M0 483 a) base) (shf (M0 484 a) base) (M0 486 a) (deep + lv) bq (M0 491 a) → ∀ (x9 x10 x11 : Option zV), WP (d + 5) 256 0 0 37 [some (vR 441), some (vR 116), some (vR (zcall x)), some (vI base), some (vI deep), some (vI b0), some (vR 48), some (vI (cf x)), some (vI (a + 1 - 60 * M0 467 11)), x9, x10, x11] [] (zS (zupN P 441 3 33) M') Q), ¬ (M0 480 a = 6 ∧ ¬ r6 (fc x + (SN a - (M0 477 (8 * M0 467 11 + mf x)))) = 0) → WP (d + 5) 256 0 0 37 [some (vR 441), some (vR 116), some (vR (zcall x)), some (vI base), some (vI deep), some (vI b0), some (vR 48), some (vI (cf x)), some (vI (a - 60 * M0 467 11)), x9, x10, x11] [] (zS (zupN P 441 3 33) M) Q := fun kt2 nk =>
      H (by omega) u1 (by omega) (by omega) (by omega) ⟨⟨w1, by omega⟩, by by_cases z : M0 480 a = 6; (have y := (y9 ()) z; omega); (have y := (y10 ()) z; omega), by omega⟩ (by omega) (by omega) (by omega) (by omega) (by omega) (by omega) (by omega)
        (fun z => by
          have y := (pl6 ()) z
          rw [y.2.2]
          refine ⟨by omega, ?_⟩
          by_cases zz : r6 (fc x + (SN a - (M0 477 (8 * M0 467 11 + mf x)))) = 0
          · exact zz
          · exact absurd ⟨z, zz⟩ nk)
        (fun z => by
          have y := (y8 ()) z
          by_cases zz : x = 0
          · exact (v3 ()).mp zz
          · have := (bG ()) zz; omega) nn nbd j5 cp kt2
    by_cases k6 : M0 480 a = 6 ∧ ¬ r6 (fc x + (SN a - (M0 477 (8 * M0 467 11 + mf x)))) = 0
    · obtain ⟨c6', kk⟩ := k6
      obtain ⟨z8, z9⟩ : M0 488 a = 0 ∧ M0 489 a = 0 := by
        rcases (g6 ()) with z | z
        · omega
        · exact z
      rw [z8, z9, show a + 1 + (0 : Int) + 0 = a + 1 by omega] at s5
      have sn' := ((y9 ()) c6').2
      exact rOpen_33 hb hn1 hcc hd4 hpg h1 h3 h5 h6 hfun htr hN hx hdN hK hdp hfu hC hLb (hU ()) q2 (hq0 ()) (hq1 ()) lv0 aF (by omega) sa (by have := ySeg_SN n _ _ _ _ s5; omega) i0 cp (nb ()) bv cnt lft c6' kk (fun M' τ' po cn lf' x9 x10 x11 => ih lv br (a + 1) b' s5 bq M' τ' (hq0 ()) (hq1 ()) lv0 (by omega) bE (bG ()) (by omega) sb po.1 po.2.2.1 (fun z => by rw [po.2.2.2.1.2.2.2.2.2 544 _ (Or.inr (Or.inr (Or.inl rfl))) (by omega)]; exact (oe ()) z) (by have := po.2.2.2.2.2.2.2.1.2.1; omega) cn lf' (fun M2 τ2 q1' q2' q3' => kt M2 τ2 (rPost_trans po q1') q2' q3') x9 x10 x11) x9 x10 x11
    · replace k6 := hid k6
      by_cases k7 : M0 480 a = 7 ∨ M0 480 a = 8
      · -- blocks
        have n6' : ¬ M0 480 a = 6 := by rcases k7 with z | z <;> omega
        replace k7 := hid k7
        refine LN (fun M1 hp x9 x10 x11 => ?_) (k6 ())
        have sn := ((y10 ()) n6').2.2
        obtain ⟨hpA, ⟨hpB, hpC, hpD⟩, ⟨_, _, _, _, _, _, hp7, hp8, _⟩, hp5, hp6⟩ := id hp
        obtain ⟨τ1, to1, put1, top1, pr1, p1, le1, le2, o2, o3, o4, o6⟩ : ∃ τ' : Nat → Int → Int, rTo τ τ' ∧ (rPut τ τ' (τ 480 a) (tgx (τ 481 a) base) (shf (τ 482 a) base) (shf (τ 483 a) base) (shf (τ 484 a) base) (τ 485 a) (τ 486 a) (deep + τ 487 a) (τ 491 a) (-1)) ∧ rTop τ' K x (a + 1) (60 * M0 467 11 + M0 475 (8 * M0 467 11 + mf x) + M0 476 (8 * M0 467 11 + mf x)) base deep (lv + 1) ∧ rPr τ τ' K (deep + lv) (τ 467 109) ∧ τ' 467 110 = τ 467 110 ∧ τ' 545 = τ 545 ∧ τ' 467 111 = τ 467 111 ∧ τ' 542 = zs (τ 542) (deep + lv) (τ 467 109) ∧ τ' 543 = zs (τ 543) (deep + lv) a ∧ τ' 544 = zs (τ 544) (deep + lv) (a + τ 488 a + 1) ∧ τ' 546 = zs (τ 546) (deep + lv) 0 := by
          rcases (k7 ()) with z | z
          · exact r_b7 j4 (by omega) (by omega) dsm (nb ()) (by omega) (by omega) (by omega) (by rw [e487]; omega) opb (by rw [e491]; exact (y5 ())) llb (by rw [e480]; exact z) (by rw [e488]; omega)
          · exact r_b8 j4 (by omega) (by omega) dsm (nb ()) (by omega) (by omega) (by omega) (by rw [e487]; omega) opb (by rw [e491]; exact (y5 ())) llb (by rw [e480]; exact z) (by rw [e488]; omega)
        rw [e480, e481, e482, e483, e484, e485, e486, e487, e491] at put1
        rw [e488] at o4
        have rl := j3.1
        have pr1' : rPr τ τ1 K (deep + lv) (120 + M 442 13) := by rw [← rl]; exact pr1
        have ey : (∀ c : Nat, vCell c = false → τ1 c = τ c) ∧ τ1 467 11 = τ 467 11 := ⟨pr1.1, pr1.2.1 11 (by decide)⟩
        have rel1 := rRel_put j3 hp put1 p1 (y5 ())
        have i1 : rInv M0 τ0 M1 τ1 K x (a + 1) (60 * M0 467 11 + M0 475 (8 * M0 467 11 + mf x) + M0 476 (8 * M0 467 11 + mf x)) base deep (lv + 1) := ⟨cPr_trans j1 (cPut_pr hp) nn, rPr_trans j2 pr1' (by omega) (by omega) (by omega), rel1, top1, hp6, j6, by rw [hpB, hpD]; omega⟩
        have ed1 : M1 449 (M 442 13) = deep + lv := by rw [hp7]; exact zs_pos rfl
        have el1 : M1 455 (deep + lv) = M 442 13 := by rw [hp5]; exact zs_pos rfl
        have cp1 : cP (M1 449) (M1 452) (M1 455) (M1 442 13) (deep + (lv + 1)) 0 := by
          have b6' := hp6
          rw [hpD] at b6' ⊢
          rw [show deep + (lv + 1) = deep + lv + 1 by omega]
          exact cP_sub b6' ed1 el1 nn cp.1.1
        refine ih (lv + 1) 0 (a + 1) (a + 1 + M0 488 a) s3 0 M1 τ1 (fun z => by omega) (fun _ => rfl) (by omega) (by omega) (by omega) (fun z => by have := (bG ()) z; omega) (by omega) (by omega) i1 cp1 (fun _ => ?_) (by rw [hpB]; exact bv) ?_ ?_ (fun M2 τ2 po2 cn2 lf2 x9 x10 x11 => ?_) x9 x10 x11
        · rw [o4, show deep + (lv + 1) - 1 = deep + lv by omega]; exact (zs_pos rfl).trans (by omega)
        · rw [hpD, cnt, sn]; omega
        · rw [sn]; exact rLeft_same lft le1 le2
        -- the first block is over
        obtain ⟨i2, to2, cp2, pr2, cr2, la2, ys2, ⟨v2a, v2b, v2c⟩, w2⟩ := id po2
        obtain ⟨i2a, i2b, i2c, i2d, i2e, i2f, i2g⟩ := id i2
        have ee2 : deep + (lv + 1) - 1 = deep + lv := by omega
        have ee3 : deep + (lv + 1) = deep + lv + 1 := by omega
        rw [hpD] at pr2 cr2 ys2 v2a v2c w2
        have R2 : ∀ c : Nat, 480 ≤ c → c ≤ 491 → τ2 c (120 + M 442 13) = τ1 c (120 + M 442 13) := fun c z1 z2 => pr2.2.2.1 c _ z1 z2 (by omega)
        have pr2w : rPr τ1 τ2 K (deep + lv) (120 + M 442 13) := ⟨pr2.1, pr2.2.1, fun c j a1 a2 a3 => pr2.2.2.1 c j a1 a2 (by omega), pr2.2.2.2.1, pr2.2.2.2.2.1, fun c j a1 a2 => pr2.2.2.2.2.2 c j a1 (by omega)⟩
        have q2' : τ2 542 (deep + lv) = 120 + M 442 13 := by rw [pr2.2.2.2.2.2 542 _ (Or.inl rfl) (by omega), o2, rl]; exact zs_pos rfl
        have q3' : τ2 543 (deep + lv) = a := by rw [pr2.2.2.2.2.2 543 _ (Or.inr (Or.inl rfl)) (by omega), o3]; exact zs_pos rfl
        have q4' : τ2 544 (deep + lv) = a + 1 + M0 488 a := by rw [pr2.2.2.2.2.2 544 _ (Or.inr (Or.inr (Or.inl rfl))) (by omega), o4]; exact (zs_pos rfl).trans (by omega)
        have q6' : τ2 546 (deep + lv) = 0 := by rw [pr2.2.2.2.2.2 546 _ (Or.inr (Or.inr (Or.inr rfl))) (by omega), o6]; exact zs_pos rfl
        have w491 : τ2 491 (120 + M 442 13) = M0 491 a := by rw [R2 491 (by decide) (by decide), put1.2.2.2.2.2.2.2.2.2.2.2.2, rl]; exact zs_pos rfl
        have w488 : τ2 488 (120 + M 442 13) = 0 := by rw [R2 488 (by decide) (by decide), put1.2.2.2.2.2.2.2.2.2.1, rl]; exact zs_pos rfl
        have w489 : τ2 489 (120 + M 442 13) = 0 := by rw [R2 489 (by decide) (by decide), put1.2.2.2.2.2.2.2.2.2.2.1, rl]; exact zs_pos rfl
        have nb2 : M2 442 13 < 390 := by
          have z := gsm (SN (a + 1 + M0 488 a) - (M0 477 (8 * M0 467 11 + mf x))) (M0 478 (8 * M0 467 11 + mf x)) (by omega) (by omega) (Int.le_refl _)
          omega
        have m109 : τ2 467 109 = 120 + M2 442 13 := i2c.1
        have ex2 : (∀ c : Nat, vCell c = false → τ2 c = τ1 c) ∧ τ2 467 11 = τ1 467 11 := ⟨pr2.1, pr2.2.1 11 (by decide)⟩
        have oeb : 0 < lv → τ2 544 (deep + lv - 1) = b' := fun z => by
          rw [pr2.2.2.2.2.2 544 _ (Or.inr (Or.inr (Or.inl rfl))) (by omega), o4, zs_neg (by omega)]; exact (oe ()) z
        have bs1 : 0 ≤ K ∧ K ≤ 50 := by omega
        have d01 : 0 ≤ deep ∧ 0 ≤ lv + 1 ∧ deep + (lv + 1) ≤ 300 := by omega
        by_cases he : M0 491 a = 0
        · -- without a second one
          have z9 := (y7 ()) he
          obtain ⟨τ3, to3, top3, pr3, ⟨m1', m2'⟩, rows3, ⟨l1', l2'⟩, r485, r488, r489, op3⟩ := r_b1 i2d bs1.1 bs1.2 d01 (by omega) (by rw [ee2, q4']) (by rw [ee2, q2']; omega) (by omega) (by rw [ee2, q2', w488]; omega) (by rw [ee2]; exact q6') (by rw [ee2, q2', w491]; exact he)
          rw [ee2, q2'] at pr3 r488
          have tp : rTop τ3 K x (a + 1 + M0 488 a + M0 489 a) (60 * M0 467 11 + M0 475 (8 * M0 467 11 + mf x) + M0 476 (8 * M0 467 11 + mf x)) base deep lv := by
            rw [z9, show a + 1 + M0 488 a + 0 = a + 1 + M0 488 a by omega]
            rw [show lv + 1 - 1 = lv by omega] at top3
            exact top3
          have i3 : rInv M0 τ0 M2 τ3 K x (a + 1 + M0 488 a + M0 489 a) (60 * M0 467 11 + M0 475 (8 * M0 467 11 + mf x) + M0 476 (8 * M0 467 11 + mf x)) base deep lv := ⟨i2a, rPr_trans i2b pr3 (by omega) (by omega) (by omega), rRel_more i2c m1' m2' rows3, tp, i2e, i2f, by omega⟩
          have u8 : ∀ j : Int, ¬ j = 120 + M 442 13 → τ3 488 j = τ2 488 j ∧ τ3 489 j = τ2 489 j := fun j hj => ⟨by rw [r488]; exact zs_neg hj, by rw [r489]⟩
          have ex3 : (∀ c : Nat, vCell c = false → τ3 c = τ2 c) ∧ τ3 467 11 = τ2 467 11 := ⟨pr3.1, pr3.2.1 11 (by decide)⟩
          have e8' : τ3 488 (120 + M 442 13) = M2 442 13 - M 442 13 - 1 := by rw [r488, zs_pos rfl, m109]; omega
          have e9' : τ3 489 (120 + M 442 13) = 0 := by rw [r489]; exact w489
          have ys3 := ySegE_upd ys2 (r := 120 + M 442 13) (by omega) ⟨rows3.1, rows3.2.1, rows3.2.2.1, rows3.2.2.2.1, rows3.2.2.2.2.1, r485, rows3.2.2.2.2.2.1⟩ ex3 u8
          have er : ∀ c : Nat, 480 ≤ c → c ≤ 487 → τ3 c (120 + M 442 13) = τ1 c (120 + M 442 13) := fun c z1 z2 => by
            rw [← R2 c z1 (by omega)]
            obtain ⟨k0, k1, k2, k3, k4, k5, k6', _⟩ := rows3
            have cz : c = 480 ∨ c = 481 ∨ c = 482 ∨ c = 483 ∨ c = 484 ∨ c = 485 ∨ c = 486 ∨ c = 487 := by omega
            rcases cz with e | e | e | e | e | e | e | e <;> subst e
            · rw [k0]
            · rw [k1]
            · rw [k2]
            · rw [k3]
            · rw [k4]
            · rw [r485]
            · rw [k5]
            · rw [k6']
          have po := rPost_block (M1 := M1) (τ1 := τ1) (M2 := M2) (τ3 := τ3) (tn := M2 442 13 - M 442 13 - 1) (el := 0) (b2 := 0) i0 cp hp put1 cr2 (by rw [← ee3]; exact la2) i3 (by rw [← ee3]; exact cp2) (rTo_trans to1 (rTo_trans to2 to3)) (rPr_trans pr1' (rPr_trans pr2w pr3 (Int.le_refl _) (Int.le_refl _) (Int.le_refl _)) (Int.le_refl _) (Int.le_refl _) (Int.le_refl _))
            ⟨fun c q => (ex3.1 c q).trans (ex2.1 c q), ex3.2.trans ex2.2⟩ ey er e8' e9' (by omega) (Int.le_refl _) (by omega) nb2 (k7 ()) (fun _ => rfl) (by rw [show 120 + M 442 13 + 1 + (M2 442 13 - M 442 13 - 1) = 120 + M2 442 13 by omega, show 120 + M 442 13 + 1 = 120 + (M 442 13 + 1) by omega, ← ee3]; exact ys3) (by rw [show 120 + M 442 13 + 1 + (M2 442 13 - M 442 13 - 1) + 0 = 120 + M 442 13 + 1 + (M2 442 13 - M 442 13 - 1) by omega]; exact ySegE_nil) ⟨v2b, by omega⟩ xvl (okl ()) (by omega) w2 hfl (h9l ()) (by omega)
          rw [show a + 1 + M0 488 a - 60 * M0 467 11 = a + 1 + M0 488 a + M0 489 a - 60 * M0 467 11 by omega]
          refine ih lv br (a + 1 + M0 488 a + M0 489 a) b' s5 bq M2 τ3 (hq0 ()) (hq1 ()) lv0 (by omega) bE (bG ()) (by omega) sb po.1 po.2.2.1 (fun z => by rw [op3.2.2.1]; exact oeb z) (by rw [hpB] at v2b; omega) ?_ ?_ (fun M5 τ5 q1' q2' q3' => kt M5 τ5 (rPost_trans po q1') q2' q3') x9 x10 x11
          · rw [cn2, z9, show a + 1 + M0 488 a + 0 = a + 1 + M0 488 a by omega]
          · rw [z9, show a + 1 + M0 488 a + 0 = a + 1 + M0 488 a by omega]
            exact rLeft_same lf2 l1' l2'
        · -- with a second one
          have he1 : M0 491 a = 1 := (y5 ()).resolve_left he
          have k77 := (y6 ()) he1
          have w489a : τ2 489 a = M0 489 a := (i2b.2.2.1 489 a (by decide) (by decide) (by omega)).trans (hpg.2.1 489 a (by decide) (by decide) (by omega) (by omega))
          obtain ⟨τ3, to3, top3, pr3, ⟨m1', m2'⟩, rows3, ⟨l1', l2'⟩, r485, r488, r489, s542, s543, s544, s546⟩ := r_b1e i2d bs1.1 bs1.2 d01 (by omega) (by rw [ee2, q4']) (by rw [ee2, q2']; omega) (by omega) (by rw [ee2, q2', w488]; omega) (by rw [ee2]; exact q6') (by rw [ee2, q2', w491]; omega) (by rw [ee2, q3']; omega) (by rw [ee2, q3', q4', w489a]; omega)
          rw [ee2, q2'] at pr3 r488
          rw [ee2, q3', q4', w489a] at s544
          rw [ee2] at s546
          have i3 : rInv M0 τ0 M2 τ3 K x (a + 1 + M0 488 a) (60 * M0 467 11 + M0 475 (8 * M0 467 11 + mf x) + M0 476 (8 * M0 467 11 + mf x)) base deep (lv + 1) := ⟨i2a, rPr_trans i2b pr3 (by omega) (by omega) (by omega), rRel_more i2c m1' m2' rows3, top3, i2e, i2f, i2g⟩
          refine ih (lv + 1) 1 (a + 1 + M0 488 a) (a + 1 + M0 488 a + M0 489 a) s4 1 M2 τ3 (fun z => by omega) (fun _ => rfl) (by omega) (by omega) (by omega) (fun z => by have := (bG ()) z; omega) (by omega) (by omega) i3 (cP_else cp2) (fun _ => ?_) (by rw [hpB] at v2b; omega) cn2 (rLeft_same lf2 l1' l2') (fun M4 τ4 po4 cn4 lf4 x9 x10 x11 => ?_) x9 x10 x11
          · rw [s544, ee2]; exact zs_pos rfl
          obtain ⟨i4, to4, cp4, pr4, cr4, la4, ys4, ⟨v4a, v4b, v4c⟩, w4⟩ := id po4
          obtain ⟨i4a, i4b, i4c, i4d, i4e, i4f, i4g⟩ := id i4
          have R4 : ∀ c : Nat, 480 ≤ c → c ≤ 491 → τ4 c (120 + M 442 13) = τ3 c (120 + M 442 13) := fun c z1 z2 => pr4.2.2.1 c _ z1 z2 (by omega)
          have g2' : τ4 542 (deep + lv) = 120 + M 442 13 := by rw [pr4.2.2.2.2.2 542 _ (Or.inl rfl) (by omega), s542]; exact q2'
          have g4' : τ4 544 (deep + lv) = a + 1 + M0 488 a + M0 489 a := by rw [pr4.2.2.2.2.2 544 _ (Or.inr (Or.inr (Or.inl rfl))) (by omega), s544]; exact zs_pos rfl
          have g6' : ¬ τ4 546 (deep + lv) = 0 := by rw [pr4.2.2.2.2.2 546 _ (Or.inr (Or.inr (Or.inr rfl))) (by omega), s546, zs_pos rfl]; decide
          have f8 : τ4 488 (120 + M 442 13) = M2 442 13 - M 442 13 - 1 := by rw [R4 488 (by decide) (by decide), r488, zs_pos rfl, m109]; omega
          have nb4 : M4 442 13 < 390 := by
            have z := gsm (SN (a + 1 + M0 488 a + M0 489 a) - (M0 477 (8 * M0 467 11 + mf x))) (M0 478 (8 * M0 467 11 + mf x)) (by omega) (by omega) (Int.le_refl _)
            omega
          have m109' : τ4 467 109 = 120 + M4 442 13 := i4c.1
          obtain ⟨τ5, to5, top5, pr5, ⟨m1'', m2''⟩, rows5, ⟨l1'', l2''⟩, t485, t489, t488, op5⟩ := r_b2 i4d bs1.1 bs1.2 d01 (by omega) (by rw [ee2, g4']) (by rw [ee2, g2']; omega) (by omega) (by rw [ee2, g2', f8]; omega) (by rw [ee2]; exact g6')
          rw [ee2, g2'] at pr5 t489
          rw [show lv + 1 - 1 = lv by omega] at top5
          have i5 : rInv M0 τ0 M4 τ5 K x (a + 1 + M0 488 a + M0 489 a) (60 * M0 467 11 + M0 475 (8 * M0 467 11 + mf x) + M0 476 (8 * M0 467 11 + mf x)) base deep lv := ⟨i4a, rPr_trans i4b pr5 (by omega) (by omega) (by omega), rRel_more i4c m1'' m2'' rows5, top5, i4e, i4f, by omega⟩
          have ex3 : (∀ c : Nat, vCell c = false → τ3 c = τ2 c) ∧ τ3 467 11 = τ2 467 11 := ⟨pr3.1, pr3.2.1 11 (by decide)⟩
          have ex4 : (∀ c : Nat, vCell c = false → τ4 c = τ3 c) ∧ τ4 467 11 = τ3 467 11 := ⟨pr4.1, pr4.2.1 11 (by decide)⟩
          have ex5 : (∀ c : Nat, vCell c = false → τ5 c = τ4 c) ∧ τ5 467 11 = τ4 467 11 := ⟨pr5.1, pr5.2.1 11 (by decide)⟩
          have e8' : τ5 488 (120 + M 442 13) = M2 442 13 - M 442 13 - 1 := by rw [t488]; exact f8
          have e9' : τ5 489 (120 + M 442 13) = M4 442 13 - M2 442 13 := by rw [t489, zs_pos rfl, m109', f8]; omega
          have ys3 := ySegE_upd ys2 (r := 120 + M 442 13) (by omega) ⟨rows3.1, rows3.2.1, rows3.2.2.1, rows3.2.2.2.1, rows3.2.2.2.2.1, r485, rows3.2.2.2.2.2.1⟩ ex3 (fun j hj => ⟨by rw [r488]; exact zs_neg hj, by rw [r489]⟩)
          have ys3' := ySegE_keep ys3 cr4 pr4 v4b (by omega) (by omega)
          have ys3'' := ySegE_upd ys3' (r := 120 + M 442 13) (by omega) ⟨rows5.1, rows5.2.1, rows5.2.2.1, rows5.2.2.2.1, rows5.2.2.2.2.1, t485, rows5.2.2.2.2.2.1⟩ ex5 (fun j hj => ⟨by rw [t488], by rw [t489]; exact zs_neg hj⟩)
          have ys4' := ySegE_upd ys4 (r := 120 + M 442 13) (by omega) ⟨rows5.1, rows5.2.1, rows5.2.2.1, rows5.2.2.2.1, rows5.2.2.2.2.1, t485, rows5.2.2.2.2.2.1⟩ ex5 (fun j hj => ⟨by rw [t488], by rw [t489]; exact zs_neg hj⟩)
          have er : ∀ c : Nat, 480 ≤ c → c ≤ 487 → τ5 c (120 + M 442 13) = τ1 c (120 + M 442 13) := fun c z1 z2 => by
            rw [← R2 c z1 (by omega), rw8 rows5 t485 c z1 z2, R4 c z1 (by omega), rw8 rows3 r485 c z1 z2]
          have pr4w : rPr τ3 τ4 K (deep + lv) (120 + M 442 13) := ⟨pr4.1, pr4.2.1, fun c j a1 a2 a3 => pr4.2.2.1 c j a1 a2 (by omega), pr4.2.2.2.1, pr4.2.2.2.2.1, fun c j a1 a2 => pr4.2.2.2.2.2 c j a1 (by omega)⟩
          have pr25 : rPr τ1 τ5 K (deep + lv) (120 + M 442 13) := rPr_trans pr2w (rPr_trans pr3 (rPr_trans pr4w pr5 (Int.le_refl _) (Int.le_refl _) (Int.le_refl _)) (Int.le_refl _) (Int.le_refl _) (Int.le_refl _)) (Int.le_refl _) (Int.le_refl _) (Int.le_refl _)
          have po := rPost_block (M1 := M1) (τ1 := τ1) (M2 := M4) (τ3 := τ5) (tn := M2 442 13 - M 442 13 - 1) (el := M4 442 13 - M2 442 13) (b2 := 1) i0 cp hp put1 (cPr_trans cr2 cr4 (by omega)) (by rw [← ee3]; exact laK_trans la2 la4 (Int.le_refl _)) i5 (by rw [← ee3]; exact cp4) (rTo_trans to1 (rTo_trans to2 (rTo_trans to3 (rTo_trans to4 to5)))) (rPr_trans pr1' pr25 (Int.le_refl _) (Int.le_refl _) (Int.le_refl _))
            ⟨fun c q => (ex5.1 c q).trans ((ex4.1 c q).trans ((ex3.1 c q).trans (ex2.1 c q))), ex5.2.trans (ex4.2.trans (ex3.2.trans ex2.2))⟩ ey er e8' e9' (by omega) (by omega) (by omega) nb4 (k7 ()) (fun z => by omega) (by rw [show 120 + M 442 13 + 1 + (M2 442 13 - M 442 13 - 1) = 120 + M2 442 13 by omega, show 120 + M 442 13 + 1 = 120 + (M 442 13 + 1) by omega, ← ee3]; exact ys3'') (by rw [show 120 + M 442 13 + 1 + (M2 442 13 - M 442 13 - 1) + (M4 442 13 - M2 442 13) = 120 + M4 442 13 by omega, show 120 + M 442 13 + 1 + (M2 442 13 - M 442 13 - 1) = 120 + M2 442 13 by omega, ← ee3]; exact ys4') ⟨by omega, by omega⟩ xvl (okl ()) (by omega) (rW_cat w2 cr4 v4b v4c w4) hfl (h9l ()) (by omega)
          have oe4 : 0 < lv → τ5 544 (deep + lv - 1) = b' := fun z => by
            rw [op5.2.2.1, pr4.2.2.2.2.2 544 _ (Or.inr (Or.inr (Or.inl rfl))) (by omega), s544, zs_neg (by omega)]; exact oeb z
          exact ih lv br (a + 1 + M0 488 a + M0 489 a) b' s5 bq M4 τ5 (hq0 ()) (hq1 ()) lv0 (by omega) bE (bG ()) (by omega) sb po.1 po.2.2.1 oe4 (by rw [hpB] at v2b; omega) cn4 (rLeft_same lf4 l1'' l2'') (fun M5 τ6 q1' q2' q3' => kt M5 τ6 (rPost_trans po q1') q2' q3') x9 x10 x11
      · replace k7 := hid k7
        obtain ⟨z8, z9⟩ : M0 488 a = 0 ∧ M0 489 a = 0 := by
          rcases (g6 ()) with z | z
          · exact absurd z (k7 ())
          · exact z
        rw [z8, z9, show a + 1 + (0 : Int) + 0 = a + 1 by omega] at s5
        have K9 : τ 480 a = 9 → K = 0 := fun z => by
          rw [e480] at z
          have y := (y8 ()) z
          by_cases zz : x = 0
          · rw [hK]; exact (v3 ()).mp zz
          · have := (bG ()) zz; omega
        refine LN (fun M' hp x9 x10 x11 => ?_) (k6 ())
        by_cases c6' : M0 480 a = 6
        · -- a call that is left
          have y := (pl6 ()) c6'
          have r0' : r6 (fc x + (SN a - (M0 477 (8 * M0 467 11 + mf x)))) = 0 := Classical.byContradiction (fun z => (k6 ()) ⟨c6', z⟩)
          have cl : τ 526 x + τ 486 a - τ 477 (8 * τ 467 11 + τ 523 x) = fc x + (SN a - (M0 477 (8 * M0 467 11 + mf x))) := by rw [t526, e486, tb, t523, tq 477 (mf x) (by decide) (by decide) mfx.1 mfx.2]; omega
          have kd := (kids (SN a - (M0 477 (8 * M0 467 11 + mf x))) y.1 y.2.1).1
          have len : ((Lb ++ tkids r6 lf (fun e => [e]) (fc x) (SN a - (M0 477 (8 * M0 467 11 + mf x))).toNat).length : Int) < 420 := by
            have z := tkids_le (K := r6) (R := lf) (N := fun e => [e]) (a := fc x) (k := fc x + (SN a - (M0 477 (8 * M0 467 11 + mf x)))) (n := (M0 478 (8 * M0 467 11 + mf x))) (by omega) (by omega)
            rw [show fc x + (SN a - (M0 477 (8 * M0 467 11 + mf x))) - fc x = SN a - (M0 477 (8 * M0 467 11 + mf x)) by omega, ← lfx] at z
            rw [List.length_append]
            omega
          obtain ⟨τ', to, put, top, pr, p1, le1, le2, op⟩ := r_lf j4 (by omega) (by omega) dsm (nb ()) (by omega) (by omega) (by omega) (by rw [e487]; omega) opb (by rw [e491]; exact (y5 ())) llb (by rw [e480]; exact c6') (by rw [tb]; exact hb) (by omega) (by rw [t523]; omega) (by rw [t526, e486, tb, t523, tq 477 (mf x) (by decide) (by decide) mfx.1 mfx.2]; have := ((y9 ()) c6').1; omega) (by rw [cl]; omega) (by rw [cl, j2.1 531 rfl, kd]; exact r0') (by rw [lft.2]; omega)
          rw [e480, e481, e482, e483, e484, e485, e486, e487, e491] at put
          have po := rPost_line i0 cp hp put top pr p1 to (by omega) (by omega) xvl (okl ()) (y5 ()) (by omega) hfl (h9l ()) (by omega)
          have sn := ((y9 ()) c6').2
          have tks := tkids_suc (K := r6) (R := lf) (N := fun e => [e]) (a := fc x) (k := fc x + (SN a - (M0 477 (8 * M0 467 11 + mf x)))) (by omega)
          rw [show fc x + (SN a - (M0 477 (8 * M0 467 11 + mf x))) + 1 - fc x = SN (a + 1) - (M0 477 (8 * M0 467 11 + mf x)) by omega, show fc x + (SN a - (M0 477 (8 * M0 467 11 + mf x))) - fc x = SN a - (M0 477 (8 * M0 467 11 + mf x)) by omega, if_pos r0'] at tks
          refine ih lv br (a + 1) b' s5 bq M' τ' (hq0 ()) (hq1 ()) lv0 (by omega) bE (bG ()) (by omega) sb po.1 po.2.2.1 (fun z => by rw [op.2.2.1]; exact (oe ()) z) (by have := po.2.2.2.2.2.2.2.1.2.1; omega) ?_ ?_ (fun M2 τ2 q1' q2' q3' => kt M2 τ2 (rPost_trans po q1') q2' q3') x9 x10 x11
          · rw [hp.2.1.2.2, cnt, show SN (a + 1) - (M0 477 (8 * M0 467 11 + mf x)) = SN a - (M0 477 (8 * M0 467 11 + mf x)) + 1 by omega, nsum_suc _ y.1]
            have z : kgs r6 fc CA x (SN a - (M0 477 (8 * M0 467 11 + mf x))) = 0 := if_pos r0'
            rw [z]; omega
          · rw [tks, ← List.append_assoc]
            refine rLeft_add lft ?_ le2
            rw [le1, cl]
        · obtain ⟨τ', to, put, top, pr, p1, le1, le2, op⟩ := r_ln j4 (by omega) (by omega) dsm (nb ()) (by omega) (by omega) (by omega) (by rw [e487]; omega) opb (by rw [e491]; exact (y5 ())) llb K9 (by rw [e480]; exact c6') (by rw [e480]; exact fun z => (k7 ()) (Or.inl z)) (by rw [e480]; exact fun z => (k7 ()) (Or.inr z))
          rw [e480, e481, e482, e483, e484, e485, e486, e487, e491] at put
          have po := rPost_line i0 cp hp put top pr p1 to (by omega) (by omega) xvl (okl ()) (y5 ()) (by omega) hfl (h9l ()) (by omega)
          have sn := ((y10 ()) c6').2.2
          refine ih lv br (a + 1) b' s5 bq M' τ' (hq0 ()) (hq1 ()) lv0 (by omega) bE (bG ()) (by omega) sb po.1 po.2.2.1 (fun z => by rw [op.2.2.1]; exact (oe ()) z) (by have := po.2.2.2.2.2.2.2.1.2.1; omega) ?_ ?_ (fun M2 τ2 q1' q2' q3' => kt M2 τ2 (rPost_trans po q1') q2' q3') x9 x10 x11
          · rw [hp.2.1.2.2, cnt, sn]; omega
          · rw [sn]; exact rLeft_same lft le1 le2

