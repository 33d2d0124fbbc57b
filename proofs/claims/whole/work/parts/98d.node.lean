/-! The result: a node's lines, by recursion -/
theorem ySeg_cutr {L : Nat → Int → Int} {ok : Int → Int → Int → Prop} {A b : Int} (h9 : ∀ lv br : Int, ok lv br (b - 1) → lv = 0) (h0 : ∀ r : Int, A ≤ r → r < b → 0 ≤ L 488 r ∧ 0 ≤ L 489 r) : ∀ (n : Nat) (br a : Int), A ≤ a → ySeg L ok n 0 br a b → a < b → ySegE L ok 0 br a (b - 1) := by
  intro n
  induction n with
  | zero => intro br a _ q h; have e : a = b := q; omega
  | succ n ih =>
    intro br a aA q h
    rcases q with q | ⟨q1, q2, q3, q4, q5⟩
    · omega
    · by_cases e : a = b - 1
      · rw [e]; exact ySegE_nil
      · have z := h0 a aA h
        have l := ySegE_le ⟨n, q5⟩
        by_cases e2 : a + 1 + L 488 a + L 489 a = b
        · exfalso
          by_cases e3 : b - 1 < a + 1 + L 488 a
          · obtain ⟨x, y, u, w⟩ := ySeg_at n _ _ _ _ q3 (show a + 1 ≤ b - 1 by omega) e3
            have := h9 x y w; omega
          · obtain ⟨x, y, u, w⟩ := ySeg_at n _ _ _ _ q4 (show a + 1 + L 488 a ≤ b - 1 by omega) (by omega)
            have := h9 x y w; omega
        · exact ySegE_cons (by omega) q2 ⟨n, q3⟩ ⟨n, q4⟩ (ih _ _ (by omega) q5 (by omega))
set_option maxRecDepth 100000 in
set_option maxHeartbeats 4000000 in
theorem rNodeS_33 {d : Nat} {M0 τ0 : Nat → Int → Int} {U nF m : Int} {TO cf mf fc dp r6 CA : Int → Int} {ND : Int → Prop} {lf : Int → List Int} (hb : 0 ≤ M0 467 11 ∧ M0 467 11 ≤ 1) (hn1 : M0 470 (M0 467 11) ≤ 60) (hcc : cCode M0 (60 * M0 467 11) (M0 470 (M0 467 11)) (M0 49) (M0 50) (M0 51) (M0 52) (M0 53) (M0 54) (M0 58) (M0 59)) (hd4 : ∀ l : Int, 0 ≤ l → l < M0 470 (M0 467 11) → 0 ≤ M0 55 l ∧ M0 55 l ≤ 4) (hpg : rProg M0 τ0) (h1 : ∀ i : Int, 0 ≤ i ∧ i < 320 → M0 (zcall i) 1 = cf i) (h3 : ∀ i : Int, 0 ≤ i ∧ i < 320 → M0 (zcall i) 3 = dp i) (h5 : ∀ i : Int, 0 ≤ i ∧ i < 320 → M0 (zcall i) 5 = fc i) (h6 : ∀ i : Int, 0 ≤ i ∧ i < 320 → M0 (zcall i) 6 = r6 i) (hfun : ∀ g : Int, 0 ≤ g → g < M0 469 (M0 467 11) → ∃ SN : Int → Int, rFun 33 M0 nF TO SN g) (htr : rTr 33 M0 τ0 TO cf mf fc dp r6 CA ND lf m) {N : Nat} (hN : rNode_33 d N M0 τ0 U nF m TO cf mf fc dp r6 CA ND lf) : rNode_33 (d + 2) (N + 1) M0 τ0 U nF m TO cf mf fc dp r6 CA ND lf := by
  intro x K base deep b0 C M τ Lb r0 hx hx0 hdN hK hdp i0 cp bv cnt hC lft len P Q kt
  obtain ⟨⟨t1, t2, t3⟩, ⟨u1, u2, u3, u4, u5, u6, u7, u8⟩, ⟨v1, v2, v3⟩, ⟨w1, w2⟩, _⟩ := id (htr x hx)
  have u5 : M0 38 (cf x) = M0 475 (8 * M0 467 11 + mf x) := u5
  have u6 : M0 39 (cf x) = M0 476 (8 * M0 467 11 + mf x) := u6
  have u7 : M0 40 (cf x) = M0 477 (8 * M0 467 11 + mf x) := u7
  obtain ⟨SN, hfu⟩ := hfun (mf x) u2.1 u2.2.1
  obtain ⟨⟨f1, f2, f3, f4⟩, fl, ⟨fs1, fs2, ⟨n, fs3⟩⟩, fgv⟩ := id hfu
  have fr := i0.1.1
  have hr3 : ∀ i : Int, 0 ≤ i ∧ i < 320 → M (zcall i) 3 = dp i := fun i hi => by rw [fr _ (by have := zcall_in hi; omega)]; exact h3 i hi
  have hr1 : ∀ i : Int, 0 ≤ i ∧ i < 320 → M (zcall i) 1 = cf i := fun i hi => by rw [fr _ (by have := zcall_in hi; omega)]; exact h1 i hi
  have ek : M 38 (cf x) = (60 * M0 467 11 + M0 475 (8 * M0 467 11 + mf x)) - 60 * M0 467 11 := by
    rw [fr 38 (by decide), u5]; omega
  have xd : ¬ dp x = 0 := fun z => hx0 (v3.mpr z)
  refine ⟨_, rfl, WN_in_33 (d := d) x base deep b0 cf hr1 dp hr3 ⟨t1, by omega⟩ (by omega) u1 ?_⟩
  rw [ek]
  have fin : ∀ (M' : Nat → Int → Int), (∀ c : Nat, ¬ (441 ≤ c ∧ c ≤ 455) → M' c = M0 c) → Q (zS (zupN P 441 3 33) M') none → ∀ (x9 x10 x11 : Option zV), WP (d + 5) 256 0 0 37 [some (vR 441), some (vR 116), some (vR (zcall x)), some (vI base), some (vI deep), some (vI b0), some (vR 48), some (vI (cf x)), some (vI ((60 * M0 467 11 + M0 475 (8 * M0 467 11 + mf x) + M0 476 (8 * M0 467 11 + mf x)) - 60 * M0 467 11)), x9, x10, x11] [] (zS (zupN P 441 3 33) M') Q := fun M' fr' q x9 x10 x11 => by
    refine WN_end_33 (d := d) x base deep b0 (cf x) _ u1 ?_ ?_ q
    · rw [fr' 38 (by decide), fr' 39 (by decide), u5, u6]; omega
    · rw [fr' 38 (by decide), fr' 39 (by decide), u5, u6]; omega
  have l0 : rLeft τ r0 (Lb ++ tkids r6 lf (fun e => [e]) (fc x) (SN (60 * M0 467 11 + M0 475 (8 * M0 467 11 + mf x)) - (M0 477 (8 * M0 467 11 + mf x))).toNat) := by
    rw [show (SN (60 * M0 467 11 + M0 475 (8 * M0 467 11 + mf x)) - (M0 477 (8 * M0 467 11 + mf x))).toNat = 0 by omega]
    show rLeft τ r0 (Lb ++ [])
    rw [List.append_nil]; exact lft
  have c0 : M 442 13 = C + (60 * M0 467 11 + M0 475 (8 * M0 467 11 + mf x)) + nsum (kgs r6 fc CA x) (SN (60 * M0 467 11 + M0 475 (8 * M0 467 11 + mf x)) - (M0 477 (8 * M0 467 11 + mf x))).toNat := by
    rw [show (SN (60 * M0 467 11 + M0 475 (8 * M0 467 11 + mf x)) - (M0 477 (8 * M0 467 11 + mf x))).toNat = 0 by omega]
    show _ = _ + 0
    omega
  have lfx := (htr x hx).2.2.2.2.2.2.1
  have cp' : cP (M 449) (M 452) (M 455) (M 442 13) (deep + 0) b0 := by rw [show deep + 0 = deep by omega]; exact cp
  rcases f3 with z | z
  · rw [z, show (60 * M0 467 11 + M0 475 (8 * M0 467 11 + mf x) + M0 476 (8 * M0 467 11 + mf x)) - (0 : Int) = (60 * M0 467 11 + M0 475 (8 * M0 467 11 + mf x) + M0 476 (8 * M0 467 11 + mf x)) by omega] at kt
    refine rSeg_33 (d := d) (Q := Q) hb hn1 hcc hd4 hpg h1 h3 h5 h6 hfun htr hN (x := x) (K := K) (base := base) (deep := deep) (b0 := b0) (C := C) (Lb := Lb) (r0 := r0) (SN := SN) hx hdN hK hdp hfu hC len (fun y => absurd y hx0) n 0 0 (60 * M0 467 11 + M0 475 (8 * M0 467 11 + mf x)) (60 * M0 467 11 + M0 475 (8 * M0 467 11 + mf x) + M0 476 (8 * M0 467 11 + mf x)) fs3 b0 M τ (fun _ => rfl) (fun y => absurd rfl y) (by omega) (by omega) (by omega) (by omega) (by omega) (by omega) i0 cp' (fun y => absurd y (by omega)) bv c0 l0 (fun M' τ' po cn lf' x9 x10 x11 => fin M' po.1.1.1 (kt M' τ' po ?_ ?_) x9 x10 x11) none none none
    · rw [cn, fs2, show (M0 477 (8 * M0 467 11 + mf x)) + (M0 478 (8 * M0 467 11 + mf x)) - (M0 477 (8 * M0 467 11 + mf x)) = (M0 478 (8 * M0 467 11 + mf x)) by omega]
    · rw [fs2, show (M0 477 (8 * M0 467 11 + mf x)) + (M0 478 (8 * M0 467 11 + mf x)) - (M0 477 (8 * M0 467 11 + mf x)) = (M0 478 (8 * M0 467 11 + mf x)) by omega, ← lfx] at lf'
      exact lf'
  · obtain ⟨g1, g2, g3⟩ := fgv z
    obtain ⟨n2, fs4⟩ := ySeg_cutr (fun lv br y => (y.2.2.1 g2).1) (fun r r0' r1 => (fl r r0' r1).2.2.1) n 0 _ (Int.le_refl _) fs3 (by omega)
    obtain ⟨lv', br', _, yE⟩ := ySeg_at' ⟨n, fs3⟩ (show (60 * M0 467 11 + M0 475 (8 * M0 467 11 + mf x)) ≤ (60 * M0 467 11 + M0 475 (8 * M0 467 11 + mf x) + M0 476 (8 * M0 467 11 + mf x)) - 1 by omega) (by omega)
    have y10 := yE.2.2.2.2.1 (by rw [g2]; decide)
    have sE := y10.2.2
    rw [show (60 * M0 467 11 + M0 475 (8 * M0 467 11 + mf x) + M0 476 (8 * M0 467 11 + mf x)) - 1 + 1 = (60 * M0 467 11 + M0 475 (8 * M0 467 11 + mf x) + M0 476 (8 * M0 467 11 + mf x)) by omega] at sE
    have yz := (yE.2.2.1 g2).1
    rw [z] at kt
    refine rSeg_33 (d := d) (Q := Q) hb hn1 hcc hd4 hpg h1 h3 h5 h6 hfun htr hN (x := x) (K := K) (base := base) (deep := deep) (b0 := b0) (C := C) (Lb := Lb) (r0 := r0) (SN := SN) hx hdN hK hdp hfu hC len (fun y => absurd y hx0) n2 0 0 (60 * M0 467 11 + M0 475 (8 * M0 467 11 + mf x)) ((60 * M0 467 11 + M0 475 (8 * M0 467 11 + mf x) + M0 476 (8 * M0 467 11 + mf x)) - 1) fs4 b0 M τ (fun _ => rfl) (fun y => absurd rfl y) (by omega) (by omega) (by omega) (fun _ => by omega) (by omega) (by omega) i0 cp' (fun y => absurd y (by omega)) bv c0 l0 (fun M' τ' po cn lf' x9 x10 x11 => ?_) none none none
    have fr' := po.1.1.1
    have gl := fl ((60 * M0 467 11 + M0 475 (8 * M0 467 11 + mf x) + M0 476 (8 * M0 467 11 + mf x)) - 1) (by omega) (by omega)
    have cc := hcc ((60 * M0 467 11 + M0 475 (8 * M0 467 11 + mf x) + M0 476 (8 * M0 467 11 + mf x)) - 1 - 60 * M0 467 11) (by omega) (by omega)
    rw [show (60 * M0 467 11 + M0 475 (8 * M0 467 11 + mf x) + M0 476 (8 * M0 467 11 + mf x)) - 1 - 60 * M0 467 11 + 60 * M0 467 11 = (60 * M0 467 11 + M0 475 (8 * M0 467 11 + mf x) + M0 476 (8 * M0 467 11 + mf x)) - 1 by omega] at cc
    obtain ⟨c1, c2, c3, c4, c5, c6, _⟩ := cc
    have d4 := hd4 ((60 * M0 467 11 + M0 475 (8 * M0 467 11 + mf x) + M0 476 (8 * M0 467 11 + mf x)) - 1 - 60 * M0 467 11) (by omega) (by omega)
    have hr3' : ∀ i : Int, 0 ≤ i ∧ i < 320 → M' (zcall i) 3 = dp i := fun i hi => by rw [fr' _ (by have := zcall_in hi; omega)]; exact h3 i hi
    have hr5' : ∀ i : Int, 0 ≤ i ∧ i < 320 → M' (zcall i) 5 = fc i := fun i hi => by rw [fr' _ (by have := zcall_in hi; omega)]; exact h5 i hi
    have hr6' : ∀ i : Int, 0 ≤ i ∧ i < 320 → M' (zcall i) 6 = r6 i := fun i hi => by rw [fr' _ (by have := zcall_in hi; omega)]; exact h6 i hi
    refine WN_gv_33 (d := d) x base deep b0 (cf x) ((60 * M0 467 11 + M0 475 (8 * M0 467 11 + mf x) + M0 476 (8 * M0 467 11 + mf x)) - 1 - 60 * M0 467 11) dp hr3' fc hr5' r6 hr6' ⟨t1, by omega⟩ u1 ?_ ?_ (by omega) ⟨⟨w1, by omega⟩, ?_, ?_⟩ ?_ (by omega) ?_ xd (fun x9 x10 x11 => ?_)
    · rw [fr' 38 (by decide), fr' 39 (by decide), u5, u6]; omega
    · rw [fr' 38 (by decide), fr' 39 (by decide), u5, u6]; omega
    · rw [fr' 54 (by decide), c6, y10.2.1]; omega
    · rw [fr' 40 (by decide), u7]; omega
    · rw [fr' 55 (by decide)]; omega
    · rw [fr' 49 (by decide), c1]; exact g2
    · rw [show (60 * M0 467 11 + M0 475 (8 * M0 467 11 + mf x) + M0 476 (8 * M0 467 11 + mf x)) - 1 - 60 * M0 467 11 + 1 = (60 * M0 467 11 + M0 475 (8 * M0 467 11 + mf x) + M0 476 (8 * M0 467 11 + mf x)) - 60 * M0 467 11 by omega]
      refine fin M' fr' (kt M' τ' po ?_ ?_) x9 x10 x11
      · rw [cn, ← sE, fs2, show (M0 477 (8 * M0 467 11 + mf x)) + (M0 478 (8 * M0 467 11 + mf x)) - (M0 477 (8 * M0 467 11 + mf x)) = (M0 478 (8 * M0 467 11 + mf x)) by omega]
      · rw [← sE, fs2, show (M0 477 (8 * M0 467 11 + mf x)) + (M0 478 (8 * M0 467 11 + mf x)) - (M0 477 (8 * M0 467 11 + mf x)) = (M0 478 (8 * M0 467 11 + mf x)) by omega, ← lfx] at lf'
        exact lf'
theorem rNodeA_33 {M0 τ0 : Nat → Int → Int} {U nF m : Int} {TO cf mf fc dp r6 CA : Int → Int} {ND : Int → Prop} {lf : Int → List Int} (hb : 0 ≤ M0 467 11 ∧ M0 467 11 ≤ 1) (hn1 : M0 470 (M0 467 11) ≤ 60) (hcc : cCode M0 (60 * M0 467 11) (M0 470 (M0 467 11)) (M0 49) (M0 50) (M0 51) (M0 52) (M0 53) (M0 54) (M0 58) (M0 59)) (hd4 : ∀ l : Int, 0 ≤ l → l < M0 470 (M0 467 11) → 0 ≤ M0 55 l ∧ M0 55 l ≤ 4) (hpg : rProg M0 τ0) (h1 : ∀ i : Int, 0 ≤ i ∧ i < 320 → M0 (zcall i) 1 = cf i) (h3 : ∀ i : Int, 0 ≤ i ∧ i < 320 → M0 (zcall i) 3 = dp i) (h5 : ∀ i : Int, 0 ≤ i ∧ i < 320 → M0 (zcall i) 5 = fc i) (h6 : ∀ i : Int, 0 ≤ i ∧ i < 320 → M0 (zcall i) 6 = r6 i) (hfun : ∀ g : Int, 0 ≤ g → g < M0 469 (M0 467 11) → ∃ SN : Int → Int, rFun 33 M0 nF TO SN g) (htr : rTr 33 M0 τ0 TO cf mf fc dp r6 CA ND lf m) : ∀ (N d : Nat), rNode_33 (d + 2 * N) N M0 τ0 U nF m TO cf mf fc dp r6 CA ND lf := by
  intro N
  induction N with
  | zero =>
    intro d x K base deep b0 C M τ Lb r0 hx hx0 hdN
    exfalso
    have := (htr x hx).2.2.1
    omega
  | succ N ih =>
    intro d
    exact rNodeS_33 hb hn1 hcc hd4 hpg h1 h3 h5 h6 hfun htr (ih d)
/-- the root's lines -/
theorem rRoot_33 {d : Nat} {M0 τ0 : Nat → Int → Int} {U nF m : Int} {TO cf mf fc dp r6 CA : Int → Int} {ND : Int → Prop} {lf : Int → List Int} (hb : 0 ≤ M0 467 11 ∧ M0 467 11 ≤ 1) (hn1 : M0 470 (M0 467 11) ≤ 60) (hcc : cCode M0 (60 * M0 467 11) (M0 470 (M0 467 11)) (M0 49) (M0 50) (M0 51) (M0 52) (M0 53) (M0 54) (M0 58) (M0 59)) (hd4 : ∀ l : Int, 0 ≤ l → l < M0 470 (M0 467 11) → 0 ≤ M0 55 l ∧ M0 55 l ≤ 4) (hpg : rProg M0 τ0) (h1 : ∀ i : Int, 0 ≤ i ∧ i < 320 → M0 (zcall i) 1 = cf i) (h3 : ∀ i : Int, 0 ≤ i ∧ i < 320 → M0 (zcall i) 3 = dp i) (h5 : ∀ i : Int, 0 ≤ i ∧ i < 320 → M0 (zcall i) 5 = fc i) (h6 : ∀ i : Int, 0 ≤ i ∧ i < 320 → M0 (zcall i) 6 = r6 i) (hfun : ∀ g : Int, 0 ≤ g → g < M0 469 (M0 467 11) → ∃ SN : Int → Int, rFun 33 M0 nF TO SN g) (htr : rTr 33 M0 τ0 TO cf mf fc dp r6 CA ND lf m) {M τ : Nat → Int → Int} {r0 : Int → Int} (hx : ND 0) (hm : dp 0 = 0) (i0 : rInv M0 τ0 M τ 0 0 (60 * M0 467 11 + M0 475 (8 * M0 467 11 + mf 0)) (60 * M0 467 11 + M0 475 (8 * M0 467 11 + mf 0) + M0 476 (8 * M0 467 11 + mf 0)) 0 0 0) (cp : cP (M 449) (M 452) (M 455) (M 442 13) 0 0) (bv : M0 474 (8 * M0 467 11 + mf 0) ≤ M 441 1) (cnt : M 442 13 = 0) (hC : M0 476 (8 * M0 467 11 + mf 0) + nsum (kgs r6 fc CA 0) (M0 478 (8 * M0 467 11 + mf 0)).toNat ≤ 319) (lft : rLeft τ r0 []) (len : ((lf 0).length : Int) ≤ 400) (hU : U = if M0 479 (8 * M0 467 11 + mf 0) = 1 then M0 476 (8 * M0 467 11 + mf 0) + nsum (kgs r6 fc CA 0) (M0 478 (8 * M0 467 11 + mf 0)).toNat else -1) {P : Nat → Nat → Nat} {Q : zQ}
    (kt : ∀ M' τ' : Nat → Int → Int, rPost U nF TO M0 τ0 M τ M' τ' 0 0 (60 * M0 467 11 + M0 475 (8 * M0 467 11 + mf 0) + M0 476 (8 * M0 467 11 + mf 0)) (60 * M0 467 11 + M0 475 (8 * M0 467 11 + mf 0) + M0 476 (8 * M0 467 11 + mf 0)) 0 0 0 0 → M' 442 13 = M0 476 (8 * M0 467 11 + mf 0) + nsum (kgs r6 fc CA 0) (M0 478 (8 * M0 467 11 + mf 0)).toNat → rLeft τ' r0 (lf 0) → Q (zS (zupN P 441 3 33) M') none) : WC (d + 70) 256 [vR 441, vR 116, vR (zcall 0), vI 0, vI 0, vI 0] (zS (zupN P 441 3 33) M) Q := by
  have hN := rNodeA_33 (U := U) hb hn1 hcc hd4 hpg h1 h3 h5 h6 hfun htr 32 d
  obtain ⟨⟨t1, t2, t3⟩, ⟨u1, u2, u3, u4, u5, u6, u7, u8⟩, ⟨v1, v2, v3⟩, ⟨w1, w2⟩, _⟩ := id (htr 0 hx)
  have u5 : M0 38 (cf 0) = M0 475 (8 * M0 467 11 + mf 0) := u5
  have u6 : M0 39 (cf 0) = M0 476 (8 * M0 467 11 + mf 0) := u6
  obtain ⟨SN, hfu⟩ := hfun (mf 0) u2.1 u2.2.1
  obtain ⟨⟨f1, f2, f3, f4⟩, fl, ⟨fs1, fs2, ⟨n, fs3⟩⟩, fgv⟩ := id hfu
  have fr := i0.1.1
  have hr3 : ∀ i : Int, 0 ≤ i ∧ i < 320 → M (zcall i) 3 = dp i := fun i hi => by rw [fr _ (by have := zcall_in hi; omega)]; exact h3 i hi
  have hr1 : ∀ i : Int, 0 ≤ i ∧ i < 320 → M (zcall i) 1 = cf i := fun i hi => by rw [fr _ (by have := zcall_in hi; omega)]; exact h1 i hi
  have ek : M 38 (cf 0) = (60 * M0 467 11 + M0 475 (8 * M0 467 11 + mf 0)) - 60 * M0 467 11 := by
    rw [fr 38 (by decide), u5]; omega
  have lfx := (htr 0 hx).2.2.2.2.2.2.1
  have l0 : rLeft τ r0 ([] ++ tkids r6 lf (fun e => [e]) (fc 0) (SN (60 * M0 467 11 + M0 475 (8 * M0 467 11 + mf 0)) - M0 477 (8 * M0 467 11 + mf 0)).toNat) := by
    rw [show (SN (60 * M0 467 11 + M0 475 (8 * M0 467 11 + mf 0)) - M0 477 (8 * M0 467 11 + mf 0)).toNat = 0 by omega]
    exact lft
  have c0 : M 442 13 = (0 - (60 * M0 467 11 + M0 475 (8 * M0 467 11 + mf 0))) + (60 * M0 467 11 + M0 475 (8 * M0 467 11 + mf 0)) + nsum (kgs r6 fc CA 0) (SN (60 * M0 467 11 + M0 475 (8 * M0 467 11 + mf 0)) - M0 477 (8 * M0 467 11 + mf 0)).toNat := by
    rw [show (SN (60 * M0 467 11 + M0 475 (8 * M0 467 11 + mf 0)) - M0 477 (8 * M0 467 11 + mf 0)).toNat = 0 by omega]
    show _ = _ + 0
    omega
  refine ⟨_, rfl, WN_in_33 (d := d + 64) 0 0 0 0 cf hr1 dp hr3 (by omega) (by omega) u1 ?_⟩
  rw [ek]
  refine rSeg_33 (d := d + 64) (Q := Q) hb hn1 hcc hd4 hpg h1 h3 h5 h6 hfun htr hN (x := 0) (K := 0) (base := 0) (deep := 0) (b0 := 0) (C := 0 - (60 * M0 467 11 + M0 475 (8 * M0 467 11 + mf 0))) (Lb := []) (r0 := r0) (SN := SN) hx (by omega) (by omega) (by omega) hfu (by omega) (by show ((0 : Nat) : Int) + _ ≤ _; omega) (fun _ => by rw [hU]; split <;> omega) n 0 0 (60 * M0 467 11 + M0 475 (8 * M0 467 11 + mf 0)) (60 * M0 467 11 + M0 475 (8 * M0 467 11 + mf 0) + M0 476 (8 * M0 467 11 + mf 0)) fs3 0 M τ (fun _ => rfl) (fun y => absurd rfl y) (by omega) (by omega) (by omega) (fun y => absurd rfl y) (by omega) (by omega) i0 (by rw [show (0 : Int) + 0 = 0 by omega]; exact cp) (fun y => absurd y (by omega)) (by omega) c0 l0 (fun M' τ' po cn lf' x9 x10 x11 => ?_) none none none
  have fr' := po.1.1.1
  refine WN_end_33 (d := d + 64) 0 0 0 0 (cf 0) _ u1 ?_ ?_ (kt M' τ' po ?_ ?_)
  · rw [fr' 38 (by decide), fr' 39 (by decide), u5, u6]; omega
  · rw [fr' 38 (by decide), fr' 39 (by decide), u5, u6]; omega
  · rw [cn, fs2, show M0 477 (8 * M0 467 11 + mf 0) + M0 478 (8 * M0 467 11 + mf 0) - M0 477 (8 * M0 467 11 + mf 0) = M0 478 (8 * M0 467 11 + mf 0) by omega]; omega
  · rw [fs2, show M0 477 (8 * M0 467 11 + mf 0) + M0 478 (8 * M0 467 11 + mf 0) - M0 477 (8 * M0 467 11 + mf 0) = M0 478 (8 * M0 467 11 + mf 0) by omega, ← lfx] at lf'
    exact lf'
set_option maxRecDepth 100000 in
set_option maxHeartbeats 4000000 in
theorem rNodeS_62 {d : Nat} {M0 τ0 : Nat → Int → Int} {U nF m : Int} {TO cf mf fc dp r6 CA : Int → Int} {ND : Int → Prop} {lf : Int → List Int} (hb : 0 ≤ M0 467 11 ∧ M0 467 11 ≤ 1) (hn1 : M0 470 (M0 467 11) ≤ 60) (hcc : cCode M0 (60 * M0 467 11) (M0 470 (M0 467 11)) (M0 78) (M0 79) (M0 80) (M0 81) (M0 82) (M0 83) (M0 87) (M0 88)) (hd4 : ∀ l : Int, 0 ≤ l → l < M0 470 (M0 467 11) → 0 ≤ M0 84 l ∧ M0 84 l ≤ 4) (hpg : rProg M0 τ0) (h1 : ∀ i : Int, 0 ≤ i ∧ i < 320 → M0 (zcall i) 1 = cf i) (h3 : ∀ i : Int, 0 ≤ i ∧ i < 320 → M0 (zcall i) 3 = dp i) (h5 : ∀ i : Int, 0 ≤ i ∧ i < 320 → M0 (zcall i) 5 = fc i) (h6 : ∀ i : Int, 0 ≤ i ∧ i < 320 → M0 (zcall i) 6 = r6 i) (hfun : ∀ g : Int, 0 ≤ g → g < M0 469 (M0 467 11) → ∃ SN : Int → Int, rFun 62 M0 nF TO SN g) (htr : rTr 62 M0 τ0 TO cf mf fc dp r6 CA ND lf m) {N : Nat} (hN : rNode_62 d N M0 τ0 U nF m TO cf mf fc dp r6 CA ND lf) : rNode_62 (d + 2) (N + 1) M0 τ0 U nF m TO cf mf fc dp r6 CA ND lf := by
  intro x K base deep b0 C M τ Lb r0 hx hx0 hdN hK hdp i0 cp bv cnt hC lft len P Q kt
  obtain ⟨⟨t1, t2, t3⟩, ⟨u1, u2, u3, u4, u5, u6, u7, u8⟩, ⟨v1, v2, v3⟩, ⟨w1, w2⟩, _⟩ := id (htr x hx)
  have u5 : M0 67 (cf x) = M0 475 (8 * M0 467 11 + mf x) := u5
  have u6 : M0 68 (cf x) = M0 476 (8 * M0 467 11 + mf x) := u6
  have u7 : M0 69 (cf x) = M0 477 (8 * M0 467 11 + mf x) := u7
  obtain ⟨SN, hfu⟩ := hfun (mf x) u2.1 u2.2.1
  obtain ⟨⟨f1, f2, f3, f4⟩, fl, ⟨fs1, fs2, ⟨n, fs3⟩⟩, fgv⟩ := id hfu
  have fr := i0.1.1
  have hr3 : ∀ i : Int, 0 ≤ i ∧ i < 320 → M (zcall i) 3 = dp i := fun i hi => by rw [fr _ (by have := zcall_in hi; omega)]; exact h3 i hi
  have hr1 : ∀ i : Int, 0 ≤ i ∧ i < 320 → M (zcall i) 1 = cf i := fun i hi => by rw [fr _ (by have := zcall_in hi; omega)]; exact h1 i hi
  have ek : M 67 (cf x) = (60 * M0 467 11 + M0 475 (8 * M0 467 11 + mf x)) - 60 * M0 467 11 := by
    rw [fr 67 (by decide), u5]; omega
  have xd : ¬ dp x = 0 := fun z => hx0 (v3.mpr z)
  refine ⟨_, rfl, WN_in_62 (d := d) x base deep b0 cf hr1 dp hr3 ⟨t1, by omega⟩ (by omega) u1 ?_⟩
  rw [ek]
  have fin : ∀ (M' : Nat → Int → Int), (∀ c : Nat, ¬ (441 ≤ c ∧ c ≤ 455) → M' c = M0 c) → Q (zS (zupN P 441 3 62) M') none → ∀ (x9 x10 x11 : Option zV), WP (d + 5) 256 0 0 37 [some (vR 441), some (vR 116), some (vR (zcall x)), some (vI base), some (vI deep), some (vI b0), some (vR 77), some (vI (cf x)), some (vI ((60 * M0 467 11 + M0 475 (8 * M0 467 11 + mf x) + M0 476 (8 * M0 467 11 + mf x)) - 60 * M0 467 11)), x9, x10, x11] [] (zS (zupN P 441 3 62) M') Q := fun M' fr' q x9 x10 x11 => by
    refine WN_end_62 (d := d) x base deep b0 (cf x) _ u1 ?_ ?_ q
    · rw [fr' 67 (by decide), fr' 68 (by decide), u5, u6]; omega
    · rw [fr' 67 (by decide), fr' 68 (by decide), u5, u6]; omega
  have l0 : rLeft τ r0 (Lb ++ tkids r6 lf (fun e => [e]) (fc x) (SN (60 * M0 467 11 + M0 475 (8 * M0 467 11 + mf x)) - (M0 477 (8 * M0 467 11 + mf x))).toNat) := by
    rw [show (SN (60 * M0 467 11 + M0 475 (8 * M0 467 11 + mf x)) - (M0 477 (8 * M0 467 11 + mf x))).toNat = 0 by omega]
    show rLeft τ r0 (Lb ++ [])
    rw [List.append_nil]; exact lft
  have c0 : M 442 13 = C + (60 * M0 467 11 + M0 475 (8 * M0 467 11 + mf x)) + nsum (kgs r6 fc CA x) (SN (60 * M0 467 11 + M0 475 (8 * M0 467 11 + mf x)) - (M0 477 (8 * M0 467 11 + mf x))).toNat := by
    rw [show (SN (60 * M0 467 11 + M0 475 (8 * M0 467 11 + mf x)) - (M0 477 (8 * M0 467 11 + mf x))).toNat = 0 by omega]
    show _ = _ + 0
    omega
  have lfx := (htr x hx).2.2.2.2.2.2.1
  have cp' : cP (M 449) (M 452) (M 455) (M 442 13) (deep + 0) b0 := by rw [show deep + 0 = deep by omega]; exact cp
  rcases f3 with z | z
  · rw [z, show (60 * M0 467 11 + M0 475 (8 * M0 467 11 + mf x) + M0 476 (8 * M0 467 11 + mf x)) - (0 : Int) = (60 * M0 467 11 + M0 475 (8 * M0 467 11 + mf x) + M0 476 (8 * M0 467 11 + mf x)) by omega] at kt
    refine rSeg_62 (d := d) (Q := Q) hb hn1 hcc hd4 hpg h1 h3 h5 h6 hfun htr hN (x := x) (K := K) (base := base) (deep := deep) (b0 := b0) (C := C) (Lb := Lb) (r0 := r0) (SN := SN) hx hdN hK hdp hfu hC len (fun y => absurd y hx0) n 0 0 (60 * M0 467 11 + M0 475 (8 * M0 467 11 + mf x)) (60 * M0 467 11 + M0 475 (8 * M0 467 11 + mf x) + M0 476 (8 * M0 467 11 + mf x)) fs3 b0 M τ (fun _ => rfl) (fun y => absurd rfl y) (by omega) (by omega) (by omega) (by omega) (by omega) (by omega) i0 cp' (fun y => absurd y (by omega)) bv c0 l0 (fun M' τ' po cn lf' x9 x10 x11 => fin M' po.1.1.1 (kt M' τ' po ?_ ?_) x9 x10 x11) none none none
    · rw [cn, fs2, show (M0 477 (8 * M0 467 11 + mf x)) + (M0 478 (8 * M0 467 11 + mf x)) - (M0 477 (8 * M0 467 11 + mf x)) = (M0 478 (8 * M0 467 11 + mf x)) by omega]
    · rw [fs2, show (M0 477 (8 * M0 467 11 + mf x)) + (M0 478 (8 * M0 467 11 + mf x)) - (M0 477 (8 * M0 467 11 + mf x)) = (M0 478 (8 * M0 467 11 + mf x)) by omega, ← lfx] at lf'
      exact lf'
  · obtain ⟨g1, g2, g3⟩ := fgv z
    obtain ⟨n2, fs4⟩ := ySeg_cutr (fun lv br y => (y.2.2.1 g2).1) (fun r r0' r1 => (fl r r0' r1).2.2.1) n 0 _ (Int.le_refl _) fs3 (by omega)
    obtain ⟨lv', br', _, yE⟩ := ySeg_at' ⟨n, fs3⟩ (show (60 * M0 467 11 + M0 475 (8 * M0 467 11 + mf x)) ≤ (60 * M0 467 11 + M0 475 (8 * M0 467 11 + mf x) + M0 476 (8 * M0 467 11 + mf x)) - 1 by omega) (by omega)
    have y10 := yE.2.2.2.2.1 (by rw [g2]; decide)
    have sE := y10.2.2
    rw [show (60 * M0 467 11 + M0 475 (8 * M0 467 11 + mf x) + M0 476 (8 * M0 467 11 + mf x)) - 1 + 1 = (60 * M0 467 11 + M0 475 (8 * M0 467 11 + mf x) + M0 476 (8 * M0 467 11 + mf x)) by omega] at sE
    have yz := (yE.2.2.1 g2).1
    rw [z] at kt
    refine rSeg_62 (d := d) (Q := Q) hb hn1 hcc hd4 hpg h1 h3 h5 h6 hfun htr hN (x := x) (K := K) (base := base) (deep := deep) (b0 := b0) (C := C) (Lb := Lb) (r0 := r0) (SN := SN) hx hdN hK hdp hfu hC len (fun y => absurd y hx0) n2 0 0 (60 * M0 467 11 + M0 475 (8 * M0 467 11 + mf x)) ((60 * M0 467 11 + M0 475 (8 * M0 467 11 + mf x) + M0 476 (8 * M0 467 11 + mf x)) - 1) fs4 b0 M τ (fun _ => rfl) (fun y => absurd rfl y) (by omega) (by omega) (by omega) (fun _ => by omega) (by omega) (by omega) i0 cp' (fun y => absurd y (by omega)) bv c0 l0 (fun M' τ' po cn lf' x9 x10 x11 => ?_) none none none
    have fr' := po.1.1.1
    have gl := fl ((60 * M0 467 11 + M0 475 (8 * M0 467 11 + mf x) + M0 476 (8 * M0 467 11 + mf x)) - 1) (by omega) (by omega)
    have cc := hcc ((60 * M0 467 11 + M0 475 (8 * M0 467 11 + mf x) + M0 476 (8 * M0 467 11 + mf x)) - 1 - 60 * M0 467 11) (by omega) (by omega)
    rw [show (60 * M0 467 11 + M0 475 (8 * M0 467 11 + mf x) + M0 476 (8 * M0 467 11 + mf x)) - 1 - 60 * M0 467 11 + 60 * M0 467 11 = (60 * M0 467 11 + M0 475 (8 * M0 467 11 + mf x) + M0 476 (8 * M0 467 11 + mf x)) - 1 by omega] at cc
    obtain ⟨c1, c2, c3, c4, c5, c6, _⟩ := cc
    have d4 := hd4 ((60 * M0 467 11 + M0 475 (8 * M0 467 11 + mf x) + M0 476 (8 * M0 467 11 + mf x)) - 1 - 60 * M0 467 11) (by omega) (by omega)
    have hr3' : ∀ i : Int, 0 ≤ i ∧ i < 320 → M' (zcall i) 3 = dp i := fun i hi => by rw [fr' _ (by have := zcall_in hi; omega)]; exact h3 i hi
    have hr5' : ∀ i : Int, 0 ≤ i ∧ i < 320 → M' (zcall i) 5 = fc i := fun i hi => by rw [fr' _ (by have := zcall_in hi; omega)]; exact h5 i hi
    have hr6' : ∀ i : Int, 0 ≤ i ∧ i < 320 → M' (zcall i) 6 = r6 i := fun i hi => by rw [fr' _ (by have := zcall_in hi; omega)]; exact h6 i hi
    refine WN_gv_62 (d := d) x base deep b0 (cf x) ((60 * M0 467 11 + M0 475 (8 * M0 467 11 + mf x) + M0 476 (8 * M0 467 11 + mf x)) - 1 - 60 * M0 467 11) dp hr3' fc hr5' r6 hr6' ⟨t1, by omega⟩ u1 ?_ ?_ (by omega) ⟨⟨w1, by omega⟩, ?_, ?_⟩ ?_ (by omega) ?_ xd (fun x9 x10 x11 => ?_)
    · rw [fr' 67 (by decide), fr' 68 (by decide), u5, u6]; omega
    · rw [fr' 67 (by decide), fr' 68 (by decide), u5, u6]; omega
    · rw [fr' 83 (by decide), c6, y10.2.1]; omega
    · rw [fr' 69 (by decide), u7]; omega
    · rw [fr' 84 (by decide)]; omega
    · rw [fr' 78 (by decide), c1]; exact g2
    · rw [show (60 * M0 467 11 + M0 475 (8 * M0 467 11 + mf x) + M0 476 (8 * M0 467 11 + mf x)) - 1 - 60 * M0 467 11 + 1 = (60 * M0 467 11 + M0 475 (8 * M0 467 11 + mf x) + M0 476 (8 * M0 467 11 + mf x)) - 60 * M0 467 11 by omega]
      refine fin M' fr' (kt M' τ' po ?_ ?_) x9 x10 x11
      · rw [cn, ← sE, fs2, show (M0 477 (8 * M0 467 11 + mf x)) + (M0 478 (8 * M0 467 11 + mf x)) - (M0 477 (8 * M0 467 11 + mf x)) = (M0 478 (8 * M0 467 11 + mf x)) by omega]
      · rw [← sE, fs2, show (M0 477 (8 * M0 467 11 + mf x)) + (M0 478 (8 * M0 467 11 + mf x)) - (M0 477 (8 * M0 467 11 + mf x)) = (M0 478 (8 * M0 467 11 + mf x)) by omega, ← lfx] at lf'
        exact lf'
theorem rNodeA_62 {M0 τ0 : Nat → Int → Int} {U nF m : Int} {TO cf mf fc dp r6 CA : Int → Int} {ND : Int → Prop} {lf : Int → List Int} (hb : 0 ≤ M0 467 11 ∧ M0 467 11 ≤ 1) (hn1 : M0 470 (M0 467 11) ≤ 60) (hcc : cCode M0 (60 * M0 467 11) (M0 470 (M0 467 11)) (M0 78) (M0 79) (M0 80) (M0 81) (M0 82) (M0 83) (M0 87) (M0 88)) (hd4 : ∀ l : Int, 0 ≤ l → l < M0 470 (M0 467 11) → 0 ≤ M0 84 l ∧ M0 84 l ≤ 4) (hpg : rProg M0 τ0) (h1 : ∀ i : Int, 0 ≤ i ∧ i < 320 → M0 (zcall i) 1 = cf i) (h3 : ∀ i : Int, 0 ≤ i ∧ i < 320 → M0 (zcall i) 3 = dp i) (h5 : ∀ i : Int, 0 ≤ i ∧ i < 320 → M0 (zcall i) 5 = fc i) (h6 : ∀ i : Int, 0 ≤ i ∧ i < 320 → M0 (zcall i) 6 = r6 i) (hfun : ∀ g : Int, 0 ≤ g → g < M0 469 (M0 467 11) → ∃ SN : Int → Int, rFun 62 M0 nF TO SN g) (htr : rTr 62 M0 τ0 TO cf mf fc dp r6 CA ND lf m) : ∀ (N d : Nat), rNode_62 (d + 2 * N) N M0 τ0 U nF m TO cf mf fc dp r6 CA ND lf := by
  intro N
  induction N with
  | zero =>
    intro d x K base deep b0 C M τ Lb r0 hx hx0 hdN
    exfalso
    have := (htr x hx).2.2.1
    omega
  | succ N ih =>
    intro d
    exact rNodeS_62 hb hn1 hcc hd4 hpg h1 h3 h5 h6 hfun htr (ih d)
/-- the root's lines -/
theorem rRoot_62 {d : Nat} {M0 τ0 : Nat → Int → Int} {U nF m : Int} {TO cf mf fc dp r6 CA : Int → Int} {ND : Int → Prop} {lf : Int → List Int} (hb : 0 ≤ M0 467 11 ∧ M0 467 11 ≤ 1) (hn1 : M0 470 (M0 467 11) ≤ 60) (hcc : cCode M0 (60 * M0 467 11) (M0 470 (M0 467 11)) (M0 78) (M0 79) (M0 80) (M0 81) (M0 82) (M0 83) (M0 87) (M0 88)) (hd4 : ∀ l : Int, 0 ≤ l → l < M0 470 (M0 467 11) → 0 ≤ M0 84 l ∧ M0 84 l ≤ 4) (hpg : rProg M0 τ0) (h1 : ∀ i : Int, 0 ≤ i ∧ i < 320 → M0 (zcall i) 1 = cf i) (h3 : ∀ i : Int, 0 ≤ i ∧ i < 320 → M0 (zcall i) 3 = dp i) (h5 : ∀ i : Int, 0 ≤ i ∧ i < 320 → M0 (zcall i) 5 = fc i) (h6 : ∀ i : Int, 0 ≤ i ∧ i < 320 → M0 (zcall i) 6 = r6 i) (hfun : ∀ g : Int, 0 ≤ g → g < M0 469 (M0 467 11) → ∃ SN : Int → Int, rFun 62 M0 nF TO SN g) (htr : rTr 62 M0 τ0 TO cf mf fc dp r6 CA ND lf m) {M τ : Nat → Int → Int} {r0 : Int → Int} (hx : ND 0) (hm : dp 0 = 0) (i0 : rInv M0 τ0 M τ 0 0 (60 * M0 467 11 + M0 475 (8 * M0 467 11 + mf 0)) (60 * M0 467 11 + M0 475 (8 * M0 467 11 + mf 0) + M0 476 (8 * M0 467 11 + mf 0)) 0 0 0) (cp : cP (M 449) (M 452) (M 455) (M 442 13) 0 0) (bv : M0 474 (8 * M0 467 11 + mf 0) ≤ M 441 1) (cnt : M 442 13 = 0) (hC : M0 476 (8 * M0 467 11 + mf 0) + nsum (kgs r6 fc CA 0) (M0 478 (8 * M0 467 11 + mf 0)).toNat ≤ 319) (lft : rLeft τ r0 []) (len : ((lf 0).length : Int) ≤ 400) (hU : U = if M0 479 (8 * M0 467 11 + mf 0) = 1 then M0 476 (8 * M0 467 11 + mf 0) + nsum (kgs r6 fc CA 0) (M0 478 (8 * M0 467 11 + mf 0)).toNat else -1) {P : Nat → Nat → Nat} {Q : zQ}
    (kt : ∀ M' τ' : Nat → Int → Int, rPost U nF TO M0 τ0 M τ M' τ' 0 0 (60 * M0 467 11 + M0 475 (8 * M0 467 11 + mf 0) + M0 476 (8 * M0 467 11 + mf 0)) (60 * M0 467 11 + M0 475 (8 * M0 467 11 + mf 0) + M0 476 (8 * M0 467 11 + mf 0)) 0 0 0 0 → M' 442 13 = M0 476 (8 * M0 467 11 + mf 0) + nsum (kgs r6 fc CA 0) (M0 478 (8 * M0 467 11 + mf 0)).toNat → rLeft τ' r0 (lf 0) → Q (zS (zupN P 441 3 62) M') none) : WC (d + 70) 256 [vR 441, vR 116, vR (zcall 0), vI 0, vI 0, vI 0] (zS (zupN P 441 3 62) M) Q := by
  have hN := rNodeA_62 (U := U) hb hn1 hcc hd4 hpg h1 h3 h5 h6 hfun htr 32 d
  obtain ⟨⟨t1, t2, t3⟩, ⟨u1, u2, u3, u4, u5, u6, u7, u8⟩, ⟨v1, v2, v3⟩, ⟨w1, w2⟩, _⟩ := id (htr 0 hx)
  have u5 : M0 67 (cf 0) = M0 475 (8 * M0 467 11 + mf 0) := u5
  have u6 : M0 68 (cf 0) = M0 476 (8 * M0 467 11 + mf 0) := u6
  obtain ⟨SN, hfu⟩ := hfun (mf 0) u2.1 u2.2.1
  obtain ⟨⟨f1, f2, f3, f4⟩, fl, ⟨fs1, fs2, ⟨n, fs3⟩⟩, fgv⟩ := id hfu
  have fr := i0.1.1
  have hr3 : ∀ i : Int, 0 ≤ i ∧ i < 320 → M (zcall i) 3 = dp i := fun i hi => by rw [fr _ (by have := zcall_in hi; omega)]; exact h3 i hi
  have hr1 : ∀ i : Int, 0 ≤ i ∧ i < 320 → M (zcall i) 1 = cf i := fun i hi => by rw [fr _ (by have := zcall_in hi; omega)]; exact h1 i hi
  have ek : M 67 (cf 0) = (60 * M0 467 11 + M0 475 (8 * M0 467 11 + mf 0)) - 60 * M0 467 11 := by
    rw [fr 67 (by decide), u5]; omega
  have lfx := (htr 0 hx).2.2.2.2.2.2.1
  have l0 : rLeft τ r0 ([] ++ tkids r6 lf (fun e => [e]) (fc 0) (SN (60 * M0 467 11 + M0 475 (8 * M0 467 11 + mf 0)) - M0 477 (8 * M0 467 11 + mf 0)).toNat) := by
    rw [show (SN (60 * M0 467 11 + M0 475 (8 * M0 467 11 + mf 0)) - M0 477 (8 * M0 467 11 + mf 0)).toNat = 0 by omega]
    exact lft
  have c0 : M 442 13 = (0 - (60 * M0 467 11 + M0 475 (8 * M0 467 11 + mf 0))) + (60 * M0 467 11 + M0 475 (8 * M0 467 11 + mf 0)) + nsum (kgs r6 fc CA 0) (SN (60 * M0 467 11 + M0 475 (8 * M0 467 11 + mf 0)) - M0 477 (8 * M0 467 11 + mf 0)).toNat := by
    rw [show (SN (60 * M0 467 11 + M0 475 (8 * M0 467 11 + mf 0)) - M0 477 (8 * M0 467 11 + mf 0)).toNat = 0 by omega]
    show _ = _ + 0
    omega
  refine ⟨_, rfl, WN_in_62 (d := d + 64) 0 0 0 0 cf hr1 dp hr3 (by omega) (by omega) u1 ?_⟩
  rw [ek]
  refine rSeg_62 (d := d + 64) (Q := Q) hb hn1 hcc hd4 hpg h1 h3 h5 h6 hfun htr hN (x := 0) (K := 0) (base := 0) (deep := 0) (b0 := 0) (C := 0 - (60 * M0 467 11 + M0 475 (8 * M0 467 11 + mf 0))) (Lb := []) (r0 := r0) (SN := SN) hx (by omega) (by omega) (by omega) hfu (by omega) (by show ((0 : Nat) : Int) + _ ≤ _; omega) (fun _ => by rw [hU]; split <;> omega) n 0 0 (60 * M0 467 11 + M0 475 (8 * M0 467 11 + mf 0)) (60 * M0 467 11 + M0 475 (8 * M0 467 11 + mf 0) + M0 476 (8 * M0 467 11 + mf 0)) fs3 0 M τ (fun _ => rfl) (fun y => absurd rfl y) (by omega) (by omega) (by omega) (fun y => absurd rfl y) (by omega) (by omega) i0 (by rw [show (0 : Int) + 0 = 0 by omega]; exact cp) (fun y => absurd y (by omega)) (by omega) c0 l0 (fun M' τ' po cn lf' x9 x10 x11 => ?_) none none none
  have fr' := po.1.1.1
  refine WN_end_62 (d := d + 64) 0 0 0 0 (cf 0) _ u1 ?_ ?_ (kt M' τ' po ?_ ?_)
  · rw [fr' 67 (by decide), fr' 68 (by decide), u5, u6]; omega
  · rw [fr' 67 (by decide), fr' 68 (by decide), u5, u6]; omega
  · rw [cn, fs2, show M0 477 (8 * M0 467 11 + mf 0) + M0 478 (8 * M0 467 11 + mf 0) - M0 477 (8 * M0 467 11 + mf 0) = M0 478 (8 * M0 467 11 + mf 0) by omega]; omega
  · rw [fs2, show M0 477 (8 * M0 467 11 + mf 0) + M0 478 (8 * M0 467 11 + mf 0) - M0 477 (8 * M0 467 11 + mf 0) = M0 478 (8 * M0 467 11 + mf 0) by omega, ← lfx] at lf'
    exact lf'
