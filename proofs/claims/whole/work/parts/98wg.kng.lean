/-! Known numbers: what is at hand, and the pair folded -/
theorem mix_mix2 {A B : Nat → Int → Int} : mix A (mix A B) = mix A B := by funext c k; unfold mix; split <;> rfl
theorem kn_L {M A : Nat → Int → Int} (f : ∀ c : Nat, ¬ (24 ≤ c ∧ c ≤ 32) → A c = M c) : FrL M A := ⟨congrFun (f 467 (by decide)) 11, fun c a b _ => f c (by omega), ⟨f 503 (by decide), f 504 (by decide)⟩, fun c j a b _ => congrFun (f c (by omega)) j⟩
theorem kRes_mix {M L τ : Nat → Int → Int} {G V pa N : Int} {n : Nat} (h : kRes M L τ G V pa N n) : kRes M L (mix L τ) G V pa N n := by
  obtain ⟨h1, h2, h3, h4⟩ := h
  refine ⟨by rw [mixc (by decide), mixc (by decide)]; exact h1, by rw [mixc (by decide)]; exact h2, fun c a b => ?_, fun k hk => by rw [mixc (by decide)]; exact h4 k hk⟩
  by_cases e : c < 467
  · funext k
    unfold mix
    rw [if_pos e]
  · rw [mixc e]; exact h3 c a b
theorem kRes_frQ {M L τ : Nat → Int → Int} {G V pa N : Int} {n : Nat} (e : τ = mix L τ) (h : kRes M L τ G V pa N n) : FrQ L τ := by
  obtain ⟨h1, h2, h3, h4⟩ := h
  exact ⟨fun c hc => h3 c (by omega) (by omega), ⟨h4 11 (by decide), fun c a b _ => h3 c (by omega) (by omega), ⟨h3 503 (by decide) (by decide), h3 504 (by decide) (by decide)⟩, fun c j a b _ => by rw [h3 c (by omega) (by omega)]⟩, h4 1 (by decide), h3 468 (by decide) (by decide), h3 505 (by decide) (by decide), h3 506 (by decide) (by decide), h3 507 (by decide) (by decide), h3 508 (by decide) (by decide)⟩
theorem kDV {V d k N : Int} (v0 : 0 ≤ V) (d0 : 0 ≤ d) (h1 : d ≤ 4 * k + 4) (k0 : 0 ≤ k) (h2 : V + d + k + 1 ≤ 8 + N) (hN : N ≤ 300) : V * (d + 1) ≤ 20000 := by
  have e : (5 * (d + 1) + 4 * V) * (5 * (d + 1) + 4 * V) = (5 * (d + 1) - 4 * V) * (5 * (d + 1) - 4 * V) + 80 * (V * (d + 1)) := by grind
  have q : 0 ≤ (5 * (d + 1) - 4 * V) * (5 * (d + 1) - 4 * V) := by
    rcases (by omega : 0 ≤ 5 * (d + 1) - 4 * V ∨ 5 * (d + 1) - 4 * V ≤ 0) with z | z
    · exact Int.mul_nonneg z z
    · exact Int.mul_nonneg_of_nonpos_of_nonpos z z
  have b : (5 * (d + 1) + 4 * V) * (5 * (d + 1) + 4 * V) ≤ 1237 * 1237 := Int.mul_le_mul (by omega) (by omega) (by omega) (by decide)
  omega
theorem ySeg_in {L : Nat → Int → Int} {ok : Int → Int → Int → Prop} {r : Int} : ∀ (n : Nat) (lv br a b : Int), ySeg L ok n lv br a b → a ≤ r → r < b → r + 1 + L 488 r + L 489 r ≤ b := by
  intro n
  induction n with
  | zero => intro lv br a b h _ _; have e : a = b := h; omega
  | succ n ih =>
    intro lv br a b h a0 b0
    rcases h with h | ⟨q1, q2, q3, q4, q5⟩
    · omega
    · have l5 := ySegE_le ⟨n, q5⟩
      have l4 := ySegE_le ⟨n, q4⟩
      by_cases e : r = a
      · rw [e]; exact l5
      · by_cases e1 : r < a + 1 + L 488 a
        · have := ih _ _ _ _ q3 (by omega) e1; omega
        · by_cases e2 : r < a + 1 + L 488 a + L 489 a
          · have := ih _ _ _ _ q4 (by omega) e2; omega
          · exact ih _ _ _ _ q5 (by omega) b0
theorem ySegE_in {L : Nat → Int → Int} {ok : Int → Int → Int → Prop} {lv br a b r : Int} (h : ySegE L ok lv br a b) (h0 : a ≤ r) (h1 : r < b) : r + 1 + L 488 r + L 489 r ≤ b := by
  obtain ⟨n, h⟩ := h
  exact ySeg_in n lv br a b h h0 h1
/-- the answers alike -/
theorem kn_ans {M M3 M1 τ : Nat → Int → Int} {G V pa N w : Int} {n : Nat} (a : kAns M M3 G V pa N n) (r : kRes M M1 τ G V pa N n) (hL : kLd M M1 V N) (hg : kGv M1 G N) (hN : 0 ≤ N) (hV : 0 ≤ V) (e9 : τ 467 109 = 120 + N) (eV : τ 467 110 = V) (gg : (G = 0 ∧ τ 479 (8 * τ 467 11 + τ 503 w) = 0) ∨ (G = 1 ∧ τ 479 (8 * τ 467 11 + τ 503 w) = 1)) {a1 : Int} (w5 : 0 ≤ a1 ∧ a1 < 6) : foldM (τ 467 129) (τ 467 130) (τ 467 131) (knB (τ 547) (if τ 479 (8 * τ 467 11 + τ 503 w) = 0 then 0 else τ 482 (τ 467 109 - 1))) (knN (τ 548) (if τ 479 (8 * τ 467 11 + τ 503 w) = 0 then 0 else τ 482 (τ 467 109 - 1))) (nsum (kOb (τ 547)) (τ 467 110).toNat) a1 = M3 25 a1 := by
  obtain ⟨⟨x0, x1, x2⟩, x3, x4, x5⟩ := a
  obtain ⟨⟨r1, r2, r3⟩, ⟨r4, r5, r6⟩, r7, r8⟩ := r
  have G3 : (if knB (τ 547) (if τ 479 (8 * τ 467 11 + τ 503 w) = 0 then 0 else τ 482 (τ 467 109 - 1)) = 0 then (0 : Int) else 1) = M3 25 3 ∧ (if knB (τ 547) (if τ 479 (8 * τ 467 11 + τ 503 w) = 0 then 0 else τ 482 (τ 467 109 - 1)) = 0 then (0 : Int) else knN (τ 548) (if τ 479 (8 * τ 467 11 + τ 503 w) = 0 then 0 else τ 482 (τ 467 109 - 1))) = M3 25 4 := by
    rw [x3, x4]
    rcases gg with ⟨g, z⟩ | ⟨g, z⟩
    · have g1 : ¬ G = 1 := by omega
      rw [if_pos z, if_neg g1, if_neg g1]
      have k0 : knB (τ 547) 0 = 1 := if_pos (by decide)
      have n0 : knN (τ 548) 0 = 0 := if_pos (by decide)
      rw [k0, n0]
      exact ⟨rfl, rfl⟩
    · rw [if_neg (show ¬ τ 479 (8 * τ 467 11 + τ 503 w) = 0 by omega), if_pos g, if_pos g, e9, r7 482 (by decide) (by decide)]
      obtain ⟨g1, g9⟩ : 1 ≤ N ∧ M1 480 (120 + N - 1) = 9 := by
        rcases hg.1 with q | q
        · omega
        · exact q.2
      obtain ⟨⟨w1, w2, w3, _⟩, ⟨_, y2, _⟩, _⟩ := hL (120 + N - 1) (by omega) (by omega)
      rw [show 120 + N - 1 - 120 = N - 1 by omega] at w3
      have op := kn_op r1 r3 (y2 (by omega))
      rw [w3]
      by_cases k : knB (τ 547) (M1 482 (120 + N - 1)) = 0
      · rw [if_pos k, if_pos k, if_pos (op.1.2 k), if_pos (op.1.2 k)]
        exact ⟨rfl, rfl⟩
      · rw [if_neg k, if_neg k, if_neg (fun q => k (op.1.1 q)), if_neg (fun q => k (op.1.1 q)), op.2 k]
        exact ⟨rfl, rfl⟩
  have G5 : nsum (kOb (τ 547)) (τ 467 110).toNat = M3 25 5 := by
    rw [x5, eV]
    refine nsum_congr V.toNat (fun v v0 v1 => ?_)
    have z := r1 v v0 (by omega)
    have y := r3 v v0 (by omega)
    unfold kOb kOn
    by_cases k : τ 547 v = 0
    · rw [if_pos k] at z
      rw [if_pos k, if_pos z]
    · rw [if_neg k] at z
      rw [if_neg k, if_neg (by omega)]
  unfold foldM
  rcases (by omega : a1 = 0 ∨ a1 = 1 ∨ a1 = 2 ∨ a1 = 3 ∨ a1 = 4 ∨ a1 = 5) with z | z | z | z | z | z <;> subst z
  · rw [if_pos rfl, r4]; exact x0.symm
  · rw [if_neg (by decide), if_pos rfl, r5]; exact x1.symm
  · rw [if_neg (by decide), if_neg (by decide), if_pos rfl, r6]; exact x2.symm
  · rw [if_neg (by decide), if_neg (by decide), if_neg (by decide), if_pos rfl]; exact G3.1
  · rw [if_neg (by decide), if_neg (by decide), if_neg (by decide), if_neg (by decide), if_pos rfl]; exact G3.2
  · rw [if_neg (by decide), if_neg (by decide), if_neg (by decide), if_neg (by decide), if_neg (by decide)]; exact G5
theorem tHold_kn_33 {M A : Nat → Int → Int} {f : Int} (l : ∀ c : Nat, ¬ (24 ≤ c ∧ c ≤ 32) → A c = M c) (h : tHold 33 M f) : tHold 33 A f := by
  obtain ⟨c0, c1, c2, c3, c4, c5, c6, c7, c8, c9, c10, c11, c12, c13, c14, hc, hh, hr⟩ := h
  refine ⟨c0, c1, c2, c3, c4, c5, c6, c7, c8, c9, c10, c11, c12, c13, c14, ?_, ?_, ?_⟩
  · obtain ⟨h0, h1, h2, h3, h4, h5, h6, h7, h8, h9, h10, h11, h12, h13, h14⟩ := hc
    exact ⟨fun i hi => by rw [l _ (by have := zcall_in hi; omega)]; exact h0 i hi, fun i hi => by rw [l _ (by have := zcall_in hi; omega)]; exact h1 i hi, fun i hi => by rw [l _ (by have := zcall_in hi; omega)]; exact h2 i hi, fun i hi => by rw [l _ (by have := zcall_in hi; omega)]; exact h3 i hi, fun i hi => by rw [l _ (by have := zcall_in hi; omega)]; exact h4 i hi, fun i hi => by rw [l _ (by have := zcall_in hi; omega)]; exact h5 i hi, fun i hi => by rw [l _ (by have := zcall_in hi; omega)]; exact h6 i hi, fun i hi => by rw [l _ (by have := zcall_in hi; omega)]; exact h7 i hi, fun i hi => by rw [l _ (by have := zcall_in hi; omega)]; exact h8 i hi, fun i hi => by rw [l _ (by have := zcall_in hi; omega)]; exact h9 i hi, fun i hi => by rw [l _ (by have := zcall_in hi; omega)]; exact h10 i hi, fun i hi => by rw [l _ (by have := zcall_in hi; omega)]; exact h11 i hi, fun i hi => by rw [l _ (by have := zcall_in hi; omega)]; exact h12 i hi, fun i hi => by rw [l _ (by have := zcall_in hi; omega)]; exact h13 i hi, fun i hi => by rw [l _ (by have := zcall_in hi; omega)]; exact h14 i hi⟩
  · rw [l (33 + 7) (by decide), l (33 + 8) (by decide), l (33 + 12) (by decide), l (33 + 10) (by decide), l (33 + 4) (by decide), l (33 + 14) (by decide), l 22 (by decide), l 23 (by decide), l 120 (by decide), l 118 (by decide), l 119 (by decide), l 116 (by decide), l (33 + 6) (by decide), l 33 (by decide)]
    exact hh
  · rw [l 120 (by decide), l 19 (by decide)]; exact hr
/-- what the result's lines are, for the numbers known, by what is at hand -/
theorem SB_known_33 {L0 : Nat} {xs : Nat → Int32} {m : Nat} {S : Int → Int} {f : Int} {P : Nat → Nat → Nat} {M : Nat → Int → Int} (h : SB 33 L0 xs m S f P M) : ∃ G : Int, ((G = 0 ∧ M 479 (8 * M 467 11 + M 503 f) = 0) ∨ (G = 1 ∧ M 479 (8 * M 467 11 + M 503 f) = 1)) ∧ (0 ≤ M 441 1 ∧ M 441 1 ≤ 308) ∧ (0 ≤ M 442 13 ∧ M 442 13 ≤ 300) ∧ (0 ≤ M 441 2 ∧ M 441 2 ≤ M 441 1) ∧ (M 441 2 = M 473 (8 * M 467 11 + M 503 f) ∧ (0 ≤ M 503 f ∧ M 503 f < 8)) ∧ ∀ L : Nat → Int → Int, rLn M L → kLd M L (M 441 1) (M 442 13) ∧ kGv L G (M 442 13) ∧ ySegE L (okR M L (M 469 (M 467 11)) (TOg M)) 0 0 120 (120 + (M 442 13 - G)) := by
  obtain ⟨⟨c1, c2, c3⟩, _⟩ := SB_fin_33 h
  obtain ⟨hA, e15, hold⟩ := h
  obtain ⟨s1, s2, s3, s4, s5, s6, s7, s8⟩ := id hA
  obtain ⟨b1, b2, b3, b4, b5, b6, b7⟩ := id s2
  obtain ⟨i1, ⟨i2, i2b, i2c⟩, i3, i4, i5, i6, i7, i8⟩ := id s8
  have fv : 0 ≤ f ∧ f < M 469 (M 467 11) := ⟨s6.1, by rw [← i2]; exact s6.2⟩
  have pf := i6.1 f fv.1 fv.2
  have pb := i8 (M 503 f) pf.1.1 pf.1.2
  have par : M 441 2 = M 473 (8 * M 467 11 + M 503 f) := hold.1.1.trans pf.2.1
  have par2 : M 441 2 ≤ M 441 1 := by rw [hold.1.1]; exact hold.2.1
  have rw_ := hold.1.2.1
  have n8 := i6.2.2.1
  have giv := (s3.1.2.2.2.1 f fv.1 fv.2).2.2
  have gy := (s3.1.2.1 (M 503 f) pf.1.1 pf.1.2).2.1
  obtain ⟨SN, hfu⟩ := rFun_of_33 s8 s3.1 (M 503 f) pf.1.1 pf.1.2
  have fgv := hfu.2.2.2
  have U : M (33 + 9) f = ygiv M (M 503 f) := giv
  have DB : ∀ i : Int, 0 ≤ i → i < M 442 13 → M 441 1 * (M 449 i + 1) ≤ 20000 := fun i x0 x1 => by
    obtain ⟨_, _, k, k0, k1, k2⟩ := rw_ i x0 x1
    have d0 := (c1.2.1 i x0 x1).1.1.1
    exact kDV c3.1 (by omega) (by omega) k0 (by omega) (by omega)
  have main : ∀ G : Int, (G = 0 ∨ G = 1) → (∀ i : Int, 0 ≤ i → i < M 442 13 → ((M 443 i = 9 ↔ (G = 1 ∧ i + 1 = M 442 13)) ∧ (M 443 i = 9 → M 449 i ≤ 0))) → (G = 1 → 1 ≤ M 442 13) → ∀ L : Nat → Int → Int, rLn M L → kLd M L (M 441 1) (M 442 13) ∧ kGv L G (M 442 13) ∧ ySegE L (okR M L (M 469 (M 467 11)) (TOg M)) 0 0 120 (120 + (M 442 13 - G)) := fun G g01 h9 hn L hl => by
    obtain ⟨fl, _, rel, ys⟩ := hl
    have cc := rCode rel ys c1
    have KD : kLd M L (M 441 1) (M 442 13) := fun r r0 r1 => by
      obtain ⟨lv, br, _, ok⟩ := ySeg_at' ys r0 r1
      obtain ⟨⟨o1, _, _⟩, o2, o3, o4, o5, o6⟩ := ok
      obtain ⟨x1, x2, x3, x4, x5⟩ := o2
      have c := cc (r - 120) (by omega) (by omega)
      rw [show r - 120 + 120 = r by omega] at c
      obtain ⟨z1, z2, z3, z4, z5, z6, z7, z8, z9⟩ := c
      have rb := (rw_ (r - 120) (by omega) (by omega)).1
      have en := ySegE_in ys r0 r1
      refine ⟨⟨z1, z2, z3, z4, z7, z8⟩, ⟨x1, x2, x3, x4, by rw [← z3]; omega⟩, ⟨o3.2.1, o3.2.2.2.1, en⟩, fun q => o5.resolve_left q, o6, fun q => by have := o4.2.2.1 q; omega, fun _ => DB (r - 120) (by omega) (by omega)⟩
    refine ⟨KD, ⟨?_, fun q q0 q1 => ?_⟩, ?_⟩
    · rcases g01 with g | g
      · exact Or.inl g
      · refine Or.inr ⟨g, hn g, ?_⟩
        have n1 := hn g
        have z := (h9 (M 442 13 - 1) (by omega) (by omega)).1.2 ⟨g, by omega⟩
        have y := (KD (120 + M 442 13 - 1) (by omega) (by omega)).1.1
        rw [show 120 + M 442 13 - 1 - 120 = M 442 13 - 1 by omega] at y
        rw [← y]; exact z
    · have y := (KD q q0 (by rcases g01 with g | g <;> omega)).1.1
      rw [← y]
      intro z
      have x := (h9 (q - 120) (by omega) (by rcases g01 with g | g <;> omega)).1.1 z
      omega
    · rcases g01 with g | g
      · rw [g, show M 442 13 - 0 = M 442 13 by omega]; exact ys
      · have n1 := hn g
        obtain ⟨n, yn⟩ := ys
        rw [g, show 120 + (M 442 13 - 1) = 120 + M 442 13 - 1 by omega]
        refine ySeg_cutr (A := 120) (fun lv br q => ?_) (fun r r0 r1 => by have := (KD r r0 r1).2.2.1; omega) n 0 120 (Int.le_refl _) yn (by omega)
        have l0 := q.1.1
        rw [show 120 + M 442 13 - 1 - 120 = M 442 13 - 1 by omega] at l0
        have z := (h9 (M 442 13 - 1) (by omega) (by omega))
        have y := z.2 (z.1.2 ⟨g, by omega⟩)
        have d0 := (c1.2.1 (M 442 13 - 1) (by omega) (by omega)).1.1.1
        omega
  rcases gy with z | z
  · have u : M (33 + 9) f = -2 := by rw [U]; unfold ygiv; rw [if_pos z]
    refine ⟨0, Or.inl ⟨rfl, z⟩, ⟨c3.1, by omega⟩, c2, ⟨by omega, par2⟩, ⟨par, ⟨pf.1.1, by omega⟩⟩, main 0 (Or.inl rfl) (fun i x0 x1 => ?_) (fun q => by omega)⟩
    obtain ⟨_, ⟨y1, y2⟩, _⟩ := rw_ i x0 x1
    rw [if_pos u] at y1
    exact ⟨⟨fun q => by have := y1.1 q; omega, fun q => by omega⟩, y2⟩
  · have u : ¬ M (33 + 9) f = -2 := by rw [U]; unfold ygiv; rw [if_neg (by omega)]; exact (fgv z).2.2
    have nb := hold.1.2.2 u
    refine ⟨1, Or.inr ⟨rfl, z⟩, ⟨c3.1, by omega⟩, c2, ⟨by omega, par2⟩, ⟨par, ⟨pf.1.1, by omega⟩⟩, main 1 (Or.inr rfl) (fun i x0 x1 => ?_) (fun _ => nb)⟩
    obtain ⟨_, ⟨y1, y2⟩, _⟩ := rw_ i x0 x1
    rw [if_neg u] at y1
    exact ⟨⟨fun q => ⟨rfl, (y1.1 q).2⟩, fun q => y1.2 ⟨rfl, q.2⟩⟩, y2⟩
/-- the class goes through the result, and what it finds is what the reference finds in lines like its -/
theorem goT_h_33 {d : Nat} {P : Nat → Nat → Nat} {Q : zQ} {L0 : Nat} {xs : Nat → Int32} {m : Nat} {S : Int → Int} {f : Int} {P0 : Nat → Nat → Nat} {M : Nat → Int → Int} (h : SB 33 L0 xs m S f P0 M) (hQ : ∀ M3 : Nat → Int → Int, (∀ c : Nat, ¬ (24 ≤ c ∧ c ≤ 32) → M3 c = M c) → (∃ G : Int, ((G = 0 ∧ M 479 (8 * M 467 11 + M 503 f) = 0) ∨ (G = 1 ∧ M 479 (8 * M 467 11 + M 503 f) = 1)) ∧ ∀ L : Nat → Int → Int, rLn M L → ∃ n : Nat, ySeg L (okR M L (M 469 (M 467 11)) (TOg M)) n 0 0 120 (120 + (M 442 13 - G)) ∧ kAns M M3 G (M 441 1) (M 441 2) (M 442 13) n) → Q (zS P M3) none) : WC (d + 7) 165 [vR 24, vR 442, vI (M 441 1), vI (M 441 2)] (zS P M) Q := by
  obtain ⟨G, k1, k2, k3, k4, k5, k6⟩ := SB_known_33 h
  obtain ⟨_, Lb, hLb⟩ := SB_fin_33 h
  obtain ⟨q1, q2, n, q3⟩ := k6 Lb hLb
  refine goThrough_c (d := d) (L := Lb) (nF := M 469 (M 467 11)) (TO := TOg M) (V := M 441 1) (pa := M 441 2) (N := M 442 13) (G := G) (n := n) k2 k3 k4 rfl q1 q2 q3 (fun M3 fr an => hQ M3 fr ⟨G, k1, fun L hL => ?_⟩)
  obtain ⟨u1, u2, n', u3⟩ := k6 L hL
  refine ⟨n', u3, ?_⟩
  have e := kEnd_fuel (pa := M 441 2) q1 u1 q3 u3 (by rcases k1 with z | z <;> omega)
  unfold kAns at an ⊢
  rw [← e]
  exact an
theorem SB_kn_33 {L0 : Nat} {xs : Nat → Int32} {m : Nat} {S : Int → Int} {f : Int} {P P' : Nat → Nat → Nat} {M M3 : Nat → Int → Int} (h : SB 33 L0 xs m S f P M) (e1 : P' 16 11 = P 16 11) (e2 : P' 16 12 = P 16 12) (fr : ∀ c : Nat, ¬ (24 ≤ c ∧ c ≤ 32) → M3 c = M c) : SB 33 L0 xs m S f P' M3 := by
  have hh := SA_hold_33 h.1
  obtain ⟨⟨s1, s2, s3, s4, s5, s6, s7, s8⟩, e15, hold⟩ := h
  have low : ∀ c : Nat, ¬ (24 ≤ c ∧ c ≤ 32) → M3 c = M c := fr
  have fp : FrP M M3 := ⟨congrFun (low 467 (by decide)) 11, fun c hc => low c (by unfold gCell at hc; simp at hc; omega)⟩
  have hip := iprog_fr33 fp s8
  have hx := ipx_fr33 fp s3.1
  have hold2 : rHold 33 M3 f := rHold_fr (p := 33) (M := M) (A := M3) (by decide) (fun c a b => low c (by omega)) (fun c a b => low c (by omega)) (frP_L fp) s8 s3.1 hold
  have e16 : M3 16 = M 16 := low 16 (by decide)
  have e0 : M3 33 0 = M 33 0 := congrFun (low 33 (by decide)) 0
  have th : tHold 33 M3 f := tHold_kn_33 low hh
  refine ⟨⟨e1.trans s1, IB_frG ⟨fun c hc => low c (fun z => by unfold wCell at hc; simp at hc; omega), fun k _ => congrFun (low 16 (by decide)) k, congrFun (low 467 (by decide)) 1, congrFun (low 467 (by decide)) 11⟩ e1 e2 s2, ⟨hx, Or.inr ?_⟩, Or.inr ?_, by rw [e16]; exact s5, ⟨s6.1, by rw [e0]; exact s6.2⟩, (low 1 (by decide)).trans s7, hip⟩, by rw [e16]; exact e15, hold2⟩
  · rw [e16, e0, s5]; exact ⟨s6.1, s6.2, th⟩
  · rw [e16, e0, e15, s5]; exact ⟨rfl, s6.1, s6.2, hold2⟩
set_option maxHeartbeats 1000000 in
theorem pair_19_33 {L0 : Nat} {xs : Nat → Int32} {m d : Nat} {P : Nat → Nat → Nat} {M : Nat → Int → Int} {a0 a1 : Int} (hB : IB L0 xs m P M) (hk : KT 33 M) (hR : RT 33 M) (hp : P 16 11 = 33) (hip : iprog 33 M) {Q1 : zQ} (h1 : ∀ (P1 : Nat → Nat → Nat) (M1 : Nat → Int → Int) (x : Int), M1 1 = M 1 → (∀ (Q2 : zQ), (∀ (P2 : Nat → Nat → Nat) (M2 : Nat → Int → Int), M2 1 = M 1 → IB L0 xs (m + 1) P2 M2 ∧ KP P2 M2 ∧ RP P2 M2 → Q2 (zS P2 M2) (some (vI x))) → WC (d + 80) 142 [vR 467, vI a0, vI a1] (zS P1 M1) Q2) → Q1 (zS P1 M1) (some (vI x))) : WC (d + 80) 21 [vR 16, vI a0, vI a1] (zS P M) Q1 := by
  obtain ⟨b1, b2, b3, b4, b5, b6, b7⟩ := id hB
  obtain ⟨i1, ⟨i2, i2b, i2c⟩, i3, i4, i5, i6, i7, i8⟩ := id hip
  have eP : zupN P 16 11 33 = P := by
    have := zupN_self P 16 11
    rw [hp] at this
    exact this
  have kp : KP P M ∧ RP P M := ⟨⟨fun z => by first | exact hk | (rw [hp] at z; exact absurd z (by decide)), fun z => by first | exact hk | (rw [hp] at z; exact absurd z (by decide))⟩, ⟨fun z => by first | exact hR | (rw [hp] at z; exact absurd z (by decide)), fun z => by first | exact hR | (rw [hp] at z; exact absurd z (by decide))⟩⟩
  have up : IB L0 xs (m + 1) (zupN P 16 11 33) M ∧ KP (zupN P 16 11 33) M ∧ RP (zupN P 16 11 33) M := by rw [eP]; exact ⟨IB_up hB, kp.1, kp.2⟩
  have hn : 0 ≤ M 469 (M 467 11) ∧ M 469 (M 467 11) ≤ 8 := i6.2.2.1
  have hpp : ∀ xf : Int, 0 ≤ xf → xf < M 469 (M 467 11) → 0 ≤ M 503 xf ∧ M 503 xf < 8 := fun xf x0 x1 => (b5 xf x0 (by omega)).1
  refine eqC eP.symm rfl (folded_c_33 (d := d + 5) (HK1 := fun P1 M1 => SA 33 L0 xs m (M 1) a0 P1 M1) (HK2 := fun _ _ P2 M2 => SB 33 L0 xs m (M 1) a0 P2 M2) (HK3 := fun _ _ P2 M2 P3 M3 => P3 = P2 ∧ (∀ c : Nat, ¬ (24 ≤ c ∧ c ≤ 32) → M3 c = M2 c) ∧ ∃ G : Int, ((G = 0 ∧ M2 479 (8 * M2 467 11 + M2 503 a0) = 0) ∨ (G = 1 ∧ M2 479 (8 * M2 467 11 + M2 503 a0) = 1)) ∧ ∀ L : Nat → Int → Int, rLn M2 L → ∃ n : Nat, ySeg L (okR M2 L (M2 469 (M2 467 11)) (TOg M2)) n 0 0 120 (120 + (M2 442 13 - G)) ∧ kAns M2 M3 G (M2 441 1) (M2 441 2) (M2 442 13) n) a0 a1 (fun Q' q0 q1 => growTree_h_33 (d := d + 5) hB hk hR hp hip q0 q1) (fun P1 M1 s Q' q => writeResult_h_33 (d := d + 5) s q) (fun P1 M1 s P2 M2 s2 Q' q => ?_) (fun nq => ?_) (fun P1 M1 s P2 M2 s2 P3 M3 s3 w5 => ?_))
  · exact goT_h_33 (d := d + 72) s2 (fun M3 fr fam => q P2 M3 ⟨rfl, fr, fam⟩)
  · refine h1 (zupN P 16 11 33) M _ rfl (fun Q2 h2 => folded_m (d := d + 64) (HK1 := fun _ => False) a0 a1 i1 hn (fun _ z => z.elim) hpp (fun v w => absurd ⟨⟨w.1, by omega⟩, v.1, by rw [i2]; exact v.2⟩ nq) (fun _ => h2 _ M rfl up) (fun _ z => z.elim))
  · obtain ⟨e1, fr, G, gg, fam⟩ := s3
    subst e1
    have s3 := SB_kn_33 (P' := P3) s2 rfl rfl fr
    obtain ⟨u1, u2, u3, u4, u5, u6, u7, u8⟩ := id s3.1
    obtain ⟨j1, ⟨j2, j2b, j2c⟩, j3, j4, j5, j6, j7, j8⟩ := id u8
    have hpp3 : ∀ xf : Int, 0 ≤ xf → xf < M3 469 (M3 467 11) → 0 ≤ M3 503 xf ∧ M3 503 xf < 8 := fun xf x0 x1 => (u2.2.2.2.2.1 xf x0 (by have := j6.2.2.1.2; omega)).1
    obtain ⟨G2, k1, k2, k3, k4, k5, k6⟩ := SB_known_33 s2
    refine h1 (zupN P3 16 11 33) M3 _ u7 (fun Q2 h2 => folded_m (d := d + 64) (HK1 := fun τ => ∃ (M1 : Nat → Int → Int) (n : Nat), LK 33 M3 M3 M1 a0 ∧ τ = mix M1 τ ∧ kLd M2 M1 (M2 441 1) (M2 442 13) ∧ kGv M1 G (M2 442 13) ∧ kAns M2 M3 G (M2 441 1) (M2 441 2) (M2 442 13) n ∧ kRes M2 M1 τ G (M2 441 1) (M2 441 2) (M2 442 13) n ∧ (M1 467 110 = M2 441 1 ∧ M1 467 109 = 120 + M2 442 13) ∧ FrL M2 M1) a0 a1 j1 j6.2.2.1 (fun τ z => ?_) hpp3 (fun v w Q' qq => ?_) (fun w => ?_) (fun τ z w => ?_))
    · obtain ⟨M1, n, z1, z2, z3, z4, z5, z6, z7, z8⟩ := z
      obtain ⟨r1, r2, r7, r8⟩ := id z6
      obtain ⟨f1, f2, ⟨f3, f4⟩, f5⟩ := z8
      rw [r8 11 (by decide), r8 109 (by decide), r8 110 (by decide), r7 503 (by decide) (by decide), r7 479 (by decide) (by decide), r7 482 (by decide) (by decide), z7.1, z7.2, f1, f3, f2 479 (by decide) (by decide) (by decide)]
      have c11 := fr 467 (by decide)
      have k52 := k5.2
      rw [← c11]
      refine ⟨by rw [c11]; rw [c11] at j1; omega, by rw [c11]; rcases gg with y | y <;> omega, fun y => ?_⟩
      rw [c11] at y
      obtain ⟨g1, g9⟩ : 1 ≤ M2 442 13 ∧ M1 480 (120 + M2 442 13 - 1) = 9 := by
        rcases z4.1 with q | q
        · rcases gg with g | g <;> omega
        · exact q.2
      have x := (z3 (120 + M2 442 13 - 1) (by omega) (by omega)).2.1
      refine ⟨x.2.2.2.2, ?_⟩
      have o := x.2.1 (by omega)
      unfold opnd at o
      omega
    · refine ⟨_, rfl, ?_⟩
      refine KR_lay (d := d + 72) (HK := fun M1 => LK 33 M3 M3 M1 a0) (M3 503 a0) (fun Q3 hq3 => lays_k_33 (d := d + 64) s3.1 (fun _ _ => rfl) s3.2.2 (fun M1 z => hq3 M1 z)) (fun M1 z => ?_)
      have tg := frL_tog (kn_L fr) s2.1.2.2.2.2.2.2.2 s2.1.2.2.1.1
      have lnz := LK_ln_33 (L0 := L0) (xs := xs) (m := m) (P := P3) (S := M 1) z
      have ln2 := rLn_cong (fun c a b => fr c (by omega)) (kn_L fr) (fr 505 (by decide) ▸ rfl) (fr 506 (by decide) ▸ rfl) tg lnz.1
      obtain ⟨n, sg, an⟩ := fam M1 ln2
      obtain ⟨y1, y2, _⟩ := k6 M1 ln2
      have eG : G2 = G := by rcases gg with g | g <;> rcases k1 with q | q <;> omega
      rw [eG] at y2
      have rel := ln2.2.2.1
      have fl2 : FrL M2 M1 := ln2.1
      have c503 : M3 503 a0 = M2 503 a0 := congrFun (fr 503 (by decide)) a0
      refine laysKnown_c (d := d + 72) (M := M2) (L := M1) (nF := M2 469 (M2 467 11)) (TO := TOg M2) (V := M2 441 1) (pa := M2 441 2) (N := M2 442 13) (G := G) (n := n) k2 k3 ⟨rel.2.1, rel.1⟩ ?_ (by rw [c503]; exact k5.2) ?_ y1 y2 sg (fun τ3 kr => qq _ ⟨M1, n, z, ?_, y1, y2, an, ?_, ⟨rel.2.1, rel.1⟩, fl2⟩)
      · rw [fl2.1]; have := congrFun (fr 467 (by decide)) 11; rw [← this]; exact j1
      · rw [fl2.1, fl2.2.1 473 (by decide) (by decide) (by decide), c503]; exact k5.1.symm
      · exact mix_mix2.symm
      · exact kRes_mix kr
    · exact absurd ⟨⟨u6.1, by rw [← j2]; exact u6.2⟩, w5.1, by omega⟩ w
    · obtain ⟨M1, n, z1, z2, z3, z4, z5, z6, z7, z8⟩ := z
      have en := LK_end_33 (P' := zupN P3 16 11 33) s3.1 z1 u1.symm rfl
      have fq : FrQ M1 τ := kRes_frQ z2 z6
      have y := IB_frQ fq rfl rfl en.2.1 en.2.2.1
      refine eqR ?_ (h2 _ τ ((fq.1 1 (by decide)).trans en.1) ⟨y.1, y.2.1, y.2.2 en.2.2.2⟩)
      obtain ⟨r1, r2, r7, r8⟩ := id z6
      exact kn_ans z5 z6 z3 z4 k3.1 k2.1 ((r8 109 (by decide)).trans z7.2) ((r8 110 (by decide)).trans z7.1) (by rw [r8 11 (by decide), r7 479 (by decide) (by decide), r7 503 (by decide) (by decide), z8.1, z8.2.2.1.1, z8.2.1 479 (by decide) (by decide) (by decide)]; exact gg) w5
theorem tHold_kn_62 {M A : Nat → Int → Int} {f : Int} (l : ∀ c : Nat, ¬ (24 ≤ c ∧ c ≤ 32) → A c = M c) (h : tHold 62 M f) : tHold 62 A f := by
  obtain ⟨c0, c1, c2, c3, c4, c5, c6, c7, c8, c9, c10, c11, c12, c13, c14, hc, hh, hr⟩ := h
  refine ⟨c0, c1, c2, c3, c4, c5, c6, c7, c8, c9, c10, c11, c12, c13, c14, ?_, ?_, ?_⟩
  · obtain ⟨h0, h1, h2, h3, h4, h5, h6, h7, h8, h9, h10, h11, h12, h13, h14⟩ := hc
    exact ⟨fun i hi => by rw [l _ (by have := zcall_in hi; omega)]; exact h0 i hi, fun i hi => by rw [l _ (by have := zcall_in hi; omega)]; exact h1 i hi, fun i hi => by rw [l _ (by have := zcall_in hi; omega)]; exact h2 i hi, fun i hi => by rw [l _ (by have := zcall_in hi; omega)]; exact h3 i hi, fun i hi => by rw [l _ (by have := zcall_in hi; omega)]; exact h4 i hi, fun i hi => by rw [l _ (by have := zcall_in hi; omega)]; exact h5 i hi, fun i hi => by rw [l _ (by have := zcall_in hi; omega)]; exact h6 i hi, fun i hi => by rw [l _ (by have := zcall_in hi; omega)]; exact h7 i hi, fun i hi => by rw [l _ (by have := zcall_in hi; omega)]; exact h8 i hi, fun i hi => by rw [l _ (by have := zcall_in hi; omega)]; exact h9 i hi, fun i hi => by rw [l _ (by have := zcall_in hi; omega)]; exact h10 i hi, fun i hi => by rw [l _ (by have := zcall_in hi; omega)]; exact h11 i hi, fun i hi => by rw [l _ (by have := zcall_in hi; omega)]; exact h12 i hi, fun i hi => by rw [l _ (by have := zcall_in hi; omega)]; exact h13 i hi, fun i hi => by rw [l _ (by have := zcall_in hi; omega)]; exact h14 i hi⟩
  · rw [l (62 + 7) (by decide), l (62 + 8) (by decide), l (62 + 12) (by decide), l (62 + 10) (by decide), l (62 + 4) (by decide), l (62 + 14) (by decide), l 22 (by decide), l 23 (by decide), l 120 (by decide), l 118 (by decide), l 119 (by decide), l 116 (by decide), l (62 + 6) (by decide), l 62 (by decide)]
    exact hh
  · rw [l 120 (by decide), l 19 (by decide)]; exact hr
/-- what the result's lines are, for the numbers known, by what is at hand -/
theorem SB_known_62 {L0 : Nat} {xs : Nat → Int32} {m : Nat} {S : Int → Int} {f : Int} {P : Nat → Nat → Nat} {M : Nat → Int → Int} (h : SB 62 L0 xs m S f P M) : ∃ G : Int, ((G = 0 ∧ M 479 (8 * M 467 11 + M 503 f) = 0) ∨ (G = 1 ∧ M 479 (8 * M 467 11 + M 503 f) = 1)) ∧ (0 ≤ M 441 1 ∧ M 441 1 ≤ 308) ∧ (0 ≤ M 442 13 ∧ M 442 13 ≤ 300) ∧ (0 ≤ M 441 2 ∧ M 441 2 ≤ M 441 1) ∧ (M 441 2 = M 473 (8 * M 467 11 + M 503 f) ∧ (0 ≤ M 503 f ∧ M 503 f < 8)) ∧ ∀ L : Nat → Int → Int, rLn M L → kLd M L (M 441 1) (M 442 13) ∧ kGv L G (M 442 13) ∧ ySegE L (okR M L (M 469 (M 467 11)) (TOg M)) 0 0 120 (120 + (M 442 13 - G)) := by
  obtain ⟨⟨c1, c2, c3⟩, _⟩ := SB_fin_62 h
  obtain ⟨hA, e15, hold⟩ := h
  obtain ⟨s1, s2, s3, s4, s5, s6, s7, s8⟩ := id hA
  obtain ⟨b1, b2, b3, b4, b5, b6, b7⟩ := id s2
  obtain ⟨i1, ⟨i2, i2b, i2c⟩, i3, i4, i5, i6, i7, i8⟩ := id s8
  have fv : 0 ≤ f ∧ f < M 469 (M 467 11) := ⟨s6.1, by rw [← i2]; exact s6.2⟩
  have pf := i6.1 f fv.1 fv.2
  have pb := i8 (M 503 f) pf.1.1 pf.1.2
  have par : M 441 2 = M 473 (8 * M 467 11 + M 503 f) := hold.1.1.trans pf.2.1
  have par2 : M 441 2 ≤ M 441 1 := by rw [hold.1.1]; exact hold.2.1
  have rw_ := hold.1.2.1
  have n8 := i6.2.2.1
  have giv := (s3.1.2.2.2.1 f fv.1 fv.2).2.2
  have gy := (s3.1.2.1 (M 503 f) pf.1.1 pf.1.2).2.1
  obtain ⟨SN, hfu⟩ := rFun_of_62 s8 s3.1 (M 503 f) pf.1.1 pf.1.2
  have fgv := hfu.2.2.2
  have U : M (62 + 9) f = ygiv M (M 503 f) := giv
  have DB : ∀ i : Int, 0 ≤ i → i < M 442 13 → M 441 1 * (M 449 i + 1) ≤ 20000 := fun i x0 x1 => by
    obtain ⟨_, _, k, k0, k1, k2⟩ := rw_ i x0 x1
    have d0 := (c1.2.1 i x0 x1).1.1.1
    exact kDV c3.1 (by omega) (by omega) k0 (by omega) (by omega)
  have main : ∀ G : Int, (G = 0 ∨ G = 1) → (∀ i : Int, 0 ≤ i → i < M 442 13 → ((M 443 i = 9 ↔ (G = 1 ∧ i + 1 = M 442 13)) ∧ (M 443 i = 9 → M 449 i ≤ 0))) → (G = 1 → 1 ≤ M 442 13) → ∀ L : Nat → Int → Int, rLn M L → kLd M L (M 441 1) (M 442 13) ∧ kGv L G (M 442 13) ∧ ySegE L (okR M L (M 469 (M 467 11)) (TOg M)) 0 0 120 (120 + (M 442 13 - G)) := fun G g01 h9 hn L hl => by
    obtain ⟨fl, _, rel, ys⟩ := hl
    have cc := rCode rel ys c1
    have KD : kLd M L (M 441 1) (M 442 13) := fun r r0 r1 => by
      obtain ⟨lv, br, _, ok⟩ := ySeg_at' ys r0 r1
      obtain ⟨⟨o1, _, _⟩, o2, o3, o4, o5, o6⟩ := ok
      obtain ⟨x1, x2, x3, x4, x5⟩ := o2
      have c := cc (r - 120) (by omega) (by omega)
      rw [show r - 120 + 120 = r by omega] at c
      obtain ⟨z1, z2, z3, z4, z5, z6, z7, z8, z9⟩ := c
      have rb := (rw_ (r - 120) (by omega) (by omega)).1
      have en := ySegE_in ys r0 r1
      refine ⟨⟨z1, z2, z3, z4, z7, z8⟩, ⟨x1, x2, x3, x4, by rw [← z3]; omega⟩, ⟨o3.2.1, o3.2.2.2.1, en⟩, fun q => o5.resolve_left q, o6, fun q => by have := o4.2.2.1 q; omega, fun _ => DB (r - 120) (by omega) (by omega)⟩
    refine ⟨KD, ⟨?_, fun q q0 q1 => ?_⟩, ?_⟩
    · rcases g01 with g | g
      · exact Or.inl g
      · refine Or.inr ⟨g, hn g, ?_⟩
        have n1 := hn g
        have z := (h9 (M 442 13 - 1) (by omega) (by omega)).1.2 ⟨g, by omega⟩
        have y := (KD (120 + M 442 13 - 1) (by omega) (by omega)).1.1
        rw [show 120 + M 442 13 - 1 - 120 = M 442 13 - 1 by omega] at y
        rw [← y]; exact z
    · have y := (KD q q0 (by rcases g01 with g | g <;> omega)).1.1
      rw [← y]
      intro z
      have x := (h9 (q - 120) (by omega) (by rcases g01 with g | g <;> omega)).1.1 z
      omega
    · rcases g01 with g | g
      · rw [g, show M 442 13 - 0 = M 442 13 by omega]; exact ys
      · have n1 := hn g
        obtain ⟨n, yn⟩ := ys
        rw [g, show 120 + (M 442 13 - 1) = 120 + M 442 13 - 1 by omega]
        refine ySeg_cutr (A := 120) (fun lv br q => ?_) (fun r r0 r1 => by have := (KD r r0 r1).2.2.1; omega) n 0 120 (Int.le_refl _) yn (by omega)
        have l0 := q.1.1
        rw [show 120 + M 442 13 - 1 - 120 = M 442 13 - 1 by omega] at l0
        have z := (h9 (M 442 13 - 1) (by omega) (by omega))
        have y := z.2 (z.1.2 ⟨g, by omega⟩)
        have d0 := (c1.2.1 (M 442 13 - 1) (by omega) (by omega)).1.1.1
        omega
  rcases gy with z | z
  · have u : M (62 + 9) f = -2 := by rw [U]; unfold ygiv; rw [if_pos z]
    refine ⟨0, Or.inl ⟨rfl, z⟩, ⟨c3.1, by omega⟩, c2, ⟨by omega, par2⟩, ⟨par, ⟨pf.1.1, by omega⟩⟩, main 0 (Or.inl rfl) (fun i x0 x1 => ?_) (fun q => by omega)⟩
    obtain ⟨_, ⟨y1, y2⟩, _⟩ := rw_ i x0 x1
    rw [if_pos u] at y1
    exact ⟨⟨fun q => by have := y1.1 q; omega, fun q => by omega⟩, y2⟩
  · have u : ¬ M (62 + 9) f = -2 := by rw [U]; unfold ygiv; rw [if_neg (by omega)]; exact (fgv z).2.2
    have nb := hold.1.2.2 u
    refine ⟨1, Or.inr ⟨rfl, z⟩, ⟨c3.1, by omega⟩, c2, ⟨by omega, par2⟩, ⟨par, ⟨pf.1.1, by omega⟩⟩, main 1 (Or.inr rfl) (fun i x0 x1 => ?_) (fun _ => nb)⟩
    obtain ⟨_, ⟨y1, y2⟩, _⟩ := rw_ i x0 x1
    rw [if_neg u] at y1
    exact ⟨⟨fun q => ⟨rfl, (y1.1 q).2⟩, fun q => y1.2 ⟨rfl, q.2⟩⟩, y2⟩
/-- the class goes through the result, and what it finds is what the reference finds in lines like its -/
theorem goT_h_62 {d : Nat} {P : Nat → Nat → Nat} {Q : zQ} {L0 : Nat} {xs : Nat → Int32} {m : Nat} {S : Int → Int} {f : Int} {P0 : Nat → Nat → Nat} {M : Nat → Int → Int} (h : SB 62 L0 xs m S f P0 M) (hQ : ∀ M3 : Nat → Int → Int, (∀ c : Nat, ¬ (24 ≤ c ∧ c ≤ 32) → M3 c = M c) → (∃ G : Int, ((G = 0 ∧ M 479 (8 * M 467 11 + M 503 f) = 0) ∨ (G = 1 ∧ M 479 (8 * M 467 11 + M 503 f) = 1)) ∧ ∀ L : Nat → Int → Int, rLn M L → ∃ n : Nat, ySeg L (okR M L (M 469 (M 467 11)) (TOg M)) n 0 0 120 (120 + (M 442 13 - G)) ∧ kAns M M3 G (M 441 1) (M 441 2) (M 442 13) n) → Q (zS P M3) none) : WC (d + 7) 165 [vR 24, vR 442, vI (M 441 1), vI (M 441 2)] (zS P M) Q := by
  obtain ⟨G, k1, k2, k3, k4, k5, k6⟩ := SB_known_62 h
  obtain ⟨_, Lb, hLb⟩ := SB_fin_62 h
  obtain ⟨q1, q2, n, q3⟩ := k6 Lb hLb
  refine goThrough_c (d := d) (L := Lb) (nF := M 469 (M 467 11)) (TO := TOg M) (V := M 441 1) (pa := M 441 2) (N := M 442 13) (G := G) (n := n) k2 k3 k4 rfl q1 q2 q3 (fun M3 fr an => hQ M3 fr ⟨G, k1, fun L hL => ?_⟩)
  obtain ⟨u1, u2, n', u3⟩ := k6 L hL
  refine ⟨n', u3, ?_⟩
  have e := kEnd_fuel (pa := M 441 2) q1 u1 q3 u3 (by rcases k1 with z | z <;> omega)
  unfold kAns at an ⊢
  rw [← e]
  exact an
theorem SB_kn_62 {L0 : Nat} {xs : Nat → Int32} {m : Nat} {S : Int → Int} {f : Int} {P P' : Nat → Nat → Nat} {M M3 : Nat → Int → Int} (h : SB 62 L0 xs m S f P M) (e1 : P' 16 11 = P 16 11) (e2 : P' 16 12 = P 16 12) (fr : ∀ c : Nat, ¬ (24 ≤ c ∧ c ≤ 32) → M3 c = M c) : SB 62 L0 xs m S f P' M3 := by
  have hh := SA_hold_62 h.1
  obtain ⟨⟨s1, s2, s3, s4, s5, s6, s7, s8⟩, e15, hold⟩ := h
  have low : ∀ c : Nat, ¬ (24 ≤ c ∧ c ≤ 32) → M3 c = M c := fr
  have fp : FrP M M3 := ⟨congrFun (low 467 (by decide)) 11, fun c hc => low c (by unfold gCell at hc; simp at hc; omega)⟩
  have hip := iprog_fr62 fp s8
  have hx := ipx_fr62 fp s3.1
  have hold2 : rHold 62 M3 f := rHold_fr (p := 62) (M := M) (A := M3) (by decide) (fun c a b => low c (by omega)) (fun c a b => low c (by omega)) (frP_L fp) s8 s3.1 hold
  have e16 : M3 16 = M 16 := low 16 (by decide)
  have e0 : M3 62 0 = M 62 0 := congrFun (low 62 (by decide)) 0
  have th : tHold 62 M3 f := tHold_kn_62 low hh
  refine ⟨⟨e1.trans s1, IB_frG ⟨fun c hc => low c (fun z => by unfold wCell at hc; simp at hc; omega), fun k _ => congrFun (low 16 (by decide)) k, congrFun (low 467 (by decide)) 1, congrFun (low 467 (by decide)) 11⟩ e1 e2 s2, ⟨hx, Or.inr ?_⟩, Or.inr ?_, by rw [e16]; exact s5, ⟨s6.1, by rw [e0]; exact s6.2⟩, (low 1 (by decide)).trans s7, hip⟩, by rw [e16]; exact e15, hold2⟩
  · rw [e16, e0, s5]; exact ⟨s6.1, s6.2, th⟩
  · rw [e16, e0, e15, s5]; exact ⟨rfl, s6.1, s6.2, hold2⟩
set_option maxHeartbeats 1000000 in
theorem pair_19_62 {L0 : Nat} {xs : Nat → Int32} {m d : Nat} {P : Nat → Nat → Nat} {M : Nat → Int → Int} {a0 a1 : Int} (hB : IB L0 xs m P M) (hk : KT 62 M) (hR : RT 62 M) (hp : P 16 11 = 62) (hip : iprog 62 M) {Q1 : zQ} (h1 : ∀ (P1 : Nat → Nat → Nat) (M1 : Nat → Int → Int) (x : Int), M1 1 = M 1 → (∀ (Q2 : zQ), (∀ (P2 : Nat → Nat → Nat) (M2 : Nat → Int → Int), M2 1 = M 1 → IB L0 xs (m + 1) P2 M2 ∧ KP P2 M2 ∧ RP P2 M2 → Q2 (zS P2 M2) (some (vI x))) → WC (d + 80) 142 [vR 467, vI a0, vI a1] (zS P1 M1) Q2) → Q1 (zS P1 M1) (some (vI x))) : WC (d + 80) 21 [vR 16, vI a0, vI a1] (zS P M) Q1 := by
  obtain ⟨b1, b2, b3, b4, b5, b6, b7⟩ := id hB
  obtain ⟨i1, ⟨i2, i2b, i2c⟩, i3, i4, i5, i6, i7, i8⟩ := id hip
  have eP : zupN P 16 11 62 = P := by
    have := zupN_self P 16 11
    rw [hp] at this
    exact this
  have kp : KP P M ∧ RP P M := ⟨⟨fun z => by first | exact hk | (rw [hp] at z; exact absurd z (by decide)), fun z => by first | exact hk | (rw [hp] at z; exact absurd z (by decide))⟩, ⟨fun z => by first | exact hR | (rw [hp] at z; exact absurd z (by decide)), fun z => by first | exact hR | (rw [hp] at z; exact absurd z (by decide))⟩⟩
  have up : IB L0 xs (m + 1) (zupN P 16 11 62) M ∧ KP (zupN P 16 11 62) M ∧ RP (zupN P 16 11 62) M := by rw [eP]; exact ⟨IB_up hB, kp.1, kp.2⟩
  have hn : 0 ≤ M 469 (M 467 11) ∧ M 469 (M 467 11) ≤ 8 := i6.2.2.1
  have hpp : ∀ xf : Int, 0 ≤ xf → xf < M 469 (M 467 11) → 0 ≤ M 503 xf ∧ M 503 xf < 8 := fun xf x0 x1 => (b5 xf x0 (by omega)).1
  refine eqC eP.symm rfl (folded_c_62 (d := d + 5) (HK1 := fun P1 M1 => SA 62 L0 xs m (M 1) a0 P1 M1) (HK2 := fun _ _ P2 M2 => SB 62 L0 xs m (M 1) a0 P2 M2) (HK3 := fun _ _ P2 M2 P3 M3 => P3 = P2 ∧ (∀ c : Nat, ¬ (24 ≤ c ∧ c ≤ 32) → M3 c = M2 c) ∧ ∃ G : Int, ((G = 0 ∧ M2 479 (8 * M2 467 11 + M2 503 a0) = 0) ∨ (G = 1 ∧ M2 479 (8 * M2 467 11 + M2 503 a0) = 1)) ∧ ∀ L : Nat → Int → Int, rLn M2 L → ∃ n : Nat, ySeg L (okR M2 L (M2 469 (M2 467 11)) (TOg M2)) n 0 0 120 (120 + (M2 442 13 - G)) ∧ kAns M2 M3 G (M2 441 1) (M2 441 2) (M2 442 13) n) a0 a1 (fun Q' q0 q1 => growTree_h_62 (d := d + 5) hB hk hR hp hip q0 q1) (fun P1 M1 s Q' q => writeResult_h_62 (d := d + 5) s q) (fun P1 M1 s P2 M2 s2 Q' q => ?_) (fun nq => ?_) (fun P1 M1 s P2 M2 s2 P3 M3 s3 w5 => ?_))
  · exact goT_h_62 (d := d + 72) s2 (fun M3 fr fam => q P2 M3 ⟨rfl, fr, fam⟩)
  · refine h1 (zupN P 16 11 62) M _ rfl (fun Q2 h2 => folded_m (d := d + 64) (HK1 := fun _ => False) a0 a1 i1 hn (fun _ z => z.elim) hpp (fun v w => absurd ⟨⟨w.1, by omega⟩, v.1, by rw [i2]; exact v.2⟩ nq) (fun _ => h2 _ M rfl up) (fun _ z => z.elim))
  · obtain ⟨e1, fr, G, gg, fam⟩ := s3
    subst e1
    have s3 := SB_kn_62 (P' := P3) s2 rfl rfl fr
    obtain ⟨u1, u2, u3, u4, u5, u6, u7, u8⟩ := id s3.1
    obtain ⟨j1, ⟨j2, j2b, j2c⟩, j3, j4, j5, j6, j7, j8⟩ := id u8
    have hpp3 : ∀ xf : Int, 0 ≤ xf → xf < M3 469 (M3 467 11) → 0 ≤ M3 503 xf ∧ M3 503 xf < 8 := fun xf x0 x1 => (u2.2.2.2.2.1 xf x0 (by have := j6.2.2.1.2; omega)).1
    obtain ⟨G2, k1, k2, k3, k4, k5, k6⟩ := SB_known_62 s2
    refine h1 (zupN P3 16 11 62) M3 _ u7 (fun Q2 h2 => folded_m (d := d + 64) (HK1 := fun τ => ∃ (M1 : Nat → Int → Int) (n : Nat), LK 62 M3 M3 M1 a0 ∧ τ = mix M1 τ ∧ kLd M2 M1 (M2 441 1) (M2 442 13) ∧ kGv M1 G (M2 442 13) ∧ kAns M2 M3 G (M2 441 1) (M2 441 2) (M2 442 13) n ∧ kRes M2 M1 τ G (M2 441 1) (M2 441 2) (M2 442 13) n ∧ (M1 467 110 = M2 441 1 ∧ M1 467 109 = 120 + M2 442 13) ∧ FrL M2 M1) a0 a1 j1 j6.2.2.1 (fun τ z => ?_) hpp3 (fun v w Q' qq => ?_) (fun w => ?_) (fun τ z w => ?_))
    · obtain ⟨M1, n, z1, z2, z3, z4, z5, z6, z7, z8⟩ := z
      obtain ⟨r1, r2, r7, r8⟩ := id z6
      obtain ⟨f1, f2, ⟨f3, f4⟩, f5⟩ := z8
      rw [r8 11 (by decide), r8 109 (by decide), r8 110 (by decide), r7 503 (by decide) (by decide), r7 479 (by decide) (by decide), r7 482 (by decide) (by decide), z7.1, z7.2, f1, f3, f2 479 (by decide) (by decide) (by decide)]
      have c11 := fr 467 (by decide)
      have k52 := k5.2
      rw [← c11]
      refine ⟨by rw [c11]; rw [c11] at j1; omega, by rw [c11]; rcases gg with y | y <;> omega, fun y => ?_⟩
      rw [c11] at y
      obtain ⟨g1, g9⟩ : 1 ≤ M2 442 13 ∧ M1 480 (120 + M2 442 13 - 1) = 9 := by
        rcases z4.1 with q | q
        · rcases gg with g | g <;> omega
        · exact q.2
      have x := (z3 (120 + M2 442 13 - 1) (by omega) (by omega)).2.1
      refine ⟨x.2.2.2.2, ?_⟩
      have o := x.2.1 (by omega)
      unfold opnd at o
      omega
    · refine ⟨_, rfl, ?_⟩
      refine KR_lay (d := d + 72) (HK := fun M1 => LK 62 M3 M3 M1 a0) (M3 503 a0) (fun Q3 hq3 => lays_k_62 (d := d + 64) s3.1 (fun _ _ => rfl) s3.2.2 (fun M1 z => hq3 M1 z)) (fun M1 z => ?_)
      have tg := frL_tog (kn_L fr) s2.1.2.2.2.2.2.2.2 s2.1.2.2.1.1
      have lnz := LK_ln_62 (L0 := L0) (xs := xs) (m := m) (P := P3) (S := M 1) z
      have ln2 := rLn_cong (fun c a b => fr c (by omega)) (kn_L fr) (fr 505 (by decide) ▸ rfl) (fr 506 (by decide) ▸ rfl) tg lnz.1
      obtain ⟨n, sg, an⟩ := fam M1 ln2
      obtain ⟨y1, y2, _⟩ := k6 M1 ln2
      have eG : G2 = G := by rcases gg with g | g <;> rcases k1 with q | q <;> omega
      rw [eG] at y2
      have rel := ln2.2.2.1
      have fl2 : FrL M2 M1 := ln2.1
      have c503 : M3 503 a0 = M2 503 a0 := congrFun (fr 503 (by decide)) a0
      refine laysKnown_c (d := d + 72) (M := M2) (L := M1) (nF := M2 469 (M2 467 11)) (TO := TOg M2) (V := M2 441 1) (pa := M2 441 2) (N := M2 442 13) (G := G) (n := n) k2 k3 ⟨rel.2.1, rel.1⟩ ?_ (by rw [c503]; exact k5.2) ?_ y1 y2 sg (fun τ3 kr => qq _ ⟨M1, n, z, ?_, y1, y2, an, ?_, ⟨rel.2.1, rel.1⟩, fl2⟩)
      · rw [fl2.1]; have := congrFun (fr 467 (by decide)) 11; rw [← this]; exact j1
      · rw [fl2.1, fl2.2.1 473 (by decide) (by decide) (by decide), c503]; exact k5.1.symm
      · exact mix_mix2.symm
      · exact kRes_mix kr
    · exact absurd ⟨⟨u6.1, by rw [← j2]; exact u6.2⟩, w5.1, by omega⟩ w
    · obtain ⟨M1, n, z1, z2, z3, z4, z5, z6, z7, z8⟩ := z
      have en := LK_end_62 (P' := zupN P3 16 11 62) s3.1 z1 u1.symm rfl
      have fq : FrQ M1 τ := kRes_frQ z2 z6
      have y := IB_frQ fq rfl rfl en.2.1 en.2.2.1
      refine eqR ?_ (h2 _ τ ((fq.1 1 (by decide)).trans en.1) ⟨y.1, y.2.1, y.2.2 en.2.2.2⟩)
      obtain ⟨r1, r2, r7, r8⟩ := id z6
      exact kn_ans z5 z6 z3 z4 k3.1 k2.1 ((r8 109 (by decide)).trans z7.2) ((r8 110 (by decide)).trans z7.1) (by rw [r8 11 (by decide), r7 479 (by decide) (by decide), r7 503 (by decide) (by decide), z8.1, z8.2.2.1.1, z8.2.1 479 (by decide) (by decide) (by decide)]; exact gg) w5
theorem pair_19 {L0 : Nat} {xs : Nat → Int32} {m d : Nat} : pr_19 (d + 80) (fun P M => IB L0 xs m P M ∧ KP P M ∧ RP P M) (fun P M => IB L0 xs (m + 1) P M ∧ KP P M ∧ RP P M) := by
  intro P M a0 a1 hI r0 r1 Q1 h1
  obtain ⟨hB, hK, hR⟩ := hI
  rcases hB.2.2.2.2.2.2 with ⟨p1, p2, p3⟩ | ⟨p1, p2, p3⟩
  · exact pair_19_33 hB (hK.1 p1) (hR.1 p1) p1 p3 h1
  · exact pair_19_62 hB (hK.2 p1) (hR.2 p1) p1 p3 h1
