/-! The pair left -/
theorem tLft_mem {A T : Nat → Int → Int} {nF nS : Int} (h : tInv A T nF nS) : ∀ (n : Nat) (c : Int), 33 - T 3 c ≤ n → 0 ≤ c → c < T 8 0 → T 6 c = 1 → tst A T c = 1 → ∀ x : Int, x ∈ tLft A T c → 1 ≤ x ∧ x < T 8 0 ∧ tkp A T x = 0 ∧ tst A T (T 0 x) = 1 := by
  intro n
  induction n with
  | zero => intro c a c0 c1 ci _; have := (h.2.2.2.2.2.1 c c0 c1 ci).2.2; omega
  | succ n ih =>
    intro c a c0 c1 ci cs x hx
    rw [tLft_eq h c0 c1 ci, tkids_mem] at hx
    obtain ⟨j, j0, j1, hx⟩ := hx
    obtain ⟨k1, k2, k3, k4, k5⟩ := tkid h c0 c1 ci (k := T 5 c + j) (by omega) (by omega)
    by_cases e : tkp A T (T 5 c + j) = 0
    · rw [if_pos e] at hx
      have hx : x = T 5 c + j := by simpa using hx
      rw [hx]; exact ⟨k1, k2, e, by rw [k4]; exact cs⟩
    · rw [if_neg e] at hx
      have k6 : T 6 (T 5 c + j) = 1 := by
        by_cases y : T 6 (T 5 c + j) = 1
        · exact y
        · exact absurd (tkp_no (A := A) (by omega) y) e
      exact ih _ (by omega) (by omega) k2 k6 (by rw [tst_up h k1 k2, if_neg e, k4]; exact cs) x hx
theorem rHold_ex_33 {L0 : Nat} {xs : Nat → Int32} {m : Nat} {S : Int → Int} {f : Int} {P : Nat → Nat → Nat} {M : Nat → Int → Int} (h : SA 33 L0 xs m S f P M) : ∃ Mh : Nat → Int → Int, (∀ c : Nat, ¬ (441 ≤ c ∧ c ≤ 455) → Mh c = M c) ∧ rHold 33 Mh f := by
  have hh := SA_hold_33 h
  obtain ⟨s1, s2, s3, s4, s5, s6, s7, s8⟩ := id h
  obtain ⟨σ, r, Mh, h1, h2⟩ := WC_ex (Q := fun _ _ => ∃ Mh : Nat → Int → Int, (∀ c : Nat, ¬ (441 ≤ c ∧ c ≤ 455) → Mh c = M c) ∧ rHold 33 Mh f) (write_h_33 (d := 0) (P := P) s8 s3.1 s2.2.2.2.1 s6.1 s6.2 hh (fun M' fr hold => ⟨M', fr, hold⟩)) (by decide)
  exact ⟨Mh, h1, h2⟩
theorem tleft_b_33 {L0 : Nat} {xs : Nat → Int32} {m : Nat} {S : Int → Int} {f : Int} {P : Nat → Nat → Nat} {M : Nat → Int → Int} (h : SA 33 L0 xs m S f P M) : M 116 4 ≤ 320 ∧ ∀ xi : Int, 0 ≤ xi → xi < M 116 4 → (0 ≤ M 119 xi ∧ M 119 xi < 320) ∧ 0 ≤ zcl M 2 (M 119 xi) ∧ zcl M 2 (M 119 xi) < 320 := by
  have hh := SA_hold_33 h
  obtain ⟨s1, s2, s3, s4, s5, s6, s7, s8⟩ := id h
  obtain ⟨A, T, G, y1, y2, y3, y4, y5, y6, ⟨y7, n0, y7b⟩, y8, yc, y10⟩ := rPrem_ex_33 s8 s3.1 s2.2.2.2.1 s6.1 s6.2 hh
  have few := tLft_few y1 y2
  have tm := y2.2.1
  refine ⟨by omega, fun xi x0 x1 => ?_⟩
  have g : M 119 xi = (tLft A T 0).getD xi.toNat 0 := by
    rw [y7b]
    have z := zlst_in (tLft A T 0) n0 0 xi.toNat (by omega)
    rwa [show (0 : Int) + (xi.toNat : Int) = xi by omega] at z
  have mem := tLft_mem y2 33 0 (by have := y2.1.1.2; omega) (by decide) (by omega) y2.2.2.2.1.1 (tst_0 y2) _ (lgetD_mem _ xi.toNat (show xi.toNat < (tLft A T 0).length by omega))
  rw [← g] at mem
  have w := y2.1.2 (M 119 xi) mem.1 mem.2.1
  have c2 : zcl M 2 (M 119 xi) = T 0 (M 119 xi) := (yc.1 (M 119 xi) ⟨by omega, by omega⟩).1
  rw [c2]
  omega
set_option maxHeartbeats 1000000 in
theorem pair_22_33 {L0 : Nat} {xs : Nat → Int32} {m d : Nat} {P : Nat → Nat → Nat} {M : Nat → Int → Int} {a0 a1 a2 : Int} (hB : IB L0 xs m P M) (hk : KT 33 M) (hR : RT 33 M) (hp : P 16 11 = 33) (hip : iprog 33 M) {Q1 : zQ} (h1 : ∀ (P1 : Nat → Nat → Nat) (M1 : Nat → Int → Int) (x : Int), M1 1 = M 1 → (∀ (Q2 : zQ), (∀ (P2 : Nat → Nat → Nat) (M2 : Nat → Int → Int), M2 1 = M 1 → IB L0 xs (m + 1) P2 M2 ∧ KP P2 M2 ∧ RP P2 M2 → Q2 (zS P2 M2) (some (vI x))) → WC (d + 80) 129 [vR 467, vI a0, vI a1, vI a2] (zS P1 M1) Q2) → Q1 (zS P1 M1) (some (vI x))) : WC (d + 80) 24 [vR 16, vI a0, vI a1, vI a2] (zS P M) Q1 := by
  obtain ⟨b1, b2, b3, b4, b5, b6, b7⟩ := id hB
  obtain ⟨i1, ⟨i2, i2b, i2c⟩, i3, i4, i5, i6, i7, i8⟩ := id hip
  have eP : zupN P 16 11 33 = P := by
    have := zupN_self P 16 11
    rw [hp] at this
    exact this
  have kp : KP P M ∧ RP P M := ⟨⟨fun z => by first | exact hk | (rw [hp] at z; exact absurd z (by decide)), fun z => by first | exact hk | (rw [hp] at z; exact absurd z (by decide))⟩, ⟨fun z => by first | exact hR | (rw [hp] at z; exact absurd z (by decide)), fun z => by first | exact hR | (rw [hp] at z; exact absurd z (by decide))⟩⟩
  have up : IB L0 xs (m + 1) (zupN P 16 11 33) M ∧ KP (zupN P 16 11 33) M ∧ RP (zupN P 16 11 33) M := by rw [eP]; exact ⟨IB_up hB, kp.1, kp.2⟩
  have hn : 0 ≤ M 469 (M 467 11) ∧ M 469 (M 467 11) ≤ 8 := i6.2.2.1
  refine eqC eP.symm rfl (left_c_33 (d := d + 5) (HK1 := fun P1 M1 => SA 33 L0 xs m (M 1) a0 P1 M1) a0 a1 a2 (fun P1 M1 s => tleft_b_33 s) (fun Q' q0 q1 => growTree_h_33 (d := d + 5) hB hk hR hp hip q0 q1) (fun nq => ?_) (fun P2 M2 s2 => ?_))
  · refine h1 (zupN P 16 11 33) M _ rfl (fun Q2 h2 => left_m (d := d + 65) (HK1 := fun _ => False) a0 a1 a2 i1 hn (fun _ z => z.elim) (fun v => absurd ⟨v.1, by rw [i2]; exact v.2⟩ nq) (fun _ => h2 _ M rfl up) (fun _ z => z.elim))
  · obtain ⟨u1, u2, u3, u4, u5, u6, u7, u8⟩ := id s2
    obtain ⟨j1, ⟨j2, j2b, j2c⟩, j3, j4, j5, j6, j7, j8⟩ := id u8
    have eP2 : zupN P2 16 11 33 = P2 := by
      have := zupN_self P2 16 11
      rw [u1] at this
      exact this
    obtain ⟨Mh, hm, hold⟩ := rHold_ex_33 s2
    have v : 0 ≤ a0 ∧ a0 < M2 469 (M2 467 11) := ⟨u6.1, by rw [← j2]; exact u6.2⟩
    refine h1 (zupN P2 16 11 33) M2 _ u7 (fun Q2 h2 => left_m (d := d + 65) (HK1 := fun M1 => LK 33 Mh M2 M1 a0) a0 a1 a2 j1 j6.2.2.1 (fun M1 z => ?_) (fun v Q' qq => lays_k_33 (d := d + 65) s2 hm hold qq) (fun w => eqR ?_ (h2 _ M2 u7 ?_)) (fun M1 z w => ?_))
    · obtain ⟨N, τ', A, T, B, U, n0, g, y0, a1', a2', a3, a4, a5, a6, a7, a8, a9, a10, a11, a12, a13, a14, a15, ac, a16⟩ := z
      obtain ⟨r1, r2, r3, r6, r7, ⟨r0, r8, r9⟩, r10, r11, r12⟩ := a13
      have few := tLft_few a1' a2'
      have tm := a2'.2.1
      have m467 : ∀ k : Int, M1 467 k = τ' 467 k := fun k => by rw [a16, mixc (by decide)]
      have c521 : ∀ c : Nat, 521 ≤ c → c ≤ 534 → M1 c = N c := fun c x y => by rw [a16, mixc (by omega)]; exact r10.1 c (by unfold vCell; simp; omega)
      have e86 : M1 467 86 = N 467 86 := by rw [m467]; exact r10.2.1 86 (by decide)
      have U8 : U 8 0 = N 467 86 := by rw [a8]; rfl
      have U0 : U 0 = N 521 := by rw [a8]; rfl
      have U3 : U 3 = N 524 := by rw [a8]; rfl
      have le := (tRel_Pre a3 a5 a4 a6).2
      refine ⟨⟨by rw [m467, r9]; omega, by rw [m467, r9]; omega, ?_⟩, ?_, fun i x0 x1 => ?_⟩
      · rw [e86, ← U8, ← a6.1.1]; omega
      · rw [e86, c521 521 (by decide) (by decide), c521 524 (by decide) (by decide), ← U8, ← U0, ← U3]; exact a4.1
      · rw [m467, r9] at x1
        have g1 : M1 545 i = (tLft A T 0).getD i.toNat 0 := by
          rw [a16, mixc (by decide), r8]
          have z := zlst_in (tLft A T 0) r0 0 i.toNat (by omega)
          rwa [show (0 : Int) + (i.toNat : Int) = i by omega] at z
        have mem := tLft_mem a2' 33 0 (by have := a2'.1.1.2; omega) (by decide) (by omega) a2'.2.2.2.1.1 (tst_0 a2') _ (lgetD_mem _ i.toNat (show i.toNat < (tLft A T 0).length by omega))
        rw [← g1] at mem
        rw [e86, ← U8, ← a6.1.1]
        exact ⟨mem.1, mem.2.1⟩
    · have w : ¬ ((0 ≤ a0 ∧ a0 < M2 469 (M2 467 11)) ∧ 0 ≤ a1 ∧ 0 ≤ a2 ∧ a2 ≤ 2) := w
      unfold leftC
      split
      · rw [if_neg (by omega), if_neg (by omega), if_neg (by omega)]
      · rfl
    · rw [eP2]; exact ⟨IB_up u2, (SA_KP_33 s2 rfl).1, (SA_KP_33 s2 rfl).2⟩
    · have en := LK_end_33 (P' := zupN P2 16 11 33) s2 z u1.symm rfl
      refine eqR ?_ (h2 _ M1 en.1 en.2)
      obtain ⟨N, τ', A, T, B, U, n0, g, y0, a1', a2', a3, a4, a5, a6, a7, a8, a9, a10, a11, a12, a13, a14, a15, ac, a16⟩ := z
      obtain ⟨r1, r2, r3, r6, r7, ⟨r0, r8, r9⟩, r10, r11, r12⟩ := a13
      have few := tLft_few a1' a2'
      have tm := a2'.2.1
      have m467 : ∀ k : Int, M1 467 k = τ' 467 k := fun k => by rw [a16, mixc (by decide)]
      have c521 : ∀ c : Nat, 521 ≤ c → c ≤ 534 → M1 c = N c := fun c x y => by rw [a16, mixc (by omega)]; exact r10.1 c (by unfold vCell; simp; omega)
      have e506 : M1 506 = M2 506 := by rw [a16, mixc (by decide)]; exact (r10.1 506 rfl).trans (a14 506 (by decide) (by decide))
      have e111 : M1 467 111 = M2 116 4 := by rw [m467, r9, a10.1]
      have U0 : U 0 = N 521 := by rw [a8]; rfl
      have U1 : U 1 = N 522 := by rw [a8]; rfl
      have U2 : U 2 = N 523 := by rw [a8]; rfl
      have U3 : U 3 = N 524 := by rw [a8]; rfl
      have U4 : U 4 = N 525 := by rw [a8]; rfl
      have U7 : U 7 = N 529 := by rw [a8]; rfl
      unfold leftC leftM
      rw [e111, c521 521 (by decide) (by decide), c521 522 (by decide) (by decide), c521 523 (by decide) (by decide), c521 524 (by decide) (by decide), c521 525 (by decide) (by decide), c521 529 (by decide) (by decide), c521 533 (by decide) (by decide), e506, ← U0, ← U1, ← U2, ← U3, ← U4, ← U7]
      by_cases e : 0 ≤ a1 ∧ a1 < M2 116 4
      · rw [if_pos e, if_pos e]
        have g1 : M1 545 a1 = (tLft A T 0).getD a1.toNat 0 := by
          rw [a16, mixc (by decide), r8]
          have z := zlst_in (tLft A T 0) r0 0 a1.toNat (by omega)
          rwa [show (0 : Int) + (a1.toNat : Int) = a1 by omega] at z
        have g2 : M2 119 a1 = (tLft A T 0).getD a1.toNat 0 := by
          rw [a10.2]
          have z := zlst_in (tLft A T 0) n0 0 a1.toNat (by omega)
          rwa [show (0 : Int) + (a1.toNat : Int) = a1 by omega] at z
        have mem := tLft_mem a2' 33 0 (by have := a2'.1.1.2; omega) (by decide) (by omega) a2'.2.2.2.1.1 (tst_0 a2') _ (lgetD_mem _ a1.toNat (show a1.toNat < (tLft A T 0).length by omega))
        rw [g1, g2]
        generalize (tLft A T 0).getD a1.toNat 0 = x at mem
        obtain ⟨c2, c0, c4, c8⟩ := ac.1 x ⟨by omega, by omega⟩
        have c7 := ac.2.1 x mem.1 mem.2.1
        obtain ⟨n11, c11⟩ := ac.2.2
        have kx := a6.2 x (by omega) mem.2.1
        have w0 := a2'.1.2 x mem.1 mem.2.1
        have z0 : zcl M2 0 x = U 1 x := c0.trans kx.2.1
        have z2 : zcl M2 2 x = T 0 x := c2
        have z4 : zcl M2 4 x = U 4 x := c4.trans kx.2.2.2.2.1
        have z8 : zcl M2 8 x = U 7 x := c8.trans kx.2.2.2.2.2.2.2
        have z7 : zcl M2 7 x = trec B U x := c7.trans (tRel_rec a5 a4 a6 mem.1 (by rw [← a6.1.1]; exact mem.2.1))
        have t8 : B 8 2 = M2 506 2 := by
          have a := a5.2.2.1 2 (by decide) (by decide)
          rw [← a, a7]
          show M2 120 2 = M2 506 2
          have hh := SA_hold_33 s2
          obtain ⟨A', T', G', _, _, _, _, y5', y6', _⟩ := rPrem_ex_33 u8 u3.1 u2.2.2.2.1 u6.1 u6.2 hh
          rw [y6' 2 (by decide) (by decide)]; exact (u2.2.2.2.1 2 (by decide) (by decide)).1
        have tr : trec B U x = if M2 506 2 < tcn (U 2) (U 0) (U 2 x) (U 3 x - 1) (U 0 x) then 1 else 0 := by unfold trec; rw [t8]
        have nu : zcl M2 11 (T 0 x) = N 533 (U 0 x) := by
          have c := c11 (T 0 x) ⟨by omega, by omega⟩
          have pre := (tRel_Pre a3 a5 a4 a6).1
          show M2 (zcall (T 0 x)) 11 = _
          rw [c, a9, ← pre, ← kx.1]
          refine znum_congr _ _ _ _ _ (Or.inl ?_)
          exact tPre_all a1' a2' (T 8 0).toNat (T 0 x) (by omega) (by omega) (by omega) mem.2.2.2
        rw [z2, nu, z0, z4, z8, z7]
        by_cases k0 : a2 = 0
        · rw [if_pos k0, if_pos k0]
        · rw [if_neg k0, if_neg k0]
          by_cases k2 : a2 = 2
          · rw [if_pos k2, if_neg (by omega), if_pos k2]
          · have k1 : a2 = 1 := by omega
            rw [if_neg k2, if_pos k1, if_pos k1, tr]
            by_cases q1 : U 7 x < 1
            · rw [if_pos q1, if_pos q1]
            · rw [if_neg q1, if_neg q1]
              by_cases q2 : M2 506 2 < tcn (U 2) (U 0) (U 2 x) (U 3 x - 1) (U 0 x)
              · rw [if_pos q2, if_pos q2, if_pos (show ¬ (1 : Int) = 0 by decide)]
              · rw [if_neg q2, if_neg q2, if_neg (show ¬ ¬ (0 : Int) = 0 by decide)]
      · rw [if_neg e, if_neg e]
theorem rHold_ex_62 {L0 : Nat} {xs : Nat → Int32} {m : Nat} {S : Int → Int} {f : Int} {P : Nat → Nat → Nat} {M : Nat → Int → Int} (h : SA 62 L0 xs m S f P M) : ∃ Mh : Nat → Int → Int, (∀ c : Nat, ¬ (441 ≤ c ∧ c ≤ 455) → Mh c = M c) ∧ rHold 62 Mh f := by
  have hh := SA_hold_62 h
  obtain ⟨s1, s2, s3, s4, s5, s6, s7, s8⟩ := id h
  obtain ⟨σ, r, Mh, h1, h2⟩ := WC_ex (Q := fun _ _ => ∃ Mh : Nat → Int → Int, (∀ c : Nat, ¬ (441 ≤ c ∧ c ≤ 455) → Mh c = M c) ∧ rHold 62 Mh f) (write_h_62 (d := 0) (P := P) s8 s3.1 s2.2.2.2.1 s6.1 s6.2 hh (fun M' fr hold => ⟨M', fr, hold⟩)) (by decide)
  exact ⟨Mh, h1, h2⟩
theorem tleft_b_62 {L0 : Nat} {xs : Nat → Int32} {m : Nat} {S : Int → Int} {f : Int} {P : Nat → Nat → Nat} {M : Nat → Int → Int} (h : SA 62 L0 xs m S f P M) : M 116 4 ≤ 320 ∧ ∀ xi : Int, 0 ≤ xi → xi < M 116 4 → (0 ≤ M 119 xi ∧ M 119 xi < 320) ∧ 0 ≤ zcl M 2 (M 119 xi) ∧ zcl M 2 (M 119 xi) < 320 := by
  have hh := SA_hold_62 h
  obtain ⟨s1, s2, s3, s4, s5, s6, s7, s8⟩ := id h
  obtain ⟨A, T, G, y1, y2, y3, y4, y5, y6, ⟨y7, n0, y7b⟩, y8, yc, y10⟩ := rPrem_ex_62 s8 s3.1 s2.2.2.2.1 s6.1 s6.2 hh
  have few := tLft_few y1 y2
  have tm := y2.2.1
  refine ⟨by omega, fun xi x0 x1 => ?_⟩
  have g : M 119 xi = (tLft A T 0).getD xi.toNat 0 := by
    rw [y7b]
    have z := zlst_in (tLft A T 0) n0 0 xi.toNat (by omega)
    rwa [show (0 : Int) + (xi.toNat : Int) = xi by omega] at z
  have mem := tLft_mem y2 33 0 (by have := y2.1.1.2; omega) (by decide) (by omega) y2.2.2.2.1.1 (tst_0 y2) _ (lgetD_mem _ xi.toNat (show xi.toNat < (tLft A T 0).length by omega))
  rw [← g] at mem
  have w := y2.1.2 (M 119 xi) mem.1 mem.2.1
  have c2 : zcl M 2 (M 119 xi) = T 0 (M 119 xi) := (yc.1 (M 119 xi) ⟨by omega, by omega⟩).1
  rw [c2]
  omega
set_option maxHeartbeats 1000000 in
theorem pair_22_62 {L0 : Nat} {xs : Nat → Int32} {m d : Nat} {P : Nat → Nat → Nat} {M : Nat → Int → Int} {a0 a1 a2 : Int} (hB : IB L0 xs m P M) (hk : KT 62 M) (hR : RT 62 M) (hp : P 16 11 = 62) (hip : iprog 62 M) {Q1 : zQ} (h1 : ∀ (P1 : Nat → Nat → Nat) (M1 : Nat → Int → Int) (x : Int), M1 1 = M 1 → (∀ (Q2 : zQ), (∀ (P2 : Nat → Nat → Nat) (M2 : Nat → Int → Int), M2 1 = M 1 → IB L0 xs (m + 1) P2 M2 ∧ KP P2 M2 ∧ RP P2 M2 → Q2 (zS P2 M2) (some (vI x))) → WC (d + 80) 129 [vR 467, vI a0, vI a1, vI a2] (zS P1 M1) Q2) → Q1 (zS P1 M1) (some (vI x))) : WC (d + 80) 24 [vR 16, vI a0, vI a1, vI a2] (zS P M) Q1 := by
  obtain ⟨b1, b2, b3, b4, b5, b6, b7⟩ := id hB
  obtain ⟨i1, ⟨i2, i2b, i2c⟩, i3, i4, i5, i6, i7, i8⟩ := id hip
  have eP : zupN P 16 11 62 = P := by
    have := zupN_self P 16 11
    rw [hp] at this
    exact this
  have kp : KP P M ∧ RP P M := ⟨⟨fun z => by first | exact hk | (rw [hp] at z; exact absurd z (by decide)), fun z => by first | exact hk | (rw [hp] at z; exact absurd z (by decide))⟩, ⟨fun z => by first | exact hR | (rw [hp] at z; exact absurd z (by decide)), fun z => by first | exact hR | (rw [hp] at z; exact absurd z (by decide))⟩⟩
  have up : IB L0 xs (m + 1) (zupN P 16 11 62) M ∧ KP (zupN P 16 11 62) M ∧ RP (zupN P 16 11 62) M := by rw [eP]; exact ⟨IB_up hB, kp.1, kp.2⟩
  have hn : 0 ≤ M 469 (M 467 11) ∧ M 469 (M 467 11) ≤ 8 := i6.2.2.1
  refine eqC eP.symm rfl (left_c_62 (d := d + 5) (HK1 := fun P1 M1 => SA 62 L0 xs m (M 1) a0 P1 M1) a0 a1 a2 (fun P1 M1 s => tleft_b_62 s) (fun Q' q0 q1 => growTree_h_62 (d := d + 5) hB hk hR hp hip q0 q1) (fun nq => ?_) (fun P2 M2 s2 => ?_))
  · refine h1 (zupN P 16 11 62) M _ rfl (fun Q2 h2 => left_m (d := d + 65) (HK1 := fun _ => False) a0 a1 a2 i1 hn (fun _ z => z.elim) (fun v => absurd ⟨v.1, by rw [i2]; exact v.2⟩ nq) (fun _ => h2 _ M rfl up) (fun _ z => z.elim))
  · obtain ⟨u1, u2, u3, u4, u5, u6, u7, u8⟩ := id s2
    obtain ⟨j1, ⟨j2, j2b, j2c⟩, j3, j4, j5, j6, j7, j8⟩ := id u8
    have eP2 : zupN P2 16 11 62 = P2 := by
      have := zupN_self P2 16 11
      rw [u1] at this
      exact this
    obtain ⟨Mh, hm, hold⟩ := rHold_ex_62 s2
    have v : 0 ≤ a0 ∧ a0 < M2 469 (M2 467 11) := ⟨u6.1, by rw [← j2]; exact u6.2⟩
    refine h1 (zupN P2 16 11 62) M2 _ u7 (fun Q2 h2 => left_m (d := d + 65) (HK1 := fun M1 => LK 62 Mh M2 M1 a0) a0 a1 a2 j1 j6.2.2.1 (fun M1 z => ?_) (fun v Q' qq => lays_k_62 (d := d + 65) s2 hm hold qq) (fun w => eqR ?_ (h2 _ M2 u7 ?_)) (fun M1 z w => ?_))
    · obtain ⟨N, τ', A, T, B, U, n0, g, y0, a1', a2', a3, a4, a5, a6, a7, a8, a9, a10, a11, a12, a13, a14, a15, ac, a16⟩ := z
      obtain ⟨r1, r2, r3, r6, r7, ⟨r0, r8, r9⟩, r10, r11, r12⟩ := a13
      have few := tLft_few a1' a2'
      have tm := a2'.2.1
      have m467 : ∀ k : Int, M1 467 k = τ' 467 k := fun k => by rw [a16, mixc (by decide)]
      have c521 : ∀ c : Nat, 521 ≤ c → c ≤ 534 → M1 c = N c := fun c x y => by rw [a16, mixc (by omega)]; exact r10.1 c (by unfold vCell; simp; omega)
      have e86 : M1 467 86 = N 467 86 := by rw [m467]; exact r10.2.1 86 (by decide)
      have U8 : U 8 0 = N 467 86 := by rw [a8]; rfl
      have U0 : U 0 = N 521 := by rw [a8]; rfl
      have U3 : U 3 = N 524 := by rw [a8]; rfl
      have le := (tRel_Pre a3 a5 a4 a6).2
      refine ⟨⟨by rw [m467, r9]; omega, by rw [m467, r9]; omega, ?_⟩, ?_, fun i x0 x1 => ?_⟩
      · rw [e86, ← U8, ← a6.1.1]; omega
      · rw [e86, c521 521 (by decide) (by decide), c521 524 (by decide) (by decide), ← U8, ← U0, ← U3]; exact a4.1
      · rw [m467, r9] at x1
        have g1 : M1 545 i = (tLft A T 0).getD i.toNat 0 := by
          rw [a16, mixc (by decide), r8]
          have z := zlst_in (tLft A T 0) r0 0 i.toNat (by omega)
          rwa [show (0 : Int) + (i.toNat : Int) = i by omega] at z
        have mem := tLft_mem a2' 33 0 (by have := a2'.1.1.2; omega) (by decide) (by omega) a2'.2.2.2.1.1 (tst_0 a2') _ (lgetD_mem _ i.toNat (show i.toNat < (tLft A T 0).length by omega))
        rw [← g1] at mem
        rw [e86, ← U8, ← a6.1.1]
        exact ⟨mem.1, mem.2.1⟩
    · have w : ¬ ((0 ≤ a0 ∧ a0 < M2 469 (M2 467 11)) ∧ 0 ≤ a1 ∧ 0 ≤ a2 ∧ a2 ≤ 2) := w
      unfold leftC
      split
      · rw [if_neg (by omega), if_neg (by omega), if_neg (by omega)]
      · rfl
    · rw [eP2]; exact ⟨IB_up u2, (SA_KP_62 s2 rfl).1, (SA_KP_62 s2 rfl).2⟩
    · have en := LK_end_62 (P' := zupN P2 16 11 62) s2 z u1.symm rfl
      refine eqR ?_ (h2 _ M1 en.1 en.2)
      obtain ⟨N, τ', A, T, B, U, n0, g, y0, a1', a2', a3, a4, a5, a6, a7, a8, a9, a10, a11, a12, a13, a14, a15, ac, a16⟩ := z
      obtain ⟨r1, r2, r3, r6, r7, ⟨r0, r8, r9⟩, r10, r11, r12⟩ := a13
      have few := tLft_few a1' a2'
      have tm := a2'.2.1
      have m467 : ∀ k : Int, M1 467 k = τ' 467 k := fun k => by rw [a16, mixc (by decide)]
      have c521 : ∀ c : Nat, 521 ≤ c → c ≤ 534 → M1 c = N c := fun c x y => by rw [a16, mixc (by omega)]; exact r10.1 c (by unfold vCell; simp; omega)
      have e506 : M1 506 = M2 506 := by rw [a16, mixc (by decide)]; exact (r10.1 506 rfl).trans (a14 506 (by decide) (by decide))
      have e111 : M1 467 111 = M2 116 4 := by rw [m467, r9, a10.1]
      have U0 : U 0 = N 521 := by rw [a8]; rfl
      have U1 : U 1 = N 522 := by rw [a8]; rfl
      have U2 : U 2 = N 523 := by rw [a8]; rfl
      have U3 : U 3 = N 524 := by rw [a8]; rfl
      have U4 : U 4 = N 525 := by rw [a8]; rfl
      have U7 : U 7 = N 529 := by rw [a8]; rfl
      unfold leftC leftM
      rw [e111, c521 521 (by decide) (by decide), c521 522 (by decide) (by decide), c521 523 (by decide) (by decide), c521 524 (by decide) (by decide), c521 525 (by decide) (by decide), c521 529 (by decide) (by decide), c521 533 (by decide) (by decide), e506, ← U0, ← U1, ← U2, ← U3, ← U4, ← U7]
      by_cases e : 0 ≤ a1 ∧ a1 < M2 116 4
      · rw [if_pos e, if_pos e]
        have g1 : M1 545 a1 = (tLft A T 0).getD a1.toNat 0 := by
          rw [a16, mixc (by decide), r8]
          have z := zlst_in (tLft A T 0) r0 0 a1.toNat (by omega)
          rwa [show (0 : Int) + (a1.toNat : Int) = a1 by omega] at z
        have g2 : M2 119 a1 = (tLft A T 0).getD a1.toNat 0 := by
          rw [a10.2]
          have z := zlst_in (tLft A T 0) n0 0 a1.toNat (by omega)
          rwa [show (0 : Int) + (a1.toNat : Int) = a1 by omega] at z
        have mem := tLft_mem a2' 33 0 (by have := a2'.1.1.2; omega) (by decide) (by omega) a2'.2.2.2.1.1 (tst_0 a2') _ (lgetD_mem _ a1.toNat (show a1.toNat < (tLft A T 0).length by omega))
        rw [g1, g2]
        generalize (tLft A T 0).getD a1.toNat 0 = x at mem
        obtain ⟨c2, c0, c4, c8⟩ := ac.1 x ⟨by omega, by omega⟩
        have c7 := ac.2.1 x mem.1 mem.2.1
        obtain ⟨n11, c11⟩ := ac.2.2
        have kx := a6.2 x (by omega) mem.2.1
        have w0 := a2'.1.2 x mem.1 mem.2.1
        have z0 : zcl M2 0 x = U 1 x := c0.trans kx.2.1
        have z2 : zcl M2 2 x = T 0 x := c2
        have z4 : zcl M2 4 x = U 4 x := c4.trans kx.2.2.2.2.1
        have z8 : zcl M2 8 x = U 7 x := c8.trans kx.2.2.2.2.2.2.2
        have z7 : zcl M2 7 x = trec B U x := c7.trans (tRel_rec a5 a4 a6 mem.1 (by rw [← a6.1.1]; exact mem.2.1))
        have t8 : B 8 2 = M2 506 2 := by
          have a := a5.2.2.1 2 (by decide) (by decide)
          rw [← a, a7]
          show M2 120 2 = M2 506 2
          have hh := SA_hold_62 s2
          obtain ⟨A', T', G', _, _, _, _, y5', y6', _⟩ := rPrem_ex_62 u8 u3.1 u2.2.2.2.1 u6.1 u6.2 hh
          rw [y6' 2 (by decide) (by decide)]; exact (u2.2.2.2.1 2 (by decide) (by decide)).1
        have tr : trec B U x = if M2 506 2 < tcn (U 2) (U 0) (U 2 x) (U 3 x - 1) (U 0 x) then 1 else 0 := by unfold trec; rw [t8]
        have nu : zcl M2 11 (T 0 x) = N 533 (U 0 x) := by
          have c := c11 (T 0 x) ⟨by omega, by omega⟩
          have pre := (tRel_Pre a3 a5 a4 a6).1
          show M2 (zcall (T 0 x)) 11 = _
          rw [c, a9, ← pre, ← kx.1]
          refine znum_congr _ _ _ _ _ (Or.inl ?_)
          exact tPre_all a1' a2' (T 8 0).toNat (T 0 x) (by omega) (by omega) (by omega) mem.2.2.2
        rw [z2, nu, z0, z4, z8, z7]
        by_cases k0 : a2 = 0
        · rw [if_pos k0, if_pos k0]
        · rw [if_neg k0, if_neg k0]
          by_cases k2 : a2 = 2
          · rw [if_pos k2, if_neg (by omega), if_pos k2]
          · have k1 : a2 = 1 := by omega
            rw [if_neg k2, if_pos k1, if_pos k1, tr]
            by_cases q1 : U 7 x < 1
            · rw [if_pos q1, if_pos q1]
            · rw [if_neg q1, if_neg q1]
              by_cases q2 : M2 506 2 < tcn (U 2) (U 0) (U 2 x) (U 3 x - 1) (U 0 x)
              · rw [if_pos q2, if_pos q2, if_pos (show ¬ (1 : Int) = 0 by decide)]
              · rw [if_neg q2, if_neg q2, if_neg (show ¬ ¬ (0 : Int) = 0 by decide)]
      · rw [if_neg e, if_neg e]
theorem pair_22 {L0 : Nat} {xs : Nat → Int32} {m d : Nat} : pr_22 (d + 80) (fun P M => IB L0 xs m P M ∧ KP P M ∧ RP P M) (fun P M => IB L0 xs (m + 1) P M ∧ KP P M ∧ RP P M) := by
  intro P M a0 a1 a2 hI r0 r1 r2 Q1 h1
  obtain ⟨hB, hK, hR⟩ := hI
  rcases hB.2.2.2.2.2.2 with ⟨p1, p2, p3⟩ | ⟨p1, p2, p3⟩
  · exact pair_22_33 hB (hK.1 p1) (hR.1 p1) p1 p3 h1
  · exact pair_22_62 hB (hK.2 p1) (hR.2 p1) p1 p3 h1
