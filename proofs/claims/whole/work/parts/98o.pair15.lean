/-! The pairs result and line -/
theorem mixc {M τ : Nat → Int → Int} {c : Nat} (h : ¬ c < 467) : mix M τ c = τ c := mix_cell M τ h
/-- what the reference answers by -/
theorem LK_f_33 {P : Nat → Nat → Nat} {M M1 : Nat → Int → Int} {L0 : Nat} {xs : Nat → Int32} {m : Nat} {S : Int → Int} {f : Int} (hS : SB 33 L0 xs m S f P M) (h : LK 33 M M M1 f) : (M1 467 109 = 120 + M 442 13 ∧ M1 467 110 = M 441 1 ∧ M1 467 111 = M 116 4) ∧ (0 ≤ M 442 13 ∧ M 442 13 ≤ 300) ∧ (0 ≤ M 441 1 ∧ M 441 1 ≤ 8 + M 442 13) ∧ (M1 467 11 = M 467 11 ∧ M1 503 = M 503 ∧ M1 504 = M 504 ∧ M1 473 = M 473 ∧ M1 469 = M 469) ∧
    ∀ i : Int, 0 ≤ i → i < M 442 13 → (M 443 i = M1 480 (i + 120) ∧ M 444 i = M1 481 (i + 120) ∧ M 445 i = M1 482 (i + 120) ∧ M 446 i = M1 483 (i + 120) ∧ M 447 i = M1 484 (i + 120) ∧ M 448 i = M1 486 (i + 120) ∧ M 449 i = M1 487 (i + 120) ∧ M 451 i = M1 491 (i + 120)) ∧ (M1 491 (i + 120) = 0 ∨ M1 491 (i + 120) = 1) ∧ M1 485 (i + 120) < 8 ∧ (if 0 ≤ M 448 i ∧ M 448 i < M 33 1 then M 45 (M 448 i) else -2) = (if M1 485 (i + 120) < 0 then -2 else M1 504 (M1 485 (i + 120))) := by
  obtain ⟨N, τ', A, T, B, U, n0, g, y0, a1, a2, a3, a4, a5, a6, a7, a8, a9, a10, a11, a12, a13, a14, a15, ac, a16⟩ := h
  obtain ⟨hA, e15, hold⟩ := hS
  obtain ⟨s1, s2, s3, s4, s5, s6, s7, s8⟩ := id hA
  obtain ⟨i1, ⟨i2, i2b, i2c⟩, i3, i4, i5, i6, i7, i8⟩ := id s8
  obtain ⟨r1, r2, ⟨r3, r4, r5⟩, r6, r7, ⟨r0, r8, r9⟩, r10, r11, r12⟩ := a13
  obtain ⟨f1, f2, f3, f4, f5, f6⟩ := a12
  have m467 : ∀ k : Int, M1 467 k = τ' 467 k := fun k => by rw [a16, mixc (by decide)]
  have mc : ∀ c : Nat, ¬ c < 467 → M1 c = τ' c := fun c hc => by rw [a16, mixc hc]
  refine ⟨⟨by rw [m467, r3], by rw [m467, r4], by rw [m467, r9, a10.1]⟩, r11, r12, ⟨by rw [a16]; exact f2.1, by rw [a16]; exact f2.2.2.1.1, by rw [a16]; exact f2.2.2.1.2, by rw [a16]; exact f2.2.1 473 (by decide) (by decide) (by decide), by rw [a16]; exact f2.2.1 469 (by decide) (by decide) (by decide)⟩, fun i x0 x1 => ?_⟩
  have q := r5 i x0 x1
  unfold rRow at q
  rw [show 120 + i = i + 120 by omega] at q
  obtain ⟨q0, q1, q2, q3, q4, q5, q6, q7, q8⟩ := q
  obtain ⟨lv, br, _, ok⟩ := ySeg_at' r6 (l := i + 120) (by omega) (by omega)
  obtain ⟨_, xvr, _, ⟨o1, o2, _, _⟩, _⟩ := ok
  have nF8 := i6.2.2.1
  rw [mc 480 (by decide), mc 481 (by decide), mc 482 (by decide), mc 483 (by decide), mc 484 (by decide), mc 485 (by decide), mc 486 (by decide), mc 487 (by decide), mc 491 (by decide)]
  have e504 : M1 504 = M 504 := by rw [a16]; exact f2.2.2.1.2
  refine ⟨⟨q0, q1, q2, q3, q4, q5, q6, q7⟩, q8, ?_, ?_⟩
  · by_cases k : τ' 480 (i + 120) = 6
    · have := (o1 k).1; omega
    · have := (o2 k).1; omega
  · rw [e504, q5]
    by_cases k : τ' 480 (i + 120) = 6
    · obtain ⟨c1, c2⟩ := o1 k
      obtain ⟨v1, v2, _⟩ := xvr.2.2.2.2 k
      unfold TOg at c2
      rw [if_pos v2.1] at c2
      have nn : TOf M (τ' 486 (i + 120)) = M 485 (M 492 (16 * M 467 11 + τ' 486 (i + 120))) ∧ τ' 486 (i + 120) < M 471 (M 467 11) := by
        by_cases w : τ' 486 (i + 120) < M 471 (M 467 11)
        · exact ⟨if_pos w, w⟩
        · have z : TOf M (τ' 486 (i + 120)) = -1 := if_neg w
          omega
      have t : 0 ≤ M 45 (τ' 486 (i + 120)) ∧ M 45 (τ' 486 (i + 120)) < M 469 (M 467 11) ∧ M 503 (M 45 (τ' 486 (i + 120))) = TOf M (τ' 486 (i + 120)) := i6.2.1 (τ' 486 (i + 120)) v2.1 (by omega) (by rw [c2]; exact v1.1)
      rw [if_pos ⟨v2.1, by omega⟩, if_neg (by omega)]
      have pm := (s2.2.2.2.2.1 (M 45 (τ' 486 (i + 120))) t.1 (by have z := t.2.1; omega)).2.2.1
      have t2 : M 503 (M 45 (τ' 486 (i + 120))) = TOf M (τ' 486 (i + 120)) := t.2.2
      rw [t2, c2] at pm
      exact pm.symm
    · have c := o2 k
      rw [c.1, c.2, if_neg (by omega), if_pos (by omega)]
theorem SB_sz_33 {L0 : Nat} {xs : Nat → Int32} {m : Nat} {S : Int → Int} {f : Int} {P : Nat → Nat → Nat} {M : Nat → Int → Int} (h : SB 33 L0 xs m S f P M) : 0 ≤ M 442 13 ∧ M 442 13 ≤ 300 := by
  obtain ⟨hA, e15, hold⟩ := h
  have hh := SA_hold_33 hA
  obtain ⟨s1, s2, s3, s4, s5, s6, s7, s8⟩ := id hA
  obtain ⟨A, T, G, y1, y2, y3, y4, y5, y6, y7, y8, yc, y10⟩ := rPrem_ex_33 s8 s3.1 s2.2.2.2.1 s6.1 s6.2 hh
  obtain ⟨τb, hb⟩ := rBeg_ex (M := M) (A := A) (T := T) (g := M 503 f)
  obtain ⟨τ', r⟩ := hold.2.2 τb G _ _ (y10 τb hb)
  exact r.2.2.2.2.2.2.2.1
theorem SB_sz_62 {L0 : Nat} {xs : Nat → Int32} {m : Nat} {S : Int → Int} {f : Int} {P : Nat → Nat → Nat} {M : Nat → Int → Int} (h : SB 62 L0 xs m S f P M) : 0 ≤ M 442 13 ∧ M 442 13 ≤ 300 := by
  obtain ⟨hA, e15, hold⟩ := h
  have hh := SA_hold_62 hA
  obtain ⟨s1, s2, s3, s4, s5, s6, s7, s8⟩ := id hA
  obtain ⟨A, T, G, y1, y2, y3, y4, y5, y6, y7, y8, yc, y10⟩ := rPrem_ex_62 s8 s3.1 s2.2.2.2.1 s6.1 s6.2 hh
  obtain ⟨τb, hb⟩ := rBeg_ex (M := M) (A := A) (T := T) (g := M 503 f)
  obtain ⟨τ', r⟩ := hold.2.2 τb G _ _ (y10 τb hb)
  exact r.2.2.2.2.2.2.2.1
theorem pair_15_33 {L0 : Nat} {xs : Nat → Int32} {m d : Nat} {P : Nat → Nat → Nat} {M : Nat → Int → Int} {a0 a1 : Int} (hB : IB L0 xs m P M) (hk : KT 33 M) (hR : RT 33 M) (hp : P 16 11 = 33) (hip : iprog 33 M) {Q1 : zQ} (h1 : ∀ (P1 : Nat → Nat → Nat) (M1 : Nat → Int → Int) (x : Int), M1 1 = M 1 → (∀ (Q2 : zQ), (∀ (P2 : Nat → Nat → Nat) (M2 : Nat → Int → Int), M2 1 = M 1 → IB L0 xs (m + 1) P2 M2 ∧ KP P2 M2 ∧ RP P2 M2 → Q2 (zS P2 M2) (some (vI x))) → WC (d + 80) 124 [vR 467, vI a0, vI a1] (zS P1 M1) Q2) → Q1 (zS P1 M1) (some (vI x))) : WC (d + 80) 17 [vR 16, vI a0, vI a1] (zS P M) Q1 := by
  obtain ⟨b1, b2, b3, b4, b5, b6, b7⟩ := id hB
  obtain ⟨i1, ⟨i2, i2b, i2c⟩, i3, i4, i5, i6, i7, i8⟩ := id hip
  have eP : zupN P 16 11 33 = P := by
    have := zupN_self P 16 11
    rw [hp] at this
    exact this
  have kp : KP P M ∧ RP P M := ⟨⟨fun z => by first | exact hk | (rw [hp] at z; exact absurd z (by decide)), fun z => by first | exact hk | (rw [hp] at z; exact absurd z (by decide))⟩, ⟨fun z => by first | exact hR | (rw [hp] at z; exact absurd z (by decide)), fun z => by first | exact hR | (rw [hp] at z; exact absurd z (by decide))⟩⟩
  have up : IB L0 xs (m + 1) (zupN P 16 11 33) M ∧ KP (zupN P 16 11 33) M ∧ RP (zupN P 16 11 33) M := by rw [eP]; exact ⟨IB_up hB, kp.1, kp.2⟩
  have hn : 0 ≤ M 469 (M 467 11) ∧ M 469 (M 467 11) ≤ 8 := i6.2.2.1
  refine eqC eP.symm rfl (result_c_33 (d := d + 5) (HK1 := fun P1 M1 => SA 33 L0 xs m (M 1) a0 P1 M1) (HK2 := fun _ _ P2 M2 => SB 33 L0 xs m (M 1) a0 P2 M2) a0 a1 (fun Q' q0 q1 => growTree_h_33 (d := d + 5) hB hk hR hp hip q0 q1) (fun P1 M1 s Q' q => writeResult_h_33 (d := d + 5) s q) (fun nq => ?_) (fun P1 M1 s P2 M2 s2 => ?_))
  · refine h1 (zupN P 16 11 33) M _ rfl (fun Q2 h2 => result_m (d := d + 65) (HK1 := fun _ => False) a0 a1 i1 hn (fun _ z => z.elim) (fun v => absurd ⟨v.1, by rw [i2]; exact v.2⟩ nq) (fun _ => h2 _ M rfl up) (fun _ z => z.elim))
  · obtain ⟨u1, u2, u3, u4, u5, u6, u7, u8⟩ := id s2.1
    obtain ⟨j1, ⟨j2, j2b, j2c⟩, j3, j4, j5, j6, j7, j8⟩ := id u8
    have eP2 : zupN P2 16 11 33 = P2 := by
      have := zupN_self P2 16 11
      rw [u1] at this
      exact this
    refine h1 (zupN P2 16 11 33) M2 _ u7 (fun Q2 h2 => result_m (d := d + 65) (HK1 := fun M1 => LK 33 M2 M2 M1 a0) a0 a1 j1 j6.2.2.1 (fun M1 z => ?_) (fun v Q' qq => lays_k_33 (d := d + 65) s2.1 (fun _ _ => rfl) s2.2.2 qq) (fun w => eqR ?_ (h2 _ M2 u7 ?_)) (fun M1 z w => ?_))
    · have F := LK_f_33 s2 z
      have pf := (j6.1 a0 u6.1 (by rw [← j2]; exact u6.2)).1
      have n8 := j6.2.2.1
      rw [F.2.2.2.1.1, F.2.2.2.1.2.1]
      omega
    · have w : ¬ ((0 ≤ a0 ∧ a0 < M2 469 (M2 467 11)) ∧ 0 ≤ a1 ∧ a1 ≤ 3) := w
      have v : 0 ≤ a0 ∧ a0 < M2 469 (M2 467 11) := ⟨u6.1, by rw [← j2]; exact u6.2⟩
      rw [if_neg (by omega), if_neg (by omega), if_neg (by omega), if_neg (by omega)]
    · rw [eP2]; exact ⟨IB_up u2, (SA_KP_33 s2.1 rfl).1, (SA_KP_33 s2.1 rfl).2⟩
    · have F := LK_f_33 s2 z
      have en := LK_end_33 (P' := zupN P2 16 11 33) s2.1 z u1.symm rfl
      refine eqR ?_ (h2 _ M1 en.1 en.2)
      obtain ⟨⟨g1, g2, g3⟩, _, _, ⟨g4, g5, g6, g7, g8⟩, _⟩ := F
      have par : M2 441 2 = M2 473 (8 * M2 467 11 + M2 503 a0) := by
        rw [s2.2.2.1.1]; exact (j6.1 a0 u6.1 (by rw [← j2]; exact u6.2)).2.1
      rw [g1, g2, g3, g4, g5, g7, par]
      split
      · omega
      · split
        · rfl
        · split
          · rfl
          · rw [if_pos (by omega)]
theorem pair_16_33 {L0 : Nat} {xs : Nat → Int32} {m d : Nat} {P : Nat → Nat → Nat} {M : Nat → Int → Int} {a0 a1 a2 : Int} (hB : IB L0 xs m P M) (hk : KT 33 M) (hR : RT 33 M) (hp : P 16 11 = 33) (hip : iprog 33 M) {Q1 : zQ} (h1 : ∀ (P1 : Nat → Nat → Nat) (M1 : Nat → Int → Int) (x : Int), M1 1 = M 1 → (∀ (Q2 : zQ), (∀ (P2 : Nat → Nat → Nat) (M2 : Nat → Int → Int), M2 1 = M 1 → IB L0 xs (m + 1) P2 M2 ∧ KP P2 M2 ∧ RP P2 M2 → Q2 (zS P2 M2) (some (vI x))) → WC (d + 80) 125 [vR 467, vI a0, vI a1, vI a2] (zS P1 M1) Q2) → Q1 (zS P1 M1) (some (vI x))) : WC (d + 80) 18 [vR 16, vI a0, vI a1, vI a2] (zS P M) Q1 := by
  obtain ⟨b1, b2, b3, b4, b5, b6, b7⟩ := id hB
  obtain ⟨i1, ⟨i2, i2b, i2c⟩, i3, i4, i5, i6, i7, i8⟩ := id hip
  have eP : zupN P 16 11 33 = P := by
    have := zupN_self P 16 11
    rw [hp] at this
    exact this
  have kp : KP P M ∧ RP P M := ⟨⟨fun z => by first | exact hk | (rw [hp] at z; exact absurd z (by decide)), fun z => by first | exact hk | (rw [hp] at z; exact absurd z (by decide))⟩, ⟨fun z => by first | exact hR | (rw [hp] at z; exact absurd z (by decide)), fun z => by first | exact hR | (rw [hp] at z; exact absurd z (by decide))⟩⟩
  have up : IB L0 xs (m + 1) (zupN P 16 11 33) M ∧ KP (zupN P 16 11 33) M ∧ RP (zupN P 16 11 33) M := by rw [eP]; exact ⟨IB_up hB, kp.1, kp.2⟩
  have hn : 0 ≤ M 469 (M 467 11) ∧ M 469 (M 467 11) ≤ 8 := i6.2.2.1
  refine eqC eP.symm rfl (line_c_33 (d := d + 5) (HK1 := fun P1 M1 => SA 33 L0 xs m (M 1) a0 P1 M1) (HK2 := fun _ _ P2 M2 => SB 33 L0 xs m (M 1) a0 P2 M2) a0 a1 a2 (fun P1 M1 s P2 M2 s2 => ?_) (fun Q' q0 q1 => growTree_h_33 (d := d + 5) hB hk hR hp hip q0 q1) (fun P1 M1 s Q' q => writeResult_h_33 (d := d + 5) s q) (fun nq => ?_) (fun P1 M1 s P2 M2 s2 => ?_))
  · obtain ⟨u1, u2, u3, u4, u5, u6, u7, u8⟩ := id s2.1
    obtain ⟨j1, ⟨j2, j2b, j2c⟩, j3, j4, j5, j6, j7, j8⟩ := id u8
    have sz : 0 ≤ M2 442 13 ∧ M2 442 13 ≤ 300 := SB_sz_33 s2
    omega
  · refine h1 (zupN P 16 11 33) M _ rfl (fun Q2 h2 => line_m (d := d + 65) (HK1 := fun _ => False) a0 a1 a2 i1 hn (fun _ z => z.elim) (fun v => absurd ⟨v.1, by rw [i2]; exact v.2⟩ nq) (fun _ => h2 _ M rfl up) (fun _ z => z.elim))
  · obtain ⟨u1, u2, u3, u4, u5, u6, u7, u8⟩ := id s2.1
    obtain ⟨j1, ⟨j2, j2b, j2c⟩, j3, j4, j5, j6, j7, j8⟩ := id u8
    have eP2 : zupN P2 16 11 33 = P2 := by
      have := zupN_self P2 16 11
      rw [u1] at this
      exact this
    refine h1 (zupN P2 16 11 33) M2 _ u7 (fun Q2 h2 => line_m (d := d + 65) (HK1 := fun M1 => LK 33 M2 M2 M1 a0) a0 a1 a2 j1 j6.2.2.1 (fun M1 z => ?_) (fun v Q' qq => lays_k_33 (d := d + 65) s2.1 (fun _ _ => rfl) s2.2.2 qq) (fun w => eqR ?_ (h2 _ M2 u7 ?_)) (fun M1 z w => ?_))
    · have F := LK_f_33 s2 z
      have pf := (j6.1 a0 u6.1 (by rw [← j2]; exact u6.2)).1
      have n8 := j6.2.2.1
      refine ⟨?_, ?_, ?_, ?_, ?_, ?_, fun i x0 x1 => ?_⟩
      · rw [F.2.2.2.1.1]; exact j1.1
      · rw [F.2.2.2.1.1]; exact j1.2
      · rw [F.2.2.2.1.2.1]; exact pf.1
      · rw [F.2.2.2.1.2.1]; omega
      · omega
      · omega
      · have y := F.2.2.2.2 i x0 (by omega)
        exact ⟨y.2.2.1, y.2.1⟩
    · have w : ¬ ((0 ≤ a0 ∧ a0 < M2 469 (M2 467 11)) ∧ 0 ≤ a2 ∧ a2 ≤ 7) := w
      have v : 0 ≤ a0 ∧ a0 < M2 469 (M2 467 11) := ⟨u6.1, by rw [← j2]; exact u6.2⟩
      unfold lineC
      split
      · repeat (rw [if_neg (by omega)])
      · rfl
    · rw [eP2]; exact ⟨IB_up u2, (SA_KP_33 s2.1 rfl).1, (SA_KP_33 s2.1 rfl).2⟩
    · have F := LK_f_33 s2 z
      have en := LK_end_33 (P' := zupN P2 16 11 33) s2.1 z u1.symm rfl
      refine eqR ?_ (h2 _ M1 en.1 en.2)
      obtain ⟨⟨g1, g2, g3⟩, _, _, ⟨g4, g5, g6, g7, g8⟩, gr⟩ := F
      unfold lineC lineM
      rw [g1, show 120 + M2 442 13 - 120 = M2 442 13 by omega]
      by_cases e : 0 ≤ a1 ∧ a1 < M2 442 13
      · rw [if_pos e, if_pos e]
        obtain ⟨⟨q0, q1, q2, q3, q4, q5, q6, q7⟩, q8, q9, q10⟩ := gr a1 e.1 e.2
        rw [q10, q0, q1, q2, q3, q4, q6, q7]
        repeat (split; rfl)
        have e7 : a2 = 7 := by omega
        rw [if_pos e7]
        rcases q8 with y | y
        · rw [y, if_pos rfl]
        · rw [y, if_neg (by decide)]
      · rw [if_neg e, if_neg e]
/-- what the reference answers by -/
theorem LK_f_62 {P : Nat → Nat → Nat} {M M1 : Nat → Int → Int} {L0 : Nat} {xs : Nat → Int32} {m : Nat} {S : Int → Int} {f : Int} (hS : SB 62 L0 xs m S f P M) (h : LK 62 M M M1 f) : (M1 467 109 = 120 + M 442 13 ∧ M1 467 110 = M 441 1 ∧ M1 467 111 = M 116 4) ∧ (0 ≤ M 442 13 ∧ M 442 13 ≤ 300) ∧ (0 ≤ M 441 1 ∧ M 441 1 ≤ 8 + M 442 13) ∧ (M1 467 11 = M 467 11 ∧ M1 503 = M 503 ∧ M1 504 = M 504 ∧ M1 473 = M 473 ∧ M1 469 = M 469) ∧
    ∀ i : Int, 0 ≤ i → i < M 442 13 → (M 443 i = M1 480 (i + 120) ∧ M 444 i = M1 481 (i + 120) ∧ M 445 i = M1 482 (i + 120) ∧ M 446 i = M1 483 (i + 120) ∧ M 447 i = M1 484 (i + 120) ∧ M 448 i = M1 486 (i + 120) ∧ M 449 i = M1 487 (i + 120) ∧ M 451 i = M1 491 (i + 120)) ∧ (M1 491 (i + 120) = 0 ∨ M1 491 (i + 120) = 1) ∧ M1 485 (i + 120) < 8 ∧ (if 0 ≤ M 448 i ∧ M 448 i < M 62 1 then M 74 (M 448 i) else -2) = (if M1 485 (i + 120) < 0 then -2 else M1 504 (M1 485 (i + 120))) := by
  obtain ⟨N, τ', A, T, B, U, n0, g, y0, a1, a2, a3, a4, a5, a6, a7, a8, a9, a10, a11, a12, a13, a14, a15, ac, a16⟩ := h
  obtain ⟨hA, e15, hold⟩ := hS
  obtain ⟨s1, s2, s3, s4, s5, s6, s7, s8⟩ := id hA
  obtain ⟨i1, ⟨i2, i2b, i2c⟩, i3, i4, i5, i6, i7, i8⟩ := id s8
  obtain ⟨r1, r2, ⟨r3, r4, r5⟩, r6, r7, ⟨r0, r8, r9⟩, r10, r11, r12⟩ := a13
  obtain ⟨f1, f2, f3, f4, f5, f6⟩ := a12
  have m467 : ∀ k : Int, M1 467 k = τ' 467 k := fun k => by rw [a16, mixc (by decide)]
  have mc : ∀ c : Nat, ¬ c < 467 → M1 c = τ' c := fun c hc => by rw [a16, mixc hc]
  refine ⟨⟨by rw [m467, r3], by rw [m467, r4], by rw [m467, r9, a10.1]⟩, r11, r12, ⟨by rw [a16]; exact f2.1, by rw [a16]; exact f2.2.2.1.1, by rw [a16]; exact f2.2.2.1.2, by rw [a16]; exact f2.2.1 473 (by decide) (by decide) (by decide), by rw [a16]; exact f2.2.1 469 (by decide) (by decide) (by decide)⟩, fun i x0 x1 => ?_⟩
  have q := r5 i x0 x1
  unfold rRow at q
  rw [show 120 + i = i + 120 by omega] at q
  obtain ⟨q0, q1, q2, q3, q4, q5, q6, q7, q8⟩ := q
  obtain ⟨lv, br, _, ok⟩ := ySeg_at' r6 (l := i + 120) (by omega) (by omega)
  obtain ⟨_, xvr, _, ⟨o1, o2, _, _⟩, _⟩ := ok
  have nF8 := i6.2.2.1
  rw [mc 480 (by decide), mc 481 (by decide), mc 482 (by decide), mc 483 (by decide), mc 484 (by decide), mc 485 (by decide), mc 486 (by decide), mc 487 (by decide), mc 491 (by decide)]
  have e504 : M1 504 = M 504 := by rw [a16]; exact f2.2.2.1.2
  refine ⟨⟨q0, q1, q2, q3, q4, q5, q6, q7⟩, q8, ?_, ?_⟩
  · by_cases k : τ' 480 (i + 120) = 6
    · have := (o1 k).1; omega
    · have := (o2 k).1; omega
  · rw [e504, q5]
    by_cases k : τ' 480 (i + 120) = 6
    · obtain ⟨c1, c2⟩ := o1 k
      obtain ⟨v1, v2, _⟩ := xvr.2.2.2.2 k
      unfold TOg at c2
      rw [if_pos v2.1] at c2
      have nn : TOf M (τ' 486 (i + 120)) = M 485 (M 492 (16 * M 467 11 + τ' 486 (i + 120))) ∧ τ' 486 (i + 120) < M 471 (M 467 11) := by
        by_cases w : τ' 486 (i + 120) < M 471 (M 467 11)
        · exact ⟨if_pos w, w⟩
        · have z : TOf M (τ' 486 (i + 120)) = -1 := if_neg w
          omega
      have t : 0 ≤ M 74 (τ' 486 (i + 120)) ∧ M 74 (τ' 486 (i + 120)) < M 469 (M 467 11) ∧ M 503 (M 74 (τ' 486 (i + 120))) = TOf M (τ' 486 (i + 120)) := i6.2.1 (τ' 486 (i + 120)) v2.1 (by omega) (by rw [c2]; exact v1.1)
      rw [if_pos ⟨v2.1, by omega⟩, if_neg (by omega)]
      have pm := (s2.2.2.2.2.1 (M 74 (τ' 486 (i + 120))) t.1 (by have z := t.2.1; omega)).2.2.1
      have t2 : M 503 (M 74 (τ' 486 (i + 120))) = TOf M (τ' 486 (i + 120)) := t.2.2
      rw [t2, c2] at pm
      exact pm.symm
    · have c := o2 k
      rw [c.1, c.2, if_neg (by omega), if_pos (by omega)]
theorem pair_15_62 {L0 : Nat} {xs : Nat → Int32} {m d : Nat} {P : Nat → Nat → Nat} {M : Nat → Int → Int} {a0 a1 : Int} (hB : IB L0 xs m P M) (hk : KT 62 M) (hR : RT 62 M) (hp : P 16 11 = 62) (hip : iprog 62 M) {Q1 : zQ} (h1 : ∀ (P1 : Nat → Nat → Nat) (M1 : Nat → Int → Int) (x : Int), M1 1 = M 1 → (∀ (Q2 : zQ), (∀ (P2 : Nat → Nat → Nat) (M2 : Nat → Int → Int), M2 1 = M 1 → IB L0 xs (m + 1) P2 M2 ∧ KP P2 M2 ∧ RP P2 M2 → Q2 (zS P2 M2) (some (vI x))) → WC (d + 80) 124 [vR 467, vI a0, vI a1] (zS P1 M1) Q2) → Q1 (zS P1 M1) (some (vI x))) : WC (d + 80) 17 [vR 16, vI a0, vI a1] (zS P M) Q1 := by
  obtain ⟨b1, b2, b3, b4, b5, b6, b7⟩ := id hB
  obtain ⟨i1, ⟨i2, i2b, i2c⟩, i3, i4, i5, i6, i7, i8⟩ := id hip
  have eP : zupN P 16 11 62 = P := by
    have := zupN_self P 16 11
    rw [hp] at this
    exact this
  have kp : KP P M ∧ RP P M := ⟨⟨fun z => by first | exact hk | (rw [hp] at z; exact absurd z (by decide)), fun z => by first | exact hk | (rw [hp] at z; exact absurd z (by decide))⟩, ⟨fun z => by first | exact hR | (rw [hp] at z; exact absurd z (by decide)), fun z => by first | exact hR | (rw [hp] at z; exact absurd z (by decide))⟩⟩
  have up : IB L0 xs (m + 1) (zupN P 16 11 62) M ∧ KP (zupN P 16 11 62) M ∧ RP (zupN P 16 11 62) M := by rw [eP]; exact ⟨IB_up hB, kp.1, kp.2⟩
  have hn : 0 ≤ M 469 (M 467 11) ∧ M 469 (M 467 11) ≤ 8 := i6.2.2.1
  refine eqC eP.symm rfl (result_c_62 (d := d + 5) (HK1 := fun P1 M1 => SA 62 L0 xs m (M 1) a0 P1 M1) (HK2 := fun _ _ P2 M2 => SB 62 L0 xs m (M 1) a0 P2 M2) a0 a1 (fun Q' q0 q1 => growTree_h_62 (d := d + 5) hB hk hR hp hip q0 q1) (fun P1 M1 s Q' q => writeResult_h_62 (d := d + 5) s q) (fun nq => ?_) (fun P1 M1 s P2 M2 s2 => ?_))
  · refine h1 (zupN P 16 11 62) M _ rfl (fun Q2 h2 => result_m (d := d + 65) (HK1 := fun _ => False) a0 a1 i1 hn (fun _ z => z.elim) (fun v => absurd ⟨v.1, by rw [i2]; exact v.2⟩ nq) (fun _ => h2 _ M rfl up) (fun _ z => z.elim))
  · obtain ⟨u1, u2, u3, u4, u5, u6, u7, u8⟩ := id s2.1
    obtain ⟨j1, ⟨j2, j2b, j2c⟩, j3, j4, j5, j6, j7, j8⟩ := id u8
    have eP2 : zupN P2 16 11 62 = P2 := by
      have := zupN_self P2 16 11
      rw [u1] at this
      exact this
    refine h1 (zupN P2 16 11 62) M2 _ u7 (fun Q2 h2 => result_m (d := d + 65) (HK1 := fun M1 => LK 62 M2 M2 M1 a0) a0 a1 j1 j6.2.2.1 (fun M1 z => ?_) (fun v Q' qq => lays_k_62 (d := d + 65) s2.1 (fun _ _ => rfl) s2.2.2 qq) (fun w => eqR ?_ (h2 _ M2 u7 ?_)) (fun M1 z w => ?_))
    · have F := LK_f_62 s2 z
      have pf := (j6.1 a0 u6.1 (by rw [← j2]; exact u6.2)).1
      have n8 := j6.2.2.1
      rw [F.2.2.2.1.1, F.2.2.2.1.2.1]
      omega
    · have w : ¬ ((0 ≤ a0 ∧ a0 < M2 469 (M2 467 11)) ∧ 0 ≤ a1 ∧ a1 ≤ 3) := w
      have v : 0 ≤ a0 ∧ a0 < M2 469 (M2 467 11) := ⟨u6.1, by rw [← j2]; exact u6.2⟩
      rw [if_neg (by omega), if_neg (by omega), if_neg (by omega), if_neg (by omega)]
    · rw [eP2]; exact ⟨IB_up u2, (SA_KP_62 s2.1 rfl).1, (SA_KP_62 s2.1 rfl).2⟩
    · have F := LK_f_62 s2 z
      have en := LK_end_62 (P' := zupN P2 16 11 62) s2.1 z u1.symm rfl
      refine eqR ?_ (h2 _ M1 en.1 en.2)
      obtain ⟨⟨g1, g2, g3⟩, _, _, ⟨g4, g5, g6, g7, g8⟩, _⟩ := F
      have par : M2 441 2 = M2 473 (8 * M2 467 11 + M2 503 a0) := by
        rw [s2.2.2.1.1]; exact (j6.1 a0 u6.1 (by rw [← j2]; exact u6.2)).2.1
      rw [g1, g2, g3, g4, g5, g7, par]
      split
      · omega
      · split
        · rfl
        · split
          · rfl
          · rw [if_pos (by omega)]
theorem pair_16_62 {L0 : Nat} {xs : Nat → Int32} {m d : Nat} {P : Nat → Nat → Nat} {M : Nat → Int → Int} {a0 a1 a2 : Int} (hB : IB L0 xs m P M) (hk : KT 62 M) (hR : RT 62 M) (hp : P 16 11 = 62) (hip : iprog 62 M) {Q1 : zQ} (h1 : ∀ (P1 : Nat → Nat → Nat) (M1 : Nat → Int → Int) (x : Int), M1 1 = M 1 → (∀ (Q2 : zQ), (∀ (P2 : Nat → Nat → Nat) (M2 : Nat → Int → Int), M2 1 = M 1 → IB L0 xs (m + 1) P2 M2 ∧ KP P2 M2 ∧ RP P2 M2 → Q2 (zS P2 M2) (some (vI x))) → WC (d + 80) 125 [vR 467, vI a0, vI a1, vI a2] (zS P1 M1) Q2) → Q1 (zS P1 M1) (some (vI x))) : WC (d + 80) 18 [vR 16, vI a0, vI a1, vI a2] (zS P M) Q1 := by
  obtain ⟨b1, b2, b3, b4, b5, b6, b7⟩ := id hB
  obtain ⟨i1, ⟨i2, i2b, i2c⟩, i3, i4, i5, i6, i7, i8⟩ := id hip
  have eP : zupN P 16 11 62 = P := by
    have := zupN_self P 16 11
    rw [hp] at this
    exact this
  have kp : KP P M ∧ RP P M := ⟨⟨fun z => by first | exact hk | (rw [hp] at z; exact absurd z (by decide)), fun z => by first | exact hk | (rw [hp] at z; exact absurd z (by decide))⟩, ⟨fun z => by first | exact hR | (rw [hp] at z; exact absurd z (by decide)), fun z => by first | exact hR | (rw [hp] at z; exact absurd z (by decide))⟩⟩
  have up : IB L0 xs (m + 1) (zupN P 16 11 62) M ∧ KP (zupN P 16 11 62) M ∧ RP (zupN P 16 11 62) M := by rw [eP]; exact ⟨IB_up hB, kp.1, kp.2⟩
  have hn : 0 ≤ M 469 (M 467 11) ∧ M 469 (M 467 11) ≤ 8 := i6.2.2.1
  refine eqC eP.symm rfl (line_c_62 (d := d + 5) (HK1 := fun P1 M1 => SA 62 L0 xs m (M 1) a0 P1 M1) (HK2 := fun _ _ P2 M2 => SB 62 L0 xs m (M 1) a0 P2 M2) a0 a1 a2 (fun P1 M1 s P2 M2 s2 => ?_) (fun Q' q0 q1 => growTree_h_62 (d := d + 5) hB hk hR hp hip q0 q1) (fun P1 M1 s Q' q => writeResult_h_62 (d := d + 5) s q) (fun nq => ?_) (fun P1 M1 s P2 M2 s2 => ?_))
  · obtain ⟨u1, u2, u3, u4, u5, u6, u7, u8⟩ := id s2.1
    obtain ⟨j1, ⟨j2, j2b, j2c⟩, j3, j4, j5, j6, j7, j8⟩ := id u8
    have sz : 0 ≤ M2 442 13 ∧ M2 442 13 ≤ 300 := SB_sz_62 s2
    omega
  · refine h1 (zupN P 16 11 62) M _ rfl (fun Q2 h2 => line_m (d := d + 65) (HK1 := fun _ => False) a0 a1 a2 i1 hn (fun _ z => z.elim) (fun v => absurd ⟨v.1, by rw [i2]; exact v.2⟩ nq) (fun _ => h2 _ M rfl up) (fun _ z => z.elim))
  · obtain ⟨u1, u2, u3, u4, u5, u6, u7, u8⟩ := id s2.1
    obtain ⟨j1, ⟨j2, j2b, j2c⟩, j3, j4, j5, j6, j7, j8⟩ := id u8
    have eP2 : zupN P2 16 11 62 = P2 := by
      have := zupN_self P2 16 11
      rw [u1] at this
      exact this
    refine h1 (zupN P2 16 11 62) M2 _ u7 (fun Q2 h2 => line_m (d := d + 65) (HK1 := fun M1 => LK 62 M2 M2 M1 a0) a0 a1 a2 j1 j6.2.2.1 (fun M1 z => ?_) (fun v Q' qq => lays_k_62 (d := d + 65) s2.1 (fun _ _ => rfl) s2.2.2 qq) (fun w => eqR ?_ (h2 _ M2 u7 ?_)) (fun M1 z w => ?_))
    · have F := LK_f_62 s2 z
      have pf := (j6.1 a0 u6.1 (by rw [← j2]; exact u6.2)).1
      have n8 := j6.2.2.1
      refine ⟨?_, ?_, ?_, ?_, ?_, ?_, fun i x0 x1 => ?_⟩
      · rw [F.2.2.2.1.1]; exact j1.1
      · rw [F.2.2.2.1.1]; exact j1.2
      · rw [F.2.2.2.1.2.1]; exact pf.1
      · rw [F.2.2.2.1.2.1]; omega
      · omega
      · omega
      · have y := F.2.2.2.2 i x0 (by omega)
        exact ⟨y.2.2.1, y.2.1⟩
    · have w : ¬ ((0 ≤ a0 ∧ a0 < M2 469 (M2 467 11)) ∧ 0 ≤ a2 ∧ a2 ≤ 7) := w
      have v : 0 ≤ a0 ∧ a0 < M2 469 (M2 467 11) := ⟨u6.1, by rw [← j2]; exact u6.2⟩
      unfold lineC
      split
      · repeat (rw [if_neg (by omega)])
      · rfl
    · rw [eP2]; exact ⟨IB_up u2, (SA_KP_62 s2.1 rfl).1, (SA_KP_62 s2.1 rfl).2⟩
    · have F := LK_f_62 s2 z
      have en := LK_end_62 (P' := zupN P2 16 11 62) s2.1 z u1.symm rfl
      refine eqR ?_ (h2 _ M1 en.1 en.2)
      obtain ⟨⟨g1, g2, g3⟩, _, _, ⟨g4, g5, g6, g7, g8⟩, gr⟩ := F
      unfold lineC lineM
      rw [g1, show 120 + M2 442 13 - 120 = M2 442 13 by omega]
      by_cases e : 0 ≤ a1 ∧ a1 < M2 442 13
      · rw [if_pos e, if_pos e]
        obtain ⟨⟨q0, q1, q2, q3, q4, q5, q6, q7⟩, q8, q9, q10⟩ := gr a1 e.1 e.2
        rw [q10, q0, q1, q2, q3, q4, q6, q7]
        repeat (split; rfl)
        have e7 : a2 = 7 := by omega
        rw [if_pos e7]
        rcases q8 with y | y
        · rw [y, if_pos rfl]
        · rw [y, if_neg (by decide)]
      · rw [if_neg e, if_neg e]
theorem pair_15 {L0 : Nat} {xs : Nat → Int32} {m d : Nat} : pr_15 (d + 80) (fun P M => IB L0 xs m P M ∧ KP P M ∧ RP P M) (fun P M => IB L0 xs (m + 1) P M ∧ KP P M ∧ RP P M) := by
  intro P M a0 a1 hI r0 r1 Q1 h1
  obtain ⟨hB, hK, hR⟩ := hI
  rcases hB.2.2.2.2.2.2 with ⟨p1, p2, p3⟩ | ⟨p1, p2, p3⟩
  · exact pair_15_33 hB (hK.1 p1) (hR.1 p1) p1 p3 h1
  · exact pair_15_62 hB (hK.2 p1) (hR.2 p1) p1 p3 h1
theorem pair_16 {L0 : Nat} {xs : Nat → Int32} {m d : Nat} : pr_16 (d + 80) (fun P M => IB L0 xs m P M ∧ KP P M ∧ RP P M) (fun P M => IB L0 xs (m + 1) P M ∧ KP P M ∧ RP P M) := by
  intro P M a0 a1 a2 hI r0 r1 r2 Q1 h1
  obtain ⟨hB, hK, hR⟩ := hI
  rcases hB.2.2.2.2.2.2 with ⟨p1, p2, p3⟩ | ⟨p1, p2, p3⟩
  · exact pair_16_33 hB (hK.1 p1) (hR.1 p1) p1 p3 h1
  · exact pair_16_62 hB (hK.2 p1) (hR.2 p1) p1 p3 h1
