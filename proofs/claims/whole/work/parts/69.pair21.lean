/-! The pair would -/
theorem pair_21_33 {R : (Nat → Nat → Nat) → (Nat → Int → Int) → Prop} {L0 : Nat} {xs : Nat → Int32} {m d : Nat} (hR2 : ∀ (P : Nat → Nat → Nat) (M : Nat → Int → Int), M 16 15 = -1 → R P M) {P : Nat → Nat → Nat} {M : Nat → Int → Int} {a0 a1 a2 a3 : Int} (hB : IB L0 xs m P M) (hk : KT 33 M) (hR : R P M) (hp : P 16 11 = 33) (hq : P 16 12 = 62) (hip : iprog 33 M) {Q1 : zQ} (h1 : ∀ (P1 : Nat → Nat → Nat) (M1 : Nat → Int → Int) (x : Int), M1 1 = M 1 → (∀ (Q2 : zQ), (∀ (P2 : Nat → Nat → Nat) (M2 : Nat → Int → Int), M2 1 = M 1 → IB L0 xs (m + 1) P2 M2 ∧ KP P2 M2 ∧ R P2 M2 → Q2 (zS P2 M2) (some (vI x))) → WC (d + 80) 110 [vR 467, vI a0, vI a1, vI a2, vI a3] (zS P1 M1) Q2) → Q1 (zS P1 M1) (some (vI x))) : WC (d + 80) 23 [vR 16, vI a0, vI a1, vI a2, vI a3] (zS P M) Q1 := by
  obtain ⟨b1, b2, b3, b4, b5, b6, b7⟩ := id hB
  obtain ⟨⟨hgA, h3⟩, hgB, hl, hv, hpp, hz⟩ := px_33 hip hk.1 b4
  obtain ⟨i1, ⟨i2, i2b, i2c⟩, i3, i4, i5, i6, i7, i8⟩ := id hip
  have hc : M 2 0 = 0 ∧ M 2 1 = 1 ∧ M 2 2 = 0 ∧ M 2 3 = 0 ∧ M 3 0 = 300 ∧ M 3 1 = 50 ∧ M 3 2 = 3 ∧ M 3 3 = 500 ∧ M 3 (-1) = 4 ∧ M 2 (-1) = 4 := by
    rw [b1 2 (by decide), b1 3 (by decide)]; exact ⟨rfl, rfl, rfl, rfl, rfl, rfl, rfl, rfl, rfl, rfl⟩
  have eP : zupN P 16 11 33 = P := by
    have := zupN_self P 16 11
    rw [hp] at this
    exact this
  have up : IB L0 xs (m + 1) P M := ⟨b1, b2, b3, b4, b5, iprof_up b6, b7⟩
  have kp : ∀ (P' : Nat → Nat → Nat) (A : Nat → Int → Int), P' 16 11 = P 16 11 → KT 33 A → KP P' A := fun P' A e k => ⟨fun z => by first | exact k | (rw [e, hp] at z; exact absurd z (by decide)), fun z => by first | exact k | (rw [e, hp] at z; exact absurd z (by decide))⟩
  have fp : FrP M (zrow (zrow M 19 (zs (M 19) a1 a2)) 506 (zs (M 506) a1 a2)) := frP_row rfl (by decide) (frP_row rfl (by decide) frP_refl)
  have hs' : isSet a1 a2 → iset (zrow (zrow M 19 (zs (M 19) a1 a2)) 506 (zs (M 506) a1 a2)) := fun s k k0 k1 => by
    show zs (M 19) a1 a2 k = zs (M 506) a1 a2 k ∧ isSet k (zs (M 506) a1 a2 k)
    unfold zs; split
    · next e => rw [e]; exact ⟨rfl, s⟩
    · exact b4 k k0 k1
  have hip' := iprog_fr33 fp hip
  have hx' := ipx_fr33 fp hk.1
  have e4 : ∀ k : Int, 0 ≤ k → k < 4 → zs (zcpr (M 20) (M 19) 0 0 4) a1 a2 k = zs (M 19) a1 a2 k := fun k k0 k1 => by
    unfold zs; split
    · rfl
    · show (if (0 : Int) ≤ k ∧ k < 0 + 4 then M 19 (0 + (k - 0)) else M 20 k) = M 19 k
      rw [if_pos ⟨k0, by omega⟩, show 0 + (k - 0) = k by omega]
  refine eqC eP.symm rfl (would_c_33 (d := d + 33) a0 a1 a2 a3 (zcl M 0) (fun _ _ => rfl) (zcl M 1) (fun _ _ => rfl) (zcl M 2) (fun _ _ => rfl) (zcl M 3) (fun _ _ => rfl) (zcl M 4) (fun _ _ => rfl) (zcl M 5) (fun _ _ => rfl) (zcl M 6) (fun _ _ => rfl) (zcl M 7) (fun _ _ => rfl) (zcl M 8) (fun _ _ => rfl) (zcl M 9) (fun _ _ => rfl) (zcl M 10) (fun _ _ => rfl) (zcl M 11) (fun _ _ => rfl) (zcl M 12) (fun _ _ => rfl) (zcl M 13) (fun _ _ => rfl) (zcl M 14) (fun _ _ => rfl) hc (by rw [i2]; exact i6.2.2.1.2) (fun s => tPg_set (px_33 hip' hx' (hs' s)).1.1 e4) h3 (fun q => ?_) ?_)
  · refine h1 (zupN P 16 11 33) M _ rfl (fun Q2 h2 => would_m (d := d + 62) a0 a1 a2 a3 i1 (fun s => (px_33 hip' hx' (hs' s)).2.1) i6.2.2.1 hl hv hpp hz (fun _ => h2 _ M rfl ?_) ?_)
    · rw [eP]; exact ⟨up, kp P M rfl hk, hR⟩
    · intro w521 w522 w523 w524 w525 w526 w527 w528 w529 w530 w531 w532 w533 w534 v86 v87 v88 v89 v90 v94 r qi
      exact absurd ⟨⟨qi.1.1, by rw [i2]; exact qi.1.2⟩, qi.2.1⟩ q
  · intro k0 k1 k2 k3 k4 k5 k6 k7 k8 k9 k10 k11 k12 k13 k14 w118 w119 w120 u3 u4 u5 u8 u9 u10 u11 u12 u13 q qh qs
    refine h1 _ _ _ rfl (fun Q2 h2 => would_m (d := d + 62) a0 a1 a2 a3 i1 (fun s => (px_33 hip' hx' (hs' s)).2.1) i6.2.2.1 hl hv hpp hz (fun w => eqR ?_ (h2 _ _ rfl ?_)) ?_)
    · have w : ¬ ((0 ≤ a0 ∧ a0 < M 469 (M 467 11)) ∧ isSet a1 a2 ∧ 0 ≤ a3 ∧ a3 ≤ 6) := w
      have w : ¬ (0 ≤ a3 ∧ a3 ≤ 6) := fun z => w ⟨⟨q.1.1, by rw [← i2]; exact q.1.2⟩, q.2, z⟩
      unfold tAnsC; repeat (first | rw [if_neg (by omega)])
    · exact ⟨IB_frG (show FrG M (zup (zup (zup (zup (zup (zup (zup (zup (zup (zup (zup (zcol (zcol (zcol (zcol (zcol (zcol (zcol (zcol (zcol (zcol (zcol (zcol (zcol (zcol (zcol (zrow (zrow (zrow (zrow M 20 (zs (zcpr (M 20) (M 19) 0 0 4) a1 a2)) 118 w118) 119 w119) 120 w120) 0 k0) 1 k1) 2 k2) 3 k3) 4 k4) 5 k5) 6 k6) 7 k7) 8 k8) 9 k9) 10 k10) 11 k11) 12 k12) 13 k13) 14 k14) 16 14 (-1)) 16 15 (-1)) 116 3 u3) 116 4 u4) 116 5 u5) 116 8 u8) 116 9 u9) 116 10 u10) 116 11 u11) 116 12 u12) 116 13 u13) by repeat (first | apply frG_up rfl (by decide) (by decide) | apply frG_row rfl (by decide) | apply frG_col | exact frG_refl)) hp.symm rfl up, kp _ _ hp.symm ⟨ipx_fr33 (frG_P (show FrG M (zup (zup (zup (zup (zup (zup (zup (zup (zup (zup (zup (zcol (zcol (zcol (zcol (zcol (zcol (zcol (zcol (zcol (zcol (zcol (zcol (zcol (zcol (zcol (zrow (zrow (zrow (zrow M 20 (zs (zcpr (M 20) (M 19) 0 0 4) a1 a2)) 118 w118) 119 w119) 120 w120) 0 k0) 1 k1) 2 k2) 3 k3) 4 k4) 5 k5) 6 k6) 7 k7) 8 k8) 9 k9) 10 k10) 11 k11) 12 k12) 13 k13) 14 k14) 16 14 (-1)) 16 15 (-1)) 116 3 u3) 116 4 u4) 116 5 u5) 116 8 u8) 116 9 u9) 116 10 u10) 116 11 u11) 116 12 u12) 116 13 u13) by repeat (first | apply frG_up rfl (by decide) (by decide) | apply frG_row rfl (by decide) | apply frG_col | exact frG_refl))) hk.1, Or.inl rfl⟩, hR2 _ _ rfl⟩
    · intro w521 w522 w523 w524 w525 w526 w527 w528 w529 w530 w531 w532 w533 w534 v86 v87 v88 v89 v90 v94 r qi ⟨n0, U, r1, r2, r3, e⟩
      have ee := (hand_rel_33 (M := (zrow (zrow M 19 (zs (M 19) a1 a2)) 506 (zs (M 506) a1 a2))) (r := w120) hip' hx' b5 (hs' q.2) b6 (fun k k0 k1 => (qs k k0 k1).trans (e4 k k0 k1)) q.1.1 q.1.2 qh r1 r2 r3).1 a3
      refine eqR (e.trans ee.symm) (h2 _ _ rfl ?_)
      rw [zrow_self _ 506]
      exact ⟨IB_frG (show FrG M (zup (zup (zup (zup (zup (zup (zrow (zrow (zrow (zrow (zrow (zrow (zrow (zrow (zrow (zrow (zrow (zrow (zrow (zrow (zup (zup (zup (zup (zup (zup (zup (zup (zup (zup (zup (zcol (zcol (zcol (zcol (zcol (zcol (zcol (zcol (zcol (zcol (zcol (zcol (zcol (zcol (zcol (zrow (zrow (zrow (zrow M 20 (zs (zcpr (M 20) (M 19) 0 0 4) a1 a2)) 118 w118) 119 w119) 120 w120) 0 k0) 1 k1) 2 k2) 3 k3) 4 k4) 5 k5) 6 k6) 7 k7) 8 k8) 9 k9) 10 k10) 11 k11) 12 k12) 13 k13) 14 k14) 16 14 (-1)) 16 15 (-1)) 116 3 u3) 116 4 u4) 116 5 u5) 116 8 u8) 116 9 u9) 116 10 u10) 116 11 u11) 116 12 u12) 116 13 u13) 521 w521) 522 w522) 523 w523) 524 w524) 525 w525) 526 w526) 527 w527) 528 w528) 529 w529) 530 w530) 531 w531) 532 w532) 533 w533) 534 w534) 467 86 v86) 467 87 v87) 467 88 v88) 467 89 v89) 467 90 v90) 467 94 v94) by repeat (first | apply frG_up rfl (by decide) (by decide) | apply frG_row rfl (by decide) | apply frG_col | exact frG_refl)) hp.symm rfl up, kp _ _ hp.symm ⟨ipx_fr33 (frG_P (show FrG M (zup (zup (zup (zup (zup (zup (zrow (zrow (zrow (zrow (zrow (zrow (zrow (zrow (zrow (zrow (zrow (zrow (zrow (zrow (zup (zup (zup (zup (zup (zup (zup (zup (zup (zup (zup (zcol (zcol (zcol (zcol (zcol (zcol (zcol (zcol (zcol (zcol (zcol (zcol (zcol (zcol (zcol (zrow (zrow (zrow (zrow M 20 (zs (zcpr (M 20) (M 19) 0 0 4) a1 a2)) 118 w118) 119 w119) 120 w120) 0 k0) 1 k1) 2 k2) 3 k3) 4 k4) 5 k5) 6 k6) 7 k7) 8 k8) 9 k9) 10 k10) 11 k11) 12 k12) 13 k13) 14 k14) 16 14 (-1)) 16 15 (-1)) 116 3 u3) 116 4 u4) 116 5 u5) 116 8 u8) 116 9 u9) 116 10 u10) 116 11 u11) 116 12 u12) 116 13 u13) 521 w521) 522 w522) 523 w523) 524 w524) 525 w525) 526 w526) 527 w527) 528 w528) 529 w529) 530 w530) 531 w531) 532 w532) 533 w533) 534 w534) 467 86 v86) 467 87 v87) 467 88 v88) 467 89 v89) 467 90 v90) 467 94 v94) by repeat (first | apply frG_up rfl (by decide) (by decide) | apply frG_row rfl (by decide) | apply frG_col | exact frG_refl))) hk.1, Or.inl rfl⟩, hR2 _ _ rfl⟩
theorem pair_21_62 {R : (Nat → Nat → Nat) → (Nat → Int → Int) → Prop} {L0 : Nat} {xs : Nat → Int32} {m d : Nat} (hR2 : ∀ (P : Nat → Nat → Nat) (M : Nat → Int → Int), M 16 15 = -1 → R P M) {P : Nat → Nat → Nat} {M : Nat → Int → Int} {a0 a1 a2 a3 : Int} (hB : IB L0 xs m P M) (hk : KT 62 M) (hR : R P M) (hp : P 16 11 = 62) (hq : P 16 12 = 33) (hip : iprog 62 M) {Q1 : zQ} (h1 : ∀ (P1 : Nat → Nat → Nat) (M1 : Nat → Int → Int) (x : Int), M1 1 = M 1 → (∀ (Q2 : zQ), (∀ (P2 : Nat → Nat → Nat) (M2 : Nat → Int → Int), M2 1 = M 1 → IB L0 xs (m + 1) P2 M2 ∧ KP P2 M2 ∧ R P2 M2 → Q2 (zS P2 M2) (some (vI x))) → WC (d + 80) 110 [vR 467, vI a0, vI a1, vI a2, vI a3] (zS P1 M1) Q2) → Q1 (zS P1 M1) (some (vI x))) : WC (d + 80) 23 [vR 16, vI a0, vI a1, vI a2, vI a3] (zS P M) Q1 := by
  obtain ⟨b1, b2, b3, b4, b5, b6, b7⟩ := id hB
  obtain ⟨⟨hgA, h3⟩, hgB, hl, hv, hpp, hz⟩ := px_62 hip hk.1 b4
  obtain ⟨i1, ⟨i2, i2b, i2c⟩, i3, i4, i5, i6, i7, i8⟩ := id hip
  have hc : M 2 0 = 0 ∧ M 2 1 = 1 ∧ M 2 2 = 0 ∧ M 2 3 = 0 ∧ M 3 0 = 300 ∧ M 3 1 = 50 ∧ M 3 2 = 3 ∧ M 3 3 = 500 ∧ M 3 (-1) = 4 ∧ M 2 (-1) = 4 := by
    rw [b1 2 (by decide), b1 3 (by decide)]; exact ⟨rfl, rfl, rfl, rfl, rfl, rfl, rfl, rfl, rfl, rfl⟩
  have eP : zupN P 16 11 62 = P := by
    have := zupN_self P 16 11
    rw [hp] at this
    exact this
  have up : IB L0 xs (m + 1) P M := ⟨b1, b2, b3, b4, b5, iprof_up b6, b7⟩
  have kp : ∀ (P' : Nat → Nat → Nat) (A : Nat → Int → Int), P' 16 11 = P 16 11 → KT 62 A → KP P' A := fun P' A e k => ⟨fun z => by first | exact k | (rw [e, hp] at z; exact absurd z (by decide)), fun z => by first | exact k | (rw [e, hp] at z; exact absurd z (by decide))⟩
  have fp : FrP M (zrow (zrow M 19 (zs (M 19) a1 a2)) 506 (zs (M 506) a1 a2)) := frP_row rfl (by decide) (frP_row rfl (by decide) frP_refl)
  have hs' : isSet a1 a2 → iset (zrow (zrow M 19 (zs (M 19) a1 a2)) 506 (zs (M 506) a1 a2)) := fun s k k0 k1 => by
    show zs (M 19) a1 a2 k = zs (M 506) a1 a2 k ∧ isSet k (zs (M 506) a1 a2 k)
    unfold zs; split
    · next e => rw [e]; exact ⟨rfl, s⟩
    · exact b4 k k0 k1
  have hip' := iprog_fr62 fp hip
  have hx' := ipx_fr62 fp hk.1
  have e4 : ∀ k : Int, 0 ≤ k → k < 4 → zs (zcpr (M 20) (M 19) 0 0 4) a1 a2 k = zs (M 19) a1 a2 k := fun k k0 k1 => by
    unfold zs; split
    · rfl
    · show (if (0 : Int) ≤ k ∧ k < 0 + 4 then M 19 (0 + (k - 0)) else M 20 k) = M 19 k
      rw [if_pos ⟨k0, by omega⟩, show 0 + (k - 0) = k by omega]
  refine eqC eP.symm rfl (would_c_62 (d := d + 33) a0 a1 a2 a3 (zcl M 0) (fun _ _ => rfl) (zcl M 1) (fun _ _ => rfl) (zcl M 2) (fun _ _ => rfl) (zcl M 3) (fun _ _ => rfl) (zcl M 4) (fun _ _ => rfl) (zcl M 5) (fun _ _ => rfl) (zcl M 6) (fun _ _ => rfl) (zcl M 7) (fun _ _ => rfl) (zcl M 8) (fun _ _ => rfl) (zcl M 9) (fun _ _ => rfl) (zcl M 10) (fun _ _ => rfl) (zcl M 11) (fun _ _ => rfl) (zcl M 12) (fun _ _ => rfl) (zcl M 13) (fun _ _ => rfl) (zcl M 14) (fun _ _ => rfl) hc (by rw [i2]; exact i6.2.2.1.2) (fun s => tPg_set (px_62 hip' hx' (hs' s)).1.1 e4) h3 (fun q => ?_) ?_)
  · refine h1 (zupN P 16 11 62) M _ rfl (fun Q2 h2 => would_m (d := d + 62) a0 a1 a2 a3 i1 (fun s => (px_62 hip' hx' (hs' s)).2.1) i6.2.2.1 hl hv hpp hz (fun _ => h2 _ M rfl ?_) ?_)
    · rw [eP]; exact ⟨up, kp P M rfl hk, hR⟩
    · intro w521 w522 w523 w524 w525 w526 w527 w528 w529 w530 w531 w532 w533 w534 v86 v87 v88 v89 v90 v94 r qi
      exact absurd ⟨⟨qi.1.1, by rw [i2]; exact qi.1.2⟩, qi.2.1⟩ q
  · intro k0 k1 k2 k3 k4 k5 k6 k7 k8 k9 k10 k11 k12 k13 k14 w118 w119 w120 u3 u4 u5 u8 u9 u10 u11 u12 u13 q qh qs
    refine h1 _ _ _ rfl (fun Q2 h2 => would_m (d := d + 62) a0 a1 a2 a3 i1 (fun s => (px_62 hip' hx' (hs' s)).2.1) i6.2.2.1 hl hv hpp hz (fun w => eqR ?_ (h2 _ _ rfl ?_)) ?_)
    · have w : ¬ ((0 ≤ a0 ∧ a0 < M 469 (M 467 11)) ∧ isSet a1 a2 ∧ 0 ≤ a3 ∧ a3 ≤ 6) := w
      have w : ¬ (0 ≤ a3 ∧ a3 ≤ 6) := fun z => w ⟨⟨q.1.1, by rw [← i2]; exact q.1.2⟩, q.2, z⟩
      unfold tAnsC; repeat (first | rw [if_neg (by omega)])
    · exact ⟨IB_frG (show FrG M (zup (zup (zup (zup (zup (zup (zup (zup (zup (zup (zup (zcol (zcol (zcol (zcol (zcol (zcol (zcol (zcol (zcol (zcol (zcol (zcol (zcol (zcol (zcol (zrow (zrow (zrow (zrow M 20 (zs (zcpr (M 20) (M 19) 0 0 4) a1 a2)) 118 w118) 119 w119) 120 w120) 0 k0) 1 k1) 2 k2) 3 k3) 4 k4) 5 k5) 6 k6) 7 k7) 8 k8) 9 k9) 10 k10) 11 k11) 12 k12) 13 k13) 14 k14) 16 14 (-1)) 16 15 (-1)) 116 3 u3) 116 4 u4) 116 5 u5) 116 8 u8) 116 9 u9) 116 10 u10) 116 11 u11) 116 12 u12) 116 13 u13) by repeat (first | apply frG_up rfl (by decide) (by decide) | apply frG_row rfl (by decide) | apply frG_col | exact frG_refl)) hp.symm rfl up, kp _ _ hp.symm ⟨ipx_fr62 (frG_P (show FrG M (zup (zup (zup (zup (zup (zup (zup (zup (zup (zup (zup (zcol (zcol (zcol (zcol (zcol (zcol (zcol (zcol (zcol (zcol (zcol (zcol (zcol (zcol (zcol (zrow (zrow (zrow (zrow M 20 (zs (zcpr (M 20) (M 19) 0 0 4) a1 a2)) 118 w118) 119 w119) 120 w120) 0 k0) 1 k1) 2 k2) 3 k3) 4 k4) 5 k5) 6 k6) 7 k7) 8 k8) 9 k9) 10 k10) 11 k11) 12 k12) 13 k13) 14 k14) 16 14 (-1)) 16 15 (-1)) 116 3 u3) 116 4 u4) 116 5 u5) 116 8 u8) 116 9 u9) 116 10 u10) 116 11 u11) 116 12 u12) 116 13 u13) by repeat (first | apply frG_up rfl (by decide) (by decide) | apply frG_row rfl (by decide) | apply frG_col | exact frG_refl))) hk.1, Or.inl rfl⟩, hR2 _ _ rfl⟩
    · intro w521 w522 w523 w524 w525 w526 w527 w528 w529 w530 w531 w532 w533 w534 v86 v87 v88 v89 v90 v94 r qi ⟨n0, U, r1, r2, r3, e⟩
      have ee := (hand_rel_62 (M := (zrow (zrow M 19 (zs (M 19) a1 a2)) 506 (zs (M 506) a1 a2))) (r := w120) hip' hx' b5 (hs' q.2) b6 (fun k k0 k1 => (qs k k0 k1).trans (e4 k k0 k1)) q.1.1 q.1.2 qh r1 r2 r3).1 a3
      refine eqR (e.trans ee.symm) (h2 _ _ rfl ?_)
      rw [zrow_self _ 506]
      exact ⟨IB_frG (show FrG M (zup (zup (zup (zup (zup (zup (zrow (zrow (zrow (zrow (zrow (zrow (zrow (zrow (zrow (zrow (zrow (zrow (zrow (zrow (zup (zup (zup (zup (zup (zup (zup (zup (zup (zup (zup (zcol (zcol (zcol (zcol (zcol (zcol (zcol (zcol (zcol (zcol (zcol (zcol (zcol (zcol (zcol (zrow (zrow (zrow (zrow M 20 (zs (zcpr (M 20) (M 19) 0 0 4) a1 a2)) 118 w118) 119 w119) 120 w120) 0 k0) 1 k1) 2 k2) 3 k3) 4 k4) 5 k5) 6 k6) 7 k7) 8 k8) 9 k9) 10 k10) 11 k11) 12 k12) 13 k13) 14 k14) 16 14 (-1)) 16 15 (-1)) 116 3 u3) 116 4 u4) 116 5 u5) 116 8 u8) 116 9 u9) 116 10 u10) 116 11 u11) 116 12 u12) 116 13 u13) 521 w521) 522 w522) 523 w523) 524 w524) 525 w525) 526 w526) 527 w527) 528 w528) 529 w529) 530 w530) 531 w531) 532 w532) 533 w533) 534 w534) 467 86 v86) 467 87 v87) 467 88 v88) 467 89 v89) 467 90 v90) 467 94 v94) by repeat (first | apply frG_up rfl (by decide) (by decide) | apply frG_row rfl (by decide) | apply frG_col | exact frG_refl)) hp.symm rfl up, kp _ _ hp.symm ⟨ipx_fr62 (frG_P (show FrG M (zup (zup (zup (zup (zup (zup (zrow (zrow (zrow (zrow (zrow (zrow (zrow (zrow (zrow (zrow (zrow (zrow (zrow (zrow (zup (zup (zup (zup (zup (zup (zup (zup (zup (zup (zup (zcol (zcol (zcol (zcol (zcol (zcol (zcol (zcol (zcol (zcol (zcol (zcol (zcol (zcol (zcol (zrow (zrow (zrow (zrow M 20 (zs (zcpr (M 20) (M 19) 0 0 4) a1 a2)) 118 w118) 119 w119) 120 w120) 0 k0) 1 k1) 2 k2) 3 k3) 4 k4) 5 k5) 6 k6) 7 k7) 8 k8) 9 k9) 10 k10) 11 k11) 12 k12) 13 k13) 14 k14) 16 14 (-1)) 16 15 (-1)) 116 3 u3) 116 4 u4) 116 5 u5) 116 8 u8) 116 9 u9) 116 10 u10) 116 11 u11) 116 12 u12) 116 13 u13) 521 w521) 522 w522) 523 w523) 524 w524) 525 w525) 526 w526) 527 w527) 528 w528) 529 w529) 530 w530) 531 w531) 532 w532) 533 w533) 534 w534) 467 86 v86) 467 87 v87) 467 88 v88) 467 89 v89) 467 90 v90) 467 94 v94) by repeat (first | apply frG_up rfl (by decide) (by decide) | apply frG_row rfl (by decide) | apply frG_col | exact frG_refl))) hk.1, Or.inl rfl⟩, hR2 _ _ rfl⟩
theorem pair_21 {R : (Nat → Nat → Nat) → (Nat → Int → Int) → Prop} {L0 : Nat} {xs : Nat → Int32} {m d : Nat} (hR2 : ∀ (P : Nat → Nat → Nat) (M : Nat → Int → Int), M 16 15 = -1 → R P M) : pr_21 (d + 80) (fun P M => IB L0 xs m P M ∧ KP P M ∧ R P M) (fun P M => IB L0 xs (m + 1) P M ∧ KP P M ∧ R P M) := by
  intro P M a0 a1 a2 a3 hI r0 r1 r2 r3 Q1 h1
  obtain ⟨hB, hK, hR⟩ := hI
  rcases hB.2.2.2.2.2.2 with ⟨p1, p2, p3⟩ | ⟨p1, p2, p3⟩
  · exact pair_21_33 hR2 hB (hK.1 p1) hR p1 p2 p3 h1
  · exact pair_21_62 hR2 hB (hK.2 p1) hR p1 p2 p3 h1
