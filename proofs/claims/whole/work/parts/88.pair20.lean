/-! The pair best -/
theorem best_rel {ρ : Int → Int} {A D : Nat → Int → Int} {nF nS : Int} (hg : tPg D nF nS) (hd : dRel ρ A D nF nS) {o fn ht o0 fn0 ht0 ad ga up' fn' ht' up0 fm0 hm0 : Int → Int} {n n' f e g e' : Int}
    (h1 : bT (shU o) (shF f fn) (shF e ht) n = ball A (bT (shU o0) (shF f fn0) (shF e ht0) 0) 33) (h2 : bT up' fn' ht' n' = ball D (bT up0 (zs fm0 0 g) (zs hm0 0 e') 0) 33) (hf : f = ρ g) (g0 : 0 ≤ g ∧ g < nF) (he : e = e') (hu : cUp o n) (ag : bAG A fn ad ht ga n) :
    n = n' ∧ pP (shU o) (shF 0 ad) (shF 0 ga) n n.toNat 0 = pP up' (mA D fn') (mG D fn' ht') n' n'.toNat 0 := by
  have r0 : bRel ρ (bT (shU o0) (shF f fn0) (shF e ht0) 0) (bT up0 (zs fm0 0 g) (zs hm0 0 e') 0) nF := by
    refine ⟨rfl, fun q q0 q1 => ?_⟩
    have q1 : q ≤ 0 := q1
    have eq : q = 0 := by omega
    subst eq
    show (1 ≤ (0 : Int) → shU o0 0 = up0 0) ∧ (0 ≤ zs fm0 0 g 0 ∧ zs fm0 0 g 0 < nF) ∧ shF f fn0 0 = ρ (zs fm0 0 g 0) ∧ shF e ht0 0 = zs hm0 0 e' 0
    rw [zs_pos rfl, zs_pos rfl]
    exact ⟨fun z => by omega, g0, hf, he⟩
  have r := ball_rel hg hd bUp_0 r0 33
  rw [← h1, ← h2] at r
  have rn : n = n' := r.1
  have rq : ∀ q : Int, 0 ≤ q → q ≤ n' → (1 ≤ q → shU o q = up' q) ∧ (0 ≤ fn' q ∧ fn' q < nF) ∧ shF f fn q = ρ (fn' q) ∧ shF e ht q = ht' q := r.2
  refine ⟨rn, ?_⟩
  subst rn
  have u0 := hu.1
  refine pP_congr (fun q q1 q2 => (rq q (by omega) q2).1 q1) (fun q q1 q2 => cUp_u hu q q1 q2) (fun q q0 q1 => ?_) n.toNat 0 (by omega) (by omega) u0.1
  obtain ⟨_, a2, a3, a4⟩ := rq q q0 q1
  by_cases z : q = 0
  · subst z; exact ⟨rfl, rfl⟩
  · have e1 : shF 0 ad q = ad (q - 1) := if_neg z
    have e2 : shF 0 ga q = ga (q - 1) := if_neg z
    have e3 : shF f fn q = fn (q - 1) := if_neg z
    have e4 : shF e ht q = ht (q - 1) := if_neg z
    have e5 : mA D fn' q = D 3 (fn' q) := if_neg z
    have e6 : mG D fn' ht' q = w64 (ht' q * (D 8 1 - D 4 (fn' q))) := if_neg z
    have y := ag (q - 1) (by omega) (by omega)
    have d1 := hd.1 _ a2.1 a2.2
    have d3 := hd.2.2.1 1 (by decide) (by decide)
    rw [e1, e2, e5, e6, y.1, y.2, ← e3, ← e4, a3, a4, d1.2.2.2.1, d1.2.2.2.2.1, d3]
    exact ⟨rfl, rfl⟩
theorem KT_low6_33 {M A : Nat → Int → Int} (l : ∀ c : Nat, c < 456 → A c = M c) (f : FrG M A) (h : KT 33 M) : KT 33 A := by
  refine ⟨ipx_fr33 (frG_P f) h.1, ?_⟩
  rw [l 16 (by decide), l 33 (by decide)]
  rcases h.2 with z | ⟨z1, z2, z3⟩
  · exact Or.inl z
  · refine Or.inr ⟨z1, z2, ?_⟩
    obtain ⟨c0, c1, c2, c3, c4, c5, c6, c7, c8, c9, c10, c11, c12, c13, c14, hc, hh, hr⟩ := z3
    have lz : ∀ i : Int, 0 ≤ i ∧ i < 320 → A (zcall i) = M (zcall i) := fun i hi => l _ (by have z := zcall_in hi; omega)
    refine ⟨c0, c1, c2, c3, c4, c5, c6, c7, c8, c9, c10, c11, c12, c13, c14, ?_, ?_, ?_⟩
    · obtain ⟨h0, h1, h2, h3, h4, h5, h6, h7, h8, h9, h10, h11, h12, h13, h14⟩ := hc
      exact ⟨fun i hi => by rw [lz i hi]; exact h0 i hi, fun i hi => by rw [lz i hi]; exact h1 i hi, fun i hi => by rw [lz i hi]; exact h2 i hi, fun i hi => by rw [lz i hi]; exact h3 i hi, fun i hi => by rw [lz i hi]; exact h4 i hi, fun i hi => by rw [lz i hi]; exact h5 i hi, fun i hi => by rw [lz i hi]; exact h6 i hi, fun i hi => by rw [lz i hi]; exact h7 i hi, fun i hi => by rw [lz i hi]; exact h8 i hi, fun i hi => by rw [lz i hi]; exact h9 i hi, fun i hi => by rw [lz i hi]; exact h10 i hi, fun i hi => by rw [lz i hi]; exact h11 i hi, fun i hi => by rw [lz i hi]; exact h12 i hi, fun i hi => by rw [lz i hi]; exact h13 i hi, fun i hi => by rw [lz i hi]; exact h14 i hi⟩
    · rw [l (33 + 7) (by decide), l (33 + 8) (by decide), l (33 + 12) (by decide), l (33 + 10) (by decide), l (33 + 4) (by decide), l (33 + 14) (by decide), l 22 (by decide), l 23 (by decide), l 120 (by decide), l 118 (by decide), l 119 (by decide), l 116 (by decide), l (33 + 6) (by decide), l 33 (by decide)]
      exact hh
    · rw [l 120 (by decide), l 19 (by decide)]; exact hr
theorem pf_33 {M : Nat → Int → Int} {m : Nat} (hip : iprog 33 M) (hx : ipx 33 M) (hf : iprof m M) (hm : m ≤ 512) : ((∀ xs : Int, 0 ≤ xs → xs < M 33 1 → 0 ≤ M 23 xs ∧ M 23 xs ≤ M 22 (M 45 xs)) ∧ ∀ xf : Int, 0 ≤ xf → xf < M 33 0 → 0 ≤ M 22 xf ∧ M 22 xf ≤ 2000000) ∧ (∀ xs : Int, 0 ≤ xs → xs < M 471 (M 467 11) → 0 ≤ M 508 xs ∧ M 508 xs ≤ M 507 (M 485 (M 492 (16 * M 467 11 + xs)))) ∧ ∀ xf : Int, 0 ≤ xf → xf < M 469 (M 467 11) → 0 ≤ M 507 xf ∧ M 507 xf ≤ 2000000 := by
  obtain ⟨i1, ⟨i2, i2b, i2c⟩, i3, i4, i5, ⟨i6, i6b, i6c, i6d⟩, i7, i8⟩ := hip
  obtain ⟨x1, x2, x3, x4⟩ := hx
  obtain ⟨f1, f2, f3⟩ := hf
  have to : ∀ s : Int, 0 ≤ s → s < M 471 (M 467 11) → TOf M s = M 485 (M 492 (16 * M 467 11 + s)) := fun s _ s1 => if_pos s1
  have ns : 0 ≤ M 471 (M 467 11) ∧ M 471 (M 467 11) ≤ 16 := by rw [← i2b]; exact i3
  have e5 : ∀ g : Int, 0 ≤ g → g < 8 → 0 ≤ M 507 g ∧ M 507 g ≤ 2000000 := fun g g0 g1 => by have := f2 g g0 g1; omega
  refine ⟨⟨fun s s0 s1 => ?_, fun f f0 f1' => ?_⟩, fun s s0 s1 => ?_, fun f f0 f1' => e5 f f0 (by omega)⟩
  · have s1' : s < M 471 (M 467 11) := by rw [← i2b]; exact s1
    have a := x3 s s0 s1'
    have t := i6b s s0 (by omega) (by rw [to s s0 s1']; exact a.2.2.2.1)
    have b := f3 s s0 (by omega)
    have t12 : 0 ≤ M 45 s ∧ M 45 s < M 469 (M 467 11) := ⟨t.1, t.2.1⟩
    have e := f1 (M 45 s) t12.1 (by omega)
    have t3 : M 503 (M 45 s) = TOf M s := t.2.2
    rw [t3] at e
    have e9 : 0 ≤ M 507 (TOf M s) := by rw [to s s0 s1']; exact (e5 _ a.2.2.2.1 (by omega)).1
    rw [b.1, e]
    by_cases z : 0 < M 508 s
    · exact ⟨b.2.1, (b.2.2 z).2.2⟩
    · exact ⟨b.2.1, by omega⟩
  · have f9 : f < M 469 (M 467 11) := by rw [← i2]; exact f1'
    have b := (i6 f f0 f9).1
    rw [f1 f f0 (by omega)]
    exact e5 _ b.1 (by omega)
  · have a := x3 s s0 s1
    have b := f3 s s0 (by omega)
    have e9 : 0 ≤ M 507 (M 485 (M 492 (16 * M 467 11 + s))) := (e5 _ a.2.2.2.1 (by omega)).1
    by_cases z : 0 < M 508 s
    · have y := (b.2.2 z).2.2
      rw [to s s0 s1] at y
      exact ⟨b.2.1, y⟩
    · exact ⟨b.2.1, by omega⟩
theorem pair_20_33 {R : (Nat → Nat → Nat) → (Nat → Int → Int) → Prop} {L0 : Nat} {xs : Nat → Int32} {m d : Nat} (hR6 : ∀ (P P' : Nat → Nat → Nat) (M A : Nat → Int → Int), R P M → (∀ c : Nat, c < 456 → A c = M c) → FrG M A → P' 16 11 = P 16 11 → R P' A) (hm : m ≤ 512) {P : Nat → Nat → Nat} {M : Nat → Int → Int} {a0 a1 a2 : Int} (hB : IB L0 xs m P M) (hk : KT 33 M) (hR : R P M) (hp : P 16 11 = 33) (hq : P 16 12 = 62) (hip : iprog 33 M) {Q1 : zQ} (h1 : ∀ (P1 : Nat → Nat → Nat) (M1 : Nat → Int → Int) (x : Int), M1 1 = M 1 → (∀ (Q2 : zQ), (∀ (P2 : Nat → Nat → Nat) (M2 : Nat → Int → Int), M2 1 = M 1 → IB L0 xs (m + 1) P2 M2 ∧ KP P2 M2 ∧ R P2 M2 → Q2 (zS P2 M2) (some (vJ x))) → WC (d + 80) 147 [vR 467, vI a0, vI a1, vI a2] (zS P1 M1) Q2) → Q1 (zS P1 M1) (some (vJ x))) : WC (d + 80) 22 [vR 16, vI a0, vI a1, vI a2] (zS P M) Q1 := by
  obtain ⟨b1, b2, b3, b4, b5, b6, b7⟩ := id hB
  have px := px_33 hip hk.1 b4
  have pf := pf_33 hip hk.1 b6 hm
  obtain ⟨⟨cA, cE⟩, mA', mE⟩ := pf
  obtain ⟨⟨hgA, h3⟩, hgB, hl, hv, hpp, hz⟩ := px
  have hdx := dx_33 (r := (zcpr (M 466) (M 19) 0 0 4)) hip hk.1 b5 b4 b6 (zcp4 (M 466) (M 19))
  obtain ⟨i1, ⟨i2, i2b, i2c⟩, i3, i4, i5, i6, i7, i8⟩ := id hip
  have n8 : M 469 (M 467 11) ≤ 8 := i6.2.2.1.2
  have en : 0 ≤ a0 ∧ a0 < M 469 (M 467 11) → a0 = M 504 (M 503 a0) ∧ (0 ≤ M 503 a0 ∧ M 503 a0 < M 469 (M 467 11)) ∧ M 22 a0 = M 507 (M 503 a0) := fun z => ⟨((b5 a0 z.1 (by omega)).2.2.1).symm, hpp a0 z.1 z.2, b6.1 a0 z.1 (by omega)⟩
  have eP : zupN P 16 11 33 = P := by
    have := zupN_self P 16 11
    rw [hp] at this
    exact this
  have up : IB L0 xs (m + 1) P M := ⟨b1, b2, b3, b4, b5, iprof_up b6, b7⟩
  have kp : ∀ (P' : Nat → Nat → Nat) (A : Nat → Int → Int), P' 16 11 = P 16 11 → KT 33 A → KP P' A := fun P' A e k => ⟨fun z => by first | exact k | (rw [e, hp] at z; exact absurd z (by decide)), fun z => by first | exact k | (rw [e, hp] at z; exact absurd z (by decide))⟩
  have fin0 : ∀ (P' : Nat → Nat → Nat) (A : Nat → Int → Int), P' 16 11 = P 16 11 → P' 16 12 = P 16 12 → FrG M A → (∀ c : Nat, c < 456 → A c = M c) → IB L0 xs (m + 1) P' A ∧ KP P' A ∧ R P' A := fun P' A e e2 fr lo => ⟨IB_frG fr e e2 up, kp P' A e (KT_low6_33 lo fr hk), hR6 P P' M A hR lo fr e⟩
  have fin1 : ∀ A : Nat → Int → Int, FrG M A → (∀ c : Nat, c < 456 → A c = M c) → IB L0 xs (m + 1) (zupN P 16 11 33) A ∧ KP (zupN P 16 11 33) A ∧ R (zupN P 16 11 33) A := fun A fr lo => fin0 _ A hp.symm rfl fr lo
  have fin : ∀ A : Nat → Int → Int, FrG M A → (∀ c : Nat, c < 456 → A c = M c) → IB L0 xs (m + 1) (zupN (zupN P 16 11 33) 456 11 33) A ∧ KP (zupN (zupN P 16 11 33) 456 11 33) A ∧ R (zupN (zupN P 16 11 33) 456 11 33) A := fun A fr lo => fin0 _ A hp.symm rfl fr lo
  refine eqC eP.symm rfl (best_c_33 (d := d + 75) a0 a1 a2 hgA cA cE (fun q => ?_) ?_ ?_ ?_ ?_)
  · refine h1 _ M _ rfl (fun Q2 h2 => best_m (d := d + 76) a0 a1 a2 i1 hgB hl hv hpp mA' mE (fun _ => h2 _ M rfl (fin1 M frG_refl (fun _ _ => rfl))) ?_ ?_)
    · intros; exfalso; omega
    · intros; exfalso; omega
  · intro w457 w458 w459 w460 w461 v456_0 qi
    refine h1 _ _ _ rfl (fun Q2 h2 => best_m (d := d + 76) a0 a1 a2 i1 hgB hl hv hpp mA' mE (fun _ => h2 _ _ rfl (fin (zup (zup (zrow (zrow (zrow (zrow (zrow (zrow M 457 w457) 458 w458) 459 w459) 460 w460) 461 w461) 466 (zcpr (M 466) (M 19) 0 0 4)) 456 0 v456_0) 456 12 a0) (by repeat (first | apply frG_up rfl (by decide) (by decide) | apply frG_row rfl (by decide) | exact frG_refl)) (fun c hc => by repeat (first | rw [zr_ne (by omega)] | rw [zu_ne (by omega)])))) ?_ ?_)
    · intro _ _ _ _ z; exfalso; have z : ((0 ≤ a0 ∧ a0 < M 469 (M 467 11)) ∧ (0 ≤ a1 ∧ a1 ≤ 300) ∧ 0 ≤ a2 ∧ a2 ≤ 2) ∧ a2 = 2 := z; omega
    · intro _ _ _ _ _ _ _ z; exfalso; have z : ((0 ≤ a0 ∧ a0 < M 469 (M 467 11)) ∧ (0 ≤ a1 ∧ a1 ≤ 300) ∧ 0 ≤ a2 ∧ a2 ≤ 2) ∧ ¬ a2 = 2 := z; omega
  · intro w457 w458 w459 w460 w461 v456_0 qi q1 q2 q4
    refine h1 _ _ _ rfl (fun Q2 h2 => best_m (d := d + 76) a0 a1 a2 i1 hgB hl hv hpp mA' mE (fun z => ?_) ?_ ?_)
    · exfalso; have z : ¬ ((0 ≤ a0 ∧ a0 < M 469 (M 467 11)) ∧ (0 ≤ a1 ∧ a1 ≤ 300) ∧ 0 ≤ a2 ∧ a2 ≤ 2) := z; omega
    · intro w563 w564 w565 v467_138 _ k1 k2
      have e9 := en (by omega)
      have br := best_rel hgB hdx q1 k1 e9.1 e9.2.1 e9.2.2 q2 q4
      exact eqRJ br.1.symm (h2 _ _ rfl (fin (zup (zrow (zrow (zrow (zup (zup (zrow (zrow (zrow (zrow (zrow (zrow M 457 w457) 458 w458) 459 w459) 460 w460) 461 w461) 466 (zcpr (M 466) (M 19) 0 0 4)) 456 0 v456_0) 456 12 a0) 563 w563) 564 w564) 565 w565) 467 138 v467_138) (by repeat (first | apply frG_up rfl (by decide) (by decide) | apply frG_row rfl (by decide) | exact frG_refl)) (fun c hc => by repeat (first | rw [zr_ne (by omega)] | rw [zu_ne (by omega)]))))
    · intro _ _ _ _ _ _ _ z; exfalso; omega
  · intro w457 w458 w459 w460 w461 v456_0 w462 w463 w464 w465 qi q1 q2 q4 q5
    refine h1 _ _ _ rfl (fun Q2 h2 => best_m (d := d + 76) a0 a1 a2 i1 hgB hl hv hpp mA' mE (fun z => ?_) ?_ ?_)
    · exfalso; have z : ¬ ((0 ≤ a0 ∧ a0 < M 469 (M 467 11)) ∧ (0 ≤ a1 ∧ a1 ≤ 300) ∧ 0 ≤ a2 ∧ a2 ≤ 2) := z; omega
    · intro _ _ _ _ z; exfalso; omega
    · intro w563 w564 w565 v467_138 w561 w562 r _ k1 k2 k4
      have e9 := en (by omega)
      have br := best_rel hgB hdx q1 k1 e9.1 e9.2.1 e9.2.2 q2 q4
      rw [br.2] at q5
      exact eqRJ (bAns_0 k4 (pP_zero rfl rfl _) q5 (by omega) (by omega) (by omega)).symm (h2 _ _ rfl (fin (zup (zrow (zrow (zrow (zrow (zrow (zup (zup (zrow (zrow (zrow (zrow (zrow (zrow (zrow (zrow (zrow (zrow M 457 w457) 458 w458) 459 w459) 460 w460) 461 w461) 462 w462) 463 w463) 464 w464) 465 w465) 466 (zcpr (M 466) (M 19) 0 0 4)) 456 0 v456_0) 456 12 a0) 561 w561) 562 w562) 563 w563) 564 w564) 565 w565) 467 138 v467_138) (by repeat (first | apply frG_up rfl (by decide) (by decide) | apply frG_row rfl (by decide) | exact frG_refl)) (fun c hc => by repeat (first | rw [zr_ne (by omega)] | rw [zu_ne (by omega)]))))
  · intro w457 w458 w459 w460 w461 v456_0 w462 w463 w464 w465 r' qi q1 q2 q4 q5 q6
    refine h1 _ _ _ rfl (fun Q2 h2 => best_m (d := d + 76) a0 a1 a2 i1 hgB hl hv hpp mA' mE (fun z => ?_) ?_ ?_)
    · exfalso; have z : ¬ ((0 ≤ a0 ∧ a0 < M 469 (M 467 11)) ∧ (0 ≤ a1 ∧ a1 ≤ 300) ∧ 0 ≤ a2 ∧ a2 ≤ 2) := z; omega
    · intro _ _ _ _ z; exfalso; omega
    · intro w563 w564 w565 v467_138 w561 w562 r _ k1 k2 k4
      have e9 := en (by omega)
      have br := best_rel hgB hdx q1 k1 e9.1 e9.2.1 e9.2.2 q2 q4
      rw [br.2] at q5
      exact eqRJ (bAns_1 k4 (pP_zero rfl rfl _) q5 (by omega) (by omega) (by omega) q6).symm (h2 _ _ rfl (fin (zup (zrow (zrow (zrow (zrow (zrow (zup (zup (zrow (zrow (zrow (zrow (zrow (zrow (zrow (zrow (zrow (zrow M 457 w457) 458 w458) 459 w459) 460 w460) 461 w461) 462 w462) 463 w463) 464 w464) 465 w465) 466 (zcpr (M 466) (M 19) 0 0 4)) 456 0 v456_0) 456 12 a0) 561 w561) 562 w562) 563 w563) 564 w564) 565 w565) 467 138 v467_138) (by repeat (first | apply frG_up rfl (by decide) (by decide) | apply frG_row rfl (by decide) | exact frG_refl)) (fun c hc => by repeat (first | rw [zr_ne (by omega)] | rw [zu_ne (by omega)]))))
theorem KT_low6_62 {M A : Nat → Int → Int} (l : ∀ c : Nat, c < 456 → A c = M c) (f : FrG M A) (h : KT 62 M) : KT 62 A := by
  refine ⟨ipx_fr62 (frG_P f) h.1, ?_⟩
  rw [l 16 (by decide), l 62 (by decide)]
  rcases h.2 with z | ⟨z1, z2, z3⟩
  · exact Or.inl z
  · refine Or.inr ⟨z1, z2, ?_⟩
    obtain ⟨c0, c1, c2, c3, c4, c5, c6, c7, c8, c9, c10, c11, c12, c13, c14, hc, hh, hr⟩ := z3
    have lz : ∀ i : Int, 0 ≤ i ∧ i < 320 → A (zcall i) = M (zcall i) := fun i hi => l _ (by have z := zcall_in hi; omega)
    refine ⟨c0, c1, c2, c3, c4, c5, c6, c7, c8, c9, c10, c11, c12, c13, c14, ?_, ?_, ?_⟩
    · obtain ⟨h0, h1, h2, h3, h4, h5, h6, h7, h8, h9, h10, h11, h12, h13, h14⟩ := hc
      exact ⟨fun i hi => by rw [lz i hi]; exact h0 i hi, fun i hi => by rw [lz i hi]; exact h1 i hi, fun i hi => by rw [lz i hi]; exact h2 i hi, fun i hi => by rw [lz i hi]; exact h3 i hi, fun i hi => by rw [lz i hi]; exact h4 i hi, fun i hi => by rw [lz i hi]; exact h5 i hi, fun i hi => by rw [lz i hi]; exact h6 i hi, fun i hi => by rw [lz i hi]; exact h7 i hi, fun i hi => by rw [lz i hi]; exact h8 i hi, fun i hi => by rw [lz i hi]; exact h9 i hi, fun i hi => by rw [lz i hi]; exact h10 i hi, fun i hi => by rw [lz i hi]; exact h11 i hi, fun i hi => by rw [lz i hi]; exact h12 i hi, fun i hi => by rw [lz i hi]; exact h13 i hi, fun i hi => by rw [lz i hi]; exact h14 i hi⟩
    · rw [l (62 + 7) (by decide), l (62 + 8) (by decide), l (62 + 12) (by decide), l (62 + 10) (by decide), l (62 + 4) (by decide), l (62 + 14) (by decide), l 22 (by decide), l 23 (by decide), l 120 (by decide), l 118 (by decide), l 119 (by decide), l 116 (by decide), l (62 + 6) (by decide), l 62 (by decide)]
      exact hh
    · rw [l 120 (by decide), l 19 (by decide)]; exact hr
theorem pf_62 {M : Nat → Int → Int} {m : Nat} (hip : iprog 62 M) (hx : ipx 62 M) (hf : iprof m M) (hm : m ≤ 512) : ((∀ xs : Int, 0 ≤ xs → xs < M 62 1 → 0 ≤ M 23 xs ∧ M 23 xs ≤ M 22 (M 74 xs)) ∧ ∀ xf : Int, 0 ≤ xf → xf < M 62 0 → 0 ≤ M 22 xf ∧ M 22 xf ≤ 2000000) ∧ (∀ xs : Int, 0 ≤ xs → xs < M 471 (M 467 11) → 0 ≤ M 508 xs ∧ M 508 xs ≤ M 507 (M 485 (M 492 (16 * M 467 11 + xs)))) ∧ ∀ xf : Int, 0 ≤ xf → xf < M 469 (M 467 11) → 0 ≤ M 507 xf ∧ M 507 xf ≤ 2000000 := by
  obtain ⟨i1, ⟨i2, i2b, i2c⟩, i3, i4, i5, ⟨i6, i6b, i6c, i6d⟩, i7, i8⟩ := hip
  obtain ⟨x1, x2, x3, x4⟩ := hx
  obtain ⟨f1, f2, f3⟩ := hf
  have to : ∀ s : Int, 0 ≤ s → s < M 471 (M 467 11) → TOf M s = M 485 (M 492 (16 * M 467 11 + s)) := fun s _ s1 => if_pos s1
  have ns : 0 ≤ M 471 (M 467 11) ∧ M 471 (M 467 11) ≤ 16 := by rw [← i2b]; exact i3
  have e5 : ∀ g : Int, 0 ≤ g → g < 8 → 0 ≤ M 507 g ∧ M 507 g ≤ 2000000 := fun g g0 g1 => by have := f2 g g0 g1; omega
  refine ⟨⟨fun s s0 s1 => ?_, fun f f0 f1' => ?_⟩, fun s s0 s1 => ?_, fun f f0 f1' => e5 f f0 (by omega)⟩
  · have s1' : s < M 471 (M 467 11) := by rw [← i2b]; exact s1
    have a := x3 s s0 s1'
    have t := i6b s s0 (by omega) (by rw [to s s0 s1']; exact a.2.2.2.1)
    have b := f3 s s0 (by omega)
    have t12 : 0 ≤ M 74 s ∧ M 74 s < M 469 (M 467 11) := ⟨t.1, t.2.1⟩
    have e := f1 (M 74 s) t12.1 (by omega)
    have t3 : M 503 (M 74 s) = TOf M s := t.2.2
    rw [t3] at e
    have e9 : 0 ≤ M 507 (TOf M s) := by rw [to s s0 s1']; exact (e5 _ a.2.2.2.1 (by omega)).1
    rw [b.1, e]
    by_cases z : 0 < M 508 s
    · exact ⟨b.2.1, (b.2.2 z).2.2⟩
    · exact ⟨b.2.1, by omega⟩
  · have f9 : f < M 469 (M 467 11) := by rw [← i2]; exact f1'
    have b := (i6 f f0 f9).1
    rw [f1 f f0 (by omega)]
    exact e5 _ b.1 (by omega)
  · have a := x3 s s0 s1
    have b := f3 s s0 (by omega)
    have e9 : 0 ≤ M 507 (M 485 (M 492 (16 * M 467 11 + s))) := (e5 _ a.2.2.2.1 (by omega)).1
    by_cases z : 0 < M 508 s
    · have y := (b.2.2 z).2.2
      rw [to s s0 s1] at y
      exact ⟨b.2.1, y⟩
    · exact ⟨b.2.1, by omega⟩
theorem pair_20_62 {R : (Nat → Nat → Nat) → (Nat → Int → Int) → Prop} {L0 : Nat} {xs : Nat → Int32} {m d : Nat} (hR6 : ∀ (P P' : Nat → Nat → Nat) (M A : Nat → Int → Int), R P M → (∀ c : Nat, c < 456 → A c = M c) → FrG M A → P' 16 11 = P 16 11 → R P' A) (hm : m ≤ 512) {P : Nat → Nat → Nat} {M : Nat → Int → Int} {a0 a1 a2 : Int} (hB : IB L0 xs m P M) (hk : KT 62 M) (hR : R P M) (hp : P 16 11 = 62) (hq : P 16 12 = 33) (hip : iprog 62 M) {Q1 : zQ} (h1 : ∀ (P1 : Nat → Nat → Nat) (M1 : Nat → Int → Int) (x : Int), M1 1 = M 1 → (∀ (Q2 : zQ), (∀ (P2 : Nat → Nat → Nat) (M2 : Nat → Int → Int), M2 1 = M 1 → IB L0 xs (m + 1) P2 M2 ∧ KP P2 M2 ∧ R P2 M2 → Q2 (zS P2 M2) (some (vJ x))) → WC (d + 80) 147 [vR 467, vI a0, vI a1, vI a2] (zS P1 M1) Q2) → Q1 (zS P1 M1) (some (vJ x))) : WC (d + 80) 22 [vR 16, vI a0, vI a1, vI a2] (zS P M) Q1 := by
  obtain ⟨b1, b2, b3, b4, b5, b6, b7⟩ := id hB
  have px := px_62 hip hk.1 b4
  have pf := pf_62 hip hk.1 b6 hm
  obtain ⟨⟨cA, cE⟩, mA', mE⟩ := pf
  obtain ⟨⟨hgA, h3⟩, hgB, hl, hv, hpp, hz⟩ := px
  have hdx := dx_62 (r := (zcpr (M 466) (M 19) 0 0 4)) hip hk.1 b5 b4 b6 (zcp4 (M 466) (M 19))
  obtain ⟨i1, ⟨i2, i2b, i2c⟩, i3, i4, i5, i6, i7, i8⟩ := id hip
  have n8 : M 469 (M 467 11) ≤ 8 := i6.2.2.1.2
  have en : 0 ≤ a0 ∧ a0 < M 469 (M 467 11) → a0 = M 504 (M 503 a0) ∧ (0 ≤ M 503 a0 ∧ M 503 a0 < M 469 (M 467 11)) ∧ M 22 a0 = M 507 (M 503 a0) := fun z => ⟨((b5 a0 z.1 (by omega)).2.2.1).symm, hpp a0 z.1 z.2, b6.1 a0 z.1 (by omega)⟩
  have eP : zupN P 16 11 62 = P := by
    have := zupN_self P 16 11
    rw [hp] at this
    exact this
  have up : IB L0 xs (m + 1) P M := ⟨b1, b2, b3, b4, b5, iprof_up b6, b7⟩
  have kp : ∀ (P' : Nat → Nat → Nat) (A : Nat → Int → Int), P' 16 11 = P 16 11 → KT 62 A → KP P' A := fun P' A e k => ⟨fun z => by first | exact k | (rw [e, hp] at z; exact absurd z (by decide)), fun z => by first | exact k | (rw [e, hp] at z; exact absurd z (by decide))⟩
  have fin0 : ∀ (P' : Nat → Nat → Nat) (A : Nat → Int → Int), P' 16 11 = P 16 11 → P' 16 12 = P 16 12 → FrG M A → (∀ c : Nat, c < 456 → A c = M c) → IB L0 xs (m + 1) P' A ∧ KP P' A ∧ R P' A := fun P' A e e2 fr lo => ⟨IB_frG fr e e2 up, kp P' A e (KT_low6_62 lo fr hk), hR6 P P' M A hR lo fr e⟩
  have fin1 : ∀ A : Nat → Int → Int, FrG M A → (∀ c : Nat, c < 456 → A c = M c) → IB L0 xs (m + 1) (zupN P 16 11 62) A ∧ KP (zupN P 16 11 62) A ∧ R (zupN P 16 11 62) A := fun A fr lo => fin0 _ A hp.symm rfl fr lo
  have fin : ∀ A : Nat → Int → Int, FrG M A → (∀ c : Nat, c < 456 → A c = M c) → IB L0 xs (m + 1) (zupN (zupN P 16 11 62) 456 11 62) A ∧ KP (zupN (zupN P 16 11 62) 456 11 62) A ∧ R (zupN (zupN P 16 11 62) 456 11 62) A := fun A fr lo => fin0 _ A hp.symm rfl fr lo
  refine eqC eP.symm rfl (best_c_62 (d := d + 75) a0 a1 a2 hgA cA cE (fun q => ?_) ?_ ?_ ?_ ?_)
  · refine h1 _ M _ rfl (fun Q2 h2 => best_m (d := d + 76) a0 a1 a2 i1 hgB hl hv hpp mA' mE (fun _ => h2 _ M rfl (fin1 M frG_refl (fun _ _ => rfl))) ?_ ?_)
    · intros; exfalso; omega
    · intros; exfalso; omega
  · intro w457 w458 w459 w460 w461 v456_0 qi
    refine h1 _ _ _ rfl (fun Q2 h2 => best_m (d := d + 76) a0 a1 a2 i1 hgB hl hv hpp mA' mE (fun _ => h2 _ _ rfl (fin (zup (zup (zrow (zrow (zrow (zrow (zrow (zrow M 457 w457) 458 w458) 459 w459) 460 w460) 461 w461) 466 (zcpr (M 466) (M 19) 0 0 4)) 456 0 v456_0) 456 12 a0) (by repeat (first | apply frG_up rfl (by decide) (by decide) | apply frG_row rfl (by decide) | exact frG_refl)) (fun c hc => by repeat (first | rw [zr_ne (by omega)] | rw [zu_ne (by omega)])))) ?_ ?_)
    · intro _ _ _ _ z; exfalso; have z : ((0 ≤ a0 ∧ a0 < M 469 (M 467 11)) ∧ (0 ≤ a1 ∧ a1 ≤ 300) ∧ 0 ≤ a2 ∧ a2 ≤ 2) ∧ a2 = 2 := z; omega
    · intro _ _ _ _ _ _ _ z; exfalso; have z : ((0 ≤ a0 ∧ a0 < M 469 (M 467 11)) ∧ (0 ≤ a1 ∧ a1 ≤ 300) ∧ 0 ≤ a2 ∧ a2 ≤ 2) ∧ ¬ a2 = 2 := z; omega
  · intro w457 w458 w459 w460 w461 v456_0 qi q1 q2 q4
    refine h1 _ _ _ rfl (fun Q2 h2 => best_m (d := d + 76) a0 a1 a2 i1 hgB hl hv hpp mA' mE (fun z => ?_) ?_ ?_)
    · exfalso; have z : ¬ ((0 ≤ a0 ∧ a0 < M 469 (M 467 11)) ∧ (0 ≤ a1 ∧ a1 ≤ 300) ∧ 0 ≤ a2 ∧ a2 ≤ 2) := z; omega
    · intro w563 w564 w565 v467_138 _ k1 k2
      have e9 := en (by omega)
      have br := best_rel hgB hdx q1 k1 e9.1 e9.2.1 e9.2.2 q2 q4
      exact eqRJ br.1.symm (h2 _ _ rfl (fin (zup (zrow (zrow (zrow (zup (zup (zrow (zrow (zrow (zrow (zrow (zrow M 457 w457) 458 w458) 459 w459) 460 w460) 461 w461) 466 (zcpr (M 466) (M 19) 0 0 4)) 456 0 v456_0) 456 12 a0) 563 w563) 564 w564) 565 w565) 467 138 v467_138) (by repeat (first | apply frG_up rfl (by decide) (by decide) | apply frG_row rfl (by decide) | exact frG_refl)) (fun c hc => by repeat (first | rw [zr_ne (by omega)] | rw [zu_ne (by omega)]))))
    · intro _ _ _ _ _ _ _ z; exfalso; omega
  · intro w457 w458 w459 w460 w461 v456_0 w462 w463 w464 w465 qi q1 q2 q4 q5
    refine h1 _ _ _ rfl (fun Q2 h2 => best_m (d := d + 76) a0 a1 a2 i1 hgB hl hv hpp mA' mE (fun z => ?_) ?_ ?_)
    · exfalso; have z : ¬ ((0 ≤ a0 ∧ a0 < M 469 (M 467 11)) ∧ (0 ≤ a1 ∧ a1 ≤ 300) ∧ 0 ≤ a2 ∧ a2 ≤ 2) := z; omega
    · intro _ _ _ _ z; exfalso; omega
    · intro w563 w564 w565 v467_138 w561 w562 r _ k1 k2 k4
      have e9 := en (by omega)
      have br := best_rel hgB hdx q1 k1 e9.1 e9.2.1 e9.2.2 q2 q4
      rw [br.2] at q5
      exact eqRJ (bAns_0 k4 (pP_zero rfl rfl _) q5 (by omega) (by omega) (by omega)).symm (h2 _ _ rfl (fin (zup (zrow (zrow (zrow (zrow (zrow (zup (zup (zrow (zrow (zrow (zrow (zrow (zrow (zrow (zrow (zrow (zrow M 457 w457) 458 w458) 459 w459) 460 w460) 461 w461) 462 w462) 463 w463) 464 w464) 465 w465) 466 (zcpr (M 466) (M 19) 0 0 4)) 456 0 v456_0) 456 12 a0) 561 w561) 562 w562) 563 w563) 564 w564) 565 w565) 467 138 v467_138) (by repeat (first | apply frG_up rfl (by decide) (by decide) | apply frG_row rfl (by decide) | exact frG_refl)) (fun c hc => by repeat (first | rw [zr_ne (by omega)] | rw [zu_ne (by omega)]))))
  · intro w457 w458 w459 w460 w461 v456_0 w462 w463 w464 w465 r' qi q1 q2 q4 q5 q6
    refine h1 _ _ _ rfl (fun Q2 h2 => best_m (d := d + 76) a0 a1 a2 i1 hgB hl hv hpp mA' mE (fun z => ?_) ?_ ?_)
    · exfalso; have z : ¬ ((0 ≤ a0 ∧ a0 < M 469 (M 467 11)) ∧ (0 ≤ a1 ∧ a1 ≤ 300) ∧ 0 ≤ a2 ∧ a2 ≤ 2) := z; omega
    · intro _ _ _ _ z; exfalso; omega
    · intro w563 w564 w565 v467_138 w561 w562 r _ k1 k2 k4
      have e9 := en (by omega)
      have br := best_rel hgB hdx q1 k1 e9.1 e9.2.1 e9.2.2 q2 q4
      rw [br.2] at q5
      exact eqRJ (bAns_1 k4 (pP_zero rfl rfl _) q5 (by omega) (by omega) (by omega) q6).symm (h2 _ _ rfl (fin (zup (zrow (zrow (zrow (zrow (zrow (zup (zup (zrow (zrow (zrow (zrow (zrow (zrow (zrow (zrow (zrow (zrow M 457 w457) 458 w458) 459 w459) 460 w460) 461 w461) 462 w462) 463 w463) 464 w464) 465 w465) 466 (zcpr (M 466) (M 19) 0 0 4)) 456 0 v456_0) 456 12 a0) 561 w561) 562 w562) 563 w563) 564 w564) 565 w565) 467 138 v467_138) (by repeat (first | apply frG_up rfl (by decide) (by decide) | apply frG_row rfl (by decide) | exact frG_refl)) (fun c hc => by repeat (first | rw [zr_ne (by omega)] | rw [zu_ne (by omega)]))))
theorem pair_20 {R : (Nat → Nat → Nat) → (Nat → Int → Int) → Prop} {L0 : Nat} {xs : Nat → Int32} {m d : Nat} (hR6 : ∀ (P P' : Nat → Nat → Nat) (M A : Nat → Int → Int), R P M → (∀ c : Nat, c < 456 → A c = M c) → FrG M A → P' 16 11 = P 16 11 → R P' A) (hm : m ≤ 512) : pr_20 (d + 80) (fun P M => IB L0 xs m P M ∧ KP P M ∧ R P M) (fun P M => IB L0 xs (m + 1) P M ∧ KP P M ∧ R P M) := by
  intro P M a0 a1 a2 hI r0 r1 r2 Q1 h1
  obtain ⟨hB, hK, hR⟩ := hI
  rcases hB.2.2.2.2.2.2 with ⟨p1, p2, p3⟩ | ⟨p1, p2, p3⟩
  · exact pair_20_33 hR6 hm hB (hK.1 p1) hR p1 p2 p3 h1
  · exact pair_20_62 hR6 hm hB (hK.2 p1) hR p1 p2 p3 h1
