/-! Pair 1: program -/
theorem wALL_of {L0 : Nat} {xs : Nat → Int32} {M : Nat → Int → Int} (c1 : icon L0 xs M) : wALL M := by
  unfold wALL
  rw [c1 10 (by decide), c1 11 (by decide), c1 12 (by decide), c1 13 (by decide), c1 14 (by decide)]
  have zz : ∀ x : Int, 0 ≤ x → x < 256 → zshr x 0 = x := fun x a b => zshr0 (by unfold in32; omega)
  have yy : ∀ x : Int, 0 ≤ x → x < 256 → w16 (zand x 255) = x := fun x a b => by rw [zand255]; unfold w16; omega
  exact ⟨rfl, zz 3 (by decide) (by decide), yy 102 (by decide) (by decide), yy 117 (by decide) (by decide), yy 110 (by decide) (by decide), rfl, zz 2 (by decide) (by decide), yy 105 (by decide) (by decide), yy 102 (by decide) (by decide), rfl, zz 4 (by decide) (by decide), yy 101 (by decide) (by decide), yy 108 (by decide) (by decide), yy 115 (by decide) (by decide), yy 101 (by decide) (by decide), rfl, zz 4 (by decide) (by decide), yy 108 (by decide) (by decide), yy 111 (by decide) (by decide), yy 111 (by decide) (by decide), yy 112 (by decide) (by decide), rfl, zz 4 (by decide) (by decide), yy 103 (by decide) (by decide), yy 105 (by decide) (by decide), yy 118 (by decide) (by decide), yy 101 (by decide) (by decide)⟩
theorem zfl_z {f : Int → Int} {n k : Int} (h : 0 ≤ k ∧ k < n) : zfl f 0 n k = 0 := if_pos ⟨h.1, by omega⟩
theorem mixL {A σ : Nat → Int → Int} {c : Nat} (h : c < 467) : mix A σ c = A c := by
  funext k; exact if_pos h
theorem mixH {A σ : Nat → Int → Int} {c : Nat} (h : ¬ c < 467) : mix A σ c = σ c := by
  funext k; exact if_neg h
theorem mix_of {A σ : Nat → Int → Int} (h : ∀ c : Nat, 467 ≤ c → A c = σ c) : A = mix A σ := by
  funext c k
  by_cases e : c < 467
  · rw [mixL e]
  · rw [mixH e, h c (by omega)]
theorem wc_66 {d : Nat} {P : Nat → Nat → Nat} {M : Nat → Int → Int} {Q : zQ} {n : Int} (h : WP (d + 34) 66 0 0 0 [some (vR 467), some (vI n)] [] (zS P M) Q) : WC (d + 35) 66 [vR 467, vI n] (zS P M) Q := ⟨_, rfl, h⟩
theorem FF_of_33 {M M1 τ' : Nat → Int → Int} (z2 : frO 62 (zup M 16 13 0) M1) (f1 : frAx (1 - M 467 11) M τ') (f2 : τ' 467 11 = 1 - (1 - M 467 11)) (f3 : τ' 467 1 = 0) (ib : 0 ≤ M 467 11 ∧ M 467 11 ≤ 1) : FF_33 M (mix M1 τ') := by
  refine ⟨fun c c0 c1 c2 c3 => ?_, fun k hk => ?_, ⟨?_, ?_⟩, ⟨?_, fun c a b => ?_, fun c j a b e g => ?_, fun c j a b e g => ?_, fun c j a b e g => ?_, ?_, ?_⟩, ?_, ?_, ?_, ?_⟩
  · rw [mixL c0, z2 c c1 c2]
    funext k
    exact if_neg (fun y => c3 y.1)
  · rw [mixL (by decide), z2 16 (by decide) (by decide)]
    exact if_neg (fun y => hk y.2)
  · rw [mixL (by decide), z2 16 (by decide) (by decide)]
    exact if_pos ⟨rfl, rfl⟩
  · rw [mixH (by decide)]; exact f3
  · rw [mixH (by decide), f2]; omega
  · rw [mixH (by omega)]; exact f1.2.2.1 c _ a b (by omega)
  · rw [mixH (by omega)]; exact f1.2.2.2.1 c _ a b (by omega)
  · rw [mixH (by omega)]; exact f1.2.2.2.2.1 c _ a b (by omega)
  · rw [mixH (by omega)]; exact f1.2.2.2.2.2 c _ a b (by omega)
  · rw [mixH (by decide)]; exact f1.1 503 (by decide) (by decide)
  · rw [mixH (by decide)]; exact f1.1 504 (by decide) (by decide)
  · rw [mixH (by decide)]; exact f1.1 505 (by decide) (by decide)
  · rw [mixH (by decide)]; exact f1.1 506 (by decide) (by decide)
  · rw [mixH (by decide)]; exact f1.1 507 (by decide) (by decide)
  · rw [mixH (by decide)]; exact f1.1 508 (by decide) (by decide)
/-- what is known once a program was read: the new one is told -/
theorem IB_n_62 {L0 : Nat} {xs : Nat → Int32} {m : Nat} {P' : Nat → Nat → Nat} {b : Int} {Mx τ' N : Nat → Int → Int} (k1 : PR 62 b Mx τ') (nw : NW 62 b Mx τ' N) (c1 : icon L0 xs N) (c2 : N 16 13 = 0 ∧ N 467 1 = 0) (c3 : iarg N) (c4 : iset N) (c5 : ∀ k : Int, 0 ≤ k → k < 8 → N 503 k = k ∧ N 504 k = k) (c6 : (∀ k : Int, 0 ≤ k → k < 8 → N 22 k = 0 ∧ N 507 k = 0) ∧ ∀ k : Int, 0 ≤ k → k < 16 → N 23 k = 0 ∧ N 508 k = 0) (c7 : N 16 14 = -1 ∧ N 16 15 = -1) (h1 : P' 16 11 = 62) (h2 : P' 16 12 = 33) : IB L0 xs (m + 1) P' N ∧ KP P' N ∧ RP P' N := by
  have ip := NW_iprog k1 nw
  have ix := NW_ipx k1 nw
  refine ⟨⟨c1, ⟨⟨by rw [c2.1]; decide, by rw [c2.1]; decide, by rw [c2.1, c2.2]⟩, fun i i0 i1 => by rw [c2.1] at i1; omega⟩, c3, c4, fun f f0 f1 => ?_, ⟨fun f f0 f1 => ?_, fun f f0 f1 => ?_, fun s s0 s1 => ?_⟩, Or.inr ⟨h1, h2, ip⟩⟩, ⟨fun z => ?_, fun z => ?_⟩, ⟨fun z => ?_, fun z => ?_⟩⟩
  · have e := c5 f f0 f1
    rw [e.1, e.2]
    exact ⟨⟨f0, f1⟩, ⟨f0, f1⟩, rfl, e.1⟩
  · rw [(c5 f f0 f1).1, (c6.1 f f0 f1).1, (c6.1 f f0 f1).2]
  · rw [(c6.1 f f0 f1).2]; omega
  · rw [(c6.2 s s0 s1).1, (c6.2 s s0 s1).2]
    exact ⟨rfl, Int.le_refl _, fun z => absurd z (by decide)⟩
  · rw [h1] at z; exact absurd z (by decide)
  · exact ⟨ix, Or.inl c7.1⟩
  · rw [h1] at z; exact absurd z (by decide)
  · exact Or.inl c7.2
theorem pair_1_33 {L0 : Nat} {xs : Nat → Int32} {m d : Nat} {P : Nat → Nat → Nat} {M : Nat → Int → Int} {a0 : Int} (hm : m ≤ 512) (hB : IB L0 xs m P M) (hK : KP P M) (hR : RP P M) (hp : P 16 11 = 33) (hq : P 16 12 = 62) (hip : iprog 33 M) {Q1 : zQ} (h1 : ∀ (P1 : Nat → Nat → Nat) (M1 : Nat → Int → Int) (x : Int), M1 1 = M 1 → (∀ (Q2 : zQ), (∀ (P2 : Nat → Nat → Nat) (M2 : Nat → Int → Int), M2 1 = M 1 → IB L0 xs (m + 1) P2 M2 ∧ KP P2 M2 ∧ RP P2 M2 → Q2 (zS P2 M2) (some (vI x))) → WC (d + 140) 66 [vR 467, vI a0] (zS P1 M1) Q2) → Q1 (zS P1 M1) (some (vI x))) : WC (d + 140) 3 [vR 16, vI a0] (zS P M) Q1 := by
  obtain ⟨c1, ⟨⟨t1, t2, t3⟩, t4⟩, c3, c4, c5, c6, c7⟩ := id hB
  have ib := hip.1
  have eP : zupN (zupN P 16 11 33) 16 12 62 = P := by
    have e1 := zupN_self P 16 11
    rw [hp] at e1
    rw [e1]
    have e2 := zupN_self P 16 12
    rw [hq] at e2
    exact e2
  have eP2 : zupN (zupN (zupN P 91 8 62) 16 11 33) 16 12 62 = zupN (zupN (zupN P 16 11 33) 16 12 62) 91 8 62 := by
    rw [zupN_comm P (c := 91) (c' := 16) (by decide), zupN_comm (zupN P 16 11 33) (c := 91) (c' := 16) (by decide)]
  refine eqC eP.symm rfl (program_c_33 (d := d + 7) (HK1 := (fun (P1 : Nat → Nat → Nat) (M1 : Nat → Int → Int) (r : Int) => (r = 0 ∧ ∃ (Mx τ' : Nat → Int → Int) (w : Int → Int), M1 = zrow Mx 74 w ∧ PR 62 (1 - M 467 11) Mx τ' ∧ frO 62 (zup M 16 13 0) Mx ∧ frAx (1 - M 467 11) M τ' ∧ τ' 467 1 = 0 ∧ (∀ s : Int, 0 ≤ s → s < Mx 62 1 → GDc 62 Mx s ∧ w s = fnd (Mx (62 + 1)) (Mx 96 s) (Mx 62 0)) ∧ (∀ (d : Nat) (P : Nat → Nat → Nat) (A : Nat → Int → Int) (Q : zQ), WP (d + 34) 66 0 0 57 [some (vR 467), some (vI a0)] [] (zS P (mix A τ')) Q → WP (d + 34) 66 0 0 0 [some (vR 467), some (vI a0)] [] (zS P (mix A M)) Q)) ∨ (r < 0 ∧ frO 62 (zup M 16 13 0) M1 ∧ (∀ (d : Nat) (P : Nat → Nat → Nat) (A : Nat → Int → Int) (Q : zQ), (∀ τ' : Nat → Int → Int, frAx (1 - M 467 11) M τ' → τ' 467 11 = 1 - (1 - M 467 11) → τ' 467 1 = 0 → Q (zS P (mix A τ')) (some (vI r))) → WP (d + 34) 66 0 0 0 [some (vR 467), some (vI a0)] [] (zS P (mix A M)) Q)))) a0 (fun ok Q' hQ' => ?_) (fun no => ?_) (fun P1 M1 r hk nr => ?_) (fun P1 M1 r hk r0 => ?_))
  · refine RD_62 (b := 1 - M 467 11) (n := a0) (M := zup M 16 13 0) (τ := M) (wALL_of (icon_up (by decide) c1)) ⟨ok.1, ok.2.1, by omega⟩ (fun j j0 j1 => ?_) (by omega) (by omega) (d + 9) _ Q' (fun M' τ' w k1 k2 k3 k4 k5 k6 => ?_) (fun M' r k1 k2 k3 => ?_)
    · have z := t4 j j0 (by omega)
      rw [zand255]
      show M 468 j % 256 = M 17 j ∧ 0 ≤ M 17 j ∧ M 17 j ≤ 255
      omega
    · rw [← eP2]
      exact hQ' _ _ _ (Or.inl ⟨rfl, M', τ', w, rfl, k1, k2, k3, k4, k5, k6⟩)
    · rw [← eP2]
      exact hQ' _ _ _ (Or.inr ⟨k1, k2, k3⟩)
  · refine h1 _ M _ rfl (fun Q2 h2 => wc_66 (d := d + 105) (pm_0 a0 (fun y => absurd ⟨y.1, y.2.1, by omega⟩ no) (fun _ => h2 _ M rfl ?_)))
    rw [eP]
    exact ⟨⟨c1, ⟨⟨t1, t2, t3⟩, t4⟩, c3, c4, c5, iprof_up c6, c7⟩, hK, hR⟩
  · rcases hk with ⟨z, _⟩ | ⟨z1, z2, z3⟩
    · exact absurd z nr
    · have zc : ∀ c : Nat, ¬ c = 16 → zup M 16 13 0 c = M c := fun c hc => by
        funext k; exact if_neg (fun y => hc y.1)
      have eM : M1 = mix M1 M := mix_of (fun c hc => (z2 c (by omega) (by omega)).trans (zc c (by omega)))
      have e1 : M1 1 = M 1 := (z2 1 (by decide) (by decide)).trans (zc 1 (by decide))
      refine h1 _ M1 r e1 (fun Q2 h2 => eqC rfl eM (wc_66 (d := d + 105) (z3 (d + 105) _ M1 Q2 (fun τ' f1 f2 f3 => h2 _ (mix M1 τ') ((mixL (by decide)).trans e1) (IB_f_33 (FF_of_33 z2 f1 f2 f3 ib) hB hK hR hp hip rfl rfl)))))
  · rcases hk with ⟨_, Mx, τ', w, eM1, k1, k2, k3, k4, k5, k6⟩ | ⟨z, _⟩
    · subst eM1
      have zc : ∀ c : Nat, ¬ c = 16 → zup M 16 13 0 c = M c := fun c hc => by
        funext k; exact if_neg (fun y => hc y.1)
      have xc : ∀ c : Nat, ¬ (62 ≤ c ∧ c ≤ 62 + 28) → ¬ (91 ≤ c ∧ c ≤ 100) → ¬ c = 16 → Mx c = M c := fun c a1 a2 a3 => (k2 c a1 a2).trans (zc c a3)
      obtain ⟨Mc, eMc⟩ : ∃ Mc : Nat → Int → Int, Mc = (zup (zup (zrow (zrow (zrow Mx 74 w) 22 (zfl (zrow Mx 74 w 22) 0 8)) 23 (zfl (zrow Mx 74 w 23) 0 16)) 16 14 (-1)) 16 15 (-1)) := ⟨_, rfl⟩
      have yc : ∀ c : Nat, ¬ c = 16 → ¬ c = 22 → ¬ c = 23 → ¬ c = 74 → Mc c = Mx c := fun c a1 a2 a3 a4 => by
        rw [eMc, zu_ne a1, zu_ne a1, zr_ne a3, zr_ne a2, zr_ne a4]
      have e1 : Mc 1 = M 1 := (yc 1 (by decide) (by decide) (by decide) (by decide)).trans (xc 1 (by decide) (by decide) (by decide))
      have eM : Mc = mix Mc M := mix_of (fun c hc => (yc c (by omega) (by omega) (by omega) (by omega)).trans (xc c (by omega) (by omega) (by omega)))
      have t11 := (PR_in k1).2.2.2.2.2.2.2.2.2
      have t469 := (PR_in k1).2.2.2.2.2.2.1
      rw [← eMc]
      refine h1 _ Mc _ e1 (fun Q2 h2 => eqC rfl eM (wc_66 (d := d + 105) (k6 (d + 105) _ Mc Q2 ?_)))
      refine pm_f1 (d := d + 105) (HK := fun M2 => ∃ w5 : Int → Int, W485 62 (1 - M 467 11) Mx τ' w5 ∧ M2 = mix Mc (zrow τ' 485 w5)) a0 (fun Q' k' => finds_ok k1 (fun s s0 s1 => (k5 s s0 s1).1) (d + 105 + 32) _ Mc Q' (fun w5 hw => k' _ ⟨w5, hw, rfl⟩)) (fun M2 z => ?_)
      obtain ⟨w5, hw, e2⟩ := z
      rw [e2]
      refine pm_z_r (d := d + 105) (τ := zrow τ' 485 w5) a0 (show 0 ≤ τ' 467 11 ∧ τ' 467 11 ≤ 1 by rw [t11]; omega) (fun k a c => ?_) (fun w503 w504 hi => eqR ?_ (h2 _ _ ((mixL (by decide)).trans e1) ?_))
      · show 0 ≤ τ' 507 k ∧ τ' 507 k ≤ 2000000
        rw [k3.1 507 (by decide) (by decide)]
        have := c6.2.1 k a c
        omega
      · show τ' 469 (τ' 467 11) = zrow Mx 74 w 62 0
        rw [t11, t469]; rfl
      · obtain ⟨τf, eτ⟩ : ∃ τf : Nat → Int → Int, τf = (zrow (zrow (zrow (zrow (zrow τ' 485 w5) 503 w503) 504 w504) 507 (zfl (zrow τ' 485 w5 507) 0 8)) 508 (zfl (zrow τ' 485 w5 508) 0 16)) := ⟨_, rfl⟩
        rw [← eτ]
        have fc : ∀ c : Nat, ¬ c = 485 → ¬ c = 503 → ¬ c = 504 → ¬ c = 507 → ¬ c = 508 → τf c = τ' c := fun c a1 a2 a3 a4 a5 => by
          rw [eτ, zr_ne a5, zr_ne a4, zr_ne a3, zr_ne a2, zr_ne a1]
        have g16 : ∀ k : Int, ¬ k = 14 → ¬ k = 15 → Mc 16 k = zup M 16 13 0 16 k := fun k a1 a2 => by
          rw [← k2 16 (by decide) (by decide), eMc]
          show zup (zup (zrow (zrow (zrow Mx 74 w) 22 _) 23 _) 16 14 (-1)) 16 15 (-1) 16 k = Mx 16 k
          rw [show ∀ (B : Nat → Int → Int) (v : Int), zup B 16 15 v 16 k = B 16 k from fun B v => if_neg (fun y => a2 y.2), show ∀ (B : Nat → Int → Int) (v : Int), zup B 16 14 v 16 k = B 16 k from fun B v => if_neg (fun y => a1 y.2)]
          rfl
        refine IB_n_62 k1 ⟨fun c a1 a2 a3 => ?_, fun s s0 s1 => ⟨(k5 s s0 s1).1, ?_⟩, fun c a1 a2 a3 => ?_, ?_, ?_, fun k a c => ?_⟩ (fun c hc => ?_) ⟨?_, ?_⟩ ?_ ?_ (fun k a c => ?_) ⟨fun k a c => ⟨?_, ?_⟩, fun k a c => ⟨?_, ?_⟩⟩ ⟨?_, ?_⟩ rfl rfl
        · rw [mixL (by omega)]; exact yc c (by omega) (by omega) (by omega) (by omega)
        · rw [← (k5 s s0 s1).2, mixL (by decide), eMc]; rfl
        · rw [mixH (by omega)]; exact fc c a3 (by omega) (by omega) (by omega) (by omega)
        · rw [mixH (by decide), eτ]; exact hw
        · rw [mixH (by decide), fc 467 (by decide) (by decide) (by decide) (by decide) (by decide)]; exact t11
        · rw [mixH (by decide), eτ]; exact (hi k a c).1
        · rw [mixL (by omega), yc c (by omega) (by omega) (by omega) (by omega), xc c (by omega) (by omega) (by omega)]; exact c1 c hc
        · rw [mixL (by decide), g16 13 (by decide) (by decide)]; exact if_pos ⟨rfl, rfl⟩
        · rw [mixH (by decide), fc 467 (by decide) (by decide) (by decide) (by decide) (by decide)]; exact k4
        · unfold iarg
          rw [mixL (c := 18) (by decide), mixH (c := 505) (by decide), fc 505 (by decide) (by decide) (by decide) (by decide) (by decide), k3.1 505 (by decide) (by decide), yc 18 (by decide) (by decide) (by decide) (by decide), xc 18 (by decide) (by decide) (by decide)]; exact c3
        · unfold iset
          rw [mixL (c := 19) (by decide), mixH (c := 506) (by decide), fc 506 (by decide) (by decide) (by decide) (by decide) (by decide), k3.1 506 (by decide) (by decide), yc 19 (by decide) (by decide) (by decide) (by decide), xc 19 (by decide) (by decide) (by decide)]; exact c4
        · rw [mixH (c := 503) (by decide), mixH (c := 504) (by decide), eτ]; exact hi k a c
        · rw [mixL (by decide), eMc]
          exact zfl_z (f := zrow Mx 74 w 22) (n := 8) ⟨a, c⟩
        · rw [mixH (by decide), eτ]
          exact zfl_z (f := zrow τ' 485 w5 507) (n := 8) ⟨a, c⟩
        · rw [mixL (by decide), eMc]
          exact zfl_z (f := zrow Mx 74 w 23) (n := 16) ⟨a, c⟩
        · rw [mixH (by decide), eτ]
          exact zfl_z (f := zrow τ' 485 w5 508) (n := 16) ⟨a, c⟩
        · rw [mixL (by decide), eMc]; rfl
        · rw [mixL (by decide), eMc]; rfl
    · omega
theorem FF_of_62 {M M1 τ' : Nat → Int → Int} (z2 : frO 33 (zup M 16 13 0) M1) (f1 : frAx (1 - M 467 11) M τ') (f2 : τ' 467 11 = 1 - (1 - M 467 11)) (f3 : τ' 467 1 = 0) (ib : 0 ≤ M 467 11 ∧ M 467 11 ≤ 1) : FF_62 M (mix M1 τ') := by
  refine ⟨fun c c0 c1 c2 c3 => ?_, fun k hk => ?_, ⟨?_, ?_⟩, ⟨?_, fun c a b => ?_, fun c j a b e g => ?_, fun c j a b e g => ?_, fun c j a b e g => ?_, ?_, ?_⟩, ?_, ?_, ?_, ?_⟩
  · rw [mixL c0, z2 c c1 c2]
    funext k
    exact if_neg (fun y => c3 y.1)
  · rw [mixL (by decide), z2 16 (by decide) (by decide)]
    exact if_neg (fun y => hk y.2)
  · rw [mixL (by decide), z2 16 (by decide) (by decide)]
    exact if_pos ⟨rfl, rfl⟩
  · rw [mixH (by decide)]; exact f3
  · rw [mixH (by decide), f2]; omega
  · rw [mixH (by omega)]; exact f1.2.2.1 c _ a b (by omega)
  · rw [mixH (by omega)]; exact f1.2.2.2.1 c _ a b (by omega)
  · rw [mixH (by omega)]; exact f1.2.2.2.2.1 c _ a b (by omega)
  · rw [mixH (by omega)]; exact f1.2.2.2.2.2 c _ a b (by omega)
  · rw [mixH (by decide)]; exact f1.1 503 (by decide) (by decide)
  · rw [mixH (by decide)]; exact f1.1 504 (by decide) (by decide)
  · rw [mixH (by decide)]; exact f1.1 505 (by decide) (by decide)
  · rw [mixH (by decide)]; exact f1.1 506 (by decide) (by decide)
  · rw [mixH (by decide)]; exact f1.1 507 (by decide) (by decide)
  · rw [mixH (by decide)]; exact f1.1 508 (by decide) (by decide)
/-- what is known once a program was read: the new one is told -/
theorem IB_n_33 {L0 : Nat} {xs : Nat → Int32} {m : Nat} {P' : Nat → Nat → Nat} {b : Int} {Mx τ' N : Nat → Int → Int} (k1 : PR 33 b Mx τ') (nw : NW 33 b Mx τ' N) (c1 : icon L0 xs N) (c2 : N 16 13 = 0 ∧ N 467 1 = 0) (c3 : iarg N) (c4 : iset N) (c5 : ∀ k : Int, 0 ≤ k → k < 8 → N 503 k = k ∧ N 504 k = k) (c6 : (∀ k : Int, 0 ≤ k → k < 8 → N 22 k = 0 ∧ N 507 k = 0) ∧ ∀ k : Int, 0 ≤ k → k < 16 → N 23 k = 0 ∧ N 508 k = 0) (c7 : N 16 14 = -1 ∧ N 16 15 = -1) (h1 : P' 16 11 = 33) (h2 : P' 16 12 = 62) : IB L0 xs (m + 1) P' N ∧ KP P' N ∧ RP P' N := by
  have ip := NW_iprog k1 nw
  have ix := NW_ipx k1 nw
  refine ⟨⟨c1, ⟨⟨by rw [c2.1]; decide, by rw [c2.1]; decide, by rw [c2.1, c2.2]⟩, fun i i0 i1 => by rw [c2.1] at i1; omega⟩, c3, c4, fun f f0 f1 => ?_, ⟨fun f f0 f1 => ?_, fun f f0 f1 => ?_, fun s s0 s1 => ?_⟩, Or.inl ⟨h1, h2, ip⟩⟩, ⟨fun z => ?_, fun z => ?_⟩, ⟨fun z => ?_, fun z => ?_⟩⟩
  · have e := c5 f f0 f1
    rw [e.1, e.2]
    exact ⟨⟨f0, f1⟩, ⟨f0, f1⟩, rfl, e.1⟩
  · rw [(c5 f f0 f1).1, (c6.1 f f0 f1).1, (c6.1 f f0 f1).2]
  · rw [(c6.1 f f0 f1).2]; omega
  · rw [(c6.2 s s0 s1).1, (c6.2 s s0 s1).2]
    exact ⟨rfl, Int.le_refl _, fun z => absurd z (by decide)⟩
  · exact ⟨ix, Or.inl c7.1⟩
  · rw [h1] at z; exact absurd z (by decide)
  · exact Or.inl c7.2
  · rw [h1] at z; exact absurd z (by decide)
theorem pair_1_62 {L0 : Nat} {xs : Nat → Int32} {m d : Nat} {P : Nat → Nat → Nat} {M : Nat → Int → Int} {a0 : Int} (hm : m ≤ 512) (hB : IB L0 xs m P M) (hK : KP P M) (hR : RP P M) (hp : P 16 11 = 62) (hq : P 16 12 = 33) (hip : iprog 62 M) {Q1 : zQ} (h1 : ∀ (P1 : Nat → Nat → Nat) (M1 : Nat → Int → Int) (x : Int), M1 1 = M 1 → (∀ (Q2 : zQ), (∀ (P2 : Nat → Nat → Nat) (M2 : Nat → Int → Int), M2 1 = M 1 → IB L0 xs (m + 1) P2 M2 ∧ KP P2 M2 ∧ RP P2 M2 → Q2 (zS P2 M2) (some (vI x))) → WC (d + 140) 66 [vR 467, vI a0] (zS P1 M1) Q2) → Q1 (zS P1 M1) (some (vI x))) : WC (d + 140) 3 [vR 16, vI a0] (zS P M) Q1 := by
  obtain ⟨c1, ⟨⟨t1, t2, t3⟩, t4⟩, c3, c4, c5, c6, c7⟩ := id hB
  have ib := hip.1
  have eP : zupN (zupN P 16 11 62) 16 12 33 = P := by
    have e1 := zupN_self P 16 11
    rw [hp] at e1
    rw [e1]
    have e2 := zupN_self P 16 12
    rw [hq] at e2
    exact e2
  have eP2 : zupN (zupN (zupN P 91 8 33) 16 11 62) 16 12 33 = zupN (zupN (zupN P 16 11 62) 16 12 33) 91 8 33 := by
    rw [zupN_comm P (c := 91) (c' := 16) (by decide), zupN_comm (zupN P 16 11 62) (c := 91) (c' := 16) (by decide)]
  refine eqC eP.symm rfl (program_c_62 (d := d + 7) (HK1 := (fun (P1 : Nat → Nat → Nat) (M1 : Nat → Int → Int) (r : Int) => (r = 0 ∧ ∃ (Mx τ' : Nat → Int → Int) (w : Int → Int), M1 = zrow Mx 45 w ∧ PR 33 (1 - M 467 11) Mx τ' ∧ frO 33 (zup M 16 13 0) Mx ∧ frAx (1 - M 467 11) M τ' ∧ τ' 467 1 = 0 ∧ (∀ s : Int, 0 ≤ s → s < Mx 33 1 → GDc 33 Mx s ∧ w s = fnd (Mx (33 + 1)) (Mx 96 s) (Mx 33 0)) ∧ (∀ (d : Nat) (P : Nat → Nat → Nat) (A : Nat → Int → Int) (Q : zQ), WP (d + 34) 66 0 0 57 [some (vR 467), some (vI a0)] [] (zS P (mix A τ')) Q → WP (d + 34) 66 0 0 0 [some (vR 467), some (vI a0)] [] (zS P (mix A M)) Q)) ∨ (r < 0 ∧ frO 33 (zup M 16 13 0) M1 ∧ (∀ (d : Nat) (P : Nat → Nat → Nat) (A : Nat → Int → Int) (Q : zQ), (∀ τ' : Nat → Int → Int, frAx (1 - M 467 11) M τ' → τ' 467 11 = 1 - (1 - M 467 11) → τ' 467 1 = 0 → Q (zS P (mix A τ')) (some (vI r))) → WP (d + 34) 66 0 0 0 [some (vR 467), some (vI a0)] [] (zS P (mix A M)) Q)))) a0 (fun ok Q' hQ' => ?_) (fun no => ?_) (fun P1 M1 r hk nr => ?_) (fun P1 M1 r hk r0 => ?_))
  · refine RD_33 (b := 1 - M 467 11) (n := a0) (M := zup M 16 13 0) (τ := M) (wALL_of (icon_up (by decide) c1)) ⟨ok.1, ok.2.1, by omega⟩ (fun j j0 j1 => ?_) (by omega) (by omega) (d + 9) _ Q' (fun M' τ' w k1 k2 k3 k4 k5 k6 => ?_) (fun M' r k1 k2 k3 => ?_)
    · have z := t4 j j0 (by omega)
      rw [zand255]
      show M 468 j % 256 = M 17 j ∧ 0 ≤ M 17 j ∧ M 17 j ≤ 255
      omega
    · rw [← eP2]
      exact hQ' _ _ _ (Or.inl ⟨rfl, M', τ', w, rfl, k1, k2, k3, k4, k5, k6⟩)
    · rw [← eP2]
      exact hQ' _ _ _ (Or.inr ⟨k1, k2, k3⟩)
  · refine h1 _ M _ rfl (fun Q2 h2 => wc_66 (d := d + 105) (pm_0 a0 (fun y => absurd ⟨y.1, y.2.1, by omega⟩ no) (fun _ => h2 _ M rfl ?_)))
    rw [eP]
    exact ⟨⟨c1, ⟨⟨t1, t2, t3⟩, t4⟩, c3, c4, c5, iprof_up c6, c7⟩, hK, hR⟩
  · rcases hk with ⟨z, _⟩ | ⟨z1, z2, z3⟩
    · exact absurd z nr
    · have zc : ∀ c : Nat, ¬ c = 16 → zup M 16 13 0 c = M c := fun c hc => by
        funext k; exact if_neg (fun y => hc y.1)
      have eM : M1 = mix M1 M := mix_of (fun c hc => (z2 c (by omega) (by omega)).trans (zc c (by omega)))
      have e1 : M1 1 = M 1 := (z2 1 (by decide) (by decide)).trans (zc 1 (by decide))
      refine h1 _ M1 r e1 (fun Q2 h2 => eqC rfl eM (wc_66 (d := d + 105) (z3 (d + 105) _ M1 Q2 (fun τ' f1 f2 f3 => h2 _ (mix M1 τ') ((mixL (by decide)).trans e1) (IB_f_62 (FF_of_62 z2 f1 f2 f3 ib) hB hK hR hp hip rfl rfl)))))
  · rcases hk with ⟨_, Mx, τ', w, eM1, k1, k2, k3, k4, k5, k6⟩ | ⟨z, _⟩
    · subst eM1
      have zc : ∀ c : Nat, ¬ c = 16 → zup M 16 13 0 c = M c := fun c hc => by
        funext k; exact if_neg (fun y => hc y.1)
      have xc : ∀ c : Nat, ¬ (33 ≤ c ∧ c ≤ 33 + 28) → ¬ (91 ≤ c ∧ c ≤ 100) → ¬ c = 16 → Mx c = M c := fun c a1 a2 a3 => (k2 c a1 a2).trans (zc c a3)
      obtain ⟨Mc, eMc⟩ : ∃ Mc : Nat → Int → Int, Mc = (zup (zup (zrow (zrow (zrow Mx 45 w) 22 (zfl (zrow Mx 45 w 22) 0 8)) 23 (zfl (zrow Mx 45 w 23) 0 16)) 16 14 (-1)) 16 15 (-1)) := ⟨_, rfl⟩
      have yc : ∀ c : Nat, ¬ c = 16 → ¬ c = 22 → ¬ c = 23 → ¬ c = 45 → Mc c = Mx c := fun c a1 a2 a3 a4 => by
        rw [eMc, zu_ne a1, zu_ne a1, zr_ne a3, zr_ne a2, zr_ne a4]
      have e1 : Mc 1 = M 1 := (yc 1 (by decide) (by decide) (by decide) (by decide)).trans (xc 1 (by decide) (by decide) (by decide))
      have eM : Mc = mix Mc M := mix_of (fun c hc => (yc c (by omega) (by omega) (by omega) (by omega)).trans (xc c (by omega) (by omega) (by omega)))
      have t11 := (PR_in k1).2.2.2.2.2.2.2.2.2
      have t469 := (PR_in k1).2.2.2.2.2.2.1
      rw [← eMc]
      refine h1 _ Mc _ e1 (fun Q2 h2 => eqC rfl eM (wc_66 (d := d + 105) (k6 (d + 105) _ Mc Q2 ?_)))
      refine pm_f1 (d := d + 105) (HK := fun M2 => ∃ w5 : Int → Int, W485 33 (1 - M 467 11) Mx τ' w5 ∧ M2 = mix Mc (zrow τ' 485 w5)) a0 (fun Q' k' => finds_ok k1 (fun s s0 s1 => (k5 s s0 s1).1) (d + 105 + 32) _ Mc Q' (fun w5 hw => k' _ ⟨w5, hw, rfl⟩)) (fun M2 z => ?_)
      obtain ⟨w5, hw, e2⟩ := z
      rw [e2]
      refine pm_z_r (d := d + 105) (τ := zrow τ' 485 w5) a0 (show 0 ≤ τ' 467 11 ∧ τ' 467 11 ≤ 1 by rw [t11]; omega) (fun k a c => ?_) (fun w503 w504 hi => eqR ?_ (h2 _ _ ((mixL (by decide)).trans e1) ?_))
      · show 0 ≤ τ' 507 k ∧ τ' 507 k ≤ 2000000
        rw [k3.1 507 (by decide) (by decide)]
        have := c6.2.1 k a c
        omega
      · show τ' 469 (τ' 467 11) = zrow Mx 45 w 33 0
        rw [t11, t469]; rfl
      · obtain ⟨τf, eτ⟩ : ∃ τf : Nat → Int → Int, τf = (zrow (zrow (zrow (zrow (zrow τ' 485 w5) 503 w503) 504 w504) 507 (zfl (zrow τ' 485 w5 507) 0 8)) 508 (zfl (zrow τ' 485 w5 508) 0 16)) := ⟨_, rfl⟩
        rw [← eτ]
        have fc : ∀ c : Nat, ¬ c = 485 → ¬ c = 503 → ¬ c = 504 → ¬ c = 507 → ¬ c = 508 → τf c = τ' c := fun c a1 a2 a3 a4 a5 => by
          rw [eτ, zr_ne a5, zr_ne a4, zr_ne a3, zr_ne a2, zr_ne a1]
        have g16 : ∀ k : Int, ¬ k = 14 → ¬ k = 15 → Mc 16 k = zup M 16 13 0 16 k := fun k a1 a2 => by
          rw [← k2 16 (by decide) (by decide), eMc]
          show zup (zup (zrow (zrow (zrow Mx 45 w) 22 _) 23 _) 16 14 (-1)) 16 15 (-1) 16 k = Mx 16 k
          rw [show ∀ (B : Nat → Int → Int) (v : Int), zup B 16 15 v 16 k = B 16 k from fun B v => if_neg (fun y => a2 y.2), show ∀ (B : Nat → Int → Int) (v : Int), zup B 16 14 v 16 k = B 16 k from fun B v => if_neg (fun y => a1 y.2)]
          rfl
        refine IB_n_33 k1 ⟨fun c a1 a2 a3 => ?_, fun s s0 s1 => ⟨(k5 s s0 s1).1, ?_⟩, fun c a1 a2 a3 => ?_, ?_, ?_, fun k a c => ?_⟩ (fun c hc => ?_) ⟨?_, ?_⟩ ?_ ?_ (fun k a c => ?_) ⟨fun k a c => ⟨?_, ?_⟩, fun k a c => ⟨?_, ?_⟩⟩ ⟨?_, ?_⟩ rfl rfl
        · rw [mixL (by omega)]; exact yc c (by omega) (by omega) (by omega) (by omega)
        · rw [← (k5 s s0 s1).2, mixL (by decide), eMc]; rfl
        · rw [mixH (by omega)]; exact fc c a3 (by omega) (by omega) (by omega) (by omega)
        · rw [mixH (by decide), eτ]; exact hw
        · rw [mixH (by decide), fc 467 (by decide) (by decide) (by decide) (by decide) (by decide)]; exact t11
        · rw [mixH (by decide), eτ]; exact (hi k a c).1
        · rw [mixL (by omega), yc c (by omega) (by omega) (by omega) (by omega), xc c (by omega) (by omega) (by omega)]; exact c1 c hc
        · rw [mixL (by decide), g16 13 (by decide) (by decide)]; exact if_pos ⟨rfl, rfl⟩
        · rw [mixH (by decide), fc 467 (by decide) (by decide) (by decide) (by decide) (by decide)]; exact k4
        · unfold iarg
          rw [mixL (c := 18) (by decide), mixH (c := 505) (by decide), fc 505 (by decide) (by decide) (by decide) (by decide) (by decide), k3.1 505 (by decide) (by decide), yc 18 (by decide) (by decide) (by decide) (by decide), xc 18 (by decide) (by decide) (by decide)]; exact c3
        · unfold iset
          rw [mixL (c := 19) (by decide), mixH (c := 506) (by decide), fc 506 (by decide) (by decide) (by decide) (by decide) (by decide), k3.1 506 (by decide) (by decide), yc 19 (by decide) (by decide) (by decide) (by decide), xc 19 (by decide) (by decide) (by decide)]; exact c4
        · rw [mixH (c := 503) (by decide), mixH (c := 504) (by decide), eτ]; exact hi k a c
        · rw [mixL (by decide), eMc]
          exact zfl_z (f := zrow Mx 45 w 22) (n := 8) ⟨a, c⟩
        · rw [mixH (by decide), eτ]
          exact zfl_z (f := zrow τ' 485 w5 507) (n := 8) ⟨a, c⟩
        · rw [mixL (by decide), eMc]
          exact zfl_z (f := zrow Mx 45 w 23) (n := 16) ⟨a, c⟩
        · rw [mixH (by decide), eτ]
          exact zfl_z (f := zrow τ' 485 w5 508) (n := 16) ⟨a, c⟩
        · rw [mixL (by decide), eMc]; rfl
        · rw [mixL (by decide), eMc]; rfl
    · omega
theorem pair_1 {L0 : Nat} {xs : Nat → Int32} {m d : Nat} (hm : m ≤ 512) : pr_1 (d + 140) (fun P M => IB L0 xs m P M ∧ KP P M ∧ RP P M) (fun P M => IB L0 xs (m + 1) P M ∧ KP P M ∧ RP P M) := by
  intro P M a0 hI r0 Q1 h1
  obtain ⟨hB, hK, hR⟩ := hI
  rcases hB.2.2.2.2.2.2 with ⟨p1, p2, p3⟩ | ⟨p1, p2, p3⟩
  · exact pair_1_33 hm hB hK hR p1 p2 p3 h1
  · exact pair_1_62 hm hB hK hR p1 p2 p3 h1
