/-! The pair run -/
theorem xinit_of {M M2 : Nat → Int → Int} (f : Fr M M2) {x1 x2 x3 x4 : Int} : xinit M2 x1 x2 x3 x4 = mix M2 (xinit M x1 x2 x3 x4) := by
  have eM : M2 = mix M2 M := by
    funext c k
    unfold mix
    split
    · rfl
    · rw [f c (by omega)]
  exact (congrArg (fun z => xinit z x1 x2 x3 x4) eM).trans (xinit_mix M2 M x1 x2 x3 x4)
/-- behind a run on both sides: other cells are as they were -/
theorem frA {M M2 τ : Nat → Int → Int} {r : Int → Int} (f : Fr M M2) (g : FrR M τ) : (∀ c : Nat, ¬ (101 ≤ c ∧ c ≤ 115) → rCell c = false → zrow (mix M2 τ) 509 r c = M c) ∧ (∀ k : Int, ¬ (67 ≤ k ∧ k ≤ 74) → zrow (mix M2 τ) 509 r 467 k = M 467 k) := by
  refine ⟨fun c h1 h2 => ?_, fun k h => ?_⟩
  · have h5 : ¬ c = 509 := fun z => by rw [z] at h2; exact absurd h2 (by decide)
    have e : zrow (mix M2 τ) 509 r c = mix M2 τ c := by funext k; unfold zrow; rw [if_neg h5]
    rw [e]
    by_cases q : c < 467
    · rw [← f c h1]; funext k; exact if_pos q
    · rw [mix_cell M2 τ q]; exact g.1 c h2
  · show τ 467 k = M 467 k
    exact g.2 k h
theorem frT_of {M A : Nat → Int → Int} (hS : ∀ c : Nat, ¬ (101 ≤ c ∧ c ≤ 115) → rCell c = false → A c = M c) : FrT M A := by
  have h16 := hS 16 (by decide) rfl
  refine ⟨⟨by rw [h16], by rw [h16]⟩, fun c h => hS c ?_ ?_⟩
  · unfold kCell at h; simp at h; omega
  · unfold kCell at h; unfold rCell; simp at h ⊢; omega
theorem frP_of {M A : Nat → Int → Int} (hS : ∀ c : Nat, ¬ (101 ≤ c ∧ c ≤ 115) → rCell c = false → A c = M c) (hk : ∀ k : Int, ¬ (67 ≤ k ∧ k ≤ 74) → A 467 k = M 467 k) : FrP M A :=
  ⟨hk 11 (by decide), fun c q => hS c (by unfold gCell at q; simp at q; omega) (by unfold gCell at q; unfold rCell; simp at q ⊢; omega)⟩
theorem IB_fr {L0 : Nat} {xs : Nat → Int32} {m : Nat} {P P' : Nat → Nat → Nat} {M A : Nat → Int → Int} (hS : ∀ c : Nat, ¬ (101 ≤ c ∧ c ≤ 115) → rCell c = false → A c = M c) (hk : ∀ k : Int, ¬ (67 ≤ k ∧ k ≤ 74) → A 467 k = M 467 k) (h1 : P' 16 11 = P 16 11) (h2 : P' 16 12 = P 16 12) (h : IB L0 xs m P M) : IB L0 xs m P' A := by
  obtain ⟨c1, c2, c3, c4, c5, c6, c7⟩ := h
  have E := fun (c : Nat) (q : ¬ (101 ≤ c ∧ c ≤ 115)) (q' : rCell c = false) => hS c q q'
  have k1 := hk 1 (by decide)
  have k11 := hk 11 (by decide)
  have eT : TOf A = TOf M := by funext s; unfold TOf; rw [k11, E 471 (by decide) rfl, E 485 (by decide) rfl, E 492 (by decide) rfl]
  refine ⟨fun c q => ?_, ?_, ?_, ?_, ?_, ?_, iptr_fr ⟨k11, fun c q => hS c ?_ ?_⟩ h1 h2 c7⟩
  · rw [← c1 c q]; refine hS c (by omega) ?_; unfold rCell; simp; omega
  · unfold itape; rw [k1, E 16 (by decide) rfl, E 17 (by decide) rfl, E 468 (by decide) rfl]; exact c2
  · unfold iarg; rw [E 18 (by decide) rfl, E 505 (by decide) rfl]; exact c3
  · unfold iset; rw [E 19 (by decide) rfl, E 506 (by decide) rfl]; exact c4
  · unfold iperm; rw [E 503 (by decide) rfl, E 504 (by decide) rfl]; exact c5
  · unfold iprof; rw [eT, E 22 (by decide) rfl, E 23 (by decide) rfl, E 503 (by decide) rfl, E 507 (by decide) rfl, E 508 (by decide) rfl]; exact c6
  · unfold gCell at q; simp at q; omega
  · unfold gCell at q; unfold rCell; simp at q ⊢; omega
section
variable {K : (Nat → Nat → Nat) → (Nat → Int → Int) → Prop} {L0 : Nat} {xs : Nat → Int32} {m d : Nat}
theorem pair_6_33 (hKf : ∀ (P P' : Nat → Nat → Nat) (M A : Nat → Int → Int), K P M → FrT M A → FrP M A → P' 16 11 = P 16 11 → K P' A) {P : Nat → Nat → Nat} {M : Nat → Int → Int} {a0 a1 : Int} (hI : IB L0 xs m P M) (hK : K P M) (hp : P 16 11 = 33) (hip : iprog 33 M) {Q1 : zQ} (h1 : ∀ (P1 : Nat → Nat → Nat) (M1 : Nat → Int → Int) (x : Int), M1 1 = M 1 → (∀ (Q2 : zQ), (∀ (P2 : Nat → Nat → Nat) (M2 : Nat → Int → Int), M2 1 = M 1 → (IB L0 xs (m + 1) P2 M2 ∧ K P2 M2) → Q2 (zS P2 M2) (some (vI x))) → WC (d + 20) 87 [vR 467, vI a0, vI a1] (zS P1 M1) Q2) → Q1 (zS P1 M1) (some (vI x))) : WC (d + 20) 8 [vR 16, vI a0, vI a1] (zS P M) Q1 := by
  obtain ⟨c1, c2, c3, c4, c5, c6, c7⟩ := id hI
  obtain ⟨i1, ⟨i2, i2b, i2c⟩, i3, i4, i5, i6, i7, i8⟩ := id hip
  have eP : zupN P 16 11 33 = P := by
    have := zupN_self P 16 11
    rw [hp] at this
    exact this
  have hn := i6.2.2.1
  refine eqC eP.symm rfl (run_c_33 (d := d + 12) a0 a1 hip c4 c3 c5 (fun q => ?_) (fun qf qw M2 cc τ j r1 r2 r3 => ?_))
  · refine h1 (zupN P 16 11 33) M _ rfl (fun Q2 h2 => run_m (τ := M) (j := 0) a0 a1 i1 hn (fun z => (c5 a0 z.1 (by omega)).1) (fun z => i8 _ (i6.1 a0 z.1 z.2).1.1 (i6.1 a0 z.1 z.2).1.2) (fun z => absurd z (by omega)) (fun z => absurd z (by omega)) (fun _ => h2 _ M rfl ?_) (fun z1 z2 => absurd z1 (by omega)))
    rw [eP]; exact ⟨⟨c1, c2, c3, c4, c5, iprof_up c6, c7⟩, hK⟩
  · have e467 : M2 467 = M 467 := r3 467 (by decide)
    have e469 : M2 469 = M 469 := r3 469 (by decide)
    have e503 : M2 503 = M 503 := r3 503 (by decide)
    have e473 : M2 473 = M 473 := r3 473 (by decide)
    have e474 : M2 474 = M 474 := r3 474 (by decide)
    have e475 : M2 475 = M 475 := r3 475 (by decide)
    have e476 : M2 476 = M 476 := r3 476 (by decide)
    have qf' : 0 ≤ a0 ∧ a0 < M 469 (M 467 11) := by omega
    have hπ := (c5 a0 qf'.1 (by omega)).1
    have hv := i8 _ (i6.1 a0 qf'.1 qf'.2).1.1 (i6.1 a0 qf'.1 qf'.2).1.2
    have hR : xRuns j (xinit M2 (60 * M2 467 11 + M2 475 (8 * M2 467 11 + M2 503 a0)) (M2 476 (8 * M2 467 11 + M2 503 a0)) (M2 474 (8 * M2 467 11 + M2 503 a0)) (M2 473 (8 * M2 467 11 + M2 503 a0))) (mix M2 τ) := by
      rw [e467, e473, e474, e475, e476, e503, xinit_of r3]
      exact xRuns_mix M2 j _ _ r1
    have hcnt := r2.2.2.2.2.2.2.2.2.2
    refine h1 (zupN (zupN (zupN (zupN P 16 11 33) 101 6 33) 101 7 cc) 101 8 48) M2 _ (r3 1 (by decide)) (fun Q2 h2 => run_m (τ := mix M2 τ) (j := j) a0 a1 (by rw [e467]; exact i1) (by rw [e467, e469]; exact hn) (fun _ => by rw [e503]; exact hπ) (fun _ => by rw [e467, e473, e474, e475, e476, e503]; exact hv) (fun _ => hR) (fun _ => ?_) (fun z => absurd z (by rw [e467, e469]; omega)) (fun _ _ => eqR ?_ (h2 _ _ ?_ ?_)))
    · rw [e503]
      show 0 ≤ τ 509 (M 503 a0) ∧ τ 509 (M 503 a0) ≤ 3000
      have := hcnt.2.1 (M 503 a0) hπ.1 hπ.2
      have := r2.2.2.2.2.2.2.2.2.1
      omega
    · show ranv (τ 467 73) (τ 467 74) (τ 467 70) (τ 467 71) (τ 467 72) a1 = M2 102 a1
      obtain ⟨f1, f2, f3, f4, f5, f6, f7, f8, _⟩ := r2
      unfold ranv
      rcases (by omega : a1 = 0 ∨ a1 = 1 ∨ a1 = 2 ∨ a1 = 3 ∨ a1 = 4) with z | z | z | z | z <;> subst z
      · exact f2.symm
      · exact f5.symm
      · exact f6.symm
      · exact f7.symm
      · exact f8.symm
    · exact r3 1 (by decide)
    · obtain ⟨hS, hk⟩ := frA (r := zs (mix M2 τ 509) (M2 503 a0) (mix M2 τ 509 (M2 503 a0) + 1)) r3 (frR_runs j _ _ r1 (frR_init _ _ _ _))
      refine ⟨IB_fr hS hk hp.symm rfl ⟨c1, c2, c3, c4, c5, iprof_up c6, c7⟩, hKf P _ M _ hK (frT_of hS) (frP_of hS hk) hp.symm⟩
theorem pair_6_62 (hKf : ∀ (P P' : Nat → Nat → Nat) (M A : Nat → Int → Int), K P M → FrT M A → FrP M A → P' 16 11 = P 16 11 → K P' A) {P : Nat → Nat → Nat} {M : Nat → Int → Int} {a0 a1 : Int} (hI : IB L0 xs m P M) (hK : K P M) (hp : P 16 11 = 62) (hip : iprog 62 M) {Q1 : zQ} (h1 : ∀ (P1 : Nat → Nat → Nat) (M1 : Nat → Int → Int) (x : Int), M1 1 = M 1 → (∀ (Q2 : zQ), (∀ (P2 : Nat → Nat → Nat) (M2 : Nat → Int → Int), M2 1 = M 1 → (IB L0 xs (m + 1) P2 M2 ∧ K P2 M2) → Q2 (zS P2 M2) (some (vI x))) → WC (d + 20) 87 [vR 467, vI a0, vI a1] (zS P1 M1) Q2) → Q1 (zS P1 M1) (some (vI x))) : WC (d + 20) 8 [vR 16, vI a0, vI a1] (zS P M) Q1 := by
  obtain ⟨c1, c2, c3, c4, c5, c6, c7⟩ := id hI
  obtain ⟨i1, ⟨i2, i2b, i2c⟩, i3, i4, i5, i6, i7, i8⟩ := id hip
  have eP : zupN P 16 11 62 = P := by
    have := zupN_self P 16 11
    rw [hp] at this
    exact this
  have hn := i6.2.2.1
  refine eqC eP.symm rfl (run_c_62 (d := d + 12) a0 a1 hip c4 c3 c5 (fun q => ?_) (fun qf qw M2 cc τ j r1 r2 r3 => ?_))
  · refine h1 (zupN P 16 11 62) M _ rfl (fun Q2 h2 => run_m (τ := M) (j := 0) a0 a1 i1 hn (fun z => (c5 a0 z.1 (by omega)).1) (fun z => i8 _ (i6.1 a0 z.1 z.2).1.1 (i6.1 a0 z.1 z.2).1.2) (fun z => absurd z (by omega)) (fun z => absurd z (by omega)) (fun _ => h2 _ M rfl ?_) (fun z1 z2 => absurd z1 (by omega)))
    rw [eP]; exact ⟨⟨c1, c2, c3, c4, c5, iprof_up c6, c7⟩, hK⟩
  · have e467 : M2 467 = M 467 := r3 467 (by decide)
    have e469 : M2 469 = M 469 := r3 469 (by decide)
    have e503 : M2 503 = M 503 := r3 503 (by decide)
    have e473 : M2 473 = M 473 := r3 473 (by decide)
    have e474 : M2 474 = M 474 := r3 474 (by decide)
    have e475 : M2 475 = M 475 := r3 475 (by decide)
    have e476 : M2 476 = M 476 := r3 476 (by decide)
    have qf' : 0 ≤ a0 ∧ a0 < M 469 (M 467 11) := by omega
    have hπ := (c5 a0 qf'.1 (by omega)).1
    have hv := i8 _ (i6.1 a0 qf'.1 qf'.2).1.1 (i6.1 a0 qf'.1 qf'.2).1.2
    have hR : xRuns j (xinit M2 (60 * M2 467 11 + M2 475 (8 * M2 467 11 + M2 503 a0)) (M2 476 (8 * M2 467 11 + M2 503 a0)) (M2 474 (8 * M2 467 11 + M2 503 a0)) (M2 473 (8 * M2 467 11 + M2 503 a0))) (mix M2 τ) := by
      rw [e467, e473, e474, e475, e476, e503, xinit_of r3]
      exact xRuns_mix M2 j _ _ r1
    have hcnt := r2.2.2.2.2.2.2.2.2.2
    refine h1 (zupN (zupN (zupN (zupN P 16 11 62) 101 6 62) 101 7 cc) 101 8 77) M2 _ (r3 1 (by decide)) (fun Q2 h2 => run_m (τ := mix M2 τ) (j := j) a0 a1 (by rw [e467]; exact i1) (by rw [e467, e469]; exact hn) (fun _ => by rw [e503]; exact hπ) (fun _ => by rw [e467, e473, e474, e475, e476, e503]; exact hv) (fun _ => hR) (fun _ => ?_) (fun z => absurd z (by rw [e467, e469]; omega)) (fun _ _ => eqR ?_ (h2 _ _ ?_ ?_)))
    · rw [e503]
      show 0 ≤ τ 509 (M 503 a0) ∧ τ 509 (M 503 a0) ≤ 3000
      have := hcnt.2.1 (M 503 a0) hπ.1 hπ.2
      have := r2.2.2.2.2.2.2.2.2.1
      omega
    · show ranv (τ 467 73) (τ 467 74) (τ 467 70) (τ 467 71) (τ 467 72) a1 = M2 102 a1
      obtain ⟨f1, f2, f3, f4, f5, f6, f7, f8, _⟩ := r2
      unfold ranv
      rcases (by omega : a1 = 0 ∨ a1 = 1 ∨ a1 = 2 ∨ a1 = 3 ∨ a1 = 4) with z | z | z | z | z <;> subst z
      · exact f2.symm
      · exact f5.symm
      · exact f6.symm
      · exact f7.symm
      · exact f8.symm
    · exact r3 1 (by decide)
    · obtain ⟨hS, hk⟩ := frA (r := zs (mix M2 τ 509) (M2 503 a0) (mix M2 τ 509 (M2 503 a0) + 1)) r3 (frR_runs j _ _ r1 (frR_init _ _ _ _))
      refine ⟨IB_fr hS hk hp.symm rfl ⟨c1, c2, c3, c4, c5, iprof_up c6, c7⟩, hKf P _ M _ hK (frT_of hS) (frP_of hS hk) hp.symm⟩
theorem pair_6 (hKf : ∀ (P P' : Nat → Nat → Nat) (M A : Nat → Int → Int), K P M → FrT M A → FrP M A → P' 16 11 = P 16 11 → K P' A) : pr_6 (d + 20) (fun P M => IB L0 xs m P M ∧ K P M) (fun P M => IB L0 xs (m + 1) P M ∧ K P M) := by
  intro P M a0 a1 hI r0 r1 Q1 h1
  obtain ⟨hB, hK⟩ := hI
  rcases hB.2.2.2.2.2.2 with ⟨p1, p2, p3⟩ | ⟨p1, p2, p3⟩
  · exact pair_6_33 hKf hB hK p1 p3 h1
  · exact pair_6_62 hKf hB hK p1 p3 h1
end
