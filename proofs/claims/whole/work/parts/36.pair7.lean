/-! The pair counted -/
theorem xinit_hi {M A : Nat → Int → Int} (f : ∀ c : Nat, ¬ c < 467 → A c = M c) {x1 x2 x3 x4 : Int} : xinit A x1 x2 x3 x4 = mix A (xinit M x1 x2 x3 x4) := by
  have eM : A = mix A M := by
    funext c k
    unfold mix
    split
    · rfl
    · next z => rw [f c z]
  exact (congrArg (fun z => xinit z x1 x2 x3 x4) eM).trans (xinit_mix A M x1 x2 x3 x4)
/-- the reference's counted over a memory whose upper cells are as they were -/
theorem counted_mA {d j : Nat} {P : Nat → Nat → Nat} {M A τ : Nat → Int → Int} {Q : zQ} {a0 : Int} (hA : ∀ c : Nat, ¬ c < 467 → A c = M c) (i1 : 0 ≤ M 467 11 ∧ M 467 11 ≤ 1) (hn : 0 ≤ M 469 (M 467 11) ∧ M 469 (M 467 11) ≤ 8) (hπ : 0 ≤ M 503 a0 ∧ M 503 a0 < 8) (hv : 0 ≤ M 473 (8 * M 467 11 + M 503 a0) ∧ M 473 (8 * M 467 11 + M 503 a0) ≤ 3 ∧ M 473 (8 * M 467 11 + M 503 a0) ≤ M 474 (8 * M 467 11 + M 503 a0) ∧ M 474 (8 * M 467 11 + M 503 a0) ≤ 8 ∧ 0 ≤ M 475 (8 * M 467 11 + M 503 a0) ∧ M 475 (8 * M 467 11 + M 503 a0) ≤ 60 ∧ 0 ≤ M 476 (8 * M 467 11 + M 503 a0) ∧ M 476 (8 * M 467 11 + M 503 a0) ≤ 60)
    (qf : 0 ≤ a0 ∧ a0 < M 469 (M 467 11)) (r1 : xRuns j (xinit M (60 * M 467 11 + M 475 (8 * M 467 11 + M 503 a0)) (M 476 (8 * M 467 11 + M 503 a0)) (M 474 (8 * M 467 11 + M 503 a0)) (M 473 (8 * M 467 11 + M 503 a0))) τ) (hg : FrR M τ) (b507 : ∀ k : Int, 0 ≤ k → k < 8 → 0 ≤ M 507 k ∧ M 507 k ≤ 2000000) (b508 : ∀ k : Int, 0 ≤ k → k < 16 → 0 ≤ M 508 k ∧ M 508 k ≤ 2000000) (t509 : ∀ f : Int, 0 ≤ f → f < 8 → 0 ≤ τ 509 f ∧ τ 509 f ≤ 3000) (t510 : ∀ s : Int, 0 ≤ s → s < 16 → 0 ≤ τ 510 s ∧ τ 510 s ≤ 3000)
    (hQ1 : 0 < τ 467 73 → Q (zS P (zrow (mix A τ) 509 (zs (mix A τ 509) (A 503 a0) (mix A τ 509 (A 503 a0) + 1)))) (some (vI (τ 467 73))))
    (hQ2 : ¬ 0 < τ 467 73 → Q (zS P (zrow (zrow (zrow (mix A τ) 509 (zs (mix A τ 509) (A 503 a0) (mix A τ 509 (A 503 a0) + 1))) 507 (zad (τ 507) (zs (τ 509) (A 503 a0) (τ 509 (A 503 a0) + 1)) 8)) 508 (zad (τ 508) (τ 510) 16))) (some (vI 0))) : WC (d + 20) 88 [vR 467, vI a0] (zS P A) Q := by
  have e467 : A 467 = M 467 := hA 467 (by decide)
  have e469 : A 469 = M 469 := hA 469 (by decide)
  have e503 : A 503 = M 503 := hA 503 (by decide)
  have e473 : A 473 = M 473 := hA 473 (by decide)
  have e474 : A 474 = M 474 := hA 474 (by decide)
  have e475 : A 475 = M 475 := hA 475 (by decide)
  have e476 : A 476 = M 476 := hA 476 (by decide)
  have hR : xRuns j (xinit A (60 * A 467 11 + A 475 (8 * A 467 11 + A 503 a0)) (A 476 (8 * A 467 11 + A 503 a0)) (A 474 (8 * A 467 11 + A 503 a0)) (A 473 (8 * A 467 11 + A 503 a0))) (mix A τ) := by
    rw [e467, e473, e474, e475, e476, e503, xinit_hi hA]
    exact xRuns_mix A j _ _ r1
  have h507 : τ 507 = M 507 := hg.1 507 rfl
  have h508 : τ 508 = M 508 := hg.1 508 rfl
  refine counted_m (d := d + 14) (τ := mix A τ) (j := j) a0 (by rw [e467]; exact i1) (by rw [e467, e469]; exact hn) (fun _ => by rw [e503]; exact hπ) (fun _ => by rw [e467, e473, e474, e475, e476, e503]; exact hv) (fun _ => hR) (fun _ => ?_) (fun _ k k0 k1 => ?_) (fun _ k k0 k1 => ?_) (fun _ k k0 k1 => ?_) (fun _ k k0 k1 => ?_) (fun z => absurd z (by rw [e467, e469]; omega)) (fun _ z => hQ1 z) (fun _ z => hQ2 z)
  · rw [e503]; exact t509 _ hπ.1 hπ.2
  · show 0 ≤ τ 508 k ∧ τ 508 k ≤ 2000000
    rw [h508]; exact b508 k k0 k1
  · show 0 ≤ τ 510 k ∧ τ 510 k ≤ 4000
    have := t510 k k0 k1; omega
  · show 0 ≤ τ 507 k ∧ τ 507 k ≤ 2000000
    rw [h507]; exact b507 k k0 k1
  · show 0 ≤ zs (τ 509) (A 503 a0) (τ 509 (A 503 a0) + 1) k ∧ zs (τ 509) (A 503 a0) (τ 509 (A 503 a0) + 1) k ≤ 4000
    rw [e503]
    have a := t509 k k0 k1
    have b := t509 _ hπ.1 hπ.2
    unfold zs; split <;> omega
section
variable {K : (Nat → Nat → Nat) → (Nat → Int → Int) → Prop} {L0 : Nat} {xs : Nat → Int32} {m d : Nat}
theorem pair_7_33 (hKo : ∀ (P : Nat → Nat → Nat) (M : Nat → Int → Int), M 16 14 = -1 → M 16 15 = -1 → K P M) (hKf : ∀ (P P' : Nat → Nat → Nat) (M A : Nat → Int → Int), K P M → FrT M A → P' 16 11 = P 16 11 → K P' A) (hm : m ≤ 512) {P : Nat → Nat → Nat} {M : Nat → Int → Int} {a0 : Int} (hI : IB L0 xs m P M) (hK : K P M) (hp : P 16 11 = 33) (hip : iprog 33 M) {Q1 : zQ} (h1 : ∀ (P1 : Nat → Nat → Nat) (M1 : Nat → Int → Int) (x : Int), M1 1 = M 1 → (∀ (Q2 : zQ), (∀ (P2 : Nat → Nat → Nat) (M2 : Nat → Int → Int), M2 1 = M 1 → (IB L0 xs (m + 1) P2 M2 ∧ K P2 M2) → Q2 (zS P2 M2) (some (vI x))) → WC (d + 20) 88 [vR 467, vI a0] (zS P1 M1) Q2) → Q1 (zS P1 M1) (some (vI x))) : WC (d + 20) 9 [vR 16, vI a0] (zS P M) Q1 := by
  obtain ⟨c1, c2, c3, c4, c5, c6, c7⟩ := id hI
  obtain ⟨i1, ⟨i2, i2b, i2c⟩, i3, i4, i5, i6, i7, i8⟩ := id hip
  obtain ⟨p1, p2, p3⟩ := id c6
  have eP : zupN P 16 11 33 = P := by
    have := zupN_self P 16 11
    rw [hp] at this
    exact this
  have hn := i6.2.2.1
  have b507 : ∀ k : Int, 0 ≤ k → k < 8 → 0 ≤ M 507 k ∧ M 507 k ≤ 2000000 := fun k k0 k1 => by have := p2 k k0 k1; omega
  have b22 : ∀ k : Int, 0 ≤ k → k < 8 → 0 ≤ M 22 k ∧ M 22 k ≤ 2000000 := fun k k0 k1 => by
    rw [p1 k k0 k1]; exact b507 _ (c5 k k0 k1).1.1 (c5 k k0 k1).1.2
  have b508 : ∀ k : Int, 0 ≤ k → k < 16 → 0 ≤ M 508 k ∧ M 508 k ≤ 2000000 := fun k k0 k1 => by
    obtain ⟨_, q2, q3⟩ := p3 k k0 k1
    refine ⟨q2, ?_⟩
    by_cases z : 0 < M 508 k
    · have := q3 z; have := b507 _ this.1 this.2.1; omega
    · omega
  have b23 : ∀ k : Int, 0 ≤ k → k < 16 → 0 ≤ M 23 k ∧ M 23 k ≤ 2000000 := fun k k0 k1 => by rw [(p3 k k0 k1).1]; exact b508 k k0 k1
  have hinj := i6.2.2.2
  refine eqC eP.symm rfl (counted_c_33 (d := d + 12) a0 hip c4 c3 c5 b22 b23 (fun q => ?_) (fun qf M2 cc τ j r1 r2 r3 qz => ?_) (fun qf M2 cc τ j r1 r2 r3 qz => ?_))
  · refine h1 (zupN P 16 11 33) M _ rfl (fun Q2 h2 => counted_m (τ := M) (j := 0) a0 i1 hn (fun z => absurd z (by omega)) (fun z => absurd z (by omega)) (fun z => absurd z (by omega)) (fun z => absurd z (by omega)) (fun z => absurd z (by omega)) (fun z => absurd z (by omega)) (fun z => absurd z (by omega)) (fun z => absurd z (by omega)) (fun _ => h2 _ M rfl ?_) (fun z1 z2 => absurd z1 (by omega)) (fun z1 z2 => absurd z1 (by omega)))
    rw [eP]; exact ⟨⟨c1, c2, c3, c4, c5, iprof_up c6, c7⟩, hK⟩
  · have qf' : 0 ≤ a0 ∧ a0 < M 469 (M 467 11) := by omega
    have hπ := (c5 a0 qf'.1 (by omega)).1
    have hv := i8 _ (i6.1 a0 qf'.1 qf'.2).1.1 (i6.1 a0 qf'.1 qf'.2).1.2
    have hg := frR_runs (M := M) j _ _ r1 (frR_init _ _ _ _)
    obtain ⟨f1, f2, f3, f4, f5, f6, f7, f8, f9, g1, g2, g3⟩ := id r2
    refine h1 (zupN (zupN (zupN (zupN P 16 11 33) 101 6 33) 101 7 cc) 101 8 48) M2 _ (r3 1 (by decide)) (fun Q2 h2 => counted_mA (τ := τ) (j := j) (fun c z => r3 c (by omega)) i1 hn hπ hv qf' r1 hg b507 b508 (fun f z0 z1 => by have := g2 f z0 z1; omega) (fun s z0 z1 => by have := g3 s z0 z1; omega) (fun z => ?_) (fun z => absurd z (by omega)))
    refine eqR f2.symm (h2 _ _ (r3 1 (by decide)) ?_)
    obtain ⟨hS, hk⟩ := frA (r := zs (mix M2 τ 509) (M2 503 a0) (mix M2 τ 509 (M2 503 a0) + 1)) r3 hg
    exact ⟨IB_fr hS hk hp.symm rfl ⟨c1, c2, c3, c4, c5, iprof_up c6, c7⟩, hKf P _ M _ hK (frT_of hS) hp.symm⟩
  · have qf' : 0 ≤ a0 ∧ a0 < M 469 (M 467 11) := by omega
    have hπ := (c5 a0 qf'.1 (by omega)).1
    have hv := i8 _ (i6.1 a0 qf'.1 qf'.2).1.1 (i6.1 a0 qf'.1 qf'.2).1.2
    have hg := frR_runs (M := M) j _ _ r1 (frR_init _ _ _ _)
    obtain ⟨f1, f2, f3, f4, f5, f6, f7, f8, f9, g1, g2, g3⟩ := id r2
    refine h1 (zupN (zupN (zupN (zupN P 16 11 33) 101 6 33) 101 7 cc) 101 8 48) _ _ (r3 1 (by decide)) (fun Q2 h2 => counted_mA (τ := τ) (j := j) (fun c z => ?_) i1 hn hπ hv qf' r1 hg b507 b508 (fun f z0 z1 => by have := g2 f z0 z1; omega) (fun s z0 z1 => by have := g3 s z0 z1; omega) (fun z => absurd z (by omega)) (fun z => ?_))
    · rw [← r3 c (by omega)]; funext k; unfold zup zrow; rw [if_neg (by omega), if_neg (by omega), if_neg (by omega), if_neg (by omega)]
    · refine eqR qz.symm (h2 _ _ (r3 1 (by decide)) ⟨?_, hKo _ _ rfl rfl⟩)
      sorry
end
