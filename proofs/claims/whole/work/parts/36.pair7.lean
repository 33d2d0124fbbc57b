/-! The pair counted -/
theorem xinit_hi {M A : Nat → Int → Int} (f : ∀ c : Nat, ¬ c < 467 → A c = M c) {x1 x2 x3 x4 : Int} : xinit A x1 x2 x3 x4 = mix A (xinit M x1 x2 x3 x4) := by
  have eM : A = mix A M := by
    funext c k
    unfold mix
    split
    · rfl
    · next z => rw [f c z]
  exact (congrArg (fun z => xinit z x1 x2 x3 x4) eM).trans (xinit_mix A M x1 x2 x3 x4)
/-- the reference's counted over a memory whose upper cells are as they were -/
theorem counted_mA {d j : Nat} {P : Nat → Nat → Nat} {M A τ : Nat → Int → Int} {Q : zQ} {a0 : Int} (hA : ∀ c : Nat, ¬ c < 467 → A c = M c) (i1 : 0 ≤ M 467 11 ∧ M 467 11 ≤ 1) (hn : 0 ≤ M 469 (M 467 11) ∧ M 469 (M 467 11) ≤ 8) (hπ : 0 ≤ M 503 a0 ∧ M 503 a0 < 8) (hv : 0 ≤ M 473 (8 * M 467 11 + M 503 a0) ∧ M 473 (8 * M 467 11 + M 503 a0) ≤ 3 ∧ M 473 (8 * M 467 11 + M 503 a0) ≤ M 474 (8 * M 467 11 + M 503 a0) ∧ M 474 (8 * M 467 11 + M 503 a0) ≤ 8 ∧ 0 ≤ M 475 (8 * M 467 11 + M 503 a0) ∧ M 475 (8 * M 467 11 + M 503 a0) ≤ 60 ∧ 0 ≤ M 476 (8 * M 467 11 + M 503 a0) ∧ M 476 (8 * M 467 11 + M 503 a0) ≤ 60)
    (qf : 0 ≤ a0 ∧ a0 < M 469 (M 467 11)) (r1 : xRuns j (xinit M (60 * M 467 11 + M 475 (8 * M 467 11 + M 503 a0)) (M 476 (8 * M 467 11 + M 503 a0)) (M 474 (8 * M 467 11 + M 503 a0)) (M 473 (8 * M 467 11 + M 503 a0))) τ) (hg : FrR M τ) (b507 : ∀ k : Int, 0 ≤ k → k < 8 → 0 ≤ M 507 k ∧ M 507 k ≤ 2000000) (b508 : ∀ k : Int, 0 ≤ k → k < 16 → 0 ≤ M 508 k ∧ M 508 k ≤ 2000000) (t509 : ∀ f : Int, 0 ≤ f → f < 8 → 0 ≤ τ 509 f ∧ τ 509 f ≤ 3000) (t510 : ∀ s : Int, 0 ≤ s → s < 16 → 0 ≤ τ 510 s ∧ τ 510 s ≤ 3000)
    (hQ1 : 0 < τ 467 73 → Q (zS P (zrow (mix A τ) 509 (zs (mix A τ 509) (A 503 a0) (mix A τ 509 (A 503 a0) + 1)))) (some (vI (τ 467 73))))
    (hQ2 : ¬ 0 < τ 467 73 → Q (zS P (zrow (zrow (zrow (mix A τ) 509 (zs (mix A τ 509) (A 503 a0) (mix A τ 509 (A 503 a0) + 1))) 507 (zad (τ 507) (zs (τ 509) (A 503 a0) (τ 509 (A 503 a0) + 1)) 8)) 508 (zad (τ 508) (τ 510) 16))) (some (vI 0))) : WC (d + 20) 88 [vR 467, vI a0] (zS P A) Q := by
  have e467 : A 467 = M 467 := hA 467 (by decide)
  have e469 : A 469 = M 469 := hA 469 (by decide)
  have e503 : A 503 = M 503 := hA 503 (by decide)
  have e473 : A 473 = M 473 := hA 473 (by decide)
  have e474 : A 474 = M 474 := hA 474 (by decide)
  have e475 : A 475 = M 475 := hA 475 (by decide)
  have e476 : A 476 = M 476 := hA 476 (by decide)
  have hR : xRuns j (xinit A (60 * A 467 11 + A 475 (8 * A 467 11 + A 503 a0)) (A 476 (8 * A 467 11 + A 503 a0)) (A 474 (8 * A 467 11 + A 503 a0)) (A 473 (8 * A 467 11 + A 503 a0))) (mix A τ) := by
    rw [e467, e473, e474, e475, e476, e503, xinit_hi hA]
    exact xRuns_mix A j _ _ r1
  have h507 : τ 507 = M 507 := hg.1 507 rfl
  have h508 : τ 508 = M 508 := hg.1 508 rfl
  refine counted_m (d := d + 14) (τ := mix A τ) (j := j) a0 (by rw [e467]; exact i1) (by rw [e467, e469]; exact hn) (fun _ => by rw [e503]; exact hπ) (fun _ => by rw [e467, e473, e474, e475, e476, e503]; exact hv) (fun _ => hR) (fun _ => ?_) (fun _ k k0 k1 => ?_) (fun _ k k0 k1 => ?_) (fun _ k k0 k1 => ?_) (fun _ k k0 k1 => ?_) (fun z => absurd z (by rw [e467, e469]; omega)) (fun _ z => hQ1 z) (fun _ z => hQ2 z)
  · rw [e503]; exact t509 _ hπ.1 hπ.2
  · show 0 ≤ τ 508 k ∧ τ 508 k ≤ 2000000
    rw [h508]; exact b508 k k0 k1
  · show 0 ≤ τ 510 k ∧ τ 510 k ≤ 4000
    have := t510 k k0 k1; omega
  · show 0 ≤ τ 507 k ∧ τ 507 k ≤ 2000000
    rw [h507]; exact b507 k k0 k1
  · show 0 ≤ zs (τ 509) (A 503 a0) (τ 509 (A 503 a0) + 1) k ∧ zs (τ 509) (A 503 a0) (τ 509 (A 503 a0) + 1) k ≤ 4000
    rw [e503]
    have a := t509 k k0 k1
    have b := t509 _ hπ.1 hπ.2
    unfold zs; split <;> omega
/-- the invariant behind a run that was counted -/
theorem frP_cnt {M τ A : Nat → Int → Int} {r r1 r2 : Int → Int} (hlow : ∀ c : Nat, c < 467 → ¬ (101 ≤ c ∧ c ≤ 115) → ¬ c = 16 → ¬ c = 22 → ¬ c = 23 → A c = M c) (hg : FrR M τ) : FrP M (zrow (zrow (zrow (mix A τ) 509 r) 507 r1) 508 r2) := by
  refine ⟨hg.2 11 (by decide), fun c q => ?_⟩
  have z : ((33 ≤ c ∧ c ≤ 90) ∨ (469 ≤ c ∧ c ≤ 499) ∨ c = 503 ∨ c = 504) := by unfold gCell at q; simp at q; omega
  have e : (zrow (zrow (zrow (mix A τ) 509 r) 507 r1) 508 r2) c = mix A τ c := by
    funext k; unfold zrow; rw [if_neg (by omega), if_neg (by omega), if_neg (by omega)]
  rw [e]
  by_cases hq : c < 467
  · rw [← hlow c hq (by omega) (by omega) (by omega) (by omega)]; funext k; exact if_pos hq
  · rw [mix_cell A τ hq]; exact hg.1 c (by unfold rCell; simp; omega)
theorem IB_cnt {L0 : Nat} {xs : Nat → Int32} {m : Nat} {P P' : Nat → Nat → Nat} {M M2 τ A : Nat → Int → Int} {a0 ca : Int} {r : Int → Int} (hI : IB L0 xs m P M) (hlow : ∀ c : Nat, c < 467 → ¬ (101 ≤ c ∧ c ≤ 115) → ¬ c = 16 → ¬ c = 22 → ¬ c = 23 → A c = M c) (h13 : A 16 13 = M 16 13) (h22 : A 22 = zad (M 22) (M2 103) 8) (h23 : A 23 = zad (M 23) (M2 104) 16) (hg : FrR M τ) (hinj : ∀ a b : Int, 0 ≤ a → a < 8 → 0 ≤ b → b < 8 → M 503 a = M 503 b → a = b) (hc : xCnt (M 503) (fun g => if g = a0 then 1 else 0) (TOf M) (M2 103) (M2 104) (τ 509) (τ 510) ca) (hca : 0 ≤ ca ∧ ca ≤ 3000) (ha0 : 0 ≤ a0 ∧ a0 < 8) (e503 : A 503 = M 503) (h1 : P' 16 11 = P 16 11) (h2 : P' 16 12 = P 16 12) :
    IB L0 xs (m + 1) P' (zrow (zrow (zrow (mix A τ) 509 r) 507 (zad (τ 507) (zs (τ 509) (A 503 a0) (τ 509 (A 503 a0) + 1)) 8)) 508 (zad (τ 508) (τ 510) 16)) := by
  obtain ⟨c1, c2, c3, c4, c5, c6, c7⟩ := hI
  obtain ⟨p1, p2, p3⟩ := c6
  obtain ⟨q1, q2, q3⟩ := hc
  have t507 : τ 507 = M 507 := hg.1 507 rfl
  have t508 : τ 508 = M 508 := hg.1 508 rfl
  have hE : ∀ c : Nat, ¬ (101 ≤ c ∧ c ≤ 115) → rCell c = false → ¬ c = 16 → ¬ c = 22 → ¬ c = 23 → ¬ c = 507 → ¬ c = 508 → (zrow (zrow (zrow (mix A τ) 509 r) 507 (zad (τ 507) (zs (τ 509) (A 503 a0) (τ 509 (A 503 a0) + 1)) 8)) 508 (zad (τ 508) (τ 510) 16)) c = M c := by
    intro c z1 z2 z3 z4 z5 z6 z7
    have z8 : ¬ c = 509 := fun z => by rw [z] at z2; exact absurd z2 (by decide)
    have e : (zrow (zrow (zrow (mix A τ) 509 r) 507 (zad (τ 507) (zs (τ 509) (A 503 a0) (τ 509 (A 503 a0) + 1)) 8)) 508 (zad (τ 508) (τ 510) 16)) c = mix A τ c := by
      funext k; unfold zrow; rw [if_neg z7, if_neg z6, if_neg z8]
    rw [e]
    by_cases q : c < 467
    · rw [← hlow c q z1 z3 z4 z5]; funext k; exact if_pos q
    · rw [mix_cell A τ q]; exact hg.1 c z2
  generalize hM4 : (zrow (zrow (zrow (mix A τ) 509 r) 507 (zad (τ 507) (zs (τ 509) (A 503 a0) (τ 509 (A 503 a0) + 1)) 8)) 508 (zad (τ 508) (τ 510) 16)) = M4 at hE ⊢
  have m13 : M4 16 13 = M 16 13 := by rw [← hM4]; exact h13
  have m1 : M4 467 1 = M 467 1 := by rw [← hM4]; exact hg.2 1 (by decide)
  have m11 : M4 467 11 = M 467 11 := by rw [← hM4]; exact hg.2 11 (by decide)
  have m22 : M4 22 = zad (M 22) (M2 103) 8 := by rw [← hM4, ← h22]; rfl
  have m23 : M4 23 = zad (M 23) (M2 104) 16 := by rw [← hM4, ← h23]; rfl
  have m507 : M4 507 = zad (M 507) (zs (τ 509) (M 503 a0) (τ 509 (M 503 a0) + 1)) 8 := by rw [← hM4, ← t507, ← e503]; rfl
  have m508 : M4 508 = zad (M 508) (τ 510) 16 := by rw [← hM4, ← t508]; rfl
  have E := fun (c : Nat) (z1 : ¬ (101 ≤ c ∧ c ≤ 115)) (z2 : rCell c = false) (z3 : ¬ c = 16 ∧ ¬ c = 22 ∧ ¬ c = 23 ∧ ¬ c = 507 ∧ ¬ c = 508) => hE c z1 z2 z3.1 z3.2.1 z3.2.2.1 z3.2.2.2.1 z3.2.2.2.2
  have eT : TOf M4 = TOf M := by funext s; unfold TOf; rw [m11, E 471 (by decide) rfl (by decide), E 485 (by decide) rfl (by decide), E 492 (by decide) rfl (by decide)]
  have m503 := E 503 (by decide) rfl (by decide)
  have hpa := (c5 a0 ha0.1 ha0.2).1
  have z509 : ∀ f : Int, 0 ≤ f → f < 8 → τ 509 f ≤ zs (τ 509) (M 503 a0) (τ 509 (M 503 a0) + 1) f ∧ zs (τ 509) (M 503 a0) (τ 509 (M 503 a0) + 1) f ≤ 3001 := fun f f0 f1 => by
    have a := q2 f f0 f1
    have b := q2 _ hpa.1 hpa.2
    unfold zs; split
    · next e => rw [e]; omega
    · omega
  refine ⟨fun c q => ?_, ?_, ?_, ?_, ?_, ⟨fun f f0 f1 => ?_, fun f f0 f1 => ?_, fun s s0 s1 => ?_⟩, iptr_fr ⟨m11, fun c q => E c ?_ ?_ ?_⟩ h1 h2 c7⟩
  · rw [← c1 c q]; refine E c (by omega) ?_ (by omega); unfold rCell; simp; omega
  · unfold itape; rw [m13, m1, E 17 (by decide) rfl (by decide), E 468 (by decide) rfl (by decide)]; exact c2
  · unfold iarg; rw [E 18 (by decide) rfl (by decide), E 505 (by decide) rfl (by decide)]; exact c3
  · unfold iset; rw [E 19 (by decide) rfl (by decide), E 506 (by decide) rfl (by decide)]; exact c4
  · unfold iperm; rw [m503, E 504 (by decide) rfl (by decide)]; exact c5
  · have hf := (c5 f f0 f1).1
    have e1 : zad (M 22) (M2 103) 8 f = M 22 f + M2 103 f := if_pos ⟨f0, f1⟩
    have e2 : zad (M 507) (zs (τ 509) (M 503 a0) (τ 509 (M 503 a0) + 1)) 8 (M 503 f) = M 507 (M 503 f) + zs (τ 509) (M 503 a0) (τ 509 (M 503 a0) + 1) (M 503 f) := if_pos hf
    rw [m22, m507, m503, e1, e2, p1 f f0 f1, q1 f f0 f1]
    by_cases e : f = a0
    · rw [e, zs_pos rfl]; dsimp only; rw [if_pos rfl]
    · rw [zs_neg (fun z => e (hinj f a0 f0 f1 ha0.1 ha0.2 z))]; dsimp only; rw [if_neg e]; omega
  · have e2 : zad (M 507) (zs (τ 509) (M 503 a0) (τ 509 (M 503 a0) + 1)) 8 f = M 507 f + zs (τ 509) (M 503 a0) (τ 509 (M 503 a0) + 1) f := if_pos ⟨f0, f1⟩
    rw [m507, e2]
    have a := p2 f f0 f1
    have b := z509 f f0 f1
    have c := q2 f f0 f1
    omega
  · have e1 : zad (M 23) (M2 104) 16 s = M 23 s + M2 104 s := if_pos ⟨s0, s1⟩
    have e2 : zad (M 508) (τ 510) 16 s = M 508 s + τ 510 s := if_pos ⟨s0, s1⟩
    obtain ⟨a1, a2, a3⟩ := p3 s s0 s1
    obtain ⟨b1, b2, b3, b4⟩ := q3 s s0 s1
    rw [m23, m508, m507, eT, e1, e2, a1, b1]
    refine ⟨rfl, by omega, fun z => ?_⟩
    have hT : 0 ≤ TOf M s ∧ TOf M s < 8 := by
      by_cases y : 0 < M 508 s
      · exact ⟨(a3 y).1, (a3 y).2.1⟩
      · have := b4 (by omega); exact ⟨this.1, this.2.1⟩
    have e3 : zad (M 507) (zs (τ 509) (M 503 a0) (τ 509 (M 503 a0) + 1)) 8 (TOf M s) = M 507 (TOf M s) + zs (τ 509) (M 503 a0) (τ 509 (M 503 a0) + 1) (TOf M s) := if_pos hT
    rw [e3]
    refine ⟨hT.1, hT.2, ?_⟩
    have u1 := z509 _ hT.1 hT.2
    have u2 := p2 _ hT.1 hT.2
    have u3 := q2 _ hT.1 hT.2
    have v1 : M 508 s ≤ M 507 (TOf M s) := by
      by_cases y : 0 < M 508 s
      · exact (a3 y).2.2
      · omega
    have v2 : τ 510 s ≤ τ 509 (TOf M s) := by
      by_cases y : 0 < τ 510 s
      · exact (b4 y).2.2
      · omega
    omega
  · unfold gCell at q; simp at q; omega
  · unfold gCell at q; unfold rCell; simp at q ⊢; omega
  · unfold gCell at q; simp at q; omega
section
variable {K : (Nat → Nat → Nat) → (Nat → Int → Int) → Prop} {L0 : Nat} {xs : Nat → Int32} {m d : Nat}
theorem pair_7_33 (hKo : ∀ (P P' : Nat → Nat → Nat) (M A : Nat → Int → Int), K P M → FrP M A → P' 16 11 = P 16 11 → A 16 14 = -1 → A 16 15 = -1 → K P' A) (hKf : ∀ (P P' : Nat → Nat → Nat) (M A : Nat → Int → Int), K P M → FrT M A → FrP M A → P' 16 11 = P 16 11 → K P' A) (hm : m ≤ 512) {P : Nat → Nat → Nat} {M : Nat → Int → Int} {a0 : Int} (hI : IB L0 xs m P M) (hK : K P M) (hp : P 16 11 = 33) (hip : iprog 33 M) {Q1 : zQ} (h1 : ∀ (P1 : Nat → Nat → Nat) (M1 : Nat → Int → Int) (x : Int), M1 1 = M 1 → (∀ (Q2 : zQ), (∀ (P2 : Nat → Nat → Nat) (M2 : Nat → Int → Int), M2 1 = M 1 → (IB L0 xs (m + 1) P2 M2 ∧ K P2 M2) → Q2 (zS P2 M2) (some (vI x))) → WC (d + 20) 88 [vR 467, vI a0] (zS P1 M1) Q2) → Q1 (zS P1 M1) (some (vI x))) : WC (d + 20) 9 [vR 16, vI a0] (zS P M) Q1 := by
  obtain ⟨c1, c2, c3, c4, c5, c6, c7⟩ := id hI
  obtain ⟨i1, ⟨i2, i2b, i2c⟩, i3, i4, i5, i6, i7, i8⟩ := id hip
  obtain ⟨p1, p2, p3⟩ := id c6
  have eP : zupN P 16 11 33 = P := by
    have := zupN_self P 16 11
    rw [hp] at this
    exact this
  have hn := i6.2.2.1
  have b507 : ∀ k : Int, 0 ≤ k → k < 8 → 0 ≤ M 507 k ∧ M 507 k ≤ 2000000 := fun k k0 k1 => by have := p2 k k0 k1; omega
  have b22 : ∀ k : Int, 0 ≤ k → k < 8 → 0 ≤ M 22 k ∧ M 22 k ≤ 2000000 := fun k k0 k1 => by
    rw [p1 k k0 k1]; exact b507 _ (c5 k k0 k1).1.1 (c5 k k0 k1).1.2
  have b508 : ∀ k : Int, 0 ≤ k → k < 16 → 0 ≤ M 508 k ∧ M 508 k ≤ 2000000 := fun k k0 k1 => by
    obtain ⟨_, q2, q3⟩ := p3 k k0 k1
    refine ⟨q2, ?_⟩
    by_cases z : 0 < M 508 k
    · have := q3 z; have := b507 _ this.1 this.2.1; omega
    · omega
  have b23 : ∀ k : Int, 0 ≤ k → k < 16 → 0 ≤ M 23 k ∧ M 23 k ≤ 2000000 := fun k k0 k1 => by rw [(p3 k k0 k1).1]; exact b508 k k0 k1
  have hinj := i6.2.2.2
  refine eqC eP.symm rfl (counted_c_33 (d := d + 12) a0 hip c4 c3 c5 b22 b23 (fun q => ?_) (fun qf M2 cc τ j r1 r2 r3 qz => ?_) (fun qf M2 cc τ j r1 r2 r3 qz => ?_))
  · refine h1 (zupN P 16 11 33) M _ rfl (fun Q2 h2 => counted_m (τ := M) (j := 0) a0 i1 hn (fun z => absurd z (by omega)) (fun z => absurd z (by omega)) (fun z => absurd z (by omega)) (fun z => absurd z (by omega)) (fun z => absurd z (by omega)) (fun z => absurd z (by omega)) (fun z => absurd z (by omega)) (fun z => absurd z (by omega)) (fun _ => h2 _ M rfl ?_) (fun z1 z2 => absurd z1 (by omega)) (fun z1 z2 => absurd z1 (by omega)))
    rw [eP]; exact ⟨⟨c1, c2, c3, c4, c5, iprof_up c6, c7⟩, hK⟩
  · have qf' : 0 ≤ a0 ∧ a0 < M 469 (M 467 11) := by omega
    have hπ := (c5 a0 qf'.1 (by omega)).1
    have hv := i8 _ (i6.1 a0 qf'.1 qf'.2).1.1 (i6.1 a0 qf'.1 qf'.2).1.2
    have hg := frR_runs (M := M) j _ _ r1 (frR_init _ _ _ _)
    obtain ⟨f1, f2, f3, f4, f5, f6, f7, f8, f9, g1, g2, g3⟩ := id r2
    refine h1 (zupN (zupN (zupN (zupN P 16 11 33) 101 6 33) 101 7 cc) 101 8 48) M2 _ (r3 1 (by decide)) (fun Q2 h2 => counted_mA (τ := τ) (j := j) (fun c z => r3 c (by omega)) i1 hn hπ hv qf' r1 hg b507 b508 (fun f z0 z1 => by have := g2 f z0 z1; omega) (fun s z0 z1 => by have := g3 s z0 z1; omega) (fun z => ?_) (fun z => absurd z (by omega)))
    refine eqR f2.symm (h2 _ _ (r3 1 (by decide)) ?_)
    obtain ⟨hS, hk⟩ := frA (r := zs (mix M2 τ 509) (M2 503 a0) (mix M2 τ 509 (M2 503 a0) + 1)) r3 hg
    exact ⟨IB_fr hS hk hp.symm rfl ⟨c1, c2, c3, c4, c5, iprof_up c6, c7⟩, hKf P _ M _ hK (frT_of hS) (frP_of hS hk) hp.symm⟩
  · have qf' : 0 ≤ a0 ∧ a0 < M 469 (M 467 11) := by omega
    have hπ := (c5 a0 qf'.1 (by omega)).1
    have hv := i8 _ (i6.1 a0 qf'.1 qf'.2).1.1 (i6.1 a0 qf'.1 qf'.2).1.2
    have hg := frR_runs (M := M) j _ _ r1 (frR_init _ _ _ _)
    obtain ⟨f1, f2, f3, f4, f5, f6, f7, f8, f9, g1, g2, g3⟩ := id r2
    refine h1 (zupN (zupN (zupN (zupN P 16 11 33) 101 6 33) 101 7 cc) 101 8 48) _ _ (r3 1 (by decide)) (fun Q2 h2 => counted_mA (τ := τ) (j := j) (fun c z => ?_) i1 hn hπ hv qf' r1 hg b507 b508 (fun f z0 z1 => by have := g2 f z0 z1; omega) (fun s z0 z1 => by have := g3 s z0 z1; omega) (fun z => absurd z (by omega)) (fun z => ?_))
    · rw [← r3 c (by omega)]; funext k; unfold zup zrow; rw [if_neg (by omega), if_neg (by omega), if_neg (by omega), if_neg (by omega)]
    · refine eqR qz.symm (h2 _ _ (r3 1 (by decide)) ⟨?_, hKo P _ M _ hK (frP_cnt (fun c y1 y2 y3 y4 y5 => by rw [← r3 c y2]; funext k; unfold zup zrow; rw [if_neg (by omega), if_neg (by omega), if_neg (by omega), if_neg (by omega)]) hg) hp.symm rfl rfl⟩)
      exact IB_cnt hI (fun c y1 y2 y3 y4 y5 => by rw [← r3 c y2]; funext k; unfold zup zrow; rw [if_neg (by omega), if_neg (by omega), if_neg (by omega), if_neg (by omega)]) (by show M2 16 13 = M 16 13; rw [r3 16 (by decide)]) (by show zad (M2 22) (M2 103) 8 = _; rw [r3 22 (by decide)]) (by show zad (M2 23) (M2 104) 16 = _; rw [r3 23 (by decide)]) hg hinj ⟨g1, g2, g3⟩ (by omega) ⟨qf'.1, by omega⟩ (by show M2 503 = M 503; exact r3 503 (by decide)) hp.symm rfl
theorem pair_7_62 (hKo : ∀ (P P' : Nat → Nat → Nat) (M A : Nat → Int → Int), K P M → FrP M A → P' 16 11 = P 16 11 → A 16 14 = -1 → A 16 15 = -1 → K P' A) (hKf : ∀ (P P' : Nat → Nat → Nat) (M A : Nat → Int → Int), K P M → FrT M A → FrP M A → P' 16 11 = P 16 11 → K P' A) (hm : m ≤ 512) {P : Nat → Nat → Nat} {M : Nat → Int → Int} {a0 : Int} (hI : IB L0 xs m P M) (hK : K P M) (hp : P 16 11 = 62) (hip : iprog 62 M) {Q1 : zQ} (h1 : ∀ (P1 : Nat → Nat → Nat) (M1 : Nat → Int → Int) (x : Int), M1 1 = M 1 → (∀ (Q2 : zQ), (∀ (P2 : Nat → Nat → Nat) (M2 : Nat → Int → Int), M2 1 = M 1 → (IB L0 xs (m + 1) P2 M2 ∧ K P2 M2) → Q2 (zS P2 M2) (some (vI x))) → WC (d + 20) 88 [vR 467, vI a0] (zS P1 M1) Q2) → Q1 (zS P1 M1) (some (vI x))) : WC (d + 20) 9 [vR 16, vI a0] (zS P M) Q1 := by
  obtain ⟨c1, c2, c3, c4, c5, c6, c7⟩ := id hI
  obtain ⟨i1, ⟨i2, i2b, i2c⟩, i3, i4, i5, i6, i7, i8⟩ := id hip
  obtain ⟨p1, p2, p3⟩ := id c6
  have eP : zupN P 16 11 62 = P := by
    have := zupN_self P 16 11
    rw [hp] at this
    exact this
  have hn := i6.2.2.1
  have b507 : ∀ k : Int, 0 ≤ k → k < 8 → 0 ≤ M 507 k ∧ M 507 k ≤ 2000000 := fun k k0 k1 => by have := p2 k k0 k1; omega
  have b22 : ∀ k : Int, 0 ≤ k → k < 8 → 0 ≤ M 22 k ∧ M 22 k ≤ 2000000 := fun k k0 k1 => by
    rw [p1 k k0 k1]; exact b507 _ (c5 k k0 k1).1.1 (c5 k k0 k1).1.2
  have b508 : ∀ k : Int, 0 ≤ k → k < 16 → 0 ≤ M 508 k ∧ M 508 k ≤ 2000000 := fun k k0 k1 => by
    obtain ⟨_, q2, q3⟩ := p3 k k0 k1
    refine ⟨q2, ?_⟩
    by_cases z : 0 < M 508 k
    · have := q3 z; have := b507 _ this.1 this.2.1; omega
    · omega
  have b23 : ∀ k : Int, 0 ≤ k → k < 16 → 0 ≤ M 23 k ∧ M 23 k ≤ 2000000 := fun k k0 k1 => by rw [(p3 k k0 k1).1]; exact b508 k k0 k1
  have hinj := i6.2.2.2
  refine eqC eP.symm rfl (counted_c_62 (d := d + 12) a0 hip c4 c3 c5 b22 b23 (fun q => ?_) (fun qf M2 cc τ j r1 r2 r3 qz => ?_) (fun qf M2 cc τ j r1 r2 r3 qz => ?_))
  · refine h1 (zupN P 16 11 62) M _ rfl (fun Q2 h2 => counted_m (τ := M) (j := 0) a0 i1 hn (fun z => absurd z (by omega)) (fun z => absurd z (by omega)) (fun z => absurd z (by omega)) (fun z => absurd z (by omega)) (fun z => absurd z (by omega)) (fun z => absurd z (by omega)) (fun z => absurd z (by omega)) (fun z => absurd z (by omega)) (fun _ => h2 _ M rfl ?_) (fun z1 z2 => absurd z1 (by omega)) (fun z1 z2 => absurd z1 (by omega)))
    rw [eP]; exact ⟨⟨c1, c2, c3, c4, c5, iprof_up c6, c7⟩, hK⟩
  · have qf' : 0 ≤ a0 ∧ a0 < M 469 (M 467 11) := by omega
    have hπ := (c5 a0 qf'.1 (by omega)).1
    have hv := i8 _ (i6.1 a0 qf'.1 qf'.2).1.1 (i6.1 a0 qf'.1 qf'.2).1.2
    have hg := frR_runs (M := M) j _ _ r1 (frR_init _ _ _ _)
    obtain ⟨f1, f2, f3, f4, f5, f6, f7, f8, f9, g1, g2, g3⟩ := id r2
    refine h1 (zupN (zupN (zupN (zupN P 16 11 62) 101 6 62) 101 7 cc) 101 8 77) M2 _ (r3 1 (by decide)) (fun Q2 h2 => counted_mA (τ := τ) (j := j) (fun c z => r3 c (by omega)) i1 hn hπ hv qf' r1 hg b507 b508 (fun f z0 z1 => by have := g2 f z0 z1; omega) (fun s z0 z1 => by have := g3 s z0 z1; omega) (fun z => ?_) (fun z => absurd z (by omega)))
    refine eqR f2.symm (h2 _ _ (r3 1 (by decide)) ?_)
    obtain ⟨hS, hk⟩ := frA (r := zs (mix M2 τ 509) (M2 503 a0) (mix M2 τ 509 (M2 503 a0) + 1)) r3 hg
    exact ⟨IB_fr hS hk hp.symm rfl ⟨c1, c2, c3, c4, c5, iprof_up c6, c7⟩, hKf P _ M _ hK (frT_of hS) (frP_of hS hk) hp.symm⟩
  · have qf' : 0 ≤ a0 ∧ a0 < M 469 (M 467 11) := by omega
    have hπ := (c5 a0 qf'.1 (by omega)).1
    have hv := i8 _ (i6.1 a0 qf'.1 qf'.2).1.1 (i6.1 a0 qf'.1 qf'.2).1.2
    have hg := frR_runs (M := M) j _ _ r1 (frR_init _ _ _ _)
    obtain ⟨f1, f2, f3, f4, f5, f6, f7, f8, f9, g1, g2, g3⟩ := id r2
    refine h1 (zupN (zupN (zupN (zupN P 16 11 62) 101 6 62) 101 7 cc) 101 8 77) _ _ (r3 1 (by decide)) (fun Q2 h2 => counted_mA (τ := τ) (j := j) (fun c z => ?_) i1 hn hπ hv qf' r1 hg b507 b508 (fun f z0 z1 => by have := g2 f z0 z1; omega) (fun s z0 z1 => by have := g3 s z0 z1; omega) (fun z => absurd z (by omega)) (fun z => ?_))
    · rw [← r3 c (by omega)]; funext k; unfold zup zrow; rw [if_neg (by omega), if_neg (by omega), if_neg (by omega), if_neg (by omega)]
    · refine eqR qz.symm (h2 _ _ (r3 1 (by decide)) ⟨?_, hKo P _ M _ hK (frP_cnt (fun c y1 y2 y3 y4 y5 => by rw [← r3 c y2]; funext k; unfold zup zrow; rw [if_neg (by omega), if_neg (by omega), if_neg (by omega), if_neg (by omega)]) hg) hp.symm rfl rfl⟩)
      exact IB_cnt hI (fun c y1 y2 y3 y4 y5 => by rw [← r3 c y2]; funext k; unfold zup zrow; rw [if_neg (by omega), if_neg (by omega), if_neg (by omega), if_neg (by omega)]) (by show M2 16 13 = M 16 13; rw [r3 16 (by decide)]) (by show zad (M2 22) (M2 103) 8 = _; rw [r3 22 (by decide)]) (by show zad (M2 23) (M2 104) 16 = _; rw [r3 23 (by decide)]) hg hinj ⟨g1, g2, g3⟩ (by omega) ⟨qf'.1, by omega⟩ (by show M2 503 = M 503; exact r3 503 (by decide)) hp.symm rfl
theorem pair_7 (hKo : ∀ (P P' : Nat → Nat → Nat) (M A : Nat → Int → Int), K P M → FrP M A → P' 16 11 = P 16 11 → A 16 14 = -1 → A 16 15 = -1 → K P' A) (hKf : ∀ (P P' : Nat → Nat → Nat) (M A : Nat → Int → Int), K P M → FrT M A → FrP M A → P' 16 11 = P 16 11 → K P' A) (hm : m ≤ 512) : pr_7 (d + 20) (fun P M => IB L0 xs m P M ∧ K P M) (fun P M => IB L0 xs (m + 1) P M ∧ K P M) := by
  intro P M a0 hI r0 Q1 h1
  obtain ⟨hB, hK⟩ := hI
  rcases hB.2.2.2.2.2.2 with ⟨p1, p2, p3⟩ | ⟨p1, p2, p3⟩
  · exact pair_7_33 hKo hKf hm hB hK p1 p3 h1
  · exact pair_7_62 hKo hKf hm hB hK p1 p3 h1
end
