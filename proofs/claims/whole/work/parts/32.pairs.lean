/-! Pairs: feed; what a run of the reference changes -/
theorem tape4 {t b : Int → Int} {n a : Int} (h : ∀ i : Int, 0 ≤ i → i < n → t i = b i % 256 ∧ -128 ≤ b i ∧ b i < 128) : ∀ i : Int, 0 ≤ i → i < n + 4 → fd4 t n a i = fb4 b n a i % 256 ∧ -128 ≤ fb4 b n a i ∧ fb4 b n a i < 128 := by
  intro i i0 i1
  have w : ∀ x : Int, x % 256 = w8 x % 256 ∧ -128 ≤ w8 x ∧ w8 x < 128 := fun x => by unfold w8; omega
  unfold fd4 fb4
  by_cases e3 : i = n + 3
  · rw [zs_pos e3, zs_pos e3]; exact w a
  · rw [zs_neg e3, zs_neg e3]
    by_cases e2 : i = n + 2
    · rw [zs_pos e2, zs_pos e2]; exact w _
    · rw [zs_neg e2, zs_neg e2]
      by_cases e1 : i = n + 1
      · rw [zs_pos e1, zs_pos e1]; exact w _
      · rw [zs_neg e1, zs_neg e1]
        by_cases e0 : i = n
        · rw [zs_pos e0, zs_pos e0]; exact w _
        · rw [zs_neg e0, zs_neg e0]; exact h i i0 (by omega)
theorem tape20 {t b : Int → Int} {n a0 a1 a2 a3 a4 : Int} (h : ∀ i : Int, 0 ≤ i → i < n → t i = b i % 256 ∧ -128 ≤ b i ∧ b i < 128) : ∀ i : Int, 0 ≤ i → i < n + 20 → (fd4 (fd4 (fd4 (fd4 (fd4 t n a0) (n + 4) a1) (n + 8) a2) (n + 12) a3) (n + 16) a4) i = (fb4 (fb4 (fb4 (fb4 (fb4 b n a0) (n + 4) a1) (n + 8) a2) (n + 12) a3) (n + 16) a4) i % 256 ∧ -128 ≤ (fb4 (fb4 (fb4 (fb4 (fb4 b n a0) (n + 4) a1) (n + 8) a2) (n + 12) a3) (n + 16) a4) i ∧ (fb4 (fb4 (fb4 (fb4 (fb4 b n a0) (n + 4) a1) (n + 8) a2) (n + 12) a3) (n + 16) a4) i < 128 := by
  have h1 := tape4 (a := a0) h
  have h2 := tape4 (n := n + 4) (a := a1) h1
  have h3 := tape4 (n := n + 8) (a := a2) (fun i p q => h2 i p (by omega))
  have h4 := tape4 (n := n + 12) (a := a3) (fun i p q => h3 i p (by omega))
  have h5 := tape4 (n := n + 16) (a := a4) (fun i p q => h4 i p (by omega))
  exact fun i p q => h5 i p (by omega)
section
variable {K : (Nat → Nat → Nat) → (Nat → Int → Int) → Prop} {L0 : Nat} {xs : Nat → Int32} {m d : Nat}
theorem pair_0 (hKf : ∀ (P P' : Nat → Nat → Nat) (M A : Nat → Int → Int), K P M → FrT M A → FrP M A → P' 16 11 = P 16 11 → K P' A) : pr_0 (d + 20) (fun P M => IB L0 xs m P M ∧ K P M) (fun P M => IB L0 xs (m + 1) P M ∧ K P M) := by
  intro P M a0 a1 a2 a3 a4 hI r0 r1 r2 r3 r4 Q1 h1
  obtain ⟨⟨c1, c2, c3, c4, c5, c6, c7⟩, hK⟩ := hI
  obtain ⟨⟨t1, t2, t3⟩, t4⟩ := id c2
  have hm : 0 ≤ M 467 1 ∧ M 467 1 ≤ 480 := by omega
  refine feed_c a0 a1 a2 a3 a4 r0 r1 r2 r3 r4 ⟨t1, t2⟩ (fun q => ?_) (fun q => ?_)
  · exact h1 P M _ rfl (fun Q2 h2 => feed_m a0 a1 a2 a3 a4 r0 r1 r2 r3 r4 hm (fun _ => h2 P M rfl ⟨⟨c1, c2, c3, c4, c5, iprof_up c6, c7⟩, hK⟩) (fun q' => absurd (show M 467 1 ≤ 460 from q') (by omega)))
  · refine h1 P _ _ rfl (fun Q2 h2 => feed_m a0 a1 a2 a3 a4 r0 r1 r2 r3 r4 hm (fun q' => absurd (show M 467 1 > 460 from q') (by omega)) (fun _ => eqR (show M 467 1 + 20 = M 16 13 + 20 by omega) (h2 P _ rfl ⟨⟨icon_up (by decide) (icon_row (by decide) (icon_up (by decide) (icon_row (by decide) c1))), ⟨⟨?_, ?_, ?_⟩, ?_⟩, c3, c4, c5, iprof_up c6, iptr_fr (frP_up rfl (by decide) (frP_row rfl (by decide) (frP_up rfl (by decide) (frP_row rfl (by decide) frP_refl)))) rfl rfl c7⟩, hKf P P M _ hK (frT_up rfl (by decide) (frT_row rfl (by decide) (frT_up rfl (by decide) (frT_row rfl (by decide) frT_refl)))) (frP_up rfl (by decide) (frP_row rfl (by decide) (frP_up rfl (by decide) (frP_row rfl (by decide) frP_refl)))) rfl⟩)))
    · show 0 ≤ M 16 13 + 20; omega
    · show M 16 13 + 20 ≤ 480; omega
    · show M 467 1 + 20 = M 16 13 + 20; omega
    · intro i i0 i1
      have i1 : i < M 16 13 + 20 := i1
      have q := tape20 (a0 := a0) (a1 := a1) (a2 := a2) (a3 := a3) (a4 := a4) t4 i i0 i1
      show (fd4 (fd4 (fd4 (fd4 (fd4 (M 17) (M 16 13) a0) (M 16 13 + 4) a1) (M 16 13 + 8) a2) (M 16 13 + 12) a3) (M 16 13 + 16) a4) i = (fb4 (fb4 (fb4 (fb4 (fb4 (M 468) (M 467 1) a0) (M 467 1 + 4) a1) (M 467 1 + 8) a2) (M 467 1 + 12) a3) (M 467 1 + 16) a4) i % 256 ∧ -128 ≤ (fb4 (fb4 (fb4 (fb4 (fb4 (M 468) (M 467 1) a0) (M 467 1 + 4) a1) (M 467 1 + 8) a2) (M 467 1 + 12) a3) (M 467 1 + 16) a4) i ∧ (fb4 (fb4 (fb4 (fb4 (fb4 (M 468) (M 467 1) a0) (M 467 1 + 4) a1) (M 467 1 + 8) a2) (M 467 1 + 12) a3) (M 467 1 + 16) a4) i < 128
      rw [t3]; exact q
end
/-- cells of the reference's runs -/
def rCell (c : Nat) : Bool := c == 467 || (509 ≤ c && c ≤ 520)
def FrR (M A : Nat → Int → Int) : Prop := (∀ c : Nat, rCell c = false → A c = M c) ∧ ∀ k : Int, ¬ (67 ≤ k ∧ k ≤ 74) → A 467 k = M 467 k
theorem frR_refl {M : Nat → Int → Int} : FrR M M := ⟨fun _ _ => rfl, fun _ _ => rfl⟩
theorem frR_row {M A : Nat → Int → Int} {c : Nat} {r : Int → Int} (h : rCell c = true) (h' : ¬ c = 467) (f : FrR M A) : FrR M (zrow A c r) := by
  refine ⟨fun c' q => ?_, fun k q => ?_⟩
  · rw [← f.1 c' q]; funext k; unfold zrow; rw [if_neg (fun z => by rw [z, h] at q; exact absurd q (by decide))]
  · rw [← f.2 k q]; unfold zrow; rw [if_neg (fun z => h' z.symm)]
theorem frR_up {M A : Nat → Int → Int} {k v : Int} (h : 67 ≤ k ∧ k ≤ 74) (f : FrR M A) : FrR M (zup A 467 k v) := by
  refine ⟨fun c' q => ?_, fun k' q => ?_⟩
  · rw [← f.1 c' q]; funext k'; unfold zup; rw [if_neg (fun z => by rw [z.1] at q; exact absurd q (by decide))]
  · rw [← f.2 k' q]; unfold zup; rw [if_neg (fun z => by omega)]
theorem frR_ite {M x y : Nat → Int → Int} {p : Prop} [Decidable p] (h1 : FrR M x) (h2 : FrR M y) : FrR M (if p then x else y) := by
  split
  · exact h1
  · exact h2
theorem frR_leaves {M A : Nat → Int → Int} {v : Int} (f : FrR M A) : FrR M (leaves_f A v) := by
  unfold leaves_f
  repeat' first | apply frR_ite | apply frR_up (by decide) | apply frR_row rfl (by decide) | exact f
theorem frR_goes {M A : Nat → Int → Int} {l : Int} (f : FrR M A) : FrR M (goesInto_f A l) := by
  unfold goesInto_f
  repeat' first | apply frR_ite | apply frR_up (by decide) | apply frR_row rfl (by decide) | exact f
theorem frR_does {M A : Nat → Int → Int} {l : Int} (f : FrR M A) : FrR M (does_f A l) := by
  unfold does_f
  repeat' first | apply frR_ite | apply frR_up (by decide) | apply frR_row rfl (by decide) | exact f | exact frR_goes f | exact frR_leaves f
theorem frR_step {M A : Nat → Int → Int} (f : FrR M A) : FrR M (astep A) := by
  unfold astep
  repeat' first | apply frR_ite | apply frR_up (by decide) | apply frR_row rfl (by decide) | exact f | exact frR_leaves f | (apply frR_does; exact frR_up (by decide) f)
theorem frR_runs {M : Nat → Int → Int} : ∀ (n : Nat) (σ τ : Nat → Int → Int), xRuns n σ τ → FrR M σ → FrR M τ := by
  intro n
  induction n with
  | zero => intro σ τ h f; exact h.1 ▸ f
  | succ n ih => intro σ τ h f; exact ih _ _ h.2.2 (frR_step f)
theorem frR_init {M : Nat → Int → Int} (x1 x2 x3 x4 : Int) : FrR M (xinit M x1 x2 x3 x4) := by
  unfold xinit
  repeat' first | apply frR_up (by decide) | apply frR_row rfl (by decide) | exact frR_refl
theorem xinit_mix (A σ : Nat → Int → Int) (x1 x2 x3 x4 : Int) : xinit (mix A σ) x1 x2 x3 x4 = mix A (xinit σ x1 x2 x3 x4) := by
  unfold xinit
  rw [mix_cell A σ (c := 505) (by decide), mix_cell A σ (c := 509) (by decide), mix_cell A σ (c := 510) (by decide), mix_cell A σ (c := 511) (by decide), mix_cell A σ (c := 512) (by decide), mix_cell A σ (c := 513) (by decide), mix_cell A σ (c := 514) (by decide), mix_cell A σ (c := 515) (by decide), mix_cell A σ (c := 516) (by decide)]
  simp only [zrow_mix A _ (c := 509) (by decide), zrow_mix A _ (c := 510) (by decide), zrow_mix A _ (c := 511) (by decide), zrow_mix A _ (c := 512) (by decide), zrow_mix A _ (c := 513) (by decide), zrow_mix A _ (c := 514) (by decide), zrow_mix A _ (c := 515) (by decide), zrow_mix A _ (c := 516) (by decide), zup_mix A _ (c := 467) (by decide)]
