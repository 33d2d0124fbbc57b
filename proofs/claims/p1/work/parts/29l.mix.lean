/-! The reference's run doesn't see the class's cells -/
def mix (A σ : Nat → Int → Int) : Nat → Int → Int := fun c k => if c < 467 then A c k else σ c k
theorem mix_cell (A σ : Nat → Int → Int) {c : Nat} (h : ¬ c < 467) : mix A σ c = σ c := by
  funext k; exact if_neg h
theorem zup_mix (A σ : Nat → Int → Int) {c : Nat} {k v : Int} (h : ¬ c < 467) : zup (mix A σ) c k v = mix A (zup σ c k v) := by
  funext a b; unfold zup mix; grind
theorem zrow_mix (A σ : Nat → Int → Int) {c : Nat} {r : Int → Int} (h : ¬ c < 467) : zrow (mix A σ) c r = mix A (zrow σ c r) := by
  funext a b; unfold zrow mix; grind
theorem ite_mix (A : Nat → Int → Int) {p : Prop} [Decidable p] (x y : Nat → Int → Int) : (if p then mix A x else mix A y) = mix A (if p then x else y) := by split <;> rfl
theorem leaves_mix (A σ : Nat → Int → Int) (v : Int) : leaves_f (mix A σ) v = mix A (leaves_f σ v) := by
  unfold leaves_f
  rw [mix_cell A σ (c := 467) (by decide), mix_cell A σ (c := 513) (by decide), mix_cell A σ (c := 514) (by decide), mix_cell A σ (c := 515) (by decide), mix_cell A σ (c := 516) (by decide), mix_cell A σ (c := 481) (by decide)]
  simp only [zrow_mix A _ (c := 516) (by decide), zup_mix A _ (c := 467) (by decide), ite_mix]
theorem goesInto_mix (A σ : Nat → Int → Int) (l : Int) : goesInto_f (mix A σ) l = mix A (goesInto_f σ l) := by
  unfold goesInto_f
  rw [mix_cell A σ (c := 467) (by decide), mix_cell A σ (c := 480) (by decide), mix_cell A σ (c := 482) (by decide), mix_cell A σ (c := 488) (by decide), mix_cell A σ (c := 489) (by decide), mix_cell A σ (c := 511) (by decide), mix_cell A σ (c := 513) (by decide), mix_cell A σ (c := 516) (by decide), mix_cell A σ (c := 517) (by decide), mix_cell A σ (c := 518) (by decide), mix_cell A σ (c := 519) (by decide), mix_cell A σ (c := 520) (by decide)]
  simp only [zrow_mix A _ (c := 511) (by decide), zrow_mix A _ (c := 517) (by decide), zrow_mix A _ (c := 518) (by decide), zrow_mix A _ (c := 519) (by decide), zrow_mix A _ (c := 520) (by decide), zup_mix A _ (c := 467) (by decide), ite_mix]
theorem does_mix (A σ : Nat → Int → Int) (l : Int) : does_f (mix A σ) l = mix A (does_f σ l) := by
  unfold does_f
  rw [goesInto_mix, leaves_mix, mix_cell A σ (c := 467) (by decide), mix_cell A σ (c := 473) (by decide), mix_cell A σ (c := 474) (by decide), mix_cell A σ (c := 475) (by decide), mix_cell A σ (c := 476) (by decide), mix_cell A σ (c := 480) (by decide), mix_cell A σ (c := 481) (by decide), mix_cell A σ (c := 482) (by decide), mix_cell A σ (c := 483) (by decide), mix_cell A σ (c := 484) (by decide), mix_cell A σ (c := 485) (by decide), mix_cell A σ (c := 486) (by decide), mix_cell A σ (c := 506) (by decide), mix_cell A σ (c := 509) (by decide), mix_cell A σ (c := 510) (by decide), mix_cell A σ (c := 511) (by decide), mix_cell A σ (c := 512) (by decide), mix_cell A σ (c := 513) (by decide), mix_cell A σ (c := 514) (by decide), mix_cell A σ (c := 515) (by decide), mix_cell A σ (c := 516) (by decide)]
  simp only [zrow_mix A _ (c := 509) (by decide), zrow_mix A _ (c := 510) (by decide), zrow_mix A _ (c := 511) (by decide), zrow_mix A _ (c := 512) (by decide), zrow_mix A _ (c := 513) (by decide), zrow_mix A _ (c := 514) (by decide), zrow_mix A _ (c := 515) (by decide), zrow_mix A _ (c := 516) (by decide), zup_mix A _ (c := 467) (by decide), ite_mix]
theorem astep_mix (A σ : Nat → Int → Int) : astep (mix A σ) = mix A (astep σ) := by
  unfold astep
  rw [mix_cell A σ (c := 467) (by decide), mix_cell A σ (c := 511) (by decide), mix_cell A σ (c := 512) (by decide), mix_cell A σ (c := 515) (by decide), mix_cell A σ (c := 517) (by decide), mix_cell A σ (c := 518) (by decide), mix_cell A σ (c := 519) (by decide), mix_cell A σ (c := 520) (by decide)]
  simp only [zrow_mix A _ (c := 511) (by decide), zrow_mix A _ (c := 518) (by decide), zup_mix A _ (c := 467) (by decide), does_mix, leaves_mix, ite_mix]
theorem xRuns_mix (A : Nat → Int → Int) : ∀ (n : Nat) (σ τ : Nat → Int → Int), xRuns n σ τ → xRuns n (mix A σ) (mix A τ) := by
  intro n
  induction n with
  | zero => intro σ τ h; exact ⟨congrArg (mix A) h.1, h.2⟩
  | succ n ih =>
    intro σ τ h
    refine ⟨h.1, h.2.1, ?_⟩
    rw [astep_mix]
    exact ih _ _ h.2.2
