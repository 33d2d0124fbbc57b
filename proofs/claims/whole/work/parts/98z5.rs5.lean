/-! Both readers together: rs5 -/
/-! What the class's reader leaves as it was -/
def frC (p : Nat) (F S g : Int) (M M' : Nat → Int → Int) : Prop :=
  (∀ c : Nat, ¬ (p ≤ c ∧ c ≤ p + 28) → ¬ (91 ≤ c ∧ c ≤ 100) → M' c = M c) ∧ (M' 91 3 = M 91 3 ∧ M' 92 = M 92 ∧ M' 93 = M 93 ∧ M' 94 = M 94 ∧ M' 91 6 = M 91 6) ∧
  (∀ (c : Nat) (l : Int), p + 16 ≤ c → c ≤ p + 27 → ¬ c = p + 25 → ¬ c = p + 26 → l < F → M' c l = M c l) ∧
  (∀ (c : Nat) (x : Int), (p + 11 ≤ c ∧ c ≤ p + 14) ∨ (96 ≤ c ∧ c ≤ 98) → x < S → M' c x = M c x) ∧
  ∀ (c : Nat) (h : Int), p + 1 ≤ c → c ≤ p + 10 → (c = p + 9 → ¬ h = g) → M' c h = M c h
section
variable {p : Nat} {F S g : Int} {M M' M'' : Nat → Int → Int}
theorem frC_refl : frC p F S g M M := ⟨fun _ _ _ => rfl, ⟨rfl, rfl, rfl, rfl, rfl⟩, fun _ _ _ _ _ _ _ => rfl, fun _ _ _ _ => rfl, fun _ _ _ _ _ => rfl⟩
theorem frC_tr (h : frC p F S g M M') (k : frC p F S g M' M'') : frC p F S g M M'' := ⟨fun c a d => (k.1 c a d).trans (h.1 c a d), ⟨k.2.1.1.trans h.2.1.1, k.2.1.2.1.trans h.2.1.2.1, k.2.1.2.2.1.trans h.2.1.2.2.1, k.2.1.2.2.2.1.trans h.2.1.2.2.2.1, k.2.1.2.2.2.2.trans h.2.1.2.2.2.2⟩, fun c l a b d e f => (k.2.2.1 c l a b d e f).trans (h.2.2.1 c l a b d e f), fun c x a b => (k.2.2.2.1 c x a b).trans (h.2.2.2.1 c x a b), fun c y a b d => (k.2.2.2.2 c y a b d).trans (h.2.2.2.2 c y a b d)⟩
theorem frC_wk {F' S' : Int} (h : frC p F S g M M') (hF : F' ≤ F) (hS : S' ≤ S) : frC p F' S' g M M' := ⟨h.1, h.2.1, fun c l a b d e f => h.2.2.1 c l a b d e (by omega), fun c x a b => h.2.2.2.1 c x a (by omega), h.2.2.2.2⟩
theorem frC_row {c : Nat} {r : Int → Int} (hp : p + 28 < 91) (hc : (p ≤ c ∧ c ≤ p + 28) ∨ (95 ≤ c ∧ c ≤ 100)) (h1 : p + 16 ≤ c → c ≤ p + 27 → ¬ c = p + 25 → ¬ c = p + 26 → ∀ j : Int, j < F → r j = M' c j) (h2 : (p + 11 ≤ c ∧ c ≤ p + 14) ∨ (96 ≤ c ∧ c ≤ 98) → ∀ j : Int, j < S → r j = M' c j) (h3 : p + 1 ≤ c → c ≤ p + 10 → ∀ j : Int, (c = p + 9 → ¬ j = g) → r j = M' c j) (h : frC p F S g M M') : frC p F S g M (zrow M' c r) := by
  have key : ∀ (x : Nat) (j : Int), (x = c → r j = M' c j) → zrow M' c r x j = M' x j := fun x j w => by
    unfold zrow
    split
    · rename_i e; rw [e]; exact w e
    · rfl
  have ne : ∀ x : Nat, ¬ x = c → zrow M' c r x = M' x := fun x w => by
    funext j; exact key x j (fun e => absurd e w)
  exact frC_tr h ⟨fun x a b => ne x (by omega), ⟨key _ _ (fun e => by omega), ne _ (by omega), ne _ (by omega), ne _ (by omega), key _ _ (fun e => by omega)⟩, fun x l a b d e f => key _ _ (fun q => h1 (by omega) (by omega) (by omega) (by omega) l f), fun x y a b => key _ _ (fun q => h2 (by omega) y b), fun x y a b d => key _ _ (fun q => h3 (by omega) (by omega) y (fun e => d (by omega)))⟩
theorem frC_up {c : Nat} {k v : Int} (hp : p + 28 < 91) (hc : (c = 91 ∧ ¬ k = 3 ∧ ¬ k = 6) ∨ c = p ∨ c = p + 15) (h : frC p F S g M M') : frC p F S g M (zup M' c k v) := by
  have key : ∀ (x : Nat) (j : Int), ¬ (x = c ∧ j = k) → zup M' c k v x j = M' x j := fun x j w => if_neg w
  have ne : ∀ x : Nat, ¬ x = c → zup M' c k v x = M' x := fun x w => by
    funext j; exact key x j (fun e => w e.1)
  exact frC_tr h ⟨fun x a b => ne x (by omega), ⟨key _ _ (fun e => by omega), ne _ (by omega), ne _ (by omega), ne _ (by omega), key _ _ (fun e => by omega)⟩, fun x l a b d e f => key _ _ (fun q => by omega), fun x y a b => key _ _ (fun q => by omega), fun x y a b d => key _ _ (fun q => by omega)⟩
theorem frC_free {c : Nat} {r : Int → Int} (hp : p + 28 < 91) (hc : c = p + 25 ∨ c = p + 26 ∨ c = p + 28 ∨ c = 95 ∨ c = 99 ∨ c = 100) (h : frC p F S g M M') : frC p F S g M (zrow M' c r) := frC_row hp (by omega) (fun a b d e => by omega) (fun a => by omega) (fun a b => by omega) h
theorem frC_ln {c : Nat} {r : Int → Int} (hp : p + 28 < 91) (hc : p + 16 ≤ c ∧ c ≤ p + 27) (hr : ∀ j : Int, j < F → r j = M' c j) (h : frC p F S g M M') : frC p F S g M (zrow M' c r) := frC_row hp (by omega) (fun a b d e => hr) (fun a => by omega) (fun a b => by omega) h
theorem frC_st {c : Nat} {r : Int → Int} (hp : p + 28 < 91) (hc : (p + 11 ≤ c ∧ c ≤ p + 14) ∨ (96 ≤ c ∧ c ≤ 98)) (hr : ∀ j : Int, j < S → r j = M' c j) (h : frC p F S g M M') : frC p F S g M (zrow M' c r) := frC_row hp (by omega) (fun a b d e => by omega) (fun a => hr) (fun a b => by omega) h
theorem frC_fn {c : Nat} {r : Int → Int} (hp : p + 28 < 91) (hc : c = p + 9) (hr : ∀ j : Int, ¬ j = g → r j = M' c j) (h : frC p F S g M M') : frC p F S g M (zrow M' c r) := frC_row hp (by omega) (fun a b d e => by omega) (fun a => by omega) (fun a b j w => hr j (w hc)) h
end
/-- the class's memory but for the program that is read and the reader -/
def frO (p : Nat) (M M' : Nat → Int → Int) : Prop := ∀ c : Nat, ¬ (p ≤ c ∧ c ≤ p + 28) → ¬ (91 ≤ c ∧ c ≤ 100) → M' c = M c
theorem frO_refl {p : Nat} {M : Nat → Int → Int} : frO p M M := fun _ _ _ => rfl
theorem frO_tr {p : Nat} {M M' M'' : Nat → Int → Int} (h : frO p M M') (k : frO p M' M'') : frO p M M'' := fun c a d => (k c a d).trans (h c a d)
theorem frO_row {p c : Nat} {M M' : Nat → Int → Int} {r : Int → Int} (hc : (p ≤ c ∧ c ≤ p + 28) ∨ (91 ≤ c ∧ c ≤ 100)) (h : frO p M M') : frO p M (zrow M' c r) := fun x a d => by
  rw [← h x a d]; funext k; exact if_neg (by omega)
theorem frO_up {p c : Nat} {M M' : Nat → Int → Int} {k v : Int} (hc : (p ≤ c ∧ c ≤ p + 28) ∨ (91 ≤ c ∧ c ≤ 100)) (h : frO p M M') : frO p M (zup M' c k v) := fun x a d => by
  rw [← h x a d]; funext j; exact if_neg (by omega)
