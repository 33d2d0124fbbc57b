/-! What else the program is, alike on both sides: names, sites, lines in their blocks -/
def nl : Nat → Int → Int
  | 0, _ => 0
  | n + 1, w => if 0 < w then nl n (w / 32) + 1 else 0
/-- how many letters a name has -/
def nlet (w : Int) : Int := nl 7 w
/-- how many of a kind stand around a line -/
def hma (kd ar : Int → Int) (w : Int) : Nat → Int → Int
  | 0, _ => 0
  | n + 1, l => (if kd (ar l) = w then 1 else 0) + hma kd ar w n (ar l)
/-- lines from a up to b, in their blocks, by level and branch -/
def ySeg (L : Nat → Int → Int) (ok : Int → Int → Int → Prop) : Nat → Int → Int → Int → Int → Prop
  | 0, _, _, a, b => a = b
  | n + 1, lv, br, a, b => a = b ∨ (a < b ∧ ok lv br a ∧ ySeg L ok n (lv + 1) 0 (a + 1) (a + 1 + L 488 a) ∧ ySeg L ok n (lv + 1) 1 (a + 1 + L 488 a) (a + 1 + L 488 a + L 489 a) ∧ ySeg L ok n lv br (a + 1 + L 488 a + L 489 a) b)
theorem ySeg_congr {L L' : Nat → Int → Int} {ok ok' : Int → Int → Int → Prop} (h1 : L' 488 = L 488) (h2 : L' 489 = L 489) (h : ∀ lv br a : Int, ok lv br a → ok' lv br a) : ∀ (n : Nat) (lv br a b : Int), ySeg L ok n lv br a b → ySeg L' ok' n lv br a b := by
  intro n
  induction n with
  | zero => intro lv br a b q; exact q
  | succ n ih =>
    intro lv br a b q
    rcases q with q | ⟨q1, q2, q3, q4, q5⟩
    · exact Or.inl q
    · refine Or.inr ⟨q1, h _ _ _ q2, ?_⟩
      rw [h1, h2]
      exact ⟨ih _ _ _ _ q3, ih _ _ _ _ q4, ih _ _ _ _ q5⟩
def yok (p : Nat) (M : Nat → Int → Int) (SN : Int → Int) (g E lv br a : Int) : Prop :=
  (M (p + 22) (a - 60 * M 467 11) = lv ∧ M 487 a = lv ∧ (0 < lv → M (p + 23) (a - 60 * M 467 11) = br)) ∧
  (M (p + 24) (a - 60 * M 467 11) = M 491 a ∧ (M 491 a = 0 ∨ M 491 a = 1) ∧ (M 491 a = 1 → M 480 a = 7) ∧ (M 491 a = 0 → M 489 a = 0)) ∧
  (M 480 a = 9 → lv = 0 ∧ a + 1 = E ∧ M 479 (8 * M 467 11 + g) = 1) ∧
  (M 480 a = 6 → M 486 a = SN a ∧ SN (a + 1) = SN a + 1) ∧
  (¬ M 480 a = 6 → M 485 a = -2 ∧ M 486 a = -2 ∧ SN (a + 1) = SN a) ∧
  ((-2 ≤ M 481 a ∧ M 481 a ≤ 8) ∧ (7 ≤ M 480 a → M 481 a = -2) ∧ (-20 ≤ M 482 a ∧ M 482 a ≤ 999) ∧ (-20 ≤ M 483 a ∧ M 483 a ≤ 999) ∧ -20 ≤ M 484 a ∧ M 484 a ≤ 999)
/-- what a function gives, as its last line says -/
def ygiv (M : Nat → Int → Int) (g : Int) : Int := if M 479 (8 * M 467 11 + g) = 0 then -2 else M 482 (60 * M 467 11 + M 475 (8 * M 467 11 + g) + M 476 (8 * M 467 11 + g) - 1)
def yfun (p : Nat) (M : Nat → Int → Int) (g : Int) : Prop :=
  (0 < M 472 (8 * M 467 11 + g) ∧ M 472 (8 * M 467 11 + g) < 1073741824) ∧
  (M 479 (8 * M 467 11 + g) = 1 → 0 < M 476 (8 * M 467 11 + g) ∧ M 480 (60 * M 467 11 + M 475 (8 * M 467 11 + g) + M 476 (8 * M 467 11 + g) - 1) = 9 ∧ ¬ M 482 (60 * M 467 11 + M 475 (8 * M 467 11 + g) + M 476 (8 * M 467 11 + g) - 1) = -2) ∧
  ∃ SN : Int → Int, SN (60 * M 467 11 + M 475 (8 * M 467 11 + g)) = M 477 (8 * M 467 11 + g) ∧ SN (60 * M 467 11 + M 475 (8 * M 467 11 + g) + M 476 (8 * M 467 11 + g)) = M 477 (8 * M 467 11 + g) + M 478 (8 * M 467 11 + g) ∧ ∃ n : Nat, ySeg M (yok p M SN g (60 * M 467 11 + M 475 (8 * M 467 11 + g) + M 476 (8 * M 467 11 + g))) n 0 0 (60 * M 467 11 + M 475 (8 * M 467 11 + g)) (60 * M 467 11 + M 475 (8 * M 467 11 + g) + M 476 (8 * M 467 11 + g))
def ysite (p : Nat) (M : Nat → Int → Int) (s : Int) : Prop :=
  (M (p + 13) s = M 492 (16 * M 467 11 + s) - 60 * M 467 11 ∧ 0 ≤ M (p + 13) s ∧ M (p + 13) s < M 470 (M 467 11)) ∧
  (M 493 (16 * M 467 11 + s) = hma (M (p + 16)) (M (p + 27)) 8 (M (p + 22) (M (p + 13) s)).toNat (M (p + 13) s) ∧ M 494 (16 * M 467 11 + s) = hma (M (p + 16)) (M (p + 27)) 7 (M (p + 22) (M (p + 13) s)).toNat (M (p + 13) s)) ∧
  ∀ g : Int, 0 ≤ g → g < M 469 (M 467 11) → (M 498 (16 * M 467 11 + s) = g ↔ (M 477 (8 * M 467 11 + g) ≤ s ∧ s < M 477 (8 * M 467 11 + g) + M 478 (8 * M 467 11 + g)))
def ipy (p : Nat) (M : Nat → Int → Int) : Prop :=
  (∀ f : Int, 0 ≤ f → f < M 469 (M 467 11) → M (p + 1) f = M 472 (8 * M 467 11 + M 503 f) ∧ M (p + 2) f = nlet (M 472 (8 * M 467 11 + M 503 f)) ∧ M (p + 9) f = ygiv M (M 503 f)) ∧
  (∀ g : Int, 0 ≤ g → g < M 469 (M 467 11) → yfun p M g) ∧
  (∀ s : Int, 0 ≤ s → s < M 471 (M 467 11) → ((0 ≤ M (p + 11) s ∧ M (p + 11) s < M 469 (M 467 11)) ∧ M 503 (M (p + 11) s) = M 498 (16 * M 467 11 + s)) ∧ ysite p M s) ∧
  (∀ l : Int, 0 ≤ l → l < M 470 (M 467 11) → (0 ≤ M (p + 22) l ∧ M (p + 22) l ≤ 4) ∧ (0 < M (p + 22) l → 0 ≤ M (p + 27) l ∧ M (p + 27) l < l ∧ M (p + 22) (M (p + 27) l) = M (p + 22) l - 1))
theorem yfun_eq_33 {M A : Nat → Int → Int} {g : Int} (e : A 467 11 = M 467 11) (E : ∀ c : Nat, sCell 33 c = true → A c = M c) (h : yfun 33 M g) : yfun 33 A g := by
  obtain ⟨h1, h2, SN, h3, h4, n, h5⟩ := h
  unfold yfun
  rw [e, E 472 rfl, E 475 rfl, E 476 rfl, E 477 rfl, E 478 rfl, E 479 rfl, E 480 rfl, E 482 rfl]
  refine ⟨h1, h2, SN, h3, h4, n, ySeg_congr (E 488 rfl) (E 489 rfl) (fun lv br a q => ?_) _ _ _ _ _ h5⟩
  unfold yok at q ⊢
  rw [e, E (33 + 22) rfl, E (33 + 23) rfl, E (33 + 24) rfl, E 479 rfl, E 480 rfl, E 481 rfl, E 482 rfl, E 483 rfl, E 484 rfl, E 485 rfl, E 486 rfl, E 487 rfl, E 489 rfl, E 491 rfl]
  exact q
theorem ysite_eq_33 {M A : Nat → Int → Int} {s : Int} (e : A 467 11 = M 467 11) (E : ∀ c : Nat, sCell 33 c = true → A c = M c) (h : ysite 33 M s) : ysite 33 A s := by
  unfold ysite at h ⊢
  rw [e, E (33 + 13) rfl, E (33 + 16) rfl, E (33 + 22) rfl, E (33 + 27) rfl, E 469 rfl, E 470 rfl, E 477 rfl, E 478 rfl, E 492 rfl, E 493 rfl, E 494 rfl, E 498 rfl]
  exact h
theorem ipy_fr33 {M A : Nat → Int → Int} (f : FrP M A) (h : ipy 33 M) : ipy 33 A := by
  have G := fun (c : Nat) (q : gCell c = true) => f.2 c q
  have E : ∀ c : Nat, sCell 33 c = true → A c = M c := fun c q => f.2 c (by unfold sCell at q; unfold gCell; simp at q ⊢; omega)
  obtain ⟨h1, h2, h3, h4⟩ := h
  unfold ipy
  have yg : ∀ g : Int, ygiv A g = ygiv M g := fun g => by unfold ygiv; rw [f.1, G 475 rfl, G 476 rfl, G 479 rfl, G 482 rfl]
  rw [f.1, G 469 rfl, G 470 rfl, G 471 rfl, G 472 rfl, G 498 rfl, G 503 rfl, G (33 + 1) rfl, G (33 + 2) rfl, G (33 + 9) rfl, G (33 + 11) rfl, G (33 + 22) rfl, G (33 + 27) rfl]
  exact ⟨fun x a b => by rw [yg]; exact h1 x a b, fun g a b => yfun_eq_33 f.1 E (h2 g a b), fun s a b => ⟨(h3 s a b).1, ysite_eq_33 f.1 E (h3 s a b).2⟩, h4⟩
theorem ipy_sw_33 {M A : Nat → Int → Int} {a0 a1 : Int} (hS : M 33 1 = M 471 (M 467 11)) (ha : 0 ≤ a0 ∧ a0 < M 469 (M 467 11)) (hb : 0 ≤ a1 ∧ a1 < M 469 (M 467 11)) (h : ipy 33 M) (s : swR 33 M A a0 a1) : ipy 33 A := by
  obtain ⟨s1, s2, s3, s4, s5, s6, s7, s8, s9, s10, ⟨s11, s12⟩, ⟨s13, s14⟩, E⟩ := s
  obtain ⟨h1, h2, h3, h4⟩ := h
  have e : A 467 11 = M 467 11 := by rw [s14]
  have yg : ∀ g : Int, ygiv A g = ygiv M g := fun g => by unfold ygiv; rw [e, E 475 rfl, E 476 rfl, E 479 rfl, E 482 rfl]
  unfold ipy
  rw [e, E 469 rfl, E 470 rfl, E 471 rfl, E 472 rfl, E 498 rfl, s13, s1, s2, s9, s11, E (33 + 22) rfl, E (33 + 27) rfl]
  refine ⟨fun f f0 f1 => ?_, fun g a b => yfun_eq_33 e E (h2 g a b), fun s a b => ⟨?_, ysite_eq_33 e E (h3 s a b).2⟩, h4⟩
  · rw [yg]
    exact ⟨zx_comp (F := fun z => M 472 (8 * M 467 11 + z)) ha hb (fun k k0 k1 => (h1 k k0 k1).1) f f0 f1, zx_comp (F := fun z => nlet (M 472 (8 * M 467 11 + z))) ha hb (fun k k0 k1 => (h1 k k0 k1).2.1) f f0 f1, zx_comp (F := fun z => ygiv M z) ha hb (fun k k0 k1 => (h1 k k0 k1).2.2) f f0 f1⟩
  · obtain ⟨⟨q1, q2⟩, q3⟩ := (h3 s a b).1
    have x : xchr (M (33 + 11)) a0 a1 (M 33 1) s = xch (M (33 + 11) s) a0 a1 := if_pos ⟨a, by rw [hS]; exact b⟩
    rw [x, zx_xch]
    refine ⟨?_, q3⟩
    unfold xch
    split
    · exact hb
    · split
      · exact ha
      · exact ⟨q1, q2⟩
theorem yfun_eq_62 {M A : Nat → Int → Int} {g : Int} (e : A 467 11 = M 467 11) (E : ∀ c : Nat, sCell 62 c = true → A c = M c) (h : yfun 62 M g) : yfun 62 A g := by
  obtain ⟨h1, h2, SN, h3, h4, n, h5⟩ := h
  unfold yfun
  rw [e, E 472 rfl, E 475 rfl, E 476 rfl, E 477 rfl, E 478 rfl, E 479 rfl, E 480 rfl, E 482 rfl]
  refine ⟨h1, h2, SN, h3, h4, n, ySeg_congr (E 488 rfl) (E 489 rfl) (fun lv br a q => ?_) _ _ _ _ _ h5⟩
  unfold yok at q ⊢
  rw [e, E (62 + 22) rfl, E (62 + 23) rfl, E (62 + 24) rfl, E 479 rfl, E 480 rfl, E 481 rfl, E 482 rfl, E 483 rfl, E 484 rfl, E 485 rfl, E 486 rfl, E 487 rfl, E 489 rfl, E 491 rfl]
  exact q
theorem ysite_eq_62 {M A : Nat → Int → Int} {s : Int} (e : A 467 11 = M 467 11) (E : ∀ c : Nat, sCell 62 c = true → A c = M c) (h : ysite 62 M s) : ysite 62 A s := by
  unfold ysite at h ⊢
  rw [e, E (62 + 13) rfl, E (62 + 16) rfl, E (62 + 22) rfl, E (62 + 27) rfl, E 469 rfl, E 470 rfl, E 477 rfl, E 478 rfl, E 492 rfl, E 493 rfl, E 494 rfl, E 498 rfl]
  exact h
theorem ipy_fr62 {M A : Nat → Int → Int} (f : FrP M A) (h : ipy 62 M) : ipy 62 A := by
  have G := fun (c : Nat) (q : gCell c = true) => f.2 c q
  have E : ∀ c : Nat, sCell 62 c = true → A c = M c := fun c q => f.2 c (by unfold sCell at q; unfold gCell; simp at q ⊢; omega)
  obtain ⟨h1, h2, h3, h4⟩ := h
  unfold ipy
  have yg : ∀ g : Int, ygiv A g = ygiv M g := fun g => by unfold ygiv; rw [f.1, G 475 rfl, G 476 rfl, G 479 rfl, G 482 rfl]
  rw [f.1, G 469 rfl, G 470 rfl, G 471 rfl, G 472 rfl, G 498 rfl, G 503 rfl, G (62 + 1) rfl, G (62 + 2) rfl, G (62 + 9) rfl, G (62 + 11) rfl, G (62 + 22) rfl, G (62 + 27) rfl]
  exact ⟨fun x a b => by rw [yg]; exact h1 x a b, fun g a b => yfun_eq_62 f.1 E (h2 g a b), fun s a b => ⟨(h3 s a b).1, ysite_eq_62 f.1 E (h3 s a b).2⟩, h4⟩
theorem ipy_sw_62 {M A : Nat → Int → Int} {a0 a1 : Int} (hS : M 62 1 = M 471 (M 467 11)) (ha : 0 ≤ a0 ∧ a0 < M 469 (M 467 11)) (hb : 0 ≤ a1 ∧ a1 < M 469 (M 467 11)) (h : ipy 62 M) (s : swR 62 M A a0 a1) : ipy 62 A := by
  obtain ⟨s1, s2, s3, s4, s5, s6, s7, s8, s9, s10, ⟨s11, s12⟩, ⟨s13, s14⟩, E⟩ := s
  obtain ⟨h1, h2, h3, h4⟩ := h
  have e : A 467 11 = M 467 11 := by rw [s14]
  have yg : ∀ g : Int, ygiv A g = ygiv M g := fun g => by unfold ygiv; rw [e, E 475 rfl, E 476 rfl, E 479 rfl, E 482 rfl]
  unfold ipy
  rw [e, E 469 rfl, E 470 rfl, E 471 rfl, E 472 rfl, E 498 rfl, s13, s1, s2, s9, s11, E (62 + 22) rfl, E (62 + 27) rfl]
  refine ⟨fun f f0 f1 => ?_, fun g a b => yfun_eq_62 e E (h2 g a b), fun s a b => ⟨?_, ysite_eq_62 e E (h3 s a b).2⟩, h4⟩
  · rw [yg]
    exact ⟨zx_comp (F := fun z => M 472 (8 * M 467 11 + z)) ha hb (fun k k0 k1 => (h1 k k0 k1).1) f f0 f1, zx_comp (F := fun z => nlet (M 472 (8 * M 467 11 + z))) ha hb (fun k k0 k1 => (h1 k k0 k1).2.1) f f0 f1, zx_comp (F := fun z => ygiv M z) ha hb (fun k k0 k1 => (h1 k k0 k1).2.2) f f0 f1⟩
  · obtain ⟨⟨q1, q2⟩, q3⟩ := (h3 s a b).1
    have x : xchr (M (62 + 11)) a0 a1 (M 62 1) s = xch (M (62 + 11) s) a0 a1 := if_pos ⟨a, by rw [hS]; exact b⟩
    rw [x, zx_xch]
    refine ⟨?_, q3⟩
    unfold xch
    split
    · exact hb
    · split
      · exact ha
      · exact ⟨q1, q2⟩
