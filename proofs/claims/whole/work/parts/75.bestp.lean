/-! best: what is found, in numbers alone -/
def bT (up fn ht : Int → Int) (n : Int) : Nat → Int → Int := fun j k => if j = 0 then up k else if j = 1 then fn k else if j = 2 then ht k else n
/-- how often a function stands from a place upward, the root left out -/
def bcx (fn up : Int → Int) (g : Int) : Nat → Int → Int
  | 0, _ => 0
  | n + 1, q => if q ≤ 0 then 0 else (if fn q = g then 1 else 0) + bcx fn up g n (up q)
def bc (B : Nat → Int → Int) (g q : Int) : Int := bcx (B 1) (B 0) g 33 q + (if B 1 0 = g then 1 else 0)
def bUp (B : Nat → Int → Int) : Prop := (0 ≤ B 3 0 ∧ B 3 0 ≤ 32) ∧ ∀ q : Int, 1 ≤ q → q ≤ B 3 0 → 0 ≤ B 0 q ∧ B 0 q < q
def bstep (A B : Nat → Int → Int) (q s : Int) : Nat → Int → Int :=
  if B 3 0 < 32 ∧ 1 ≤ heatv (B 2 q) (A 7 s) (A 6 (B 1 q)) ∧ bc B (A 2 s) q ≤ A 8 2 then
    bT (zs (B 0) (B 3 0 + 1) q) (zs (B 1) (B 3 0 + 1) (A 2 s)) (zs (B 2) (B 3 0 + 1) (heatv (B 2 q) (A 7 s) (A 6 (B 1 q)))) (B 3 0 + 1) else B
def bcalls (A B : Nat → Int → Int) (q a : Int) : Nat → (Nat → Int → Int)
  | 0 => B
  | n + 1 => bstep A (bcalls A B q a n) q (a + n)
def ball (A B : Nat → Int → Int) : Nat → (Nat → Int → Int)
  | 0 => B
  | j + 1 => if (j : Int) ≤ ball A B j 3 0 then bcalls A (ball A B j) j (A 0 (ball A B j 1 j)) (A 1 (ball A B j 1 j)).toNat else ball A B j
theorem bcx_low {fn up : Int → Int} {g : Int} {n : Nat} {q : Int} (h : q ≤ 0) : bcx fn up g n q = 0 := by
  cases n with
  | zero => rfl
  | succ n => exact if_pos h
theorem bcx_fuel {fn up : Int → Int} {g N : Int} (hu : ∀ q : Int, 1 ≤ q → q ≤ N → 0 ≤ up q ∧ up q < q) : ∀ (n : Nat) (q : Int), q ≤ N → q ≤ n → bcx fn up g (n + 1) q = bcx fn up g n q := by
  intro n
  induction n with
  | zero => intro q _ h; rw [bcx_low h, bcx_low h]
  | succ n ih =>
    intro q hN h
    by_cases e : q ≤ 0
    · rw [bcx_low e, bcx_low e]
    · have u := hu q (by omega) hN
      show (if q ≤ 0 then 0 else (if fn q = g then 1 else 0) + bcx fn up g (n + 1) (up q)) = if q ≤ 0 then 0 else (if fn q = g then 1 else 0) + bcx fn up g n (up q)
      rw [if_neg e, if_neg e, ih (up q) (by omega) (by omega)]
theorem bcx_step {fn up : Int → Int} {g N q : Int} (hu : ∀ q : Int, 1 ≤ q → q ≤ N → 0 ≤ up q ∧ up q < q) (hN : N ≤ 32) (q1 : 1 ≤ q) (qN : q ≤ N) : bcx fn up g 33 q = (if fn q = g then 1 else 0) + bcx fn up g 33 (up q) := by
  have u := hu q q1 qN
  rw [bcx_fuel hu 32 (up q) (by omega) (by omega)]
  show (if q ≤ 0 then 0 else (if fn q = g then 1 else 0) + bcx fn up g 32 (up q)) = _
  rw [if_neg (by omega)]
theorem bcx_in {fn up : Int → Int} {g : Int} : ∀ (n : Nat) (q : Int), 0 ≤ bcx fn up g n q ∧ bcx fn up g n q ≤ n := by
  intro n
  induction n with
  | zero => intro q; exact ⟨Int.le_refl _, Int.le_refl _⟩
  | succ n ih =>
    intro q
    have i := ih (up q)
    show 0 ≤ (if q ≤ 0 then 0 else (if fn q = g then 1 else 0) + bcx fn up g n (up q)) ∧ (if q ≤ 0 then 0 else (if fn q = g then 1 else 0) + bcx fn up g n (up q)) ≤ ((n + 1 : Nat) : Int)
    split
    · omega
    · split <;> omega
theorem bstep_up {A B : Nat → Int → Int} {q s : Int} (h : bUp B) (q0 : 0 ≤ q) (q1 : q ≤ B 3 0) : bUp (bstep A B q s) := by
  unfold bstep
  split
  · next c =>
    refine ⟨⟨?_, ?_⟩, fun x x1 x2 => ?_⟩
    · show 0 ≤ B 3 0 + 1; have := h.1; omega
    · show B 3 0 + 1 ≤ 32; omega
    · have x2 : x ≤ B 3 0 + 1 := x2
      show 0 ≤ zs (B 0) (B 3 0 + 1) q x ∧ zs (B 0) (B 3 0 + 1) q x < x
      by_cases e : x = B 3 0 + 1
      · rw [zs_pos e]; omega
      · rw [zs_neg e]; exact h.2 x x1 (by omega)
  · exact h
/-- what lies below stays -/
def bKeep (B C : Nat → Int → Int) : Prop := B 3 0 ≤ C 3 0 ∧ ∀ q : Int, q ≤ B 3 0 → C 0 q = B 0 q ∧ C 1 q = B 1 q ∧ C 2 q = B 2 q
theorem bKeep_refl {B : Nat → Int → Int} : bKeep B B := ⟨Int.le_refl _, fun _ _ => ⟨rfl, rfl, rfl⟩⟩
theorem bKeep_trans {B C D : Nat → Int → Int} (h : bKeep B C) (k : bKeep C D) : bKeep B D := ⟨Int.le_trans h.1 k.1, fun q e => by
  have a := h.2 q e
  have b := k.2 q (by have := h.1; omega)
  rw [b.1, b.2.1, b.2.2]; exact a⟩
theorem bstep_keep {A B : Nat → Int → Int} {q s : Int} : bKeep B (bstep A B q s) := by
  unfold bstep
  split
  · refine ⟨?_, fun x e => ⟨zs_neg (by omega), zs_neg (by omega), zs_neg (by omega)⟩⟩
    show B 3 0 ≤ B 3 0 + 1; omega
  · exact bKeep_refl
theorem bcalls_up {A B : Nat → Int → Int} {q a : Int} (h : bUp B) (q0 : 0 ≤ q) (q1 : q ≤ B 3 0) : ∀ (n : Nat), bUp (bcalls A B q a n) ∧ bKeep B (bcalls A B q a n) := by
  intro n
  induction n with
  | zero => exact ⟨h, bKeep_refl⟩
  | succ n ih => exact ⟨bstep_up ih.1 q0 (Int.le_trans q1 ih.2.1), bKeep_trans ih.2 bstep_keep⟩
theorem bstep_full {A B : Nat → Int → Int} {q s : Int} (h : ¬ B 3 0 < 32) : bstep A B q s = B := by
  unfold bstep; rw [if_neg (fun c => h c.1)]
theorem bcalls_full {A B : Nat → Int → Int} {q a : Int} (h : ¬ B 3 0 < 32) : ∀ (n : Nat), bcalls A B q a n = B := by
  intro n
  induction n with
  | zero => rfl
  | succ n ih => show bstep A (bcalls A B q a n) q (a + n) = B; rw [ih, bstep_full h]
theorem bcalls_stop {A B : Nat → Int → Int} {q a : Int} (k : Nat) (h : ¬ bcalls A B q a k 3 0 < 32) : ∀ (n : Nat), bcalls A B q a (k + n) = bcalls A B q a k := by
  intro n
  induction n with
  | zero => rfl
  | succ n ih => show bstep A (bcalls A B q a (k + n)) q (a + ((k + n : Nat) : Int)) = _; rw [ih, bstep_full h]
theorem ball_full {A B : Nat → Int → Int} (j : Nat) (h : ¬ ball A B j 3 0 < 32) : ∀ (n : Nat), ball A B (j + n) = ball A B j := by
  intro n
  induction n with
  | zero => rfl
  | succ n ih =>
    show (if ((j + n : Nat) : Int) ≤ ball A B (j + n) 3 0 then bcalls A (ball A B (j + n)) ((j + n : Nat) : Int) (A 0 (ball A B (j + n) 1 ((j + n : Nat) : Int))) (A 1 (ball A B (j + n) 1 ((j + n : Nat) : Int))).toNat else ball A B (j + n)) = _
    rw [ih]
    split
    · exact bcalls_full h _
    · rfl
theorem ball_end {A B : Nat → Int → Int} (j : Nat) (h : ball A B j 3 0 < j) : ∀ (n : Nat), ball A B (j + n) = ball A B j := by
  intro n
  induction n with
  | zero => rfl
  | succ n ih =>
    show (if ((j + n : Nat) : Int) ≤ ball A B (j + n) 3 0 then bcalls A (ball A B (j + n)) ((j + n : Nat) : Int) (A 0 (ball A B (j + n) 1 ((j + n : Nat) : Int))) (A 1 (ball A B (j + n) 1 ((j + n : Nat) : Int))).toNat else ball A B (j + n)) = _
    rw [ih, if_neg (by omega)]
theorem ball_up {A B : Nat → Int → Int} (h : bUp B) : ∀ (j : Nat), bUp (ball A B j) ∧ bKeep B (ball A B j) := by
  intro j
  induction j with
  | zero => exact ⟨h, bKeep_refl⟩
  | succ j ih =>
    show bUp (if (j : Int) ≤ ball A B j 3 0 then bcalls A (ball A B j) j (A 0 (ball A B j 1 j)) (A 1 (ball A B j 1 j)).toNat else ball A B j) ∧ bKeep B (if (j : Int) ≤ ball A B j 3 0 then bcalls A (ball A B j) j (A 0 (ball A B j 1 j)) (A 1 (ball A B j 1 j)).toNat else ball A B j)
    split
    · next c =>
      have z := bcalls_up (A := A) (a := A 0 (ball A B j 1 j)) ih.1 (Int.natCast_nonneg j) c (A 1 (ball A B j 1 j)).toNat
      exact ⟨z.1, bKeep_trans ih.2 z.2⟩
    · exact ih
/-- found alike on both sides -/
def bRel (ρ : Int → Int) (B C : Nat → Int → Int) (nF : Int) : Prop := B 3 0 = C 3 0 ∧ ∀ q : Int, 0 ≤ q → q ≤ C 3 0 → (1 ≤ q → B 0 q = C 0 q) ∧ (0 ≤ C 1 q ∧ C 1 q < nF) ∧ B 1 q = ρ (C 1 q) ∧ B 2 q = C 2 q
section
variable {ρ : Int → Int} {A D B C : Nat → Int → Int} {nF nS : Int}
theorem bcx_rel (hi : ∀ f g : Int, 0 ≤ f → f < nF → 0 ≤ g → g < nF → ρ f = ρ g → f = g) (hu : bUp C) (hr : bRel ρ B C nF) {g : Int} (hg : 0 ≤ g ∧ g < nF) : ∀ (n : Nat) (q : Int), 0 ≤ q → q ≤ C 3 0 → bcx (B 1) (B 0) (ρ g) n q = bcx (C 1) (C 0) g n q := by
  intro n
  induction n with
  | zero => intro q _ _; rfl
  | succ n ih =>
    intro q q0 q1
    show (if q ≤ 0 then 0 else (if B 1 q = ρ g then 1 else 0) + bcx (B 1) (B 0) (ρ g) n (B 0 q)) = if q ≤ 0 then 0 else (if C 1 q = g then 1 else 0) + bcx (C 1) (C 0) g n (C 0 q)
    by_cases e : q ≤ 0
    · rw [if_pos e, if_pos e]
    · obtain ⟨r0, r1, r2, r3⟩ := hr.2 q q0 q1
      have u := hu.2 q (by omega) q1
      rw [if_neg e, if_neg e, r0 (by omega), ih (C 0 q) u.1 (by omega), r2]
      congr 1
      by_cases z : C 1 q = g
      · rw [if_pos z, if_pos (by rw [z])]
      · rw [if_neg z, if_neg (fun y => z (hi _ _ r1.1 r1.2 hg.1 hg.2 y))]
theorem bc_rel (hi : ∀ f g : Int, 0 ≤ f → f < nF → 0 ≤ g → g < nF → ρ f = ρ g → f = g) (hu : bUp C) (hr : bRel ρ B C nF) {g : Int} (hg : 0 ≤ g ∧ g < nF) {q : Int} (q0 : 0 ≤ q) (q1 : q ≤ C 3 0) : bc B (ρ g) q = bc C g q := by
  unfold bc
  rw [bcx_rel hi hu hr hg 33 q q0 q1]
  obtain ⟨r0, r1, r2, r3⟩ := hr.2 0 (by decide) (by omega)
  rw [r2]
  congr 1
  by_cases z : C 1 0 = g
  · rw [if_pos z, if_pos (by rw [z])]
  · rw [if_neg z, if_neg (fun y => z (hi _ _ r1.1 r1.2 hg.1 hg.2 y))]
theorem bstep_rel (hg : tPg D nF nS) (hd : dRel ρ A D nF nS) (hu : bUp C) (hr : bRel ρ B C nF) {q s : Int} (q0 : 0 ≤ q) (q1 : q ≤ C 3 0) (s0 : 0 ≤ s) (s1 : s < nS) : bRel ρ (bstep A B q s) (bstep D C q s) nF := by
  obtain ⟨d1, d2, d3, d4⟩ := hd
  obtain ⟨r0, r1, r2, r3⟩ := hr.2 q q0 q1
  have e := d1 (C 1 q) r1.1 r1.2
  have f := d2 s s0 s1
  have t := (hg.2.2.1 s s0 s1).1
  have eh : heatv (B 2 q) (A 7 s) (A 6 (B 1 q)) = heatv (C 2 q) (D 7 s) (D 6 (C 1 q)) := by rw [r3, r2, f.2.2, e.2.2.2.2.2]
  have ec : bc B (A 2 s) q = bc C (D 2 s) q := by rw [f.1]; exact bc_rel d4 hu hr t q0 q1
  have es : A 8 2 = D 8 2 := d3 2 (by decide) (by decide)
  unfold bstep
  rw [eh, ec, es, hr.1]
  split
  · refine ⟨rfl, fun x x0 x1 => ?_⟩
    have x1 : x ≤ C 3 0 + 1 := x1
    show (1 ≤ x → zs (B 0) (C 3 0 + 1) q x = zs (C 0) (C 3 0 + 1) q x) ∧ (0 ≤ zs (C 1) (C 3 0 + 1) (D 2 s) x ∧ zs (C 1) (C 3 0 + 1) (D 2 s) x < nF) ∧ zs (B 1) (C 3 0 + 1) (A 2 s) x = ρ (zs (C 1) (C 3 0 + 1) (D 2 s) x) ∧ zs (B 2) (C 3 0 + 1) _ x = zs (C 2) (C 3 0 + 1) _ x
    by_cases y : x = C 3 0 + 1
    · rw [zs_pos y, zs_pos y, zs_pos y, zs_pos y, zs_pos y, zs_pos y]
      exact ⟨fun _ => rfl, t, f.1, rfl⟩
    · rw [zs_neg y, zs_neg y, zs_neg y, zs_neg y, zs_neg y, zs_neg y]
      exact hr.2 x x0 (by omega)
  · exact hr
theorem bcalls_rel (hg : tPg D nF nS) (hd : dRel ρ A D nF nS) (hu : bUp C) (hr : bRel ρ B C nF) {q a : Int} (q0 : 0 ≤ q) (q1 : q ≤ C 3 0) (a0 : 0 ≤ a) : ∀ (n : Nat), a + n ≤ nS → bRel ρ (bcalls A B q a n) (bcalls D C q a n) nF := by
  intro n
  induction n with
  | zero => intro _; exact hr
  | succ n ih =>
    intro h
    have u := bcalls_up (A := D) (a := a) hu q0 q1 n
    exact bstep_rel hg hd u.1 (ih (by omega)) q0 (Int.le_trans q1 u.2.1) (by omega) (by omega)
theorem ball_rel (hg : tPg D nF nS) (hd : dRel ρ A D nF nS) (hu : bUp C) (hr : bRel ρ B C nF) : ∀ (j : Nat), bRel ρ (ball A B j) (ball D C j) nF := by
  intro j
  induction j with
  | zero => exact hr
  | succ j ih =>
    have u := ball_up (A := D) hu j
    show bRel ρ (if (j : Int) ≤ ball A B j 3 0 then bcalls A (ball A B j) j (A 0 (ball A B j 1 j)) (A 1 (ball A B j 1 j)).toNat else ball A B j) (if (j : Int) ≤ ball D C j 3 0 then bcalls D (ball D C j) j (D 0 (ball D C j 1 j)) (D 1 (ball D C j 1 j)).toNat else ball D C j) nF
    rw [ih.1]
    split
    · next c =>
      obtain ⟨r0, r1, r2, r3⟩ := ih.2 j (Int.natCast_nonneg j) c
      have e := hd.1 (ball D C j 1 j) r1.1 r1.2
      have b := (hg.2.1 _ r1.1 r1.2).1
      rw [r2, e.2.1, e.2.2.1]
      exact bcalls_rel hg hd u.1 ih (Int.natCast_nonneg j) c b.1 _ (by omega)
    · exact ih
end
/-- a side's numbers keep small -/
def bSmall (A B : Nat → Int → Int) (nF : Int) : Prop := ∀ q : Int, 0 ≤ q → q ≤ B 3 0 → (0 ≤ B 1 q ∧ B 1 q < nF) ∧ 0 ≤ B 2 q ∧ B 2 q ≤ A 6 (B 1 q)
