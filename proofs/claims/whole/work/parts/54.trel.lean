/-! The same tree, functions by another number (no machine in it) -/
/-- two programs alike but for the functions' numbers -/
def dRel (ρ : Int → Int) (A B : Nat → Int → Int) (nF nS : Int) : Prop :=
  (∀ f : Int, 0 ≤ f → f < nF → (0 ≤ ρ f ∧ ρ f < nF) ∧ A 0 (ρ f) = B 0 f ∧ A 1 (ρ f) = B 1 f ∧ A 3 (ρ f) = B 3 f ∧ A 4 (ρ f) = B 4 f ∧ A 6 (ρ f) = B 6 f) ∧
  (∀ s : Int, 0 ≤ s → s < nS → A 2 s = ρ (B 2 s) ∧ A 5 s = B 5 s ∧ A 7 s = B 7 s) ∧ (∀ k : Int, 0 ≤ k → k < 4 → A 8 k = B 8 k) ∧
  (∀ f g : Int, 0 ≤ f → f < nF → 0 ≤ g → g < nF → ρ f = ρ g → f = g)
/-- two trees alike -/
def tRel (ρ : Int → Int) (T U : Nat → Int → Int) : Prop :=
  (T 8 0 = U 8 0 ∧ T 8 1 = U 8 1 ∧ T 8 2 = U 8 2) ∧
  ∀ k : Int, 0 ≤ k → k < T 8 0 → T 0 k = U 0 k ∧ T 1 k = U 1 k ∧ T 2 k = ρ (U 2 k) ∧ T 3 k = U 3 k ∧ T 4 k = U 4 k ∧ (T 6 k = 1 → T 5 k = U 5 k) ∧ T 6 k = U 6 k ∧ T 7 k = U 7 k
def tRelx (ρ : Int → Int) (T U : Nat → Int → Int) (c : Int) : Prop :=
  (T 8 0 = U 8 0 ∧ T 8 1 = U 8 1 ∧ T 8 2 = U 8 2) ∧
  ∀ k : Int, 0 ≤ k → k < T 8 0 → T 0 k = U 0 k ∧ T 1 k = U 1 k ∧ T 2 k = ρ (U 2 k) ∧ T 3 k = U 3 k ∧ T 4 k = U 4 k ∧ (T 6 k = 1 → ¬ k = c → T 5 k = U 5 k) ∧ T 6 k = U 6 k ∧ T 7 k = U 7 k
theorem tRel_tcn {ρ : Int → Int} {A B T U : Nat → Int → Int} {nF nS g : Int} (hd : dRel ρ A B nF nS) (hI : tInv B U nF nS) (hr : tRel ρ T U) (g0 : 0 ≤ g) (g1 : g < nF) : ∀ (n : Nat) (l c : Int), l < n → 0 ≤ c → c < U 8 0 → l ≤ U 3 c → tcn (T 2) (T 0) (ρ g) l c = tcn (U 2) (U 0) g l c := by
  intro n
  induction n with
  | zero => intro l c a b c1 d; rw [tcn_neg (fn := T 2) (by omega), tcn_neg (fn := U 2) (by omega)]
  | succ n ih =>
    intro l c a b c1 d
    by_cases hl : l < 0
    · rw [tcn_neg (fn := T 2) hl, tcn_neg (fn := U 2) hl]
    · obtain ⟨r0, r1, r2, r3, _⟩ := hr.2 c b (by rw [hr.1.1]; exact c1)
      have fc := (hI.2.2.1 c b c1).1
      rw [tcn_step (fn := T 2) (up := T 0) (l := l) (c := c) (by omega), tcn_step (fn := U 2) (up := U 0) (l := l) (c := c) (by omega), r2, r0]
      have e1 : (if ρ (U 2 c) = ρ g then (1 : Int) else 0) = if U 2 c = g then 1 else 0 := by
        by_cases q : U 2 c = g
        · rw [if_pos q, if_pos (by rw [q])]
        · rw [if_neg q, if_neg (fun z => q (hd.2.2.2 _ _ fc.1 fc.2 g0 g1 z))]
      rw [e1]
      by_cases h0 : c = 0
      · subst h0
        have z := hI.1.1.2
        rw [tcn_neg (fn := T 2) (l := l - 1) (by omega), tcn_neg (fn := U 2) (l := l - 1) (by omega)]
      · have q := hI.1.2 c (by omega) c1
        rw [ih (l - 1) (U 0 c) (by omega) (by omega) (by omega) (by omega)]
section
variable {ρ : Int → Int} {A B T U : Nat → Int → Int} {nF nS : Int}
theorem tRel_rec (hd : dRel ρ A B nF nS) (hI : tInv B U nF nS) (hr : tRel ρ T U) {k : Int} (k0 : 1 ≤ k) (k1 : k < U 8 0) : trec A T k = trec B U k := by
  obtain ⟨r0, r1, r2, r3, _⟩ := hr.2 k (by omega) (by rw [hr.1.1]; exact k1)
  have w := hI.1.2 k k0 k1
  have fc := (hI.2.2.1 k (by omega) k1).1
  unfold trec
  rw [hd.2.2.1 2 (by decide) (by decide), r2, r3, r0, tRel_tcn hd hI hr fc.1 fc.2 ((U 3 k).toNat + 1) (U 3 k - 1) (U 0 k) (by omega) w.1 (by omega) (by omega)]
theorem tRel_worth (hg : tPg B nF nS) (hd : dRel ρ A B nF nS) (hI : tInv B U nF nS) (hr : tRel ρ T U) {k : Int} (k0 : 1 ≤ k) (k1 : k < U 8 0) : tworth A T k = tworth B U k := by
  obtain ⟨r0, r1, r2, r3, r4, r5, r6, r7⟩ := hr.2 k (by omega) (by rw [hr.1.1]; exact k1)
  have fc := (hI.2.2.1 k (by omega) k1).1
  have si := tInv_in hg hI k k0 k1
  unfold tworth
  rw [hd.2.2.1 1 (by decide) (by decide), r7, r1, r2, (hd.2.1 _ si.1 si.2).2.1, (hd.1 _ fc.1 fc.2).2.2.2.1]
theorem tRel_own (hd : dRel ρ A B nF nS) (hI : tInv B U nF nS) (hr : tRel ρ T U) {k : Int} (k0 : 0 ≤ k) (k1 : k < U 8 0) : town A T k = town B U k := by
  obtain ⟨r0, r1, r2, r3, r4, r5, r6, r7⟩ := hr.2 k k0 (by rw [hr.1.1]; exact k1)
  have fc := (hI.2.2.1 k k0 k1).1
  unfold town
  rw [hd.2.2.1 1 (by decide) (by decide), r7, r2, (hd.1 _ fc.1 fc.2).2.2.2.2.1]
theorem tRel_may (hd : dRel ρ A B nF nS) (hI : tInv B U nF nS) (hr : tRel ρ T U) {k : Int} (k0 : 1 ≤ k) (k1 : k < U 8 0) : tmay A T k = tmay B U k := by
  obtain ⟨r0, r1, r2, r3, r4, r5, r6, r7⟩ := hr.2 k (by omega) (by rw [hr.1.1]; exact k1)
  have fc := (hI.2.2.1 k (by omega) k1).1
  unfold tmay
  rw [tRel_rec hd hI hr k0 k1, hd.2.2.1 0 (by decide) (by decide), r6, r7, r2, hr.1.2.1, (hd.1 _ fc.1 fc.2).2.2.2.1]
theorem tRel_left (hI : tInv B U nF nS) (hr : tRel ρ T U) : ∀ (n : Nat) (a b : Int), 1 ≤ a → a < U 8 0 → 1 ≤ b → b < U 8 0 → (n : Int) + 1 ≤ U 3 a → (n : Int) + 1 ≤ U 3 b → tleft (T 0) n a b = tleft (U 0) n a b := by
  intro n
  induction n with
  | zero => intro a b _ _ _ _ _ _; rfl
  | succ n ih =>
    intro a b a0 a1 b0 b1 da db
    have ra := (hr.2 a (by omega) (by rw [hr.1.1]; exact a1)).1
    have rb := (hr.2 b (by omega) (by rw [hr.1.1]; exact b1)).1
    have wa := hI.1.2 a a0 a1
    have wb := hI.1.2 b b0 b1
    have da2 := tWT_d hI.1 (k := U 0 a) wa.1 (by omega)
    have db2 := tWT_d hI.1 (k := U 0 b) wb.1 (by omega)
    have z := hI.1.1.2
    show (if T 0 a = T 0 b then (if a < b then (1 : Int) else 0) else tleft (T 0) n (T 0 a) (T 0 b)) = (if U 0 a = U 0 b then (if a < b then (1 : Int) else 0) else tleft (U 0) n (U 0 a) (U 0 b))
    rw [ra, rb]
    by_cases q : U 0 a = U 0 b
    · rw [if_pos q, if_pos q]
    · rw [if_neg q, if_neg q]
      by_cases ea : U 0 a = 0
      · rw [ea] at wa; omega
      · by_cases eb : U 0 b = 0
        · rw [eb] at wb; omega
        · exact ih _ _ (by omega) (by omega) (by omega) (by omega) (by omega) (by omega)
theorem tRel_ahead (hg : tPg B nF nS) (hd : dRel ρ A B nF nS) (hI : tInv B U nF nS) (hr : tRel ρ T U) {a b : Int} (a0 : 1 ≤ a) (a1 : a < U 8 0) (b0 : 1 ≤ b) (b1 : b < U 8 0) : tahead A T a b = tahead B U a b := by
  have ra := (hr.2 a (by omega) (by rw [hr.1.1]; exact a1)).2.2.2.1
  have rb := (hr.2 b (by omega) (by rw [hr.1.1]; exact b1)).2.2.2.1
  have da := tWT_d hI.1 (k := a) (by omega) a1
  unfold tahead
  rw [tRel_worth hg hd hI hr a0 a1, tRel_worth hg hd hI hr b0 b1, ra, rb]
  unfold taheadC
  by_cases q : U 3 a = U 3 b
  · rw [tRel_left hI hr (U 3 a - 1).toNat a b a0 a1 b0 b1 (by omega) (by omega)]
  · rw [if_neg q, if_neg q]
theorem tRel_pick (hg : tPg B nF nS) (hd : dRel ρ A B nF nS) (hI : tInv B U nF nS) (hr : tRel ρ T U) : ∀ (n : Nat), (n : Int) < U 8 0 → tpick A T n = tpick B U n := by
  intro n
  induction n with
  | zero => intro _; rfl
  | succ n ih =>
    intro h
    show (if tmay A T (n + 1) = 0 then tpick A T n else if tpick A T n = -1 then ((n : Int) + 1) else if tahead A T (n + 1) (tpick A T n) = 0 then tpick A T n else (n + 1)) = (if tmay B U (n + 1) = 0 then tpick B U n else if tpick B U n = -1 then ((n : Int) + 1) else if tahead B U (n + 1) (tpick B U n) = 0 then tpick B U n else (n + 1))
    rw [ih (by omega), tRel_may hd hI hr (k := (n : Int) + 1) (by omega) (by omega)]
    rcases tpick_may (A := B) (T := U) n with q | ⟨q1, q2, _⟩
    · rw [q, if_pos rfl, if_pos rfl]
    · rw [tRel_ahead hg hd hI hr (a := (n : Int) + 1) (b := tpick B U n) (by omega) (by omega) q1 (by omega)]
theorem tRel_w (hg : tPg B nF nS) (hd : dRel ρ A B nF nS) (hI : tInv B U nF nS) (hr : tRel ρ T U) : tw A T = tw B U := by
  have b1 := hI.2.1.1
  unfold tw
  rw [hr.1.1]
  exact tRel_pick hg hd hI hr _ (by omega)
theorem tRel_lay (hg : tPg B nF nS) (hd : dRel ρ A B nF nS) {c : Int} (hr : tRelx ρ T U c) (c0 : 0 ≤ c) (c1 : c < U 8 0) (fc : 0 ≤ U 2 c ∧ U 2 c < nF) : tRel ρ (tlay A T c) (tlay B U c) := by
  obtain ⟨r0, r1, r2, r3, r4, r5, r6, r7⟩ := hr.2 c c0 (by rw [hr.1.1]; exact c1)
  obtain ⟨d0, d1, d2, d3, d4, d5⟩ := hd.1 _ fc.1 fc.2
  obtain ⟨⟨g1, g2, g3⟩, _⟩ := hg.2.1 _ fc.1 fc.2
  have m := hr.1.1
  have n1 : A 1 (T 2 c) = B 1 (U 2 c) := by rw [r2, d2]
  have n0 : A 0 (T 2 c) = B 0 (U 2 c) := by rw [r2, d1]
  have n6 : A 6 (T 2 c) = B 6 (U 2 c) := by rw [r2, d5]
  refine ⟨⟨?_, hr.1.2.1, hr.1.2.2⟩, fun k k0 k1 => ?_⟩
  · show T 8 0 + A 1 (T 2 c) = U 8 0 + B 1 (U 2 c); rw [m, n1]
  · have k1 : k < T 8 0 + A 1 (T 2 c) := k1
    show zfr (T 0) (T 8 0) (A 1 (T 2 c)) (fun _ => c) k = zfr (U 0) (U 8 0) (B 1 (U 2 c)) (fun _ => c) k ∧ zfr (T 1) (T 8 0) (A 1 (T 2 c)) (fun j => A 0 (T 2 c) + j) k = zfr (U 1) (U 8 0) (B 1 (U 2 c)) (fun j => B 0 (U 2 c) + j) k ∧ zfr (T 2) (T 8 0) (A 1 (T 2 c)) (fun j => A 2 (A 0 (T 2 c) + j)) k = ρ (zfr (U 2) (U 8 0) (B 1 (U 2 c)) (fun j => B 2 (B 0 (U 2 c) + j)) k) ∧ zfr (T 3) (T 8 0) (A 1 (T 2 c)) (fun _ => T 3 c + 1) k = zfr (U 3) (U 8 0) (B 1 (U 2 c)) (fun _ => U 3 c + 1) k ∧ zfr (T 4) (T 8 0) (A 1 (T 2 c)) (fun _ => 0) k = zfr (U 4) (U 8 0) (B 1 (U 2 c)) (fun _ => 0) k ∧ (zfr (T 6) (T 8 0) (A 1 (T 2 c)) (fun _ => 0) k = 1 → zs (T 5) c (T 8 0) k = zs (U 5) c (U 8 0) k) ∧ zfr (T 6) (T 8 0) (A 1 (T 2 c)) (fun _ => 0) k = zfr (U 6) (U 8 0) (B 1 (U 2 c)) (fun _ => 0) k ∧ zfr (T 7) (T 8 0) (A 1 (T 2 c)) (fun j => heatv (T 7 c) (A 7 (A 0 (T 2 c) + j)) (A 6 (T 2 c))) k = zfr (U 7) (U 8 0) (B 1 (U 2 c)) (fun j => heatv (U 7 c) (B 7 (B 0 (U 2 c) + j)) (B 6 (U 2 c))) k
    rw [n1, n0, n6, m]
    by_cases hk : k < U 8 0
    · obtain ⟨s0, s1, s2, s3, s4, s5, s6, s7⟩ := hr.2 k k0 (by rw [m]; exact hk)
      have o : ∀ (f g : Int → Int), zfr f (U 8 0) (B 1 (U 2 c)) g k = f k := fun f g => zfr_out (Or.inl hk)
      rw [o, o, o, o, o, o, o, o, o, o, o, o, o, o]
      refine ⟨s0, s1, s2, s3, s4, fun q => ?_, s6, s7⟩
      by_cases e : k = c
      · rw [zs_pos e, zs_pos e]
      · rw [zs_neg e, zs_neg e]; exact s5 q e
    · have hk2 : U 8 0 ≤ k ∧ k < U 8 0 + B 1 (U 2 c) := ⟨by omega, by rw [m, n1] at k1; exact k1⟩
      have i : ∀ (f g : Int → Int), zfr f (U 8 0) (B 1 (U 2 c)) g k = g (k - U 8 0) := fun f g => zfr_in hk2
      rw [i, i, i, i, i, i, i, i, i, i, i, i, i, i]
      have sd := hd.2.1 (B 0 (U 2 c) + (k - U 8 0)) (by omega) (by omega)
      refine ⟨rfl, rfl, sd.1, by show T 3 c + 1 = U 3 c + 1; rw [r3], rfl, fun q => absurd (show (0 : Int) = 1 from q) (by decide), rfl, ?_⟩
      show heatv (T 7 c) (A 7 (B 0 (U 2 c) + (k - U 8 0))) (B 6 (U 2 c)) = heatv (U 7 c) (B 7 (B 0 (U 2 c) + (k - U 8 0))) (B 6 (U 2 c))
      rw [r7, sd.2.2]
theorem tRel_open (hg : tPg B nF nS) (hd : dRel ρ A B nF nS) (hI : tInv B U nF nS) (hr : tRel ρ T U) (hw : ¬ tw B U = -1) : tRel ρ (topen A T (tw B U)) (topen B U (tw B U)) := by
  obtain ⟨⟨m1, m2⟩, m3, _⟩ := tw_may hw
  generalize tw B U = c at *
  have fc := (hI.2.2.1 c (by omega) m2).1
  obtain ⟨r0, r1, r2, r3, r4, r5, r6, r7⟩ := hr.2 c (by omega) (by rw [hr.1.1]; exact m2)
  unfold topen
  refine tRel_lay hg hd ⟨⟨hr.1.1, ?_, ?_⟩, fun k k0 k1 => ?_⟩ (show 0 ≤ c by omega) m2 fc
  · show T 8 1 + A 3 (T 2 c) = U 8 1 + B 3 (U 2 c)
    rw [hr.1.2.1, r2, (hd.1 _ fc.1 fc.2).2.2.2.1]
  · show T 8 2 + 1 = U 8 2 + 1; rw [hr.1.2.2]
  · have k1 : k < T 8 0 := k1
    obtain ⟨s0, s1, s2, s3, s4, s5, s6, s7⟩ := hr.2 k k0 k1
    show T 0 k = U 0 k ∧ T 1 k = U 1 k ∧ T 2 k = ρ (U 2 k) ∧ T 3 k = U 3 k ∧ zs (T 4) c (T 8 2 + 1) k = zs (U 4) c (U 8 2 + 1) k ∧ (zs (T 6) c 1 k = 1 → ¬ k = c → T 5 k = U 5 k) ∧ zs (T 6) c 1 k = zs (U 6) c 1 k ∧ T 7 k = U 7 k
    by_cases e : k = c
    · rw [zs_pos e, zs_pos e, zs_pos e, zs_pos e, hr.1.2.2]; exact ⟨s0, s1, s2, s3, rfl, fun _ q => absurd e q, rfl, s7⟩
    · rw [zs_neg e, zs_neg e, zs_neg e, zs_neg e]; exact ⟨s0, s1, s2, s3, s4, fun q _ => s5 q, s6, s7⟩
theorem tRel_opens (hg : tPg B nF nS) (hd : dRel ρ A B nF nS) : ∀ (n m : Nat) (T T' U U' : Nat → Int → Int), tInv B U nF nS → tRel ρ T U → tOpens A n T T' → tw A T' = -1 → tOpens B m U U' → tw B U' = -1 → n = m ∧ tRel ρ T' U' := by
  intro n
  induction n with
  | zero =>
    intro m T T' U U' hI hr h1 e1 h2 e2
    have h1 : T = T' := h1
    subst h1
    cases m with
    | zero => have h2 : U = U' := h2; subst h2; exact ⟨rfl, hr⟩
    | succ m => exact absurd (by rw [← tRel_w hg hd hI hr]; exact e1) h2.1
  | succ n ih =>
    intro m T T' U U' hI hr h1 e1 h2 e2
    have w := tRel_w hg hd hI hr
    cases m with
    | zero => have h2 : U = U' := h2; subst h2; exact absurd (by rw [w]; exact e2) h1.1
    | succ m =>
      have ro := tRel_open hg hd hI hr h2.1
      have h12 := h1.2
      rw [w] at h12
      have z := ih m _ T' _ U' (tInv_open hg hI h2.1) ro h12 e1 h2.2 e2
      exact ⟨by rw [z.1], z.2⟩
theorem tRel_root (hg : tPg B nF nS) (hd : dRel ρ A B nF nS) {f e z : Int} (f0 : 0 ≤ f) (f1 : f < nF) : tRel ρ (tlay A (troot T (ρ f) e z) 0) (tlay B (troot U f e z) 0) := by
  refine tRel_lay hg hd ⟨⟨rfl, rfl, rfl⟩, fun k k0 k1 => ?_⟩ (by decide) (show (0 : Int) < 1 by decide) (show 0 ≤ zs (U 2) 0 f 0 ∧ zs (U 2) 0 f 0 < nF by rw [zs_pos rfl]; exact ⟨f0, f1⟩)
  have k1 : k < 1 := k1
  have e : k = 0 := by omega
  subst e
  exact ⟨rfl, rfl, rfl, rfl, rfl, fun _ q => absurd rfl q, rfl, rfl⟩
/-- what is summed from below -/
theorem tRel_U (hg : tPg B nF nS) (hd : dRel ρ A B nF nS) (hI : tInv B U nF nS) (hr : tRel ρ T U) : ∀ (n : Nat) (c : Int), 0 ≤ c → c < U 8 0 → U 6 c = 1 → tU A T n c = tU B U n c := by
  have tk : ∀ S : Nat → Int, tkeep A S = tkeep B S := fun S => by unfold tkeep; rw [hd.2.2.1 3 (by decide) (by decide)]
  intro n
  induction n with
  | zero => intro c _ _ _; rfl
  | succ n ih =>
    intro c c0 c1 ci
    obtain ⟨r0, r1, r2, r3, r4, r5, r6, r7⟩ := hr.2 c c0 (by rw [hr.1.1]; exact c1)
    have fc := (hI.2.2.1 c c0 c1).1
    obtain ⟨d0, d1, d2, d3, d4, d5⟩ := hd.1 _ fc.1 fc.2
    have n1 : A 1 (T 2 c) = B 1 (U 2 c) := by rw [r2, d2]
    have n5 : T 5 c = U 5 c := r5 (by rw [r6]; exact ci)
    obtain ⟨⟨⟨p1, p2⟩, p3⟩, _⟩ := hI.2.2.2.2.2.1 c c0 c1 ci
    have bs : tbase A T c = tbase B U c := by
      funext j; unfold tbase; rw [r2, d3, tRel_own hd hI hr c0 c1]
    have fl : ∀ m : Nat, (m : Int) ≤ B 1 (U 2 c) → tfold A T (tU A T n) c m = tfold B U (tU B U n) c m := by
      intro m
      induction m with
      | zero => intro _; exact bs
      | succ m im =>
        intro hm
        show (if T 6 (T 5 c + m) = 1 then tchild A (tfold A T (tU A T n) c m) (tU A T n (T 5 c + m)) else tfold A T (tU A T n) c m) = (if U 6 (U 5 c + m) = 1 then tchild B (tfold B U (tU B U n) c m) (tU B U n (U 5 c + m)) else tfold B U (tU B U n) c m)
        rw [im (by omega), n5, (hr.2 (U 5 c + m) (by omega) (by rw [hr.1.1]; omega)).2.2.2.2.2.2.1]
        by_cases q : U 6 (U 5 c + m) = 1
        · rw [if_pos q, if_pos q, ih (U 5 c + m) (by omega) (by omega) q]
          funext j; unfold tchild; rw [tk]
        · rw [if_neg q, if_neg q]
    show tfin A c (tfold A T (tU A T n) c (A 1 (T 2 c)).toNat) = tfin B c (tfold B U (tU B U n) c (B 1 (U 2 c)).toNat)
    obtain ⟨⟨g1, g2, g3⟩, _⟩ := hg.2.1 _ fc.1 fc.2
    rw [n1, fl _ (by omega)]
    funext j; unfold tfin; rw [tk]
theorem tRel_V (hg : tPg B nF nS) (hd : dRel ρ A B nF nS) (hI : tInv B U nF nS) (hr : tRel ρ T U) {c : Int} (c0 : 0 ≤ c) (c1 : c < U 8 0) (ci : U 6 c = 1) : tV A T c = tV B U c := by
  unfold tV
  rw [(hr.2 c c0 (by rw [hr.1.1]; exact c1)).2.2.2.1]
  exact tRel_U hg hd hI hr _ c c0 c1 ci
theorem tRel_kp (hg : tPg B nF nS) (hd : dRel ρ A B nF nS) (hI : tInv B U nF nS) (hr : tRel ρ T U) {x : Int} (x0 : 0 ≤ x) (x1 : x < U 8 0) : tkp A T x = tkp B U x := by
  have tk : ∀ S : Nat → Int, tkeep A S = tkeep B S := fun S => by unfold tkeep; rw [hd.2.2.1 3 (by decide) (by decide)]
  unfold tkp
  rw [(hr.2 x x0 (by rw [hr.1.1]; exact x1)).2.2.2.2.2.2.1]
  by_cases q : U 6 x = 1
  · rw [if_pos q, if_pos q, tRel_V hg hd hI hr x0 x1 q, tk]
  · rw [if_neg q, if_neg q]
theorem tRel_list (hg : tPg B nF nS) (hd : dRel ρ A B nF nS) (hI : tInv B U nF nS) (hr : tRel ρ T U) : ∀ (n : Nat) (c : Int), 0 ≤ c → c < U 8 0 → U 6 c = 1 → tpre A T (tkp A T) n c = tpre B U (tkp B U) n c ∧ tlft A T (tkp A T) n c = tlft B U (tkp B U) n c := by
  intro n
  induction n with
  | zero => intro c _ _ _; exact ⟨rfl, rfl⟩
  | succ n ih =>
    intro c c0 c1 ci
    obtain ⟨r0, r1, r2, r3, r4, r5, r6, r7⟩ := hr.2 c c0 (by rw [hr.1.1]; exact c1)
    have fc := (hI.2.2.1 c c0 c1).1
    obtain ⟨d0, d1, d2, d3, d4, d5⟩ := hd.1 _ fc.1 fc.2
    have n1 : A 1 (T 2 c) = B 1 (U 2 c) := by rw [r2, d2]
    have n5 : T 5 c = U 5 c := r5 (by rw [r6]; exact ci)
    obtain ⟨⟨⟨p1, p2⟩, p3⟩, _⟩ := hI.2.2.2.2.2.1 c c0 c1 ci
    obtain ⟨⟨g1, g2, g3⟩, _⟩ := hg.2.1 _ fc.1 fc.2
    have fl : ∀ (N : Int → List Int) (m : Nat), (m : Int) ≤ B 1 (U 2 c) → tkids (tkp A T) (tpre A T (tkp A T) n) N (U 5 c) m = tkids (tkp B U) (tpre B U (tkp B U) n) N (U 5 c) m ∧ tkids (tkp A T) (tlft A T (tkp A T) n) N (U 5 c) m = tkids (tkp B U) (tlft B U (tkp B U) n) N (U 5 c) m := by
      intro N m
      induction m with
      | zero => intro _; exact ⟨rfl, rfl⟩
      | succ m im =>
        intro hm
        have i := im (by omega)
        show tkids (tkp A T) (tpre A T (tkp A T) n) N (U 5 c) m ++ (if tkp A T (U 5 c + m) = 0 then N (U 5 c + m) else tpre A T (tkp A T) n (U 5 c + m)) = tkids (tkp B U) (tpre B U (tkp B U) n) N (U 5 c) m ++ (if tkp B U (U 5 c + m) = 0 then N (U 5 c + m) else tpre B U (tkp B U) n (U 5 c + m)) ∧ tkids (tkp A T) (tlft A T (tkp A T) n) N (U 5 c) m ++ (if tkp A T (U 5 c + m) = 0 then N (U 5 c + m) else tlft A T (tkp A T) n (U 5 c + m)) = tkids (tkp B U) (tlft B U (tkp B U) n) N (U 5 c) m ++ (if tkp B U (U 5 c + m) = 0 then N (U 5 c + m) else tlft B U (tkp B U) n (U 5 c + m))
        rw [i.1, i.2, tRel_kp hg hd hI hr (x := U 5 c + m) (by omega) (by omega)]
        by_cases q : tkp B U (U 5 c + m) = 0
        · rw [if_pos q, if_pos q, if_pos q, if_pos q]; exact ⟨rfl, rfl⟩
        · have o := tkp_op hI (x := U 5 c + m) (by omega) (by omega) q
          have z := ih (U 5 c + m) (by omega) (by omega) o
          rw [if_neg q, if_neg q, if_neg q, if_neg q, z.1, z.2]; exact ⟨rfl, rfl⟩
    constructor
    · show c :: tkids (tkp A T) (tpre A T (tkp A T) n) (fun _ => []) (T 5 c) (A 1 (T 2 c)).toNat = c :: tkids (tkp B U) (tpre B U (tkp B U) n) (fun _ => []) (U 5 c) (B 1 (U 2 c)).toNat
      rw [n1, n5, (fl _ _ (by omega)).1]
    · show tkids (tkp A T) (tlft A T (tkp A T) n) (fun e => [e]) (T 5 c) (A 1 (T 2 c)).toNat = tkids (tkp B U) (tlft B U (tkp B U) n) (fun e => [e]) (U 5 c) (B 1 (U 2 c)).toNat
      rw [n1, n5, (fl _ _ (by omega)).2]
theorem tRel_Pre (hg : tPg B nF nS) (hd : dRel ρ A B nF nS) (hI : tInv B U nF nS) (hr : tRel ρ T U) : tPre A T 0 = tPre B U 0 ∧ tLft A T 0 = tLft B U 0 := by
  have b1 := hI.2.1.1
  unfold tPre tLft
  rw [(hr.2 0 (by decide) (by rw [hr.1.1]; omega)).2.2.2.1]
  exact tRel_list hg hd hI hr _ 0 (by decide) (by omega) hI.2.2.2.1.1
theorem tRel_gs (hd : dRel ρ A B nF nS) (hI : tInv B U nF nS) (hr : tRel ρ T U) : tgs A T = tgs B U := by
  unfold tgs
  rw [hr.1.1]
  refine tsum_congr _ (fun k k1 k2 => ?_)
  show (if T 4 k = 0 then 0 else town A T k) = (if U 4 k = 0 then 0 else town B U k)
  rw [(hr.2 k (by omega) (by rw [hr.1.1]; omega)).2.2.2.2.1, tRel_own hd hI hr (k := k) (by omega) (by omega)]
end
