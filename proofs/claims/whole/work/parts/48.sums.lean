/-! Sums over calls: what is summed from below is what is summed over all (no machine in it) -/
theorem tsum_add {f g : Int → Int} : ∀ (n : Nat), tsum (fun x => f x + g x) n = tsum f n + tsum g n := by
  intro n
  induction n with
  | zero => rfl
  | succ n ih => show tsum (fun x => f x + g x) n + (f (n + 1) + g (n + 1)) = tsum f n + f (n + 1) + (tsum g n + g (n + 1)); rw [ih]; omega
theorem tsum_sub {f g : Int → Int} : ∀ (n : Nat), tsum (fun x => f x - g x) n = tsum f n - tsum g n := by
  intro n
  induction n with
  | zero => rfl
  | succ n ih => show tsum (fun x => f x - g x) n + (f (n + 1) - g (n + 1)) = tsum f n + f (n + 1) - (tsum g n + g (n + 1)); rw [ih]; omega
theorem tsum_nil {f : Int → Int} : ∀ (n : Nat), (∀ k : Int, 1 ≤ k → k ≤ n → f k = 0) → tsum f n = 0 := by
  intro n
  induction n with
  | zero => intro _; rfl
  | succ n ih => intro h; show tsum f n + f (n + 1) = 0; rw [ih (fun k a b => h k a (by omega)), h _ (by omega) (by omega)]; rfl
theorem tsum_mono {f g : Int → Int} : ∀ (n : Nat), (∀ k : Int, 1 ≤ k → k ≤ n → f k ≤ g k) → tsum f n ≤ tsum g n := by
  intro n
  induction n with
  | zero => intro _; exact Int.le_refl _
  | succ n ih => intro h; show tsum f n + f (n + 1) ≤ tsum g n + g (n + 1); have a := ih (fun k a b => h k a (by omega)); have b := h (n + 1) (by omega) (by omega); omega
def nsum (f : Int → Int) : Nat → Int
  | 0 => 0
  | n + 1 => nsum f n + f n
theorem nsum_congr {f g : Int → Int} : ∀ (n : Nat), (∀ k : Int, 0 ≤ k → k < n → f k = g k) → nsum f n = nsum g n := by
  intro n
  induction n with
  | zero => intro _; rfl
  | succ n ih => intro h; show nsum f n + f n = nsum g n + g n; rw [ih (fun k a b => h k a (by omega)), h n (by omega) (by omega)]
theorem tsum_block {f : Int → Int} {a : Int} {N n : Nat} (h : ∀ k : Int, 1 ≤ k → k ≤ N → ¬ (a ≤ k ∧ k < a + n) → f k = 0) (a1 : 1 ≤ a) (aN : a + n ≤ N + 1) : tsum f N = nsum (fun i => f (a + i)) n := by
  have st : ∀ m : Nat, m ≤ n → tsum f ((a - 1).toNat + m) = nsum (fun i => f (a + i)) m := by
    intro m
    induction m with
    | zero => intro _; exact tsum_nil _ (fun k k1 k2 => h k k1 (by omega) (by omega))
    | succ m ih =>
      intro hm
      show tsum f ((a - 1).toNat + m) + f ((((a - 1).toNat + m : Nat) : Int) + 1) = nsum (fun i => f (a + i)) m + f (a + m)
      rw [ih (by omega), show (((a - 1).toNat + m : Nat) : Int) + 1 = a + m by omega]
  obtain ⟨r, hr⟩ : ∃ r : Nat, N = ((a - 1).toNat + n) + r := ⟨N - ((a - 1).toNat + n), by omega⟩
  rw [hr, tsum_zero _ r (fun k k1 k2 => h k (by omega) (by omega) (by omega))]
  exact st n (Nat.le_refl n)
/-- calls of c, all in a row -/
theorem tsum_kids {A T : Nat → Int → Int} {nF nS c : Int} {q f : Int → Int} (hg : tPg A nF nS) (h : tInv A T nF nS) (c0 : 0 ≤ c) (c1 : c < T 8 0) (ci : T 6 c = 1) : tsum (fun e => if q e = 1 ∧ T 0 e = c then f e else 0) (T 8 0 - 1).toNat = nsum (fun i => if q (T 5 c + i) = 1 then f (T 5 c + i) else 0) (A 1 (T 2 c)).toNat := by
  obtain ⟨⟨⟨p1, p2⟩, p3⟩, _, p4⟩ := h.2.2.2.2.2.1 c c0 c1 ci
  obtain ⟨r1, _⟩ := h.2.2.1 c c0 c1
  obtain ⟨⟨g1, g2, g3⟩, _, _⟩ := hg.2.1 (T 2 c) r1.1 r1.2
  rw [tsum_block (a := T 5 c) (n := (A 1 (T 2 c)).toNat) (fun k k1 k2 k3 => ?_) (by omega) (by omega)]
  · refine nsum_congr _ (fun i i0 i1 => ?_)
    have z := (p3 i i0 (by omega)).1
    show (if q (T 5 c + i) = 1 ∧ T 0 (T 5 c + i) = c then f (T 5 c + i) else 0) = _
    by_cases e : q (T 5 c + i) = 1
    · rw [if_pos ⟨e, z⟩, if_pos e]
    · rw [if_neg (fun w => by exact e w.1), if_neg e]
  · show (if q k = 1 ∧ T 0 k = c then f k else 0) = 0
    rw [if_neg (fun w => ?_)]
    have y := h.2.2.2.2.1 k k1 (by omega)
    rw [w.2] at y
    have y1 := y.2.1
    have y2 := y.2.2.1
    omega
theorem tForest {A T : Nat → Int → Int} {nF nS : Int} {q F own : Int → Int} (h : tInv A T nF nS) (hq : ∀ x : Int, 1 ≤ x → x < T 8 0 → q x = 1 → q (T 0 x) = 1) (hF : ∀ c : Int, 0 ≤ c → c < T 8 0 → q c = 1 → F c = own c + tsum (fun e => if q e = 1 ∧ T 0 e = c then F e else 0) (T 8 0 - 1).toNat) (q0 : q 0 = 1) : F 0 = own 0 + tsum (fun x => if q x = 1 then own x else 0) (T 8 0 - 1).toNat := by
  have b1 := h.2.1.1
  have key : ∀ (m : Nat) (c : Int), 0 ≤ c → c = T 8 0 - 1 - m → tsum (fun x => if q x = 1 ∧ c < x ∧ T 0 x ≤ c then F x else 0) (T 8 0 - 1).toNat = tsum (fun x => if q x = 1 ∧ c < x then own x else 0) (T 8 0 - 1).toNat := by
    intro m
    induction m with
    | zero =>
      intro c a e
      rw [tsum_nil _ (fun k k1 k2 => if_neg (fun z => by omega)), tsum_nil _ (fun k k1 k2 => if_neg (fun z => by omega))]
    | succ m ih =>
      intro c a e
      have i := ih (c + 1) (by omega) (by omega)
      have w1 : tsum (fun x => if q x = 1 ∧ c < x ∧ T 0 x ≤ c then F x else 0) (T 8 0 - 1).toNat = tsum (fun x => (zs (fun x => if q x = 1 ∧ c + 1 < x ∧ T 0 x ≤ c + 1 then F x else 0) (c + 1) (if q (c + 1) = 1 then F (c + 1) else 0)) x - (if q x = 1 ∧ T 0 x = c + 1 then F x else 0)) (T 8 0 - 1).toNat := by
        refine tsum_congr _ (fun x x1 x2 => ?_)
        have wx := h.1.2 x x1 (by omega)
        show (if q x = 1 ∧ c < x ∧ T 0 x ≤ c then F x else 0) = _
        by_cases xc : x = c + 1
        · rw [zs_pos xc, if_neg (fun (z : q x = 1 ∧ T 0 x = c + 1) => by omega), xc]
          by_cases qc : q (c + 1) = 1
          · rw [if_pos qc, if_pos ⟨qc, by omega, by rw [xc] at wx; omega⟩]; omega
          · rw [if_neg qc, if_neg (fun z => by exact qc z.1)]; rfl
        · rw [zs_neg xc]
          by_cases qx : q x = 1
          · by_cases y1 : T 0 x = c + 1
            · rw [if_neg (fun z => by omega), if_pos ⟨qx, by omega, by omega⟩, if_pos ⟨qx, y1⟩]; omega
            · rw [if_neg (fun (z : q x = 1 ∧ T 0 x = c + 1) => y1 z.2)]
              by_cases y2 : c < x ∧ T 0 x ≤ c
              · rw [if_pos ⟨qx, y2⟩, if_pos ⟨qx, by omega, by omega⟩]; omega
              · rw [if_neg (fun z => by exact y2 z.2), if_neg (fun z => by exact y2 (by omega))]; rfl
          · rw [if_neg (fun z => by exact qx z.1), if_neg (fun z => by exact qx z.1), if_neg (fun z => by exact qx z.1)]; rfl
      have w2 : tsum (fun x => if q x = 1 ∧ c < x then own x else 0) (T 8 0 - 1).toNat = tsum (zs (fun x => if q x = 1 ∧ c + 1 < x then own x else 0) (c + 1) (if q (c + 1) = 1 then own (c + 1) else 0)) (T 8 0 - 1).toNat := by
        refine tsum_congr _ (fun x x1 x2 => ?_)
        show (if q x = 1 ∧ c < x then own x else 0) = _
        by_cases xc : x = c + 1
        · rw [zs_pos xc, xc]
          by_cases qc : q (c + 1) = 1
          · rw [if_pos ⟨qc, by omega⟩, if_pos qc]
          · rw [if_neg (fun z => by exact qc z.1), if_neg qc]
        · rw [zs_neg xc]
          by_cases y : q x = 1 ∧ c < x
          · rw [if_pos y, if_pos ⟨y.1, by omega⟩]
          · rw [if_neg y, if_neg (fun z => by exact y ⟨z.1, by omega⟩)]
      rw [w1, w2, tsum_sub, tsum_zs _ (by omega) (by omega), tsum_zs _ (by omega) (by omega), i]
      rw [if_neg (fun (z : q (c + 1) = 1 ∧ c + 1 < c + 1 ∧ T 0 (c + 1) ≤ c + 1) => by omega), if_neg (fun (z : q (c + 1) = 1 ∧ c + 1 < c + 1) => by omega)]
      by_cases qc : q (c + 1) = 1
      · rw [if_pos qc, if_pos qc, hF (c + 1) (by omega) (by omega) qc]; omega
      · have tz : tsum (fun x => if q x = 1 ∧ T 0 x = c + 1 then F x else 0) (T 8 0 - 1).toNat = 0 := tsum_nil _ (fun x x1 x2 => if_neg (fun z => by
          have y := hq x x1 (by omega) z.1
          rw [z.2] at y
          exact qc y))
        rw [if_neg qc, if_neg qc, tz]
        omega
  have k0 := key (T 8 0 - 1).toNat 0 (by decide) (by omega)
  rw [hF 0 (by decide) (by omega) q0]
  have e1 : tsum (fun e => if q e = 1 ∧ T 0 e = 0 then F e else 0) (T 8 0 - 1).toNat = tsum (fun x => if q x = 1 ∧ 0 < x ∧ T 0 x ≤ 0 then F x else 0) (T 8 0 - 1).toNat := by
    refine tsum_congr _ (fun x x1 x2 => ?_)
    have wx := h.1.2 x x1 (by omega)
    show (if q x = 1 ∧ T 0 x = 0 then F x else 0) = _
    by_cases y : q x = 1 ∧ T 0 x = 0
    · rw [if_pos y, if_pos ⟨y.1, by omega, by omega⟩]
    · rw [if_neg y, if_neg (fun z => by exact y ⟨z.1, by omega⟩)]
  have e2 : tsum (fun x => if q x = 1 then own x else 0) (T 8 0 - 1).toNat = tsum (fun x => if q x = 1 ∧ 0 < x then own x else 0) (T 8 0 - 1).toNat := by
    refine tsum_congr _ (fun x x1 x2 => ?_)
    show (if q x = 1 then own x else 0) = _
    by_cases y : q x = 1
    · rw [if_pos y, if_pos ⟨y, by omega⟩]
    · rw [if_neg y, if_neg (fun z => by exact y z.1)]
  rw [e1, e2, k0]
/-- what a call adds to the chain above -/
def tcontr (A : Nat → Int → Int) (V : Nat → Int) (j : Nat) : Int := if j < 3 then (if tkeep A V = 1 then V j else 0) else V j
theorem tfold_sum {A T : Nat → Int → Int} {R : Int → Nat → Int} {c : Int} {j : Nat} : ∀ (m : Nat), tfold A T R c m j = tbase A T c j + nsum (fun i => if T 6 (T 5 c + i) = 1 then tcontr A (R (T 5 c + i)) j else 0) m := by
  intro m
  induction m with
  | zero => show tbase A T c j = tbase A T c j + 0; omega
  | succ m ih =>
    show (if T 6 (T 5 c + m) = 1 then tchild A (tfold A T R c m) (R (T 5 c + m)) else tfold A T R c m) j = tbase A T c j + (nsum (fun i => if T 6 (T 5 c + i) = 1 then tcontr A (R (T 5 c + i)) j else 0) m + (if T 6 (T 5 c + m) = 1 then tcontr A (R (T 5 c + m)) j else 0))
    by_cases e : T 6 (T 5 c + m) = 1
    · rw [if_pos e, if_pos e]
      unfold tchild tcontr
      by_cases j3 : j < 3
      · rw [if_pos j3, if_pos j3]
        by_cases k1 : tkeep A (R (T 5 c + m)) = 1
        · rw [if_pos k1, if_pos k1, ih]; unfold tcontr; omega
        · rw [if_neg k1, if_neg k1, ih]; unfold tcontr; omega
      · rw [if_neg j3, if_neg j3, ih]; unfold tcontr; omega
    · rw [if_neg e, if_neg e, ih]; omega
theorem tfold_all {A T : Nat → Int → Int} {nF nS c : Int} {j : Nat} (hg : tPg A nF nS) (h : tInv A T nF nS) (c0 : 0 ≤ c) (c1 : c < T 8 0) (ci : T 6 c = 1) : tfold A T (tV A T) c (A 1 (T 2 c)).toNat j = tbase A T c j + tsum (fun e => if T 6 e = 1 ∧ T 0 e = c then tcontr A (tV A T e) j else 0) (T 8 0 - 1).toNat := by
  rw [tfold_sum, tsum_kids (q := T 6) (f := fun e => tcontr A (tV A T e) j) hg h c0 c1 ci]
/-- what a call that goes takes away itself -/
def tgo (A T : Nat → Int → Int) (c : Int) (j : Nat) : Int := if c = 0 ∨ tkeep A (tV A T c) = 1 then 0 else if j = 3 then 1 else if j = 4 then tV A T c 0 else tV A T c 1
theorem tV_keep {A T : Nat → Int → Int} {nF nS c : Int} (h : tInv A T nF nS) (c0 : 0 ≤ c) (c1 : c < T 8 0) (ci : T 6 c = 1) : (∀ j : Nat, j < 3 → tV A T c j = tfold A T (tV A T) c (A 1 (T 2 c)).toNat j) ∧ tkeep A (tV A T c) = tkeep A (tfold A T (tV A T) c (A 1 (T 2 c)).toNat) := by
  have ve := tV_eq h c0 c1 ci
  have k3 : ∀ (S : Nat → Int) (j : Nat), j < 3 → tfin A c S j = S j := fun S j hj => by
    unfold tfin
    by_cases q : c = 0 ∨ tkeep A S = 1
    · rw [if_pos q]
    · rw [if_neg q, if_neg (by omega), if_neg (by omega), if_neg (by omega)]
  refine ⟨fun j hj => by rw [ve]; exact k3 _ j hj, ?_⟩
  rw [ve]; unfold tkeep; rw [k3 _ 1 (by decide), k3 _ 2 (by decide)]
theorem tV_go {A T : Nat → Int → Int} {nF nS c : Int} {j : Nat} (hg : tPg A nF nS) (h : tInv A T nF nS) (c0 : 0 ≤ c) (c1 : c < T 8 0) (ci : T 6 c = 1) (hj : j = 3 ∨ j = 4 ∨ j = 5) : tV A T c j = tgo A T c j + tsum (fun e => if T 6 e = 1 ∧ T 0 e = c then tV A T e j else 0) (T 8 0 - 1).toNat := by
  have kp := tV_keep h c0 c1 ci
  have fa := tfold_all (j := j) hg h c0 c1 ci
  have b0 : tbase A T c j = 0 := by unfold tbase; rw [if_neg (by omega), if_neg (by omega), if_neg (by omega)]
  have ct : ∀ V : Nat → Int, tcontr A V j = V j := fun V => if_neg (by omega)
  simp only [ct] at fa
  rw [b0] at fa
  have ve := congrFun (tV_eq h c0 c1 ci) j
  rw [ve]
  unfold tfin tgo
  rw [kp.2, kp.1 0 (by decide), kp.1 1 (by decide)]
  by_cases q : c = 0 ∨ tkeep A (tfold A T (tV A T) c (A 1 (T 2 c)).toNat) = 1
  · rw [if_pos q, if_pos q, fa]
  · rw [if_neg q, if_neg q]
    rcases hj with e | e | e
    · subst e; rw [if_pos rfl, if_pos rfl, fa]; omega
    · subst e; rw [if_neg (by decide), if_pos rfl, if_neg (by decide), if_pos rfl, fa]; omega
    · subst e; rw [if_neg (by decide), if_neg (by decide), if_pos rfl, if_neg (by decide), if_neg (by decide), fa]; omega
/-- all that is undone -/
theorem tV_all {A T : Nat → Int → Int} {nF nS : Int} {j : Nat} (hg : tPg A nF nS) (h : tInv A T nF nS) (hj : j = 3 ∨ j = 4 ∨ j = 5) : tV A T 0 j = tsum (fun x => if T 6 x = 1 then tgo A T x j else 0) (T 8 0 - 1).toNat := by
  have z := tForest (q := T 6) (F := fun c => tV A T c j) (own := fun c => tgo A T c j) h (fun x a b _ => (h.2.2.2.2.1 x a b).1) (fun c a b ci => tV_go hg h a b ci hj) h.2.2.2.1.1
  have g0 : tgo A T 0 j = 0 := by unfold tgo; rw [if_pos (Or.inl rfl)]
  have z : tV A T 0 j = tgo A T 0 j + tsum (fun x => if T 6 x = 1 then tgo A T x j else 0) (T 8 0 - 1).toNat := z
  rw [z, g0]; omega
