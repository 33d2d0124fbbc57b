/-! What a tree keeps to while it grows (no machine in it) -/
def tsum (f : Int → Int) : Nat → Int
  | 0 => 0
  | n + 1 => tsum f n + f (n + 1)
theorem tsum_congr {f g : Int → Int} : ∀ (n : Nat), (∀ k : Int, 1 ≤ k → k ≤ n → f k = g k) → tsum f n = tsum g n := by
  intro n
  induction n with
  | zero => intro _; rfl
  | succ n ih => intro h; show tsum f n + f (n + 1) = tsum g n + g (n + 1); rw [ih (fun k a b => h k a (by omega)), h (n + 1) (by omega) (by omega)]
theorem tsum_zero {f : Int → Int} (m : Nat) : ∀ (n : Nat), (∀ k : Int, (m : Int) < k → k ≤ m + n → f k = 0) → tsum f (m + n) = tsum f m := by
  intro n
  induction n with
  | zero => intro _; rfl
  | succ n ih => intro h; show tsum f (m + n) + f ((m + n : Nat) + 1) = tsum f m; rw [ih (fun k a b => h k a (by omega)), h _ (by omega) (by omega)]; omega
theorem tsum_le {f : Int → Int} : ∀ (n : Nat), (∀ k : Int, 1 ≤ k → k ≤ n → 0 ≤ f k ∧ f k ≤ 1) → 0 ≤ tsum f n ∧ tsum f n ≤ n := by
  intro n
  induction n with
  | zero => intro _; show (0 : Int) ≤ 0 ∧ (0 : Int) ≤ 0; omega
  | succ n ih => intro h; show 0 ≤ tsum f n + f (n + 1) ∧ tsum f n + f (n + 1) ≤ _; have a := ih (fun k a b => h k a (by omega)); have b := h (n + 1) (by omega) (by omega); omega
theorem tsum_zs {f : Int → Int} {c v : Int} : ∀ (n : Nat), 1 ≤ c → c ≤ n → tsum (zs f c v) n = tsum f n - f c + v := by
  intro n
  induction n with
  | zero => intro a b; omega
  | succ n ih =>
    intro a b
    show tsum (zs f c v) n + zs f c v (n + 1) = tsum f n + f (n + 1) - f c + v
    by_cases e : c = n + 1
    · rw [zs_pos e.symm, tsum_congr (f := zs f c v) (g := f) n (fun k k1 k2 => zs_neg (by omega)), e]; omega
    · rw [zs_neg (fun z => e z.symm), ih a (by omega)]; omega
/-- a tree, one of whose calls is just opened and has no calls yet -/
def tInvL (A T : Nat → Int → Int) (nF nS c : Int) : Prop :=
  tWT (T 0) (T 3) (T 8 0) ∧ (1 ≤ T 8 0 ∧ T 8 0 + A 1 (T 2 c) ≤ 1 + T 8 1 ∧ T 8 1 ≤ 300) ∧
  (∀ k : Int, 0 ≤ k → k < T 8 0 → (0 ≤ T 2 k ∧ T 2 k < nF) ∧ (T 6 k = 0 ∨ T 6 k = 1)) ∧ (T 6 0 = 1 ∧ T 4 0 = 0) ∧
  (∀ k : Int, 1 ≤ k → k < T 8 0 → (T 6 (T 0 k) = 1 ∧ ¬ T 0 k = c) ∧ (A 0 (T 2 (T 0 k)) ≤ T 1 k ∧ T 1 k < A 0 (T 2 (T 0 k)) + A 1 (T 2 (T 0 k))) ∧ k = T 5 (T 0 k) + (T 1 k - A 0 (T 2 (T 0 k))) ∧ T 2 k = A 2 (T 1 k) ∧ T 7 k = heatv (T 7 (T 0 k)) (A 7 (T 1 k)) (A 6 (T 2 (T 0 k))) ∧ ((T 4 k = 0 ∧ T 6 k = 0) ∨ (1 ≤ T 4 k ∧ T 6 k = 1)) ∧ T 4 k ≤ T 8 2) ∧
  (∀ k : Int, 0 ≤ k → k < T 8 0 → T 6 k = 1 → (¬ k = c → (k < T 5 k ∧ T 5 k + A 1 (T 2 k) ≤ T 8 0) ∧ (∀ j : Int, 0 ≤ j → j < A 1 (T 2 k) → T 0 (T 5 k + j) = k ∧ T 1 (T 5 k + j) = A 0 (T 2 k) + j)) ∧ (∀ g : Int, tcn (T 2) (T 0) g (T 3 k) k ≤ 4) ∧ T 3 k ≤ 31) ∧
  tsum (T 6) (T 8 0 - 1).toNat = T 8 2 ∧ (0 ≤ c ∧ c < T 8 0 ∧ T 6 c = 1)
def tInv (A T : Nat → Int → Int) (nF nS : Int) : Prop :=
  tWT (T 0) (T 3) (T 8 0) ∧ (1 ≤ T 8 0 ∧ T 8 0 ≤ 1 + T 8 1 ∧ T 8 1 ≤ 300) ∧
  (∀ k : Int, 0 ≤ k → k < T 8 0 → (0 ≤ T 2 k ∧ T 2 k < nF) ∧ (T 6 k = 0 ∨ T 6 k = 1)) ∧ (T 6 0 = 1 ∧ T 4 0 = 0) ∧
  (∀ k : Int, 1 ≤ k → k < T 8 0 → T 6 (T 0 k) = 1 ∧ (A 0 (T 2 (T 0 k)) ≤ T 1 k ∧ T 1 k < A 0 (T 2 (T 0 k)) + A 1 (T 2 (T 0 k))) ∧ k = T 5 (T 0 k) + (T 1 k - A 0 (T 2 (T 0 k))) ∧ T 2 k = A 2 (T 1 k) ∧ T 7 k = heatv (T 7 (T 0 k)) (A 7 (T 1 k)) (A 6 (T 2 (T 0 k))) ∧ ((T 4 k = 0 ∧ T 6 k = 0) ∨ (1 ≤ T 4 k ∧ T 6 k = 1)) ∧ T 4 k ≤ T 8 2) ∧
  (∀ k : Int, 0 ≤ k → k < T 8 0 → T 6 k = 1 → ((k < T 5 k ∧ T 5 k + A 1 (T 2 k) ≤ T 8 0) ∧ (∀ j : Int, 0 ≤ j → j < A 1 (T 2 k) → T 0 (T 5 k + j) = k ∧ T 1 (T 5 k + j) = A 0 (T 2 k) + j)) ∧ (∀ g : Int, tcn (T 2) (T 0) g (T 3 k) k ≤ 4) ∧ T 3 k ≤ 31) ∧
  tsum (T 6) (T 8 0 - 1).toNat = T 8 2
theorem tInv_lay {A T T' : Nat → Int → Int} {nF nS c : Int} (hg : tPg A nF nS) (h : tInvL A T nF nS c)
    (e0 : T' 0 = zfr (T 0) (T 8 0) (A 1 (T 2 c)) (fun _ => c)) (e1 : T' 1 = zfr (T 1) (T 8 0) (A 1 (T 2 c)) (fun j => A 0 (T 2 c) + j)) (e2 : T' 2 = zfr (T 2) (T 8 0) (A 1 (T 2 c)) (fun j => A 2 (A 0 (T 2 c) + j))) (e3 : T' 3 = zfr (T 3) (T 8 0) (A 1 (T 2 c)) (fun _ => T 3 c + 1)) (e4 : T' 4 = zfr (T 4) (T 8 0) (A 1 (T 2 c)) (fun _ => 0)) (e5 : T' 5 = zs (T 5) c (T 8 0)) (e6 : T' 6 = zfr (T 6) (T 8 0) (A 1 (T 2 c)) (fun _ => 0)) (e7 : T' 7 = zfr (T 7) (T 8 0) (A 1 (T 2 c)) (fun j => heatv (T 7 c) (A 7 (A 0 (T 2 c) + j)) (A 6 (T 2 c)))) (e80 : T' 8 0 = T 8 0 + A 1 (T 2 c)) (e81 : T' 8 1 = T 8 1) (e82 : T' 8 2 = T 8 2) : tInv A T' nF nS := by
  obtain ⟨w, ⟨b1, b2, b3⟩, r, ⟨z6, z4⟩, q, p, s, ⟨c0, c1, cI⟩⟩ := h
  obtain ⟨rc, _⟩ := r c c0 c1
  obtain ⟨⟨g1, g2, g3⟩, _, _⟩ := hg.2.1 (T 2 c) rc.1 rc.2
  have o0 : ∀ k : Int, k < T 8 0 → T' 0 k = T 0 k := fun k hk => by rw [e0]; exact zfr_out (Or.inl hk)
  have o1 : ∀ k : Int, k < T 8 0 → T' 1 k = T 1 k := fun k hk => by rw [e1]; exact zfr_out (Or.inl hk)
  have o2 : ∀ k : Int, k < T 8 0 → T' 2 k = T 2 k := fun k hk => by rw [e2]; exact zfr_out (Or.inl hk)
  have o3 : ∀ k : Int, k < T 8 0 → T' 3 k = T 3 k := fun k hk => by rw [e3]; exact zfr_out (Or.inl hk)
  have o4 : ∀ k : Int, k < T 8 0 → T' 4 k = T 4 k := fun k hk => by rw [e4]; exact zfr_out (Or.inl hk)
  have o6 : ∀ k : Int, k < T 8 0 → T' 6 k = T 6 k := fun k hk => by rw [e6]; exact zfr_out (Or.inl hk)
  have o7 : ∀ k : Int, k < T 8 0 → T' 7 k = T 7 k := fun k hk => by rw [e7]; exact zfr_out (Or.inl hk)
  have n0 : ∀ k : Int, T 8 0 ≤ k → k < T 8 0 + A 1 (T 2 c) → T' 0 k = c := fun k h1 h2 => by rw [e0]; exact zfr_in ⟨h1, h2⟩
  have n1 : ∀ k : Int, T 8 0 ≤ k → k < T 8 0 + A 1 (T 2 c) → T' 1 k = A 0 (T 2 c) + (k - T 8 0) := fun k h1 h2 => by rw [e1]; exact zfr_in ⟨h1, h2⟩
  have n2 : ∀ k : Int, T 8 0 ≤ k → k < T 8 0 + A 1 (T 2 c) → T' 2 k = A 2 (A 0 (T 2 c) + (k - T 8 0)) := fun k h1 h2 => by rw [e2]; exact zfr_in ⟨h1, h2⟩
  have n4 : ∀ k : Int, T 8 0 ≤ k → k < T 8 0 + A 1 (T 2 c) → T' 4 k = 0 := fun k h1 h2 => by rw [e4]; exact zfr_in ⟨h1, h2⟩
  have n6 : ∀ k : Int, T 8 0 ≤ k → k < T 8 0 + A 1 (T 2 c) → T' 6 k = 0 := fun k h1 h2 => by rw [e6]; exact zfr_in ⟨h1, h2⟩
  have n7 : ∀ k : Int, T 8 0 ≤ k → k < T 8 0 + A 1 (T 2 c) → T' 7 k = heatv (T 7 c) (A 7 (A 0 (T 2 c) + (k - T 8 0))) (A 6 (T 2 c)) := fun k h1 h2 => by rw [e7]; exact zfr_in ⟨h1, h2⟩
  have f5 : ∀ k : Int, ¬ k = c → T' 5 k = T 5 k := fun k hk => by rw [e5]; exact zs_neg hk
  have f5c : T' 5 c = T 8 0 := by rw [e5]; exact zs_pos rfl
  have tc : ∀ g k : Int, 0 ≤ k → k < T 8 0 → tcn (T' 2) (T' 0) g (T' 3 k) k = tcn (T 2) (T 0) g (T 3 k) k := fun g k k0 k1 => by
    rw [o3 k k1, e2, e0]; exact tcn_zfr w k0 k1 (Int.le_refl _)
  refine ⟨?_, ⟨?_, ?_, ?_⟩, ?_, ⟨?_, ?_⟩, ?_, ?_, ?_⟩
  · rw [e0, e3, e80]; exact tWT_zfr w b1 g2 ⟨c0, c1⟩
  · omega
  · omega
  · omega
  · intro k k0 k1
    by_cases hk : k < T 8 0
    · rw [o2 k hk, o6 k hk]; exact r k k0 hk
    · rw [n2 k (by omega) (by omega), n6 k (by omega) (by omega)]
      exact ⟨(hg.2.2.1 _ (by omega) (by omega)).1, Or.inl rfl⟩
  · rw [o6 0 (by omega)]; exact z6
  · rw [o4 0 (by omega)]; exact z4
  · intro k k0 k1
    by_cases hk : k < T 8 0
    · obtain ⟨⟨q1, q2⟩, q3, q4, q5, q6, q7, q8⟩ := q k k0 hk
      have wu := w.2 k k0 hk
      rw [o0 k hk, o1 k hk, o2 k hk, o4 k hk, o6 k hk, o7 k hk, o6 _ (by omega), o2 _ (by omega), o7 _ (by omega), f5 _ q2, e82]
      exact ⟨q1, q3, q4, q5, q6, q7, q8⟩
    · have a1 : T 8 0 ≤ k := by omega
      have a2 : k < T 8 0 + A 1 (T 2 c) := by omega
      rw [n0 k a1 a2, n1 k a1 a2, n2 k a1 a2, n4 k a1 a2, n6 k a1 a2, n7 k a1 a2, o6 c c1, o2 c c1, o7 c c1, f5c, e82]
      have t0 := tsum_le (f := T 6) (T 8 0 - 1).toNat (fun k x y => by have := (r k (by omega) (by omega)).2; omega)
      exact ⟨cI, ⟨by omega, by omega⟩, by omega, rfl, rfl, Or.inl ⟨rfl, rfl⟩, by omega⟩
  · intro k k0 k1 hi
    by_cases hk : k < T 8 0
    · rw [o6 k hk] at hi
      obtain ⟨p1, p2, p3⟩ := p k k0 hk hi
      refine ⟨?_, fun g => by rw [tc g k k0 hk]; exact p2 g, by rw [o3 k hk]; exact p3⟩
      by_cases hc : k = c
      · subst hc
        rw [f5c, o2 k hk]
        refine ⟨⟨by omega, by omega⟩, fun j j0 j1 => ?_⟩
        rw [n0 _ (by omega) (by omega), n1 _ (by omega) (by omega)]
        exact ⟨rfl, by omega⟩
      · obtain ⟨⟨u1, u2⟩, u3⟩ := p1 hc
        rw [f5 k hc, o2 k hk]
        refine ⟨⟨u1, by omega⟩, fun j j0 j1 => ?_⟩
        rw [o0 _ (by omega), o1 _ (by omega)]
        exact u3 j j0 j1
    · rw [n6 k (by omega) (by omega)] at hi
      exact absurd hi (by decide)
  · rw [e80, e82, ← s, e6]
    obtain ⟨n, hn⟩ : ∃ n : Nat, A 1 (T 2 c) = n := ⟨(A 1 (T 2 c)).toNat, by omega⟩
    rw [hn]
    rw [show (T 8 0 + (n : Int) - 1).toNat = (T 8 0 - 1).toNat + n by omega]
    rw [tsum_zero (T 8 0 - 1).toNat n (fun k x y => zfr_in (by omega))]
    exact tsum_congr _ (fun k x y => zfr_out (by omega))
theorem tcn_all {fn up deep : Int → Int} {m : Int} (h : tWT up deep m) (hf : ∀ k : Int, 0 ≤ k → k < m → 0 ≤ fn k ∧ fn k < 8) : ∀ (n : Nat) (c : Int), 0 ≤ c → c < m → c < n → tcn fn up 0 (deep c) c + tcn fn up 1 (deep c) c + tcn fn up 2 (deep c) c + tcn fn up 3 (deep c) c + tcn fn up 4 (deep c) c + tcn fn up 5 (deep c) c + tcn fn up 6 (deep c) c + tcn fn up 7 (deep c) c = deep c + 1 := by
  intro n
  induction n with
  | zero => intro c a b d; omega
  | succ n ih =>
    intro c a b d
    have dc := tWT_d h a b
    have fc := hf c a b
    have e1 : (if fn c = 0 then (1 : Int) else 0) + (if fn c = 1 then 1 else 0) + (if fn c = 2 then 1 else 0) + (if fn c = 3 then 1 else 0) + (if fn c = 4 then 1 else 0) + (if fn c = 5 then 1 else 0) + (if fn c = 6 then 1 else 0) + (if fn c = 7 then 1 else 0) = 1 := by
      rcases (by omega : fn c = 0 ∨ fn c = 1 ∨ fn c = 2 ∨ fn c = 3 ∨ fn c = 4 ∨ fn c = 5 ∨ fn c = 6 ∨ fn c = 7) with e | e | e | e | e | e | e | e <;> rw [e] <;> decide
    have st := fun g : Int => tcn_step (fn := fn) (up := up) (g := g) (l := deep c) (c := c) dc.1
    rw [st 0, st 1, st 2, st 3, st 4, st 5, st 6, st 7]
    by_cases h0 : c = 0
    · subst h0
      have dz := h.1.2
      have ng := fun g : Int => tcn_neg (fn := fn) (up := up) (g := g) (l := deep 0 - 1) (c := up 0) (by omega)
      rw [ng 0, ng 1, ng 2, ng 3, ng 4, ng 5, ng 6, ng 7]; omega
    · have q := h.2 c (by omega) b
      have i := ih (up c) (by omega) (by omega) (by omega)
      rw [show deep c - 1 = deep (up c) by omega]
      omega
theorem tpick_may {A T : Nat → Int → Int} : ∀ (n : Nat), tpick A T n = -1 ∨ (1 ≤ tpick A T n ∧ tpick A T n ≤ n ∧ ¬ tmay A T (tpick A T n) = 0) := by
  intro n
  induction n with
  | zero => exact Or.inl rfl
  | succ n ih =>
    show (if tmay A T (n + 1) = 0 then tpick A T n else if tpick A T n = -1 then ((n : Int) + 1) else if tahead A T (n + 1) (tpick A T n) = 0 then tpick A T n else (n + 1)) = -1 ∨ _
    have hs : tpick A T (n + 1) = (if tmay A T (n + 1) = 0 then tpick A T n else if tpick A T n = -1 then ((n : Int) + 1) else if tahead A T (n + 1) (tpick A T n) = 0 then tpick A T n else (n + 1)) := rfl
    rw [hs]
    have up : ((tpick A T n = -1) ∨ (1 ≤ tpick A T n ∧ tpick A T n ≤ ((n + 1 : Nat) : Int) ∧ ¬ tmay A T (tpick A T n) = 0)) := by
      rcases ih with h | h
      · exact Or.inl h
      · exact Or.inr ⟨h.1, by omega, h.2.2⟩
    by_cases h1 : tmay A T (n + 1) = 0
    · rw [if_pos h1]; exact up
    · rw [if_neg h1]
      by_cases h2 : tpick A T n = -1
      · rw [if_pos h2]; exact Or.inr ⟨by omega, by omega, h1⟩
      · rw [if_neg h2]
        by_cases h3 : tahead A T (n + 1) (tpick A T n) = 0
        · rw [if_pos h3]; exact up
        · rw [if_neg h3]; exact Or.inr ⟨by omega, by omega, h1⟩
theorem tw_may {A T : Nat → Int → Int} (h : ¬ tw A T = -1) : (1 ≤ tw A T ∧ tw A T < T 8 0) ∧ T 6 (tw A T) = 0 ∧ 1 ≤ T 7 (tw A T) ∧ trec A T (tw A T) = 0 ∧ T 8 1 + A 3 (T 2 (tw A T)) ≤ A 8 0 := by
  rcases tpick_may (A := A) (T := T) (T 8 0 - 1).toNat with q | ⟨q1, q2, q3⟩
  · exact absurd q h
  · have q4 : tmayC (T 6 (tw A T)) (T 7 (tw A T)) (trec A T (tw A T)) (T 8 1 + A 3 (T 2 (tw A T))) (A 8 0) ≠ 0 := q3
    unfold tmayC at q4
    by_cases hh : T 6 (tw A T) = 0 ∧ 1 ≤ T 7 (tw A T) ∧ trec A T (tw A T) = 0 ∧ T 8 1 + A 3 (T 2 (tw A T)) ≤ A 8 0
    · refine ⟨⟨q1, ?_⟩, hh⟩
      have : tw A T ≤ ((T 8 0 - 1).toNat : Int) := q2
      have : 1 ≤ tw A T := q1
      omega
    · rw [if_neg hh] at q4; exact absurd rfl q4
theorem tInv_mark {A T : Nat → Int → Int} {nF nS : Int} (hg : tPg A nF nS) (h : tInv A T nF nS) (hw : ¬ tw A T = -1) : tInvL A (tT (T 0) (T 1) (T 2) (T 3) (zs (T 4) (tw A T) (T 8 2 + 1)) (T 5) (zs (T 6) (tw A T) 1) (T 7) (T 8 0) (T 8 1 + A 3 (T 2 (tw A T))) (T 8 2 + 1)) nF nS (tw A T) := by
  obtain ⟨⟨m1, m2⟩, m3, m4, m5, m6⟩ := tw_may hw
  generalize tw A T = c at *
  obtain ⟨w, ⟨b1, b2, b3⟩, r, ⟨z6, z4⟩, q, p, s⟩ := h
  obtain ⟨rc, _⟩ := r c (by omega) m2
  obtain ⟨_, ⟨g4, g5, g6⟩, _⟩ := hg.2.1 (T 2 c) rc.1 rc.2
  obtain ⟨⟨s0, s1⟩, _, s2, s3⟩ := hg.2.2.2
  have wc := w.2 c m1 m2
  obtain ⟨q1, q3, q4, q5, q6, q7, q8⟩ := q c m1 m2
  have t0 := tsum_le (f := T 6) (T 8 0 - 1).toNat (fun k x y => by have := (r k (by omega) (by omega)).2; omega)
  have pu := p (T 0 c) wc.1 (by omega) q1
  have tcc : ∀ g : Int, tcn (T 2) (T 0) g (T 3 c) c ≤ 4 := fun g => by
    rw [tcn_step (by have := tWT_d w (k := c) (by omega) m2; omega)]
    have pg := pu.2.1 g
    rw [show T 3 c - 1 = T 3 (T 0 c) by omega]
    by_cases e : T 2 c = g
    · rw [if_pos e]
      have m5' := m5
      unfold trec at m5'
      by_cases hh : A 8 2 < tcn (T 2) (T 0) (T 2 c) (T 3 c - 1) (T 0 c)
      · rw [if_pos hh] at m5'; exact absurd m5' (by decide)
      · rw [show T 3 c - 1 = T 3 (T 0 c) by omega, e] at hh; omega
    · rw [if_neg e]; omega
  have al := tcn_all (fn := T 2) w (fun k k0 k1 => by have rr := (r k k0 k1).1; have r8 := hg.1.1.2; omega) (c.toNat + 1) c (by omega) m2 (by omega)
  have tz := fun g : Int => tcc g
  have d31 : T 3 c ≤ 31 := by
    have x0 := tz 0; have x1 := tz 1; have x2 := tz 2; have x3 := tz 3; have x4 := tz 4; have x5 := tz 5; have x6 := tz 6; have x7 := tz 7
    omega
  refine ⟨w, ⟨b1, ?_, ?_⟩, ?_, ⟨?_, ?_⟩, ?_, ?_, ?_, ⟨by omega, m2, ?_⟩⟩
  · show T 8 0 + A 1 (T 2 c) ≤ 1 + (T 8 1 + A 3 (T 2 c)); omega
  · show T 8 1 + A 3 (T 2 c) ≤ 300; omega
  · intro k k0 k1
    have k1 : k < T 8 0 := k1
    show (0 ≤ T 2 k ∧ T 2 k < nF) ∧ (zs (T 6) c 1 k = 0 ∨ zs (T 6) c 1 k = 1)
    refine ⟨(r k k0 k1).1, ?_⟩
    by_cases e : k = c
    · rw [zs_pos e]; exact Or.inr rfl
    · rw [zs_neg e]; exact (r k k0 k1).2
  · show zs (T 6) c 1 0 = 1
    rw [zs_neg (by omega)]; exact z6
  · show zs (T 4) c (T 8 2 + 1) 0 = 0
    rw [zs_neg (by omega)]; exact z4
  · intro k k0 k1
    have k1 : k < T 8 0 := k1
    obtain ⟨x1, x3, x4, x5, x6, x7, x8⟩ := q k k0 k1
    have nc : ¬ T 0 k = c := fun e => by rw [e, m3] at x1; exact absurd x1 (by decide)
    refine ⟨⟨?_, nc⟩, x3, x4, x5, x6, ?_, ?_⟩
    · show zs (T 6) c 1 (T 0 k) = 1
      rw [zs_neg nc]; exact x1
    · show (zs (T 4) c (T 8 2 + 1) k = 0 ∧ zs (T 6) c 1 k = 0) ∨ (1 ≤ zs (T 4) c (T 8 2 + 1) k ∧ zs (T 6) c 1 k = 1)
      by_cases e : k = c
      · rw [zs_pos e, zs_pos e]; exact Or.inr ⟨by omega, rfl⟩
      · rw [zs_neg e, zs_neg e]; exact x7
    · show zs (T 4) c (T 8 2 + 1) k ≤ T 8 2 + 1
      by_cases e : k = c
      · rw [zs_pos e]; omega
      · rw [zs_neg e]; omega
  · intro k k0 k1 hi
    have k1 : k < T 8 0 := k1
    by_cases e : k = c
    · subst e
      exact ⟨fun z => absurd rfl z, tcc, d31⟩
    · have hi : zs (T 6) c 1 k = 1 := hi
      rw [zs_neg e] at hi
      obtain ⟨p1, p2, p3⟩ := p k k0 k1 hi
      exact ⟨fun _ => p1, p2, p3⟩
  · show tsum (zs (T 6) c 1) (T 8 0 - 1).toNat = T 8 2 + 1
    rw [tsum_zs _ m1 (by omega), s, m3]; omega
  · show zs (T 6) c 1 c = 1
    exact zs_pos rfl
theorem tInv_open {A T : Nat → Int → Int} {nF nS : Int} (hg : tPg A nF nS) (h : tInv A T nF nS) (hw : ¬ tw A T = -1) : tInv A (topen A T (tw A T)) nF nS :=
  tInv_lay hg (tInv_mark hg h hw) rfl rfl rfl rfl rfl rfl rfl rfl rfl rfl rfl
theorem tInv_opens {A : Nat → Int → Int} {nF nS : Int} (hg : tPg A nF nS) : ∀ (n : Nat) (T T' : Nat → Int → Int), tInv A T nF nS → tOpens A n T T' → tInv A T' nF nS := by
  intro n
  induction n with
  | zero => intro T T' h e; exact e ▸ h
  | succ n ih => intro T T' h e; exact ih _ _ (tInv_open hg h e.1) e.2
theorem tOpens_snoc {A : Nat → Int → Int} : ∀ (n : Nat) (T T' : Nat → Int → Int), tOpens A n T T' → ¬ tw A T' = -1 → tOpens A (n + 1) T (topen A T' (tw A T')) := by
  intro n
  induction n with
  | zero => intro T T' h e; have h : T = T' := h; subst h; exact ⟨e, rfl⟩
  | succ n ih => intro T T' h e; exact ⟨h.1, ih _ _ h.2 e⟩
theorem tInv_few {A T : Nat → Int → Int} {nF nS : Int} (h : tInv A T nF nS) : 0 ≤ T 8 2 ∧ T 8 2 ≤ T 8 0 - 1 ∧ T 8 0 ≤ 301 := by
  obtain ⟨w, ⟨b1, b2, b3⟩, r, ⟨z6, z4⟩, q, p, s⟩ := h
  have t0 := tsum_le (f := T 6) (T 8 0 - 1).toNat (fun k x y => by have := (r k (by omega) (by omega)).2; omega)
  omega
/-- the root alone -/
def troot (T : Nat → Int → Int) (f e z : Int) : Nat → Int → Int := tT (zs (T 0) 0 (-1)) (zs (T 1) 0 (-2)) (zs (T 2) 0 f) (zs (T 3) 0 0) (zs (T 4) 0 0) (T 5) (zs (T 6) 0 1) (zs (T 7) 0 e) 1 z 0
theorem tInv_root {A T : Nat → Int → Int} {nF nS f e z : Int} (hf : 0 ≤ f ∧ f < nF) (hz : A 1 f ≤ z ∧ z ≤ 300) (h8 : nF ≤ 8) : tInvL A (troot T f e z) nF nS 0 := by
  have u0 : (troot T f e z) 0 0 = -1 := (show zs (T 0) 0 (-1) 0 = -1 from zs_pos rfl)
  have u2 : (troot T f e z) 2 0 = f := (show zs (T 2) 0 f 0 = f from zs_pos rfl)
  have u3 : (troot T f e z) 3 0 = 0 := (show zs (T 3) 0 0 0 = 0 from zs_pos rfl)
  have u4 : (troot T f e z) 4 0 = 0 := (show zs (T 4) 0 0 0 = 0 from zs_pos rfl)
  have u6 : (troot T f e z) 6 0 = 1 := (show zs (T 6) 0 1 0 = 1 from zs_pos rfl)
  have v0 : (troot T f e z) 8 0 = 1 := rfl
  have v1 : (troot T f e z) 8 1 = z := rfl
  have v2 : (troot T f e z) 8 2 = 0 := rfl
  generalize troot T f e z = R at *
  refine ⟨⟨⟨u0, u3⟩, fun k a b => by omega⟩, ⟨by omega, by rw [u2]; omega, by omega⟩, fun k a b => ?_, ⟨u6, u4⟩, fun k a b => by omega, fun k a b hi => ?_, ?_, ⟨by decide, by omega, u6⟩⟩
  · rw [show k = 0 by omega, u2, u6]; exact ⟨hf, Or.inr rfl⟩
  · rw [show k = 0 by omega]
    refine ⟨fun z => absurd rfl z, fun g => ?_, by omega⟩
    rw [u3, tcn_step (by decide), tcn_neg (by decide)]
    split <;> omega
  · rw [v0, v2]; rfl
/-- all gains of the calls ever opened -/
def tgs (A T : Nat → Int → Int) : Int := tsum (fun k => if T 4 k = 0 then 0 else town A T k) (T 8 0 - 1).toNat
theorem tCX_lay {A T T' : Nat → Int → Int} {o w g o' w' g' : Int → Int} {c : Int} (h : tCX A T o w g) (hw : tWT (T 0) (T 3) (T 8 0)) (hc : 0 ≤ c ∧ c < T 8 0)
    (e0 : T' 0 = zfr (T 0) (T 8 0) (A 1 (T 2 c)) (fun _ => c)) (e1 : T' 1 = zfr (T 1) (T 8 0) (A 1 (T 2 c)) (fun j => A 0 (T 2 c) + j)) (e2 : T' 2 = zfr (T 2) (T 8 0) (A 1 (T 2 c)) (fun j => A 2 (A 0 (T 2 c) + j))) (e3 : T' 3 = zfr (T 3) (T 8 0) (A 1 (T 2 c)) (fun _ => T 3 c + 1)) (e7 : T' 7 = zfr (T 7) (T 8 0) (A 1 (T 2 c)) (fun j => heatv (T 7 c) (A 7 (A 0 (T 2 c) + j)) (A 6 (T 2 c)))) (e80 : T' 8 0 = T 8 0 + A 1 (T 2 c))
    (f1 : o' = zfr o (T 8 0) (A 1 (T 2 c)) (fun j => if A 8 2 < tcn (T 2) (T 0) (A 2 (A 0 (T 2 c) + j)) (T 3 c) c then 1 else 0)) (f2 : w' = zfr w (T 8 0) (A 1 (T 2 c)) (fun j => worthv (heatv (T 7 c) (A 7 (A 0 (T 2 c) + j)) (A 6 (T 2 c))) (A 8 1) (A 5 (A 0 (T 2 c) + j)) (A 3 (A 2 (A 0 (T 2 c) + j))))) (f3 : g' = zfr g (T 8 0) (A 1 (T 2 c)) (fun j => w64 (heatv (T 7 c) (A 7 (A 0 (T 2 c) + j)) (A 6 (T 2 c)) * (A 8 1 - A 4 (A 2 (A 0 (T 2 c) + j)))))) : tCX A T' o' w' g' := by
  intro k k0 k1
  by_cases hk : k < T 8 0
  · obtain ⟨h1, h2, h3⟩ := h k k0 hk
    have a0 : T' 0 k = T 0 k := by rw [e0]; exact zfr_out (Or.inl hk)
    have a1 : T' 1 k = T 1 k := by rw [e1]; exact zfr_out (Or.inl hk)
    have a2 : T' 2 k = T 2 k := by rw [e2]; exact zfr_out (Or.inl hk)
    have a3 : T' 3 k = T 3 k := by rw [e3]; exact zfr_out (Or.inl hk)
    have a7 : T' 7 k = T 7 k := by rw [e7]; exact zfr_out (Or.inl hk)
    have wu := hw.2 k k0 hk
    refine ⟨?_, ?_, ?_⟩
    · rw [f1, zfr_out (Or.inl hk), h1]
      unfold trec
      rw [a0, a2, a3, e2, e0, tcn_zfr hw wu.1 (by omega) (by omega)]
    · rw [f2, zfr_out (Or.inl hk), h2]
      unfold tworth
      rw [a1, a2, a7]
    · rw [f3, zfr_out (Or.inl hk), h3]
      unfold town
      rw [a2, a7]
  · have i1 : T 8 0 ≤ k ∧ k < T 8 0 + A 1 (T 2 c) := ⟨by omega, by omega⟩
    have a0 : T' 0 k = c := by rw [e0]; exact zfr_in i1
    have a1 : T' 1 k = A 0 (T 2 c) + (k - T 8 0) := by rw [e1]; exact zfr_in i1
    have a2 : T' 2 k = A 2 (A 0 (T 2 c) + (k - T 8 0)) := by rw [e2]; exact zfr_in i1
    have a3 : T' 3 k = T 3 c + 1 := by rw [e3]; exact zfr_in i1
    have a7 : T' 7 k = heatv (T 7 c) (A 7 (A 0 (T 2 c) + (k - T 8 0))) (A 6 (T 2 c)) := by rw [e7]; exact zfr_in i1
    refine ⟨?_, ?_, ?_⟩
    · rw [f1, zfr_in i1]
      unfold trec
      rw [a0, a2, a3, e2, e0, show T 3 c + 1 - 1 = T 3 c by omega, tcn_zfr hw hc.1 hc.2 (Int.le_refl _)]
    · rw [f2, zfr_in i1]
      unfold tworth
      rw [a1, a2, a7]
    · rw [f3, zfr_in i1]
      unfold town
      rw [a2, a7]
theorem w64_w64 (x : Int) : w64 (w64 x) = w64 x := by unfold w64; omega
theorem w64_add (x y : Int) : w64 (w64 x + y) = w64 (x + y) := by unfold w64; omega
theorem tgs_open {A T : Nat → Int → Int} {nF nS : Int} (hg : tPg A nF nS) (h : tInv A T nF nS) (hw : ¬ tw A T = -1) : tgs A (topen A T (tw A T)) = tgs A T + town A T (tw A T) := by
  obtain ⟨⟨m1, m2⟩, m3, m4, m5, m6⟩ := tw_may hw
  generalize tw A T = c at *
  obtain ⟨w, ⟨b1, b2, b3⟩, r, ⟨z6, z4⟩, q, p, s⟩ := h
  obtain ⟨rc, _⟩ := r c (by omega) m2
  obtain ⟨⟨g1, g2, g3⟩, _, _⟩ := hg.2.1 (T 2 c) rc.1 rc.2
  have o0 : T 4 c = 0 := by
    obtain ⟨_, _, _, _, _, q7, _⟩ := q c m1 m2
    omega
  have e4 : (topen A T c) 4 = zfr (zs (T 4) c (T 8 2 + 1)) (T 8 0) (A 1 (T 2 c)) (fun _ => 0) := rfl
  have e2 : (topen A T c) 2 = zfr (T 2) (T 8 0) (A 1 (T 2 c)) (fun j => A 2 (A 0 (T 2 c) + j)) := rfl
  have e7 : (topen A T c) 7 = zfr (T 7) (T 8 0) (A 1 (T 2 c)) (fun j => heatv (T 7 c) (A 7 (A 0 (T 2 c) + j)) (A 6 (T 2 c))) := rfl
  have e8 : (topen A T c) 8 0 = T 8 0 + A 1 (T 2 c) := rfl
  have t0 := tsum_le (f := T 6) (T 8 0 - 1).toNat (fun k x y => by have := (r k (by omega) (by omega)).2; omega)
  generalize topen A T c = T' at *
  unfold tgs
  rw [e8]
  obtain ⟨n, hn⟩ : ∃ n : Nat, A 1 (T 2 c) = n := ⟨(A 1 (T 2 c)).toNat, by omega⟩
  rw [show (T 8 0 + A 1 (T 2 c) - 1).toNat = (T 8 0 - 1).toNat + n by omega]
  rw [tsum_zero (T 8 0 - 1).toNat n (fun k x y => by show (if T' 4 k = 0 then 0 else town A T' k) = 0; rw [if_pos (by rw [e4]; exact zfr_in (by omega))])]
  have e : tsum (fun k => if T' 4 k = 0 then 0 else town A T' k) (T 8 0 - 1).toNat = tsum (zs (fun k => if T 4 k = 0 then 0 else town A T k) c (town A T c)) (T 8 0 - 1).toNat := by
    refine tsum_congr _ (fun k x y => ?_)
    show (if T' 4 k = 0 then 0 else town A T' k) = _
    have hk : k < T 8 0 := by omega
    have y1 : T' 4 k = zs (T 4) c (T 8 2 + 1) k := by rw [e4]; exact zfr_out (Or.inl hk)
    have y2 : town A T' k = town A T k := by unfold town; rw [e2, e7, zfr_out (Or.inl hk), zfr_out (Or.inl hk)]
    rw [y1, y2]
    by_cases ec : k = c
    · rw [zs_pos ec, zs_pos ec, if_neg (by omega), ec]
    · rw [zs_neg ec, zs_neg ec]
  rw [e, tsum_zs _ m1 (by omega)]
  show _ - (if T 4 c = 0 then 0 else town A T c) + town A T c = _
  rw [if_pos o0]; omega
