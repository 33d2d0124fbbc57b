/-! best: small numbers; the answers -/
theorem heatv_le {h t e : Int} (h0 : 0 ≤ h) (h1 : h ≤ e) (e1 : e ≤ 2000000) (t0 : 0 ≤ t) (t1 : t ≤ 2000000) : 0 ≤ heatv h t e ∧ heatv h t e ≤ t := by
  unfold heatv
  by_cases z : e = 0
  · rw [if_pos z]; omega
  · rw [if_neg z]
    have p1 : h * t ≤ e * t := Int.mul_le_mul_of_nonneg_right h1 t0
    have p2 : e * t ≤ 2000000 * t := Int.mul_le_mul_of_nonneg_right e1 t0
    have p0 : 0 ≤ h * t := Int.mul_nonneg h0 t0
    have w : w64 (h * t) = h * t := by unfold w64; omega
    rw [w]
    have d0 : 0 ≤ Int.tdiv (h * t) e := Int.tdiv_nonneg p0 (by omega)
    have d1 : Int.tdiv (h * t) e ≤ t := by
      rw [Int.tdiv_eq_ediv_of_nonneg p0]
      refine Int.le_trans (Int.ediv_le_ediv (by omega) p1) ?_
      rw [Int.mul_ediv_cancel_left t z]
      exact Int.le_refl _
    have dd : zdivL (h * t) e = Int.tdiv (h * t) e := by 
      have b1 : (Int64.ofInt (h * t)).toInt = h * t := Int64.toInt_ofInt_of_le (by omega) (by omega)
      have b2 : (Int64.ofInt e).toInt = e := Int64.toInt_ofInt_of_le (by omega) (by omega)
      unfold zdivL
      rw [Int64.toInt_div, b1, b2]
      first
      | exact Int.bmod_eq_of_le (by omega) (by omega)
      | (rw [Int.bmod_eq_of_le] <;> omega)
      | (unfold Int.bmod; omega)
    rw [dd]; exact ⟨d0, d1⟩
section
variable {A B : Nat → Int → Int} {nF nS : Int}
theorem bsm_step (hA : ∀ s : Int, 0 ≤ s → s < nS → 0 ≤ A 7 s ∧ A 7 s ≤ A 6 (A 2 s)) (he : ∀ f : Int, 0 ≤ f → f < nF → 0 ≤ A 6 f ∧ A 6 f ≤ 2000000) (hg : tPg A nF nS) (h : bSmall A B nF) {q s : Int} (q0 : 0 ≤ q) (q1 : q ≤ B 3 0) (s0 : 0 ≤ s) (s1 : s < nS) : bSmall A (bstep A B q s) nF := by
  unfold bstep
  split
  · next c =>
    have t := (hg.2.2.1 s s0 s1).1
    have a7 := hA s s0 s1
    obtain ⟨f1, h0, h1⟩ := h q q0 q1
    have hv := heatv_le (h := B 2 q) (t := A 7 s) (e := A 6 (B 1 q)) h0 h1 (he _ f1.1 f1.2).2 a7.1 (by have := he _ t.1 t.2; omega)
    intro x x0 x1
    have x1 : x ≤ B 3 0 + 1 := x1
    show (0 ≤ zs (B 1) (B 3 0 + 1) (A 2 s) x ∧ zs (B 1) (B 3 0 + 1) (A 2 s) x < nF) ∧ 0 ≤ zs (B 2) (B 3 0 + 1) (heatv (B 2 q) (A 7 s) (A 6 (B 1 q))) x ∧ zs (B 2) (B 3 0 + 1) (heatv (B 2 q) (A 7 s) (A 6 (B 1 q))) x ≤ A 6 (zs (B 1) (B 3 0 + 1) (A 2 s) x)
    by_cases e : x = B 3 0 + 1
    · rw [zs_pos e, zs_pos e]
      exact ⟨t, by omega, by omega⟩
    · rw [zs_neg e, zs_neg e]
      exact h x x0 (by omega)
  · exact h
theorem bsm_calls (hA : ∀ s : Int, 0 ≤ s → s < nS → 0 ≤ A 7 s ∧ A 7 s ≤ A 6 (A 2 s)) (he : ∀ f : Int, 0 ≤ f → f < nF → 0 ≤ A 6 f ∧ A 6 f ≤ 2000000) (hg : tPg A nF nS) (hu : bUp B) (h : bSmall A B nF) {q a : Int} (q0 : 0 ≤ q) (q1 : q ≤ B 3 0) (a0 : 0 ≤ a) : ∀ (n : Nat), a + n ≤ nS → bSmall A (bcalls A B q a n) nF := by
  intro n
  induction n with
  | zero => intro _; exact h
  | succ n ih =>
    intro k
    have u := bcalls_up (A := A) (a := a) hu q0 q1 n
    exact bsm_step hA he hg (ih (by omega)) q0 (Int.le_trans q1 u.2.1) (by omega) (by omega)
theorem bsm_all (hA : ∀ s : Int, 0 ≤ s → s < nS → 0 ≤ A 7 s ∧ A 7 s ≤ A 6 (A 2 s)) (he : ∀ f : Int, 0 ≤ f → f < nF → 0 ≤ A 6 f ∧ A 6 f ≤ 2000000) (hg : tPg A nF nS) (hu : bUp B) (h : bSmall A B nF) : ∀ (j : Nat), bSmall A (ball A B j) nF := by
  intro j
  induction j with
  | zero => exact h
  | succ j ih =>
    have u := ball_up (A := A) hu j
    show bSmall A (if (j : Int) ≤ ball A B j 3 0 then bcalls A (ball A B j) j (A 0 (ball A B j 1 j)) (A 1 (ball A B j 1 j)).toNat else ball A B j) nF
    split
    · next c =>
      have r := (ih j (Int.natCast_nonneg j) c).1
      have b := (hg.2.1 _ r.1 r.2).1
      exact bsm_calls hA he hg u.1 ih (Int.natCast_nonneg j) c b.1 _ (by omega)
    · exact ih
end
def kK : Nat → Int
  | 0 => 100000000
  | k + 1 => 2 * kK k
theorem kK_pos : ∀ k : Nat, 0 < kK k := by
  intro k
  induction k with
  | zero => decide
  | succ k ih => show 0 < 2 * kK k; omega
theorem kK_up : ∀ (t k : Nat), kK k ≤ kK (k + t) := by
  intro t
  induction t with
  | zero => intro k; exact Int.le_refl _
  | succ t ih =>
    intro k
    have a := ih k
    have b := kK_pos (k + t)
    show kK k ≤ 2 * kK (k + t)
    omega
theorem kK_le {k : Nat} (h : k ≤ 32) : 0 < kK k ∧ kK k ≤ 429496729600000000 := by
  refine ⟨kK_pos k, ?_⟩
  have z := kK_up (32 - k) k
  rw [show k + (32 - k) = 32 by omega] at z
  have e : kK 32 = 429496729600000000 := by decide
  omega
section
variable {up a g : Int → Int} {n : Int}
theorem pP_congr {up' a' g' : Int → Int} (hu : ∀ q : Int, 1 ≤ q → q ≤ n → up q = up' q) (hr : ∀ q : Int, 1 ≤ q → q ≤ n → 0 ≤ up q ∧ up q < q) (ha : ∀ q : Int, 0 ≤ q → q ≤ n → a q = a' q ∧ g q = g' q) : ∀ (t : Nat) (q : Int), (t : Int) ≤ n → 0 ≤ q → q ≤ n → pP up a g n t q = pP up' a' g' n t q := by
  intro t
  induction t with
  | zero => intro q _ q0 q1; show rOne (a q) (g q) = rOne (a' q) (g' q); rw [(ha q q0 q1).1, (ha q q0 q1).2]
  | succ t ih =>
    intro q ht q0 q1
    show (if up (n - t) = q then rAdd (pP up a g n t q) (rOpt (pP up a g n t (n - t))) else pP up a g n t q) = if up' (n - t) = q then rAdd (pP up' a' g' n t q) (rOpt (pP up' a' g' n t (n - t))) else pP up' a' g' n t q
    rw [← hu (n - t) (by omega) (by omega), ih q (by omega) q0 q1, ih (n - t) (by omega) (by omega) (by omega)]
theorem pP_zero (a0 : a 0 = 0) (g0 : g 0 = 0) : ∀ (t : Nat), pP up a g n t 0 0 0 := by
  intro t
  induction t with
  | zero => exact ⟨a0.symm, g0.symm⟩
  | succ t ih =>
    show (if up (n - t) = 0 then rAdd (pP up a g n t 0) (rOpt (pP up a g n t (n - t))) else pP up a g n t 0) 0 0
    split
    · exact ⟨0, 0, 0, 0, ih, Or.inl ⟨rfl, rfl⟩, rfl, rfl⟩
    · exact ih
def mrw (W : Int → Int) (x : Int) : Int → Int := fun w => W (301 * x + w)
theorem rl_step {W S : Int → Int} {k : Nat} {t u : Int} (h : ∀ x : Int, 0 ≤ x → x ≤ n → rep (mrw W x) (pP up a g n k x) (kK k)) (hu : u = 301 * up t) (hut : 0 ≤ up t ∧ up t < t) (et : t = n - k) (t1 : 1 ≤ t) (hn : n ≤ 32) (hj : ∀ w : Int, 0 ≤ w → w ≤ 300 → jnd (mrw W (up t)) (mrw W t) (mrw S (up t)) w) (hk : ∀ j : Int, ¬ (u ≤ j ∧ j ≤ u + 300) → S j = W j) : ∀ x : Int, 0 ≤ x → x ≤ n → rep (mrw S x) (pP up a g n (k + 1) x) (kK (k + 1)) := by
  intro x x0 x1
  show rep (mrw S x) (if up (n - k) = x then rAdd (pP up a g n k x) (rOpt (pP up a g n k (n - k))) else pP up a g n k x) (2 * kK k)
  have kb := kK_le (k := k) (by omega)
  rw [← et]
  by_cases e : up t = x
  · rw [if_pos e, ← e]
    exact rep_join (h (up t) hut.1 (by omega)) (h t (by omega) (by omega)) ⟨by omega, by omega⟩ hj
  · rw [if_neg e]
    have y := h x x0 x1
    refine rep_up (K := kK k) ⟨y.1, fun w w0 w1 => ?_⟩ (by omega)
    have z : mrw S x w = mrw W x w := hk _ (by omega)
    rw [z]
    exact y.2 w w0 w1
theorem rep_bnd {F : Int → Int} {R : Int → Int → Prop} {k : Nat} (h : rep F R (kK k)) (hk : k ≤ 32) {w : Int} (w0 : 0 ≤ w) (w1 : w ≤ 300) : -4611686018427387904 ≤ F w ∧ F w ≤ 2305843009213693952 := by
  have b := kK_le hk
  rcases (h.2 w w0 w1).2 with z | z
  · omega
  · have y := h.1 _ _ z
    omega
end
/-- what best answers of gains and adds -/
def bAns (R : Int → Int → Prop) (b w r : Int) : Prop := ∃ (F : Int → Int) (K t : Int), rep F R K ∧ K < 2305843009213693952 ∧ (0 ≤ t ∧ t ≤ b) ∧ (∀ x : Int, 0 ≤ x → x ≤ b → F x ≤ F t) ∧ (∀ x : Int, 0 ≤ x → x < t → F x < F t) ∧ r = if w = 0 then F t else t
theorem bAns_0 {R : Int → Int → Prop} {V : Int → Int} {b w r : Int} (h : bAns R b w r) (h0 : R 0 0) (hv : repV V R) (b0 : 0 ≤ b) (b1 : b ≤ 300) (w0 : w = 0) : V b = r := by
  obtain ⟨F, K, t, h1, h2, h3, h4, h5, h6⟩ := h
  rw [h6, if_pos w0]
  exact best_val h1 h2 hv h0 b0 b1 h3.1 h3.2 h4
theorem bAns_1 {R : Int → Int → Prop} {V : Int → Int} {b w r c : Int} (h : bAns R b w r) (h0 : R 0 0) (hv : repV V R) (b0 : 0 ≤ b) (b1 : b ≤ 300) (w0 : ¬ w = 0) (hc : (0 ≤ c ∧ c ≤ b) ∧ V c = V b ∧ (c = 0 ∨ ¬ V (c - 1) = V b)) : c = r := by
  obtain ⟨F, K, t, h1, h2, h3, h4, h5, h6⟩ := h
  rw [h6, if_neg w0]
  have e := best_val h1 h2 hv h0 b0 b1 h3.1 h3.2 h4
  rcases Int.lt_trichotomy c t with l | l | l
  · have z := best_less (r := c) (b := t) h1 hv hc.1.1 (by omega) (fun x x0 x1 => h5 x x0 (by omega))
    omega
  · exact l
  · have z := best_val (room := c - 1) (b := t) h1 h2 hv h0 (by omega) (by omega) h3.1 (by omega) (fun x x0 x1 => h4 x x0 (by omega))
    rcases hc.2.2 with y | y
    · omega
    · exact absurd (by omega) y
