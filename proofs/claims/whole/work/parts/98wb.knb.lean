/-! Known numbers, on the side of the class: lines, one part behind another -/
def kRg (V : Int) (r : Int → Int) : Prop := ∀ v : Int, 0 ≤ v → v < V → r v = -9223372036854775808 ∨ (-2147483648 ≤ r v ∧ r v ≤ 2147483647)
def kBn (s : (Int → Int) × Int × Int × Int) (n : Int) : Prop := (0 ≤ s.2.1 ∧ s.2.1 ≤ n) ∧ (0 ≤ s.2.2.1 ∧ s.2.2.1 ≤ n) ∧ 0 ≤ s.2.2.2 ∧ s.2.2.2 ≤ n
/-- what the result's lines are, for the numbers known -/
def kLd (M0 L : Nat → Int → Int) (V N : Int) : Prop := ∀ r : Int, 120 ≤ r → r < 120 + N →
  (M0 443 (r - 120) = L 480 r ∧ M0 444 (r - 120) = L 481 r ∧ M0 445 (r - 120) = L 482 r ∧ M0 446 (r - 120) = L 483 r ∧ M0 452 (r - 120) = r - 120 + 1 + L 488 r ∧ M0 453 (r - 120) = r - 120 + 1 + L 488 r + L 489 r) ∧
  ((0 ≤ L 480 r ∧ L 480 r ≤ 9) ∧ (¬ L 480 r = 6 → opnd V (L 482 r)) ∧ (1 ≤ L 480 r ∧ L 480 r ≤ 5 → opnd V (L 483 r)) ∧ (L 480 r ≤ 6 → 0 ≤ L 481 r ∧ L 481 r < V) ∧ (-330 < L 482 r ∧ L 482 r ≤ 1000)) ∧
  (0 ≤ L 488 r ∧ 0 ≤ L 489 r ∧ r + 1 + L 488 r + L 489 r ≤ 120 + N) ∧ (¬ (L 480 r = 7 ∨ L 480 r = 8) → L 488 r = 0 ∧ L 489 r = 0) ∧ (L 480 r = 8 → L 489 r = 0) ∧ (7 ≤ L 480 r → L 481 r < 0) ∧ (L 480 r = 7 → V * (M0 449 (r - 120) + 1) ≤ 20000)
def kcI (M0 M : Nat → Int → Int) (V a lv w : Int) (s : (Int → Int) × Int × Int × Int) : Prop :=
  (M 24 6 = a - 120 ∧ M 24 5 = V) ∧ (0 ≤ M 24 3 ∧ M 24 3 ≤ V * lv) ∧ (0 ≤ M 28 4 ∧ M 28 4 ≤ lv) ∧ (∀ c : Nat, ¬ (24 ≤ c ∧ c ≤ 32) → M c = M0 c) ∧ (∀ v : Int, 0 ≤ v → v < V → M 26 v = s.1 v) ∧ (M 25 0 = s.2.1 ∧ M 25 1 = s.2.2.1 ∧ M 25 2 = s.2.2.2) ∧ kRg V s.1 ∧ kBn s w
theorem kBn_mono {s : (Int → Int) × Int × Int × Int} {n m : Int} (h : kBn s n) (k : n ≤ m) : kBn s m := by
  obtain ⟨⟨a, b⟩, ⟨c, d⟩, e, f⟩ := h
  exact ⟨⟨a, by omega⟩, ⟨c, by omega⟩, e, by omega⟩
def cKeep (M M' : Nat → Int → Int) : Prop := (M' 24 3 = M 24 3 ∧ M' 28 4 = M 28 4) ∧ (∀ j : Int, j < M 28 4 → M' 29 j = M 29 j ∧ M' 30 j = M 30 j ∧ M' 31 j = M 31 j) ∧ (∀ j : Int, j < M 24 3 → M' 27 j = M 27 j) ∧ ∀ k : Int, 3 ≤ k → M' 25 k = M 25 k
theorem cKeep_refl {M : Nat → Int → Int} : cKeep M M := ⟨⟨rfl, rfl⟩, fun _ _ => ⟨rfl, rfl, rfl⟩, fun _ _ => rfl, fun _ _ => rfl⟩
theorem cKeep_trans {M M1 M2 : Nat → Int → Int} (h : cKeep M M1) (k : cKeep M1 M2) : cKeep M M2 := by
  obtain ⟨⟨a1, a2⟩, a3, a4, a5⟩ := h
  obtain ⟨⟨b1, b2⟩, b3, b4, b5⟩ := k
  refine ⟨⟨b1.trans a1, b2.trans a2⟩, fun j q => ?_, fun j q => (b4 j (by omega)).trans (a4 j q), fun k q => (b5 k q).trans (a5 k q)⟩
  have x := a3 j q
  have y := b3 j (by omega)
  exact ⟨y.1.trans x.1, y.2.1.trans x.2.1, y.2.2.trans x.2.2⟩
theorem wrk_in {k a b : Int} (h : -2147483648 ≤ a ∧ a ≤ 2147483647) : -2147483648 ≤ wrk k a b ∧ wrk k a b ≤ 2147483647 := by
  unfold wrk
  have q := fun x => w32_in x
  unfold in32 at q
  split
  · exact h
  · split
    · have := q (a + b); omega
    · split
      · have := q (a - b); omega
      · split
        · have := q (a * b); omega
        · split
          · split <;> omega
          · split <;> omega
section
variable {V : Int} {r r' : Int → Int}
theorem kRg_o {o : Int} (h : kRg V r) (q : opnd V o) : knO r o = -9223372036854775808 ∨ (-2147483648 ≤ knO r o ∧ knO r o ≤ 2147483647) := by
  unfold opnd at q
  unfold knO
  by_cases c : o ≤ -10
  · rw [if_pos c]; exact h _ (by omega) (by omega)
  · rw [if_neg c]; omega
theorem knO_ag {o : Int} (h : ∀ v : Int, 0 ≤ v → v < V → r v = r' v) (q : opnd V o) : knO r o = knO r' o := by
  unfold opnd at q
  unfold knO
  by_cases c : o ≤ -10
  · rw [if_pos c, if_pos c]; exact h _ (by omega) (by omega)
  · rw [if_neg c, if_neg c]
theorem zs_ag {k x : Int} (h : ∀ v : Int, 0 ≤ v → v < V → r v = r' v) : ∀ v : Int, 0 ≤ v → v < V → zs r k x v = zs r' k x v := by
  intro v v0 v1
  by_cases e : v = k
  · rw [zs_pos e, zs_pos e]
  · rw [zs_neg e, zs_neg e]; exact h v v0 v1
theorem kRg_zs {k x : Int} (h : kRg V r) (q : x = -9223372036854775808 ∨ (-2147483648 ≤ x ∧ x ≤ 2147483647)) : kRg V (zs r k x) := by
  intro v v0 v1
  by_cases e : v = k
  · rw [zs_pos e]; exact q
  · rw [zs_neg e]; exact h v v0 v1
theorem fgt_ag {T : Int → Int} {u a : Int} (h : ∀ v : Int, 0 ≤ v → v < V → r v = r' v) : ∀ n : Nat, ∀ v : Int, 0 ≤ v → v < V → fgt T r u a n v = fgt T r' u a n v := by
  intro n
  induction n with
  | zero => exact h
  | succ n ih =>
    intro v v0 v1
    show (if 0 ≤ T (a + n) then zs (fgt T r u a n) (T (a + n)) u else fgt T r u a n) v = (if 0 ≤ T (a + n) then zs (fgt T r' u a n) (T (a + n)) u else fgt T r' u a n) v
    split
    · exact zs_ag ih v v0 v1
    · exact ih v v0 v1
theorem kRg_fgt {T : Int → Int} {a : Int} (h : kRg V r) : ∀ n : Nat, kRg V (fgt T r (-9223372036854775808) a n) := by
  intro n
  induction n with
  | zero => exact h
  | succ n ih =>
    show kRg V (if 0 ≤ T (a + n) then zs (fgt T r (-9223372036854775808) a n) (T (a + n)) (-9223372036854775808) else fgt T r (-9223372036854775808) a n)
    split
    · exact kRg_zs ih (Or.inl rfl)
    · exact ih
theorem kRg_mrg (h : kRg V r) : kRg V (mrg r r') := by
  intro v v0 v1
  unfold mrg
  split
  · exact h v v0 v1
  · exact Or.inl rfl
theorem mrg_ag {f f' : Int → Int} (h : ∀ v : Int, 0 ≤ v → v < V → r v = r' v) (k : ∀ v : Int, 0 ≤ v → v < V → f v = f' v) : ∀ v : Int, 0 ≤ v → v < V → mrg r f v = mrg r' f' v := by
  intro v v0 v1
  unfold mrg
  rw [h v v0 v1, k v v0 v1]
end
section
variable {M0 M M' M1 M2 M3 : Nat → Int → Int} {V a b lv w w1 : Int} {s s1 s2 : (Int → Int) × Int × Int × Int}
theorem kcI_chg {r an : Int → Int} {p : Int} (h : kcI M0 M V a lv w s) (c : cChg M M' r an p) (e : p = b - 120) (hr : ∀ v : Int, 0 ≤ v → v < V → r v = s1.1 v) (ha : an 0 = s1.2.1 ∧ an 1 = s1.2.2.1 ∧ an 2 = s1.2.2.2) (rg : kRg V s1.1) (bn : kBn s1 w1) (hk : ∀ k : Int, 3 ≤ k → an k = M 25 k) : kcI M0 M' V b lv w1 s1 ∧ cKeep M M' := by
  obtain ⟨⟨h1, h2⟩, h3, h4, h5, h6, h7, h8, h9⟩ := h
  obtain ⟨⟨c1, c2, c3⟩, c4, c5⟩ := c
  have c28 := c4 28 (by decide)
  refine ⟨⟨⟨c3.trans e, (c5 5 (by decide)).trans h2⟩, by rw [c5 3 (by decide)]; exact h3, by rw [c28]; exact h4, fun c hc => (c4 c (by omega)).trans (h5 c hc), fun v v0 v1 => by rw [c1]; exact hr v v0 v1, by rw [c2]; exact ha, rg, bn⟩, ⟨c5 3 (by decide), by rw [c28]⟩, fun j _ => ?_, fun j _ => by rw [c4 27 (by decide)], fun k q => by rw [c2]; exact hk k q⟩
  rw [c4 29 (by decide), c4 30 (by decide), c4 31 (by decide)]
  exact ⟨rfl, rfl, rfl⟩
theorem kcI_psh {r an : Int → Int} {ww e : Int} (h : kcI M0 M V a lv w s) (c : cPsh M M' r an ww e) (x : 0 ≤ M' 24 3 ∧ M' 24 3 ≤ V * (lv + 1)) (hr : ∀ v : Int, 0 ≤ v → v < V → r v = s1.1 v) (ha : an 0 = s1.2.1 ∧ an 1 = s1.2.2.1 ∧ an 2 = s1.2.2.2) (rg : kRg V s1.1) (bn : kBn s1 w1) : kcI M0 M' V (a + 1) (lv + 1) w1 s1 := by
  obtain ⟨⟨h1, h2⟩, h3, h4, h5, h6, h7, h8, h9⟩ := h
  obtain ⟨⟨c1, c2, c3⟩, c4, c5, c6, c7, c8, c9⟩ := c
  exact ⟨⟨by rw [c3, h1]; omega, (c5 5 (by decide)).trans h2⟩, x, by omega, fun c hc => (c4 c (by omega)).trans (h5 c hc), fun v v0 v1 => by rw [c1]; exact hr v v0 v1, by rw [c2]; exact ha, rg, bn⟩
theorem kcI_up (h : kcI M0 M V a lv w s) (x : V * lv ≤ V * (lv + 1)) : kcI M0 M V a (lv + 1) w s := by
  obtain ⟨h1, h3, h4, h5⟩ := h
  exact ⟨h1, by omega, by omega, h5⟩
theorem kcI_back {lv' : Int} (h : kcI M0 M V a lv' w s) (k : cKeep M1 M) (h3 : 0 ≤ M1 24 3 ∧ M1 24 3 ≤ V * lv) (h4 : 0 ≤ M1 28 4 ∧ M1 28 4 ≤ lv) : kcI M0 M V a lv w s := by
  obtain ⟨h1, _, _, h5⟩ := h
  exact ⟨h1, by rw [k.1.1]; exact h3, by rw [k.1.2]; exact h4, h5⟩
/-- a block that was opened is left again -/
theorem cKeep_blk {r an : Int → Int} {ww e : Int} (c : cPsh M M1 r an ww e) (n3 : M 24 3 ≤ M1 24 3) (n27 : ∀ j : Int, j < M 24 3 → M1 27 j = M 27 j) (an3 : ∀ k : Int, 3 ≤ k → an k = M 25 k) (k : cKeep M1 M2) (e3 : M3 24 3 = M 24 3) (e4 : M3 28 4 = M2 28 4 - 1) (er : ∀ j : Int, j < M 28 4 → M3 29 j = M2 29 j ∧ M3 30 j = M2 30 j ∧ M3 31 j = M2 31 j) (e7 : ∀ j : Int, j < M 24 3 → M3 27 j = M2 27 j) (e5 : ∀ k : Int, 3 ≤ k → M3 25 k = M2 25 k) : cKeep M M3 := by
  obtain ⟨⟨c1, c2, c3⟩, c4, c5, c6, c7, c8, c9⟩ := c
  obtain ⟨⟨k1, k2⟩, k3, k4, k5⟩ := k
  refine ⟨⟨e3, by omega⟩, fun j q => ?_, fun j q => (e7 j q).trans ((k4 j (by omega)).trans (n27 j q)), fun k q => (e5 k q).trans ((k5 k q).trans (by rw [c2]; exact an3 k q))⟩
  have x := k3 j (by omega)
  obtain ⟨y1, y2, y3⟩ := er j q
  rw [y1, y2, y3, x.1, x.2.1, x.2.2, c7, c8, c9, zs_neg (by omega), zs_neg (by omega), zs_neg (by omega)]
  exact ⟨rfl, rfl, rfl⟩
end
theorem kSem_go {kd tg fi se mi en : Int → Int} {n : Nat} {a b : Int} {s : (Int → Int) × Int × Int × Int} (h : ¬ a = b) : kSem kd tg fi se mi en (n + 1) a b s = kSem kd tg fi se mi en n (en a) b (
      if kd a = 6 then (zs s.1 (tg a) (-9223372036854775808), s.2)
      else if kd a = 7 then (
        if knO s.1 (fi a) = -9223372036854775808 then
          (mrg (kSem kd tg fi se mi en n (mi a) (en a) (s.1, (kSem kd tg fi se mi en n (a + 1) (mi a) s).2)).1 (kSem kd tg fi se mi en n (a + 1) (mi a) s).1, (kSem kd tg fi se mi en n (mi a) (en a) (s.1, (kSem kd tg fi se mi en n (a + 1) (mi a) s).2)).2)
        else if knO s.1 (fi a) = 0 then kSem kd tg fi se mi en n (mi a) (en a) (s.1, s.2.1, s.2.2.1 + 1, s.2.2.2 + (mi a - (a + 1)))
        else kSem kd tg fi se mi en n (a + 1) (mi a) (s.1, s.2.1, s.2.2.1 + 1, s.2.2.2 + (en a - mi a)))
      else if kd a = 8 then (
        if ¬ knO s.1 (fi a) = -9223372036854775808 ∧ knO s.1 (fi a) ≤ 0 then (s.1, s.2.1, s.2.2.1, s.2.2.2 + (en a - (a + 1)))
        else (fgt tg (kSem kd tg fi se mi en n (a + 1) (en a) (fgt tg s.1 (-9223372036854775808) (a + 1) (en a - (a + 1)).toNat, s.2)).1 (-9223372036854775808) (a + 1) (en a - (a + 1)).toNat, (kSem kd tg fi se mi en n (a + 1) (en a) (fgt tg s.1 (-9223372036854775808) (a + 1) (en a - (a + 1)).toNat, s.2)).2))
      else if kd a = 0 then (zs s.1 (tg a) (knO s.1 (fi a)), s.2)
      else if knO s.1 (fi a) = -9223372036854775808 ∨ knO s.1 (se a) = -9223372036854775808 then (zs s.1 (tg a) (-9223372036854775808), s.2)
      else (zs s.1 (tg a) (wrk (kd a) (knO s.1 (fi a)) (knO s.1 (se a))), s.2.1 + 1, s.2.2)) := if_neg h
set_option maxHeartbeats 4000000 in
theorem kc_seg {M0 L : Nat → Int → Int} {nF : Int} {TO : Int → Int} {V N : Int} (hV : 0 ≤ V ∧ V ≤ 308) (hN : 0 ≤ N ∧ N ≤ 300) (hs : M0 442 13 = N) (hL : kLd M0 L V N) : ∀ (n : Nat) (lv br a b : Int), ySeg L (okR M0 L nF TO) n lv br a b → 0 ≤ lv → lv ≤ 131 → 120 ≤ a → b ≤ 120 + N → (∀ q : Int, a ≤ q → q < b → ¬ L 480 q = 9) → ∀ (w : Int) (M : Nat → Int → Int) (s : (Int → Int) × Int × Int × Int), kcI M0 M V a lv w s → 0 ≤ w → w + (b - a) ≤ 100000 → (M 28 4 ≤ 0 ∨ b - 120 ≤ M 31 (M 28 4 - 1)) → ∃ M' : Nat → Int → Int, cTo M M' (3 * (b - a)) ∧ kcI M0 M' V b lv (w + (b - a)) (kSem (M0 443) (M0 444) (M0 445) (M0 446) (M0 452) (M0 453) n (a - 120) (b - 120) s) ∧ cKeep M M' := by
  intro n
  induction n with
  | zero =>
    intro lv br a b h _ _ _ _ _ w M s hi w0 wb _
    have e : a = b := h
    subst e
    refine ⟨M, cTo_refl (by omega), ?_, cKeep_refl⟩
    rw [show w + (a - a) = w by omega]
    exact hi
  | succ n ih =>
    intro lv br a b h lv0 lv1 a0 b1 n9 w M s hi w0 wb he
    rcases h with h | ⟨q1, q2, s3, s4, s5⟩
    · subst h
      refine ⟨M, cTo_refl (by omega), ?_, cKeep_refl⟩
      rw [show w + (a - a) = w by omega, show kSem (M0 443) (M0 444) (M0 445) (M0 446) (M0 452) (M0 453) (n + 1) (a - 120) (a - 120) s = s from if_pos rfl]
      exact hi
    have l5 := ySegE_le ⟨n, s5⟩
    obtain ⟨⟨w1, w2, w3, w4, w5, w6⟩, ⟨x1, x2, x3, x4, x5⟩, ⟨y1, y2, y3⟩, y4, y5, y6, y7⟩ := hL a a0 (by omega)
    have k9 := n9 a (Int.le_refl _) q1
    have lvE : M0 449 (a - 120) = lv := q2.1.1
    rw [lvE] at y7
    obtain ⟨⟨i1, i2⟩, i3, i4, i5, i6, ⟨i7a, i7b, i7c⟩, i8, i9⟩ := id hi
    obtain ⟨⟨g1, g2⟩, ⟨g3, g4⟩, g5, g6⟩ := id i9
    have m443 := i5 443 (by decide)
    have m444 := i5 444 (by decide)
    have m445 := i5 445 (by decide)
    have m446 := i5 446 (by decide)
    have m452 := i5 452 (by decide)
    have m453 := i5 453 (by decide)
    have VL : V * (lv + 1) = V * lv + V := by rw [Int.mul_add, Int.mul_one]
    have ln : kLn M := ⟨by omega, by omega, by rw [i5 442 (by decide), hs, i1]; omega, by omega, by omega⟩
    have kA : ¬ L 480 a = 6 → knO (M 26) (L 482 a) = knO s.1 (L 482 a) := fun z => knO_ag i6 (x2 z)
    have kAr : ¬ L 480 a = 6 → knO s.1 (L 482 a) = -9223372036854775808 ∨ (-2147483648 ≤ knO s.1 (L 482 a) ∧ knO s.1 (L 482 a) ≤ 2147483647) := fun z => kRg_o i8 (x2 z)
    have eE : M0 453 (a - 120) = a + 1 + L 488 a + L 489 a - 120 := by omega
    have eM : M0 452 (a - 120) = a + 1 + L 488 a - 120 := by omega
    have one : ∃ M1 : Nat → Int → Int, cTo M M1 (3 * (a + 1 + L 488 a + L 489 a - a)) ∧ kcI M0 M1 V (a + 1 + L 488 a + L 489 a) lv (w + (1 + L 488 a + L 489 a)) (
      if M0 443 (a - 120) = 6 then (zs s.1 (M0 444 (a - 120)) (-9223372036854775808), s.2)
      else if M0 443 (a - 120) = 7 then (
        if knO s.1 (M0 445 (a - 120)) = -9223372036854775808 then
          (mrg (kSem (M0 443) (M0 444) (M0 445) (M0 446) (M0 452) (M0 453) n (M0 452 (a - 120)) (M0 453 (a - 120)) (s.1, (kSem (M0 443) (M0 444) (M0 445) (M0 446) (M0 452) (M0 453) n (a - 120 + 1) (M0 452 (a - 120)) s).2)).1 (kSem (M0 443) (M0 444) (M0 445) (M0 446) (M0 452) (M0 453) n (a - 120 + 1) (M0 452 (a - 120)) s).1, (kSem (M0 443) (M0 444) (M0 445) (M0 446) (M0 452) (M0 453) n (M0 452 (a - 120)) (M0 453 (a - 120)) (s.1, (kSem (M0 443) (M0 444) (M0 445) (M0 446) (M0 452) (M0 453) n (a - 120 + 1) (M0 452 (a - 120)) s).2)).2)
        else if knO s.1 (M0 445 (a - 120)) = 0 then kSem (M0 443) (M0 444) (M0 445) (M0 446) (M0 452) (M0 453) n (M0 452 (a - 120)) (M0 453 (a - 120)) (s.1, s.2.1, s.2.2.1 + 1, s.2.2.2 + (M0 452 (a - 120) - (a - 120 + 1)))
        else kSem (M0 443) (M0 444) (M0 445) (M0 446) (M0 452) (M0 453) n (a - 120 + 1) (M0 452 (a - 120)) (s.1, s.2.1, s.2.2.1 + 1, s.2.2.2 + (M0 453 (a - 120) - M0 452 (a - 120))))
      else if M0 443 (a - 120) = 8 then (
        if ¬ knO s.1 (M0 445 (a - 120)) = -9223372036854775808 ∧ knO s.1 (M0 445 (a - 120)) ≤ 0 then (s.1, s.2.1, s.2.2.1, s.2.2.2 + (M0 453 (a - 120) - (a - 120 + 1)))
        else (fgt (M0 444) (kSem (M0 443) (M0 444) (M0 445) (M0 446) (M0 452) (M0 453) n (a - 120 + 1) (M0 453 (a - 120)) (fgt (M0 444) s.1 (-9223372036854775808) (a - 120 + 1) (M0 453 (a - 120) - (a - 120 + 1)).toNat, s.2)).1 (-9223372036854775808) (a - 120 + 1) (M0 453 (a - 120) - (a - 120 + 1)).toNat, (kSem (M0 443) (M0 444) (M0 445) (M0 446) (M0 452) (M0 453) n (a - 120 + 1) (M0 453 (a - 120)) (fgt (M0 444) s.1 (-9223372036854775808) (a - 120 + 1) (M0 453 (a - 120) - (a - 120 + 1)).toNat, s.2)).2))
      else if M0 443 (a - 120) = 0 then (zs s.1 (M0 444 (a - 120)) (knO s.1 (M0 445 (a - 120))), s.2)
      else if knO s.1 (M0 445 (a - 120)) = -9223372036854775808 ∨ knO s.1 (M0 446 (a - 120)) = -9223372036854775808 then (zs s.1 (M0 444 (a - 120)) (-9223372036854775808), s.2)
      else (zs s.1 (M0 444 (a - 120)) (wrk (M0 443 (a - 120)) (knO s.1 (M0 445 (a - 120))) (knO s.1 (M0 446 (a - 120)))), s.2.1 + 1, s.2.2)) ∧ cKeep M M1 := by
      rw [w1, w2, w3, w4, eM, eE, show a - 120 + 1 = a + 1 - 120 by omega]
      by_cases k6 : L 480 a = 6
      · obtain ⟨z8, z9⟩ := y4 (by omega)
        have xx := x4 (by omega)
        obtain ⟨M1, t, c⟩ := kl_call ln (by rw [m443, i1, w1]; exact k6) (by rw [m444, i1, w2]; omega)
        rw [m444, i1, w2] at c
        have z := kcI_chg (b := a + 1 + L 488 a + L 489 a) (w1 := w + (1 + L 488 a + L 489 a)) (s1 := (zs s.1 (L 481 a) (-9223372036854775808), s.2)) hi c (by omega) (zs_ag i6) ⟨i7a, i7b, i7c⟩ (kRg_zs i8 (Or.inl rfl)) (kBn_mono i9 (by omega)) (fun _ _ => rfl)
        rw [if_pos k6]
        exact ⟨M1, cTo_trans t (cTo_refl (Int.le_refl 0)) (by omega) (by omega) (by omega), z.1, z.2⟩
      rw [if_neg k6]
      have kA := kA k6
      have kAr := kAr k6
      have hA : knO (M 26) (M 445 (M 24 6)) = knO s.1 (L 482 a) := by rw [m445, i1, w3]; exact kA
      have hO : -330 < M 445 (M 24 6) ∧ M 445 (M 24 6) ≤ 1000 := by rw [m445, i1, w3]; exact x5
      by_cases k7 : L 480 a = 7
      · rw [if_pos k7]
        have y7 := y7 k7
        have K7 : M 443 (M 24 6) = 7 := by rw [m443, i1, w1]; exact k7
        have MB : (-1000 ≤ M 452 (M 24 6) ∧ M 452 (M 24 6) ≤ 1000) ∧ -1000 ≤ M 453 (M 24 6) ∧ M 453 (M 24 6) ≤ 1000 := by rw [m452, m453, i1]; omega
        by_cases ku : knO s.1 (L 482 a) = -9223372036854775808
        · rw [if_pos ku]
          obtain ⟨M1, t1, p1, p27, p3⟩ := kl_ifu ln K7 hO (by rw [hA]; exact ku) (by omega) (by omega)
          rw [m452, i1, eM] at p1
          obtain ⟨_, r2, r3, r4, r5, r6, r7⟩ := id p1
          have j1 : kcI M0 M1 V (a + 1) (lv + 1) w s := kcI_psh hi p1 (by omega) i6 ⟨i7a, i7b, i7c⟩ i8 i9
          obtain ⟨M2, t2, j2, c2⟩ := ih (lv + 1) 0 (a + 1) (a + 1 + L 488 a) s3 (by omega) (by have := q2.1.2.2; omega) (by omega) (by omega) (fun q z1 z2 => n9 q (by omega) (by omega)) w M1 s j1 w0 (by omega) (by right; rw [r4, r7, show M 28 4 + 1 - 1 = M 28 4 by omega, zs_pos rfl]; exact Int.le_refl _)
          obtain ⟨s1, es1⟩ : ∃ s1, s1 = kSem (M0 443) (M0 444) (M0 445) (M0 446) (M0 452) (M0 453) n (a + 1 - 120) (a + 1 + L 488 a - 120) s := ⟨_, rfl⟩
          rw [← es1] at j2 ⊢
          obtain ⟨⟨v1, v2⟩, v3, v4, v5, v6, v7, v8, v9⟩ := id j2
          obtain ⟨⟨u1, u2⟩, u3, u4, u5⟩ := id c2
          have T : M2 28 4 - 1 = M 28 4 := by omega
          obtain ⟨o1, o2, o3⟩ := u3 (M 28 4) (by omega)
          rw [r5, zs_pos rfl] at o1
          rw [r6, zs_pos rfl] at o2
          rw [r7, zs_pos rfl] at o3
          obtain ⟨M3, t3, ⟨e26, e27, e30, e31⟩, ef⟩ := kl_e0 (M := M2) ⟨by omega, by omega, by omega, by rw [T, o3]; omega, by rw [T, o1]; omega, by rw [T, o1]; omega⟩ (by omega) (by omega) (by rw [T]; exact o2)
          have e24 := ef 24 (by decide)
          have e25 := ef 25 (by decide)
          have e28 := ef 28 (by decide)
          have e29 := ef 29 (by decide)
          rw [T] at e30 e31
          rw [o1, v5 453 (by decide), i1, eE] at e31
          have j3 : kcI M0 M3 V (a + 1 + L 488 a) (lv + 1) (w + (a + 1 + L 488 a - (a + 1))) (s.1, s1.2) := by
            refine ⟨⟨by rw [e24]; exact v1, by rw [e24]; exact v2⟩, by rw [e24]; exact v3, by rw [e28]; exact v4, fun c hc => (ef c (by omega)).trans (v5 c hc), fun v v0 v1' => ?_, by rw [e25]; exact v7, i8, v9⟩
            rw [e26, zfr_in (by omega)]
            show M2 27 (M2 24 3 - M2 24 5 + (v - 0)) = s.1 v
            rw [u4 _ (by omega), p27]
            unfold zcpr
            rw [if_pos (by omega), ← i6 v v0 v1']
            congr 1
            omega
          obtain ⟨M4, t4, j4, c4⟩ := ih (lv + 1) 1 (a + 1 + L 488 a) (a + 1 + L 488 a + L 489 a) s4 (by omega) (by have := q2.1.2.2; omega) (by omega) (by omega) (fun q z1 z2 => n9 q (by omega) (by omega)) (w + (a + 1 + L 488 a - (a + 1))) M3 _ j3 (by omega) (by omega) (by right; rw [e28, T, e31, zs_pos rfl]; exact Int.le_refl _)
          obtain ⟨s2, es2⟩ : ∃ s2, s2 = kSem (M0 443) (M0 444) (M0 445) (M0 446) (M0 452) (M0 453) n (a + 1 + L 488 a - 120) (a + 1 + L 488 a + L 489 a - 120) (s.1, s1.2) := ⟨_, rfl⟩
          rw [← es2] at j4 ⊢
          obtain ⟨⟨f1, f2⟩, f3, f4, f5, f6, f7, f8, f9⟩ := id j4
          obtain ⟨⟨h1, h2⟩, h3, h4, h5⟩ := id c4
          rw [e24] at h1 h4
          rw [e28] at h2 h3
          have T2 : M4 28 4 - 1 = M 28 4 := by omega
          obtain ⟨z1, z2, z3⟩ := h3 (M 28 4) (by omega)
          rw [e29, o1] at z1
          rw [e30, zs_pos rfl] at z2
          rw [e31, zs_pos rfl] at z3
          obtain ⟨M5, t5, ⟨⟨b26, b3⟩, b6, b4⟩, bf, b24, b28⟩ := kl_e1 (M := M4) ⟨by omega, by omega, by omega, by rw [T2, z3]; omega, by rw [T2, z1]; omega, by rw [T2, z1]; omega⟩ (by omega) (by omega) (by rw [T2]; exact z2)
          rw [T2, z1, f5 453 (by decide), i1, eE] at b6
          have b25 := bf 25 (by decide)
          refine ⟨M5, cTo_trans t1 (cTo_trans t2 (cTo_trans t3 (cTo_trans t4 t5 (k := 3 * L 489 a + 1) (by omega) (by omega) (by omega)) (k := 3 * L 489 a + 2) (by omega) (by omega) (by omega)) (k := 3 * L 488 a + 3 * L 489 a + 2) (by omega) (by omega) (by omega)) (by omega) (by omega) (by omega), ?_, ?_⟩
          · refine ⟨⟨b6, (b24 5 (by decide)).trans f2⟩, by omega, by omega, fun c hc => (bf c (by omega)).trans (f5 c hc), fun v v0 v1' => ?_, by rw [b25]; exact f7, kRg_mrg f8, kBn_mono f9 (by omega)⟩
            rw [b26, zfr_in (by omega), show v - 0 = v by omega]
            refine mrg_ag f6 (fun v v0 v1' => ?_) v v0 v1'
            show M4 27 (M4 24 3 - M4 24 5 + v) = s1.1 v
            rw [h4 _ (by omega), e27, zfr_in (by omega), ← v6 v v0 v1']
            congr 1
            omega
          · refine cKeep_blk p1 (by omega) (fun j q => ?_) (fun _ _ => rfl) c2 (by omega) (by omega) (fun j q => ?_) (fun j q => ?_) (fun k q => ?_)
            · rw [p27]; unfold zcpr; rw [if_neg (by omega)]
            · obtain ⟨y1, y2, y3⟩ := h3 j (by omega)
              rw [bf 29 (by decide), bf 30 (by decide), bf 31 (by decide), y1, y2, y3, e29, e30, e31, zs_neg (by omega), zs_neg (by omega)]
              exact ⟨rfl, rfl, rfl⟩
            · rw [bf 27 (by decide), h4 j (by omega), e27, zfr_out (by omega)]
            · rw [b25, h5 k q, e25]
        · rw [if_neg ku]
          by_cases kz : knO s.1 (L 482 a) = 0
          · rw [if_pos kz]
            obtain ⟨M1, t1, p1⟩ := kl_ifz ln K7 hO (by rw [hA]; exact ku) (by rw [hA]; exact kz) MB.1 MB.2 (by omega) (by omega)
            rw [m452, i1, eM] at p1
            obtain ⟨j1, c1⟩ := kcI_chg (b := a + 1 + L 488 a) (w1 := w + 1 + L 488 a) (s1 := (s.1, s.2.1, s.2.2.1 + 1, s.2.2.2 + (a + 1 + L 488 a - 120 - (a + 1 - 120)))) hi p1 rfl i6 ⟨by rw [zs_neg (by decide), zs_neg (by decide)]; exact i7a, by rw [zs_neg (by decide), zs_pos rfl, i7b], by rw [zs_pos rfl, i7c]; show _ = s.2.2.2 + (a + 1 + L 488 a - 120 - (a + 1 - 120)); omega⟩ i8 ⟨⟨g1, by show s.2.1 ≤ _; omega⟩, by show 0 ≤ s.2.2.1 + 1 ∧ s.2.2.1 + 1 ≤ _; omega, by show 0 ≤ s.2.2.2 + (a + 1 + L 488 a - 120 - (a + 1 - 120)) ∧ s.2.2.2 + (a + 1 + L 488 a - 120 - (a + 1 - 120)) ≤ _; omega⟩ (fun k q => by rw [zs_neg (by omega), zs_neg (by omega)])
            obtain ⟨M2, t2, j2, c2⟩ := ih (lv + 1) 1 (a + 1 + L 488 a) (a + 1 + L 488 a + L 489 a) s4 (by omega) (by have := q2.1.2.2; omega) (by omega) (by omega) (fun q z1 z2 => n9 q (by omega) (by omega)) (w + 1 + L 488 a) M1 _ (kcI_up j1 (by omega)) (by omega) (by omega) (by
              rcases he with z | z
              · left; rw [c1.1.2]; exact z
              · by_cases z0 : M 28 4 ≤ 0
                · left; rw [c1.1.2]; exact z0
                · right; rw [c1.1.2, (c1.2.1 _ (by omega)).2.2]; omega)
            exact ⟨M2, cTo_trans t1 t2 (by omega) (by omega) (by omega), by rw [show w + (1 + L 488 a + L 489 a) = w + 1 + L 488 a + (a + 1 + L 488 a + L 489 a - (a + 1 + L 488 a)) by omega]; exact kcI_back j2 (cKeep_trans c1 c2) i3 i4, cKeep_trans c1 c2⟩
          · rw [if_neg kz]
            obtain ⟨M1, t1, p1, p27, p3⟩ := kl_ifn ln K7 hO (by rw [hA]; exact ku) (by rw [hA]; exact kz) MB.1 MB.2 (by omega) (by omega)
            rw [m452, m453, i1, eM, eE] at p1
            obtain ⟨_, r2, r3, r4, r5, r6, r7⟩ := id p1
            have an3 : ∀ k : Int, 3 ≤ k → zs (zs (M 25) 1 (M 25 1 + 1)) 2 (M 25 2 + (a + 1 + L 488 a + L 489 a - 120) - (a + 1 + L 488 a - 120)) k = M 25 k := fun k q => by rw [zs_neg (by omega), zs_neg (by omega)]
            have j1 : kcI M0 M1 V (a + 1) (lv + 1) (w + 1 + L 489 a) (s.1, s.2.1, s.2.2.1 + 1, s.2.2.2 + (a + 1 + L 488 a + L 489 a - 120 - (a + 1 + L 488 a - 120))) := kcI_psh hi p1 (by omega) i6 ⟨by rw [zs_neg (by decide), zs_neg (by decide)]; exact i7a, by rw [zs_neg (by decide), zs_pos rfl, i7b], by rw [zs_pos rfl, i7c]; show _ = s.2.2.2 + (a + 1 + L 488 a + L 489 a - 120 - (a + 1 + L 488 a - 120)); omega⟩ i8 ⟨⟨g1, by show s.2.1 ≤ _; omega⟩, by show 0 ≤ s.2.2.1 + 1 ∧ s.2.2.1 + 1 ≤ _; omega, by show 0 ≤ s.2.2.2 + (a + 1 + L 488 a + L 489 a - 120 - (a + 1 + L 488 a - 120)) ∧ s.2.2.2 + (a + 1 + L 488 a + L 489 a - 120 - (a + 1 + L 488 a - 120)) ≤ _; omega⟩
            obtain ⟨M2, t2, j2, c2⟩ := ih (lv + 1) 0 (a + 1) (a + 1 + L 488 a) s3 (by omega) (by have := q2.1.2.2; omega) (by omega) (by omega) (fun q z1 z2 => n9 q (by omega) (by omega)) (w + 1 + L 489 a) M1 _ j1 (by omega) (by omega) (by right; rw [r4, r7, show M 28 4 + 1 - 1 = M 28 4 by omega, zs_pos rfl]; exact Int.le_refl _)
            obtain ⟨⟨v1, v2⟩, v3, v4, v5, v6, v7, v8, v9⟩ := id j2
            obtain ⟨⟨u1, u2⟩, u3, u4, u5⟩ := id c2
            have T : M2 28 4 - 1 = M 28 4 := by omega
            obtain ⟨o1, o2, o3⟩ := u3 (M 28 4) (by omega)
            rw [r5, zs_pos rfl] at o1
            rw [r6, zs_pos rfl] at o2
            rw [r7, zs_pos rfl] at o3
            obtain ⟨M3, t3, ⟨e6, e4⟩, ef, e24, e28⟩ := kl_e2 (M := M2) ⟨by omega, by omega, by omega, by rw [T, o3]; omega, by rw [T, o1]; omega, by rw [T, o1]; omega⟩ (by rw [T]; exact o2)
            rw [T, o1, v5 453 (by decide), i1, eE] at e6
            refine ⟨M3, cTo_trans t1 (cTo_trans t2 t3 (k := 3 * L 488 a + 1) (by omega) (by omega) (by omega)) (by omega) (by omega) (by omega), ⟨⟨e6, (e24 5 (by decide)).trans v2⟩, by rw [e24 3 (by decide)]; omega, by omega, fun c hc => (ef c (by omega)).trans (v5 c hc), fun v v0 v1' => by rw [ef 26 (by decide)]; exact v6 v v0 v1', by rw [ef 25 (by decide)]; exact v7, v8, ?_⟩, cKeep_blk p1 (by omega) (fun j q => by rw [p27]) an3 c2 (by rw [e24 3 (by decide)]; omega) (by omega) (fun j q => by rw [ef 29 (by decide), ef 30 (by decide), ef 31 (by decide)]; exact ⟨rfl, rfl, rfl⟩) (fun j q => by rw [ef 27 (by decide)]) (fun k q => by rw [ef 25 (by decide)])⟩
            exact kBn_mono v9 (by omega)
      rw [if_neg k7]
      by_cases k8 : L 480 a = 8
      · rw [if_pos k8]
        have z9 := y5 k8
        have K8 : M 443 (M 24 6) = 8 := by rw [m443, i1, w1]; exact k8
        have MB : (-1000 ≤ M 452 (M 24 6) ∧ M 452 (M 24 6) ≤ 1000) ∧ -1000 ≤ M 453 (M 24 6) ∧ M 453 (M 24 6) ≤ 1000 := by rw [m452, m453, i1]; omega
        by_cases kn : ¬ knO s.1 (L 482 a) = -9223372036854775808 ∧ knO s.1 (L 482 a) ≤ 0
        · rw [if_pos kn]
          obtain ⟨M1, t1, p1⟩ := kl_lpz ln K8 hO (by rw [hA]; exact kn.1) (by rw [hA]; exact kn.2) MB.1 MB.2 (by omega)
          rw [m453, i1, eE] at p1
          obtain ⟨j1, c1⟩ := kcI_chg (b := a + 1 + L 488 a + L 489 a) (w1 := w + (1 + L 488 a + L 489 a)) (s1 := (s.1, s.2.1, s.2.2.1, s.2.2.2 + (a + 1 + L 488 a + L 489 a - 120 - (a + 1 - 120)))) hi p1 rfl i6 ⟨by rw [zs_neg (by decide)]; exact i7a, by rw [zs_neg (by decide)]; exact i7b, by rw [zs_pos rfl, i7c]; show _ = s.2.2.2 + (a + 1 + L 488 a + L 489 a - 120 - (a + 1 - 120)); omega⟩ i8 ⟨⟨g1, by show s.2.1 ≤ _; omega⟩, ⟨g3, by show s.2.2.1 ≤ _; omega⟩, by show 0 ≤ s.2.2.2 + (a + 1 + L 488 a + L 489 a - 120 - (a + 1 - 120)) ∧ s.2.2.2 + (a + 1 + L 488 a + L 489 a - 120 - (a + 1 - 120)) ≤ _; omega⟩ (fun k q => by rw [zs_neg (by omega)])
          exact ⟨M1, cTo_trans t1 (cTo_refl (Int.le_refl 0)) (by omega) (by omega) (by omega), j1, c1⟩
        · rw [if_neg kn]
          have TG : ∀ xi : Int, a + 1 - 120 ≤ xi → xi < a + 1 + L 488 a + L 489 a - 120 → M0 444 xi < 320 := fun xi z1 z2 => by
            obtain ⟨⟨_, p2, _⟩, ⟨p3, _, _, p4, _⟩, _, _, _, p5, _⟩ := hL (xi + 120) (by omega) (by omega)
            rw [show xi + 120 - 120 = xi by omega] at p2
            by_cases c : L 480 (xi + 120) ≤ 6
            · have := p4 c; omega
            · have := p5 (by omega); omega
          have HT : ∀ xi : Int, M 24 6 + 1 ≤ xi → xi < M 453 (M 24 6) → M 444 xi < 320 := by rw [m444, m453, i1, eE]; exact fun xi z1 z2 => TG xi (by omega) z2
          have HL : M 24 6 < M 453 (M 24 6) ∧ M 453 (M 24 6) ≤ 320 := by rw [m453, i1, eE]; omega
          obtain ⟨M1, t1, p1, p27, p3⟩ : ∃ M1 : Nat → Int → Int, cTo M M1 1 ∧ cPsh M M1 (fgt (M 444) (M 26) (-9223372036854775808) (M 24 6 + 1) (M 453 (M 24 6) - (M 24 6 + 1)).toNat) (M 25) 3 (M 453 (M 24 6)) ∧ M1 27 = M 27 ∧ M1 24 3 = M 24 3 := by
            by_cases ku : knO s.1 (L 482 a) = -9223372036854775808
            · exact kl_lpu ln K8 hO (by rw [hA]; exact ku) HL.1 HL.2 HT
            · exact kl_lpg ln K8 hO (by rw [hA]; exact ku) (by rw [hA]; exact fun z => kn ⟨ku, z⟩) HL.1 HL.2 HT
          rw [m444, m453, i1, eE, show a - 120 + 1 = a + 1 - 120 by omega] at p1
          obtain ⟨_, r2, r3, r4, r5, r6, r7⟩ := id p1
          have eL : a + 1 + L 488 a + L 489 a = a + 1 + L 488 a := by omega
          have j1 : kcI M0 M1 V (a + 1) (lv + 1) w (fgt (M0 444) s.1 (-9223372036854775808) (a + 1 - 120) (a + 1 + L 488 a + L 489 a - 120 - (a + 1 - 120)).toNat, s.2) := kcI_psh hi p1 (by omega) (fgt_ag i6 _) ⟨i7a, i7b, i7c⟩ (kRg_fgt i8 _) i9
          have s3' : ySeg L (okR M0 L nF TO) n (lv + 1) 0 (a + 1) (a + 1 + L 488 a + L 489 a) := by rw [eL]; exact s3
          obtain ⟨M2, t2, j2, c2⟩ := ih (lv + 1) 0 (a + 1) (a + 1 + L 488 a + L 489 a) s3' (by omega) (by have := q2.1.2.2; omega) (by omega) (by omega) (fun q z1 z2 => n9 q (by omega) (by omega)) w M1 _ j1 w0 (by omega) (by right; rw [r4, r7, show M 28 4 + 1 - 1 = M 28 4 by omega, zs_pos rfl]; omega)
          obtain ⟨⟨v1, v2⟩, v3, v4, v5, v6, v7, v8, v9⟩ := id j2
          obtain ⟨⟨u1, u2⟩, u3, u4, u5⟩ := id c2
          have T : M2 28 4 - 1 = M 28 4 := by omega
          obtain ⟨o1, o2, o3⟩ := u3 (M 28 4) (by omega)
          rw [r5, zs_pos rfl] at o1
          rw [r6, zs_pos rfl] at o2
          rw [r7, zs_pos rfl] at o3
          obtain ⟨M3, t3, ⟨e26, e6, e4⟩, ef, e24, e28⟩ := kl_e3 (M := M2) ⟨by omega, by omega, by omega, by rw [T, o3]; omega, by rw [T, o1]; omega, by rw [T, o1]; omega⟩ (by rw [T]; exact o2) (by rw [T, o1, v5 453 (by decide), i1, eE]; omega) (by rw [T, o1, v5 453 (by decide), i1, eE]; omega) (by rw [T, o1, v5 453 (by decide), v5 444 (by decide), i1, eE]; exact fun xi z1 z2 => TG xi (by omega) z2)
          rw [T, o1, v5 453 (by decide), i1, eE] at e6
          rw [T, o1, v5 453 (by decide), v5 444 (by decide), i1, eE, show a - 120 + 1 = a + 1 - 120 by omega] at e26
          refine ⟨M3, cTo_trans t1 (cTo_trans t2 t3 (k := 3 * L 488 a + 1) (by omega) (by omega) (by omega)) (by omega) (by omega) (by omega), ⟨⟨e6, (e24 5 (by decide)).trans v2⟩, by rw [e24 3 (by decide)]; omega, by omega, fun c hc => (ef c (by omega)).trans (v5 c hc), fun v v0 v1' => by rw [e26]; exact fgt_ag v6 _ v v0 v1', by rw [ef 25 (by decide)]; exact v7, kRg_fgt v8 _, kBn_mono v9 (by omega)⟩, cKeep_blk p1 (by omega) (fun j q => by rw [p27]) (fun _ _ => rfl) c2 (by rw [e24 3 (by decide)]; omega) (by omega) (fun j q => by rw [ef 29 (by decide), ef 30 (by decide), ef 31 (by decide)]; exact ⟨rfl, rfl, rfl⟩) (fun j q => by rw [ef 27 (by decide)]) (fun k q => by rw [ef 25 (by decide)])⟩
      rw [if_neg k8]
      obtain ⟨z8, z9⟩ := y4 (by omega)
      have xx := x4 (by omega)
      have HX : 0 ≤ M 444 (M 24 6) ∧ M 444 (M 24 6) < 320 := by rw [m444, i1, w2]; omega
      have FIN : ∀ (s1 : (Int → Int) × Int × Int × Int) (r an : Int → Int), (∃ M1 : Nat → Int → Int, cTo M M1 1 ∧ cChg M M1 r an (M 24 6 + 1)) → (∀ v : Int, 0 ≤ v → v < V → r v = s1.1 v) → (an 0 = s1.2.1 ∧ an 1 = s1.2.2.1 ∧ an 2 = s1.2.2.2) → kRg V s1.1 → kBn s1 (w + 1) → (∀ k : Int, 3 ≤ k → an k = M 25 k) → ∃ M1 : Nat → Int → Int, cTo M M1 (3 * (a + 1 + L 488 a + L 489 a - a)) ∧ kcI M0 M1 V (a + 1 + L 488 a + L 489 a) lv (w + (1 + L 488 a + L 489 a)) s1 ∧ cKeep M M1 := fun s1 r an ⟨M1, t, c⟩ hr ha rg bn hk => by
        have e1 : a + 1 + L 488 a + L 489 a = a + 1 := by omega
        rw [e1, show w + (1 + L 488 a + L 489 a) = w + 1 by omega]
        have z := kcI_chg (b := a + 1) (w1 := w + 1) hi c (by omega) hr ha rg bn hk
        exact ⟨M1, cTo_trans t (cTo_refl (Int.le_refl 0)) (by omega) (by omega) (by omega), z.1, z.2⟩
      have B0 : kBn s (w + 1) := kBn_mono i9 (by omega)
      by_cases k0 : L 480 a = 0
      · rw [if_pos k0]
        have K0 : M 443 (M 24 6) = 0 := by rw [m443, i1, w1]; exact k0
        by_cases ku : knO s.1 (L 482 a) = -9223372036854775808
        · refine FIN _ _ _ (kl_put0u ln K0 hO HX (by rw [hA]; exact ku)) ?_ ⟨i7a, i7b, i7c⟩ (kRg_zs i8 kAr) B0 (fun _ _ => rfl)
          rw [m444, i1, w2, ku]; exact zs_ag i6
        · have wr : wrk 0 (w32 (knO s.1 (L 482 a))) 0 = knO s.1 (L 482 a) := by
            show w32 _ = _
            exact w32_id (by unfold in32; have := kAr; omega)
          refine FIN _ _ _ (kl_put0k ln K0 hO HX (by rw [hA]; exact ku) (by omega)) ?_ ⟨by rw [zs_pos rfl]; exact i7a, by rw [zs_neg (by decide)]; exact i7b, by rw [zs_neg (by decide)]; exact i7c⟩ (kRg_zs i8 kAr) B0 (fun k q => by rw [zs_neg (by omega)])
          rw [m444, m443, hA, i1, w1, k0, w2, wr]; exact zs_ag i6
      rw [if_neg k0]
      have k15 : 1 ≤ L 480 a ∧ L 480 a ≤ 5 := by omega
      have K15 : 1 ≤ M 443 (M 24 6) ∧ M 443 (M 24 6) ≤ 5 := by rw [m443, i1, w1]; exact k15
      have xb := x3 k15
      have hB : knO (M 26) (M 446 (M 24 6)) = knO s.1 (L 483 a) := by rw [m446, i1, w4]; exact knO_ag i6 xb
      have hO2 : -330 < M 446 (M 24 6) ∧ M 446 (M 24 6) ≤ 1000 := by rw [m446, i1, w4]; unfold opnd at xb; omega
      have kBr := kRg_o i8 xb
      by_cases ku : knO s.1 (L 482 a) = -9223372036854775808
      · rw [if_pos (Or.inl ku)]
        refine FIN _ _ _ (kl_put1u ln K15.1 K15.2 hO hO2 HX (by rw [hA]; exact ku)) ?_ ⟨i7a, i7b, i7c⟩ (kRg_zs i8 (Or.inl rfl)) B0 (fun _ _ => rfl)
        rw [m444, i1, w2]; exact zs_ag i6
      · by_cases kb : knO s.1 (L 483 a) = -9223372036854775808
        · rw [if_pos (Or.inr kb)]
          refine FIN _ _ _ (kl_put1b ln K15.1 K15.2 hO hO2 HX (by rw [hA]; exact ku) (by rw [hB]; exact kb)) ?_ ⟨i7a, i7b, i7c⟩ (kRg_zs i8 (Or.inl rfl)) B0 (fun _ _ => rfl)
          rw [m444, i1, w2]; exact zs_ag i6
        · rw [if_neg (fun z => z.elim ku kb)]
          have wa : w32 (knO s.1 (L 482 a)) = knO s.1 (L 482 a) := w32_id (by unfold in32; omega)
          have wb : w32 (knO s.1 (L 483 a)) = knO s.1 (L 483 a) := w32_id (by unfold in32; omega)
          refine FIN _ _ _ (kl_put1k ln K15.1 K15.2 hO hO2 HX (by rw [hA]; exact ku) (by rw [hB]; exact kb) (by omega)) ?_ ⟨by rw [zs_pos rfl, i7a], by rw [zs_neg (by decide)]; exact i7b, by rw [zs_neg (by decide)]; exact i7c⟩ (kRg_zs i8 (Or.inr (wrk_in (by omega)))) ⟨by show 0 ≤ s.2.1 + 1 ∧ s.2.1 + 1 ≤ _; omega, by show 0 ≤ s.2.2.1 ∧ s.2.2.1 ≤ _; omega, by show 0 ≤ s.2.2.2 ∧ s.2.2.2 ≤ _; omega⟩ (fun k q => by rw [zs_neg (by omega)])
          rw [m444, m443, hA, hB, i1, w1, w2, wa, wb]; exact zs_ag i6
    obtain ⟨M1, t1, j1, k1⟩ := one
    obtain ⟨M2, t2, j2, k2⟩ := ih lv br (a + 1 + L 488 a + L 489 a) b s5 lv0 lv1 (by omega) b1 (fun q z1 z2 => n9 q (by omega) z2) (w + (1 + L 488 a + L 489 a)) M1 _ j1 (by omega) (by omega) (by
      rcases he with z | z
      · left; rw [k1.1.2]; exact z
      · by_cases z0 : M 28 4 ≤ 0
        · left; rw [k1.1.2]; exact z0
        · right; rw [k1.1.2, (k1.2.1 _ (by omega)).2.2]; exact z)
    refine ⟨M2, cTo_trans t1 t2 (by omega) (by omega) (by omega), ?_, cKeep_trans k1 k2⟩
    rw [kSem_go (by omega), eE]
    rw [eE, show w + (1 + L 488 a + L 489 a) + (b - (a + 1 + L 488 a + L 489 a)) = w + (b - a) by omega] at j2
    exact j2
