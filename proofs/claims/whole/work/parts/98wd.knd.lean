/-! Known numbers, on the side of the reference: lines, one part behind another -/
/-- as many that differ as there are lines at most -/
theorem few_of {X kv : Int → Int} : ∀ (m : Nat) (a p0 p : Int) (kv : Int → Int), p0 ≤ p → (∀ q : Int, p0 ≤ q → q < p → ∃ l : Int, a ≤ l ∧ l < a + m ∧ X l = kv q) → (∀ q r : Int, p0 ≤ q → q < r → r < p → ¬ kv q = kv r) → p - p0 ≤ m := by
  intro m
  induction m with
  | zero =>
    intro a p0 p kv h0 h1 h2
    by_cases e : p0 = p
    · omega
    · obtain ⟨l, l0, l1, _⟩ := h1 p0 (Int.le_refl _) (by omega)
      omega
  | succ m ih =>
    intro a p0 p kv h0 h1 h2
    by_cases e : ∃ q : Int, p0 ≤ q ∧ q < p ∧ kv q = X (a + m)
    · obtain ⟨q0, a0, a1, a2⟩ := e
      have z := ih a p0 (p - 1) (fun q => if q < q0 then kv q else kv (q + 1)) (by omega) (fun q b0 b1 => ?_) (fun q r b0 b1 b2 => ?_)
      · omega
      · show ∃ l : Int, a ≤ l ∧ l < a + m ∧ X l = if q < q0 then kv q else kv (q + 1)
        by_cases c : q < q0
        · rw [if_pos c]
          obtain ⟨l, l0, l1, l2⟩ := h1 q b0 (by omega)
          refine ⟨l, l0, ?_, l2⟩
          have ne := h2 q q0 b0 c a1
          have : ¬ l = a + m := fun y => ne (by rw [a2, ← l2, y])
          omega
        · rw [if_neg c]
          obtain ⟨l, l0, l1, l2⟩ := h1 (q + 1) (by omega) (by omega)
          refine ⟨l, l0, ?_, l2⟩
          have ne := h2 q0 (q + 1) a0 (by omega) (by omega)
          have : ¬ l = a + m := fun y => ne (by rw [a2, ← l2, y])
          omega
      · show ¬ (if q < q0 then kv q else kv (q + 1)) = if r < q0 then kv r else kv (r + 1)
        by_cases c : q < q0
        · rw [if_pos c]
          by_cases d : r < q0
          · rw [if_pos d]; exact h2 q r b0 b1 (by omega)
          · rw [if_neg d]; exact h2 q (r + 1) b0 (by omega) (by omega)
        · rw [if_neg c, if_neg (by omega)]; exact h2 (q + 1) (r + 1) (by omega) (by omega) (by omega)
    · have z := ih a p0 p kv h0 (fun q b0 b1 => ?_) h2
      · omega
      · obtain ⟨l, l0, l1, l2⟩ := h1 q b0 b1
        refine ⟨l, l0, ?_, l2⟩
        have : ¬ l = a + m := fun y => e ⟨q, b0, b1, by rw [← l2, y]⟩
        omega
section
variable {V : Int} {r K N : Int → Int}
def kNr (V : Int) (N : Int → Int) : Prop := ∀ v : Int, 0 ≤ v → v < V → -2147483648 ≤ N v ∧ N v ≤ 2147483647
theorem kn_op {o : Int} (h : kRel V r K N) (hN : kNr V N) (q : opnd V o) : (knO r o = -9223372036854775808 ↔ knB K o = 0) ∧ (¬ knB K o = 0 → knO r o = knN N o) := by
  unfold opnd at q
  unfold knO knB knN
  by_cases c : o ≤ -10
  · have z := h (-10 - o) (by omega) (by omega)
    have y := hN (-10 - o) (by omega) (by omega)
    rw [if_pos c, if_neg (show ¬ (0 ≤ o) by omega), if_neg (show ¬ (0 ≤ o) by omega)]
    by_cases k : K (-10 - o) = 0
    · rw [if_pos k] at z
      rw [if_neg (fun w => w.2 k)]
      exact ⟨⟨fun _ => rfl, fun _ => z⟩, fun w => absurd rfl w⟩
    · rw [if_neg k] at z
      rw [if_pos ⟨by omega, k⟩]
      exact ⟨⟨fun w => by omega, fun w => absurd w (by decide)⟩, fun _ => z⟩
  · rw [if_neg c, if_pos (show 0 ≤ o by omega), if_pos (show 0 ≤ o by omega)]
    exact ⟨⟨fun w => by omega, fun w => absurd w (by decide)⟩, fun _ => rfl⟩
theorem kRg_of {o : Int} (h : kRel V r K N) (hN : kNr V N) (q : opnd V o) : knO r o = -9223372036854775808 ∨ (-2147483648 ≤ knO r o ∧ knO r o ≤ 2147483647) := by
  unfold opnd at q
  unfold knO
  by_cases c : o ≤ -10
  · have z := h (-10 - o) (by omega) (by omega)
    have y := hN (-10 - o) (by omega) (by omega)
    rw [if_pos c, z]
    split
    · exact Or.inl rfl
    · exact Or.inr y
  · rw [if_neg c]; omega
theorem kNr_zs {k x : Int} (h : kNr V N) (q : -2147483648 ≤ x ∧ x ≤ 2147483647) : kNr V (zs N k x) := by
  intro v v0 v1
  by_cases e : v = k
  · rw [zs_pos e]; exact q
  · rw [zs_neg e]; exact h v v0 v1
theorem kNr_fgt {T : Int → Int} {a : Int} (h : kNr V N) : ∀ n : Nat, kNr V (fgt T N 0 a n) := by
  intro n
  induction n with
  | zero => exact h
  | succ n ih =>
    show kNr V (if 0 ≤ T (a + n) then zs (fgt T N 0 a n) (T (a + n)) 0 else fgt T N 0 a n)
    split
    · exact kNr_zs ih (by omega)
    · exact ih
end
def kHt (L : Nat → Int → Int) (V a b : Int) : Int → Prop := fun v => (∃ q : Int, a ≤ q ∧ q < b ∧ L 481 q = v) ∧ 0 ≤ v ∧ v < V
def krI (L τ : Nat → Int → Int) (V N a lv w : Int) (s : (Int → Int) × Int × Int × Int) : Prop :=
  (τ 467 132 = a ∧ τ 467 110 = V ∧ τ 467 109 = 120 + N) ∧ (kRel V s.1 (τ 547) (τ 548) ∧ kOK V (τ 547) (τ 548) ∧ kNr V (τ 548)) ∧ (τ 467 129 = s.2.1 ∧ τ 467 130 = s.2.2.1 ∧ τ 467 131 = s.2.2.2) ∧ kBn s w ∧
  (0 ≤ τ 467 128 ∧ τ 467 128 ≤ lv) ∧ (0 ≤ τ 467 126 ∧ τ 467 126 + nsum (τ 547) V.toNat ≤ V + 2 * (a - 120)) ∧ (0 ≤ τ 467 127 ∧ τ 467 127 ≤ a - 120) ∧ (∀ c : Nat, ¬ (547 ≤ c ∧ c ≤ 560) → ¬ c = 467 → τ c = L c) ∧ ∀ k : Int, ¬ (126 ≤ k ∧ k ≤ 132) → τ 467 k = L 467 k
def rKeep (τ τ' : Nat → Int → Int) : Prop := (τ' 467 127 = τ 467 127 ∧ τ' 467 128 = τ 467 128) ∧ (∀ (c : Nat) (j : Int), 553 ≤ c → c ≤ 557 → j < τ 467 128 → τ' c j = τ c j) ∧ ∀ (c : Nat) (j : Int), (c = 551 ∨ c = 552 ∨ c = 559) → j < τ 467 127 → τ' c j = τ c j
theorem rKeep_refl {τ : Nat → Int → Int} : rKeep τ τ := ⟨⟨rfl, rfl⟩, fun _ _ _ _ _ => rfl, fun _ _ _ _ => rfl⟩
theorem rKeep_trans {τ τ1 τ2 : Nat → Int → Int} (h : rKeep τ τ1) (k : rKeep τ1 τ2) : rKeep τ τ2 :=
  ⟨⟨k.1.1.trans h.1.1, k.1.2.trans h.1.2⟩, fun c j a b q => (k.2.1 c j a b (by rw [h.1.2]; exact q)).trans (h.2.1 c j a b q), fun c j a q => (k.2.2 c j a (by rw [h.1.1]; exact q)).trans (h.2.2 c j a q)⟩
section
variable {L τ τ' τ1 τ2 τ3 : Nat → Int → Int} {V N a b lv w w1 : Int} {s s1 s2 : (Int → Int) × Int × Int × Int} {K' N' : Int → Int} {B : Int} {H : Int → Prop}
theorem kHt_mono {c d v : Int} (h : kHt L V c d v) (x : a ≤ c) (y : d ≤ b) : kHt L V a b v := by
  obtain ⟨⟨q, q0, q1, q2⟩, h2⟩ := h
  exact ⟨⟨q, by omega, by omega, q2⟩, h2⟩
theorem krI_chg0 {g fo de ne p lv' : Int} (h : krI L τ V N a lv' w s) (c : rChg V τ τ' K' N' B H) (u : rNum τ' g fo de ne p) (e : (0 ≤ g ∧ g ≤ lv) ∧ p = b ∧ a ≤ b ∧ B ≤ 2 * (b - a)) (hr : kRel V s1.1 K' N') (hk : kOK V K' N') (hn : kNr V N') (ha : fo = s1.2.1 ∧ de = s1.2.2.1 ∧ ne = s1.2.2.2) (bn : kBn s1 w1) : krI L τ' V N b lv w1 s1 := by
  obtain ⟨⟨h1, h2, h3⟩, h4, h5, h6, h7, ⟨h8, h9⟩, h10, h11, h12⟩ := h
  obtain ⟨⟨c1, c2⟩, c3, c4, c5⟩ := c
  obtain ⟨u1, u2, u3, u4, u5⟩ := u
  have k1 := c3.1
  have k2 := c3.2.2.2.2.2
  exact ⟨⟨u5.trans e.2.1, (c5 110 (by decide)).trans h2, (c5 109 (by decide)).trans h3⟩, ⟨by rw [c1, c2]; exact hr, by rw [c1, c2]; exact hk, by rw [c2]; exact hn⟩, ⟨u2.trans ha.1, u3.trans ha.2.1, u4.trans ha.2.2⟩, bn, by omega, by omega, by rw [c5 127 (by decide)]; omega, fun c x y => (c4 c (by omega) (by omega) y).trans (h11 c x y), fun k x => (c5 k (by omega)).trans (h12 k x)⟩
theorem kTr_none {T T' : Int} {K N tv tk tn K' N' tv' tk' tn' : Int → Int} (h : kTr V T K N tv tk tn T' K' N' tv' tk' tn' B (fun _ => False)) : T' = T := by
  have := h.1
  by_cases e : T' = T
  · exact e
  · exact ((h.2.2.2.2.1 T (Int.le_refl _) (by omega)).1).elim
theorem rKeep_off {K N : Int → Int} {g fo de ne p : Int} (c : rChg V τ τ' K N B H) (u : rNum τ' g fo de ne p) : (τ' 467 127 = τ 467 127 ∧ τ' 467 128 = g) ∧ (∀ (c : Nat) (j : Int), 553 ≤ c → c ≤ 557 → τ' c j = τ c j) ∧ ∀ (c : Nat) (j : Int), (c = 551 ∨ c = 552 ∨ c = 559) → τ' c j = τ c j :=
  ⟨⟨c.2.2.2 127 (by decide), u.1⟩, fun c' j x y => by rw [c.2.2.1 c' (by omega) (by omega) (by omega)], fun c' j x => by rw [c.2.2.1 c' (by omega) (by omega) (by omega)]⟩
theorem kRel_ag {r K N K2 N2 : Int → Int} (h : kRel V r K N) (e : ∀ v : Int, 0 ≤ v → v < V → K2 v = K v ∧ N2 v = N v) : kRel V r K2 N2 := fun v v0 v1 => by rw [(e v v0 v1).1, (e v v0 v1).2]; exact h v v0 v1
theorem krI_chg {g fo de ne p : Int} (h : krI L τ V N a lv w s) (c : rChg V τ τ' K' N' B H) (u : rNum τ' g fo de ne p) (e : g = τ 467 128 ∧ p = b ∧ a ≤ b ∧ B ≤ 2 * (b - a)) (hr : kRel V s1.1 K' N') (hk : kOK V K' N') (hn : kNr V N') (ha : fo = s1.2.1 ∧ de = s1.2.2.1 ∧ ne = s1.2.2.2) (bn : kBn s1 w1) : krI L τ' V N b lv w1 s1 ∧ rKeep τ τ' := by
  obtain ⟨⟨h1, h2, h3⟩, h4, h5, h6, h7, ⟨h8, h9⟩, h10, h11, h12⟩ := h
  obtain ⟨⟨c1, c2⟩, c3, c4, c5⟩ := c
  obtain ⟨u1, u2, u3, u4, u5⟩ := u
  have k1 := c3.1
  have k2 := c3.2.2.2.2.2
  refine ⟨⟨⟨u5.trans e.2.1, (c5 110 (by decide)).trans h2, (c5 109 (by decide)).trans h3⟩, ⟨by rw [c1, c2]; exact hr, by rw [c1, c2]; exact hk, by rw [c2]; exact hn⟩, ⟨u2.trans ha.1, u3.trans ha.2.1, u4.trans ha.2.2⟩, bn, by omega, by omega, by rw [c5 127 (by decide)]; omega, fun c x y => (c4 c (by omega) (by omega) y).trans (h11 c x y), fun k x => (c5 k (by omega)).trans (h12 k x)⟩, ⟨c5 127 (by decide), by omega⟩, fun c j x y q => by rw [c4 c (by omega) (by omega) (by omega)], fun c j x q => by rw [c4 c (by omega) (by omega) (by omega)]⟩
theorem krI_psh {g fo de ne p ww e : Int} (h : krI L τ V N a lv w s) (c : rPsh V τ τ' K' N' H ww e) (u : rNum τ' g fo de ne p) (eg : g = τ 467 128 + 1 ∧ p = b ∧ a ≤ b) (hr : kRel V s1.1 K' N') (hk : kOK V K' N') (hn : kNr V N') (ha : fo = s1.2.1 ∧ de = s1.2.2.1 ∧ ne = s1.2.2.2) (bn : kBn s1 w1) : krI L τ' V N b (lv + 1) w1 s1 := by
  obtain ⟨⟨h1, h2, h3⟩, h4, h5, h6, h7, ⟨h8, h9⟩, h10, h11, h12⟩ := h
  obtain ⟨⟨c1, c2⟩, c3, c4, c5, c6⟩ := c
  obtain ⟨u1, u2, u3, u4, u5⟩ := u
  have k1 := c3.1
  have k2 := c3.2.2.2.2.2
  exact ⟨⟨u5.trans eg.2.1, (c5 110 (by decide)).trans h2, (c5 109 (by decide)).trans h3⟩, ⟨by rw [c1, c2]; exact hr, by rw [c1, c2]; exact hk, by rw [c2]; exact hn⟩, ⟨u2.trans ha.1, u3.trans ha.2.1, u4.trans ha.2.2⟩, bn, by omega, by omega, by rw [c5 127 (by decide)]; omega, fun c x y => (c4 c (by omega) (by omega) y).trans (h11 c x y), fun k x => (c5 k (by omega)).trans (h12 k x)⟩
/-- a block that was opened is left again -/
theorem rKeep_blk {ww e : Int} (c : rPsh V τ τ1 K' N' H ww e) (g1 : τ1 467 128 = τ 467 128 + 1) (k : rKeep τ1 τ2) (e7 : τ3 467 127 = τ 467 127) (e8 : τ3 467 128 = τ2 467 128 - 1) (er : ∀ (c : Nat) (j : Int), 553 ≤ c → c ≤ 557 → j < τ 467 128 → τ3 c j = τ2 c j) (ek : ∀ (c : Nat) (j : Int), (c = 551 ∨ c = 552 ∨ c = 559) → j < τ 467 127 → τ3 c j = τ2 c j) : rKeep τ τ3 := by
  obtain ⟨⟨c1, c2⟩, c3, c4, c5, d3, d4, d5, d6, d7⟩ := c
  obtain ⟨⟨k1, k2⟩, k3, k4⟩ := k
  refine ⟨⟨e7, by omega⟩, fun c j x y q => ?_, fun c j x q => ?_⟩
  · rw [er c j x y q, k3 c j x y (by omega)]
    rcases (by omega : c = 553 ∨ c = 554 ∨ c = 555 ∨ c = 556 ∨ c = 557) with z | z | z | z | z <;> subst z
    · rw [d3, zs_neg (by omega)]
    · rw [d4, zs_neg (by omega)]
    · rw [d5, zs_neg (by omega)]
    · rw [d6, zs_neg (by omega)]
    · rw [d7, zs_neg (by omega)]
  · rw [ek c j x q, k4 c j x (by rw [c5 127 (by decide)]; exact q), c4 c (by omega) (by omega) (by omega)]
theorem krI_back {lv' : Int} (h : krI L τ V N a lv' w s) (k : rKeep τ1 τ) (x : 0 ≤ τ1 467 128 ∧ τ1 467 128 ≤ lv) : krI L τ V N a lv w s := by
  obtain ⟨h1, h4, h5, h6, h7, h8⟩ := h
  exact ⟨h1, h4, h5, h6, by rw [k.1.2]; exact x, h8⟩
end
set_option maxHeartbeats 4000000 in
theorem kr_seg {M0 L : Nat → Int → Int} {nF : Int} {TO : Int → Int} {V N : Int} (hV : 0 ≤ V ∧ V ≤ 308) (hN : 0 ≤ N ∧ N ≤ 300) (hL : kLd M0 L V N) : ∀ (n : Nat) (lv br a b : Int), ySeg L (okR M0 L nF TO) n lv br a b → 0 ≤ lv → lv ≤ 131 → 120 ≤ a → b ≤ 120 + N → (∀ q : Int, a ≤ q → q < b → ¬ L 480 q = 9) → ∀ (w : Int) (τ : Nat → Int → Int) (s : (Int → Int) × Int × Int × Int), krI L τ V N a lv w s → 0 ≤ w → w + (b - a) ≤ 100000 → (τ 467 128 ≤ 0 ∨ b ≤ τ 555 (τ 467 128 - 1)) → kToS τ (fun τ' => krI L τ' V N b lv (w + (b - a)) (kSem (M0 443) (M0 444) (M0 445) (M0 446) (M0 452) (M0 453) n (a - 120) (b - 120) s) ∧ rKeep τ τ' ∧ kTrS V τ τ' (2 * (b - a)) (kHt L V a b)) := by
  intro n
  induction n with
  | zero =>
    intro lv br a b h _ _ _ _ _ w τ s hi w0 wb _
    have e : a = b := h
    subst e
    refine kToS_ret ⟨?_, rKeep_refl, ?_⟩
    · rw [show w + (a - a) = w by omega]; exact hi
    · exact kTr_mono kTr_refl (by omega) (fun _ z => z)
  | succ n ih =>
    intro lv br a b h lv0 lv1 a0 b1 n9 w τ s hi w0 wb he
    rcases h with h | ⟨q1, q2, s3, s4, s5⟩
    · subst h
      refine kToS_ret ⟨?_, rKeep_refl, kTr_mono kTr_refl (by omega) (fun _ z => z)⟩
      rw [show w + (a - a) = w by omega, show kSem (M0 443) (M0 444) (M0 445) (M0 446) (M0 452) (M0 453) (n + 1) (a - 120) (a - 120) s = s from if_pos rfl]
      exact hi
    have l5 := ySegE_le ⟨n, s5⟩
    obtain ⟨⟨w1, w2, w3, w4, w5, w6⟩, ⟨x1, x2, x3, x4, x5⟩, ⟨y1, y2, y3⟩, y4, y5, y6, y7⟩ := hL a a0 (by omega)
    have k9 := n9 a (Int.le_refl _) q1
    obtain ⟨⟨i1, i2, i3⟩, ⟨i4, i5, i6⟩, ⟨i7a, i7b, i7c⟩, i8, i9, ⟨i10, i11⟩, i12, i13, i14⟩ := id hi
    obtain ⟨⟨g1, g2⟩, ⟨g3, g4⟩, g5, g6⟩ := id i8
    have t480 := i13 480 (by decide) (by decide)
    have t481 := i13 481 (by decide) (by decide)
    have t482 := i13 482 (by decide) (by decide)
    have t483 := i13 483 (by decide) (by decide)
    have t488 := i13 488 (by decide) (by decide)
    have t489 := i13 489 (by decide) (by decide)
    have nsp : 0 ≤ nsum (τ 547) V.toNat := nsum_pos V.toNat (fun j j0 j1 => by have := i5 j j0 (by omega); omega)
    have lm : kLm τ := ⟨by omega, by omega, by omega, by rw [i1]; rcases he with z | z; (left; exact z); (by_cases z0 : τ 467 128 ≤ 0; (left; exact z0); (right; omega)), by rw [i1, t482]; exact x5⟩
    have kA := fun (z : ¬ L 480 a = 6) => kn_op i4 i6 (x2 z)
    have eE : M0 453 (a - 120) = a + 1 + L 488 a + L 489 a - 120 := by omega
    have eM : M0 452 (a - 120) = a + 1 + L 488 a - 120 := by omega
    have one : kToS τ (fun τ' => krI L τ' V N (a + 1 + L 488 a + L 489 a) lv (w + (1 + L 488 a + L 489 a)) (
      if M0 443 (a - 120) = 6 then (zs s.1 (M0 444 (a - 120)) (-9223372036854775808), s.2)
      else if M0 443 (a - 120) = 7 then (
        if knO s.1 (M0 445 (a - 120)) = -9223372036854775808 then
          (mrg (kSem (M0 443) (M0 444) (M0 445) (M0 446) (M0 452) (M0 453) n (M0 452 (a - 120)) (M0 453 (a - 120)) (s.1, (kSem (M0 443) (M0 444) (M0 445) (M0 446) (M0 452) (M0 453) n (a - 120 + 1) (M0 452 (a - 120)) s).2)).1 (kSem (M0 443) (M0 444) (M0 445) (M0 446) (M0 452) (M0 453) n (a - 120 + 1) (M0 452 (a - 120)) s).1, (kSem (M0 443) (M0 444) (M0 445) (M0 446) (M0 452) (M0 453) n (M0 452 (a - 120)) (M0 453 (a - 120)) (s.1, (kSem (M0 443) (M0 444) (M0 445) (M0 446) (M0 452) (M0 453) n (a - 120 + 1) (M0 452 (a - 120)) s).2)).2)
        else if knO s.1 (M0 445 (a - 120)) = 0 then kSem (M0 443) (M0 444) (M0 445) (M0 446) (M0 452) (M0 453) n (M0 452 (a - 120)) (M0 453 (a - 120)) (s.1, s.2.1, s.2.2.1 + 1, s.2.2.2 + (M0 452 (a - 120) - (a - 120 + 1)))
        else kSem (M0 443) (M0 444) (M0 445) (M0 446) (M0 452) (M0 453) n (a - 120 + 1) (M0 452 (a - 120)) (s.1, s.2.1, s.2.2.1 + 1, s.2.2.2 + (M0 453 (a - 120) - M0 452 (a - 120))))
      else if M0 443 (a - 120) = 8 then (
        if ¬ knO s.1 (M0 445 (a - 120)) = -9223372036854775808 ∧ knO s.1 (M0 445 (a - 120)) ≤ 0 then (s.1, s.2.1, s.2.2.1, s.2.2.2 + (M0 453 (a - 120) - (a - 120 + 1)))
        else (fgt (M0 444) (kSem (M0 443) (M0 444) (M0 445) (M0 446) (M0 452) (M0 453) n (a - 120 + 1) (M0 453 (a - 120)) (fgt (M0 444) s.1 (-9223372036854775808) (a - 120 + 1) (M0 453 (a - 120) - (a - 120 + 1)).toNat, s.2)).1 (-9223372036854775808) (a - 120 + 1) (M0 453 (a - 120) - (a - 120 + 1)).toNat, (kSem (M0 443) (M0 444) (M0 445) (M0 446) (M0 452) (M0 453) n (a - 120 + 1) (M0 453 (a - 120)) (fgt (M0 444) s.1 (-9223372036854775808) (a - 120 + 1) (M0 453 (a - 120) - (a - 120 + 1)).toNat, s.2)).2))
      else if M0 443 (a - 120) = 0 then (zs s.1 (M0 444 (a - 120)) (knO s.1 (M0 445 (a - 120))), s.2)
      else if knO s.1 (M0 445 (a - 120)) = -9223372036854775808 ∨ knO s.1 (M0 446 (a - 120)) = -9223372036854775808 then (zs s.1 (M0 444 (a - 120)) (-9223372036854775808), s.2)
      else (zs s.1 (M0 444 (a - 120)) (wrk (M0 443 (a - 120)) (knO s.1 (M0 445 (a - 120))) (knO s.1 (M0 446 (a - 120)))), s.2.1 + 1, s.2.2)) ∧ rKeep τ τ' ∧ kTrS V τ τ' (2 * (a + 1 + L 488 a + L 489 a - a)) (kHt L V a (a + 1 + L 488 a + L 489 a))) := by
      rw [w1, w2, w3, w4, eM, eE, show a - 120 + 1 = a + 1 - 120 by omega]
      by_cases k6 : L 480 a = 6
      · obtain ⟨z8, z9⟩ := y4 (by omega)
        have xx := x4 (by omega)
        have e1 : a + 1 + L 488 a + L 489 a = a + 1 := by omega
        have SS : kSt τ := ⟨by omega, by rw [i1, t481, i2]; exact xx, by rw [i2]; exact i5, by omega, by omega⟩
        rw [if_pos k6, e1, show w + (1 + L 488 a + L 489 a) = w + 1 by omega]
        refine kToS_mono (km_call lm SS (by rw [i1, t480]; exact k6)) (fun τ1 ⟨c, u⟩ => ?_)
        rw [i1, t481, i2] at c
        have z := krI_chg (b := a + 1) (w1 := w + 1) (s1 := (zs s.1 (L 481 a) (-9223372036854775808), s.2)) hi c u ⟨rfl, by omega, by omega, by omega⟩ (kRel_zs (b := 0) (x := 0) i4) (kOK_zs i5 (Or.inl ⟨rfl, rfl⟩)) (kNr_zs i6 (by decide)) ⟨i7a, i7b, i7c⟩ (kBn_mono i8 (by omega))
        exact ⟨z.1, z.2, kTr_mono c.2.1 (by omega) (fun v e => ⟨⟨a, Int.le_refl _, by omega, e.symm⟩, by rw [e]; exact xx⟩)⟩
      rw [if_neg k6]
      have kA := kA k6
      have x2 := x2 k6
      have hO : 0 ≤ τ 482 (τ 467 132) ∨ τ 482 (τ 467 132) ≤ -10 := by rw [i1, t482]; unfold opnd at x2; omega
      have eB : knB (τ 547) (τ 482 (τ 467 132)) = knB (τ 547) (L 482 a) := by rw [i1, t482]
      have eN : knN (τ 548) (τ 482 (τ 467 132)) = knN (τ 548) (L 482 a) := by rw [i1, t482]
      have TH : 0 ≤ τ 488 (τ 467 132) ∧ τ 488 (τ 467 132) ≤ 400 ∧ 0 ≤ τ 489 (τ 467 132) ∧ τ 489 (τ 467 132) ≤ 400 := by rw [i1, t488, t489]; omega
      by_cases k7 : L 480 a = 7
      · rw [if_pos k7]
        have K7 : τ 480 (τ 467 132) = 7 := by rw [i1, t480]; exact k7
        by_cases ku : knO s.1 (L 482 a) = -9223372036854775808
        · rw [if_pos ku]
          refine kToS_bind (km_ifu lm TH K7 (by rw [eB]; exact kA.1.1 ku)) (fun τ1 ⟨p1, u1⟩ => ?_)
          rw [i1, t488, i2] at p1
          rw [i1] at u1
          have j1 : krI L τ1 V N (a + 1) (lv + 1) w s := krI_psh hi p1 u1 ⟨rfl, rfl, by omega⟩ i4 i5 i6 ⟨i7a, i7b, i7c⟩ i8
          obtain ⟨⟨pa, pb⟩, pc, pd, pe, p3, p4, p5, p6, p7⟩ := id p1
          have pT := pc.1
          obtain ⟨v1, v2, v3, v4, v5⟩ := id u1
          refine kToS_bind (ih (lv + 1) 0 (a + 1) (a + 1 + L 488 a) s3 (by omega) (by have := q2.1.2.2; omega) (by omega) (by omega) (fun q z1 z2 => n9 q (by omega) (by omega)) w τ1 s j1 w0 (by omega) (by right; rw [v1, p5, show τ 467 128 + 1 - 1 = τ 467 128 by omega, zs_pos rfl]; exact Int.le_refl _)) (fun τ2 ⟨j2, c2, m2⟩ => ?_)
          obtain ⟨s1, es1⟩ : ∃ s1, s1 = kSem (M0 443) (M0 444) (M0 445) (M0 446) (M0 452) (M0 453) n (a + 1 - 120) (a + 1 + L 488 a - 120) s := ⟨_, rfl⟩
          rw [← es1] at j2 ⊢
          obtain ⟨⟨d1, d2, d3⟩, ⟨d4, d5, d6⟩, ⟨d7a, d7b, d7c⟩, d8, d9, ⟨d10, d11⟩, d12, d13, d14⟩ := id j2
          have c1 := c2.1
          have G2 : τ2 467 128 - 1 = τ 467 128 := by omega
          have R2 : ∀ c : Nat, 553 ≤ c → c ≤ 557 → τ2 c (τ 467 128) = τ1 c (τ 467 128) := fun c z1 z2 => c2.2.1 c _ z1 z2 (by omega)
          have r3 : τ2 553 (τ 467 128) = 1 := by rw [R2 553 (by decide) (by decide), p3]; exact zs_pos rfl
          have r4 : τ2 554 (τ 467 128) = a := by rw [R2 554 (by decide) (by decide), p4, i1]; exact zs_pos rfl
          have r5 : τ2 555 (τ 467 128) = a + 1 + L 488 a := by rw [R2 555 (by decide) (by decide), p5]; exact zs_pos rfl
          have r6 : τ2 556 (τ 467 128) = τ1 467 126 := by rw [R2 556 (by decide) (by decide), p6]; exact zs_pos rfl
          have r7 : τ2 557 (τ 467 128) = τ 467 127 := by rw [R2 557 (by decide) (by decide), p7]; exact zs_pos rfl
          have eT := kTr_none pc
          have e127 : τ1 467 127 = τ 467 127 := pe 127 (by decide)
          have s488 := d13 488 (by decide) (by decide)
          have s489 := d13 489 (by decide) (by decide)
          have ns2 : 0 ≤ nsum (τ2 547) V.toNat := nsum_pos V.toNat (fun j j0 j1 => by have := d5 j j0 (by omega); omega)
          have m2a := m2.1
          have m2h := m2.2.2.2.2.1
          have lw : kLw τ2 := ⟨by omega, by omega, by rw [G2, r5]; exact d1, by omega, by rw [G2, r4]; omega, by rw [G2, r4, s488, s489]; omega⟩
          have few : ∀ (p : Int) (kv : Int → Int), τ2 467 127 ≤ p → (∀ q : Int, τ2 467 127 ≤ q → q < p → ∃ j : Int, τ1 467 126 ≤ j ∧ j < τ2 467 126 ∧ τ2 549 j = kv q) → (∀ q r : Int, τ2 467 127 ≤ q → q < r → r < p → ¬ kv q = kv r) → p - τ2 467 127 ≤ L 488 a := fun p kv h0 h1 h2 => by
            have z := few_of (X := L 481) (kv := kv) (L 488 a).toNat (a + 1) _ p kv h0 (fun q z1 z2 => by
              obtain ⟨j, j0, j1, j2⟩ := h1 q z1 z2
              obtain ⟨⟨⟨l, l0, l1, l2⟩, _⟩, _⟩ := m2h j j0 j1
              exact ⟨l, l0, by omega, l2.trans j2⟩) h2
            omega
          refine kToS_bind (km_e1 lw (by omega) (by rw [G2, r6]; omega) (by rw [G2, r6, d2]; exact fun j z1 z2 => (m2h j z1 z2).1.2) (by omega) (by rw [d2]; exact fun j z1 z2 => by have := d5 j z1 z2; omega) (by rw [G2, r6]; exact fun j z1 z2 => (m2h j z1 z2).2) (by rw [G2, r6]; exact fun p kv h0 h1 h2 => by have := few p kv h0 h1 h2; omega) (by rw [G2]; exact r3)) (fun τ3 ⟨⟨⟨e547, e548⟩, e126, e553, e555⟩, kp, ek, ef, e467⟩ => ?_)
          rw [G2, r6] at e547 e548 e126 kp
          rw [G2] at e553
          rw [G2, r4, s488, s489] at e555
          have e547 : τ3 547 = τ 547 := by rw [e547, m2.2.2.1]; exact pa
          have e548 : τ3 548 = τ 548 := by rw [e548, m2.2.2.2.1]; exact pb
          have kpn := few (τ3 467 127) (τ3 551) kp.1 (fun q z1 z2 => (kp.2.1 q z1 z2).2.2) kp.2.2.2
          have kp1 := kp.1
          have j3 : krI L τ3 V N (a + 1 + L 488 a) (lv + 1) (w + (a + 1 + L 488 a - (a + 1))) (s.1, s1.2) := ⟨⟨(e467 132 (by decide)).trans d1, (e467 110 (by decide)).trans d2, (e467 109 (by decide)).trans d3⟩, ⟨by rw [e547, e548]; exact i4, by rw [e547, e548]; exact i5, by rw [e548]; exact i6⟩, ⟨(e467 129 (by decide)).trans d7a, (e467 130 (by decide)).trans d7b, (e467 131 (by decide)).trans d7c⟩, d8, by rw [e467 128 (by decide)]; exact d9, by rw [e126, e547]; omega, by omega, fun c x y => (ef c (by omega) (by omega) (by omega) (by omega) (by omega) (by omega) y).trans (d13 c x y), fun k x => (e467 k (by omega)).trans (d14 k x)⟩
          have g3 : τ3 467 128 = τ 467 128 + 1 := by rw [e467 128 (by decide)]; omega
          refine kToS_bind (ih (lv + 1) 1 (a + 1 + L 488 a) (a + 1 + L 488 a + L 489 a) s4 (by omega) (by have := q2.1.2.2; omega) (by omega) (by omega) (fun q z1 z2 => n9 q (by omega) (by omega)) (w + (a + 1 + L 488 a - (a + 1))) τ3 _ j3 (by omega) (by omega) (by right; rw [g3, show τ 467 128 + 1 - 1 = τ 467 128 by omega, e555, zs_pos rfl]; exact Int.le_refl _)) (fun τ4 ⟨j4, c4, m4⟩ => ?_)
          obtain ⟨s2, es2⟩ : ∃ s2, s2 = kSem (M0 443) (M0 444) (M0 445) (M0 446) (M0 452) (M0 453) n (a + 1 + L 488 a - 120) (a + 1 + L 488 a + L 489 a - 120) (s.1, s1.2) := ⟨_, rfl⟩
          rw [← es2] at j4 ⊢
          obtain ⟨⟨f1, f2, f3⟩, ⟨f4, f5, f6⟩, ⟨f7a, f7b, f7c⟩, f8, f9, ⟨f10, f11⟩, f12, f13, f14⟩ := id j4
          have c41 := c4.1
          have G4 : τ4 467 128 - 1 = τ 467 128 := by omega
          have R4 : ∀ c : Nat, 553 ≤ c → c ≤ 557 → τ4 c (τ 467 128) = τ3 c (τ 467 128) := fun c z1 z2 => c4.2.1 c _ z1 z2 (by omega)
          have o3 : τ4 553 (τ 467 128) = 2 := by rw [R4 553 (by decide) (by decide), e553]; exact zs_pos rfl
          have o4 : τ4 554 (τ 467 128) = a := by rw [R4 554 (by decide) (by decide), ef 554 (by decide) (by decide) (by decide) (by decide) (by decide) (by decide) (by decide)]; exact r4
          have o5 : τ4 555 (τ 467 128) = a + 1 + L 488 a + L 489 a := by rw [R4 555 (by decide) (by decide), e555]; exact zs_pos rfl
          have o6 : τ4 556 (τ 467 128) = τ1 467 126 := by rw [R4 556 (by decide) (by decide), ef 556 (by decide) (by decide) (by decide) (by decide) (by decide) (by decide) (by decide)]; exact r6
          have o7 : τ4 557 (τ 467 128) = τ 467 127 := by rw [R4 557 (by decide) (by decide), ef 557 (by decide) (by decide) (by decide) (by decide) (by decide) (by decide) (by decide)]; exact r7
          have q488 := f13 488 (by decide) (by decide)
          have q489 := f13 489 (by decide) (by decide)
          have m4a := m4.1
          have m4h := m4.2.2.2.2.1
          rw [e126] at m4a m4h
          have ns4 : 0 ≤ nsum (τ4 547) V.toNat := nsum_pos V.toNat (fun j j0 j1 => by have := f5 j j0 (by omega); omega)
          have lw4 : kLw τ4 := ⟨by omega, by omega, by rw [G4, o5]; exact f1, by omega, by rw [G4, o4]; omega, by rw [G4, o4, q488, q489]; omega⟩
          have k51 : ∀ q : Int, q < τ3 467 127 → τ4 551 q = τ3 551 q ∧ τ4 552 q = τ3 552 q ∧ τ4 559 q = τ3 559 q := fun q z => ⟨c4.2.2 551 q (Or.inl rfl) z, c4.2.2 552 q (Or.inr (Or.inl rfl)) z, c4.2.2 559 q (Or.inr (Or.inr rfl)) z⟩
          have kq : ∀ q : Int, τ 467 127 ≤ q → q < τ3 467 127 → kHt L V (a + 1) (a + 1 + L 488 a) (τ3 551 q) := fun q z1 z2 => by
            obtain ⟨_, _, j, j0, j1, j2⟩ := kp.2.1 q (by omega) z2
            have z := (m2h j j0 j1).1
            rw [j2] at z
            exact z
          have dk : ∀ v : Int, (¬ dK (τ4 551) (τ 467 127) (τ4 467 127) v) → τ2 547 v = τ1 547 v ∧ τ2 548 v = τ1 548 v := fun v nd => kTr_out m2 (fun j j0 j1 e => nd (by
            obtain ⟨q, q0, q1', q2'⟩ := kp.2.2.1 j j0 j1
            exact ⟨q, by omega, by omega, by rw [(k51 q q1').1, q2', e]⟩))
          refine kToS_mono (km_e2 (F := τ2 547) (G := τ2 548) lw4 (by omega) (by rw [G4, o6]; omega) (by rw [f2]; omega) (by rw [f2]; exact f5) (by rw [G4, o6, f2]; exact fun j z1 z2 => (m4h j z1 z2).1.2) (by rw [G4, o7]; omega) (by
              rw [G4, o7, f2]
              intro q z1 z2
              obtain ⟨h1, h2, h3⟩ := k51 q (by omega)
              obtain ⟨h4, h5, _⟩ := kp.2.1 q (by omega) (by omega)
              rw [h1, h2, h3]
              exact ⟨h4, h5, (kq q z1 (by omega)).2⟩) (by
              rw [G4, o7]
              intro q r z1 z2 z3
              rw [(k51 q (by omega)).1, (k51 r (by omega)).1]
              exact kp.2.2.2 q r (by omega) z2 (by omega)) (by
              rw [G4, o6, o7]
              intro j z1 z2 nd1 nd2
              have z := kTr_first m4 (i := j) (by rw [e126]; exact z1) z2 (fun j' z3 z4 e => nd2 ⟨j', by rw [← e126]; exact z3, z4, e⟩)
              have y := dk _ nd1
              rw [z.1, z.2, y.1, y.2, e547, e548, pa, pb]
              exact ⟨rfl, rfl⟩) (by
              rw [G4, o6, o7]
              intro v z1 z2 nd
              have y := dk v (fun z => nd (Or.inl z))
              have z := kTr_out m4 (v := v) (fun j z3 z4 e => nd (Or.inr ⟨j, by rw [← e126]; exact z3, z4, e⟩))
              rw [y.1, y.2, z.1, z.2, e547, e548, pa, pb]
              exact ⟨rfl, rfl⟩) (by rw [f2]; exact fun v z1 z2 => by have := d5 v z1 z2; omega) (by rw [G4]; exact o3)) (fun τ5 ⟨m5, mm, ok5, h127, u5, fr5, k5⟩ => ?_)
          rw [f2] at m5 mm ok5
          rw [G4, o6, o7] at m5
          rw [G4, o7] at h127
          rw [G4, o4, q488, q489] at u5
          obtain ⟨u51, u52, u53, u54, u55⟩ := u5
          have m5a := m5.1
          have m5b := m5.2.2.2.2.2
          refine ⟨⟨⟨u55, (k5 110 (by decide)).trans f2, (k5 109 (by decide)).trans f3⟩, ⟨?_, ok5, ?_⟩, ⟨u52.trans f7a, u53.trans f7b, u54.trans f7c⟩, kBn_mono f8 (by omega), by omega, by omega, by omega, fun c x y => (fr5 c (by omega) (by omega) (by omega) y).trans (f13 c x y), fun k x => (k5 k x).trans (f14 k x)⟩, rKeep_blk p1 v1 c2 h127 (by omega) (fun c j z1 z2 z3 => ?_) (fun c j z1 z3 => ?_), ?_⟩
          · exact kRel_ag (kRel_mrg f4 d4 f5 d5 (fun v z1 z2 => ⟨(f6 v z1 z2).1, (d6 v z1 z2).1⟩)) mm
          · intro v z1 z2
            rw [(mm v z1 z2).2]
            unfold mN
            split
            · exact f6 v z1 z2
            · omega
          · rw [fr5 c (by omega) (by omega) (by omega) (by omega), c4.2.1 c j z1 z2 (by omega)]
            by_cases c3 : c = 553
            · subst c3; rw [e553, zs_neg (by omega)]
            · by_cases c5 : c = 555
              · subst c5; rw [e555, zs_neg (by omega)]
              · rw [ef c (by omega) (by omega) (by omega) (by omega) (by omega) (by omega) (by omega)]
          · rw [fr5 c (by omega) (by omega) (by omega) (by omega), c4.2.2 c j z1 (by omega), ek c j z1 (by omega)]
          · have m3 : kTrS V τ τ3 0 (fun _ => False) := by
              refine ⟨by omega, fun j q => ?_, ?_, ?_, fun j z1 z2 => by omega, by rw [e126, e547]; omega⟩
              · rw [ef 549 (by decide) (by decide) (by decide) (by decide) (by decide) (by decide) (by decide), ef 550 (by decide) (by decide) (by decide) (by decide) (by decide) (by decide) (by decide), ef 558 (by decide) (by decide) (by decide) (by decide) (by decide) (by decide) (by decide)]
                have x := m2.2.1 j (by omega)
                have y := pc.2.1 j q
                exact ⟨x.1.trans y.1, x.2.1.trans y.2.1, x.2.2.trans y.2.2⟩
              · rw [show (τ3 467 126 - τ 467 126).toNat = 0 by omega, e547]; rfl
              · rw [show (τ3 467 126 - τ 467 126).toNat = 0 by omega, e548]; rfl
            refine kTr_mono (kTr_trans (kTr_mono m3 (Int.le_refl _) (fun v z => z.elim)) (kTr_trans (kTr_mono m4 (Int.le_refl _) (fun v z => kHt_mono z (by omega) (Int.le_refl _))) (kTr_mono m5 (Int.le_refl _) (fun v z => ?_)))) (by omega) (fun _ z => z)
            rcases z with ⟨q, q0, q1', q2'⟩ | ⟨j, j0, j1', j2'⟩
            · have z := kq q q0 (by omega)
              rw [← (k51 q (by omega)).1, q2'] at z
              exact kHt_mono z (by omega) (by omega)
            · have z := (m4h j j0 j1').1
              rw [j2'] at z
              exact kHt_mono z (by omega) (Int.le_refl _)
        · rw [if_neg ku]
          have nk : ¬ knB (τ 547) (L 482 a) = 0 := fun z => ku (kA.1.2 z)
          have eA := kA.2 nk
          have BLK : ∀ (a2 b2 e : Int) (s0 : (Int → Int) × Int × Int × Int) (w0' br' : Int) (τ1 : Nat → Int → Int) (fo de ne : Int), rPsh V τ τ1 (τ 547) (τ 548) (fun _ => False) 0 e → rNum τ1 (τ 467 128 + 1) fo de ne a2 → s0.1 = s.1 → (fo = s0.2.1 ∧ de = s0.2.2.1 ∧ ne = s0.2.2.2) → kBn s0 w0' → 0 ≤ w0' → w0' + (b2 - a2) ≤ w + (1 + L 488 a + L 489 a) → ySeg L (okR M0 L nF TO) n (lv + 1) br' a2 b2 → a + 1 ≤ a2 → a2 ≤ b2 → b2 ≤ a + 1 + L 488 a + L 489 a → e = b2 → kToS τ1 (fun τ' => krI L τ' V N (a + 1 + L 488 a + L 489 a) lv (w + (1 + L 488 a + L 489 a)) (kSem (M0 443) (M0 444) (M0 445) (M0 446) (M0 452) (M0 453) n (a2 - 120) (b2 - 120) s0) ∧ rKeep τ τ' ∧ kTrS V τ τ' (2 * (a + 1 + L 488 a + L 489 a - a)) (kHt L V a (a + 1 + L 488 a + L 489 a))) := fun a2 b2 e s0 w0' br' τ1 fo de ne p1 u1 es ha bn w00 w01 sg aa ab bb ee => by
            subst ee
            have j1 : krI L τ1 V N a2 (lv + 1) w0' s0 := krI_psh hi p1 u1 ⟨rfl, rfl, by omega⟩ (by rw [es]; exact i4) i5 i6 ha bn
            obtain ⟨⟨pa, pb⟩, pc, pd, pe, p3, p4, p5, p6, p7⟩ := id p1
            obtain ⟨v1, v2, v3, v4, v5⟩ := id u1
            refine kToS_bind (ih (lv + 1) br' a2 e sg (by omega) (by have := q2.1.2.2; omega) (by omega) (by omega) (fun q z1 z2 => n9 q (by omega) (by omega)) w0' τ1 s0 j1 w00 (by omega) (by right; rw [v1, p5, show τ 467 128 + 1 - 1 = τ 467 128 by omega, zs_pos rfl]; exact Int.le_refl _)) (fun τ2 ⟨j2, c2, m2⟩ => ?_)
            obtain ⟨⟨d1, d2, d3⟩, ⟨d4, d5, d6⟩, ⟨d7a, d7b, d7c⟩, d8, d9, ⟨d10, d11⟩, d12, d13, d14⟩ := id j2
            have c1 := c2.1
            have G2 : τ2 467 128 - 1 = τ 467 128 := by omega
            have R2 : ∀ c : Nat, 553 ≤ c → c ≤ 557 → τ2 c (τ 467 128) = τ1 c (τ 467 128) := fun c z1 z2 => c2.2.1 c _ z1 z2 (by omega)
            have r3 : τ2 553 (τ 467 128) = 0 := by rw [R2 553 (by decide) (by decide), p3]; exact zs_pos rfl
            have r4 : τ2 554 (τ 467 128) = a := by rw [R2 554 (by decide) (by decide), p4, i1]; exact zs_pos rfl
            have r5 : τ2 555 (τ 467 128) = e := by rw [R2 555 (by decide) (by decide), p5]; exact zs_pos rfl
            have s488 := d13 488 (by decide) (by decide)
            have s489 := d13 489 (by decide) (by decide)
            have lw : kLw τ2 := ⟨by omega, by omega, by rw [G2, r5]; exact d1, by omega, by rw [G2, r4]; omega, by rw [G2, r4, s488, s489]; omega⟩
            refine kToS_mono (km_e0 lw (by rw [G2]; exact r3)) (fun τ3 ⟨c3, u3⟩ => ?_)
            rw [d2] at c3
            rw [G2, r4, s488, s489] at u3
            have k3 := rKeep_off c3 u3
            refine ⟨krI_chg0 j2 c3 u3 ⟨by omega, rfl, by omega, by omega⟩ d4 d5 d6 ⟨d7a, d7b, d7c⟩ (kBn_mono d8 (by omega)), rKeep_blk p1 v1 c2 (by have := pe 127 (by decide); omega) (by omega) (fun c j z1 z2 z3 => k3.2.1 c j z1 z2) (fun c j z1 z3 => k3.2.2 c j z1), ?_⟩
            exact kTr_mono (kTr_trans (kTr_mono pc (Int.le_refl _) (fun v z => z.elim)) (kTr_trans (kTr_mono m2 (Int.le_refl _) (fun v z => kHt_mono z (by omega) bb)) (kTr_mono c3.2.1 (Int.le_refl _) (fun v z => z.elim)))) (by omega) (fun _ z => z)
          by_cases kz : knO s.1 (L 482 a) = 0
          · rw [if_pos kz]
            refine kToS_bind (km_ifz lm TH K7 hO (by omega) (by omega) (by rw [eB]; exact nk) (by rw [eN, ← eA]; exact kz)) (fun τ1 ⟨p1, u1⟩ => ?_)
            rw [i1, t488, t489, i2] at p1
            rw [i1, t488] at u1
            exact BLK (a + 1 + L 488 a) (a + 1 + L 488 a + L 489 a) _ (s.1, s.2.1, s.2.2.1 + 1, s.2.2.2 + (a + 1 + L 488 a - 120 - (a + 1 - 120))) (w + 1 + L 488 a) 1 τ1 _ _ _ p1 u1 rfl ⟨i7a, by rw [i7b], by rw [i7c]; show _ = s.2.2.2 + (a + 1 + L 488 a - 120 - (a + 1 - 120)); omega⟩ ⟨⟨g1, by show s.2.1 ≤ _; omega⟩, by show 0 ≤ s.2.2.1 + 1 ∧ s.2.2.1 + 1 ≤ _; omega, by show 0 ≤ s.2.2.2 + (a + 1 + L 488 a - 120 - (a + 1 - 120)) ∧ s.2.2.2 + (a + 1 + L 488 a - 120 - (a + 1 - 120)) ≤ _; omega⟩ (by omega) (by omega) s4 (by omega) (by omega) (by omega) rfl
          · rw [if_neg kz]
            refine kToS_bind (km_ifn lm TH K7 hO (by omega) (by omega) (by rw [eB]; exact nk) (by rw [eN, ← eA]; exact kz)) (fun τ1 ⟨p1, u1⟩ => ?_)
            rw [i1, t488, i2] at p1
            rw [i1, t489] at u1
            exact BLK (a + 1) (a + 1 + L 488 a) _ (s.1, s.2.1, s.2.2.1 + 1, s.2.2.2 + (a + 1 + L 488 a + L 489 a - 120 - (a + 1 + L 488 a - 120))) (w + 1 + L 489 a) 0 τ1 _ _ _ p1 u1 rfl ⟨i7a, by rw [i7b], by rw [i7c]; show _ = s.2.2.2 + (a + 1 + L 488 a + L 489 a - 120 - (a + 1 + L 488 a - 120)); omega⟩ ⟨⟨g1, by show s.2.1 ≤ _; omega⟩, by show 0 ≤ s.2.2.1 + 1 ∧ s.2.2.1 + 1 ≤ _; omega, by show 0 ≤ s.2.2.2 + (a + 1 + L 488 a + L 489 a - 120 - (a + 1 + L 488 a - 120)) ∧ s.2.2.2 + (a + 1 + L 488 a + L 489 a - 120 - (a + 1 + L 488 a - 120)) ≤ _; omega⟩ (by omega) (by omega) s3 (by omega) (by omega) (by omega) rfl
      rw [if_neg k7]
      by_cases k8 : L 480 a = 8
      · rw [if_pos k8]
        have z9 := y5 k8
        have K8 : τ 480 (τ 467 132) = 8 := by rw [i1, t480]; exact k8
        by_cases kn : ¬ knO s.1 (L 482 a) = -9223372036854775808 ∧ knO s.1 (L 482 a) ≤ 0
        · rw [if_pos kn]
          have nk : ¬ knB (τ 547) (L 482 a) = 0 := fun z => kn.1 (kA.1.2 z)
          have eA := kA.2 nk
          refine kToS_mono (km_lpz lm TH K8 hO (by omega) (by rw [eB]; exact nk) (by rw [eN, ← eA]; exact kn.2)) (fun τ1 ⟨c, u⟩ => ?_)
          rw [i2] at c
          rw [i1, t488, t489] at u
          have z := krI_chg (b := a + 1 + L 488 a + L 489 a) (w1 := w + (1 + L 488 a + L 489 a)) (s1 := (s.1, s.2.1, s.2.2.1, s.2.2.2 + (a + 1 + L 488 a + L 489 a - 120 - (a + 1 - 120)))) hi c u ⟨rfl, rfl, by omega, by omega⟩ i4 i5 i6 ⟨i7a, i7b, by rw [i7c]; show _ = s.2.2.2 + (a + 1 + L 488 a + L 489 a - 120 - (a + 1 - 120)); omega⟩ ⟨⟨g1, by show s.2.1 ≤ _; omega⟩, ⟨g3, by show s.2.2.1 ≤ _; omega⟩, by show 0 ≤ s.2.2.2 + (a + 1 + L 488 a + L 489 a - 120 - (a + 1 - 120)) ∧ s.2.2.2 + (a + 1 + L 488 a + L 489 a - 120 - (a + 1 - 120)) ≤ _; omega⟩
          exact ⟨z.1, z.2, kTr_mono c.2.1 (by omega) (fun v e => e.elim)⟩
        · rw [if_neg kn]
          have FX : ∀ xq : Int, a + 1 ≤ xq → xq ≤ a + L 488 a → L 481 xq < V := fun xq z1 z2 => by
            obtain ⟨_, ⟨p3, _, _, p4, _⟩, _, _, _, p5, _⟩ := hL xq (by omega) (by omega)
            by_cases c : L 480 xq ≤ 6
            · exact (p4 c).2
            · have := p5 (by omega); omega
          have HF : 0 ≤ τ 467 132 ∧ 0 ≤ τ 488 (τ 467 132) ∧ τ 467 132 + τ 488 (τ 467 132) < 440 := by rw [i1, t488]; omega
          have HX : ∀ xq : Int, τ 467 132 + 1 ≤ xq → xq ≤ τ 467 132 + τ 488 (τ 467 132) → τ 481 xq < τ 467 110 := by rw [i1, t488, t481, i2]; exact FX
          have HN : τ 467 132 + 1 + τ 488 (τ 467 132) + τ 489 (τ 467 132) < 520 := by rw [i1, t488, t489]; omega
          have PU : kToS τ (fun τ' => rPsh (τ 467 110) τ τ' (fgt (τ 481) (τ 547) 0 ((τ 467 132) + 1) ((τ 467 132) + (τ 488 (τ 467 132)) + 1 - ((τ 467 132) + 1)).toNat) (fgt (τ 481) (τ 548) 0 ((τ 467 132) + 1) ((τ 467 132) + (τ 488 (τ 467 132)) + 1 - ((τ 467 132) + 1)).toNat) (fun w => ∃ q_ : Int, (τ 467 132) + 1 ≤ q_ ∧ q_ ≤ (τ 467 132) + (τ 488 (τ 467 132)) ∧ (τ 481 q_) = w ∧ 0 ≤ w) 3 (τ 467 132 + 1 + (τ 488 (τ 467 132)) + (τ 489 (τ 467 132))) ∧ rNum τ' (τ 467 128 + 1) (τ 467 129) (τ 467 130) (τ 467 131) (τ 467 132 + 1)) := by
            by_cases ku : knO s.1 (L 482 a) = -9223372036854775808
            · exact km_lpu lm TH K8 HN (by omega) HF HX (by rw [i2]; exact i5) (by rw [i2]; omega) (by rw [eB]; exact kA.1.1 ku)
            · have nk : ¬ knB (τ 547) (L 482 a) = 0 := fun z => ku (kA.1.2 z)
              have eA := kA.2 nk
              exact km_lpg lm TH K8 HN (by omega) HF HX (by rw [i2]; exact i5) (by rw [i2]; omega) hO (by rw [eB]; exact nk) (by rw [eN, ← eA]; have : ¬ knO s.1 (L 482 a) ≤ 0 := fun z => kn ⟨ku, z⟩; omega)
          refine kToS_bind PU (fun τ1 ⟨p1, u1⟩ => ?_)
          rw [i1, t481, t488, t489, i2, show (a + L 488 a + 1 - (a + 1)).toNat = (a + 1 + L 488 a + L 489 a - 120 - (a + 1 - 120)).toNat by omega] at p1
          rw [i1] at u1
          have TT : ∀ j : Int, 0 ≤ j → j < ((a + 1 + L 488 a + L 489 a - 120 - (a + 1 - 120)).toNat : Int) → M0 444 (a + 1 - 120 + j) = L 481 (a + 1 + j) := fun j z1 z2 => by
            have z := (hL (a + 1 + j) (by omega) (by omega)).1.2.1
            rw [show a + 1 + j - 120 = a + 1 - 120 + j by omega] at z
            exact z
          have HM : ∀ v : Int, (∃ q_ : Int, a + 1 ≤ q_ ∧ q_ ≤ a + L 488 a ∧ L 481 q_ = v ∧ 0 ≤ v) → kHt L V a (a + 1 + L 488 a + L 489 a) v := fun v ⟨q, z1, z2, z3, z4⟩ => ⟨⟨q, by omega, by omega, z3⟩, z4, by rw [← z3]; exact FX q z1 z2⟩
          have j1 : krI L τ1 V N (a + 1) (lv + 1) w (fgt (M0 444) s.1 (-9223372036854775808) (a + 1 - 120) (a + 1 + L 488 a + L 489 a - 120 - (a + 1 - 120)).toNat, s.2) := krI_psh hi p1 u1 ⟨rfl, rfl, by omega⟩ (kRel_fgt i4 _ TT) (kOK_fgt i5 _) (kNr_fgt i6 _) ⟨i7a, i7b, i7c⟩ i8
          obtain ⟨⟨pa, pb⟩, pc, pd, pe, p3, p4, p5, p6, p7⟩ := id p1
          obtain ⟨v1, v2, v3, v4, v5⟩ := id u1
          have eL : a + 1 + L 488 a + L 489 a = a + 1 + L 488 a := by omega
          have s3' : ySeg L (okR M0 L nF TO) n (lv + 1) 0 (a + 1) (a + 1 + L 488 a + L 489 a) := by rw [eL]; exact s3
          refine kToS_bind (ih (lv + 1) 0 (a + 1) (a + 1 + L 488 a + L 489 a) s3' (by omega) (by have := q2.1.2.2; omega) (by omega) (by omega) (fun q z1 z2 => n9 q (by omega) (by omega)) w τ1 _ j1 w0 (by omega) (by right; rw [v1, p5, show τ 467 128 + 1 - 1 = τ 467 128 by omega, zs_pos rfl]; omega)) (fun τ2 ⟨j2, c2, m2⟩ => ?_)
          obtain ⟨⟨d1, d2, d3⟩, ⟨d4, d5, d6⟩, ⟨d7a, d7b, d7c⟩, d8, d9, ⟨d10, d11⟩, d12, d13, d14⟩ := id j2
          have c1 := c2.1
          have G2 : τ2 467 128 - 1 = τ 467 128 := by omega
          have R2 : ∀ c : Nat, 553 ≤ c → c ≤ 557 → τ2 c (τ 467 128) = τ1 c (τ 467 128) := fun c z1 z2 => c2.2.1 c _ z1 z2 (by omega)
          have r3 : τ2 553 (τ 467 128) = 3 := by rw [R2 553 (by decide) (by decide), p3]; exact zs_pos rfl
          have r4 : τ2 554 (τ 467 128) = a := by rw [R2 554 (by decide) (by decide), p4, i1]; exact zs_pos rfl
          have r5 : τ2 555 (τ 467 128) = a + 1 + L 488 a + L 489 a := by rw [R2 555 (by decide) (by decide), p5]; exact zs_pos rfl
          have s481 := d13 481 (by decide) (by decide)
          have s488 := d13 488 (by decide) (by decide)
          have s489 := d13 489 (by decide) (by decide)
          have lw : kLw τ2 := ⟨by omega, by omega, by rw [G2, r5]; exact d1, by omega, by rw [G2, r4]; omega, by rw [G2, r4, s488, s489]; omega⟩
          refine kToS_mono (km_e3 lw (by omega) (by rw [G2, r4, s488]; omega) (by rw [G2, r4, s488, s481, d2]; exact FX) (by rw [d2]; exact d5) (by rw [d2]; omega) (by rw [G2]; exact r3)) (fun τ3 ⟨c3, u3⟩ => ?_)
          rw [d2, G2, r4, s481, s488, show (a + L 488 a + 1 - (a + 1)).toNat = (a + 1 + L 488 a + L 489 a - 120 - (a + 1 - 120)).toNat by omega] at c3
          rw [G2, r4, s488, s489] at u3
          have k3 := rKeep_off c3 u3
          refine ⟨krI_chg0 j2 c3 u3 ⟨by omega, rfl, by omega, by omega⟩ (kRel_fgt d4 _ TT) (kOK_fgt d5 _) (kNr_fgt d6 _) ⟨d7a, d7b, d7c⟩ (kBn_mono d8 (by omega)), rKeep_blk p1 v1 c2 (by have := pe 127 (by decide); omega) (by omega) (fun c j z1 z2 z3 => k3.2.1 c j z1 z2) (fun c j z1 z3 => k3.2.2 c j z1), ?_⟩
          exact kTr_mono (kTr_trans (kTr_mono pc (Int.le_refl _) HM) (kTr_trans (kTr_mono m2 (Int.le_refl _) (fun v z => kHt_mono z (by omega) (by omega))) (kTr_mono c3.2.1 (Int.le_refl _) HM))) (by omega) (fun _ z => z)
      rw [if_neg k8]
      obtain ⟨z8, z9⟩ := y4 (by omega)
      have xx := x4 (by omega)
      have e1 : a + 1 + L 488 a + L 489 a = a + 1 := by omega
      have SS : kSt τ := ⟨by omega, by rw [i1, t481, i2]; exact xx, by rw [i2]; exact i5, by omega, by omega⟩
      rw [e1, show w + (1 + L 488 a + L 489 a) = w + 1 by omega]
      have FIN : ∀ (s1 : (Int → Int) × Int × Int × Int) (K N2 : Int → Int) (B fo : Int), kToS τ (fun τ' => rChg (τ 467 110) τ τ' K N2 B (fun w => w = τ 481 (τ 467 132)) ∧ rNum τ' (τ 467 128) fo (τ 467 130) (τ 467 131) (τ 467 132 + 1)) → B ≤ 2 → kRel V s1.1 K N2 → kOK V K N2 → kNr V N2 → (fo = s1.2.1 ∧ τ 467 130 = s1.2.2.1 ∧ τ 467 131 = s1.2.2.2) → kBn s1 (w + 1) → kToS τ (fun τ' => krI L τ' V N (a + 1) lv (w + 1) s1 ∧ rKeep τ τ' ∧ kTrS V τ τ' (2 * (a + 1 - a)) (kHt L V a (a + 1))) := fun s1 K N2 B fo h hB hr hk hn ha bn => kToS_mono h (fun τ1 ⟨c, u⟩ => by
        rw [i1, t481, i2] at c
        have z := krI_chg (b := a + 1) (w1 := w + 1) hi c u ⟨rfl, by omega, by omega, by omega⟩ hr hk hn ha bn
        exact ⟨z.1, z.2, kTr_mono c.2.1 (by omega) (fun v e => ⟨⟨a, Int.le_refl _, by omega, e.symm⟩, by rw [e]; exact xx⟩)⟩)
      have B0 : kBn s (w + 1) := kBn_mono i8 (by omega)
      by_cases k0 : L 480 a = 0
      · rw [if_pos k0]
        have K0 : τ 480 (τ 467 132) = 0 := by rw [i1, t480]; exact k0
        by_cases ku : knO s.1 (L 482 a) = -9223372036854775808
        · refine FIN _ _ _ _ _ (km_put0u lm SS K0 (by rw [eB]; exact kA.1.1 ku)) (by decide) ?_ (kOK_zs i5 (Or.inl ⟨rfl, rfl⟩)) (kNr_zs i6 (by decide)) ⟨i7a, i7b, i7c⟩ B0
          rw [i1, t481, ku]; exact kRel_zs (b := 0) (x := 0) i4
        · have nk : ¬ knB (τ 547) (L 482 a) = 0 := fun z => ku (kA.1.2 z)
          have eA := kA.2 nk
          have rA := kRg_of i4 i6 x2
          refine FIN _ _ _ _ _ (km_put0k lm SS hO K0 (by rw [eB]; exact nk)) (by decide) ?_ (kOK_zs i5 (Or.inr rfl)) ?_ ⟨i7a, i7b, i7c⟩ B0
          · rw [i1, t481, t480, t482, k0, eA]; exact kRel_zs (b := 1) (x := wrk 0 (knN (τ 548) (L 482 a)) 0) i4
          · refine kNr_zs i6 ?_
            rw [i1, t480, t482, k0, ← eA]
            exact wrk_in (k := 0) (a := knO s.1 (L 482 a)) (b := 0) (by omega)
      rw [if_neg k0]
      have k15 : 1 ≤ L 480 a ∧ L 480 a ≤ 5 := by omega
      have K15 : 1 ≤ τ 480 (τ 467 132) ∧ τ 480 (τ 467 132) ≤ 5 := by rw [i1, t480]; exact k15
      have xb := x3 k15
      have kB := kn_op i4 i6 xb
      have hO2 : -330 < τ 483 (τ 467 132) ∧ τ 483 (τ 467 132) ≤ 1000 := by rw [i1, t483]; unfold opnd at xb; omega
      have hOb : 0 ≤ τ 483 (τ 467 132) ∨ τ 483 (τ 467 132) ≤ -10 := by rw [i1, t483]; unfold opnd at xb; omega
      have eB2 : knB (τ 547) (τ 483 (τ 467 132)) = knB (τ 547) (L 483 a) := by rw [i1, t483]
      by_cases ku : knO s.1 (L 482 a) = -9223372036854775808
      · rw [if_pos (Or.inl ku)]
        refine FIN _ _ _ _ _ (km_put1u lm SS hO2 K15.1 K15.2 (by rw [eB]; exact kA.1.1 ku)) (by decide) ?_ (kOK_zs i5 (Or.inl ⟨rfl, rfl⟩)) (kNr_zs i6 (by decide)) ⟨i7a, i7b, i7c⟩ B0
        rw [i1, t481]; exact kRel_zs (b := 0) (x := 0) i4
      · have nk : ¬ knB (τ 547) (L 482 a) = 0 := fun z => ku (kA.1.2 z)
        have eA := kA.2 nk
        by_cases kb : knO s.1 (L 483 a) = -9223372036854775808
        · rw [if_pos (Or.inr kb)]
          refine FIN _ _ _ _ _ (km_put1b lm SS hO2 K15.1 K15.2 (by rw [eB]; exact nk) (by rw [eB2]; exact kB.1.1 kb)) (by decide) ?_ (kOK_zs i5 (Or.inl ⟨rfl, rfl⟩)) (kNr_zs i6 (by decide)) ⟨i7a, i7b, i7c⟩ B0
          rw [i1, t481]; exact kRel_zs (b := 0) (x := 0) i4
        · rw [if_neg (fun z => z.elim ku kb)]
          have nk2 : ¬ knB (τ 547) (L 483 a) = 0 := fun z => kb (kB.1.2 z)
          have eA2 := kB.2 nk2
          have rA := kRg_of i4 i6 x2
          refine FIN _ _ _ _ _ (km_put1k lm SS hO2 hO hOb K15.1 K15.2 (by rw [eB]; exact nk) (by rw [eB2]; exact nk2) (by omega)) (by decide) ?_ (kOK_zs i5 (Or.inr rfl)) ?_ ⟨by rw [i7a], i7b, i7c⟩ ⟨by show 0 ≤ s.2.1 + 1 ∧ s.2.1 + 1 ≤ _; omega, by show 0 ≤ s.2.2.1 ∧ s.2.2.1 ≤ _; omega, by show 0 ≤ s.2.2.2 ∧ s.2.2.2 ≤ _; omega⟩
          · rw [i1, t481, t480, t482, t483, eA, eA2]; exact kRel_zs (b := 1) (x := wrk (L 480 a) (knN (τ 548) (L 482 a)) (knN (τ 548) (L 483 a))) i4
          · refine kNr_zs i6 ?_
            rw [i1, t480, t482, t483, ← eA, ← eA2]
            exact wrk_in (k := L 480 a) (a := knO s.1 (L 482 a)) (b := knO s.1 (L 483 a)) (by omega)
    refine kToS_bind one (fun τ1 ⟨j1, k1, m1⟩ => ?_)
    refine kToS_mono (ih lv br (a + 1 + L 488 a + L 489 a) b s5 lv0 lv1 (by omega) b1 (fun q z1 z2 => n9 q (by omega) z2) (w + (1 + L 488 a + L 489 a)) τ1 _ j1 (by omega) (by omega) (by
      rcases he with z | z
      · left; rw [k1.1.2]; exact z
      · by_cases z0 : τ 467 128 ≤ 0
        · left; rw [k1.1.2]; exact z0
        · right; rw [k1.1.2, k1.2.1 555 _ (by decide) (by decide) (by omega)]; exact z)) (fun τ2 ⟨j2, k2, m2⟩ => ⟨?_, rKeep_trans k1 k2, ?_⟩)
    · rw [kSem_go (by omega), eE]
      rw [eE, show w + (1 + L 488 a + L 489 a) + (b - (a + 1 + L 488 a + L 489 a)) = w + (b - a) by omega] at j2
      exact j2
    · exact kTr_mono (kTr_trans (kTr_mono m1 (Int.le_refl _) (fun v z => kHt_mono z (Int.le_refl _) l5)) (kTr_mono m2 (Int.le_refl _) (fun v z => kHt_mono z (by omega) (Int.le_refl _)))) (by omega) (fun _ z => z)
