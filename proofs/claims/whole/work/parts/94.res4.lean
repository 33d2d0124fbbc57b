/-! The result's lines: what both sides do, and what is kept -/
/-- the reference comes from a state to another one -/
def rTo (τ τ' : Nat → Int → Int) : Prop := ∀ (A : Nat → Int → Int) (P : Nat → Nat → Nat) (d : Nat) (f : Int) (Q : zQ), (∀ x2 : Option zV, WP (d + 6) 122 0 0 38 [some (vR 467), some (vI f), x2] [] (zS P (mix A τ')) Q) → ∀ x2 : Option zV, WP (d + 6) 122 0 0 38 [some (vR 467), some (vI f), x2] [] (zS P (mix A τ)) Q
theorem rTo_refl {τ : Nat → Int → Int} : rTo τ τ := fun _ _ _ _ _ h => h
theorem rTo_trans {τ τ1 τ2 : Nat → Int → Int} (h : rTo τ τ1) (k : rTo τ1 τ2) : rTo τ τ2 := fun A P d f Q q => h A P d f Q (k A P d f Q q)
def vCell (c : Nat) : Bool := (480 ≤ c && c ≤ 491) || (535 ≤ c && c ≤ 546) || c == 467
def rPr (τ τ' : Nat → Int → Int) (K O L : Int) : Prop :=
  (∀ c : Nat, vCell c = false → τ' c = τ c) ∧ (∀ k : Int, ¬ (107 ≤ k ∧ k ≤ 111) → τ' 467 k = τ 467 k) ∧ (∀ (c : Nat) (j : Int), 480 ≤ c → c ≤ 491 → j < L → τ' c j = τ c j) ∧ (∀ (c : Nat) (j : Int), 535 ≤ c → c ≤ 541 → j < K → τ' c j = τ c j) ∧ (∀ j : Int, j < K + 1 → τ' 540 j = τ 540 j) ∧ ∀ (c : Nat) (j : Int), (c = 542 ∨ c = 543 ∨ c = 544 ∨ c = 546) → j < O → τ' c j = τ c j
theorem rPr_refl {τ : Nat → Int → Int} {K O L : Int} : rPr τ τ K O L := ⟨fun _ _ => rfl, fun _ _ => rfl, fun _ _ _ _ _ => rfl, fun _ _ _ _ _ => rfl, fun _ _ => rfl, fun _ _ _ _ => rfl⟩
theorem rPr_trans {τ τ1 τ2 : Nat → Int → Int} {K O L K' O' L' : Int} (h : rPr τ τ1 K O L) (k : rPr τ1 τ2 K' O' L') (a : K ≤ K') (b : O ≤ O') (c : L ≤ L') : rPr τ τ2 K O L :=
  ⟨fun x q => (k.1 x q).trans (h.1 x q), fun x q => (k.2.1 x q).trans (h.2.1 x q), fun x j q1 q2 q3 => (k.2.2.1 x j q1 q2 (by omega)).trans (h.2.2.1 x j q1 q2 q3), fun x j q1 q2 q3 => (k.2.2.2.1 x j q1 q2 (by omega)).trans (h.2.2.2.1 x j q1 q2 q3), fun j q => (k.2.2.2.2.1 j (by omega)).trans (h.2.2.2.2.1 j q), fun x j q1 q2 => (k.2.2.2.2.2 x j q1 (by omega)).trans (h.2.2.2.2.2 x j q1 q2)⟩
def cPr (M M' : Nat → Int → Int) (n : Int) : Prop :=
  (∀ c : Nat, ¬ (441 ≤ c ∧ c ≤ 455) → M' c = M c) ∧ (∀ k : Int, ¬ k = 1 → M' 441 k = M 441 k) ∧ (∀ k : Int, ¬ k = 13 → M' 442 k = M 442 k) ∧ ∀ (c : Nat) (i : Int), 443 ≤ c → c ≤ 451 → i < n → M' c i = M c i
theorem cPr_refl {M : Nat → Int → Int} {n : Int} : cPr M M n := ⟨fun _ _ => rfl, fun _ _ => rfl, fun _ _ => rfl, fun _ _ _ _ _ => rfl⟩
theorem cPr_trans {M M1 M2 : Nat → Int → Int} {n n' : Int} (h : cPr M M1 n) (k : cPr M1 M2 n') (a : n ≤ n') : cPr M M2 n :=
  ⟨fun c q => (k.1 c q).trans (h.1 c q), fun c q => (k.2.1 c q).trans (h.2.1 c q), fun c q => (k.2.2.1 c q).trans (h.2.2.1 c q), fun c i q1 q2 q3 => (k.2.2.2 c i q1 q2 (by omega)).trans (h.2.2.2 c i q1 q2 q3)⟩
/-- the class has one line more -/
def cPut (M M' : Nat → Int → Int) (kd tg fi se th si dp br we : Int) : Prop :=
  (∀ c : Nat, ¬ (441 ≤ c ∧ c ≤ 455) → M' c = M c) ∧ (M' 441 = M 441 ∧ (∀ k : Int, ¬ k = 13 → M' 442 k = M 442 k) ∧ M' 442 13 = M 442 13 + 1) ∧
  (M' 443 = zs (M 443) (M 442 13) kd ∧ M' 444 = zs (M 444) (M 442 13) tg ∧ M' 445 = zs (M 445) (M 442 13) fi ∧ M' 446 = zs (M 446) (M 442 13) se ∧ M' 447 = zs (M 447) (M 442 13) th ∧ M' 448 = zs (M 448) (M 442 13) si ∧ M' 449 = zs (M 449) (M 442 13) dp ∧ M' 450 = zs (M 450) (M 442 13) br ∧ M' 451 = zs (M 451) (M 442 13) we) ∧
  M' 455 = zs (M 455) dp (M 442 13) ∧ cL (M' 449) (M' 450) (M' 452) (M' 453) (M' 454) (M' 455) (M' 442 13)
theorem c9 {c : Nat} (h : 443 ≤ c) (h' : c ≤ 451) : c = 443 ∨ c = 444 ∨ c = 445 ∨ c = 446 ∨ c = 447 ∨ c = 448 ∨ c = 449 ∨ c = 450 ∨ c = 451 := by omega
theorem c12 {c : Nat} (h : 480 ≤ c) (h' : c ≤ 491) : c = 480 ∨ c = 481 ∨ c = 482 ∨ c = 483 ∨ c = 484 ∨ c = 485 ∨ c = 486 ∨ c = 487 ∨ c = 488 ∨ c = 489 ∨ c = 490 ∨ c = 491 := by omega
theorem cPut_pr {M M' : Nat → Int → Int} {kd tg fi se th si dp br we : Int} (h : cPut M M' kd tg fi se th si dp br we) : cPr M M' (M 442 13) := by
  obtain ⟨h1, ⟨h2, h3, h4⟩, ⟨r1, r2, r3, r4, r5, r6, r7, r8, r9⟩, _⟩ := h
  refine ⟨h1, fun k _ => by rw [h2], h3, fun c i q1 q2 q3 => ?_⟩
  rcases c9 q1 q2 with e | e | e | e | e | e | e | e | e <;> subst e
  · rw [r1, zs_neg (by omega)]
  · rw [r2, zs_neg (by omega)]
  · rw [r3, zs_neg (by omega)]
  · rw [r4, zs_neg (by omega)]
  · rw [r5, zs_neg (by omega)]
  · rw [r6, zs_neg (by omega)]
  · rw [r7, zs_neg (by omega)]
  · rw [r8, zs_neg (by omega)]
  · rw [r9, zs_neg (by omega)]
/-- the reference has one line more -/
def rPut (τ τ' : Nat → Int → Int) (kd tg fi se th ca si dp we cl : Int) : Prop :=
  τ' 467 109 = τ 467 109 + 1 ∧ τ' 480 = zs (τ 480) (τ 467 109) kd ∧ τ' 481 = zs (τ 481) (τ 467 109) tg ∧ τ' 482 = zs (τ 482) (τ 467 109) fi ∧ τ' 483 = zs (τ 483) (τ 467 109) se ∧ τ' 484 = zs (τ 484) (τ 467 109) th ∧ τ' 485 = zs (τ 485) (τ 467 109) ca ∧ τ' 486 = zs (τ 486) (τ 467 109) si ∧ τ' 487 = zs (τ 487) (τ 467 109) dp ∧ τ' 488 = zs (τ 488) (τ 467 109) 0 ∧ τ' 489 = zs (τ 489) (τ 467 109) 0 ∧ τ' 490 = zs (τ 490) (τ 467 109) cl ∧ τ' 491 = zs (τ 491) (τ 467 109) we
theorem rPut_rows {τ τ' : Nat → Int → Int} {kd tg fi se th ca si dp we cl : Int} (h : rPut τ τ' kd tg fi se th ca si dp we cl) : ∀ (c : Nat) (j : Int), 480 ≤ c → c ≤ 491 → j < τ 467 109 → τ' c j = τ c j := by
  obtain ⟨_, r0, r1, r2, r3, r4, r5, r6, r7, r8, r9, r10, r11⟩ := h
  intro c j q1 q2 q3
  rcases c12 q1 q2 with e | e | e | e | e | e | e | e | e | e | e | e <;> subst e
  · rw [r0, zs_neg (by omega)]
  · rw [r1, zs_neg (by omega)]
  · rw [r2, zs_neg (by omega)]
  · rw [r3, zs_neg (by omega)]
  · rw [r4, zs_neg (by omega)]
  · rw [r5, zs_neg (by omega)]
  · rw [r6, zs_neg (by omega)]
  · rw [r7, zs_neg (by omega)]
  · rw [r8, zs_neg (by omega)]
  · rw [r9, zs_neg (by omega)]
  · rw [r10, zs_neg (by omega)]
  · rw [r11, zs_neg (by omega)]
/-- lines alike -/
def rRow (M τ : Nat → Int → Int) (i : Int) : Prop := M 443 i = τ 480 (120 + i) ∧ M 444 i = τ 481 (120 + i) ∧ M 445 i = τ 482 (120 + i) ∧ M 446 i = τ 483 (120 + i) ∧ M 447 i = τ 484 (120 + i) ∧ M 448 i = τ 486 (120 + i) ∧ M 449 i = τ 487 (120 + i) ∧ M 451 i = τ 491 (120 + i) ∧ (τ 491 (120 + i) = 0 ∨ τ 491 (120 + i) = 1)
def rRel (M τ : Nat → Int → Int) : Prop := τ 467 109 = 120 + M 442 13 ∧ τ 467 110 = M 441 1 ∧ ∀ i : Int, 0 ≤ i → i < M 442 13 → rRow M τ i
theorem rRel_put {M M' τ τ' : Nat → Int → Int} {kd tg fi se th si dp br we ca cl : Int} (h : rRel M τ) (h1 : cPut M M' kd tg fi se th si dp br we) (h2 : rPut τ τ' kd tg fi se th ca si dp we cl) (h3 : τ' 467 110 = τ 467 110) (hw : we = 0 ∨ we = 1) : rRel M' τ' := by
  obtain ⟨a1, a2, a3⟩ := h
  obtain ⟨_, ⟨b2, b3, b4⟩, ⟨r1, r2, r3, r4, r5, r6, r7, r8, r9⟩, _⟩ := h1
  obtain ⟨c0, s0, s1, s2, s3, s4, s5, s6, s7, s8, s9, s10, s11⟩ := h2
  refine ⟨by rw [c0, a1, b4]; omega, by rw [h3, a2, b2], fun i i0 i1 => ?_⟩
  rw [b4] at i1
  unfold rRow
  rw [r1, r2, r3, r4, r5, r6, r7, r9, s0, s1, s2, s3, s4, s6, s7, s11, a1]
  by_cases e : i = M 442 13
  · have e' : 120 + i = 120 + M 442 13 := by omega
    rw [zs_pos e, zs_pos e, zs_pos e, zs_pos e, zs_pos e, zs_pos e, zs_pos e, zs_pos e, zs_pos e', zs_pos e', zs_pos e', zs_pos e', zs_pos e', zs_pos e', zs_pos e', zs_pos e']
    exact ⟨rfl, rfl, rfl, rfl, rfl, rfl, rfl, rfl, hw⟩
  · have e' : ¬ 120 + i = 120 + M 442 13 := by omega
    rw [zs_neg e, zs_neg e, zs_neg e, zs_neg e, zs_neg e, zs_neg e, zs_neg e, zs_neg e, zs_neg e', zs_neg e', zs_neg e', zs_neg e', zs_neg e', zs_neg e', zs_neg e', zs_neg e']
    exact a3 i i0 (by omega)
/-- a number of copies more, on either side -/
theorem rRel_many {M M' τ τ' : Nat → Int → Int} {v dp : Int} {g1 g2 : Int → Int} (v0 : 0 ≤ v) (h : rRel M τ) (n0 : M' 442 13 = M 442 13 + v) (e1 : τ' 467 109 = τ 467 109 + v) (e2 : τ' 467 110 = M' 441 1)
    (r : M' 443 = zfr (M 443) (M 442 13) v (fun _ => 0) ∧ M' 444 = zfr (M 444) (M 442 13) v g1 ∧ M' 445 = zfr (M 445) (M 442 13) v g2 ∧ M' 446 = zfr (M 446) (M 442 13) v (fun _ => -2) ∧ M' 447 = zfr (M 447) (M 442 13) v (fun _ => -2) ∧ M' 448 = zfr (M 448) (M 442 13) v (fun _ => -2) ∧ M' 449 = zfr (M 449) (M 442 13) v (fun _ => dp) ∧ M' 451 = zfr (M 451) (M 442 13) v (fun _ => 0))
    (s : τ' 480 = zfr (τ 480) (τ 467 109) v (fun _ => 0) ∧ τ' 481 = zfr (τ 481) (τ 467 109) v g1 ∧ τ' 482 = zfr (τ 482) (τ 467 109) v g2 ∧ τ' 483 = zfr (τ 483) (τ 467 109) v (fun _ => -2) ∧ τ' 484 = zfr (τ 484) (τ 467 109) v (fun _ => -2) ∧ τ' 486 = zfr (τ 486) (τ 467 109) v (fun _ => -2) ∧ τ' 487 = zfr (τ 487) (τ 467 109) v (fun _ => dp) ∧ τ' 491 = zfr (τ 491) (τ 467 109) v (fun _ => 0)) : rRel M' τ' := by
  obtain ⟨a1, a2, a3⟩ := h
  obtain ⟨r1, r2, r3, r4, r5, r6, r7, r9⟩ := r
  obtain ⟨s0, s1, s2, s3, s4, s6, s7, s11⟩ := s
  refine ⟨by rw [e1, a1, n0]; omega, e2, fun i i0 i1 => ?_⟩
  rw [n0] at i1
  unfold rRow
  rw [r1, r2, r3, r4, r5, r6, r7, r9, s0, s1, s2, s3, s4, s6, s7, s11, a1]
  by_cases e : M 442 13 ≤ i
  · have k : M 442 13 ≤ i ∧ i < M 442 13 + v := ⟨e, i1⟩
    have k' : 120 + M 442 13 ≤ 120 + i ∧ 120 + i < 120 + M 442 13 + v := by omega
    have ee : 120 + i - (120 + M 442 13) = i - M 442 13 := by omega
    rw [zfr_in k, zfr_in k, zfr_in k, zfr_in k, zfr_in k, zfr_in k, zfr_in k, zfr_in k, zfr_in k', zfr_in k', zfr_in k', zfr_in k', zfr_in k', zfr_in k', zfr_in k', zfr_in k', ee]
    exact ⟨rfl, rfl, rfl, rfl, rfl, rfl, rfl, rfl, Or.inl rfl⟩
  · have k : i < M 442 13 ∨ M 442 13 + v ≤ i := by omega
    have k' : 120 + i < 120 + M 442 13 ∨ 120 + M 442 13 + v ≤ 120 + i := by omega
    rw [zfr_out k, zfr_out k, zfr_out k, zfr_out k, zfr_out k, zfr_out k, zfr_out k, zfr_out k, zfr_out k', zfr_out k', zfr_out k', zfr_out k', zfr_out k', zfr_out k', zfr_out k', zfr_out k']
    exact a3 i i0 (by omega)
theorem rRel_more {M τ τ' : Nat → Int → Int} (h : rRel M τ) (e1 : τ' 467 109 = τ 467 109) (e2 : τ' 467 110 = τ 467 110) (r : τ' 480 = τ 480 ∧ τ' 481 = τ 481 ∧ τ' 482 = τ 482 ∧ τ' 483 = τ 483 ∧ τ' 484 = τ 484 ∧ τ' 486 = τ 486 ∧ τ' 487 = τ 487 ∧ τ' 491 = τ 491) : rRel M τ' := by
  obtain ⟨r0, r1, r2, r3, r4, r5, r6, r7⟩ := r
  unfold rRel rRow
  rw [e1, e2, r0, r1, r2, r3, r4, r5, r6, r7]
  exact h
-- segments
theorem ySeg_fuel {L : Nat → Int → Int} {ok : Int → Int → Int → Prop} : ∀ (n : Nat) (lv br a b : Int), ySeg L ok n lv br a b → ySeg L ok (n + 1) lv br a b := by
  intro n
  induction n with
  | zero => intro lv br a b h; exact Or.inl h
  | succ n ih =>
    intro lv br a b h
    rcases h with h | ⟨h1, h2, h3, h4, h5⟩
    · exact Or.inl h
    · exact Or.inr ⟨h1, h2, ih _ _ _ _ h3, ih _ _ _ _ h4, ih _ _ _ _ h5⟩
theorem ySeg_fuels {L : Nat → Int → Int} {ok : Int → Int → Int → Prop} {n : Nat} {lv br a b : Int} (h : ySeg L ok n lv br a b) : ∀ (m : Nat), ySeg L ok (n + m) lv br a b := by
  intro m
  induction m with
  | zero => exact h
  | succ m ih => exact ySeg_fuel _ _ _ _ _ ih
def ySegE (L : Nat → Int → Int) (ok : Int → Int → Int → Prop) (lv br a b : Int) : Prop := ∃ n : Nat, ySeg L ok n lv br a b
theorem ySegE_nil {L : Nat → Int → Int} {ok : Int → Int → Int → Prop} {lv br a : Int} : ySegE L ok lv br a a := ⟨0, rfl⟩
theorem ySegE_cons {L : Nat → Int → Int} {ok : Int → Int → Int → Prop} {lv br a b : Int} (h1 : a < b) (h2 : ok lv br a) (h3 : ySegE L ok (lv + 1) 0 (a + 1) (a + 1 + L 488 a)) (h4 : ySegE L ok (lv + 1) 1 (a + 1 + L 488 a) (a + 1 + L 488 a + L 489 a)) (h5 : ySegE L ok lv br (a + 1 + L 488 a + L 489 a) b) : ySegE L ok lv br a b := by
  obtain ⟨x, h3⟩ := h3
  obtain ⟨y, h4⟩ := h4
  obtain ⟨z, h5⟩ := h5
  refine ⟨x + y + z + 1, Or.inr ⟨h1, h2, ?_, ?_, ?_⟩⟩
  · have q := ySeg_fuels h3 (y + z)
    rw [show x + (y + z) = x + y + z by omega] at q; exact q
  · have q := ySeg_fuels h4 (x + z)
    rw [show y + (x + z) = x + y + z by omega] at q; exact q
  · have q := ySeg_fuels h5 (x + y)
    rw [show z + (x + y) = x + y + z by omega] at q; exact q
theorem ySegE_inv {L : Nat → Int → Int} {ok : Int → Int → Int → Prop} {lv br a b : Int} (h : ySegE L ok lv br a b) (hn : ¬ a = b) : a < b ∧ ok lv br a ∧ ySegE L ok (lv + 1) 0 (a + 1) (a + 1 + L 488 a) ∧ ySegE L ok (lv + 1) 1 (a + 1 + L 488 a) (a + 1 + L 488 a + L 489 a) ∧ ySegE L ok lv br (a + 1 + L 488 a + L 489 a) b := by
  obtain ⟨n, h⟩ := h
  cases n with
  | zero => exact absurd h hn
  | succ n =>
    rcases h with h | ⟨h1, h2, h3, h4, h5⟩
    · exact absurd h hn
    · exact ⟨h1, h2, ⟨n, h3⟩, ⟨n, h4⟩, ⟨n, h5⟩⟩
theorem ySegE_le {L : Nat → Int → Int} {ok : Int → Int → Int → Prop} {lv br a b : Int} (h : ySegE L ok lv br a b) : a ≤ b := by
  by_cases e : a = b
  · omega
  · have := (ySegE_inv h e).1; omega
/-- one part behind another -/
theorem ySegE_app {L : Nat → Int → Int} {ok : Int → Int → Int → Prop} {c : Int} : ∀ (n : Nat) (lv br a b : Int), ySeg L ok n lv br a b → ySegE L ok lv br b c → ySegE L ok lv br a c := by
  intro n
  induction n with
  | zero => intro lv br a b h k; have e : a = b := h; rw [e]; exact k
  | succ n ih =>
    intro lv br a b h k
    rcases h with h | ⟨h1, h2, h3, h4, h5⟩
    · rw [h]; exact k
    · have l := ySegE_le k
      exact ySegE_cons (by omega) h2 ⟨n, h3⟩ ⟨n, h4⟩ (ih _ _ _ _ h5 k)
theorem ySegE_cat {L : Nat → Int → Int} {ok : Int → Int → Int → Prop} {lv br a b c : Int} (h : ySegE L ok lv br a b) (k : ySegE L ok lv br b c) : ySegE L ok lv br a c := by
  obtain ⟨n, h⟩ := h
  exact ySegE_app n lv br a b h k
/-- rows and lines alike within -/
theorem ySeg_rng {L L' : Nat → Int → Int} {ok ok' : Int → Int → Int → Prop} {A B : Int} (h1 : ∀ r : Int, A ≤ r → r < B → L' 488 r = L 488 r ∧ L' 489 r = L 489 r) (h : ∀ lv br r : Int, A ≤ r → r < B → ok lv br r → ok' lv br r) (h0 : ∀ lv br r : Int, ok lv br r → 0 ≤ L 488 r ∧ 0 ≤ L 489 r) : ∀ (n : Nat) (lv br a b : Int), A ≤ a → b ≤ B → ySeg L ok n lv br a b → ySeg L' ok' n lv br a b := by
  intro n
  induction n with
  | zero => intro lv br a b _ _ q; exact q
  | succ n ih =>
    intro lv br a b a0 b0 q
    rcases q with q | ⟨q1, q2, q3, q4, q5⟩
    · exact Or.inl q
    · have l := ySegE_le ⟨n, q5⟩
      have z := h0 _ _ _ q2
      obtain ⟨e1, e2⟩ := h1 a a0 (by omega)
      refine Or.inr ⟨q1, h _ _ _ a0 (by omega) q2, ?_⟩
      rw [e1, e2]
      exact ⟨ih _ _ _ _ (by omega) (by omega) q3, ih _ _ _ _ (by omega) (by omega) q4, ih _ _ _ _ (by omega) b0 q5⟩
theorem ySegE_rng {L L' : Nat → Int → Int} {ok ok' : Int → Int → Int → Prop} {lv br a b : Int} (h : ySegE L ok lv br a b) (h1 : ∀ r : Int, a ≤ r → r < b → L' 488 r = L 488 r ∧ L' 489 r = L 489 r) (h2 : ∀ lv br r : Int, a ≤ r → r < b → ok lv br r → ok' lv br r) (h0 : ∀ lv br r : Int, ok lv br r → 0 ≤ L 488 r ∧ 0 ≤ L 489 r) : ySegE L' ok' lv br a b := by
  obtain ⟨n, h⟩ := h
  exact ⟨n, ySeg_rng h1 h2 h0 n lv br a b (Int.le_refl _) (Int.le_refl _) h⟩
/-- each line of a part is one -/
theorem ySeg_at {L : Nat → Int → Int} {ok : Int → Int → Int → Prop} {l : Int} : ∀ (n : Nat) (lv br a b : Int), ySeg L ok n lv br a b → a ≤ l → l < b → ∃ lv' br' : Int, lv ≤ lv' ∧ ok lv' br' l := by
  intro n
  induction n with
  | zero => intro lv br a b q _ _; have e : a = b := q; omega
  | succ n ih =>
    intro lv br a b q a0 b0
    rcases q with q | ⟨q1, q2, q3, q4, q5⟩
    · omega
    · by_cases e : l = a
      · rw [e]; exact ⟨lv, br, Int.le_refl _, q2⟩
      · by_cases e1 : l < a + 1 + L 488 a
        · obtain ⟨x, y, z, w⟩ := ih _ _ _ _ q3 (by omega) e1; exact ⟨x, y, by omega, w⟩
        · by_cases e2 : l < a + 1 + L 488 a + L 489 a
          · obtain ⟨x, y, z, w⟩ := ih _ _ _ _ q4 (by omega) e2; exact ⟨x, y, by omega, w⟩
          · exact ih _ _ _ _ q5 (by omega) b0
theorem xSeg_at {L : Nat → Int → Int} {ok : Int → Prop} {mx l : Int} : ∀ (n : Nat) (lv a b : Int), xSeg L ok mx n lv a b → a ≤ l → l < b → ok l := by
  intro n
  induction n with
  | zero => intro lv a b q _ _; have e : a = b := q; omega
  | succ n ih =>
    intro lv a b q a0 b0
    rcases q with q | ⟨q1, q2, _, _, _, _, _, q3, q4, q5⟩
    · omega
    · by_cases e : l = a
      · rw [e]; exact q2
      · by_cases e1 : l < a + 1 + L 488 a
        · exact ih _ _ _ q3 (by omega) e1
        · by_cases e2 : l < a + 1 + L 488 a + L 489 a
          · exact ih _ _ _ q4 (by omega) e2
          · exact ih _ _ _ q5 (by omega) b0
/-- without the last line, where that gives -/
theorem ySeg_cut {L : Nat → Int → Int} {ok : Int → Int → Int → Prop} {b : Int} (h9 : ∀ lv br : Int, ok lv br (b - 1) → lv = 0) (h0 : ∀ lv br r : Int, ok lv br r → 0 ≤ L 488 r ∧ 0 ≤ L 489 r) (hb : L 488 (b - 1) = 0 ∧ L 489 (b - 1) = 0) : ∀ (n : Nat) (br a : Int), ySeg L ok n 0 br a b → a < b → ySegE L ok 0 br a (b - 1) := by
  intro n
  induction n with
  | zero => intro br a q h; have e : a = b := q; omega
  | succ n ih =>
    intro br a q h
    rcases q with q | ⟨q1, q2, q3, q4, q5⟩
    · omega
    · by_cases e : a = b - 1
      · rw [e]; exact ySegE_nil
      · have z := h0 _ _ _ q2
        have l := ySegE_le ⟨n, q5⟩
        by_cases e2 : a + 1 + L 488 a + L 489 a = b
        · exfalso
          by_cases e3 : b - 1 < a + 1 + L 488 a
          · obtain ⟨x, y, u, w⟩ := ySeg_at n _ _ _ _ q3 (show a + 1 ≤ b - 1 by omega) e3
            have := h9 x y w; omega
          · obtain ⟨x, y, u, w⟩ := ySeg_at n _ _ _ _ q4 (show a + 1 + L 488 a ≤ b - 1 by omega) (by omega)
            have := h9 x y w; omega
        · exact ySegE_cons (by omega) q2 ⟨n, q3⟩ ⟨n, q4⟩ (ih _ _ q5 (by omega))
