/-! The class's code and the reference's lines -/
theorem xSegE_imp {L : Nat → Int → Int} {ok ok' : Int → Prop} (hi : ∀ a, ok a → ok' a) {mx lv a b : Int} (h : xSegE L ok mx lv a b) : xSegE L ok' mx lv a b := by
  obtain ⟨n, h⟩ := h
  refine ⟨n, ?_⟩
  induction n generalizing lv a b with
  | zero => exact h
  | succ n ih =>
    rcases h with h | ⟨h1, h2, h2', h3, h4, h5, h6, h7, h8, h9⟩
    · exact Or.inl h
    · exact Or.inr ⟨h1, hi _ h2, h2', h3, h4, h5, h6, ih h7, ih h8, ih h9⟩
def cCode (L : Nat → Int → Int) (o n : Int) (kd tg fi se th si mi en : Int → Int) : Prop := ∀ l : Int, 0 ≤ l → l < n → kd l = L 480 (l + o) ∧ tg l = L 481 (l + o) ∧ fi l = L 482 (l + o) ∧ se l = L 483 (l + o) ∧ th l = L 484 (l + o) ∧ si l = L 486 (l + o) ∧ mi l = l + 1 + L 488 (l + o) ∧ en l = l + 1 + L 488 (l + o) + L 489 (l + o) ∧ (L 480 (l + o) = 0 → L 483 (l + o) = -2)
def cProg (L : Nat → Int → Int) (nF : Int) (π TO pa va fl lc sTo : Int → Int) : Prop :=
  (∀ f : Int, 0 ≤ f → f < nF → (0 ≤ π f ∧ π f < nF) ∧ pa f = L 473 (8 * L 467 11 + π f) ∧ va f = L 474 (8 * L 467 11 + π f) ∧ fl f = L 475 (8 * L 467 11 + π f) ∧ lc f = L 476 (8 * L 467 11 + π f)) ∧
  (∀ s : Int, 0 ≤ s → s < 16 → 0 ≤ TO s → 0 ≤ sTo s ∧ sTo s < nF ∧ π (sTo s) = TO s) ∧ (0 ≤ nF ∧ nF ≤ 8) ∧ (∀ a b : Int, 0 ≤ a → a < 8 → 0 ≤ b → b < 8 → π a = π b → a = b)
/-- other cells than the machine's are as they were -/
def Fr (M A : Nat → Int → Int) : Prop := ∀ c : Nat, ¬ (101 ≤ c ∧ c ≤ 115) → A c = M c
theorem fr_refl {M : Nat → Int → Int} : Fr M M := fun _ _ => rfl
theorem fr_up {M A : Nat → Int → Int} {c : Nat} {k v : Int} (h : 101 ≤ c ∧ c ≤ 115) (f : Fr M A) : Fr M (zup A c k v) := fun c' h' => by
  rw [← f c' h']; funext k'; unfold zup; rw [if_neg (fun q => by omega)]
theorem fr_row {M A : Nat → Int → Int} {c : Nat} {r : Int → Int} (h : 101 ≤ c ∧ c ≤ 115) (f : Fr M A) : Fr M (zrow A c r) := fun c' h' => by
  rw [← f c' h']; funext k'; unfold zrow; rw [if_neg (fun q => by omega)]
theorem fr_trans {M A B : Nat → Int → Int} (f : Fr M A) (g : Fr A B) : Fr M B := fun c h => (g c h).trans (f c h)
section
variable {L : Nat → Int → Int} {o0 n0 o1 n1 nF : Int} {TO : Int → Int} {V0 mx0 : Int} {π e0 : Int → Int} {M σ : Nat → Int → Int}
variable {kd tg fi se th si mi en pa va fl lc sTo : Int → Int} {o n : Int}
theorem mRel_blk (h : mRel L o0 n0 o1 n1 nF TO V0 mx0 π e0 M σ) (ho : M 101 14 < M 106 4) : M 107 (M 106 4 - 1) < M 101 13 := by
  obtain ⟨RB, BS, FX, DX, hI, ⟨e1, e2, e3, e4⟩, hj, ⟨p1, p2⟩, hf, hb, hv⟩ := h.2.2.2.2
  have q := hb (M 111 4) (M 106 4 - 1) hI.1.1 (Int.le_refl _) (by omega) (by omega)
  have q2 := hI.2.2.2 (M 111 4) (M 106 4 - 1) hI.1.1 (Int.le_refl _) (by omega) (by omega)
  have q3 := (hI.2.1 (M 111 4) hI.1.1 (Int.le_refl _)).2.2.2.2.2.1 (by omega)
  rw [e1] at q3
  omega
/-- the line at hand, as the class reads it -/
theorem mRel_cl (h : mRel L o0 n0 o1 n1 nF TO V0 mx0 π e0 M σ) (hl : M 101 12 < M 101 13) (hc : cCode L o n kd tg fi se th si mi en) (ho : (M 111 4 = 0 ∧ o = o0 ∧ n = n0) ∨ (¬ M 111 4 = 0 ∧ o = o1 ∧ n = n1)) :
    (0 ≤ (M 101 12) ∧ (M 101 12) < n) ∧ kd (M 101 12) = L 480 (σ 511 (M 111 4)) ∧ tg (M 101 12) = L 481 (σ 511 (M 111 4)) ∧ fi (M 101 12) = L 482 (σ 511 (M 111 4)) ∧ se (M 101 12) = L 483 (σ 511 (M 111 4)) ∧ th (M 101 12) = L 484 (σ 511 (M 111 4)) ∧ si (M 101 12) = L 486 (σ 511 (M 111 4)) ∧ (mi (M 101 12) + xof o0 o1 (M 111 4) = (σ 511 (M 111 4)) + 1 + L 488 (σ 511 (M 111 4)) ∧ mi (M 101 12) = (M 101 12) + 1 + L 488 (σ 511 (M 111 4))) ∧ (en (M 101 12) + xof o0 o1 (M 111 4) = (σ 511 (M 111 4)) + 1 + L 488 (σ 511 (M 111 4)) + L 489 (σ 511 (M 111 4)) ∧ en (M 101 12) = (M 101 12) + 1 + L 488 (σ 511 (M 111 4)) + L 489 (σ 511 (M 111 4))) ∧ (L 480 (σ 511 (M 111 4)) = 0 → L 483 (σ 511 (M 111 4)) = -2) := by
  have hx := (mRel_line h hl).1
  have i4 := (mRel_in h).2.2.2.2.1
  have hxo : xof o0 o1 (M 111 4) = o := by unfold xof; rcases ho with q | q <;> first | (rw [if_pos q.1]; omega) | (rw [if_neg q.1]; omega)
  rw [hxo] at i4 ⊢
  have hr : 0 ≤ (M 101 12) ∧ (M 101 12) < n := by
    rcases ho with q | q
    · have := hx.2.1 q.1; omega
    · have := hx.2.2.1 q.1; omega
  have q := hc (M 101 12) hr.1 hr.2
  rw [i4] at q
  obtain ⟨q1, q2, q3, q4, q5, q6, q7, q8, q9⟩ := q
  exact ⟨hr, q1, q2, q3, q4, q5, q6, ⟨by omega, q7⟩, ⟨by omega, q8⟩, q9⟩
theorem mRel_cf (h : mRel L o0 n0 o1 n1 nF TO V0 mx0 π e0 M σ) (hl : M 101 12 < M 101 13) (hc : cCode L o n kd tg fi se th si mi en) (ho : (M 111 4 = 0 ∧ o = o0 ∧ n = n0) ∨ (¬ M 111 4 = 0 ∧ o = o1 ∧ n = n1)) (hp : cProg L nF π TO pa va fl lc sTo) :
    (0 ≤ (M 101 12) ∧ (M 101 12) < n) ∧ (0 ≤ kd (M 101 12) ∧ kd (M 101 12) ≤ 9) ∧ (¬ kd (M 101 12) = 6 → (fi (M 101 12) ≤ -10 → -700 ≤ fi (M 101 12) ∧ 0 ≤ M 101 10 - 10 - fi (M 101 12) ∧ M 101 10 - 10 - fi (M 101 12) < M 101 11)) ∧ (kd (M 101 12) < 6 → (se (M 101 12) ≤ -10 → -700 ≤ se (M 101 12) ∧ 0 ≤ M 101 10 - 10 - se (M 101 12) ∧ M 101 10 - 10 - se (M 101 12) < M 101 11)) ∧ (kd (M 101 12) ≤ 6 → 0 ≤ tg (M 101 12) ∧ M 101 10 + tg (M 101 12) < M 101 11) ∧ ((M 101 12) + 1 ≤ mi (M 101 12) ∧ mi (M 101 12) ≤ en (M 101 12) ∧ en (M 101 12) ≤ (M 101 12) + 1041) := by
  obtain ⟨hr, k0, k1, k2, k3, k4, k5, k6, k7, k8⟩ := mRel_cl h hl hc ho
  have hx := (mRel_line h hl).1.1
  have hb := (mRel_in h).2.2.1
  have hx' := xLine_sh hx (rfl : M 101 11 - M 101 10 = M 101 11 - M 101 10)
  unfold xLine at hx'
  obtain ⟨x1, x2, x3, x4, x5, x6, x7⟩ := hx'
  rw [k0, k1, k2, k3, k6.2, k7.2]
  refine ⟨hr, x2, fun q => ?_, fun q => ?_, fun q => ?_, by omega⟩
  · have := x4 q; omega
  · by_cases z : L 480 (σ 511 (M 111 4)) = 0
    · have := k8 z; omega
    · have := x5 (by omega); omega
  · have := x6 q; omega
theorem mRel_ccall (h : mRel L o0 n0 o1 n1 nF TO V0 mx0 π e0 M σ) (hl : M 101 12 < M 101 13) (hc : cCode L o n kd tg fi se th si mi en) (ho : (M 111 4 = 0 ∧ o = o0 ∧ n = n0) ∨ (¬ M 111 4 = 0 ∧ o = o1 ∧ n = n1)) (hp : cProg L nF π TO pa va fl lc sTo) (hk : kd (M 101 12) = 6) :
    (0 ≤ si (M 101 12) ∧ si (M 101 12) < 16) ∧ (0 ≤ (sTo (si (M 101 12))) ∧ (sTo (si (M 101 12))) < 8) ∧ (0 ≤ pa (sTo (si (M 101 12))) ∧ pa (sTo (si (M 101 12))) ≤ 3 ∧ pa (sTo (si (M 101 12))) ≤ va (sTo (si (M 101 12))) ∧ va (sTo (si (M 101 12))) ≤ 8) ∧ (0 ≤ fl (sTo (si (M 101 12))) ∧ fl (sTo (si (M 101 12))) ≤ 60 ∧ 0 ≤ lc (sTo (si (M 101 12))) ∧ lc (sTo (si (M 101 12))) ≤ 60) ∧ (0 < pa (sTo (si (M 101 12))) → (fi (M 101 12) ≤ -10 → -700 ≤ fi (M 101 12) ∧ 0 ≤ M 101 10 - 10 - fi (M 101 12) ∧ M 101 10 - 10 - fi (M 101 12) < M 101 11)) ∧ (1 < pa (sTo (si (M 101 12))) → (se (M 101 12) ≤ -10 → -700 ≤ se (M 101 12) ∧ 0 ≤ M 101 10 - 10 - se (M 101 12) ∧ M 101 10 - 10 - se (M 101 12) < M 101 11)) ∧ (2 < pa (sTo (si (M 101 12))) → (th (M 101 12) ≤ -10 → -700 ≤ th (M 101 12) ∧ 0 ≤ M 101 10 - 10 - th (M 101 12) ∧ M 101 10 - 10 - th (M 101 12) < M 101 11)) ∧
    (π (sTo (si (M 101 12))) = (L 485 (σ 511 (M 111 4))) ∧ (L 485 (σ 511 (M 111 4))) < nF ∧ TO (L 486 (σ 511 (M 111 4))) = (L 485 (σ 511 (M 111 4))) ∧ 0 ≤ (L 485 (σ 511 (M 111 4)))) ∧ pa (sTo (si (M 101 12))) = (L 473 (8 * L 467 11 + L 485 (σ 511 (M 111 4)))) ∧ va (sTo (si (M 101 12))) = (L 474 (8 * L 467 11 + L 485 (σ 511 (M 111 4)))) ∧ fl (sTo (si (M 101 12))) = L 475 (8 * L 467 11 + (L 485 (σ 511 (M 111 4)))) ∧ lc (sTo (si (M 101 12))) = L 476 (8 * L 467 11 + (L 485 (σ 511 (M 111 4)))) := by
  obtain ⟨hr, k0, k1, k2, k3, k4, k5, k6, k7, k8⟩ := mRel_cl h hl hc ho
  have hx0 := (mRel_line h hl).1
  have hx := hx0.1
  have hb := (mRel_in h).2.2.1
  have hx' := xLine_sh hx (rfl : M 101 11 - M 101 10 = M 101 11 - M 101 10)
  unfold xLine at hx'
  obtain ⟨x1, x2, x3, x4, x5, x6, x7⟩ := hx'
  rw [k0] at hk
  obtain ⟨y1, y2, y3, y4, y5, y6, y7⟩ := x7 hk
  obtain ⟨z1, z2⟩ := hx0.2.2.2 hk
  obtain ⟨p1, p2, p3, p4⟩ := hp
  obtain ⟨w1, w2, w3⟩ := p2 (L 486 (σ 511 (M 111 4))) y2.1 y2.2 (by rw [z2]; exact y1.1)
  rw [k2, k3, k4, k5]
  obtain ⟨v0, v1, v2, v3, v4⟩ := p1 _ w1 w2
  rw [w3, z2] at v0 v1 v2 v3 v4
  rw [v1, v2, v3, v4]
  refine ⟨y2, ⟨w1, by omega⟩, y3, y4, fun q => ?_, fun q => ?_, fun q => ?_, ⟨w3.trans z2, z1, z2, y1.1⟩, rfl, rfl, rfl, rfl⟩
  · have := y5 q; omega
  · have := y6 q; omega
  · have := y7 q; omega
/-- the line of the call that is gone back to -/
theorem mRel_cback (h : mRel L o0 n0 o1 n1 nF TO V0 mx0 π e0 M σ) (hp : 0 < M 111 4) (hc : cCode L o n kd tg fi se th si mi en) (ho : (M 111 4 - 1 = 0 ∧ o = o0 ∧ n = n0) ∨ (¬ M 111 4 - 1 = 0 ∧ o = o1 ∧ n = n1)) :
    (0 ≤ M 112 (M 111 4 - 1) ∧ M 112 (M 111 4 - 1) < n) ∧ tg (M 112 (M 111 4 - 1)) = L 481 (σ 514 (M 111 4)) ∧ 0 ≤ tg (M 112 (M 111 4 - 1)) ∧ 0 ≤ M 113 (M 111 4 - 1) ∧ M 113 (M 111 4 - 1) + tg (M 112 (M 111 4 - 1)) < M 101 10 := by
  have hi := mRel_in h
  obtain ⟨q0, q1, q2, q3, q4, q5, q6, q7, q8⟩ := mRelA_leave h.2.2.2.2 hp rfl rfl rfl rfl rfl rfl rfl
  have hb := (mRelA_in q0).2.1
  have hxo : xof o0 o1 (M 111 4 - 1) = o := by unfold xof; rcases ho with q | q <;> first | (rw [if_pos q.1]; omega) | (rw [if_neg q.1]; omega)
  have hr : 0 ≤ M 112 (M 111 4 - 1) ∧ M 112 (M 111 4 - 1) < n := by
    rcases ho with q | q
    · have := q8.2.1 q.1; omega
    · have := q8.2.2.1 q.1; omega
  have e := (hc _ hr.1 hr.2).2.1
  rw [← hxo, q3] at e
  rw [e]
  exact ⟨hr, rfl, q4, by omega, by omega⟩
end
