/-! The result's lines: what a line is, and the levels -/
def opnd (V o : Int) : Prop := (0 ≤ o ∧ o < 1000) ∨ (-700 ≤ o ∧ o ≤ -10 ∧ 0 - 10 - o < V)
def xv (V b : Int) (fP fV fF fM : Int → Int) (kd X A B C ca si : Int) : Prop :=
  (0 ≤ kd ∧ kd ≤ 9) ∧ ((¬ kd = 6) → opnd V A) ∧ ((1 ≤ kd ∧ kd ≤ 5) → opnd V B) ∧ (kd ≤ 6 → 0 ≤ X ∧ X < V) ∧
  (kd = 6 → (0 ≤ ca ∧ ca < 8) ∧ (0 ≤ si ∧ si < 16) ∧ (0 ≤ fP (8 * b + ca) ∧ fP (8 * b + ca) ≤ 3 ∧ fP (8 * b + ca) ≤ fV (8 * b + ca) ∧ fV (8 * b + ca) ≤ 8) ∧ (0 ≤ fF (8 * b + ca) ∧ fF (8 * b + ca) ≤ 60 ∧ 0 ≤ fM (8 * b + ca) ∧ fM (8 * b + ca) ≤ 60) ∧
    (0 < fP (8 * b + ca) → opnd V A) ∧ (1 < fP (8 * b + ca) → opnd V B) ∧ (2 < fP (8 * b + ca) → opnd V C))
theorem opnd_mono {V W o : Int} (h : opnd V o) (hw : V ≤ W) : opnd W o := by unfold opnd at *; omega
theorem opnd_shf {V W o e : Int} (h : opnd V o) (e0 : 0 ≤ e) (hw : e + V ≤ W) (hW : W ≤ 690) : opnd W (shf o e) := by
  unfold opnd at *
  unfold shf
  rcases h with h | h
  · rw [if_neg (by omega)]; left; exact h
  · rw [if_pos (by omega)]; right; omega
theorem xv_mono {V W b : Int} {fP fV fF fM : Int → Int} {kd X A B C ca si : Int} (h : xv V b fP fV fF fM kd X A B C ca si) (hw : V ≤ W) : xv W b fP fV fF fM kd X A B C ca si := by
  obtain ⟨h1, h2, h3, h4, h5⟩ := h
  refine ⟨h1, fun z => opnd_mono (h2 z) hw, fun z => opnd_mono (h3 z) hw, fun z => by have := h4 z; omega, fun z => ?_⟩
  obtain ⟨g1, g2, g3, g4, g5, g6, g7⟩ := h5 z
  exact ⟨g1, g2, g3, g4, fun y => opnd_mono (g5 y) hw, fun y => opnd_mono (g6 y) hw, fun y => opnd_mono (g7 y) hw⟩
theorem xv_shf {V W b e : Int} {fP fV fF fM : Int → Int} {kd X A B C ca si : Int} (h : xv V b fP fV fF fM kd X A B C ca si) (e0 : 0 ≤ e) (hw : e + V ≤ W) (hW : W ≤ 690) : xv W b fP fV fF fM kd (tgx X e) (shf A e) (shf B e) (shf C e) ca si := by
  obtain ⟨h1, h2, h3, h4, h5⟩ := h
  refine ⟨h1, fun z => opnd_shf (h2 z) e0 hw hW, fun z => opnd_shf (h3 z) e0 hw hW, fun z => ?_, fun z => ?_⟩
  · have y := h4 z
    unfold tgx
    rw [if_neg (by omega)]; omega
  · obtain ⟨g1, g2, g3, g4, g5, g6, g7⟩ := h5 z
    exact ⟨g1, g2, g3, g4, fun y => opnd_shf (g5 y) e0 hw hW, fun y => opnd_shf (g6 y) e0 hw hW, fun y => opnd_shf (g7 y) e0 hw hW⟩
theorem xv_move {W b : Int} {fP fV fF fM : Int → Int} {X A B C ca si : Int} (hx : 0 ≤ X ∧ X < W) (ha : opnd W A) : xv W b fP fV fF fM 0 X A B C ca si :=
  ⟨by omega, fun _ => ha, fun z => by omega, fun _ => hx, fun z => by omega⟩
theorem xLine_xv {V b l : Int} {k0 k1 k2 k3 k4 k5 k6 k8 k9 fP fV fF fM : Int → Int} (h : xLine V 0 b k0 k1 k2 k3 k4 k5 k6 k8 k9 fP fV fF fM l) : xv V b fP fV fF fM (k0 l) (k1 l) (k2 l) (k3 l) (k4 l) (k5 l) (k6 l) := by
  obtain ⟨h1, h2, h3, h4, h5, h6, h7⟩ := h
  refine ⟨h2, fun z => h4 z, fun z => h5 z, fun z => by have := h6 z; omega, fun z => ?_⟩
  obtain ⟨g1, g2, g3, g4, g5, g6, g7⟩ := h7 z
  exact ⟨g1, g2, g3, g4, fun y => g5 y, fun y => g6 y, fun y => g7 y⟩
theorem xv_xLine {V b l : Int} {k0 k1 k2 k3 k4 k5 k6 k8 k9 fP fV fF fM : Int → Int} (h : xv V b fP fV fF fM (k0 l) (k1 l) (k2 l) (k3 l) (k4 l) (k5 l) (k6 l)) (hl : 0 ≤ l ∧ l < 520) (ht : 0 ≤ k8 l ∧ k8 l ≤ 520 ∧ 0 ≤ k9 l ∧ k9 l ≤ 520) : xLine V 0 b k0 k1 k2 k3 k4 k5 k6 k8 k9 fP fV fF fM l := by
  obtain ⟨h2, h4, h5, h6, h7⟩ := h
  refine ⟨hl, h2, ht, fun z => h4 z, fun z => h5 z, fun z => by have := h6 z; omega, fun z => ?_⟩
  obtain ⟨g1, g2, g3, g4, g5, g6, g7⟩ := h7 z
  exact ⟨g1, g2, g3, g4, fun y => g5 y, fun y => g6 y, fun y => g7 y⟩
/-- a line of the result -/
def okR (M τ : Nat → Int → Int) (nF : Int) (TO : Int → Int) (lv br r : Int) : Prop :=
  (M 449 (r - 120) = lv ∧ (0 < lv → M 450 (r - 120) = br) ∧ lv ≤ 130) ∧ xv (M 441 1) (τ 467 11) (τ 473) (τ 474) (τ 475) (τ 476) (τ 480 r) (τ 481 r) (τ 482 r) (τ 483 r) (τ 484 r) (τ 485 r) (τ 486 r) ∧
  ((120 ≤ r ∧ r < 520) ∧ 0 ≤ τ 488 r ∧ τ 488 r ≤ 520 ∧ 0 ≤ τ 489 r ∧ τ 489 r ≤ 520) ∧
  ((τ 480 r = 6 → τ 485 r < nF ∧ TO (τ 486 r) = τ 485 r) ∧ (¬ τ 480 r = 6 → τ 485 r = -2 ∧ τ 486 r = -2) ∧ (7 ≤ τ 480 r → τ 481 r = -2) ∧ (τ 480 r = 0 → τ 483 r = -2)) ∧ ((τ 480 r = 7 ∨ τ 480 r = 8) ∨ (τ 488 r = 0 ∧ τ 489 r = 0)) ∧ (τ 480 r = 8 → τ 489 r = 0)
theorem okR_pos {M τ : Nat → Int → Int} {nF : Int} {TO : Int → Int} (lv br r : Int) (h : okR M τ nF TO lv br r) : 0 ≤ τ 488 r ∧ 0 ≤ τ 489 r := by
  have z := h.2.2.1; omega
/-- a line stays one, as more lines come -/
theorem okR_keep {M τ M' τ' : Nat → Int → Int} {nF : Int} {TO : Int → Int} {n K O L : Int} (hc : cPr M M' n) (hr : rPr τ τ' K O L) (hv : M 441 1 ≤ M' 441 1) (lv br r : Int) (h0 : r < L) (h1 : r - 120 < n) (h : okR M τ nF TO lv br r) : okR M' τ' nF TO lv br r := by
  unfold okR at h ⊢
  have c := hc.2.2.2
  have q := hr.2.2.1
  rw [c 449 _ (by decide) (by decide) h1, c 450 _ (by decide) (by decide) h1, hr.1 473 rfl, hr.1 474 rfl, hr.1 475 rfl, hr.1 476 rfl, hr.2.1 11 (by decide), q 480 r (by decide) (by decide) h0, q 481 r (by decide) (by decide) h0, q 482 r (by decide) (by decide) h0, q 483 r (by decide) (by decide) h0, q 484 r (by decide) (by decide) h0, q 485 r (by decide) (by decide) h0, q 486 r (by decide) (by decide) h0, q 488 r (by decide) (by decide) h0, q 489 r (by decide) (by decide) h0]
  exact ⟨h.1, xv_mono h.2.1 hv, h.2.2⟩
theorem ySegE_keep {M τ M' τ' : Nat → Int → Int} {nF : Int} {TO : Int → Int} {n K O L lv br a b : Int} (h : ySegE τ (okR M τ nF TO) lv br a b) (hc : cPr M M' n) (hr : rPr τ τ' K O L) (hv : M 441 1 ≤ M' 441 1) (h0 : b ≤ L) (h1 : b - 120 ≤ n) : ySegE τ' (okR M' τ' nF TO) lv br a b :=
  ySegE_rng h (fun r r0 r1 => ⟨hr.2.2.1 488 r (by decide) (by decide) (by omega), hr.2.2.1 489 r (by decide) (by decide) (by omega)⟩) (fun l b' r r0 r1 q => okR_keep hc hr hv l b' r (by omega) (by omega) q) okR_pos
/-- a line without blocks, then more -/
theorem ySegE_one {M τ : Nat → Int → Int} {nF : Int} {TO : Int → Int} {lv br a b : Int} (h : okR M τ nF TO lv br a) (h8 : τ 488 a = 0) (h9 : τ 489 a = 0) (k : ySegE τ (okR M τ nF TO) lv br (a + 1) b) : ySegE τ (okR M τ nF TO) lv br a b := by
  have l := ySegE_le k
  refine ySegE_cons (by omega) h ?_ ?_ ?_
  · rw [h8, show a + 1 + (0 : Int) = a + 1 by omega]; exact ySegE_nil
  · rw [h8, h9, show a + 1 + (0 : Int) + 0 = a + 1 by omega, show a + 1 + (0 : Int) = a + 1 by omega]; exact ySegE_nil
  · rw [h8, h9, show a + 1 + (0 : Int) + 0 = a + 1 by omega]; exact k
theorem ySegE_many {M τ : Nat → Int → Int} {nF : Int} {TO : Int → Int} {lv br b : Int} : ∀ (v : Nat) (a : Int), (∀ r : Int, a ≤ r → r < a + v → okR M τ nF TO lv br r ∧ τ 488 r = 0 ∧ τ 489 r = 0) → ySegE τ (okR M τ nF TO) lv br (a + v) b → ySegE τ (okR M τ nF TO) lv br a b := by
  intro v
  induction v with
  | zero => intro a _ h; rw [show a = a + ((0 : Nat) : Int) by omega]; exact h
  | succ v ih =>
    intro a h k
    have z := h a (Int.le_refl _) (by omega)
    exact ySegE_one z.1 z.2.1 z.2.2 (ih (a + 1) (fun r r0 r1 => h r (by omega) (by omega)) (by rw [show a + 1 + (v : Int) = a + ((v + 1 : Nat) : Int) by omega]; exact k))
-- levels
theorem cP_sub {dp br mi en ar la : Int → Int} {n d : Int} (h : cL dp br mi en ar la (n + 1)) (e1 : dp n = d) (e3 : la d = n) (h0 : 0 ≤ n) (hd : 0 ≤ d) : cP dp mi la (n + 1) (d + 1) 0 := by
  refine ⟨⟨by omega, Or.inl rfl⟩, fun d0 => ⟨by omega, by rw [show n + 1 - 1 = n by omega]; omega, fun _ => ?_⟩⟩
  rw [show d + 1 - 1 = d by omega, e3]
  have z := (h.2.1 n h0 (by omega)).2.2.1.1
  omega
theorem cP_else {dp mi la : Int → Int} {n d b : Int} (h : cP dp mi la n d b) : cP dp mi la n d 1 := ⟨⟨h.1.1, Or.inr rfl⟩, fun d0 => ⟨(h.2 d0).1, (h.2 d0).2.1, fun z => absurd z (by decide)⟩⟩
theorem cP_back {dp br mi en ar la : Int → Int} {n d b b' i : Int} (h : cL dp br mi en ar la n) (p : cP dp mi la n (d + 1) b') (e1 : la d = i) (e2 : br i = b) (hd : 0 ≤ d) (hb : b = 0 ∨ b = 1) : cP dp mi la n d b := by
  have z := p.2 (by omega)
  refine ⟨⟨hd, hb⟩, fun d0 => ⟨z.1, by omega, fun y => ?_⟩⟩
  have k := h.2.2 (d - 1) (by omega) z.1 (by omega)
  exact k.2.2.2.2 (by omega) (by rw [show d - 1 + 1 = d by omega, e1, e2]; exact y)
theorem laK_refl {la : Int → Int} {d : Int} : laK la la d := fun _ _ => rfl
theorem laK_trans {la l1 l2 : Int → Int} {d d' : Int} (h : laK la l1 d) (k : laK l1 l2 d') (hd : d ≤ d') : laK la l2 d := fun e he => (k e (by omega)).trans (h e he)
/-- all that a line's place in its segment says -/
theorem xSeg_all {L : Nat → Int → Int} {ok : Int → Prop} {mx l : Int} : ∀ (n : Nat) (lv a b : Int), xSeg L ok mx n lv a b → a ≤ l → l < b → ok l ∧ (0 ≤ L 488 l ∧ 0 ≤ L 489 l) ∧ l + 1 + L 488 l + L 489 l ≤ b ∧ ((L 480 l = 7 ∨ L 480 l = 8) ∨ (L 488 l = 0 ∧ L 489 l = 0)) ∧ (L 480 l = 8 → L 489 l = 0) := by
  intro n
  induction n with
  | zero => intro lv a b q _ _; have e : a = b := q; omega
  | succ n ih =>
    intro lv a b q a0 b0
    rcases q with q | ⟨q1, q2, q6, q7, q8, q9, _, q3, q4, q5⟩
    · omega
    · by_cases e : l = a
      · rw [e]; exact ⟨q2, q6, q7, q8, q9⟩
      · by_cases e1 : l < a + 1 + L 488 a
        · have z := ih _ _ _ q3 (by omega) e1
          exact ⟨z.1, z.2.1, by omega, z.2.2.2⟩
        · by_cases e2 : l < a + 1 + L 488 a + L 489 a
          · have z := ih _ _ _ q4 (by omega) e2
            exact ⟨z.1, z.2.1, by omega, z.2.2.2⟩
          · exact ih _ _ _ q5 (by omega) b0
-- where blocks end, by the parts
theorem ySeg_dp {M τ : Nat → Int → Int} {nF : Int} {TO : Int → Int} {lv br a b : Int} {n : Nat} (h : ySeg τ (okR M τ nF TO) n lv br a b) {r : Int} (a0 : a ≤ r) (b0 : r < b) : lv ≤ M 449 (r - 120) := by
  obtain ⟨l, b', z, w⟩ := ySeg_at n lv br a b h a0 b0
  rw [w.1.1]; exact z
