/-! The result's lines: both sides go through a part of a function -/
def rInv (M0 τ0 M τ : Nat → Int → Int) (K x a E base deep lv : Int) : Prop :=
  cPr M0 M 0 ∧ rPr τ0 τ 0 0 120 ∧ rRel M τ ∧ rTop τ K x a E base deep lv ∧ cL (M 449) (M 450) (M 452) (M 453) (M 454) (M 455) (M 442 13) ∧ 0 ≤ base ∧ (0 ≤ M 441 1 ∧ M 441 1 + deep + lv ≤ 8 + M 442 13)
/-- what else the class's lines from one on are: operands, where it gives, levels by the nodes that are open -/
def rW (M : Nat → Int → Int) (U K n0 : Int) : Prop := ∀ i : Int, n0 ≤ i → i < M 442 13 → (-20 - M 441 1 ≤ M 445 i ∧ M 445 i ≤ 1000) ∧ ((M 443 i = 9 ↔ (K = 0 ∧ i + 1 = U)) ∧ (M 443 i = 9 → M 449 i ≤ 0)) ∧ ∃ k : Int, 0 ≤ k ∧ M 449 i ≤ 4 * (K + k) + 4 ∧ M 441 1 + M 449 i + k + 1 ≤ 8 + M 442 13
theorem rW_nil {M : Nat → Int → Int} {U K : Int} : rW M U K (M 442 13) := fun i a b => by omega
theorem rW_cat {M M' : Nat → Int → Int} {U K n0 : Int} (h : rW M U K n0) (c : cPr M M' (M 442 13)) (v : M 441 1 ≤ M' 441 1) (b : M' 441 1 - M 441 1 ≤ M' 442 13 - M 442 13) (k : rW M' U K (M 442 13)) : rW M' U K n0 := by
  intro i i0 i1
  by_cases e : i < M 442 13
  · obtain ⟨x, y, j, j0, j1, j2⟩ := h i i0 e
    rw [c.2.2.2 443 i (by decide) (by decide) e, c.2.2.2 445 i (by decide) (by decide) e, c.2.2.2 449 i (by decide) (by decide) e]
    exact ⟨by omega, y, j, j0, j1, by omega⟩
  · exact k i (by omega) i1
theorem rW_put {M M' : Nat → Int → Int} {U K kd tg fi se th si dp br we : Int} (h : cPut M M' kd tg fi se th si dp br we) (f : -20 - M 441 1 ≤ fi ∧ fi ≤ 1000) (h9 : (kd = 9 ↔ (K = 0 ∧ M 442 13 + 1 = U)) ∧ (kd = 9 → dp ≤ 0)) (d : dp ≤ 4 * K + 4) (v : M 441 1 + dp ≤ 8 + M 442 13) : rW M' U K (M 442 13) := by
  obtain ⟨_, ⟨b2, b3, b4⟩, ⟨r1, r2, r3, r4, r5, r6, r7, r8, r9⟩, _⟩ := h
  intro i i0 i1
  have e : i = M 442 13 := by omega
  rw [r1, r3, r7, zs_pos e, zs_pos e, zs_pos e, b2, b4, e]
  exact ⟨f, h9, 0, by omega, by omega, by omega⟩
theorem opnd_b {V o : Int} (v0 : 0 ≤ V) (h : opnd V o) : -20 - V ≤ o ∧ o ≤ 1000 := by unfold opnd at h; omega
theorem shf_b {V o e : Int} (h : -20 ≤ o ∧ o ≤ 999) (e0 : 0 ≤ e) (e1 : e ≤ V) : -20 - V ≤ shf o e ∧ shf o e ≤ 1000 := by unfold shf; split <;> omega
def rPost (U nF : Int) (TO : Int → Int) (M0 τ0 M τ M' τ' : Nat → Int → Int) (K x e E base deep lv bq : Int) : Prop :=
  rInv M0 τ0 M' τ' K x e E base deep lv ∧ rTo τ τ' ∧ cP (M' 449) (M' 452) (M' 455) (M' 442 13) (deep + lv) bq ∧ rPr τ τ' K (deep + lv) (120 + M 442 13) ∧ cPr M M' (M 442 13) ∧ laK (M 455) (M' 455) (deep + lv) ∧ ySegE τ' (okR M' τ' nF TO) (deep + lv) bq (120 + M 442 13) (120 + M' 442 13) ∧ (M 442 13 ≤ M' 442 13 ∧ M 441 1 ≤ M' 441 1 ∧ M' 441 1 - M 441 1 ≤ M' 442 13 - M 442 13) ∧ rW M' U K (M 442 13)
theorem rPost_refl {U nF : Int} {TO : Int → Int} {M0 τ0 M τ : Nat → Int → Int} {K x e E base deep lv bq : Int} (h : rInv M0 τ0 M τ K x e E base deep lv) (p : cP (M 449) (M 452) (M 455) (M 442 13) (deep + lv) bq) : rPost U nF TO M0 τ0 M τ M τ K x e E base deep lv bq :=
  ⟨h, rTo_refl, p, rPr_refl, cPr_refl, laK_refl, ySegE_nil, ⟨Int.le_refl _, Int.le_refl _, by omega⟩, rW_nil⟩
theorem rPost_trans {U nF : Int} {TO : Int → Int} {M0 τ0 M τ M1 τ1 M2 τ2 : Nat → Int → Int} {K x e1 e2 E base deep lv bq : Int} (h : rPost U nF TO M0 τ0 M τ M1 τ1 K x e1 E base deep lv bq) (k : rPost U nF TO M0 τ0 M1 τ1 M2 τ2 K x e2 E base deep lv bq) : rPost U nF TO M0 τ0 M τ M2 τ2 K x e2 E base deep lv bq := by
  obtain ⟨a1, a2, a3, a4, a5, a6, a7, ⟨a8, a9, a10⟩, a11⟩ := h
  obtain ⟨b1, b2, b3, b4, b5, b6, b7, ⟨b8, b9, b10⟩, b11⟩ := k
  exact ⟨b1, rTo_trans a2 b2, b3, rPr_trans a4 b4 (Int.le_refl _) (Int.le_refl _) (by omega), cPr_trans a5 b5 a8, laK_trans a6 b6 (Int.le_refl _), ySegE_cat (ySegE_keep a7 b5 b4 b9 (by omega) (by omega)) b7, ⟨by omega, by omega, by omega⟩, rW_cat a11 b5 b9 b10 b11⟩
def rLeft (τ : Nat → Int → Int) (r0 : Int → Int) (l : List Int) : Prop := τ 545 = zlst r0 0 l ∧ τ 467 111 = (l.length : Int)
theorem rLeft_add {τ τ' : Nat → Int → Int} {r0 : Int → Int} {l : List Int} {c : Int} (h : rLeft τ r0 l) (e1 : τ' 545 = zs (τ 545) (τ 467 111) c) (e2 : τ' 467 111 = τ 467 111 + 1) : rLeft τ' r0 (l ++ [c]) := by
  refine ⟨?_, ?_⟩
  · rw [e1, h.1, h.2, zlst_app]
    show _ = zs (zlst r0 0 l) (0 + (l.length : Int)) c
    rw [show (0 : Int) + (l.length : Int) = (l.length : Int) by omega]
  · rw [e2, h.2, List.length_append]
    show (l.length : Int) + 1 = ((l.length + 1 : Nat) : Int)
    omega
theorem rLeft_same {τ τ' : Nat → Int → Int} {r0 : Int → Int} {l : List Int} (h : rLeft τ r0 l) (e1 : τ' 545 = τ 545) (e2 : τ' 467 111 = τ 467 111) : rLeft τ' r0 l := ⟨e1.trans h.1, e2.trans h.2⟩
/-- one line more, without blocks -/
theorem rPost_line {U nF : Int} {TO : Int → Int} {M0 τ0 M τ M' τ' : Nat → Int → Int} {K x a E base deep lv bq kd tg fi se th ca si we cl : Int} (h : rInv M0 τ0 M τ K x a E base deep lv) (p : cP (M 449) (M 452) (M 455) (M 442 13) (deep + lv) bq) (hc : cPut M M' kd tg fi se th si (deep + lv) bq we) (hr : rPut τ τ' kd tg fi se th ca si (deep + lv) we cl) (ht : rTop τ' K x (a + 1) E base deep lv) (hp : rPr τ τ' K (deep + lv) (τ 467 109)) (h1 : τ' 467 110 = τ 467 110) (hto : rTo τ τ') (n1 : M 442 13 < 390) (k0 : 0 ≤ K)
    (hx : xv (M 441 1) (τ 467 11) (τ 473) (τ 474) (τ 475) (τ 476) kd tg fi se th ca si) (ho : (kd = 6 → ca < nF ∧ TO si = ca) ∧ (¬ kd = 6 → ca = -2 ∧ si = -2) ∧ (7 ≤ kd → tg = -2) ∧ (kd = 0 → se = -2)) (hw : we = 0 ∨ we = 1) (hd : deep + lv ≤ 130) (hf : -20 - M 441 1 ≤ fi ∧ fi ≤ 1000) (h9 : (kd = 9 ↔ (K = 0 ∧ M 442 13 + 1 = U)) ∧ (kd = 9 → deep + lv ≤ 0)) (h4 : deep + lv ≤ 4 * K + 4) : rPost U nF TO M0 τ0 M τ M' τ' K x (a + 1) E base deep lv bq := by
  obtain ⟨a1, a2, a3, a4, a5, a6, a7⟩ := h
  have rl := a3.1
  have cp := cPut_pr hc
  have n0 := a5.1
  have rel := rRel_put a3 hc hr h1 hw
  obtain ⟨b1, ⟨b2, b3, b4⟩, ⟨r1, r2, r3, r4, r5, r6, r7, r8, r9⟩, b5, b6⟩ := id hc
  obtain ⟨c0, s0, s1, s2, s3, s4, s5, s6, s7, s8, s9, s10, s11⟩ := id hr
  have dd := p.1
  have ed : M' 449 (M 442 13) = deep + lv := by rw [r7]; exact zs_pos rfl
  have eb : M' 450 (M 442 13) = bq := by rw [r8]; exact zs_pos rfl
  have el : M' 455 (deep + lv) = M 442 13 := by rw [b5]; exact zs_pos rfl
  have b6' := b6
  rw [b4] at b6'
  have cn := cP_next b6' ed eb el n0 dd.1 dd.2
  rw [← b4] at cn
  have hp2 := hp
  rw [rl] at hp2
  refine ⟨⟨cPr_trans a1 cp n0, rPr_trans a2 hp2 k0 (by omega) (by omega), rel, ht, b6, a6, by rw [b2, b4]; omega⟩, hto, cn, hp2, cp, by rw [b5]; exact laK_zs laK_refl, ?_, ⟨by omega, by rw [b2]; exact Int.le_refl _, by rw [b2]; omega⟩, rW_put hc hf h9 h4 (by omega)⟩
  have e8 : τ' 488 (120 + M 442 13) = 0 := by rw [s8, rl]; exact zs_pos rfl
  have e9 : τ' 489 (120 + M 442 13) = 0 := by rw [s9, rl]; exact zs_pos rfl
  refine ySegE_one ?_ e8 e9 (by rw [b4, show 120 + M 442 13 + 1 = 120 + (M 442 13 + 1) by omega]; exact ySegE_nil)
  unfold okR
  rw [e8, e9, s0, s1, s2, s3, s4, s5, s6, rl, zs_pos rfl, zs_pos rfl, zs_pos rfl, zs_pos rfl, zs_pos rfl, zs_pos rfl, zs_pos rfl, show 120 + M 442 13 - 120 = M 442 13 by omega, hp.1 473 rfl, hp.1 474 rfl, hp.1 475 rfl, hp.1 476 rfl, hp.2.1 11 (by decide), b2]
  exact ⟨⟨ed, fun _ => eb, hd⟩, hx, by omega, ho, Or.inr ⟨rfl, rfl⟩, fun _ => rfl⟩
def rFn (p : Nat) (M0 : Nat → Int → Int) (f g : Int) : Prop := (0 ≤ f ∧ f < 8) ∧ (0 ≤ g ∧ g < M0 469 (M0 467 11) ∧ M0 469 (M0 467 11) ≤ 8) ∧ M0 (p + 3) f = M0 473 (8 * M0 467 11 + g) ∧ M0 (p + 4) f = M0 474 (8 * M0 467 11 + g) ∧ M0 (p + 5) f = M0 475 (8 * M0 467 11 + g) ∧ M0 (p + 6) f = M0 476 (8 * M0 467 11 + g) ∧ M0 (p + 7) f = M0 477 (8 * M0 467 11 + g) ∧ M0 (p + 9) f = ygiv M0 g
/-- what a function is -/
def rFun (p : Nat) (M0 : Nat → Int → Int) (nF : Int) (TO SN : Int → Int) (g : Int) : Prop :=
  ((0 ≤ M0 475 (8 * M0 467 11 + g) ∧ M0 475 (8 * M0 467 11 + g) ≤ 60 ∧ 0 ≤ M0 476 (8 * M0 467 11 + g) ∧ M0 476 (8 * M0 467 11 + g) ≤ 60) ∧ (0 ≤ M0 473 (8 * M0 467 11 + g) ∧ M0 473 (8 * M0 467 11 + g) ≤ 3 ∧ M0 473 (8 * M0 467 11 + g) ≤ M0 474 (8 * M0 467 11 + g) ∧ M0 474 (8 * M0 467 11 + g) ≤ 8) ∧ (M0 479 (8 * M0 467 11 + g) = 0 ∨ M0 479 (8 * M0 467 11 + g) = 1) ∧ (0 ≤ M0 477 (8 * M0 467 11 + g) ∧ 0 ≤ M0 478 (8 * M0 467 11 + g) ∧ M0 477 (8 * M0 467 11 + g) + M0 478 (8 * M0 467 11 + g) ≤ 16)) ∧
  (∀ l : Int, 60 * M0 467 11 + M0 475 (8 * M0 467 11 + g) ≤ l → l < 60 * M0 467 11 + M0 475 (8 * M0 467 11 + g) + M0 476 (8 * M0 467 11 + g) → (60 * M0 467 11 ≤ l ∧ l < 60 * M0 467 11 + M0 470 (M0 467 11)) ∧ (xv (M0 474 (8 * M0 467 11 + g)) (M0 467 11) (M0 473) (M0 474) (M0 475) (M0 476) (M0 480 l) (M0 481 l) (M0 482 l) (M0 483 l) (M0 484 l) (M0 485 l) (M0 486 l) ∧ (M0 480 l = 6 → M0 485 l < nF ∧ TO (M0 486 l) = M0 485 l)) ∧ (0 ≤ M0 488 l ∧ 0 ≤ M0 489 l) ∧ l + 1 + M0 488 l + M0 489 l ≤ 60 * M0 467 11 + M0 475 (8 * M0 467 11 + g) + M0 476 (8 * M0 467 11 + g) ∧ ((M0 480 l = 7 ∨ M0 480 l = 8) ∨ (M0 488 l = 0 ∧ M0 489 l = 0)) ∧ (M0 480 l = 8 → M0 489 l = 0)) ∧
  (SN (60 * M0 467 11 + M0 475 (8 * M0 467 11 + g)) = M0 477 (8 * M0 467 11 + g) ∧ SN (60 * M0 467 11 + M0 475 (8 * M0 467 11 + g) + M0 476 (8 * M0 467 11 + g)) = M0 477 (8 * M0 467 11 + g) + M0 478 (8 * M0 467 11 + g) ∧ ySegE M0 (yok p M0 SN g (60 * M0 467 11 + M0 475 (8 * M0 467 11 + g) + M0 476 (8 * M0 467 11 + g))) 0 0 (60 * M0 467 11 + M0 475 (8 * M0 467 11 + g)) (60 * M0 467 11 + M0 475 (8 * M0 467 11 + g) + M0 476 (8 * M0 467 11 + g))) ∧
  (M0 479 (8 * M0 467 11 + g) = 1 → 0 < M0 476 (8 * M0 467 11 + g) ∧ M0 480 (60 * M0 467 11 + M0 475 (8 * M0 467 11 + g) + M0 476 (8 * M0 467 11 + g) - 1) = 9 ∧ ¬ M0 482 (60 * M0 467 11 + M0 475 (8 * M0 467 11 + g) + M0 476 (8 * M0 467 11 + g) - 1) = -2)
def kgs (r6 fc CA : Int → Int) (x j : Int) : Int := if r6 (fc x + j) = 0 then 0 else CA (fc x + j)
/-- what the tree is, on either side -/
def rTr (p : Nat) (M0 τ0 : Nat → Int → Int) (TO cf mf fc dp r6 CA : Int → Int) (ND : Int → Prop) (lf : Int → List Int) (m : Int) : Prop := ∀ x : Int, ND x →
  (0 ≤ x ∧ x < m ∧ m ≤ 320) ∧ rFn p M0 (cf x) (mf x) ∧ (0 ≤ dp x ∧ dp x ≤ 31 ∧ (x = 0 ↔ dp x = 0)) ∧ (0 ≤ fc x ∧ fc x + M0 478 (8 * M0 467 11 + mf x) ≤ m) ∧ (τ0 523 x = mf x ∧ τ0 526 x = fc x) ∧
  (0 ≤ CA x ∧ (¬ x = 0 → CA x = M0 476 (8 * M0 467 11 + mf x) - M0 479 (8 * M0 467 11 + mf x) + M0 474 (8 * M0 467 11 + mf x) + nsum (kgs r6 fc CA x) (M0 478 (8 * M0 467 11 + mf x)).toNat)) ∧
  lf x = tkids r6 lf (fun e => [e]) (fc x) (M0 478 (8 * M0 467 11 + mf x)).toNat ∧
  ∀ j : Int, 0 ≤ j → j < M0 478 (8 * M0 467 11 + mf x) → τ0 531 (fc x + j) = r6 (fc x + j) ∧ (r6 (fc x + j) = 0 ∨ (r6 (fc x + j) = 1 ∧ ND (fc x + j) ∧ ¬ fc x + j = 0 ∧ mf (fc x + j) = TO (M0 477 (8 * M0 467 11 + mf x) + j) ∧ dp (fc x + j) = dp x + 1))
theorem nsum_suc (f : Int → Int) {i : Int} (h : 0 ≤ i) : nsum f (i + 1).toNat = nsum f i.toNat + f i := by
  rw [show (i + 1).toNat = i.toNat + 1 by omega]
  show nsum f i.toNat + f (i.toNat : Int) = _
  rw [show (i.toNat : Int) = i by omega]
theorem nsum_le {f : Int → Int} : ∀ (k n : Nat), (∀ j : Int, 0 ≤ j → j < n + k → 0 ≤ f j) → nsum f n ≤ nsum f (n + k) := by
  intro k
  induction k with
  | zero => intro n _; exact Int.le_refl _
  | succ k ih =>
    intro n h
    have a := ih n (fun j a b => h j a (by omega))
    have b := h ((n + k : Nat) : Int) (by omega) (by omega)
    show nsum f n ≤ nsum f (n + k) + f ((n + k : Nat) : Int)
    omega
