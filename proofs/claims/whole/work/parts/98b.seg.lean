/-! The result's lines: a part of a function, line by line, on both sides -/
def rProg (M0 τ0 : Nat → Int → Int) : Prop := (∀ c : Nat, 473 ≤ c → c ≤ 479 → τ0 c = M0 c) ∧ (∀ (c : Nat) (j : Int), 480 ≤ c → c ≤ 491 → j < 120 → τ0 c j = M0 c j) ∧ τ0 467 11 = M0 467 11
theorem yok_SN {p : Nat} {M : Nat → Int → Int} {SN : Int → Int} {g E lv br a : Int} (h : yok p M SN g E lv br a) : SN a ≤ SN (a + 1) := by
  obtain ⟨_, _, _, h4, h5, _⟩ := h
  by_cases e : M 480 a = 6
  · have := (h4 e).2; omega
  · have := (h5 e).2.2; omega
theorem ySeg_SN {p : Nat} {M : Nat → Int → Int} {SN : Int → Int} {g E : Int} : ∀ (n : Nat) (lv br a b : Int), ySeg M (yok p M SN g E) n lv br a b → SN a ≤ SN b := by
  intro n
  induction n with
  | zero => intro lv br a b h; have e : a = b := h; rw [e]; exact Int.le_refl _
  | succ n ih =>
    intro lv br a b h
    rcases h with h | ⟨h1, h2, h3, h4, h5⟩
    · rw [h]; exact Int.le_refl _
    · have x1 := yok_SN h2
      have x2 := ih _ _ _ _ h3
      have x3 := ih _ _ _ _ h4
      have x4 := ih _ _ _ _ h5
      omega
theorem opx_in {a b c v : Int} (ha : -100 ≤ a ∧ a ≤ 1000) (hb : -100 ≤ b ∧ b ≤ 1000) (hc : -100 ≤ c ∧ c ≤ 1000) : -100 ≤ opx a b c v ∧ opx a b c v ≤ 1000 := by
  unfold opx; split
  · exact ha
  · split
    · exact hb
    · exact hc
/-- one line more: what of it goes for both sides -/
theorem rLine_core {nF : Int} {TO : Int → Int} {M τ M' τ' : Nat → Int → Int} {d bq kd tg fi se th ca si we cl : Int} (a3 : rRel M τ) (a5 : cL (M 449) (M 450) (M 452) (M 453) (M 454) (M 455) (M 442 13)) (p : cP (M 449) (M 452) (M 455) (M 442 13) d bq) (hc : cPut M M' kd tg fi se th si d bq we) (hr : rPut τ τ' kd tg fi se th ca si d we cl) (h1 : τ' 467 110 = τ 467 110) (hp : (∀ c : Nat, rCell c = false → τ' c = τ c) ∧ τ' 467 11 = τ 467 11) (n1 : M 442 13 < 390)
    (hx : xv (M 441 1) (τ 467 11) (τ 473) (τ 474) (τ 475) (τ 476) kd tg fi se th ca si) (ho : (kd = 6 → ca < nF ∧ TO si = ca) ∧ (¬ kd = 6 → ca = -2) ∧ (7 ≤ kd → tg = -2) ∧ (kd = 0 → se = -2)) : rRel M' τ' ∧ cP (M' 449) (M' 452) (M' 455) (M' 442 13) d bq ∧ ySegE τ' (okR M' τ' nF TO) d bq (120 + M 442 13) (120 + M' 442 13) ∧ laK (M 455) (M' 455) d := by
  have rl := a3.1
  have n0 := a5.1
  have rel := rRel_put a3 hc hr h1
  obtain ⟨b1, ⟨b2, b3, b4⟩, ⟨r1, r2, r3, r4, r5, r6, r7, r8, r9⟩, b5, b6⟩ := id hc
  obtain ⟨c0, s0, s1, s2, s3, s4, s5, s6, s7, s8, s9, s10, s11⟩ := id hr
  have dd := p.1
  have ed : M' 449 (M 442 13) = d := by rw [r7]; exact zs_pos rfl
  have eb : M' 450 (M 442 13) = bq := by rw [r8]; exact zs_pos rfl
  have el : M' 455 d = M 442 13 := by rw [b5]; exact zs_pos rfl
  have b6' := b6
  rw [b4] at b6'
  have cn := cP_next b6' ed eb el n0 dd.1 dd.2
  rw [← b4] at cn
  refine ⟨rel, cn, ?_, by rw [b5]; exact laK_zs laK_refl⟩
  have e8 : τ' 488 (120 + M 442 13) = 0 := by rw [s8, rl]; exact zs_pos rfl
  have e9 : τ' 489 (120 + M 442 13) = 0 := by rw [s9, rl]; exact zs_pos rfl
  refine ySegE_one ?_ e8 e9 (by rw [b4, show 120 + M 442 13 + 1 = 120 + (M 442 13 + 1) by omega]; exact ySegE_nil)
  unfold okR
  rw [e8, e9, s0, s1, s2, s3, s4, s5, s6, rl, zs_pos rfl, zs_pos rfl, zs_pos rfl, zs_pos rfl, zs_pos rfl, zs_pos rfl, zs_pos rfl, show 120 + M 442 13 - 120 = M 442 13 by omega, hp.1 473 rfl, hp.1 474 rfl, hp.1 475 rfl, hp.1 476 rfl, hp.2, b2]
  exact ⟨⟨ed, fun _ => eb⟩, hx, by omega, ho, Or.inr ⟨rfl, rfl⟩, fun _ => rfl⟩
/-- a row of block lengths changed ahead of a part -/
theorem ySegE_upd {M τ τ' : Nat → Int → Int} {nF : Int} {TO : Int → Int} {lv br a b r : Int} (h : ySegE τ (okR M τ nF TO) lv br a b) (hr : r < a) (e : τ' 480 = τ 480 ∧ τ' 481 = τ 481 ∧ τ' 482 = τ 482 ∧ τ' 483 = τ 483 ∧ τ' 484 = τ 484 ∧ τ' 485 = τ 485 ∧ τ' 486 = τ 486) (hp : (∀ c : Nat, rCell c = false → τ' c = τ c) ∧ τ' 467 11 = τ 467 11) (h8 : ∀ j : Int, ¬ j = r → τ' 488 j = τ 488 j ∧ τ' 489 j = τ 489 j) : ySegE τ' (okR M τ' nF TO) lv br a b := by
  obtain ⟨e0, e1, e2, e3, e4, e5, e6⟩ := e
  refine ySegE_rng h (fun j j0 j1 => h8 j (by omega)) (fun l b' j j0 j1 q => ?_) okR_pos
  obtain ⟨x8, x9⟩ := h8 j (by omega)
  unfold okR at q ⊢
  rw [e0, e1, e2, e3, e4, e5, e6, x8, x9, hp.1 473 rfl, hp.1 474 rfl, hp.1 475 rfl, hp.1 476 rfl, hp.2]
  exact q
/-- a line with its blocks -/
theorem rPost_block {nF : Int} {TO : Int → Int} {M0 τ0 M τ M1 τ1 M2 τ3 : Nat → Int → Int} {K x a a2 E base deep lv bq b2 kd tg fi se th ca si we cl tn el : Int} (h : rInv M0 τ0 M τ K x a E base deep lv) (p : cP (M 449) (M 452) (M 455) (M 442 13) (deep + lv) bq) (hc : cPut M M1 kd tg fi se th si (deep + lv) bq we) (hr : rPut τ τ1 kd tg fi se th ca si (deep + lv) we cl)
    (hcp : cPr M1 M2 (M 442 13 + 1)) (hla : laK (M1 455) (M2 455) (deep + lv + 1)) (hi : rInv M0 τ0 M2 τ3 K x a2 E base deep lv) (hp2 : cP (M2 449) (M2 452) (M2 455) (M2 442 13) (deep + lv + 1) b2) (hto : rTo τ τ3) (hpr : rPr τ τ3 K (deep + lv) (120 + M 442 13))
    (ex : (∀ c : Nat, rCell c = false → τ3 c = τ1 c) ∧ τ3 467 11 = τ1 467 11) (ey : (∀ c : Nat, rCell c = false → τ1 c = τ c) ∧ τ1 467 11 = τ 467 11) (er : ∀ c : Nat, 480 ≤ c → c ≤ 487 → τ3 c (120 + M 442 13) = τ1 c (120 + M 442 13)) (e8 : τ3 488 (120 + M 442 13) = tn) (e9 : τ3 489 (120 + M 442 13) = el) (tn0 : 0 ≤ tn) (el0 : 0 ≤ el) (nn : M2 442 13 = M 442 13 + 1 + tn + el) (n3 : M2 442 13 < 390) (k7 : kd = 7 ∨ kd = 8) (k8 : kd = 8 → el = 0)
    (g1 : ySegE τ3 (okR M2 τ3 nF TO) (deep + lv + 1) 0 (120 + M 442 13 + 1) (120 + M 442 13 + 1 + tn)) (g2 : ySegE τ3 (okR M2 τ3 nF TO) (deep + lv + 1) 1 (120 + M 442 13 + 1 + tn) (120 + M 442 13 + 1 + tn + el)) (vv : M1 441 1 ≤ M2 441 1 ∧ M2 441 1 - M1 441 1 ≤ M2 442 13 - (M 442 13 + 1))
    (hx : xv (M 441 1) (τ 467 11) (τ 473) (τ 474) (τ 475) (τ 476) kd tg fi se th ca si) (ho : (kd = 6 → ca < nF ∧ TO si = ca) ∧ (¬ kd = 6 → ca = -2) ∧ (7 ≤ kd → tg = -2) ∧ (kd = 0 → se = -2)) : rPost nF TO M0 τ0 M τ M2 τ3 K x a2 E base deep lv bq := by
  obtain ⟨a1, a2', a3, a4, a5, a6, a7⟩ := h
  have rl := a3.1
  have n0 := a5.1
  have cp := cPut_pr hc
  obtain ⟨b1, ⟨b2', b3, b4⟩, ⟨r1, r2, r3, r4, r5, r6, r7, r8, r9⟩, b5, b6⟩ := id hc
  obtain ⟨c0, s0, s1, s2, s3, s4, s5, s6, s7, s8, s9, s10, s11⟩ := id hr
  have ed : M2 449 (M 442 13) = deep + lv := by rw [hcp.2.2.2 449 _ (by decide) (by decide) (by omega), r7]; exact zs_pos rfl
  have eb : M2 450 (M 442 13) = bq := by rw [hcp.2.2.2 450 _ (by decide) (by decide) (by omega), r8]; exact zs_pos rfl
  have el' : M2 455 (deep + lv) = M 442 13 := by rw [hla _ (by omega), b5]; exact zs_pos rfl
  refine ⟨hi, hto, cP_back hi.2.2.2.2.1 hp2 el' eb p.1.1 p.1.2, hpr, cPr_trans cp hcp (by omega), laK_trans (by rw [b5]; exact laK_zs laK_refl) hla (by omega), ?_, by omega, by rw [← b2']; exact vv.1, by rw [b2'] at vv; omega⟩
  have t0 := (er 480 (by decide) (by decide)).trans (by rw [s0, rl]; exact zs_pos rfl)
  have t1 := (er 481 (by decide) (by decide)).trans (by rw [s1, rl]; exact zs_pos rfl)
  have t2 := (er 482 (by decide) (by decide)).trans (by rw [s2, rl]; exact zs_pos rfl)
  have t3 := (er 483 (by decide) (by decide)).trans (by rw [s3, rl]; exact zs_pos rfl)
  have t4 := (er 484 (by decide) (by decide)).trans (by rw [s4, rl]; exact zs_pos rfl)
  have t5 := (er 485 (by decide) (by decide)).trans (by rw [s5, rl]; exact zs_pos rfl)
  have t6 := (er 486 (by decide) (by decide)).trans (by rw [s6, rl]; exact zs_pos rfl)
  refine ySegE_cons (by omega) ?_ (by rw [e8]; exact g1) (by rw [e8, e9]; exact g2) (by rw [e8, e9, nn, show 120 + (M 442 13 + 1 + tn + el) = 120 + M 442 13 + 1 + tn + el by omega]; exact ySegE_nil)
  unfold okR
  rw [e8, e9, t0, t1, t2, t3, t4, t5, t6, show 120 + M 442 13 - 120 = M 442 13 by omega, ex.1 473 rfl, ex.1 474 rfl, ex.1 475 rfl, ex.1 476 rfl, ex.2, ey.1 473 rfl, ey.1 474 rfl, ey.1 475 rfl, ey.1 476 rfl, ey.2]
  refine ⟨⟨ed, fun _ => eb⟩, xv_mono hx (by rw [← b2']; exact vv.1), by omega, ho, Or.inl k7, k8⟩
def rNode_33 (d N : Nat) (M0 τ0 : Nat → Int → Int) (nF m : Int) (TO cf mf fc dp r6 CA : Int → Int) (ND : Int → Prop) (lf : Int → List Int) : Prop := ∀ (x K base deep b0 C : Int) (M τ : Nat → Int → Int) (Lb : List Int) (r0 : Int → Int), ND x → ¬ x = 0 → 32 - dp x ≤ N → K = dp x → (0 ≤ deep ∧ deep ≤ 4 * K) → rInv M0 τ0 M τ K x (60 * M0 467 11 + M0 475 (8 * M0 467 11 + mf x)) (60 * M0 467 11 + M0 475 (8 * M0 467 11 + mf x) + M0 476 (8 * M0 467 11 + mf x)) base deep 0 → cP (M 449) (M 452) (M 455) (M 442 13) deep b0 → base + (M0 474 (8 * M0 467 11 + mf x)) ≤ M 441 1 → M 442 13 = C + (60 * M0 467 11 + M0 475 (8 * M0 467 11 + mf x)) → C + (60 * M0 467 11 + M0 475 (8 * M0 467 11 + mf x) + M0 476 (8 * M0 467 11 + mf x)) + nsum (kgs r6 fc CA x) ((M0 478 (8 * M0 467 11 + mf x))).toNat ≤ 319 → rLeft τ r0 Lb → (Lb.length : Int) + ((lf x).length : Int) ≤ 400 →
    ∀ (P : Nat → Nat → Nat) (Q : zQ), (∀ M' τ' : Nat → Int → Int, rPost nF TO M0 τ0 M τ M' τ' K x ((60 * M0 467 11 + M0 475 (8 * M0 467 11 + mf x) + M0 476 (8 * M0 467 11 + mf x)) - (M0 479 (8 * M0 467 11 + mf x))) (60 * M0 467 11 + M0 475 (8 * M0 467 11 + mf x) + M0 476 (8 * M0 467 11 + mf x)) base deep 0 b0 → M' 442 13 = C + ((60 * M0 467 11 + M0 475 (8 * M0 467 11 + mf x) + M0 476 (8 * M0 467 11 + mf x)) - (M0 479 (8 * M0 467 11 + mf x))) + nsum (kgs r6 fc CA x) ((M0 478 (8 * M0 467 11 + mf x))).toNat → rLeft τ' r0 (Lb ++ lf x) → Q (zS (zupN P 441 3 33) M') none) → WC (d + 4) 256 [vR 441, vR 116, vR (zcall x), vI base, vI deep, vI b0] (zS (zupN P 441 3 33) M) Q
theorem rSeg_33 {d : Nat} {P : Nat → Nat → Nat} {Q : zQ} {M0 τ0 : Nat → Int → Int} {nF m : Int} {TO cf mf fc dp r6 CA : Int → Int} {ND : Int → Prop} {lf : Int → List Int} (hb : 0 ≤ M0 467 11 ∧ M0 467 11 ≤ 1) (hn1 : M0 470 (M0 467 11) ≤ 60) (hcc : cCode M0 (60 * M0 467 11) (M0 470 (M0 467 11)) (M0 49) (M0 50) (M0 51) (M0 52) (M0 53) (M0 54) (M0 58) (M0 59)) (hd4 : ∀ l : Int, 0 ≤ l → l < M0 470 (M0 467 11) → 0 ≤ M0 55 l ∧ M0 55 l ≤ 4) (hpg : rProg M0 τ0) (h1 : ∀ i : Int, 0 ≤ i ∧ i < 320 → M0 (zcall i) 1 = cf i) (h3 : ∀ i : Int, 0 ≤ i ∧ i < 320 → M0 (zcall i) 3 = dp i) (h5 : ∀ i : Int, 0 ≤ i ∧ i < 320 → M0 (zcall i) 5 = fc i) (h6 : ∀ i : Int, 0 ≤ i ∧ i < 320 → M0 (zcall i) 6 = r6 i) (hfun : ∀ g : Int, 0 ≤ g → g < M0 469 (M0 467 11) → ∃ SN : Int → Int, rFun 33 M0 nF TO SN g) (htr : rTr 33 M0 τ0 TO cf mf fc dp r6 CA ND lf m) {N : Nat} (hN : rNode_33 d N M0 τ0 nF m TO cf mf fc dp r6 CA ND lf) {x K base deep b0 C : Int} {Lb : List Int} {r0 SN : Int → Int} (hx : ND x) (hdN : 32 - dp x ≤ N + 1) (hK : K = dp x) (hdp : 0 ≤ deep ∧ deep ≤ 4 * K) (hfu : rFun 33 M0 nF TO SN (mf x)) (hC : C + (60 * M0 467 11 + M0 475 (8 * M0 467 11 + mf x) + M0 476 (8 * M0 467 11 + mf x)) + nsum (kgs r6 fc CA x) ((M0 478 (8 * M0 467 11 + mf x))).toNat ≤ 319) (hLb : (Lb.length : Int) + ((lf x).length : Int) ≤ 400) :
    ∀ (n : Nat) (lv br a b' : Int), ySeg M0 (yok 33 M0 SN (mf x) (60 * M0 467 11 + M0 475 (8 * M0 467 11 + mf x) + M0 476 (8 * M0 467 11 + mf x))) n lv br a b' → ∀ (bq : Int) (M τ : Nat → Int → Int), (lv = 0 → bq = b0) → (¬ lv = 0 → bq = br) → 0 ≤ lv → (60 * M0 467 11 + M0 475 (8 * M0 467 11 + mf x)) ≤ a → b' ≤ (60 * M0 467 11 + M0 475 (8 * M0 467 11 + mf x) + M0 476 (8 * M0 467 11 + mf x)) → (¬ x = 0 → b' ≤ (60 * M0 467 11 + M0 475 (8 * M0 467 11 + mf x) + M0 476 (8 * M0 467 11 + mf x)) - (M0 479 (8 * M0 467 11 + mf x))) → (M0 477 (8 * M0 467 11 + mf x)) ≤ SN a → SN b' ≤ (M0 477 (8 * M0 467 11 + mf x)) + (M0 478 (8 * M0 467 11 + mf x)) → rInv M0 τ0 M τ K x a (60 * M0 467 11 + M0 475 (8 * M0 467 11 + mf x) + M0 476 (8 * M0 467 11 + mf x)) base deep lv → cP (M 449) (M 452) (M 455) (M 442 13) (deep + lv) bq → (0 < lv → τ 544 (deep + lv - 1) = b') → base + (M0 474 (8 * M0 467 11 + mf x)) ≤ M 441 1 → M 442 13 = C + a + nsum (kgs r6 fc CA x) (SN a - (M0 477 (8 * M0 467 11 + mf x))).toNat → rLeft τ r0 (Lb ++ tkids r6 lf (fun e => [e]) (fc x) (SN a - (M0 477 (8 * M0 467 11 + mf x))).toNat) →
      (∀ M' τ' : Nat → Int → Int, rPost nF TO M0 τ0 M τ M' τ' K x b' (60 * M0 467 11 + M0 475 (8 * M0 467 11 + mf x) + M0 476 (8 * M0 467 11 + mf x)) base deep lv bq → M' 442 13 = C + b' + nsum (kgs r6 fc CA x) (SN b' - (M0 477 (8 * M0 467 11 + mf x))).toNat → rLeft τ' r0 (Lb ++ tkids r6 lf (fun e => [e]) (fc x) (SN b' - (M0 477 (8 * M0 467 11 + mf x))).toNat) → ∀ (x9 x10 x11 : Option zV), WP (d + 5) 256 0 0 37 [some (vR 441), some (vR 116), some (vR (zcall x)), some (vI base), some (vI deep), some (vI b0), some (vR 48), some (vI (cf x)), some (vI (b' - 60 * M0 467 11)), x9, x10, x11] [] (zS (zupN P 441 3 33) M') Q) → ∀ (x9 x10 x11 : Option zV), WP (d + 5) 256 0 0 37 [some (vR 441), some (vR 116), some (vR (zcall x)), some (vI base), some (vI deep), some (vI b0), some (vR 48), some (vI (cf x)), some (vI (a - 60 * M0 467 11)), x9, x10, x11] [] (zS (zupN P 441 3 33) M) Q := by
  intro n
  induction n with
  | zero =>
    intro lv br a b' h bq M τ _ _ _ _ _ _ _ _ i0 cp _ _ cnt lft kt x9 x10 x11
    have e : a = b' := h
    subst e
    exact kt M τ (rPost_refl i0 cp) cnt lft x9 x10 x11
  | succ n ih =>
    intro lv br a b' h bq M τ hq0 hq1 lv0 aF bE bG sa sb i0 cp oe bv cnt lft kt x9 x10 x11
    rcases h with h | ⟨q1, q2, s3, s4, s5⟩
    · subst h
      exact kt M τ (rPost_refl i0 cp) cnt lft x9 x10 x11
    have sn1 := yok_SN q2
    have sn3 := ySeg_SN n _ _ _ _ s3
    have sn4 := ySeg_SN n _ _ _ _ s4
    have sn5 := ySeg_SN n _ _ _ _ s5
    have l3 := ySegE_le ⟨n, s3⟩
    have l4 := ySegE_le ⟨n, s4⟩
    have l5 := ySegE_le ⟨n, s5⟩
    obtain ⟨⟨y1, y2, y3⟩, ⟨y4, y5, y6, y7⟩, y8, y9, y10, y11⟩ := id q2
    obtain ⟨⟨f1, f2, f3, f4⟩, fl, ⟨fs1, fs2, fs3⟩, fgv⟩ := id hfu
    obtain ⟨⟨g1, g2⟩, ⟨g3, g3b⟩, g4, g5, g6, g7⟩ := fl a aF (by omega)
    obtain ⟨⟨t1, t2, t3⟩, ⟨u1, u2, u3, u4, u5, u6, u7, u8⟩, ⟨v1, v2, v3⟩, ⟨w1, w2⟩, ⟨z1, z2⟩, ⟨ca1, ca2⟩, lfx, kids⟩ := htr x hx
    obtain ⟨j1, j2, j3, j4, j5, j6, j7⟩ := id i0
    have fr := j1.1
    have cc := hcc (a - 60 * M0 467 11) (by omega) (by omega)
    rw [show a - 60 * M0 467 11 + 60 * M0 467 11 = a by omega] at cc
    obtain ⟨c1, c2, c3, c4, c5, c6, _, _, c9⟩ := cc
    have d4 := hd4 (a - 60 * M0 467 11) (by omega) (by omega)
    have y1 : M0 55 (a - 60 * M0 467 11) = lv := y1
    have y3 : 0 < lv → M0 56 (a - 60 * M0 467 11) = br := y3
    have y4 : M0 57 (a - 60 * M0 467 11) = M0 491 a := y4
    have u3 : M0 36 (cf x) = M0 473 (8 * M0 467 11 + mf x) := u3
    have u4 : M0 37 (cf x) = M0 474 (8 * M0 467 11 + mf x) := u4
    have u5 : M0 38 (cf x) = M0 475 (8 * M0 467 11 + mf x) := u5
    have u6 : M0 39 (cf x) = M0 476 (8 * M0 467 11 + mf x) := u6
    have u7 : M0 40 (cf x) = M0 477 (8 * M0 467 11 + mf x) := u7
    rw [y1] at d4
    have tr : ∀ c : Nat, 480 ≤ c → c ≤ 491 → τ c a = M0 c a := fun c a1 a2 => (j2.2.2.1 c a a1 a2 (by omega)).trans (hpg.2.1 c a a1 a2 (by omega))
    have tq : ∀ c : Nat, 473 ≤ c → c ≤ 479 → τ c = M0 c := fun c a1 a2 => (j2.1 c (by unfold rCell; simp; omega)).trans (hpg.1 c a1 a2)
    have tb : τ 467 11 = M0 467 11 := (j2.2.1 11 (by decide)).trans hpg.2.2
    have t523 : τ 523 x = mf x := by rw [j2.1 523 rfl]; exact z1
    have t526 : τ 526 x = fc x := by rw [j2.1 526 rfl]; exact z2
    have e480 := tr 480 (by decide) (by decide)
    have e481 := tr 481 (by decide) (by decide)
    have e482 := tr 482 (by decide) (by decide)
    have e483 := tr 483 (by decide) (by decide)
    have e484 := tr 484 (by decide) (by decide)
    have e485 := tr 485 (by decide) (by decide)
    have e486 := tr 486 (by decide) (by decide)
    have e487 := (tr 487 (by decide) (by decide)).trans y2
    have e488 := tr 488 (by decide) (by decide)
    have e491 := tr 491 (by decide) (by decide)
    have hr3 : ∀ i : Int, 0 ≤ i ∧ i < 320 → M (zcall i) 3 = dp i := fun i hi => by rw [fr _ (by have := zcall_in hi; omega)]; exact h3 i hi
    have hr5 : ∀ i : Int, 0 ≤ i ∧ i < 320 → M (zcall i) 5 = fc i := fun i hi => by rw [fr _ (by have := zcall_in hi; omega)]; exact h5 i hi
    have hr6 : ∀ i : Int, 0 ≤ i ∧ i < 320 → M (zcall i) 6 = r6 i := fun i hi => by rw [fr _ (by have := zcall_in hi; omega)]; exact h6 i hi
    have hr1 : ∀ i : Int, 0 ≤ i ∧ i < 320 → M (zcall i) 1 = cf i := fun i hi => by rw [fr _ (by have := zcall_in hi; omega)]; exact h1 i hi
    have eB : (if lv = 0 then b0 else M 56 (a - 60 * M0 467 11)) = bq := by
      by_cases z : lv = 0
      · rw [if_pos z]; exact (hq0 z).symm
      · rw [if_neg z, fr 56 (by decide), y3 (by omega)]; exact (hq1 z).symm
    have ek : a - 60 * M0 467 11 + 1 = a + 1 - 60 * M0 467 11 := by omega
    have nn := j5.1
    have gsm : ∀ i j : Int, 0 ≤ i → i ≤ j → j ≤ (M0 478 (8 * M0 467 11 + mf x)) → nsum (kgs r6 fc CA x) i.toNat ≤ nsum (kgs r6 fc CA x) j.toNat := fun i j i0 ij jn => by
      have z := nsum_le (f := kgs r6 fc CA x) (j.toNat - i.toNat) i.toNat (fun q q0 q1 => by
        unfold kgs
        split
        · exact Int.le_refl _
        · next zz =>
          rcases (kids q q0 (by omega)).2 with y | y
          · exact absurd y zz
          · exact (htr _ y.2.1).2.2.2.2.2.1.1)
      rw [show i.toNat + (j.toNat - i.toNat) = j.toNat by omega] at z
      exact z
    have nbd : M 442 13 < 320 := by
      have z := gsm (SN a - (M0 477 (8 * M0 467 11 + mf x))) (M0 478 (8 * M0 467 11 + mf x)) (by omega) (by omega) (Int.le_refl _)
      omega
    have nb : lv = 0 ∨ ¬ a = τ 544 (deep + lv - 1) := by
      by_cases z : lv = 0
      · exact Or.inl z
      · right; rw [oe (by omega)]; omega
    have dsm : 0 ≤ deep ∧ 0 ≤ lv ∧ deep + lv ≤ 300 := by omega
    have opb : (-2 ≤ τ 481 a ∧ τ 481 a ≤ 1000) ∧ (-100 ≤ τ 482 a ∧ τ 482 a ≤ 1000) ∧ (-100 ≤ τ 483 a ∧ τ 483 a ≤ 1000) ∧ -100 ≤ τ 484 a ∧ τ 484 a ≤ 1000 := by rw [e481, e482, e483, e484]; omega
    have llb : 120 ≤ τ 467 109 ∧ τ 467 109 < 520 := by rw [j3.1]; omega
    have xvl : xv (M 441 1) (τ 467 11) (τ 473) (τ 474) (τ 475) (τ 476) (M0 480 a) (tgx (M0 481 a) base) (shf (M0 482 a) base) (shf (M0 483 a) base) (shf (M0 484 a) base) (M0 485 a) (M0 486 a) := by
      rw [tb, tq 473 (by decide) (by decide), tq 474 (by decide) (by decide), tq 475 (by decide) (by decide), tq 476 (by decide) (by decide)]
      exact xv_shf g3 j6 bv (by omega)
    have okl : (M0 480 a = 6 → M0 485 a < nF ∧ TO (M0 486 a) = M0 485 a) ∧ (¬ M0 480 a = 6 → M0 485 a = -2) ∧ (7 ≤ M0 480 a → tgx (M0 481 a) base = -2) ∧ (M0 480 a = 0 → shf (M0 483 a) base = -2) := by
      refine ⟨g3b, fun z => (y10 z).1, fun z => ?_, fun z => ?_⟩
      · rw [y11.2.1 z]; rfl
      · rw [c9 z]; rfl
    have eH : ∀ c : Nat, ¬ (441 ≤ c ∧ c ≤ 455) → M c = M0 c := fr
    have m1 := congrFun (fr 49 (by decide)) (a - 60 * M0 467 11)
    have m2 := congrFun (fr 50 (by decide)) (a - 60 * M0 467 11)
    have m3 := congrFun (fr 51 (by decide)) (a - 60 * M0 467 11)
    have m4 := congrFun (fr 52 (by decide)) (a - 60 * M0 467 11)
    have m5 := congrFun (fr 53 (by decide)) (a - 60 * M0 467 11)
    have m6 := congrFun (fr 54 (by decide)) (a - 60 * M0 467 11)
    have m7 := congrFun (fr 55 (by decide)) (a - 60 * M0 467 11)
    have m9 := congrFun (fr 57 (by decide)) (a - 60 * M0 467 11)
    rw [c1] at m1
    rw [c2] at m2
    rw [c3] at m3
    rw [c4] at m4
    rw [c5] at m5
    rw [c6] at m6
    rw [y1] at m7
    rw [y4] at m9
    have n5 := congrFun (fr 38 (by decide)) (cf x)
    have n6 := congrFun (fr 39 (by decide)) (cf x)
    have n7 := congrFun (fr 40 (by decide)) (cf x)
    rw [u5] at n5
    rw [u6] at n6
    rw [u7] at n7
    have pl6 : M0 480 a = 6 → 0 ≤ SN a - (M0 477 (8 * M0 467 11 + mf x)) ∧ SN a - (M0 477 (8 * M0 467 11 + mf x)) < (M0 478 (8 * M0 467 11 + mf x)) ∧ fc x + M0 486 a - (M0 477 (8 * M0 467 11 + mf x)) = fc x + (SN a - (M0 477 (8 * M0 467 11 + mf x))) := fun z => by have y := y9 z; omega
    have H := @C_ln_33 d P M Q x base deep b0 (cf x) (a - 60 * M0 467 11) dp hr3 fc hr5 r6 hr6 x9 x10 x11
    rw [m1, m2, m3, m4, m5, m6, m7, m9, n5, n6, n7, eB, ek] at H
    have LN : ∀ kt2 : (∀ (M' : Nat → Int → Int), cPut M M' (M0 480 a) (tgx (M0 481 a) base) (shf (M0 482 a) base) (shf (M0 483 a) base) (shf (M0 484 a) base) (M0 486 a) (deep + lv) bq (M0 491 a) → ∀ (x9 x10 x11 : Option zV), WP (d + 5) 256 0 0 37 [some (vR 441), some (vR 116), some (vR (zcall x)), some (vI base), some (vI deep), some (vI b0), some (vR 48), some (vI (cf x)), some (vI (a + 1 - 60 * M0 467 11)), x9, x10, x11] [] (zS (zupN P 441 3 33) M') Q), ¬ (M0 480 a = 6 ∧ ¬ r6 (fc x + (SN a - (M0 477 (8 * M0 467 11 + mf x)))) = 0) → WP (d + 5) 256 0 0 37 [some (vR 441), some (vR 116), some (vR (zcall x)), some (vI base), some (vI deep), some (vI b0), some (vR 48), some (vI (cf x)), some (vI (a - 60 * M0 467 11)), x9, x10, x11] [] (zS (zupN P 441 3 33) M) Q := fun kt2 nk =>
      H (by omega) u1 (by omega) (by omega) (by omega) ⟨⟨w1, by omega⟩, by by_cases z : M0 480 a = 6; (have y := y9 z; omega); (have y := y10 z; omega), by omega⟩ (by omega) (by omega) (by omega) (by omega) (by omega) (by omega) (by omega)
        (fun z => by
          have y := pl6 z
          rw [y.2.2]
          refine ⟨by omega, ?_⟩
          by_cases zz : r6 (fc x + (SN a - (M0 477 (8 * M0 467 11 + mf x)))) = 0
          · exact zz
          · exact absurd ⟨z, zz⟩ nk)
        (fun z => by
          have y := y8 z
          by_cases zz : x = 0
          · exact v3.mp zz
          · have := bG zz; omega) nn nbd j5 cp kt2
    by_cases k6 : M0 480 a = 6 ∧ ¬ r6 (fc x + (SN a - (M0 477 (8 * M0 467 11 + mf x)))) = 0
    · sorry
    · by_cases k7 : M0 480 a = 7 ∨ M0 480 a = 8
      · sorry
      · obtain ⟨z8, z9⟩ : M0 488 a = 0 ∧ M0 489 a = 0 := by
          rcases g6 with z | z
          · exact absurd z k7
          · exact z
        rw [z8, z9, show a + 1 + (0 : Int) + 0 = a + 1 by omega] at s5
        have K9 : τ 480 a = 9 → K = 0 := fun z => by
          rw [e480] at z
          have y := y8 z
          by_cases zz : x = 0
          · rw [hK]; exact v3.mp zz
          · have := bG zz; omega
        refine LN (fun M' hp x9 x10 x11 => ?_) k6
        by_cases c6' : M0 480 a = 6
        · -- a call that is left
          have y := pl6 c6'
          have r0' : r6 (fc x + (SN a - (M0 477 (8 * M0 467 11 + mf x)))) = 0 := Classical.byContradiction (fun z => k6 ⟨c6', z⟩)
          have cl : τ 526 x + τ 486 a - τ 477 (8 * τ 467 11 + τ 523 x) = fc x + (SN a - (M0 477 (8 * M0 467 11 + mf x))) := by rw [t526, e486, tq 477 (by decide) (by decide), tb, t523]; omega
          have kd := (kids (SN a - (M0 477 (8 * M0 467 11 + mf x))) y.1 y.2.1).1
          have len : ((Lb ++ tkids r6 lf (fun e => [e]) (fc x) (SN a - (M0 477 (8 * M0 467 11 + mf x))).toNat).length : Int) < 420 := by
            have z := tkids_le (K := r6) (R := lf) (N := fun e => [e]) (a := fc x) (k := fc x + (SN a - (M0 477 (8 * M0 467 11 + mf x)))) (n := (M0 478 (8 * M0 467 11 + mf x))) (by omega) (by omega)
            rw [show fc x + (SN a - (M0 477 (8 * M0 467 11 + mf x))) - fc x = SN a - (M0 477 (8 * M0 467 11 + mf x)) by omega, ← lfx] at z
            rw [List.length_append]
            omega
          obtain ⟨τ', to, put, top, pr, p1, le1, le2, op⟩ := r_lf j4 (by omega) (by omega) dsm nb (by omega) (by omega) (by omega) (by rw [e487]; omega) opb (by rw [e491]; exact y5) llb (by rw [e480]; exact c6') (by rw [tb]; exact hb) (by omega) (by rw [t523]; omega) (by rw [t526, e486, tq 477 (by decide) (by decide), tb, t523]; have := (y9 c6').1; omega) (by rw [cl]; omega) (by rw [cl, j2.1 531 rfl, kd]; exact r0') (by rw [lft.2]; omega)
          rw [e480, e481, e482, e483, e484, e485, e486, e487, e491] at put
          have po := rPost_line i0 cp hp put top pr p1 to (by omega) xvl okl
          have sn := (y9 c6').2
          have tks := tkids_suc (K := r6) (R := lf) (N := fun e => [e]) (a := fc x) (k := fc x + (SN a - (M0 477 (8 * M0 467 11 + mf x)))) (by omega)
          rw [show fc x + (SN a - (M0 477 (8 * M0 467 11 + mf x))) + 1 - fc x = SN (a + 1) - (M0 477 (8 * M0 467 11 + mf x)) by omega, show fc x + (SN a - (M0 477 (8 * M0 467 11 + mf x))) - fc x = SN a - (M0 477 (8 * M0 467 11 + mf x)) by omega, if_pos r0'] at tks
          refine ih lv br (a + 1) b' s5 bq M' τ' hq0 hq1 lv0 (by omega) bE bG (by omega) sb po.1 po.2.2.1 (fun z => by rw [op.2.2.1]; exact oe z) (by have := po.2.2.2.2.2.2.2.2.1; omega) ?_ ?_ (fun M2 τ2 q1' q2' q3' => kt M2 τ2 (rPost_trans po q1') q2' q3') x9 x10 x11
          · rw [hp.2.1.2.2, cnt, show SN (a + 1) - (M0 477 (8 * M0 467 11 + mf x)) = SN a - (M0 477 (8 * M0 467 11 + mf x)) + 1 by omega, nsum_suc _ y.1]
            have z : kgs r6 fc CA x (SN a - (M0 477 (8 * M0 467 11 + mf x))) = 0 := if_pos r0'
            rw [z]; omega
          · rw [tks, ← List.append_assoc]
            refine rLeft_add lft ?_ le2
            rw [le1, cl]
        · obtain ⟨τ', to, put, top, pr, p1, le1, le2, op⟩ := r_ln j4 (by omega) (by omega) dsm nb (by omega) (by omega) (by omega) (by rw [e487]; omega) opb (by rw [e491]; exact y5) llb K9 (by rw [e480]; exact c6') (by rw [e480]; exact fun z => k7 (Or.inl z)) (by rw [e480]; exact fun z => k7 (Or.inr z))
          rw [e480, e481, e482, e483, e484, e485, e486, e487, e491] at put
          have po := rPost_line i0 cp hp put top pr p1 to (by omega) xvl okl
          have sn := (y10 c6').2.2
          refine ih lv br (a + 1) b' s5 bq M' τ' hq0 hq1 lv0 (by omega) bE bG (by omega) sb po.1 po.2.2.1 (fun z => by rw [op.2.2.1]; exact oe z) (by have := po.2.2.2.2.2.2.2.2.1; omega) ?_ ?_ (fun M2 τ2 q1' q2' q3' => kt M2 τ2 (rPost_trans po q1') q2' q3') x9 x10 x11
          · rw [hp.2.1.2.2, cnt, sn]; omega
          · rw [sn]; exact rLeft_same lft le1 le2

def rNode_62 (d N : Nat) (M0 τ0 : Nat → Int → Int) (nF m : Int) (TO cf mf fc dp r6 CA : Int → Int) (ND : Int → Prop) (lf : Int → List Int) : Prop := ∀ (x K base deep b0 C : Int) (M τ : Nat → Int → Int) (Lb : List Int) (r0 : Int → Int), ND x → ¬ x = 0 → 32 - dp x ≤ N → K = dp x → (0 ≤ deep ∧ deep ≤ 4 * K) → rInv M0 τ0 M τ K x (60 * M0 467 11 + M0 475 (8 * M0 467 11 + mf x)) (60 * M0 467 11 + M0 475 (8 * M0 467 11 + mf x) + M0 476 (8 * M0 467 11 + mf x)) base deep 0 → cP (M 449) (M 452) (M 455) (M 442 13) deep b0 → base + (M0 474 (8 * M0 467 11 + mf x)) ≤ M 441 1 → M 442 13 = C + (60 * M0 467 11 + M0 475 (8 * M0 467 11 + mf x)) → C + (60 * M0 467 11 + M0 475 (8 * M0 467 11 + mf x) + M0 476 (8 * M0 467 11 + mf x)) + nsum (kgs r6 fc CA x) ((M0 478 (8 * M0 467 11 + mf x))).toNat ≤ 319 → rLeft τ r0 Lb → (Lb.length : Int) + ((lf x).length : Int) ≤ 400 →
    ∀ (P : Nat → Nat → Nat) (Q : zQ), (∀ M' τ' : Nat → Int → Int, rPost nF TO M0 τ0 M τ M' τ' K x ((60 * M0 467 11 + M0 475 (8 * M0 467 11 + mf x) + M0 476 (8 * M0 467 11 + mf x)) - (M0 479 (8 * M0 467 11 + mf x))) (60 * M0 467 11 + M0 475 (8 * M0 467 11 + mf x) + M0 476 (8 * M0 467 11 + mf x)) base deep 0 b0 → M' 442 13 = C + ((60 * M0 467 11 + M0 475 (8 * M0 467 11 + mf x) + M0 476 (8 * M0 467 11 + mf x)) - (M0 479 (8 * M0 467 11 + mf x))) + nsum (kgs r6 fc CA x) ((M0 478 (8 * M0 467 11 + mf x))).toNat → rLeft τ' r0 (Lb ++ lf x) → Q (zS (zupN P 441 3 62) M') none) → WC (d + 4) 256 [vR 441, vR 116, vR (zcall x), vI base, vI deep, vI b0] (zS (zupN P 441 3 62) M) Q
theorem rSeg_62 {d : Nat} {P : Nat → Nat → Nat} {Q : zQ} {M0 τ0 : Nat → Int → Int} {nF m : Int} {TO cf mf fc dp r6 CA : Int → Int} {ND : Int → Prop} {lf : Int → List Int} (hb : 0 ≤ M0 467 11 ∧ M0 467 11 ≤ 1) (hn1 : M0 470 (M0 467 11) ≤ 60) (hcc : cCode M0 (60 * M0 467 11) (M0 470 (M0 467 11)) (M0 78) (M0 79) (M0 80) (M0 81) (M0 82) (M0 83) (M0 87) (M0 88)) (hd4 : ∀ l : Int, 0 ≤ l → l < M0 470 (M0 467 11) → 0 ≤ M0 84 l ∧ M0 84 l ≤ 4) (hpg : rProg M0 τ0) (h1 : ∀ i : Int, 0 ≤ i ∧ i < 320 → M0 (zcall i) 1 = cf i) (h3 : ∀ i : Int, 0 ≤ i ∧ i < 320 → M0 (zcall i) 3 = dp i) (h5 : ∀ i : Int, 0 ≤ i ∧ i < 320 → M0 (zcall i) 5 = fc i) (h6 : ∀ i : Int, 0 ≤ i ∧ i < 320 → M0 (zcall i) 6 = r6 i) (hfun : ∀ g : Int, 0 ≤ g → g < M0 469 (M0 467 11) → ∃ SN : Int → Int, rFun 62 M0 nF TO SN g) (htr : rTr 62 M0 τ0 TO cf mf fc dp r6 CA ND lf m) {N : Nat} (hN : rNode_62 d N M0 τ0 nF m TO cf mf fc dp r6 CA ND lf) {x K base deep b0 C : Int} {Lb : List Int} {r0 SN : Int → Int} (hx : ND x) (hdN : 32 - dp x ≤ N + 1) (hK : K = dp x) (hdp : 0 ≤ deep ∧ deep ≤ 4 * K) (hfu : rFun 62 M0 nF TO SN (mf x)) (hC : C + (60 * M0 467 11 + M0 475 (8 * M0 467 11 + mf x) + M0 476 (8 * M0 467 11 + mf x)) + nsum (kgs r6 fc CA x) ((M0 478 (8 * M0 467 11 + mf x))).toNat ≤ 319) (hLb : (Lb.length : Int) + ((lf x).length : Int) ≤ 400) :
    ∀ (n : Nat) (lv br a b' : Int), ySeg M0 (yok 62 M0 SN (mf x) (60 * M0 467 11 + M0 475 (8 * M0 467 11 + mf x) + M0 476 (8 * M0 467 11 + mf x))) n lv br a b' → ∀ (bq : Int) (M τ : Nat → Int → Int), (lv = 0 → bq = b0) → (¬ lv = 0 → bq = br) → 0 ≤ lv → (60 * M0 467 11 + M0 475 (8 * M0 467 11 + mf x)) ≤ a → b' ≤ (60 * M0 467 11 + M0 475 (8 * M0 467 11 + mf x) + M0 476 (8 * M0 467 11 + mf x)) → (¬ x = 0 → b' ≤ (60 * M0 467 11 + M0 475 (8 * M0 467 11 + mf x) + M0 476 (8 * M0 467 11 + mf x)) - (M0 479 (8 * M0 467 11 + mf x))) → (M0 477 (8 * M0 467 11 + mf x)) ≤ SN a → SN b' ≤ (M0 477 (8 * M0 467 11 + mf x)) + (M0 478 (8 * M0 467 11 + mf x)) → rInv M0 τ0 M τ K x a (60 * M0 467 11 + M0 475 (8 * M0 467 11 + mf x) + M0 476 (8 * M0 467 11 + mf x)) base deep lv → cP (M 449) (M 452) (M 455) (M 442 13) (deep + lv) bq → (0 < lv → τ 544 (deep + lv - 1) = b') → base + (M0 474 (8 * M0 467 11 + mf x)) ≤ M 441 1 → M 442 13 = C + a + nsum (kgs r6 fc CA x) (SN a - (M0 477 (8 * M0 467 11 + mf x))).toNat → rLeft τ r0 (Lb ++ tkids r6 lf (fun e => [e]) (fc x) (SN a - (M0 477 (8 * M0 467 11 + mf x))).toNat) →
      (∀ M' τ' : Nat → Int → Int, rPost nF TO M0 τ0 M τ M' τ' K x b' (60 * M0 467 11 + M0 475 (8 * M0 467 11 + mf x) + M0 476 (8 * M0 467 11 + mf x)) base deep lv bq → M' 442 13 = C + b' + nsum (kgs r6 fc CA x) (SN b' - (M0 477 (8 * M0 467 11 + mf x))).toNat → rLeft τ' r0 (Lb ++ tkids r6 lf (fun e => [e]) (fc x) (SN b' - (M0 477 (8 * M0 467 11 + mf x))).toNat) → ∀ (x9 x10 x11 : Option zV), WP (d + 5) 256 0 0 37 [some (vR 441), some (vR 116), some (vR (zcall x)), some (vI base), some (vI deep), some (vI b0), some (vR 77), some (vI (cf x)), some (vI (b' - 60 * M0 467 11)), x9, x10, x11] [] (zS (zupN P 441 3 62) M') Q) → ∀ (x9 x10 x11 : Option zV), WP (d + 5) 256 0 0 37 [some (vR 441), some (vR 116), some (vR (zcall x)), some (vI base), some (vI deep), some (vI b0), some (vR 77), some (vI (cf x)), some (vI (a - 60 * M0 467 11)), x9, x10, x11] [] (zS (zupN P 441 3 62) M) Q := by
  intro n
  induction n with
  | zero =>
    intro lv br a b' h bq M τ _ _ _ _ _ _ _ _ i0 cp _ _ cnt lft kt x9 x10 x11
    have e : a = b' := h
    subst e
    exact kt M τ (rPost_refl i0 cp) cnt lft x9 x10 x11
  | succ n ih =>
    intro lv br a b' h bq M τ hq0 hq1 lv0 aF bE bG sa sb i0 cp oe bv cnt lft kt x9 x10 x11
    rcases h with h | ⟨q1, q2, s3, s4, s5⟩
    · subst h
      exact kt M τ (rPost_refl i0 cp) cnt lft x9 x10 x11
    have sn1 := yok_SN q2
    have sn3 := ySeg_SN n _ _ _ _ s3
    have sn4 := ySeg_SN n _ _ _ _ s4
    have sn5 := ySeg_SN n _ _ _ _ s5
    have l3 := ySegE_le ⟨n, s3⟩
    have l4 := ySegE_le ⟨n, s4⟩
    have l5 := ySegE_le ⟨n, s5⟩
    obtain ⟨⟨y1, y2, y3⟩, ⟨y4, y5, y6, y7⟩, y8, y9, y10, y11⟩ := id q2
    obtain ⟨⟨f1, f2, f3, f4⟩, fl, ⟨fs1, fs2, fs3⟩, fgv⟩ := id hfu
    obtain ⟨⟨g1, g2⟩, ⟨g3, g3b⟩, g4, g5, g6, g7⟩ := fl a aF (by omega)
    obtain ⟨⟨t1, t2, t3⟩, ⟨u1, u2, u3, u4, u5, u6, u7, u8⟩, ⟨v1, v2, v3⟩, ⟨w1, w2⟩, ⟨z1, z2⟩, ⟨ca1, ca2⟩, lfx, kids⟩ := htr x hx
    obtain ⟨j1, j2, j3, j4, j5, j6, j7⟩ := id i0
    have fr := j1.1
    have cc := hcc (a - 60 * M0 467 11) (by omega) (by omega)
    rw [show a - 60 * M0 467 11 + 60 * M0 467 11 = a by omega] at cc
    obtain ⟨c1, c2, c3, c4, c5, c6, _, _, c9⟩ := cc
    have d4 := hd4 (a - 60 * M0 467 11) (by omega) (by omega)
    have y1 : M0 84 (a - 60 * M0 467 11) = lv := y1
    have y3 : 0 < lv → M0 85 (a - 60 * M0 467 11) = br := y3
    have y4 : M0 86 (a - 60 * M0 467 11) = M0 491 a := y4
    have u3 : M0 65 (cf x) = M0 473 (8 * M0 467 11 + mf x) := u3
    have u4 : M0 66 (cf x) = M0 474 (8 * M0 467 11 + mf x) := u4
    have u5 : M0 67 (cf x) = M0 475 (8 * M0 467 11 + mf x) := u5
    have u6 : M0 68 (cf x) = M0 476 (8 * M0 467 11 + mf x) := u6
    have u7 : M0 69 (cf x) = M0 477 (8 * M0 467 11 + mf x) := u7
    rw [y1] at d4
    have tr : ∀ c : Nat, 480 ≤ c → c ≤ 491 → τ c a = M0 c a := fun c a1 a2 => (j2.2.2.1 c a a1 a2 (by omega)).trans (hpg.2.1 c a a1 a2 (by omega))
    have tq : ∀ c : Nat, 473 ≤ c → c ≤ 479 → τ c = M0 c := fun c a1 a2 => (j2.1 c (by unfold rCell; simp; omega)).trans (hpg.1 c a1 a2)
    have tb : τ 467 11 = M0 467 11 := (j2.2.1 11 (by decide)).trans hpg.2.2
    have t523 : τ 523 x = mf x := by rw [j2.1 523 rfl]; exact z1
    have t526 : τ 526 x = fc x := by rw [j2.1 526 rfl]; exact z2
    have e480 := tr 480 (by decide) (by decide)
    have e481 := tr 481 (by decide) (by decide)
    have e482 := tr 482 (by decide) (by decide)
    have e483 := tr 483 (by decide) (by decide)
    have e484 := tr 484 (by decide) (by decide)
    have e485 := tr 485 (by decide) (by decide)
    have e486 := tr 486 (by decide) (by decide)
    have e487 := (tr 487 (by decide) (by decide)).trans y2
    have e488 := tr 488 (by decide) (by decide)
    have e491 := tr 491 (by decide) (by decide)
    have hr3 : ∀ i : Int, 0 ≤ i ∧ i < 320 → M (zcall i) 3 = dp i := fun i hi => by rw [fr _ (by have := zcall_in hi; omega)]; exact h3 i hi
    have hr5 : ∀ i : Int, 0 ≤ i ∧ i < 320 → M (zcall i) 5 = fc i := fun i hi => by rw [fr _ (by have := zcall_in hi; omega)]; exact h5 i hi
    have hr6 : ∀ i : Int, 0 ≤ i ∧ i < 320 → M (zcall i) 6 = r6 i := fun i hi => by rw [fr _ (by have := zcall_in hi; omega)]; exact h6 i hi
    have hr1 : ∀ i : Int, 0 ≤ i ∧ i < 320 → M (zcall i) 1 = cf i := fun i hi => by rw [fr _ (by have := zcall_in hi; omega)]; exact h1 i hi
    have eB : (if lv = 0 then b0 else M 85 (a - 60 * M0 467 11)) = bq := by
      by_cases z : lv = 0
      · rw [if_pos z]; exact (hq0 z).symm
      · rw [if_neg z, fr 85 (by decide), y3 (by omega)]; exact (hq1 z).symm
    have ek : a - 60 * M0 467 11 + 1 = a + 1 - 60 * M0 467 11 := by omega
    have nn := j5.1
    have gsm : ∀ i j : Int, 0 ≤ i → i ≤ j → j ≤ (M0 478 (8 * M0 467 11 + mf x)) → nsum (kgs r6 fc CA x) i.toNat ≤ nsum (kgs r6 fc CA x) j.toNat := fun i j i0 ij jn => by
      have z := nsum_le (f := kgs r6 fc CA x) (j.toNat - i.toNat) i.toNat (fun q q0 q1 => by
        unfold kgs
        split
        · exact Int.le_refl _
        · next zz =>
          rcases (kids q q0 (by omega)).2 with y | y
          · exact absurd y zz
          · exact (htr _ y.2.1).2.2.2.2.2.1.1)
      rw [show i.toNat + (j.toNat - i.toNat) = j.toNat by omega] at z
      exact z
    have nbd : M 442 13 < 320 := by
      have z := gsm (SN a - (M0 477 (8 * M0 467 11 + mf x))) (M0 478 (8 * M0 467 11 + mf x)) (by omega) (by omega) (Int.le_refl _)
      omega
    have nb : lv = 0 ∨ ¬ a = τ 544 (deep + lv - 1) := by
      by_cases z : lv = 0
      · exact Or.inl z
      · right; rw [oe (by omega)]; omega
    have dsm : 0 ≤ deep ∧ 0 ≤ lv ∧ deep + lv ≤ 300 := by omega
    have opb : (-2 ≤ τ 481 a ∧ τ 481 a ≤ 1000) ∧ (-100 ≤ τ 482 a ∧ τ 482 a ≤ 1000) ∧ (-100 ≤ τ 483 a ∧ τ 483 a ≤ 1000) ∧ -100 ≤ τ 484 a ∧ τ 484 a ≤ 1000 := by rw [e481, e482, e483, e484]; omega
    have llb : 120 ≤ τ 467 109 ∧ τ 467 109 < 520 := by rw [j3.1]; omega
    have xvl : xv (M 441 1) (τ 467 11) (τ 473) (τ 474) (τ 475) (τ 476) (M0 480 a) (tgx (M0 481 a) base) (shf (M0 482 a) base) (shf (M0 483 a) base) (shf (M0 484 a) base) (M0 485 a) (M0 486 a) := by
      rw [tb, tq 473 (by decide) (by decide), tq 474 (by decide) (by decide), tq 475 (by decide) (by decide), tq 476 (by decide) (by decide)]
      exact xv_shf g3 j6 bv (by omega)
    have okl : (M0 480 a = 6 → M0 485 a < nF ∧ TO (M0 486 a) = M0 485 a) ∧ (¬ M0 480 a = 6 → M0 485 a = -2) ∧ (7 ≤ M0 480 a → tgx (M0 481 a) base = -2) ∧ (M0 480 a = 0 → shf (M0 483 a) base = -2) := by
      refine ⟨g3b, fun z => (y10 z).1, fun z => ?_, fun z => ?_⟩
      · rw [y11.2.1 z]; rfl
      · rw [c9 z]; rfl
    have eH : ∀ c : Nat, ¬ (441 ≤ c ∧ c ≤ 455) → M c = M0 c := fr
    have m1 := congrFun (fr 78 (by decide)) (a - 60 * M0 467 11)
    have m2 := congrFun (fr 79 (by decide)) (a - 60 * M0 467 11)
    have m3 := congrFun (fr 80 (by decide)) (a - 60 * M0 467 11)
    have m4 := congrFun (fr 81 (by decide)) (a - 60 * M0 467 11)
    have m5 := congrFun (fr 82 (by decide)) (a - 60 * M0 467 11)
    have m6 := congrFun (fr 83 (by decide)) (a - 60 * M0 467 11)
    have m7 := congrFun (fr 84 (by decide)) (a - 60 * M0 467 11)
    have m9 := congrFun (fr 86 (by decide)) (a - 60 * M0 467 11)
    rw [c1] at m1
    rw [c2] at m2
    rw [c3] at m3
    rw [c4] at m4
    rw [c5] at m5
    rw [c6] at m6
    rw [y1] at m7
    rw [y4] at m9
    have n5 := congrFun (fr 67 (by decide)) (cf x)
    have n6 := congrFun (fr 68 (by decide)) (cf x)
    have n7 := congrFun (fr 69 (by decide)) (cf x)
    rw [u5] at n5
    rw [u6] at n6
    rw [u7] at n7
    have pl6 : M0 480 a = 6 → 0 ≤ SN a - (M0 477 (8 * M0 467 11 + mf x)) ∧ SN a - (M0 477 (8 * M0 467 11 + mf x)) < (M0 478 (8 * M0 467 11 + mf x)) ∧ fc x + M0 486 a - (M0 477 (8 * M0 467 11 + mf x)) = fc x + (SN a - (M0 477 (8 * M0 467 11 + mf x))) := fun z => by have y := y9 z; omega
    have H := @C_ln_62 d P M Q x base deep b0 (cf x) (a - 60 * M0 467 11) dp hr3 fc hr5 r6 hr6 x9 x10 x11
    rw [m1, m2, m3, m4, m5, m6, m7, m9, n5, n6, n7, eB, ek] at H
    have LN : ∀ kt2 : (∀ (M' : Nat → Int → Int), cPut M M' (M0 480 a) (tgx (M0 481 a) base) (shf (M0 482 a) base) (shf (M0 483 a) base) (shf (M0 484 a) base) (M0 486 a) (deep + lv) bq (M0 491 a) → ∀ (x9 x10 x11 : Option zV), WP (d + 5) 256 0 0 37 [some (vR 441), some (vR 116), some (vR (zcall x)), some (vI base), some (vI deep), some (vI b0), some (vR 77), some (vI (cf x)), some (vI (a + 1 - 60 * M0 467 11)), x9, x10, x11] [] (zS (zupN P 441 3 62) M') Q), ¬ (M0 480 a = 6 ∧ ¬ r6 (fc x + (SN a - (M0 477 (8 * M0 467 11 + mf x)))) = 0) → WP (d + 5) 256 0 0 37 [some (vR 441), some (vR 116), some (vR (zcall x)), some (vI base), some (vI deep), some (vI b0), some (vR 77), some (vI (cf x)), some (vI (a - 60 * M0 467 11)), x9, x10, x11] [] (zS (zupN P 441 3 62) M) Q := fun kt2 nk =>
      H (by omega) u1 (by omega) (by omega) (by omega) ⟨⟨w1, by omega⟩, by by_cases z : M0 480 a = 6; (have y := y9 z; omega); (have y := y10 z; omega), by omega⟩ (by omega) (by omega) (by omega) (by omega) (by omega) (by omega) (by omega)
        (fun z => by
          have y := pl6 z
          rw [y.2.2]
          refine ⟨by omega, ?_⟩
          by_cases zz : r6 (fc x + (SN a - (M0 477 (8 * M0 467 11 + mf x)))) = 0
          · exact zz
          · exact absurd ⟨z, zz⟩ nk)
        (fun z => by
          have y := y8 z
          by_cases zz : x = 0
          · exact v3.mp zz
          · have := bG zz; omega) nn nbd j5 cp kt2
    by_cases k6 : M0 480 a = 6 ∧ ¬ r6 (fc x + (SN a - (M0 477 (8 * M0 467 11 + mf x)))) = 0
    · sorry
    · by_cases k7 : M0 480 a = 7 ∨ M0 480 a = 8
      · sorry
      · obtain ⟨z8, z9⟩ : M0 488 a = 0 ∧ M0 489 a = 0 := by
          rcases g6 with z | z
          · exact absurd z k7
          · exact z
        rw [z8, z9, show a + 1 + (0 : Int) + 0 = a + 1 by omega] at s5
        have K9 : τ 480 a = 9 → K = 0 := fun z => by
          rw [e480] at z
          have y := y8 z
          by_cases zz : x = 0
          · rw [hK]; exact v3.mp zz
          · have := bG zz; omega
        refine LN (fun M' hp x9 x10 x11 => ?_) k6
        by_cases c6' : M0 480 a = 6
        · -- a call that is left
          have y := pl6 c6'
          have r0' : r6 (fc x + (SN a - (M0 477 (8 * M0 467 11 + mf x)))) = 0 := Classical.byContradiction (fun z => k6 ⟨c6', z⟩)
          have cl : τ 526 x + τ 486 a - τ 477 (8 * τ 467 11 + τ 523 x) = fc x + (SN a - (M0 477 (8 * M0 467 11 + mf x))) := by rw [t526, e486, tq 477 (by decide) (by decide), tb, t523]; omega
          have kd := (kids (SN a - (M0 477 (8 * M0 467 11 + mf x))) y.1 y.2.1).1
          have len : ((Lb ++ tkids r6 lf (fun e => [e]) (fc x) (SN a - (M0 477 (8 * M0 467 11 + mf x))).toNat).length : Int) < 420 := by
            have z := tkids_le (K := r6) (R := lf) (N := fun e => [e]) (a := fc x) (k := fc x + (SN a - (M0 477 (8 * M0 467 11 + mf x)))) (n := (M0 478 (8 * M0 467 11 + mf x))) (by omega) (by omega)
            rw [show fc x + (SN a - (M0 477 (8 * M0 467 11 + mf x))) - fc x = SN a - (M0 477 (8 * M0 467 11 + mf x)) by omega, ← lfx] at z
            rw [List.length_append]
            omega
          obtain ⟨τ', to, put, top, pr, p1, le1, le2, op⟩ := r_lf j4 (by omega) (by omega) dsm nb (by omega) (by omega) (by omega) (by rw [e487]; omega) opb (by rw [e491]; exact y5) llb (by rw [e480]; exact c6') (by rw [tb]; exact hb) (by omega) (by rw [t523]; omega) (by rw [t526, e486, tq 477 (by decide) (by decide), tb, t523]; have := (y9 c6').1; omega) (by rw [cl]; omega) (by rw [cl, j2.1 531 rfl, kd]; exact r0') (by rw [lft.2]; omega)
          rw [e480, e481, e482, e483, e484, e485, e486, e487, e491] at put
          have po := rPost_line i0 cp hp put top pr p1 to (by omega) xvl okl
          have sn := (y9 c6').2
          have tks := tkids_suc (K := r6) (R := lf) (N := fun e => [e]) (a := fc x) (k := fc x + (SN a - (M0 477 (8 * M0 467 11 + mf x)))) (by omega)
          rw [show fc x + (SN a - (M0 477 (8 * M0 467 11 + mf x))) + 1 - fc x = SN (a + 1) - (M0 477 (8 * M0 467 11 + mf x)) by omega, show fc x + (SN a - (M0 477 (8 * M0 467 11 + mf x))) - fc x = SN a - (M0 477 (8 * M0 467 11 + mf x)) by omega, if_pos r0'] at tks
          refine ih lv br (a + 1) b' s5 bq M' τ' hq0 hq1 lv0 (by omega) bE bG (by omega) sb po.1 po.2.2.1 (fun z => by rw [op.2.2.1]; exact oe z) (by have := po.2.2.2.2.2.2.2.2.1; omega) ?_ ?_ (fun M2 τ2 q1' q2' q3' => kt M2 τ2 (rPost_trans po q1') q2' q3') x9 x10 x11
          · rw [hp.2.1.2.2, cnt, show SN (a + 1) - (M0 477 (8 * M0 467 11 + mf x)) = SN a - (M0 477 (8 * M0 467 11 + mf x)) + 1 by omega, nsum_suc _ y.1]
            have z : kgs r6 fc CA x (SN a - (M0 477 (8 * M0 467 11 + mf x))) = 0 := if_pos r0'
            rw [z]; omega
          · rw [tks, ← List.append_assoc]
            refine rLeft_add lft ?_ le2
            rw [le1, cl]
        · obtain ⟨τ', to, put, top, pr, p1, le1, le2, op⟩ := r_ln j4 (by omega) (by omega) dsm nb (by omega) (by omega) (by omega) (by rw [e487]; omega) opb (by rw [e491]; exact y5) llb K9 (by rw [e480]; exact c6') (by rw [e480]; exact fun z => k7 (Or.inl z)) (by rw [e480]; exact fun z => k7 (Or.inr z))
          rw [e480, e481, e482, e483, e484, e485, e486, e487, e491] at put
          have po := rPost_line i0 cp hp put top pr p1 to (by omega) xvl okl
          have sn := (y10 c6').2.2
          refine ih lv br (a + 1) b' s5 bq M' τ' hq0 hq1 lv0 (by omega) bE bG (by omega) sb po.1 po.2.2.1 (fun z => by rw [op.2.2.1]; exact oe z) (by have := po.2.2.2.2.2.2.2.2.1; omega) ?_ ?_ (fun M2 τ2 q1' q2' q3' => kt M2 τ2 (rPost_trans po q1') q2' q3') x9 x10 x11
          · rw [hp.2.1.2.2, cnt, sn]; omega
          · rw [sn]; exact rLeft_same lft le1 le2

