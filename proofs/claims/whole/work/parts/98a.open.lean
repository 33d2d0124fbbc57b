/-! The result's lines: a part of a function, line by line, on both sides -/
def rProg (M0 τ0 : Nat → Int → Int) : Prop := (∀ (c : Nat) (j : Int), 473 ≤ c → c ≤ 479 → 8 * M0 467 11 ≤ j → j < 8 * M0 467 11 + 8 → τ0 c j = M0 c j) ∧ (∀ (c : Nat) (j : Int), 480 ≤ c → c ≤ 491 → 60 * M0 467 11 ≤ j → j < 60 * M0 467 11 + 60 → τ0 c j = M0 c j) ∧ τ0 467 11 = M0 467 11
theorem xv_cg {V b : Int} {fP fV fF fM fP' fV' fF' fM' : Int → Int} {kd X A B C ca si : Int} (e : ∀ g : Int, 0 ≤ g → g < 8 → fP' (8 * b + g) = fP (8 * b + g) ∧ fV' (8 * b + g) = fV (8 * b + g) ∧ fF' (8 * b + g) = fF (8 * b + g) ∧ fM' (8 * b + g) = fM (8 * b + g)) (h : xv V b fP fV fF fM kd X A B C ca si) : xv V b fP' fV' fF' fM' kd X A B C ca si := by
  obtain ⟨a1, a2, a3, a4, a5⟩ := h
  refine ⟨a1, a2, a3, a4, fun k => ?_⟩
  obtain ⟨c1, c2⟩ := a5 k
  obtain ⟨e1, e2, e3, e4⟩ := e ca c1.1 c1.2
  rw [e1, e2, e3, e4]
  exact ⟨c1, c2⟩
theorem num_ah {b a : Int} (h : 0 ≤ a - 60 * b) (k : a - 60 * b < 60) : 60 * b ≤ a ∧ a < 60 * b + 60 := by omega
theorem num_eh {b l n : Int} (h : 60 * b ≤ l ∧ l < 60 * b + n) (k : n ≤ 60) : 60 * b ≤ l ∧ l < 60 * b + 60 := by omega
theorem yok_SN {p : Nat} {M : Nat → Int → Int} {SN : Int → Int} {g E lv br a : Int} (h : yok p M SN g E lv br a) : SN a ≤ SN (a + 1) := by
  obtain ⟨_, _, _, h4, h5, _⟩ := h
  by_cases e : M 480 a = 6
  · have := (h4 e).2; omega
  · have := (h5 e).2.2; omega
theorem ySeg_SN {p : Nat} {M : Nat → Int → Int} {SN : Int → Int} {g E : Int} : ∀ (n : Nat) (lv br a b : Int), ySeg M (yok p M SN g E) n lv br a b → SN a ≤ SN b := by
  intro n
  induction n with
  | zero => intro lv br a b h; have e : a = b := h; rw [e]; exact Int.le_refl _
  | succ n ih =>
    intro lv br a b h
    rcases h with h | ⟨h1, h2, h3, h4, h5⟩
    · rw [h]; exact Int.le_refl _
    · have x1 := yok_SN h2
      have x2 := ih _ _ _ _ h3
      have x3 := ih _ _ _ _ h4
      have x4 := ih _ _ _ _ h5
      omega
theorem opx_in {a b c v : Int} (ha : -100 ≤ a ∧ a ≤ 1000) (hb : -100 ≤ b ∧ b ≤ 1000) (hc : -100 ≤ c ∧ c ≤ 1000) : -100 ≤ opx a b c v ∧ opx a b c v ≤ 1000 := by
  unfold opx; split
  · exact ha
  · split
    · exact hb
    · exact hc
/-- one line more: what of it goes for both sides -/
theorem rLine_core {nF : Int} {TO : Int → Int} {M τ M' τ' : Nat → Int → Int} {d bq kd tg fi se th ca si we cl : Int} (a3 : rRel M τ) (a5 : cL (M 449) (M 450) (M 452) (M 453) (M 454) (M 455) (M 442 13)) (p : cP (M 449) (M 452) (M 455) (M 442 13) d bq) (hc : cPut M M' kd tg fi se th si d bq we) (hr : rPut τ τ' kd tg fi se th ca si d we cl) (h1 : τ' 467 110 = τ 467 110) (hp : (∀ c : Nat, vCell c = false → τ' c = τ c) ∧ τ' 467 11 = τ 467 11) (n1 : M 442 13 < 390)
    (hx : xv (M 441 1) (τ 467 11) (τ 473) (τ 474) (τ 475) (τ 476) kd tg fi se th ca si) (ho : (kd = 6 → ca < nF ∧ TO si = ca) ∧ (¬ kd = 6 → ca = -2 ∧ si = -2) ∧ (7 ≤ kd → tg = -2) ∧ (kd = 0 → se = -2)) (hw : we = 0 ∨ we = 1) (hd : d ≤ 130) : rRel M' τ' ∧ cP (M' 449) (M' 452) (M' 455) (M' 442 13) d bq ∧ ySegE τ' (okR M' τ' nF TO) d bq (120 + M 442 13) (120 + M' 442 13) ∧ laK (M 455) (M' 455) d := by
  have rl := a3.1
  have n0 := a5.1
  have rel := rRel_put a3 hc hr h1 hw
  obtain ⟨b1, ⟨b2, b3, b4⟩, ⟨r1, r2, r3, r4, r5, r6, r7, r8, r9⟩, b5, b6⟩ := id hc
  obtain ⟨c0, s0, s1, s2, s3, s4, s5, s6, s7, s8, s9, s10, s11⟩ := id hr
  have dd := p.1
  have ed : M' 449 (M 442 13) = d := by rw [r7]; exact zs_pos rfl
  have eb : M' 450 (M 442 13) = bq := by rw [r8]; exact zs_pos rfl
  have el : M' 455 d = M 442 13 := by rw [b5]; exact zs_pos rfl
  have b6' := b6
  rw [b4] at b6'
  have cn := cP_next b6' ed eb el n0 dd.1 dd.2
  rw [← b4] at cn
  refine ⟨rel, cn, ?_, by rw [b5]; exact laK_zs laK_refl⟩
  have e8 : τ' 488 (120 + M 442 13) = 0 := by rw [s8, rl]; exact zs_pos rfl
  have e9 : τ' 489 (120 + M 442 13) = 0 := by rw [s9, rl]; exact zs_pos rfl
  refine ySegE_one ?_ e8 e9 (by rw [b4, show 120 + M 442 13 + 1 = 120 + (M 442 13 + 1) by omega]; exact ySegE_nil)
  unfold okR
  rw [e8, e9, s0, s1, s2, s3, s4, s5, s6, rl, zs_pos rfl, zs_pos rfl, zs_pos rfl, zs_pos rfl, zs_pos rfl, zs_pos rfl, zs_pos rfl, show 120 + M 442 13 - 120 = M 442 13 by omega, hp.1 473 rfl, hp.1 474 rfl, hp.1 475 rfl, hp.1 476 rfl, hp.2, b2]
  exact ⟨⟨ed, fun _ => eb, hd⟩, hx, by omega, ho, Or.inr ⟨rfl, rfl⟩, fun _ => rfl⟩
theorem rw8 {τ τ' : Nat → Int → Int} (h : τ' 480 = τ 480 ∧ τ' 481 = τ 481 ∧ τ' 482 = τ 482 ∧ τ' 483 = τ 483 ∧ τ' 484 = τ 484 ∧ τ' 486 = τ 486 ∧ τ' 487 = τ 487 ∧ τ' 491 = τ 491) (h5 : τ' 485 = τ 485) : ∀ c : Nat, 480 ≤ c → c ≤ 487 → τ' c = τ c := by
  intro c z1 z2
  obtain ⟨k0, k1, k2, k3, k4, k5, k6', _⟩ := h
  have cz : c = 480 ∨ c = 481 ∨ c = 482 ∨ c = 483 ∨ c = 484 ∨ c = 485 ∨ c = 486 ∨ c = 487 := by omega
  rcases cz with e | e | e | e | e | e | e | e <;> subst e
  · exact k0
  · exact k1
  · exact k2
  · exact k3
  · exact k4
  · exact h5
  · exact k5
  · exact k6'
theorem ySeg_at' {L : Nat → Int → Int} {ok : Int → Int → Int → Prop} {lv br a b l : Int} (h : ySegE L ok lv br a b) (h0 : a ≤ l) (h1 : l < b) : ∃ lv' br' : Int, lv ≤ lv' ∧ ok lv' br' l := by
  obtain ⟨n, h⟩ := h
  exact ySeg_at n lv br a b h h0 h1
/-- a row of block lengths changed ahead of a part -/
theorem ySegE_upd {M τ τ' : Nat → Int → Int} {nF : Int} {TO : Int → Int} {lv br a b r : Int} (h : ySegE τ (okR M τ nF TO) lv br a b) (hr : r < a) (e : τ' 480 = τ 480 ∧ τ' 481 = τ 481 ∧ τ' 482 = τ 482 ∧ τ' 483 = τ 483 ∧ τ' 484 = τ 484 ∧ τ' 485 = τ 485 ∧ τ' 486 = τ 486) (hp : (∀ c : Nat, vCell c = false → τ' c = τ c) ∧ τ' 467 11 = τ 467 11) (h8 : ∀ j : Int, ¬ j = r → τ' 488 j = τ 488 j ∧ τ' 489 j = τ 489 j) : ySegE τ' (okR M τ' nF TO) lv br a b := by
  obtain ⟨e0, e1, e2, e3, e4, e5, e6⟩ := e
  refine ySegE_rng h (fun j j0 j1 => h8 j (by omega)) (fun l b' j j0 j1 q => ?_) okR_pos
  obtain ⟨x8, x9⟩ := h8 j (by omega)
  unfold okR at q ⊢
  rw [e0, e1, e2, e3, e4, e5, e6, x8, x9, hp.1 473 rfl, hp.1 474 rfl, hp.1 475 rfl, hp.1 476 rfl, hp.2]
  exact q
/-- a line with its blocks -/
theorem rPost_block {U nF : Int} {TO : Int → Int} {M0 τ0 M τ M1 τ1 M2 τ3 : Nat → Int → Int} {K x a a2 E base deep lv bq b2 kd tg fi se th ca si we cl tn el : Int} (h : rInv M0 τ0 M τ K x a E base deep lv) (p : cP (M 449) (M 452) (M 455) (M 442 13) (deep + lv) bq) (hc : cPut M M1 kd tg fi se th si (deep + lv) bq we) (hr : rPut τ τ1 kd tg fi se th ca si (deep + lv) we cl)
    (hcp : cPr M1 M2 (M 442 13 + 1)) (hla : laK (M1 455) (M2 455) (deep + lv + 1)) (hi : rInv M0 τ0 M2 τ3 K x a2 E base deep lv) (hp2 : cP (M2 449) (M2 452) (M2 455) (M2 442 13) (deep + lv + 1) b2) (hto : rTo τ τ3) (hpr : rPr τ τ3 K (deep + lv) (120 + M 442 13))
    (ex : (∀ c : Nat, vCell c = false → τ3 c = τ1 c) ∧ τ3 467 11 = τ1 467 11) (ey : (∀ c : Nat, vCell c = false → τ1 c = τ c) ∧ τ1 467 11 = τ 467 11) (er : ∀ c : Nat, 480 ≤ c → c ≤ 487 → τ3 c (120 + M 442 13) = τ1 c (120 + M 442 13)) (e8 : τ3 488 (120 + M 442 13) = tn) (e9 : τ3 489 (120 + M 442 13) = el) (tn0 : 0 ≤ tn) (el0 : 0 ≤ el) (nn : M2 442 13 = M 442 13 + 1 + tn + el) (n3 : M2 442 13 < 390) (k7 : kd = 7 ∨ kd = 8) (k8 : kd = 8 → el = 0)
    (g1 : ySegE τ3 (okR M2 τ3 nF TO) (deep + lv + 1) 0 (120 + M 442 13 + 1) (120 + M 442 13 + 1 + tn)) (g2 : ySegE τ3 (okR M2 τ3 nF TO) (deep + lv + 1) 1 (120 + M 442 13 + 1 + tn) (120 + M 442 13 + 1 + tn + el)) (vv : M1 441 1 ≤ M2 441 1 ∧ M2 441 1 - M1 441 1 ≤ M2 442 13 - (M 442 13 + 1))
    (hx : xv (M 441 1) (τ 467 11) (τ 473) (τ 474) (τ 475) (τ 476) kd tg fi se th ca si) (ho : (kd = 6 → ca < nF ∧ TO si = ca) ∧ (¬ kd = 6 → ca = -2 ∧ si = -2) ∧ (7 ≤ kd → tg = -2) ∧ (kd = 0 → se = -2)) (hd : deep + lv ≤ 130) (w2 : rW M2 U K (M 442 13 + 1)) (hf : -20 - M 441 1 ≤ fi ∧ fi ≤ 1000) (h9 : (kd = 9 ↔ (K = 0 ∧ M 442 13 + 1 = U)) ∧ (kd = 9 → deep + lv ≤ 0)) (h4 : deep + lv ≤ 4 * K + 4) : rPost U nF TO M0 τ0 M τ M2 τ3 K x a2 E base deep lv bq := by
  obtain ⟨a1, a2', a3, a4, a5, a6, a7⟩ := h
  have rl := a3.1
  have n0 := a5.1
  have cp := cPut_pr hc
  obtain ⟨b1, ⟨b2', b3, b4⟩, ⟨r1, r2, r3, r4, r5, r6, r7, r8, r9⟩, b5, b6⟩ := id hc
  obtain ⟨c0, s0, s1, s2, s3, s4, s5, s6, s7, s8, s9, s10, s11⟩ := id hr
  have ed : M2 449 (M 442 13) = deep + lv := by rw [hcp.2.2.2 449 _ (by decide) (by decide) (by omega), r7]; exact zs_pos rfl
  have eb : M2 450 (M 442 13) = bq := by rw [hcp.2.2.2 450 _ (by decide) (by decide) (by omega), r8]; exact zs_pos rfl
  have el' : M2 455 (deep + lv) = M 442 13 := by rw [hla _ (by omega), b5]; exact zs_pos rfl
  refine ⟨hi, hto, cP_back hi.2.2.2.2.1 hp2 el' eb p.1.1 p.1.2, hpr, cPr_trans cp hcp (by omega), laK_trans (by rw [b5]; exact laK_zs laK_refl) hla (by omega), ?_, ⟨by omega, by rw [← b2']; exact vv.1, by rw [b2'] at vv; omega⟩, rW_cat (rW_put hc hf h9 h4 (by omega)) (by rw [b4]; exact hcp) vv.1 (by rw [b4]; exact vv.2) (by rw [b4]; exact w2)⟩
  have t0 : τ3 480 (120 + M 442 13) = kd := by rw [er 480 (by decide) (by decide), s0, rl]; exact zs_pos rfl
  have t1 : τ3 481 (120 + M 442 13) = tg := by rw [er 481 (by decide) (by decide), s1, rl]; exact zs_pos rfl
  have t2 : τ3 482 (120 + M 442 13) = fi := by rw [er 482 (by decide) (by decide), s2, rl]; exact zs_pos rfl
  have t3 : τ3 483 (120 + M 442 13) = se := by rw [er 483 (by decide) (by decide), s3, rl]; exact zs_pos rfl
  have t4 : τ3 484 (120 + M 442 13) = th := by rw [er 484 (by decide) (by decide), s4, rl]; exact zs_pos rfl
  have t5 : τ3 485 (120 + M 442 13) = ca := by rw [er 485 (by decide) (by decide), s5, rl]; exact zs_pos rfl
  have t6 : τ3 486 (120 + M 442 13) = si := by rw [er 486 (by decide) (by decide), s6, rl]; exact zs_pos rfl
  refine ySegE_cons (by omega) ?_ (by rw [e8]; exact g1) (by rw [e8, e9]; exact g2) (by rw [e8, e9, nn, show 120 + (M 442 13 + 1 + tn + el) = 120 + M 442 13 + 1 + tn + el by omega]; exact ySegE_nil)
  unfold okR
  rw [e8, e9, t0, t1, t2, t3, t4, t5, t6, show 120 + M 442 13 - 120 = M 442 13 by omega, ex.1 473 rfl, ex.1 474 rfl, ex.1 475 rfl, ex.1 476 rfl, ex.2, ey.1 473 rfl, ey.1 474 rfl, ey.1 475 rfl, ey.1 476 rfl, ey.2]
  refine ⟨⟨ed, fun _ => eb, hd⟩, xv_mono (V := M 441 1) hx (by rw [b2'] at vv; exact vv.1), by omega, ho, Or.inl k7, k8⟩
/-- an opened call: the reference goes into its node -/
theorem rOpenR {M0 τ0 M τ : Nat → Int → Int} {K x a E base deep lv fx gx gy yk : Int} (hpg : rProg M0 τ0) (ah : 60 * M0 467 11 ≤ a ∧ a < 60 * M0 467 11 + 60) (j2 : rPr τ0 τ 0 0 120) (j3 : rRel M τ) (j4 : rTop τ K x a E base deep lv) (nn : 0 ≤ M 442 13) (jb : 0 ≤ base ∧ base ≤ 1000) (jv : 0 ≤ M 441 1 ∧ M 441 1 ≤ 1000) (hb : 0 ≤ M0 467 11 ∧ M0 467 11 ≤ 1) (hK : 0 ≤ K ∧ K ≤ 31) (dsm : 0 ≤ deep ∧ 0 ≤ lv ∧ lv ≤ 4 ∧ deep + lv ≤ 130) (nb : lv = 0 ∨ ¬ a = τ 544 (deep + lv - 1)) (en : ¬ a = E) (al : 0 ≤ a ∧ a < 120) (y2 : M0 487 a = lv)
    (ob : (-2 ≤ M0 481 a ∧ M0 481 a ≤ 8) ∧ (-20 ≤ M0 482 a ∧ M0 482 a ≤ 999) ∧ (-20 ≤ M0 483 a ∧ M0 483 a ≤ 999) ∧ -20 ≤ M0 484 a ∧ M0 484 a ≤ 999) (c6 : M0 480 a = 6) (xx : 0 ≤ x ∧ x < 320) (z1 : τ0 523 x = gx) (z2 : τ0 526 x = fx) (gx0 : 0 ≤ gx ∧ gx < 8) (fx0 : 0 ≤ fx ∧ fx ≤ 320) (s6 : 0 ≤ M0 486 a ∧ M0 486 a ≤ 16) (s7 : 0 ≤ M0 477 (8 * M0 467 11 + gx) ∧ M0 477 (8 * M0 467 11 + gx) ≤ 16) (cl0 : fx + M0 486 a - M0 477 (8 * M0 467 11 + gx) = yk) (yk0 : 0 ≤ yk ∧ yk < 320) (z3 : τ0 523 yk = gy) (gy0 : 0 ≤ gy ∧ gy < 8)
    (vp : (0 ≤ M0 474 (8 * M0 467 11 + gy) ∧ M0 474 (8 * M0 467 11 + gy) ≤ 8) ∧ 0 ≤ M0 473 (8 * M0 467 11 + gy) ∧ M0 473 (8 * M0 467 11 + gy) ≤ 8) (ff : (0 ≤ M0 475 (8 * M0 467 11 + gy) ∧ M0 475 (8 * M0 467 11 + gy) ≤ 60) ∧ 0 ≤ M0 476 (8 * M0 467 11 + gy) ∧ M0 476 (8 * M0 467 11 + gy) ≤ 60) (hs : ¬ τ0 531 yk = 0) (n3 : M 442 13 + M0 474 (8 * M0 467 11 + gy) < 320) :
    ∃ τ' : Nat → Int → Int, rTo τ τ' ∧ rTop τ' (K + 1) yk (60 * M0 467 11 + M0 475 (8 * M0 467 11 + gy)) (60 * M0 467 11 + M0 475 (8 * M0 467 11 + gy) + M0 476 (8 * M0 467 11 + gy)) (M 441 1) (deep + lv) 0 ∧ (τ' 535 K = x ∧ τ' 536 K = a + 1 ∧ τ' 537 K = E ∧ τ' 538 K = base ∧ τ' 539 K = deep ∧ τ' 541 K = deep ∧ τ' 540 (K + 1) = a) ∧ rPr τ τ' K (deep + lv) (120 + M 442 13) ∧ (τ' 467 109 = τ 467 109 + M0 474 (8 * M0 467 11 + gy) ∧ τ' 467 110 = M 441 1 + M0 474 (8 * M0 467 11 + gy)) ∧
      (τ' 480 = zfr (τ 480) (τ 467 109) (M0 474 (8 * M0 467 11 + gy)) (fun _ => 0) ∧ τ' 481 = zfr (τ 481) (τ 467 109) (M0 474 (8 * M0 467 11 + gy)) (fun xv => M 441 1 + xv) ∧ τ' 482 = zfr (τ 482) (τ 467 109) (M0 474 (8 * M0 467 11 + gy)) (fun xv => if xv < M0 473 (8 * M0 467 11 + gy) then shf (opx (M0 482 a) (M0 483 a) (M0 484 a) xv) base else 0) ∧ τ' 483 = zfr (τ 483) (τ 467 109) (M0 474 (8 * M0 467 11 + gy)) (fun _ => -2) ∧ τ' 484 = zfr (τ 484) (τ 467 109) (M0 474 (8 * M0 467 11 + gy)) (fun _ => -2) ∧ τ' 486 = zfr (τ 486) (τ 467 109) (M0 474 (8 * M0 467 11 + gy)) (fun _ => -2) ∧ τ' 487 = zfr (τ 487) (τ 467 109) (M0 474 (8 * M0 467 11 + gy)) (fun _ => deep + lv) ∧ τ' 491 = zfr (τ 491) (τ 467 109) (M0 474 (8 * M0 467 11 + gy)) (fun _ => 0)) ∧
      (τ' 485 = zfr (τ 485) (τ 467 109) (M0 474 (8 * M0 467 11 + gy)) (fun _ => -2) ∧ τ' 488 = zfr (τ 488) (τ 467 109) (M0 474 (8 * M0 467 11 + gy)) (fun _ => 0) ∧ τ' 489 = zfr (τ 489) (τ 467 109) (M0 474 (8 * M0 467 11 + gy)) (fun _ => 0)) ∧ (τ' 545 = τ 545 ∧ τ' 467 111 = τ 467 111) := by
  have tr : ∀ c : Nat, 480 ≤ c → c ≤ 491 → τ c a = M0 c a := fun c a1 a2 => (j2.2.2.1 c a a1 a2 al.2).trans (hpg.2.1 c a a1 a2 ah.1 ah.2)
  have tq : ∀ (c : Nat) (g : Int), 473 ≤ c → c ≤ 479 → 0 ≤ g → g < 8 → τ c (8 * M0 467 11 + g) = M0 c (8 * M0 467 11 + g) := fun c g a1 a2 g0 g8 => (congrFun (j2.1 c (by unfold vCell; simp; omega)) _).trans (hpg.1 c _ a1 a2 (by omega) (by omega))
  have tb : τ 467 11 = M0 467 11 := (j2.2.1 11 (by decide)).trans hpg.2.2
  have t523 : τ 523 x = gx := by rw [j2.1 523 rfl]; exact z1
  have t526 : τ 526 x = fx := by rw [j2.1 526 rfl]; exact z2
  have t523y : τ 523 yk = gy := by rw [j2.1 523 rfl]; exact z3
  have e480 := tr 480 (by decide) (by decide)
  have e481 := tr 481 (by decide) (by decide)
  have e482 := tr 482 (by decide) (by decide)
  have e483 := tr 483 (by decide) (by decide)
  have e484 := tr 484 (by decide) (by decide)
  have e486 := tr 486 (by decide) (by decide)
  have e487 := (tr 487 (by decide) (by decide)).trans y2
  have q477 := tq 477 gx (by decide) (by decide) gx0.1 gx0.2
  have cl : τ 526 x + τ 486 a - τ 477 (8 * τ 467 11 + τ 523 x) = yk := by rw [t526, e486, tb, t523, q477]; exact cl0
  have rl := j3.1
  have RO := r_op j4 hK.1 (by omega) ⟨dsm.1, dsm.2.1, by omega⟩ nb en al jb e487 (by omega) (by rw [e481, e482, e483, e484]; omega) (by rw [e480]; exact c6) (by rw [tb]; exact hb) (by omega) (by rw [t523]; exact gx0) (by rw [t526, e486, tb, t523, q477]; omega)
  rw [cl] at RO
  have RO := RO (by omega)
  rw [tb, t523y, tq 473 gy (by decide) (by decide) gy0.1 gy0.2, tq 474 gy (by decide) (by decide) gy0.1 gy0.2, tq 475 gy (by decide) (by decide) gy0.1 gy0.2, tq 476 gy (by decide) (by decide) gy0.1 gy0.2] at RO
  have RO := RO gy0 vp ff (by rw [j3.2.1]; exact jv) (by rw [rl]; omega) (by rw [j2.1 531 rfl]; exact hs)
  rw [e482, e483, e484, j3.2.1] at RO
  obtain ⟨τ1, to1, top1, KK, pr1, nn1, rows1, rows2, le, _⟩ := RO
  refine ⟨τ1, to1, top1, KK, by rw [← rl]; exact pr1, nn1, rows1, rows2, le⟩
/-- the copies of an opened call -/
theorem rOpenM {nF : Int} {TO : Int → Int} {M0 τ0 M τ M1 τ1 : Nat → Int → Int} {K base d0 bq v PA a A B C yk F1 E1 : Int} (j1 : cPr M0 M 0) (j2 : rPr τ0 τ 0 0 120) (j3 : rRel M τ) (nn : 0 ≤ M 442 13) (j6 : 0 ≤ base) (j7 : 0 ≤ M 441 1 ∧ M 441 1 + d0 ≤ 8 + M 442 13) (k0 : 0 ≤ K) (d00 : 0 ≤ d0) (d13 : d0 ≤ 130) (v0 : 0 ≤ v ∧ v ≤ 8) (n3 : M 442 13 + v < 320) (top1 : rTop τ1 (K + 1) yk F1 E1 (M 441 1) d0 0) (pr1 : rPr τ τ1 K d0 (120 + M 442 13)) (n109 : τ1 467 109 = τ 467 109 + v) (n110 : τ1 467 110 = M 441 1 + v)
    (rows1 : τ1 480 = zfr (τ 480) (τ 467 109) v (fun _ => 0) ∧ τ1 481 = zfr (τ 481) (τ 467 109) v (fun xv => M 441 1 + xv) ∧ τ1 482 = zfr (τ 482) (τ 467 109) v (fun xv => if xv < PA then shf (opx A B C xv) base else 0) ∧ τ1 483 = zfr (τ 483) (τ 467 109) v (fun _ => -2) ∧ τ1 484 = zfr (τ 484) (τ 467 109) v (fun _ => -2) ∧ τ1 486 = zfr (τ 486) (τ 467 109) v (fun _ => -2) ∧ τ1 487 = zfr (τ 487) (τ 467 109) v (fun _ => d0) ∧ τ1 491 = zfr (τ 491) (τ 467 109) v (fun _ => 0))
    (rows2 : τ1 485 = zfr (τ 485) (τ 467 109) v (fun _ => -2) ∧ τ1 488 = zfr (τ 488) (τ 467 109) v (fun _ => 0) ∧ τ1 489 = zfr (τ 489) (τ 467 109) v (fun _ => 0)) (cm : cMany M M1 v d0 bq (fun xv => if xv < PA then shf (opx A B C xv) base else 0)) {VX : Int} (bv : base + VX ≤ M 441 1) (pa : PA ≤ 3) (oA : 0 < PA → opnd VX A) (oB : 1 < PA → opnd VX B) (oC : 2 < PA → opnd VX C) :
    rInv M0 τ0 M1 τ1 (K + 1) yk F1 E1 (M 441 1) d0 0 ∧ ySegE τ1 (okR M1 τ1 nF TO) d0 bq (120 + M 442 13) (120 + M1 442 13) ∧ ∀ xq : Int, 0 ≤ xq → opnd (M1 441 1) (if xq < PA then shf (opx A B C xq) base else 0) := by
  obtain ⟨m1, ⟨m2, m3, m4, m5⟩, ⟨q1, q2, q3, q4, q5, q6, q7, q8, q9⟩, m6, m7, m8⟩ := id cm
  obtain ⟨s0, s1, s2, s3, s4, s6, s7, s9⟩ := id rows1
  obtain ⟨r485, r488, r489⟩ := rows2
  have rl := j3.1
  refine ⟨⟨cPr_trans j1 (cMany_pr cm) nn, rPr_trans j2 pr1 k0 d00 (by omega), rRel_many v0.1 j3 m5 n109 (by rw [n110, m3]) ⟨q1, q2, q3, q4, q5, q6, q7, q9⟩ rows1, top1, m6, j7.1, by rw [m3, m5]; omega⟩, ?_, fun xq q0 => ?_⟩
  rotate_left
  · rw [m3]
    split
    · next zz =>
      unfold opx
      split
      · exact opnd_shf (oA (by omega)) j6 (by omega) (by omega)
      · split
        · exact opnd_shf (oB (by omega)) j6 (by omega) (by omega)
        · exact opnd_shf (oC (by omega)) j6 (by omega) (by omega)
    · left; omega
  refine ySegE_many v.toNat (120 + M 442 13) (fun r r0 r1 => ?_) (by rw [m5, show 120 + M 442 13 + (v.toNat : Int) = 120 + (M 442 13 + v) by omega]; exact ySegE_nil)
  have rr : 120 + M 442 13 ≤ r ∧ r < 120 + M 442 13 + v := ⟨r0, by omega⟩
  have cr : M 442 13 ≤ r - 120 ∧ r - 120 < M 442 13 + v := by omega
  rw [rl] at s0 s1 s2 s3 s4 s6 r485 r488 r489
  have x8 : τ1 488 r = 0 := by rw [r488]; exact zfr_in rr
  have x9 : τ1 489 r = 0 := by rw [r489]; exact zfr_in rr
  refine ⟨?_, x8, x9⟩
  unfold okR
  rw [x8, x9, s0, s1, s2, s3, s4, s6, r485, zfr_in rr, zfr_in rr, zfr_in rr, zfr_in rr, zfr_in rr, zfr_in rr, zfr_in rr, q7, q8, zfr_in cr, zfr_in cr, m3]
  refine ⟨⟨rfl, fun _ => rfl, d13⟩, ?_, by omega, ⟨fun z => absurd z (by decide), fun _ => ⟨rfl, rfl⟩, fun z => absurd z (by decide), fun _ => rfl⟩, Or.inr ⟨rfl, rfl⟩, fun _ => rfl⟩
  refine xv_move (by omega) ?_
  show opnd _ (if r - (120 + M 442 13) < PA then _ else 0)
  split
  · next zz =>
    unfold opx
    split
    · exact opnd_shf (oA (by omega)) j6 (by omega) (by omega)
    · split
      · exact opnd_shf (oB (by omega)) j6 (by omega) (by omega)
      · exact opnd_shf (oC (by omega)) j6 (by omega) (by omega)
  · left; omega
/-- an opened call is over -/
theorem rOpenE {U nF : Int} {TO : Int → Int} {M0 τ0 M τ M1 τ1 M' τ1' M2 : Nat → Int → Int} {K x a E base deep lv bq v G GI yk E1 : Int} {g2 : Int → Int} (hpg : rProg M0 τ0) (ah : 60 * M0 467 11 ≤ a ∧ a < 60 * M0 467 11 + 60) (eh : GI = 1 → 60 * M0 467 11 ≤ E1 - 1 ∧ E1 - 1 < 60 * M0 467 11 + 60) (k0 : 0 ≤ K ∧ K ≤ 31) (dsm : 0 ≤ deep ∧ 0 ≤ lv ∧ deep + lv ≤ 130) (nn : 0 ≤ M 442 13) (j6 : 0 ≤ base ∧ base ≤ 1000) (j7 : 0 ≤ M 441 1 ∧ M 441 1 + deep + lv ≤ 8 + M 442 13) (al : 0 ≤ a ∧ a < 120) (t481 : 0 ≤ M0 481 a ∧ M0 481 a ≤ 8 ∧ M0 481 a + base < M 441 1) (v0 : 0 ≤ v ∧ v ≤ 8)
    (to1 : rTo τ τ1) (KK : τ1 535 K = x ∧ τ1 536 K = a + 1 ∧ τ1 537 K = E ∧ τ1 538 K = base ∧ τ1 539 K = deep ∧ τ1 541 K = deep ∧ τ1 540 (K + 1) = a) (pr1 : rPr τ τ1 K (deep + lv) (120 + M 442 13)) (cm : cMany M M1 v (deep + lv) bq g2) (ys1 : ySegE τ1 (okR M1 τ1 nF TO) (deep + lv) bq (120 + M 442 13) (120 + M1 442 13)) (po1 : rPost U nF TO M0 τ0 M1 τ1 M' τ1' (K + 1) yk (E1 - GI) E1 (M 441 1) (deep + lv) 0 bq) (n3 : M' 442 13 < 320)
    (gi : GI = 0 ∨ GI = 1) (g0 : GI = 0 → G = -2) (g1 : GI = 1 → ¬ G = -2 ∧ G = M0 482 (E1 - 1) ∧ opnd v G ∧ (0 ≤ E1 - 1 ∧ E1 - 1 < 120) ∧ M0 480 (E1 - 1) = 9 ∧ (0 ≤ M0 487 (E1 - 1) ∧ M0 487 (E1 - 1) ≤ 5) ∧ ((-2 ≤ M0 481 (E1 - 1) ∧ M0 481 (E1 - 1) ≤ 1000) ∧ (-100 ≤ M0 482 (E1 - 1) ∧ M0 482 (E1 - 1) ≤ 1000) ∧ (-100 ≤ M0 483 (E1 - 1) ∧ M0 483 (E1 - 1) ≤ 1000) ∧ -100 ≤ M0 484 (E1 - 1) ∧ M0 484 (E1 - 1) ≤ 1000) ∧ (M0 491 (E1 - 1) = 0 ∨ M0 491 (E1 - 1) = 1))
    (hg2 : ∀ xq : Int, 0 ≤ xq → opnd (M1 441 1) (g2 xq)) (hk4 : deep + lv ≤ 4 * K + 4) (hU : K = 0 → U ≤ M 442 13 ∨ M' 442 13 + 1 < U)
    (hp2 : cPut M' M2 0 (M0 481 a + base) (if G = -2 then 0 else shf G (M 441 1)) (-2) (-2) (-2) (deep + lv) bq 0) :
    ∃ τ2 : Nat → Int → Int, rPost U nF TO M0 τ0 M τ M2 τ2 K x (a + 1) E base deep lv bq ∧ τ2 545 = τ1' 545 ∧ τ2 467 111 = τ1' 467 111 := by
  obtain ⟨K1, K2, K3, K4, K5, K6, K7⟩ := KK
  obtain ⟨m1, ⟨m2, m3, m4, m5⟩, ⟨mk, _, mf, _, _, _, md, _, _⟩, m6, m7, m8⟩ := id cm
  obtain ⟨i2, to2, cp2, pr2, cr2, la2, ys2, ⟨v2a, v2b, v2c⟩, w2⟩ := id po1
  obtain ⟨i2a, i2b, i2c, i2d, i2e, i2f, i2g⟩ := id i2
  rw [show deep + lv + 0 = deep + lv by omega] at cp2 pr2 la2 ys2
  have k540 : τ1' 540 (K + 1) = a := by rw [pr2.2.2.2.2.1 (K + 1) (by omega)]; exact K7
  have k538 : τ1' 538 (K + 1 - 1) = base := by rw [show K + 1 - 1 = K by omega, pr2.2.2.2.1 538 K (by decide) (by decide) (by omega)]; exact K4
  have k481 : τ1' 481 a = M0 481 a := (i2b.2.2.1 481 a (by decide) (by decide) al.2).trans (hpg.2.1 481 a (by decide) (by decide) ah.1 ah.2)
  have m109 : τ1' 467 109 = 120 + M' 442 13 := i2c.1
  have n0' := i2e.1
  have cxb : 0 ≤ τ1' 540 (K + 1) ∧ τ1' 540 (K + 1) < 520 := by rw [k540]; omega
  have xxb : (-2 ≤ τ1' 481 (τ1' 540 (K + 1)) ∧ τ1' 481 (τ1' 540 (K + 1)) ≤ 1000) ∧ 0 ≤ τ1' 538 (K + 1 - 1) ∧ τ1' 538 (K + 1 - 1) ≤ 1000 := by rw [k540, k481, k538]; omega
  have llb : 120 ≤ τ1' 467 109 ∧ τ1' 467 109 < 520 := by omega
  obtain ⟨τ2, to3, put2, ⟨tK, t108⟩, pr3, q110, ql1, ql2, op2⟩ : ∃ τ' : Nat → Int → Int, rTo τ1' τ' ∧ rPut τ1' τ' 0 (M0 481 a + base) (if G = -2 then 0 else shf G (M 441 1)) (-2) (-2) (-2) (-2) (deep + lv) 0 (-1) ∧ (K + 1 - 1 = τ' 467 107 - 1 ∧ τ' 467 108 = τ1' 467 108) ∧ rPr τ1' τ' (K + 1) (deep + lv + 1) (τ1' 467 109) ∧ τ' 467 110 = τ1' 467 110 ∧ τ' 545 = τ1' 545 ∧ τ' 467 111 = τ1' 467 111 ∧ rOp τ1' τ' := by
    rcases gi with z | z
    · rw [g0 z, if_pos rfl]
      have w := r_n1 i2d (by omega) (by omega) (by omega) (by omega) cxb xxb llb (by omega)
      rw [k540, k481, k538] at w
      exact w
    · obtain ⟨h1, h2, h3, h4, h5, h6, h7, h8⟩ := g1 z
      rw [if_neg h1, h2]
      rw [z] at i2d
      have tE : ∀ c : Nat, 480 ≤ c → c ≤ 491 → τ1' c (E1 - 1) = M0 c (E1 - 1) := fun c a1 a2 => (i2b.2.2.1 c _ a1 a2 h4.2).trans (hpg.2.1 c _ a1 a2 (eh z).1 (eh z).2)
      have w := r_gv i2d (by omega) (by omega) (by omega) (by omega) cxb xxb llb (by omega) h4 ⟨j7.1, by omega⟩ (by rw [tE 487 (by decide) (by decide)]; exact h6) (by rw [tE 481 (by decide) (by decide), tE 482 (by decide) (by decide), tE 483 (by decide) (by decide), tE 484 (by decide) (by decide)]; exact h7) (by rw [tE 491 (by decide) (by decide)]; exact h8) (by rw [tE 480 (by decide) (by decide)]; exact h5)
      rw [k540, k481, k538, tE 482 (by decide) (by decide)] at w
      exact w
  have xvm : xv (M' 441 1) (τ1' 467 11) (τ1' 473) (τ1' 474) (τ1' 475) (τ1' 476) 0 (M0 481 a + base) (if G = -2 then 0 else shf G (M 441 1)) (-2) (-2) (-2) (-2) := by
    refine xv_move (by omega) ?_
    rcases gi with z | z
    · rw [g0 z, if_pos rfl]; left; omega
    · obtain ⟨h1, _, h3, _⟩ := g1 z
      rw [if_neg h1]
      exact opnd_shf h3 j7.1 (by omega) (by omega)
  obtain ⟨rel2, cpn, ysn, lan⟩ := rLine_core (nF := nF) (TO := TO) i2c i2e cp2 hp2 put2 q110 ⟨pr3.1, pr3.2.1 11 (by decide)⟩ (by omega) xvm ⟨fun z => absurd z (by decide), fun _ => ⟨rfl, rfl⟩, fun z => absurd z (by decide), fun _ => rfl⟩ (Or.inl rfl) dsm.2.2
  obtain ⟨pA, ⟨pB, pC, pD⟩, _, pE, pF⟩ := id hp2
  have cpu := cPut_pr hp2
  have KK : ∀ c : Nat, 535 ≤ c → c ≤ 541 → τ2 c K = τ1 c K := fun c a1 a2 => (pr3.2.2.2.1 c K a1 a2 (by omega)).trans (pr2.2.2.2.1 c K a1 a2 (by omega))
  have top2 : rTop τ2 K x (a + 1) E base deep lv := by
    refine ⟨by omega, by rw [KK 535 (by decide) (by decide)]; exact K1.symm, by rw [KK 536 (by decide) (by decide)]; exact K2.symm, by rw [KK 537 (by decide) (by decide)]; exact K3.symm, by rw [KK 538 (by decide) (by decide)]; exact K4.symm, by rw [KK 539 (by decide) (by decide)]; exact K5.symm, by rw [KK 541 (by decide) (by decide)]; exact K6, ?_⟩
    rw [t108]
    have z := i2d.2.2.2.2.2.2.2
    omega
  have pr3' : rPr τ1' τ2 (K + 1) (deep + lv) (120 + M' 442 13) := by
    rw [← m109]
    exact ⟨pr3.1, pr3.2.1, pr3.2.2.1, pr3.2.2.2.1, pr3.2.2.2.2.1, fun c j a1 a2 => pr3.2.2.2.2.2 c j a1 (by omega)⟩
  have prA : rPr τ τ2 K (deep + lv) (120 + M 442 13) := rPr_trans pr1 (rPr_trans pr2 pr3' (Int.le_refl _) (Int.le_refl _) (by omega)) (by omega) (Int.le_refl _) (by omega)
  have vB : M2 441 1 = M' 441 1 := by rw [pB]
  have oG : opnd (M' 441 1) (if G = -2 then 0 else shf G (M 441 1)) := xvm.2.1 (by decide)
  have wP : rW M2 U K (M' 442 13) := rW_put hp2 (opnd_b i2g.1 oG) ⟨⟨fun z => absurd z (by decide), fun z => by have := hU z.1; omega⟩, fun z => absurd z (by decide)⟩ hk4 (by omega)
  have wE : rW M2 U K (M 442 13) := by
    intro i i0 i1
    by_cases e2 : M' 442 13 ≤ i
    · exact wP i e2 i1
    · rw [cpu.2.2.2 443 i (by decide) (by decide) (by omega), cpu.2.2.2 445 i (by decide) (by decide) (by omega), cpu.2.2.2 449 i (by decide) (by decide) (by omega)]
      by_cases e1 : M1 442 13 ≤ i
      · obtain ⟨x1, x2, k, k0, k1, k2⟩ := w2 i e1 (by omega)
        refine ⟨by omega, ⟨⟨fun z => absurd (x2.1.1 z).1 (by omega), fun z => by have := hU z.1; omega⟩, fun z => absurd (x2.1.1 z).1 (by omega)⟩, k + 1, by omega, by omega, by omega⟩
      · rw [cr2.2.2.2 443 i (by decide) (by decide) (by omega), cr2.2.2.2 445 i (by decide) (by decide) (by omega), cr2.2.2.2 449 i (by decide) (by decide) (by omega)]
        have ci : M 442 13 ≤ i ∧ i < M 442 13 + v := by omega
        rw [mk, mf, md, zfr_in ci, zfr_in ci, zfr_in ci]
        have og := opnd_b (by omega) (hg2 (i - M 442 13) (by omega))
        refine ⟨by omega, ⟨⟨fun z => absurd z (by decide), fun z => by have := hU z.1; omega⟩, fun z => absurd z (by decide)⟩, 0, by omega, by omega, by omega⟩
  refine ⟨τ2, ⟨⟨cPr_trans i2a cpu n0', rPr_trans i2b pr3' (by omega) (by omega) (by omega), rel2, top2, pF, j6.1, by omega⟩, rTo_trans to1 (rTo_trans to2 to3), cpn, prA, cPr_trans (cMany_pr cm) (cPr_trans cr2 cpu v2a) (by omega), laK_trans m8 (laK_trans la2 lan (Int.le_refl _)) (Int.le_refl _), ?_, ⟨by omega, by omega, by omega⟩, wE⟩, ql1, ql2⟩
  have y1 := ySegE_cat (ySegE_keep ys1 cr2 pr2 v2b (by omega) (by omega)) ys2
  exact ySegE_cat (ySegE_keep y1 cpu pr3' (by omega) (by omega) (by omega)) ysn
