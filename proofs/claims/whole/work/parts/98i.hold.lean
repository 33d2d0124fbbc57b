/-! The result: written by the class, for whatever the reference begins with -/
theorem tOpens_2 {A : Nat → Int → Int} {nF nS : Int} (hg : tPg A nF nS) : ∀ (n : Nat) (T T' : Nat → Int → Int), tInv A T nF nS → tOpens A n T T' → T' 2 0 = T 2 0 := by
  intro n
  induction n with
  | zero => intro T T' _ h; have e : T = T' := h; rw [e]
  | succ n ih =>
    intro T T' hI h
    rw [ih _ _ (tInv_open hg hI h.1) h.2]
    show zfr (T 2) (T 8 0) (A 1 (T 2 (tw A T))) (fun j => A 2 (A 0 (T 2 (tw A T)) + j)) 0 = T 2 0
    exact zfr_out (Or.inl (by have := hI.2.1.1; omega))
theorem tV1_kgs {A T : Nat → Int → Int} {nF nS x : Int} {c6 : Int → Int} (hA : tInv A T nF nS) (x0 : 0 ≤ x) (x1 : x < T 8 0) (T6 : T 6 x = 1) (h6 : ∀ x : Int, 0 ≤ x → x < T 8 0 → c6 x = tkp A T x) : tV A T x 1 = (if x = 0 then 0 else A 3 (T 2 x)) + nsum (kgs c6 (T 5) (fun x => tV A T x 1) x) (A 1 (T 2 x)).toNat := by
  rw [tV1_eq hA x0 x1 T6]
  congr 1
  refine nsum_congr _ (fun j j0 j1 => ?_)
  obtain ⟨q1, q2, q3, q4, q5⟩ := tkid hA x0 x1 T6 (k := T 5 x + j) (by omega) (by omega)
  show (if T 6 (T 5 x + j) = 1 then tcontr A (tV A T (T 5 x + j)) 1 else 0) = kgs c6 (T 5) (fun x => tV A T x 1) x j
  unfold kgs
  rw [h6 _ (by omega) q2]
  by_cases y : T 6 (T 5 x + j) = 1
  · rw [if_pos y, tkp_keep (by omega) y]
    unfold tcontr
    rw [if_pos (by decide)]
    rcases tkeep_01 A (tV A T (T 5 x + j)) with z | z
    · rw [z, if_neg (by decide), if_pos rfl]
    · rw [z, if_pos rfl, if_neg (by decide)]
  · rw [if_neg y, if_pos (tkp_no (by omega) y)]
/-- what the reference's memory must be at first -/
def rBeg (M τ0 A T : Nat → Int → Int) (g : Int) : Prop :=
  rProg M τ0 ∧ (∀ x : Int, 0 ≤ x → x < T 8 0 → tst A T x = 1 → τ0 523 x = M 503 (T 2 x)) ∧ (∀ x : Int, 0 ≤ x → x < T 8 0 → tst A T x = 1 → τ0 526 x = T 5 x) ∧ (∀ x k : Int, 0 ≤ x → x < T 8 0 → tst A T x = 1 → 1 ≤ k → k < T 8 0 → T 0 k = x → τ0 531 k = tkp A T k) ∧
  (rTop τ0 0 0 (60 * M 467 11 + M 475 (8 * M 467 11 + g)) (60 * M 467 11 + M 475 (8 * M 467 11 + g) + M 476 (8 * M 467 11 + g)) 0 0 0 ∧ τ0 467 109 = 120 ∧ τ0 467 110 = M 474 (8 * M 467 11 + g) ∧ τ0 467 111 = 0)
theorem rBeg_ex {M A T : Nat → Int → Int} {g : Int} : ∃ τ0 : Nat → Int → Int, rBeg M τ0 A T g := by
  refine ⟨zup (zup (zup (zup (zup (zrow (zrow (zrow (zrow (zrow (zrow (zrow (zrow (zrow M 523 (fun x => M 503 (T 2 x))) 526 (T 5)) 531 (tkp A T)) 535 (fun _ => 0)) 536 (fun _ => 60 * M 467 11 + M 475 (8 * M 467 11 + g))) 537 (fun _ => 60 * M 467 11 + M 475 (8 * M 467 11 + g) + M 476 (8 * M 467 11 + g))) 538 (fun _ => 0)) 539 (fun _ => 0)) 541 (fun _ => 0)) 467 107 1) 467 108 0) 467 109 120) 467 110 (M 474 (8 * M 467 11 + g))) 467 111 0, ⟨fun c j a b _ _ => congrFun ?_ j, fun c j a b _ _ => congrFun ?_ j, rfl⟩, fun _ _ _ _ => rfl, fun _ _ _ _ => rfl, fun _ _ _ _ _ _ _ _ => rfl, ⟨rfl, rfl, rfl, rfl, rfl, rfl, rfl, rfl⟩, rfl, rfl, rfl⟩
  · repeat (first | rw [zr_ne (by omega)] | rw [zu_ne (by omega)])
  · repeat (first | rw [zr_ne (by omega)] | rw [zu_ne (by omega)])
theorem zS_inj {P : Nat → Nat → Nat} {M N : Nat → Int → Int} (h : (zS P M) = (zS P N)) : M = N := by
  have a := congrArg (fun s : zM => s.2.2.1) h
  exact a
/-- the rows of lines and their numbers are what is looked at -/
theorem rFin_n0 {nF : Int} {TO : Int → Int} {M τ0 τ' τ2 : Nat → Int → Int} {l : List Int} {r0 : Int → Int} (hto : rTo τ0 τ') (to2 : rTo τ' τ2) (hn : τ2 467 107 = 0) (E : ∀ c : Nat, ¬ c = 467 → τ2 c = τ' c) (e : ∀ k : Int, ¬ k = 107 → τ2 467 k = τ' 467 k) (rel : rRel M τ') (ys : ySegE τ' (okR M τ' nF TO) 0 0 120 (120 + M 442 13)) (cl : cL (M 449) (M 450) (M 452) (M 453) (M 454) (M 455) (M 442 13)) (lf : rLeft τ' r0 l) (pr : rPr τ0 τ' 0 0 120) (sz : 0 ≤ M 442 13 ∧ M 442 13 ≤ 300) (vs : 0 ≤ M 441 1 ∧ M 441 1 ≤ 8 + M 442 13) : rFin M τ0 τ2 nF TO l := by
  refine ⟨rTo_trans hto to2, hn, rRel_more rel (e 109 (by decide)) (e 110 (by decide)) ⟨E 480 (by decide), E 481 (by decide), E 482 (by decide), E 483 (by decide), E 484 (by decide), E 486 (by decide), E 487 (by decide), E 491 (by decide)⟩, ?_, cl, ⟨r0, rLeft_same lf (E 545 (by decide)) (e 111 (by decide))⟩, ⟨fun c hc => ?_, fun k hk => ?_, fun c j a b d => ?_, fun c j a b d => ?_, fun j hj => ?_, fun c j a b => ?_⟩, sz, vs⟩
  · refine ySegE_rng ys (fun r _ _ => ⟨by rw [E 488 (by decide)], by rw [E 489 (by decide)]⟩) (fun lv br r _ _ q => ?_) okR_pos
    unfold okR at q ⊢
    rw [e 11 (by decide), E 473 (by decide), E 474 (by decide), E 475 (by decide), E 476 (by decide), E 480 (by decide), E 481 (by decide), E 482 (by decide), E 483 (by decide), E 484 (by decide), E 485 (by decide), E 486 (by decide), E 488 (by decide), E 489 (by decide)]
    exact q
  · rw [E c (fun z => by subst z; exact absurd hc (by decide))]; exact pr.1 c hc
  · rw [e k (by omega)]; exact pr.2.1 k hk
  · rw [E c (by omega)]; exact pr.2.2.1 c j a b d
  · rw [E c (by omega)]; exact pr.2.2.2.1 c j a b d
  · rw [E 540 (by decide)]; exact pr.2.2.2.2.1 j hj
  · rw [E c (by omega)]; exact pr.2.2.2.2.2 c j a b
/-- the tree's other columns -/
def tCols (M A T : Nat → Int → Int) : Prop := (∀ i : Int, 0 ≤ i ∧ i < 320 → M (zcall i) 2 = T 0 i ∧ M (zcall i) 0 = T 1 i ∧ M (zcall i) 4 = T 4 i ∧ M (zcall i) 8 = T 7 i) ∧ (∀ k : Int, 1 ≤ k → k < T 8 0 → M (zcall k) 7 = trec A T k) ∧ ∃ n0 : Int → Int, ∀ i : Int, 0 ≤ i ∧ i < 320 → M (zcall i) 11 = znum n0 0 (tPre A T 0) i
/-- the tree at hand, and what it gives of a result -/
theorem rPrem_ex_33 {M : Nat → Int → Int} {f : Int} (hip : iprog 33 M) (hx : ipx 33 M) (hs : iset M) (f0 : 0 ≤ f) (f1 : f < M 33 0) (hh : tHold 33 M f) : ∃ (A T G : Nat → Int → Int), tPg A (M 469 (M 467 11)) (M 471 (M 467 11)) ∧ tInv A T (M 469 (M 467 11)) (M 471 (M 467 11)) ∧ (∃ (n : Nat) (T0 : Nat → Int → Int), tOpens A n (tlay A (troot T0 f (M 22 f) (M 39 f)) 0) T) ∧ tw A T = -1 ∧ A = tD (M 40) (M 41) (M 45) (M 43) (M 37) (M 47) (M 22) (M 23) (M 120) ∧ (∀ k : Int, 0 ≤ k → k < 4 → M 120 k = M 19 k) ∧ (M 116 4 = ((tLft A T 0).length : Int) ∧ ∃ n0 : Int → Int, M 119 = zlst n0 0 (tLft A T 0)) ∧ (T 2 0 = f ∧ M (zcall 0) 1 = f) ∧ tCols M A T ∧
    ∀ τ0 : Nat → Int → Int, rBeg M τ0 A T (M 503 f) → rPrem 33 M τ0 G (tLft A T) (fun x => 0 ≤ x ∧ x < T 8 0 ∧ tst A T x = 1) := by
  obtain ⟨i1, ⟨i2, i2b, i2c⟩, i3, i4, i5, i6, i7, i8⟩ := id hip
  have px := px_33 hip hx hs
  obtain ⟨c0, c1, c2, c3, c4, c5, c6, c7, c8, c9, c10, c11, c12, c13, c14, ⟨g0, g1, g2, g3, g4, g5, g6, g7, g8, g9, g10, g11, g12, g13, g14⟩, hh, hr⟩ := hh
  have hgA := tPg_set px.1.1 hr
  obtain ⟨n, g, y0, T0, q1, q2, q3, q4, ⟨q5a, ⟨n9, q5b⟩, ⟨n11, q5c⟩⟩, ⟨q6, q7, q8⟩, q9, q10, q11, q12⟩ := hh
  have h33 := px.1.2 f f0 f1
  rw [i2, i2b] at hgA q12
  have f1' : f < M 469 (M 467 11) := by rw [← i2]; exact f1
  obtain ⟨A, eA⟩ : ∃ A : Nat → Int → Int, A = tD (M 40) (M 41) (M 45) (M 43) (M 37) (M 47) (M 22) (M 23) (M 120) := ⟨_, rfl⟩
  obtain ⟨T, eT⟩ : ∃ T : Nat → Int → Int, T = tT c2 c0 c1 c3 c4 c5 g c8 (M 116 8) y0 (M 116 10) := ⟨_, rfl⟩
  have hgA : tPg A (M 469 (M 467 11)) (M 471 (M 467 11)) := by rw [eA]; exact hgA
  have q1 : tOpens A n (tlay A (troot T0 f (M 22 f) (M 39 f)) 0) T := by rw [eA, eT]; exact q1
  have q2 : tw A T = -1 := by rw [eA, eT]; exact q2
  have q12 : tInv A T (M 469 (M 467 11)) (M 471 (M 467 11)) := by rw [eA, eT]; exact q12
  have q3 : ∀ x : Int, 0 ≤ x → x < T 8 0 → c6 x = tkp A T x := by rw [eA, eT]; exact q3
  have q7 : M 116 4 = ((tLft A T 0).length : Int) := by rw [eA, eT]; exact q7
  have q5b : M 119 = zlst n9 0 (tLft A T 0) := by rw [eA, eT]; exact q5b
  have q10 : tCX A T c7 c9 c10 ∧ c9 0 = 0 ∧ c10 0 = 0 := by rw [eA, eT]; exact q10
  have q5c : c11 = znum n11 0 (tPre A T 0) := by rw [eA, eT]; exact q5c
  have A0 : ∀ k : Int, A 0 k = M 40 k := fun k => by rw [eA]; rfl
  have A1 : ∀ k : Int, A 1 k = M 41 k := fun k => by rw [eA]; rfl
  have A2 : ∀ k : Int, A 2 k = M 45 k := fun k => by rw [eA]; rfl
  have A3 : ∀ k : Int, A 3 k = M 43 k := fun k => by rw [eA]; rfl
  have a1 : A 1 f ≤ M 39 f ∧ M 39 f ≤ 300 := by rw [A1]; have z : 0 ≤ M 41 f ∧ M 41 f ≤ M 39 f ∧ M 39 f ≤ 60 := h33; omega
  have a0 : 0 ≤ A 1 f := by rw [A1]; exact h33.1
  have I0 : tInv A (tlay A (troot T0 f (M 22 f) (M 39 f)) 0) (M 469 (M 467 11)) (M 471 (M 467 11)) := tInv_lay hgA (tInv_root (f := f) (e := M 22 f) ⟨f0, f1'⟩ a1 i6.2.2.1.2) rfl rfl rfl rfl rfl rfl rfl rfl rfl rfl rfl
  have t2 : T 2 0 = f := by
    rw [tOpens_2 hgA n _ _ I0 q1]
    show zfr (zs (T0 2) 0 f) 1 (A 1 (zs (T0 2) 0 f 0)) (fun j => A 2 (A 0 (zs (T0 2) 0 f 0) + j)) 0 = f
    rw [zfr_out (Or.inl (by decide)), zs_pos rfl]
  have T2 : T 2 = c1 := by rw [eT]; rfl
  have T3 : T 3 = c3 := by rw [eT]; rfl
  have T5 : T 5 = c5 := by rw [eT]; rfl
  have sz := tas_opens hgA n _ _ I0 q1
  have rt := tas_root (A := A) (T := T0) (f := f) (e := M 22 f) (z := M 39 f) a0
  rw [rt.1, rt.2] at sz
  have s1 := tV1_size hgA q12
  have s2 := q12.2.1
  have k0 := tV1_kgs q12 (x := 0) (by decide) (by omega) q12.2.2.2.1.1 q3
  rw [if_pos rfl] at k0
  have pf := i6.1 f f0 f1'
  have pk := hx.1 f f0 f1'
  have lf := tLft_few hgA q12
  refine ⟨A, T, tD (T 2) (fun x => M 503 (T 2 x)) (T 5) (T 3) c6 (fun x => tV A T x 1) (fun _ => T 8 0) c0 c0, hgA, q12, ⟨n, T0, q1⟩, q2, eA, hr, ⟨q7, n9, q5b⟩, ⟨t2, by rw [g1 0 (by decide), ← T2]; exact t2⟩, ?_, fun τ0 w => ?_⟩
  · refine ⟨fun i hi => ?_, fun k k0 k1 => ?_, n11, fun i hi => ?_⟩
    · rw [eT]; exact ⟨g2 i hi, g0 i hi, g4 i hi, g8 i hi⟩
    · rw [g7 k (by omega)]; exact (q10.1 k k0 k1).1
    · rw [g11 i hi, q5c]
  obtain ⟨w1, w2, w3, w4, w5⟩ := w
  have tr := rTr_of_33 (τ0 := τ0) hip hx hgA q12 A0 A1 A2 A3 q3 w2 w3 w4
  refine ⟨w1, ⟨fun i hi => ?_, fun i hi => ?_, fun i hi => ?_, fun i hi => ?_⟩, tr, ⟨⟨Int.le_refl _, by omega, tst_0 q12⟩, q12.1.1.2⟩, ⟨?_, ?_⟩, ?_⟩
  · show M (zcall i) 1 = T 2 i
    rw [T2]; exact g1 i hi
  · show M (zcall i) 3 = T 3 i
    rw [T3]; exact g3 i hi
  · show M (zcall i) 5 = T 5 i
    rw [T5]; exact g5 i hi
  · exact g6 i hi
  · show M 476 (8 * M 467 11 + M 503 (T 2 0)) + nsum (kgs c6 (T 5) (fun x => tV A T x 1) 0) (M 478 (8 * M 467 11 + M 503 (T 2 0))).toNat ≤ 300
    have e8 : A 1 (T 2 0) = M 478 (8 * M 467 11 + M 503 (T 2 0)) := by rw [t2, A1]; exact pk.2.1
    rw [e8] at k0
    have e6 : M 39 f = M 476 (8 * M 467 11 + M 503 f) := pf.2.2.2.2
    rw [t2] at k0 ⊢
    omega
  · omega
  · show rTop τ0 0 0 (60 * M 467 11 + M 475 (8 * M 467 11 + M 503 (T 2 0))) (60 * M 467 11 + M 475 (8 * M 467 11 + M 503 (T 2 0)) + M 476 (8 * M 467 11 + M 503 (T 2 0))) 0 0 0 ∧ τ0 467 109 = 120 ∧ τ0 467 110 = M 474 (8 * M 467 11 + M 503 (T 2 0)) ∧ τ0 467 111 = 0
    rw [t2]; exact w5
theorem tHold_ne_33 {M A : Nat → Int → Int} {f : Int} (l : ∀ c : Nat, c < 441 → ¬ (91 ≤ c ∧ c ≤ 115) → ¬ c = 16 → A c = M c) (h : tHold 33 M f) : tHold 33 A f := by
  obtain ⟨c0, c1, c2, c3, c4, c5, c6, c7, c8, c9, c10, c11, c12, c13, c14, hc, hh, hr⟩ := h
  refine ⟨c0, c1, c2, c3, c4, c5, c6, c7, c8, c9, c10, c11, c12, c13, c14, ?_, ?_, ?_⟩
  · obtain ⟨h0, h1, h2, h3, h4, h5, h6, h7, h8, h9, h10, h11, h12, h13, h14⟩ := hc
    exact ⟨fun i hi => by rw [l _ (by have := zcall_in hi; omega) (by have := zcall_in hi; omega) (by have := zcall_in hi; omega)]; exact h0 i hi, fun i hi => by rw [l _ (by have := zcall_in hi; omega) (by have := zcall_in hi; omega) (by have := zcall_in hi; omega)]; exact h1 i hi, fun i hi => by rw [l _ (by have := zcall_in hi; omega) (by have := zcall_in hi; omega) (by have := zcall_in hi; omega)]; exact h2 i hi, fun i hi => by rw [l _ (by have := zcall_in hi; omega) (by have := zcall_in hi; omega) (by have := zcall_in hi; omega)]; exact h3 i hi, fun i hi => by rw [l _ (by have := zcall_in hi; omega) (by have := zcall_in hi; omega) (by have := zcall_in hi; omega)]; exact h4 i hi, fun i hi => by rw [l _ (by have := zcall_in hi; omega) (by have := zcall_in hi; omega) (by have := zcall_in hi; omega)]; exact h5 i hi, fun i hi => by rw [l _ (by have := zcall_in hi; omega) (by have := zcall_in hi; omega) (by have := zcall_in hi; omega)]; exact h6 i hi, fun i hi => by rw [l _ (by have := zcall_in hi; omega) (by have := zcall_in hi; omega) (by have := zcall_in hi; omega)]; exact h7 i hi, fun i hi => by rw [l _ (by have := zcall_in hi; omega) (by have := zcall_in hi; omega) (by have := zcall_in hi; omega)]; exact h8 i hi, fun i hi => by rw [l _ (by have := zcall_in hi; omega) (by have := zcall_in hi; omega) (by have := zcall_in hi; omega)]; exact h9 i hi, fun i hi => by rw [l _ (by have := zcall_in hi; omega) (by have := zcall_in hi; omega) (by have := zcall_in hi; omega)]; exact h10 i hi, fun i hi => by rw [l _ (by have := zcall_in hi; omega) (by have := zcall_in hi; omega) (by have := zcall_in hi; omega)]; exact h11 i hi, fun i hi => by rw [l _ (by have := zcall_in hi; omega) (by have := zcall_in hi; omega) (by have := zcall_in hi; omega)]; exact h12 i hi, fun i hi => by rw [l _ (by have := zcall_in hi; omega) (by have := zcall_in hi; omega) (by have := zcall_in hi; omega)]; exact h13 i hi, fun i hi => by rw [l _ (by have := zcall_in hi; omega) (by have := zcall_in hi; omega) (by have := zcall_in hi; omega)]; exact h14 i hi⟩
  · rw [l (33 + 7) (by decide) (by decide) (by decide), l (33 + 8) (by decide) (by decide) (by decide), l (33 + 12) (by decide) (by decide) (by decide), l (33 + 10) (by decide) (by decide) (by decide), l (33 + 4) (by decide) (by decide) (by decide), l (33 + 14) (by decide) (by decide) (by decide), l 22 (by decide) (by decide) (by decide), l 23 (by decide) (by decide) (by decide), l 120 (by decide) (by decide) (by decide), l 118 (by decide) (by decide) (by decide), l 119 (by decide) (by decide) (by decide), l 116 (by decide) (by decide) (by decide), l (33 + 6) (by decide) (by decide) (by decide), l 33 (by decide) (by decide) (by decide)]
    exact hh
  · rw [l 120 (by decide) (by decide) (by decide), l 19 (by decide) (by decide) (by decide)]; exact hr
/-- the class writes the result -/
theorem write_h_33 {d : Nat} {P : Nat → Nat → Nat} {M : Nat → Int → Int} {Q : zQ} {f : Int} (hip : iprog 33 M) (hx : ipx 33 M) (hs : iset M) (f0 : 0 ≤ f) (f1 : f < M 33 0) (hh : tHold 33 M f)
    (hQ : ∀ M' : Nat → Int → Int, (∀ c : Nat, ¬ (441 ≤ c ∧ c ≤ 455) → M' c = M c) → rHold 33 M' f → Q (zS (zupN P 441 3 33) M') none) : WC (d + 71) 255 [vR 441, vR 33, vR 116] (zS P M) Q := by
  obtain ⟨i1, ⟨i2, i2b, i2c⟩, i3, i4, i5, i6, i7, i8⟩ := id hip
  have f1' : f < M 469 (M 467 11) := by rw [← i2]; exact f1
  obtain ⟨A, T, G, z1, z2, z3, z4, z5, z6, z7, ⟨z8, z9⟩, zc, z10⟩ := rPrem_ex_33 hip hx hs f0 f1 hh
  have pf := i6.1 f f0 f1'
  have pv := (i8 (M 503 f) pf.1.1 pf.1.2)
  refine write_c_33 (d := d) (HK1 := fun M' => (∀ c : Nat, ¬ (441 ≤ c ∧ c ≤ 455) → M' c = M c) ∧ rHold 33 M' f) (zcl M 1) (fun _ _ => rfl) (by show 0 ≤ M (zcall 0) 1 ∧ M (zcall 0) 1 < 8; rw [z9]; have := i6.2.2.1.2; omega) (fun Q' hq => ?_) (fun M1 hk => hQ M1 hk.1 hk.2)
  have e0 : zcl M 1 0 = f := z9
  rw [e0]
  obtain ⟨M1, eM⟩ : ∃ M1 : Nat → Int → Int, M1 = zup (zup (zup M 441 1 (M 37 f)) 441 2 (M 36 f)) 442 13 0 := ⟨_, rfl⟩
  rw [← eM]
  have fr : ∀ c : Nat, ¬ (441 ≤ c ∧ c ≤ 455) → M1 c = M c := fun c hc => by rw [eM, zu_ne (by omega), zu_ne (by omega), zu_ne (by omega)]
  have fp : FrP M M1 := ⟨congrFun (fr 467 (by decide)) 11, fun c hc => fr c (by unfold gCell at hc; simp at hc; omega)⟩
  have hip1 := iprog_fr33 fp hip
  have hx1 := ipx_fr33 fp hx
  have hs1 : iset M1 := by unfold iset; rw [fr 19 (by decide), fr 506 (by decide)]; exact hs
  have hh1 : tHold 33 M1 f := tHold_ne_33 (fun c hc _ _ => fr c (by omega)) hh
  have v1 : M1 441 1 = M 37 f := by rw [eM]; rfl
  have v2 : M1 441 2 = M 36 f := by rw [eM]; rfl
  have v3 : M1 442 13 = 0 := by rw [eM]; rfl
  obtain ⟨A, T, G, y1, y2, y3, y4, y5, y6, y7, ⟨y8, y9⟩, yc, y10⟩ := rPrem_ex_33 hip1 hx1 hs1 f0 (by rw [fr 33 (by decide)]; exact f1) hh1
  obtain ⟨τb, hb⟩ := rBeg_ex (M := M1) (A := A) (T := T) (g := M1 503 f)
  have base := y10 τb hb
  have one : ∀ i : {q : (Nat → Int → Int) × (Nat → Int → Int) × (Int → List Int) × (Int → Prop) // rPrem 33 M1 q.1 q.2.1 q.2.2.1 q.2.2.2}, WC (d + 70) 256 [vR 441, vR 116, vR 121, vI 0, vI 0, vI 0] (zS (zupN P 441 3 33) M1) (fun σ r => r = none ∧ ∃ M' : Nat → Int → Int, σ = zS (zupN P 441 3 33) M' ∧ cPr M1 M' 0 ∧ (M1 441 1 ≤ M' 441 1 ∧ rW M' (if M1 (33 + 9) f = -2 then -1 else M' 442 13) 0 0 ∧ (¬ M1 (33 + 9) f = -2 → 1 ≤ M' 442 13)) ∧ ∃ τ' : Nat → Int → Int, rFin M' i.1.1 τ' (M1 469 (M1 467 11)) (TOg M1) (i.1.2.2.1 0)) := by
    rintro ⟨⟨τ0, G, lf, ND⟩, hq⟩
    have hq : rPrem 33 M1 τ0 G lf ND := hq
    obtain ⟨r1, ⟨r2, r3, r4, r5⟩, r6, ⟨r7, r8⟩, ⟨r9, r10⟩, r11, r12, r13, r14⟩ := hq
    obtain ⟨u1, ⟨u2, u2b, u2c⟩, u3, u4, u5, u6, u7, u8⟩ := id hip1
    have w := r6 0 r7
    have g0 : G 0 0 = f := by rw [← r2 0 (by decide)]; rw [fr _ (by decide)]; exact z9
    have w3 := w.2.1.2.2.2.1
    have w4 : M1 37 (G 0 0) = M1 474 (8 * M1 467 11 + G 1 0) := w3
    have vv : M1 441 1 = M1 474 (8 * M1 467 11 + G 1 0) := by rw [v1, ← w4, g0, fr 37 (by decide)]
    have vb := u8 (G 1 0) w.2.1.2.1.1 w.2.1.2.1.2.1
    have i0 : rInv M1 τ0 M1 τ0 0 0 (60 * M1 467 11 + M1 475 (8 * M1 467 11 + G 1 0)) (60 * M1 467 11 + M1 475 (8 * M1 467 11 + G 1 0) + M1 476 (8 * M1 467 11 + G 1 0)) 0 0 0 := by
      refine ⟨cPr_refl, rPr_refl, ⟨by rw [r12, v3]; rfl, by rw [r13, vv], fun j a b => by omega⟩, r11, ?_, Int.le_refl _, by omega⟩
      rw [v3]; exact cL_0
    have cp : cP (M1 449) (M1 452) (M1 455) (M1 442 13) 0 0 := ⟨⟨Int.le_refl _, Or.inl rfl⟩, fun y => absurd y (by decide)⟩
    refine rRoot_33 (d := d) (U := if M1 479 (8 * M1 467 11 + G 1 0) = 1 then M1 476 (8 * M1 467 11 + G 1 0) + nsum (kgs (G 4) (G 2) (G 5) 0) (M1 478 (8 * M1 467 11 + G 1 0)).toNat else -1) (nF := M1 469 (M1 467 11)) (TO := TOg M1) (m := G 6 0) (lf := lf) (r0 := τ0 545) u1 (by omega) u5 (fun l l0 l1 => (hx1.2.2.2.2.2.2 l l0 l1).1) r1 r2 r3 r4 r5 (rFun_of_33 hip1 hx1) r6 r7 r8 i0 cp (by omega) v3 (by omega) ⟨rfl, r14⟩ r10 rfl (fun M' τ' po cn lft => ?_)
    obtain ⟨⟨s1, s2, s3, s4, s5, s6, s7⟩, s8, s9, s10, s11, s12, s13, s14, s15⟩ := po
    obtain ⟨τ2, o1, o2, o3, o4⟩ := r_n0 s4 (by omega) rfl
    obtain ⟨SN, hfu⟩ := rFun_of_33 hip1 hx1 (G 1 0) w.2.1.2.1.1 w.2.1.2.1.2.1
    have gy : M1 (33 + 9) f = ygiv M1 (G 1 0) := by rw [← g0]; exact w.2.1.2.2.2.2.2.2.2
    have kp : 0 ≤ nsum (kgs (G 4) (G 2) (G 5) 0) (M1 478 (8 * M1 467 11 + G 1 0)).toNat := nsum_pos _ (fun j j0 j1 => by
      unfold kgs
      split
      · exact Int.le_refl _
      · next zz =>
        rcases (w.2.2.2.2.2.2.2 j j0 (by omega)).2 with y | y
        · exact absurd y zz
        · exact (r6 _ y.2.1).2.2.2.2.2.1.1)
    have uN : ¬ M1 (33 + 9) f = -2 → 1 ≤ M' 442 13 := fun q => by
      rcases hfu.1.2.2.1 with z | z
      · rw [gy] at q; unfold ygiv at q; rw [if_pos z] at q; exact absurd rfl q
      · have := (hfu.2.2.2 z).1; omega
    have uE : (if M1 (33 + 9) f = -2 then -1 else M' 442 13) = (if M1 479 (8 * M1 467 11 + G 1 0) = 1 then M1 476 (8 * M1 467 11 + G 1 0) + nsum (kgs (G 4) (G 2) (G 5) 0) (M1 478 (8 * M1 467 11 + G 1 0)).toNat else -1) := by
      have fgv := hfu.2.2.2
      have f3 := hfu.1.2.2.1
      rw [gy, cn]
      unfold ygiv
      rcases f3 with z | z
      · rw [if_pos z, if_pos rfl, if_neg (by omega)]
      · rw [if_neg (show ¬ M1 479 (8 * M1 467 11 + G 1 0) = 0 by omega), if_neg (fgv z).2.2, if_pos z]
    refine ⟨rfl, M', rfl, s1, ⟨s14.2.1, by rw [uE]; rw [v3] at s15; exact s15, uN⟩, τ2, rFin_n0 s8 o1 o2 o3 o4 s3 ?_ s5 lft s2 ?_ ⟨s7.1, by have := s7.2; omega⟩⟩
    · have z : ySegE τ' (okR M' τ' (M1 469 (M1 467 11)) (TOg M1)) (0 + 0) 0 (120 + M1 442 13) (120 + M' 442 13) := s13
      rw [v3] at z; exact z
    · have := s5.1; omega
  refine WC_all (by decide) (one ⟨(τb, G, tLft A T, fun x => 0 ≤ x ∧ x < T 8 0 ∧ tst A T x = 1), base⟩) one (fun σ r h0 hI => ?_)
  obtain ⟨e1, M', e2, e3, e4, _⟩ := h0
  subst e1
  subst e2
  refine hq M' ⟨fun c hc => (e3.1 c hc).trans (fr c hc), ?_, ?_, fun τ0 G lf ND w => ?_⟩
  · refine ⟨by rw [e3.2.1 2 (by decide), v2, e3.1 36 (by decide), fr 36 (by decide)], ?_⟩
    rw [e3.1 (33 + 9) (by decide)]; exact e4.2
  · have a : M' 36 f = M 36 f := by rw [e3.1 36 (by decide), fr 36 (by decide)]
    have b1 : M 36 f = M 473 (8 * M 467 11 + M 503 f) := pf.2.1
    have b2 : M 37 f = M 474 (8 * M 467 11 + M 503 f) := pf.2.2.1
    have e4 := e4.1
    show M' 36 f ≤ M' 441 1
    omega
  · have fl : FrL M1 M' := ⟨congrFun (e3.1 467 (by decide)) 11, fun c a b _ => e3.1 c (by omega), ⟨e3.1 503 (by decide), e3.1 504 (by decide)⟩, fun c j a b _ => congrFun (e3.1 c (by omega)) j⟩
    have w1 := rPrem_fr (p := 33) (by decide) (fun c a b => e3.1 c (by omega)) (fun c a b => e3.1 c (by omega)) fl hip1 hx1 w
    obtain ⟨_, M2, m1, m2, m3, τ', m4⟩ := hI ⟨(τ0, G, lf, ND), w1⟩
    have em := zS_inj m1
    subst em
    refine ⟨τ', ?_⟩
    rw [frL_tog fl hip1 hx1, fl.1, e3.1 469 (by decide)]
    exact m4
/-- the tree at hand, and what it gives of a result -/
theorem rPrem_ex_62 {M : Nat → Int → Int} {f : Int} (hip : iprog 62 M) (hx : ipx 62 M) (hs : iset M) (f0 : 0 ≤ f) (f1 : f < M 62 0) (hh : tHold 62 M f) : ∃ (A T G : Nat → Int → Int), tPg A (M 469 (M 467 11)) (M 471 (M 467 11)) ∧ tInv A T (M 469 (M 467 11)) (M 471 (M 467 11)) ∧ (∃ (n : Nat) (T0 : Nat → Int → Int), tOpens A n (tlay A (troot T0 f (M 22 f) (M 68 f)) 0) T) ∧ tw A T = -1 ∧ A = tD (M 69) (M 70) (M 74) (M 72) (M 66) (M 76) (M 22) (M 23) (M 120) ∧ (∀ k : Int, 0 ≤ k → k < 4 → M 120 k = M 19 k) ∧ (M 116 4 = ((tLft A T 0).length : Int) ∧ ∃ n0 : Int → Int, M 119 = zlst n0 0 (tLft A T 0)) ∧ (T 2 0 = f ∧ M (zcall 0) 1 = f) ∧ tCols M A T ∧
    ∀ τ0 : Nat → Int → Int, rBeg M τ0 A T (M 503 f) → rPrem 62 M τ0 G (tLft A T) (fun x => 0 ≤ x ∧ x < T 8 0 ∧ tst A T x = 1) := by
  obtain ⟨i1, ⟨i2, i2b, i2c⟩, i3, i4, i5, i6, i7, i8⟩ := id hip
  have px := px_62 hip hx hs
  obtain ⟨c0, c1, c2, c3, c4, c5, c6, c7, c8, c9, c10, c11, c12, c13, c14, ⟨g0, g1, g2, g3, g4, g5, g6, g7, g8, g9, g10, g11, g12, g13, g14⟩, hh, hr⟩ := hh
  have hgA := tPg_set px.1.1 hr
  obtain ⟨n, g, y0, T0, q1, q2, q3, q4, ⟨q5a, ⟨n9, q5b⟩, ⟨n11, q5c⟩⟩, ⟨q6, q7, q8⟩, q9, q10, q11, q12⟩ := hh
  have h33 := px.1.2 f f0 f1
  rw [i2, i2b] at hgA q12
  have f1' : f < M 469 (M 467 11) := by rw [← i2]; exact f1
  obtain ⟨A, eA⟩ : ∃ A : Nat → Int → Int, A = tD (M 69) (M 70) (M 74) (M 72) (M 66) (M 76) (M 22) (M 23) (M 120) := ⟨_, rfl⟩
  obtain ⟨T, eT⟩ : ∃ T : Nat → Int → Int, T = tT c2 c0 c1 c3 c4 c5 g c8 (M 116 8) y0 (M 116 10) := ⟨_, rfl⟩
  have hgA : tPg A (M 469 (M 467 11)) (M 471 (M 467 11)) := by rw [eA]; exact hgA
  have q1 : tOpens A n (tlay A (troot T0 f (M 22 f) (M 68 f)) 0) T := by rw [eA, eT]; exact q1
  have q2 : tw A T = -1 := by rw [eA, eT]; exact q2
  have q12 : tInv A T (M 469 (M 467 11)) (M 471 (M 467 11)) := by rw [eA, eT]; exact q12
  have q3 : ∀ x : Int, 0 ≤ x → x < T 8 0 → c6 x = tkp A T x := by rw [eA, eT]; exact q3
  have q7 : M 116 4 = ((tLft A T 0).length : Int) := by rw [eA, eT]; exact q7
  have q5b : M 119 = zlst n9 0 (tLft A T 0) := by rw [eA, eT]; exact q5b
  have q10 : tCX A T c7 c9 c10 ∧ c9 0 = 0 ∧ c10 0 = 0 := by rw [eA, eT]; exact q10
  have q5c : c11 = znum n11 0 (tPre A T 0) := by rw [eA, eT]; exact q5c
  have A0 : ∀ k : Int, A 0 k = M 69 k := fun k => by rw [eA]; rfl
  have A1 : ∀ k : Int, A 1 k = M 70 k := fun k => by rw [eA]; rfl
  have A2 : ∀ k : Int, A 2 k = M 74 k := fun k => by rw [eA]; rfl
  have A3 : ∀ k : Int, A 3 k = M 72 k := fun k => by rw [eA]; rfl
  have a1 : A 1 f ≤ M 68 f ∧ M 68 f ≤ 300 := by rw [A1]; have z : 0 ≤ M 70 f ∧ M 70 f ≤ M 68 f ∧ M 68 f ≤ 60 := h33; omega
  have a0 : 0 ≤ A 1 f := by rw [A1]; exact h33.1
  have I0 : tInv A (tlay A (troot T0 f (M 22 f) (M 68 f)) 0) (M 469 (M 467 11)) (M 471 (M 467 11)) := tInv_lay hgA (tInv_root (f := f) (e := M 22 f) ⟨f0, f1'⟩ a1 i6.2.2.1.2) rfl rfl rfl rfl rfl rfl rfl rfl rfl rfl rfl
  have t2 : T 2 0 = f := by
    rw [tOpens_2 hgA n _ _ I0 q1]
    show zfr (zs (T0 2) 0 f) 1 (A 1 (zs (T0 2) 0 f 0)) (fun j => A 2 (A 0 (zs (T0 2) 0 f 0) + j)) 0 = f
    rw [zfr_out (Or.inl (by decide)), zs_pos rfl]
  have T2 : T 2 = c1 := by rw [eT]; rfl
  have T3 : T 3 = c3 := by rw [eT]; rfl
  have T5 : T 5 = c5 := by rw [eT]; rfl
  have sz := tas_opens hgA n _ _ I0 q1
  have rt := tas_root (A := A) (T := T0) (f := f) (e := M 22 f) (z := M 68 f) a0
  rw [rt.1, rt.2] at sz
  have s1 := tV1_size hgA q12
  have s2 := q12.2.1
  have k0 := tV1_kgs q12 (x := 0) (by decide) (by omega) q12.2.2.2.1.1 q3
  rw [if_pos rfl] at k0
  have pf := i6.1 f f0 f1'
  have pk := hx.1 f f0 f1'
  have lf := tLft_few hgA q12
  refine ⟨A, T, tD (T 2) (fun x => M 503 (T 2 x)) (T 5) (T 3) c6 (fun x => tV A T x 1) (fun _ => T 8 0) c0 c0, hgA, q12, ⟨n, T0, q1⟩, q2, eA, hr, ⟨q7, n9, q5b⟩, ⟨t2, by rw [g1 0 (by decide), ← T2]; exact t2⟩, ?_, fun τ0 w => ?_⟩
  · refine ⟨fun i hi => ?_, fun k k0 k1 => ?_, n11, fun i hi => ?_⟩
    · rw [eT]; exact ⟨g2 i hi, g0 i hi, g4 i hi, g8 i hi⟩
    · rw [g7 k (by omega)]; exact (q10.1 k k0 k1).1
    · rw [g11 i hi, q5c]
  obtain ⟨w1, w2, w3, w4, w5⟩ := w
  have tr := rTr_of_62 (τ0 := τ0) hip hx hgA q12 A0 A1 A2 A3 q3 w2 w3 w4
  refine ⟨w1, ⟨fun i hi => ?_, fun i hi => ?_, fun i hi => ?_, fun i hi => ?_⟩, tr, ⟨⟨Int.le_refl _, by omega, tst_0 q12⟩, q12.1.1.2⟩, ⟨?_, ?_⟩, ?_⟩
  · show M (zcall i) 1 = T 2 i
    rw [T2]; exact g1 i hi
  · show M (zcall i) 3 = T 3 i
    rw [T3]; exact g3 i hi
  · show M (zcall i) 5 = T 5 i
    rw [T5]; exact g5 i hi
  · exact g6 i hi
  · show M 476 (8 * M 467 11 + M 503 (T 2 0)) + nsum (kgs c6 (T 5) (fun x => tV A T x 1) 0) (M 478 (8 * M 467 11 + M 503 (T 2 0))).toNat ≤ 300
    have e8 : A 1 (T 2 0) = M 478 (8 * M 467 11 + M 503 (T 2 0)) := by rw [t2, A1]; exact pk.2.1
    rw [e8] at k0
    have e6 : M 68 f = M 476 (8 * M 467 11 + M 503 f) := pf.2.2.2.2
    rw [t2] at k0 ⊢
    omega
  · omega
  · show rTop τ0 0 0 (60 * M 467 11 + M 475 (8 * M 467 11 + M 503 (T 2 0))) (60 * M 467 11 + M 475 (8 * M 467 11 + M 503 (T 2 0)) + M 476 (8 * M 467 11 + M 503 (T 2 0))) 0 0 0 ∧ τ0 467 109 = 120 ∧ τ0 467 110 = M 474 (8 * M 467 11 + M 503 (T 2 0)) ∧ τ0 467 111 = 0
    rw [t2]; exact w5
theorem tHold_ne_62 {M A : Nat → Int → Int} {f : Int} (l : ∀ c : Nat, c < 441 → ¬ (91 ≤ c ∧ c ≤ 115) → ¬ c = 16 → A c = M c) (h : tHold 62 M f) : tHold 62 A f := by
  obtain ⟨c0, c1, c2, c3, c4, c5, c6, c7, c8, c9, c10, c11, c12, c13, c14, hc, hh, hr⟩ := h
  refine ⟨c0, c1, c2, c3, c4, c5, c6, c7, c8, c9, c10, c11, c12, c13, c14, ?_, ?_, ?_⟩
  · obtain ⟨h0, h1, h2, h3, h4, h5, h6, h7, h8, h9, h10, h11, h12, h13, h14⟩ := hc
    exact ⟨fun i hi => by rw [l _ (by have := zcall_in hi; omega) (by have := zcall_in hi; omega) (by have := zcall_in hi; omega)]; exact h0 i hi, fun i hi => by rw [l _ (by have := zcall_in hi; omega) (by have := zcall_in hi; omega) (by have := zcall_in hi; omega)]; exact h1 i hi, fun i hi => by rw [l _ (by have := zcall_in hi; omega) (by have := zcall_in hi; omega) (by have := zcall_in hi; omega)]; exact h2 i hi, fun i hi => by rw [l _ (by have := zcall_in hi; omega) (by have := zcall_in hi; omega) (by have := zcall_in hi; omega)]; exact h3 i hi, fun i hi => by rw [l _ (by have := zcall_in hi; omega) (by have := zcall_in hi; omega) (by have := zcall_in hi; omega)]; exact h4 i hi, fun i hi => by rw [l _ (by have := zcall_in hi; omega) (by have := zcall_in hi; omega) (by have := zcall_in hi; omega)]; exact h5 i hi, fun i hi => by rw [l _ (by have := zcall_in hi; omega) (by have := zcall_in hi; omega) (by have := zcall_in hi; omega)]; exact h6 i hi, fun i hi => by rw [l _ (by have := zcall_in hi; omega) (by have := zcall_in hi; omega) (by have := zcall_in hi; omega)]; exact h7 i hi, fun i hi => by rw [l _ (by have := zcall_in hi; omega) (by have := zcall_in hi; omega) (by have := zcall_in hi; omega)]; exact h8 i hi, fun i hi => by rw [l _ (by have := zcall_in hi; omega) (by have := zcall_in hi; omega) (by have := zcall_in hi; omega)]; exact h9 i hi, fun i hi => by rw [l _ (by have := zcall_in hi; omega) (by have := zcall_in hi; omega) (by have := zcall_in hi; omega)]; exact h10 i hi, fun i hi => by rw [l _ (by have := zcall_in hi; omega) (by have := zcall_in hi; omega) (by have := zcall_in hi; omega)]; exact h11 i hi, fun i hi => by rw [l _ (by have := zcall_in hi; omega) (by have := zcall_in hi; omega) (by have := zcall_in hi; omega)]; exact h12 i hi, fun i hi => by rw [l _ (by have := zcall_in hi; omega) (by have := zcall_in hi; omega) (by have := zcall_in hi; omega)]; exact h13 i hi, fun i hi => by rw [l _ (by have := zcall_in hi; omega) (by have := zcall_in hi; omega) (by have := zcall_in hi; omega)]; exact h14 i hi⟩
  · rw [l (62 + 7) (by decide) (by decide) (by decide), l (62 + 8) (by decide) (by decide) (by decide), l (62 + 12) (by decide) (by decide) (by decide), l (62 + 10) (by decide) (by decide) (by decide), l (62 + 4) (by decide) (by decide) (by decide), l (62 + 14) (by decide) (by decide) (by decide), l 22 (by decide) (by decide) (by decide), l 23 (by decide) (by decide) (by decide), l 120 (by decide) (by decide) (by decide), l 118 (by decide) (by decide) (by decide), l 119 (by decide) (by decide) (by decide), l 116 (by decide) (by decide) (by decide), l (62 + 6) (by decide) (by decide) (by decide), l 62 (by decide) (by decide) (by decide)]
    exact hh
  · rw [l 120 (by decide) (by decide) (by decide), l 19 (by decide) (by decide) (by decide)]; exact hr
/-- the class writes the result -/
theorem write_h_62 {d : Nat} {P : Nat → Nat → Nat} {M : Nat → Int → Int} {Q : zQ} {f : Int} (hip : iprog 62 M) (hx : ipx 62 M) (hs : iset M) (f0 : 0 ≤ f) (f1 : f < M 62 0) (hh : tHold 62 M f)
    (hQ : ∀ M' : Nat → Int → Int, (∀ c : Nat, ¬ (441 ≤ c ∧ c ≤ 455) → M' c = M c) → rHold 62 M' f → Q (zS (zupN P 441 3 62) M') none) : WC (d + 71) 255 [vR 441, vR 62, vR 116] (zS P M) Q := by
  obtain ⟨i1, ⟨i2, i2b, i2c⟩, i3, i4, i5, i6, i7, i8⟩ := id hip
  have f1' : f < M 469 (M 467 11) := by rw [← i2]; exact f1
  obtain ⟨A, T, G, z1, z2, z3, z4, z5, z6, z7, ⟨z8, z9⟩, zc, z10⟩ := rPrem_ex_62 hip hx hs f0 f1 hh
  have pf := i6.1 f f0 f1'
  have pv := (i8 (M 503 f) pf.1.1 pf.1.2)
  refine write_c_62 (d := d) (HK1 := fun M' => (∀ c : Nat, ¬ (441 ≤ c ∧ c ≤ 455) → M' c = M c) ∧ rHold 62 M' f) (zcl M 1) (fun _ _ => rfl) (by show 0 ≤ M (zcall 0) 1 ∧ M (zcall 0) 1 < 8; rw [z9]; have := i6.2.2.1.2; omega) (fun Q' hq => ?_) (fun M1 hk => hQ M1 hk.1 hk.2)
  have e0 : zcl M 1 0 = f := z9
  rw [e0]
  obtain ⟨M1, eM⟩ : ∃ M1 : Nat → Int → Int, M1 = zup (zup (zup M 441 1 (M 66 f)) 441 2 (M 65 f)) 442 13 0 := ⟨_, rfl⟩
  rw [← eM]
  have fr : ∀ c : Nat, ¬ (441 ≤ c ∧ c ≤ 455) → M1 c = M c := fun c hc => by rw [eM, zu_ne (by omega), zu_ne (by omega), zu_ne (by omega)]
  have fp : FrP M M1 := ⟨congrFun (fr 467 (by decide)) 11, fun c hc => fr c (by unfold gCell at hc; simp at hc; omega)⟩
  have hip1 := iprog_fr62 fp hip
  have hx1 := ipx_fr62 fp hx
  have hs1 : iset M1 := by unfold iset; rw [fr 19 (by decide), fr 506 (by decide)]; exact hs
  have hh1 : tHold 62 M1 f := tHold_ne_62 (fun c hc _ _ => fr c (by omega)) hh
  have v1 : M1 441 1 = M 66 f := by rw [eM]; rfl
  have v2 : M1 441 2 = M 65 f := by rw [eM]; rfl
  have v3 : M1 442 13 = 0 := by rw [eM]; rfl
  obtain ⟨A, T, G, y1, y2, y3, y4, y5, y6, y7, ⟨y8, y9⟩, yc, y10⟩ := rPrem_ex_62 hip1 hx1 hs1 f0 (by rw [fr 62 (by decide)]; exact f1) hh1
  obtain ⟨τb, hb⟩ := rBeg_ex (M := M1) (A := A) (T := T) (g := M1 503 f)
  have base := y10 τb hb
  have one : ∀ i : {q : (Nat → Int → Int) × (Nat → Int → Int) × (Int → List Int) × (Int → Prop) // rPrem 62 M1 q.1 q.2.1 q.2.2.1 q.2.2.2}, WC (d + 70) 256 [vR 441, vR 116, vR 121, vI 0, vI 0, vI 0] (zS (zupN P 441 3 62) M1) (fun σ r => r = none ∧ ∃ M' : Nat → Int → Int, σ = zS (zupN P 441 3 62) M' ∧ cPr M1 M' 0 ∧ (M1 441 1 ≤ M' 441 1 ∧ rW M' (if M1 (62 + 9) f = -2 then -1 else M' 442 13) 0 0 ∧ (¬ M1 (62 + 9) f = -2 → 1 ≤ M' 442 13)) ∧ ∃ τ' : Nat → Int → Int, rFin M' i.1.1 τ' (M1 469 (M1 467 11)) (TOg M1) (i.1.2.2.1 0)) := by
    rintro ⟨⟨τ0, G, lf, ND⟩, hq⟩
    have hq : rPrem 62 M1 τ0 G lf ND := hq
    obtain ⟨r1, ⟨r2, r3, r4, r5⟩, r6, ⟨r7, r8⟩, ⟨r9, r10⟩, r11, r12, r13, r14⟩ := hq
    obtain ⟨u1, ⟨u2, u2b, u2c⟩, u3, u4, u5, u6, u7, u8⟩ := id hip1
    have w := r6 0 r7
    have g0 : G 0 0 = f := by rw [← r2 0 (by decide)]; rw [fr _ (by decide)]; exact z9
    have w3 := w.2.1.2.2.2.1
    have w4 : M1 66 (G 0 0) = M1 474 (8 * M1 467 11 + G 1 0) := w3
    have vv : M1 441 1 = M1 474 (8 * M1 467 11 + G 1 0) := by rw [v1, ← w4, g0, fr 66 (by decide)]
    have vb := u8 (G 1 0) w.2.1.2.1.1 w.2.1.2.1.2.1
    have i0 : rInv M1 τ0 M1 τ0 0 0 (60 * M1 467 11 + M1 475 (8 * M1 467 11 + G 1 0)) (60 * M1 467 11 + M1 475 (8 * M1 467 11 + G 1 0) + M1 476 (8 * M1 467 11 + G 1 0)) 0 0 0 := by
      refine ⟨cPr_refl, rPr_refl, ⟨by rw [r12, v3]; rfl, by rw [r13, vv], fun j a b => by omega⟩, r11, ?_, Int.le_refl _, by omega⟩
      rw [v3]; exact cL_0
    have cp : cP (M1 449) (M1 452) (M1 455) (M1 442 13) 0 0 := ⟨⟨Int.le_refl _, Or.inl rfl⟩, fun y => absurd y (by decide)⟩
    refine rRoot_62 (d := d) (U := if M1 479 (8 * M1 467 11 + G 1 0) = 1 then M1 476 (8 * M1 467 11 + G 1 0) + nsum (kgs (G 4) (G 2) (G 5) 0) (M1 478 (8 * M1 467 11 + G 1 0)).toNat else -1) (nF := M1 469 (M1 467 11)) (TO := TOg M1) (m := G 6 0) (lf := lf) (r0 := τ0 545) u1 (by omega) u5 (fun l l0 l1 => (hx1.2.2.2.2.2.2 l l0 l1).1) r1 r2 r3 r4 r5 (rFun_of_62 hip1 hx1) r6 r7 r8 i0 cp (by omega) v3 (by omega) ⟨rfl, r14⟩ r10 rfl (fun M' τ' po cn lft => ?_)
    obtain ⟨⟨s1, s2, s3, s4, s5, s6, s7⟩, s8, s9, s10, s11, s12, s13, s14, s15⟩ := po
    obtain ⟨τ2, o1, o2, o3, o4⟩ := r_n0 s4 (by omega) rfl
    obtain ⟨SN, hfu⟩ := rFun_of_62 hip1 hx1 (G 1 0) w.2.1.2.1.1 w.2.1.2.1.2.1
    have gy : M1 (62 + 9) f = ygiv M1 (G 1 0) := by rw [← g0]; exact w.2.1.2.2.2.2.2.2.2
    have kp : 0 ≤ nsum (kgs (G 4) (G 2) (G 5) 0) (M1 478 (8 * M1 467 11 + G 1 0)).toNat := nsum_pos _ (fun j j0 j1 => by
      unfold kgs
      split
      · exact Int.le_refl _
      · next zz =>
        rcases (w.2.2.2.2.2.2.2 j j0 (by omega)).2 with y | y
        · exact absurd y zz
        · exact (r6 _ y.2.1).2.2.2.2.2.1.1)
    have uN : ¬ M1 (62 + 9) f = -2 → 1 ≤ M' 442 13 := fun q => by
      rcases hfu.1.2.2.1 with z | z
      · rw [gy] at q; unfold ygiv at q; rw [if_pos z] at q; exact absurd rfl q
      · have := (hfu.2.2.2 z).1; omega
    have uE : (if M1 (62 + 9) f = -2 then -1 else M' 442 13) = (if M1 479 (8 * M1 467 11 + G 1 0) = 1 then M1 476 (8 * M1 467 11 + G 1 0) + nsum (kgs (G 4) (G 2) (G 5) 0) (M1 478 (8 * M1 467 11 + G 1 0)).toNat else -1) := by
      have fgv := hfu.2.2.2
      have f3 := hfu.1.2.2.1
      rw [gy, cn]
      unfold ygiv
      rcases f3 with z | z
      · rw [if_pos z, if_pos rfl, if_neg (by omega)]
      · rw [if_neg (show ¬ M1 479 (8 * M1 467 11 + G 1 0) = 0 by omega), if_neg (fgv z).2.2, if_pos z]
    refine ⟨rfl, M', rfl, s1, ⟨s14.2.1, by rw [uE]; rw [v3] at s15; exact s15, uN⟩, τ2, rFin_n0 s8 o1 o2 o3 o4 s3 ?_ s5 lft s2 ?_ ⟨s7.1, by have := s7.2; omega⟩⟩
    · have z : ySegE τ' (okR M' τ' (M1 469 (M1 467 11)) (TOg M1)) (0 + 0) 0 (120 + M1 442 13) (120 + M' 442 13) := s13
      rw [v3] at z; exact z
    · have := s5.1; omega
  refine WC_all (by decide) (one ⟨(τb, G, tLft A T, fun x => 0 ≤ x ∧ x < T 8 0 ∧ tst A T x = 1), base⟩) one (fun σ r h0 hI => ?_)
  obtain ⟨e1, M', e2, e3, e4, _⟩ := h0
  subst e1
  subst e2
  refine hq M' ⟨fun c hc => (e3.1 c hc).trans (fr c hc), ?_, ?_, fun τ0 G lf ND w => ?_⟩
  · refine ⟨by rw [e3.2.1 2 (by decide), v2, e3.1 65 (by decide), fr 65 (by decide)], ?_⟩
    rw [e3.1 (62 + 9) (by decide)]; exact e4.2
  · have a : M' 65 f = M 65 f := by rw [e3.1 65 (by decide), fr 65 (by decide)]
    have b1 : M 65 f = M 473 (8 * M 467 11 + M 503 f) := pf.2.1
    have b2 : M 66 f = M 474 (8 * M 467 11 + M 503 f) := pf.2.2.1
    have e4 := e4.1
    show M' 65 f ≤ M' 441 1
    omega
  · have fl : FrL M1 M' := ⟨congrFun (e3.1 467 (by decide)) 11, fun c a b _ => e3.1 c (by omega), ⟨e3.1 503 (by decide), e3.1 504 (by decide)⟩, fun c j a b _ => congrFun (e3.1 c (by omega)) j⟩
    have w1 := rPrem_fr (p := 62) (by decide) (fun c a b => e3.1 c (by omega)) (fun c a b => e3.1 c (by omega)) fl hip1 hx1 w
    obtain ⟨_, M2, m1, m2, m3, τ', m4⟩ := hI ⟨(τ0, G, lf, ND), w1⟩
    have em := zS_inj m1
    subst em
    refine ⟨τ', ?_⟩
    rw [frL_tog fl hip1 hx1, fl.1, e3.1 469 (by decide)]
    exact m4
