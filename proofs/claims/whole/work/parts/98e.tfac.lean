/-! The result: the tree, as its lines need it -/
def TOg (M : Nat → Int → Int) (s : Int) : Int := if 0 ≤ s then TOf M s else -1
theorem TOg_in {M : Nat → Int → Int} {s : Int} (h : 0 ≤ s) (h' : s < M 471 (M 467 11)) : TOg M s = M 485 (M 492 (16 * M 467 11 + s)) := by unfold TOg TOf; rw [if_pos h, if_pos h']
def tas (A T : Nat → Int → Int) : Int := tsum (fun k => if T 4 k = 0 then 0 else A 3 (T 2 k)) (T 8 0 - 1).toNat
theorem tas_open {A T : Nat → Int → Int} {nF nS : Int} (hg : tPg A nF nS) (h : tInv A T nF nS) (hw : ¬ tw A T = -1) : tas A (topen A T (tw A T)) = tas A T + A 3 (T 2 (tw A T)) ∧ (topen A T (tw A T)) 8 1 = T 8 1 + A 3 (T 2 (tw A T)) := by
  refine ⟨?_, rfl⟩
  obtain ⟨⟨m1, m2⟩, m3, m4, m5, m6⟩ := tw_may hw
  generalize tw A T = c at *
  obtain ⟨w, ⟨b1, b2, b3⟩, r, ⟨z6, z4⟩, q, p, s⟩ := h
  obtain ⟨rc, _⟩ := r c (by omega) m2
  obtain ⟨⟨g1, g2, g3⟩, _, _⟩ := hg.2.1 (T 2 c) rc.1 rc.2
  have o0 : T 4 c = 0 := by
    obtain ⟨_, _, _, _, _, q7, _⟩ := q c m1 m2
    omega
  have e4 : (topen A T c) 4 = zfr (zs (T 4) c (T 8 2 + 1)) (T 8 0) (A 1 (T 2 c)) (fun _ => 0) := rfl
  have e2 : (topen A T c) 2 = zfr (T 2) (T 8 0) (A 1 (T 2 c)) (fun j => A 2 (A 0 (T 2 c) + j)) := rfl
  have e8 : (topen A T c) 8 0 = T 8 0 + A 1 (T 2 c) := rfl
  have t0 := tsum_le (f := T 6) (T 8 0 - 1).toNat (fun k x y => by have := (r k (by omega) (by omega)).2; omega)
  generalize topen A T c = T' at *
  unfold tas
  rw [e8]
  obtain ⟨n, hn⟩ : ∃ n : Nat, A 1 (T 2 c) = n := ⟨(A 1 (T 2 c)).toNat, by omega⟩
  rw [show (T 8 0 + A 1 (T 2 c) - 1).toNat = (T 8 0 - 1).toNat + n by omega]
  rw [tsum_zero (T 8 0 - 1).toNat n (fun k x y => by show (if T' 4 k = 0 then 0 else A 3 (T' 2 k)) = 0; rw [if_pos (by rw [e4]; exact zfr_in (by omega))])]
  have e : tsum (fun k => if T' 4 k = 0 then 0 else A 3 (T' 2 k)) (T 8 0 - 1).toNat = tsum (zs (fun k => if T 4 k = 0 then 0 else A 3 (T 2 k)) c (A 3 (T 2 c))) (T 8 0 - 1).toNat := by
    refine tsum_congr _ (fun k x y => ?_)
    show (if T' 4 k = 0 then 0 else A 3 (T' 2 k)) = _
    have hk : k < T 8 0 := by omega
    have y1 : T' 4 k = zs (T 4) c (T 8 2 + 1) k := by rw [e4]; exact zfr_out (Or.inl hk)
    have y2 : T' 2 k = T 2 k := by rw [e2, zfr_out (Or.inl hk)]
    rw [y1, y2]
    by_cases ec : k = c
    · rw [zs_pos ec, zs_pos ec, if_neg (by omega), ec]
    · rw [zs_neg ec, zs_neg ec]
  rw [e, tsum_zs _ m1 (by omega)]
  show _ - (if T 4 c = 0 then 0 else A 3 (T 2 c)) + A 3 (T 2 c) = _
  rw [if_pos o0]; omega
theorem tas_opens {A : Nat → Int → Int} {nF nS : Int} (hg : tPg A nF nS) : ∀ (n : Nat) (T T' : Nat → Int → Int), tInv A T nF nS → tOpens A n T T' → T' 8 1 - tas A T' = T 8 1 - tas A T := by
  intro n
  induction n with
  | zero => intro T T' _ h; have e : T = T' := h; rw [e]
  | succ n ih =>
    intro T T' hI h
    have z := tas_open hg hI h.1
    rw [ih _ _ (tInv_open hg hI h.1) h.2, z.1, z.2]; omega
theorem tas_root {A T : Nat → Int → Int} {f e z : Int} (h : 0 ≤ A 1 f) : tas A (tlay A (troot T f e z) 0) = 0 ∧ (tlay A (troot T f e z) 0) 8 1 = z := by
  refine ⟨?_, rfl⟩
  have e4 : (tlay A (troot T f e z) 0) 4 = zfr (zs (T 4) 0 0) 1 (A 1 (zs (T 2) 0 f 0)) (fun _ => 0) := rfl
  have e8 : (tlay A (troot T f e z) 0) 8 0 = 1 + A 1 (zs (T 2) 0 f 0) := rfl
  have ef : zs (T 2) 0 f 0 = f := zs_pos rfl
  rw [ef] at e4 e8
  generalize tlay A (troot T f e z) 0 = R at *
  unfold tas
  rw [e8]
  refine tsum_nil _ (fun k k1 k2 => ?_)
  show (if R 4 k = 0 then 0 else A 3 (R 2 k)) = 0
  rw [if_pos (by rw [e4]; exact zfr_in (by omega))]
theorem tnode6 {A T : Nat → Int → Int} {nF nS x : Int} (h : tInv A T nF nS) (x0 : 0 ≤ x) (x1 : x < T 8 0) (hs : tst A T x = 1) : T 6 x = 1 ∧ (¬ x = 0 → tkp A T x = 1 ∧ tst A T (T 0 x) = 1) := by
  by_cases e : x = 0
  · rw [e]; exact ⟨h.2.2.2.1.1, fun z => absurd rfl z⟩
  · have u := tst_up h (x := x) (by omega) x1
    rw [hs] at u
    by_cases k : tkp A T x = 0
    · rw [if_pos k] at u; exact absurd u (by decide)
    · rw [if_neg k] at u
      have k1 : tkp A T x = 1 := by rcases tkp_01 A T x with z | z; exact absurd z k; exact z
      refine ⟨?_, fun _ => ⟨k1, u.symm⟩⟩
      unfold tkp at k1
      rw [if_neg e] at k1
      by_cases y : T 6 x = 1
      · exact y
      · rw [if_neg y] at k1; exact absurd k1 (by decide)
theorem tkp_keep {A T : Nat → Int → Int} {x : Int} (hx : ¬ x = 0) (h6 : T 6 x = 1) : tkp A T x = tkeep A (tV A T x) := by
  unfold tkp; rw [if_neg hx, if_pos h6]
theorem tkp_no {A T : Nat → Int → Int} {x : Int} (hx : ¬ x = 0) (h6 : ¬ T 6 x = 1) : tkp A T x = 0 := by
  unfold tkp; rw [if_neg hx, if_neg h6]
theorem nsum_pos {f : Int → Int} (n : Nat) (h : ∀ j : Int, 0 ≤ j → j < n → 0 ≤ f j) : 0 ≤ nsum f n := by
  have z := nsum_le (f := f) n 0 (fun j a b => h j a (by omega))
  rw [show 0 + n = n by omega] at z
  exact z
theorem tV1_eq {A T : Nat → Int → Int} {nF nS c : Int} (h : tInv A T nF nS) (c0 : 0 ≤ c) (c1 : c < T 8 0) (ci : T 6 c = 1) : tV A T c 1 = (if c = 0 then 0 else A 3 (T 2 c)) + nsum (fun i => if T 6 (T 5 c + i) = 1 then tcontr A (tV A T (T 5 c + i)) 1 else 0) (A 1 (T 2 c)).toNat := by
  rw [(tV_keep h c0 c1 ci).1 1 (by decide), tfold_sum]
  rfl
theorem tV1_pos {A T : Nat → Int → Int} {nF nS : Int} (hg : tPg A nF nS) (h : tInv A T nF nS) : ∀ (n : Nat) (c : Int), 32 - T 3 c ≤ n → 0 ≤ c → c < T 8 0 → T 6 c = 1 → 0 ≤ tV A T c 1 := by
  intro n
  induction n with
  | zero => intro c a c0 c1 ci; have := (h.2.2.2.2.2.1 c c0 c1 ci).2.2; omega
  | succ n ih =>
    intro c a c0 c1 ci
    rw [tV1_eq h c0 c1 ci]
    have r := (h.2.2.1 c c0 c1).1
    have a3 := (hg.2.1 (T 2 c) r.1 r.2).2.1.1
    have z := nsum_pos (f := fun i => if T 6 (T 5 c + i) = 1 then tcontr A (tV A T (T 5 c + i)) 1 else 0) (A 1 (T 2 c)).toNat (fun j j0 j1 => by
      show 0 ≤ if T 6 (T 5 c + j) = 1 then tcontr A (tV A T (T 5 c + j)) 1 else 0
      split
      · next y =>
        obtain ⟨k1, k2, k3, k4, k5⟩ := tkid h c0 c1 ci (k := T 5 c + j) (by omega) (by omega)
        unfold tcontr
        rw [if_pos (by decide)]
        split
        · exact ih _ (by omega) (by omega) k2 y
        · exact Int.le_refl _
      · exact Int.le_refl _)
    split <;> omega
theorem tV1_size {A T : Nat → Int → Int} {nF nS : Int} (hg : tPg A nF nS) (h : tInv A T nF nS) : tV A T 0 1 ≤ tas A T := by
  have t6 := fun (x : Int) a b s => tnode6 (x := x) h a b s
  have F := tForest (A := A) (T := T) (nF := nF) (nS := nS) (q := tst A T) (F := fun c => tV A T c 1) (own := fun c => tbase A T c 1) h (fun x x0 x1 s => ((t6 x (by omega) x1 s).2 (by omega)).2) (fun c c0 c1 s => by
    have ci := (t6 c c0 c1 s).1
    show tV A T c 1 = _
    rw [(tV_keep h c0 c1 ci).1 1 (by decide), tfold_all hg h c0 c1 ci]
    congr 1
    refine tsum_congr _ (fun k k1 k2 => ?_)
    show (if T 6 k = 1 ∧ T 0 k = c then tcontr A (tV A T k) 1 else 0) = if tst A T k = 1 ∧ T 0 k = c then tV A T k 1 else 0
    by_cases e : T 0 k = c
    · have u := tst_up h (x := k) k1 (by omega)
      rw [e, s] at u
      by_cases y : T 6 k = 1
      · rw [if_pos ⟨y, e⟩]
        unfold tcontr
        rw [if_pos (by decide)]
        have kk := tkp_keep (A := A) (x := k) (by omega) y
        by_cases w : tkeep A (tV A T k) = 1
        · rw [if_pos w, if_pos ⟨by rw [u, if_neg (by rw [kk, w]; decide)], e⟩]
        · have w0 : tkeep A (tV A T k) = 0 := by rcases tkeep_01 A (tV A T k) with z | z; exact z; exact absurd z w
          rw [if_neg w, if_neg (fun z => by rw [u, if_pos (by rw [kk, w0])] at z; exact absurd z.1 (by decide))]
      · rw [if_neg (fun z => y z.1), if_neg (fun z => by rw [u, if_pos (tkp_no (by omega) y)] at z; exact absurd z.1 (by decide))]
    · rw [if_neg (fun z => e z.2), if_neg (fun z => e z.2)]) (tst_0 h)
  have F : tV A T 0 1 = tbase A T 0 1 + tsum (fun x => if tst A T x = 1 then tbase A T x 1 else 0) (T 8 0 - 1).toNat := F
  rw [F]
  have b0 : tbase A T 0 1 = 0 := rfl
  have m := tsum_mono (f := fun x => if tst A T x = 1 then tbase A T x 1 else 0) (g := fun k => if T 4 k = 0 then 0 else A 3 (T 2 k)) (T 8 0 - 1).toNat (fun k k1 k2 => by
    show (if tst A T k = 1 then tbase A T k 1 else 0) ≤ if T 4 k = 0 then 0 else A 3 (T 2 k)
    have r := (h.2.2.1 k (by omega) (by omega)).1
    have a3 := (hg.2.1 (T 2 k) r.1 r.2).2.1.1
    by_cases s : tst A T k = 1
    · have y := (t6 k (by omega) (by omega) s).1
      have o := (h.2.2.2.2.1 k k1 (by omega)).2.2.2.2.2.1
      rw [if_pos s, if_neg (by omega)]
      show (if k = 0 then 0 else A 3 (T 2 k)) ≤ _
      rw [if_neg (by omega)]
      exact Int.le_refl _
    · rw [if_neg s]; split <;> omega)
  unfold tas
  omega
theorem tRel_tst {ρ : Int → Int} {A B T U : Nat → Int → Int} {nF nS : Int} (hg : tPg B nF nS) (hd : dRel ρ A B nF nS) (hA : tInv A T nF nS) (hI : tInv B U nF nS) (hr : tRel ρ T U) : ∀ (n : Nat) (x : Int), x < n → 0 ≤ x → x < U 8 0 → tst A T x = tst B U x := by
  intro n
  induction n with
  | zero => intro x a b _; omega
  | succ n ih =>
    intro x a b c
    by_cases e : x = 0
    · rw [e, tst_0 hA, tst_0 hI]
    · have q := hI.1.2 x (by omega) c
      rw [tst_up hA (by omega) (by rw [hr.1.1]; exact c), tst_up hI (by omega) c, tRel_kp hg hd hI hr b c, (hr.2 x b (by rw [hr.1.1]; exact c)).1, ih (U 0 x) (by omega) (by omega) (by omega)]
theorem tkids_kk {K K' : Int → Int} {R N : Int → List Int} {a : Int} : ∀ (m : Nat), (∀ j : Int, 0 ≤ j → j < m → K (a + j) = K' (a + j)) → tkids K R N a m = tkids K' R N a m := by
  intro m
  induction m with
  | zero => intro _; rfl
  | succ m ih =>
    intro h
    show tkids K R N a m ++ (if K (a + m) = 0 then N (a + m) else R (a + m)) = tkids K' R N a m ++ (if K' (a + m) = 0 then N (a + m) else R (a + m))
    rw [ih (fun j p q => h j p (by omega)), h m (by omega) (by omega)]
theorem rFun_of_33 {M0 : Nat → Int → Int} (hip : iprog 33 M0) (hx : ipx 33 M0) : ∀ g : Int, 0 ≤ g → g < M0 469 (M0 467 11) → ∃ SN : Int → Int, rFun 33 M0 (M0 469 (M0 467 11)) (TOg M0) SN g := by
  obtain ⟨i1, ⟨i2, i2b, i2c⟩, i3, i4, i5, i6, i7, i8⟩ := hip
  obtain ⟨x1, x2, x3, ⟨y1, y2, y3, y4⟩⟩ := hx
  intro g g0 g1
  obtain ⟨z1, z2, SN, z3, z4, z5⟩ := y2 g g0 g1
  have a := x2 g g0 g1
  have b := i8 g g0 g1
  obtain ⟨n, xs⟩ := i7 g g0 g1
  refine ⟨SN, ⟨⟨by omega, by omega, by omega, by omega⟩, by omega, a.2.1, by omega⟩, fun l l0 l1 => ?_, ⟨z3, z4, z5⟩, z2⟩
  obtain ⟨q1, q2, q3, q4, q5⟩ := xSeg_all n _ _ _ xs l0 l1
  have e1 := q1.2.2.1 (by decide)
  have xvl := xLine_xv q1.1
  refine ⟨by omega, ⟨xvl, fun z => ⟨(q1.2.2.2 z).1, ?_⟩⟩, q2, q3, q4, q5⟩
  unfold TOg
  rw [if_pos (xvl.2.2.2.2 z).2.1.1]
  exact (q1.2.2.2 z).2
theorem rTr_of_33 {M0 τ0 : Nat → Int → Int} {A T : Nat → Int → Int} {c6 : Int → Int} (hip : iprog 33 M0) (hx : ipx 33 M0) (hgA : tPg A (M0 469 (M0 467 11)) (M0 471 (M0 467 11))) (hA : tInv A T (M0 469 (M0 467 11)) (M0 471 (M0 467 11)))
    (a0 : ∀ f : Int, A 0 f = M0 40 f) (a1 : ∀ f : Int, A 1 f = M0 41 f) (a2 : ∀ s : Int, A 2 s = M0 45 s) (a3 : ∀ f : Int, A 3 f = M0 43 f) (h6 : ∀ x : Int, 0 ≤ x → x < T 8 0 → c6 x = tkp A T x)
    (h523 : ∀ x : Int, 0 ≤ x → x < T 8 0 → tst A T x = 1 → τ0 523 x = M0 503 (T 2 x)) (h526 : ∀ x : Int, 0 ≤ x → x < T 8 0 → tst A T x = 1 → τ0 526 x = T 5 x) (h531 : ∀ x k : Int, 0 ≤ x → x < T 8 0 → tst A T x = 1 → 1 ≤ k → k < T 8 0 → T 0 k = x → τ0 531 k = tkp A T k) : rTr 33 M0 τ0 (TOg M0) (T 2) (fun x => M0 503 (T 2 x)) (T 5) (T 3) c6 (fun x => tV A T x 1) (fun x => 0 ≤ x ∧ x < T 8 0 ∧ tst A T x = 1) (tLft A T) (T 8 0) := by
  intro x ⟨x0, x1, xs⟩
  obtain ⟨i1, ⟨i2, i2b, i2c⟩, i3, i4, i5, ⟨i6, i6b, i6c, i6d⟩, i7, i8⟩ := hip
  obtain ⟨k1, k2, k3, ⟨y1, y2, y3, y4⟩⟩ := hx
  obtain ⟨T6, tup⟩ := tnode6 hA x0 x1 xs
  have t2 := (hA.2.2.1 x x0 x1).1
  have fA := hA.2.2.2.2.2.1 x x0 x1 T6
  have p1 := i6 (T 2 x) t2.1 t2.2
  have p2 := k1 (T 2 x) t2.1 t2.2
  have p3 := y1 (T 2 x) t2.1 t2.2
  have wd := tWT_d hA.1 x0 x1
  have tm := hA.2.1
  have A1 : A 1 (T 2 x) = M0 478 (8 * M0 467 11 + M0 503 (T 2 x)) := by rw [a1]; exact p2.2.1
  have A0 : A 0 (T 2 x) = M0 477 (8 * M0 467 11 + M0 503 (T 2 x)) := by rw [a0]; exact p2.1
  have A3 : A 3 (T 2 x) = M0 476 (8 * M0 467 11 + M0 503 (T 2 x)) - M0 479 (8 * M0 467 11 + M0 503 (T 2 x)) + M0 474 (8 * M0 467 11 + M0 503 (T 2 x)) := by rw [a3]; exact p2.2.2
  have kid : ∀ j : Int, 0 ≤ j → j < M0 478 (8 * M0 467 11 + M0 503 (T 2 x)) → 1 ≤ T 5 x + j ∧ T 5 x + j < T 8 0 ∧ x < T 5 x + j ∧ T 0 (T 5 x + j) = x ∧ T 3 (T 5 x + j) = T 3 x + 1 := fun j j0 j1 => tkid hA x0 x1 T6 (by omega) (by omega)
  have s2 := k2 (M0 503 (T 2 x)) p1.1.1 p1.1.2
  refine ⟨⟨x0, x1, by omega⟩, ⟨⟨t2.1, by omega⟩, ⟨p1.1.1, p1.1.2, i6c.2⟩, p1.2.1, p1.2.2.1, p1.2.2.2.1, p1.2.2.2.2, p2.1, p3.2.2⟩, ⟨wd.1, fA.2.2, fun z => by rw [z]; exact hA.1.1.2, fun z => by omega⟩, ⟨by omega, ?_⟩, ⟨h523 x x0 x1 xs, h526 x x0 x1 xs⟩, ⟨tV1_pos hgA hA 32 x (by omega) x0 x1 T6, fun xn => ?_⟩, ?_, fun j j0 j1 => ?_⟩
  · show T 5 x + M0 478 (8 * M0 467 11 + M0 503 (T 2 x)) ≤ T 8 0
    have z := fA.1.1.2
    omega
  · show tV A T x 1 = _
    rw [tV1_eq hA x0 x1 T6, if_neg xn, A3, A1]
    congr 1
    refine nsum_congr _ (fun j j0 j1 => ?_)
    obtain ⟨q1, q2, q3, q4, q5⟩ := kid j j0 (by have z : j < ((M0 478 (8 * M0 467 11 + M0 503 (T 2 x))).toNat : Int) := j1; omega)
    show (if T 6 (T 5 x + j) = 1 then tcontr A (tV A T (T 5 x + j)) 1 else 0) = kgs c6 (T 5) (fun x => tV A T x 1) x j
    unfold kgs
    rw [h6 _ (by omega) q2]
    by_cases y : T 6 (T 5 x + j) = 1
    · rw [if_pos y, tkp_keep (by omega) y]
      unfold tcontr
      rw [if_pos (by decide)]
      rcases tkeep_01 A (tV A T (T 5 x + j)) with z | z
      · rw [z, if_neg (by decide), if_pos rfl]
      · rw [z, if_pos rfl, if_neg (by decide)]
    · rw [if_neg y, if_pos (tkp_no (by omega) y)]
  · show tLft A T x = _
    rw [tLft_eq hA x0 x1 T6, A1]
    refine tkids_kk _ (fun j j0 j1 => ?_)
    obtain ⟨q1, q2, q3, q4, q5⟩ := kid j j0 (by omega)
    exact (h6 _ (by omega) q2).symm
  · have j1 : j < M0 478 (8 * M0 467 11 + M0 503 (T 2 x)) := j1
    obtain ⟨q1, q2, q3, q4, q5⟩ := kid j j0 j1
    have kA := fA.1.2 j j0 (by rw [A1]; exact j1)
    refine ⟨by rw [h531 x _ x0 x1 xs q1 q2 q4]; exact (h6 _ (by omega) q2).symm, ?_⟩
    rw [h6 _ (by omega) q2]
    rcases tkp_01 A T (T 5 x + j) with z | z
    · left; exact z
    · right
      refine ⟨z, ⟨by omega, q2, ?_⟩, by omega, ?_, q5⟩
      · rw [tst_up hA q1 q2, q4, xs, z, if_neg (by decide)]
      · show M0 503 (T 2 (T 5 x + j)) = TOg M0 (M0 477 (8 * M0 467 11 + M0 503 (T 2 x)) + j)
        have w := hA.2.2.2.2.1 (T 5 x + j) q1 q2
        have sr : 0 ≤ M0 477 (8 * M0 467 11 + M0 503 (T 2 x)) + j ∧ M0 477 (8 * M0 467 11 + M0 503 (T 2 x)) + j < M0 471 (M0 467 11) := by omega
        rw [w.2.2.2.1, a2, kA.2, A0, TOg_in sr.1 sr.2]
        have tf : TOf M0 (M0 477 (8 * M0 467 11 + M0 503 (T 2 x)) + j) = M0 485 (M0 492 (16 * M0 467 11 + (M0 477 (8 * M0 467 11 + M0 503 (T 2 x)) + j))) := if_pos sr.2
        have c := k3 _ sr.1 sr.2
        have b := i6b _ sr.1 (by omega) (by rw [tf]; exact c.2.2.2.1)
        rw [← tf]
        exact b.2.2
theorem rFun_of_62 {M0 : Nat → Int → Int} (hip : iprog 62 M0) (hx : ipx 62 M0) : ∀ g : Int, 0 ≤ g → g < M0 469 (M0 467 11) → ∃ SN : Int → Int, rFun 62 M0 (M0 469 (M0 467 11)) (TOg M0) SN g := by
  obtain ⟨i1, ⟨i2, i2b, i2c⟩, i3, i4, i5, i6, i7, i8⟩ := hip
  obtain ⟨x1, x2, x3, ⟨y1, y2, y3, y4⟩⟩ := hx
  intro g g0 g1
  obtain ⟨z1, z2, SN, z3, z4, z5⟩ := y2 g g0 g1
  have a := x2 g g0 g1
  have b := i8 g g0 g1
  obtain ⟨n, xs⟩ := i7 g g0 g1
  refine ⟨SN, ⟨⟨by omega, by omega, by omega, by omega⟩, by omega, a.2.1, by omega⟩, fun l l0 l1 => ?_, ⟨z3, z4, z5⟩, z2⟩
  obtain ⟨q1, q2, q3, q4, q5⟩ := xSeg_all n _ _ _ xs l0 l1
  have e1 := q1.2.2.1 (by decide)
  have xvl := xLine_xv q1.1
  refine ⟨by omega, ⟨xvl, fun z => ⟨(q1.2.2.2 z).1, ?_⟩⟩, q2, q3, q4, q5⟩
  unfold TOg
  rw [if_pos (xvl.2.2.2.2 z).2.1.1]
  exact (q1.2.2.2 z).2
theorem rTr_of_62 {M0 τ0 : Nat → Int → Int} {A T : Nat → Int → Int} {c6 : Int → Int} (hip : iprog 62 M0) (hx : ipx 62 M0) (hgA : tPg A (M0 469 (M0 467 11)) (M0 471 (M0 467 11))) (hA : tInv A T (M0 469 (M0 467 11)) (M0 471 (M0 467 11)))
    (a0 : ∀ f : Int, A 0 f = M0 69 f) (a1 : ∀ f : Int, A 1 f = M0 70 f) (a2 : ∀ s : Int, A 2 s = M0 74 s) (a3 : ∀ f : Int, A 3 f = M0 72 f) (h6 : ∀ x : Int, 0 ≤ x → x < T 8 0 → c6 x = tkp A T x)
    (h523 : ∀ x : Int, 0 ≤ x → x < T 8 0 → tst A T x = 1 → τ0 523 x = M0 503 (T 2 x)) (h526 : ∀ x : Int, 0 ≤ x → x < T 8 0 → tst A T x = 1 → τ0 526 x = T 5 x) (h531 : ∀ x k : Int, 0 ≤ x → x < T 8 0 → tst A T x = 1 → 1 ≤ k → k < T 8 0 → T 0 k = x → τ0 531 k = tkp A T k) : rTr 62 M0 τ0 (TOg M0) (T 2) (fun x => M0 503 (T 2 x)) (T 5) (T 3) c6 (fun x => tV A T x 1) (fun x => 0 ≤ x ∧ x < T 8 0 ∧ tst A T x = 1) (tLft A T) (T 8 0) := by
  intro x ⟨x0, x1, xs⟩
  obtain ⟨i1, ⟨i2, i2b, i2c⟩, i3, i4, i5, ⟨i6, i6b, i6c, i6d⟩, i7, i8⟩ := hip
  obtain ⟨k1, k2, k3, ⟨y1, y2, y3, y4⟩⟩ := hx
  obtain ⟨T6, tup⟩ := tnode6 hA x0 x1 xs
  have t2 := (hA.2.2.1 x x0 x1).1
  have fA := hA.2.2.2.2.2.1 x x0 x1 T6
  have p1 := i6 (T 2 x) t2.1 t2.2
  have p2 := k1 (T 2 x) t2.1 t2.2
  have p3 := y1 (T 2 x) t2.1 t2.2
  have wd := tWT_d hA.1 x0 x1
  have tm := hA.2.1
  have A1 : A 1 (T 2 x) = M0 478 (8 * M0 467 11 + M0 503 (T 2 x)) := by rw [a1]; exact p2.2.1
  have A0 : A 0 (T 2 x) = M0 477 (8 * M0 467 11 + M0 503 (T 2 x)) := by rw [a0]; exact p2.1
  have A3 : A 3 (T 2 x) = M0 476 (8 * M0 467 11 + M0 503 (T 2 x)) - M0 479 (8 * M0 467 11 + M0 503 (T 2 x)) + M0 474 (8 * M0 467 11 + M0 503 (T 2 x)) := by rw [a3]; exact p2.2.2
  have kid : ∀ j : Int, 0 ≤ j → j < M0 478 (8 * M0 467 11 + M0 503 (T 2 x)) → 1 ≤ T 5 x + j ∧ T 5 x + j < T 8 0 ∧ x < T 5 x + j ∧ T 0 (T 5 x + j) = x ∧ T 3 (T 5 x + j) = T 3 x + 1 := fun j j0 j1 => tkid hA x0 x1 T6 (by omega) (by omega)
  have s2 := k2 (M0 503 (T 2 x)) p1.1.1 p1.1.2
  refine ⟨⟨x0, x1, by omega⟩, ⟨⟨t2.1, by omega⟩, ⟨p1.1.1, p1.1.2, i6c.2⟩, p1.2.1, p1.2.2.1, p1.2.2.2.1, p1.2.2.2.2, p2.1, p3.2.2⟩, ⟨wd.1, fA.2.2, fun z => by rw [z]; exact hA.1.1.2, fun z => by omega⟩, ⟨by omega, ?_⟩, ⟨h523 x x0 x1 xs, h526 x x0 x1 xs⟩, ⟨tV1_pos hgA hA 32 x (by omega) x0 x1 T6, fun xn => ?_⟩, ?_, fun j j0 j1 => ?_⟩
  · show T 5 x + M0 478 (8 * M0 467 11 + M0 503 (T 2 x)) ≤ T 8 0
    have z := fA.1.1.2
    omega
  · show tV A T x 1 = _
    rw [tV1_eq hA x0 x1 T6, if_neg xn, A3, A1]
    congr 1
    refine nsum_congr _ (fun j j0 j1 => ?_)
    obtain ⟨q1, q2, q3, q4, q5⟩ := kid j j0 (by have z : j < ((M0 478 (8 * M0 467 11 + M0 503 (T 2 x))).toNat : Int) := j1; omega)
    show (if T 6 (T 5 x + j) = 1 then tcontr A (tV A T (T 5 x + j)) 1 else 0) = kgs c6 (T 5) (fun x => tV A T x 1) x j
    unfold kgs
    rw [h6 _ (by omega) q2]
    by_cases y : T 6 (T 5 x + j) = 1
    · rw [if_pos y, tkp_keep (by omega) y]
      unfold tcontr
      rw [if_pos (by decide)]
      rcases tkeep_01 A (tV A T (T 5 x + j)) with z | z
      · rw [z, if_neg (by decide), if_pos rfl]
      · rw [z, if_pos rfl, if_neg (by decide)]
    · rw [if_neg y, if_pos (tkp_no (by omega) y)]
  · show tLft A T x = _
    rw [tLft_eq hA x0 x1 T6, A1]
    refine tkids_kk _ (fun j j0 j1 => ?_)
    obtain ⟨q1, q2, q3, q4, q5⟩ := kid j j0 (by omega)
    exact (h6 _ (by omega) q2).symm
  · have j1 : j < M0 478 (8 * M0 467 11 + M0 503 (T 2 x)) := j1
    obtain ⟨q1, q2, q3, q4, q5⟩ := kid j j0 j1
    have kA := fA.1.2 j j0 (by rw [A1]; exact j1)
    refine ⟨by rw [h531 x _ x0 x1 xs q1 q2 q4]; exact (h6 _ (by omega) q2).symm, ?_⟩
    rw [h6 _ (by omega) q2]
    rcases tkp_01 A T (T 5 x + j) with z | z
    · left; exact z
    · right
      refine ⟨z, ⟨by omega, q2, ?_⟩, by omega, ?_, q5⟩
      · rw [tst_up hA q1 q2, q4, xs, z, if_neg (by decide)]
      · show M0 503 (T 2 (T 5 x + j)) = TOg M0 (M0 477 (8 * M0 467 11 + M0 503 (T 2 x)) + j)
        have w := hA.2.2.2.2.1 (T 5 x + j) q1 q2
        have sr : 0 ≤ M0 477 (8 * M0 467 11 + M0 503 (T 2 x)) + j ∧ M0 477 (8 * M0 467 11 + M0 503 (T 2 x)) + j < M0 471 (M0 467 11) := by omega
        rw [w.2.2.2.1, a2, kA.2, A0, TOg_in sr.1 sr.2]
        have tf : TOf M0 (M0 477 (8 * M0 467 11 + M0 503 (T 2 x)) + j) = M0 485 (M0 492 (16 * M0 467 11 + (M0 477 (8 * M0 467 11 + M0 503 (T 2 x)) + j))) := if_pos sr.2
        have c := k3 _ sr.1 sr.2
        have b := i6b _ sr.1 (by omega) (by rw [tf]; exact c.2.2.2.1)
        rw [← tf]
        exact b.2.2
