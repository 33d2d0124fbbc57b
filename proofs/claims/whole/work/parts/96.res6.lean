/-! The result's lines: the class's steps, told by what they change -/
def cMany (M M' : Nat → Int → Int) (v t b : Int) (g2 : Int → Int) : Prop :=
  (∀ c : Nat, ¬ (441 ≤ c ∧ c ≤ 455) → M' c = M c) ∧ ((∀ k : Int, ¬ k = 1 → M' 441 k = M 441 k) ∧ M' 441 1 = M 441 1 + v ∧ (∀ k : Int, ¬ k = 13 → M' 442 k = M 442 k) ∧ M' 442 13 = M 442 13 + v) ∧
  (M' 443 = zfr (M 443) (M 442 13) v (fun _ => 0) ∧ M' 444 = zfr (M 444) (M 442 13) v (fun xv => M 441 1 + xv) ∧ M' 445 = zfr (M 445) (M 442 13) v g2 ∧ M' 446 = zfr (M 446) (M 442 13) v (fun _ => -2) ∧ M' 447 = zfr (M 447) (M 442 13) v (fun _ => -2) ∧ M' 448 = zfr (M 448) (M 442 13) v (fun _ => -2) ∧ M' 449 = zfr (M 449) (M 442 13) v (fun _ => t) ∧ M' 450 = zfr (M 450) (M 442 13) v (fun _ => b) ∧ M' 451 = zfr (M 451) (M 442 13) v (fun _ => 0)) ∧
  cL (M' 449) (M' 450) (M' 452) (M' 453) (M' 454) (M' 455) (M' 442 13) ∧ cP (M' 449) (M' 452) (M' 455) (M' 442 13) t b ∧ laK (M 455) (M' 455) t
theorem cMany_pr {M M' : Nat → Int → Int} {v t b : Int} {g2 : Int → Int} (h : cMany M M' v t b g2) : cPr M M' (M 442 13) := by
  obtain ⟨h1, ⟨h2, _, h3, h4⟩, ⟨r1, r2, r3, r4, r5, r6, r7, r8, r9⟩, _⟩ := h
  refine ⟨h1, h2, h3, fun c i q1 q2 q3 => ?_⟩
  rcases c9 q1 q2 with e | e | e | e | e | e | e | e | e <;> subst e
  · rw [r1]; exact zfr_out (Or.inl q3)
  · rw [r2]; exact zfr_out (Or.inl q3)
  · rw [r3]; exact zfr_out (Or.inl q3)
  · rw [r4]; exact zfr_out (Or.inl q3)
  · rw [r5]; exact zfr_out (Or.inl q3)
  · rw [r6]; exact zfr_out (Or.inl q3)
  · rw [r7]; exact zfr_out (Or.inl q3)
  · rw [r8]; exact zfr_out (Or.inl q3)
  · rw [r9]; exact zfr_out (Or.inl q3)
theorem zup_ne_c {m : Nat → Int → Int} {c c' : Nat} {k k' v : Int} (h : ¬ c' = c) : zup m c k v c' k' = m c' k' := congrFun (zu_ne h) k'
theorem C_ln_33 {d : Nat} {P : Nat → Nat → Nat} {M : Nat → Int → Int} {Q : zQ} (c e t b f k : Int) (r3 : Int → Int) (hr3 : ∀ i : Int, 0 ≤ i ∧ i < 320 → M (zcall i) 3 = r3 i) (r5 : Int → Int) (hr5 : ∀ i : Int, 0 ≤ i ∧ i < 320 → M (zcall i) 5 = r5 i) (r6 : Int → Int) (hr6 : ∀ i : Int, 0 ≤ i ∧ i < 320 → M (zcall i) 6 = r6 i) {x9 x10 x11 : Option zV} (hc : 0 ≤ c ∧ c < 320) (hf : 0 ≤ f ∧ f < 8) (hl : (0 ≤ M 38 f ∧ M 38 f ≤ 60) ∧ 0 ≤ M 39 f ∧ M 39 f ≤ 60) (hnk : ¬ (M 38 f + M 39 f ≤ k)) (hk : 0 ≤ k ∧ k < 60) (ha : (0 ≤ r5 c ∧ r5 c ≤ 320) ∧ (-2 ≤ (M 54 k) ∧ (M 54 k) ≤ 16) ∧ 0 ≤ M 40 f ∧ M 40 f ≤ 16) (hd0 : 0 ≤ (M 55 k) ∧ (M 55 k) ≤ 5) (ht : 0 ≤ t ∧ t ≤ 300) (he : 0 ≤ e ∧ e ≤ 1000) (h2 : -100 ≤ (M 50 k) ∧ (M 50 k) ≤ 1000) (h3 : -100 ≤ (M 51 k) ∧ (M 51 k) ≤ 1000) (h4 : -100 ≤ (M 52 k) ∧ (M 52 k) ≤ 1000) (h5 : -100 ≤ (M 53 k) ∧ (M 53 k) ≤ 1000) (hx : (M 49 k) = 6 → (0 ≤ (r5 c + (M 54 k) - M 40 f) ∧ (r5 c + (M 54 k) - M 40 f) < 320) ∧ r6 (r5 c + (M 54 k) - M 40 f) = 0) (hy : (M 49 k) = 9 → r3 c = 0) (h0 : 0 ≤ M 442 13) (hn : M 442 13 < 320) (hL : cL (M 449) (M 450) (M 452) (M 453) (M 454) (M 455) (M 442 13)) (hP : cP (M 449) (M 452) (M 455) (M 442 13) (t + (M 55 k)) (if (M 55 k) = 0 then b else (M 56 k)))
    (hQ : ∀ (M' : Nat → Int → Int), cPut M M' (M 49 k) (tgx (M 50 k) e) (shf (M 51 k) e) (shf (M 52 k) e) (shf (M 53 k) e) (M 54 k) (t + (M 55 k)) (if (M 55 k) = 0 then b else (M 56 k)) (M 57 k) → ∀ (x9 x10 x11 : Option zV), WP (d + 5) 256 0 0 37 [some (vR 441), some (vR 116), some (vR (zcall c)), some (vI e), some (vI t), some (vI b), some (vR 48), some (vI f), some (vI (k + 1)), x9, x10, x11] [] (zS (zupN P 441 3 33) M') Q) : WP (d + 5) 256 0 0 37 [some (vR 441), some (vR 116), some (vR (zcall c)), some (vI e), some (vI t), some (vI b), some (vR 48), some (vI f), some (vI k), x9, x10, x11] [] (zS (zupN P 441 3 33) M) Q := by
  by_cases z : (M 55 k) = 0
  · rw [if_pos z] at hP hQ
    exact WN_ln0_33 c e t b f k r3 hr3 r5 hr5 r6 hr6 hc hf hl hnk hk ha hd0 ht he h2 h3 h4 h5 z hx hy h0 hn hL hP (fun w452 w453 w454 q1 x9' x10' x11' => by
      refine hQ _ ?_ x9' x10' x11'
      exact ⟨(fun c hc => by repeat (first | rw [zr_ne (by omega)] | rw [zu_ne (by omega)])), ⟨rfl, fun k hk => zup_f hk, rfl⟩, ⟨rfl, rfl, rfl, rfl, rfl, rfl, rfl, rfl, rfl⟩, rfl, q1⟩)
  · rw [if_neg z] at hP hQ
    exact WN_ln1_33 c e t b f k r3 hr3 r5 hr5 r6 hr6 hc hf hl hnk hk ha hd0 ht he h2 h3 h4 h5 z hx hy h0 hn hL hP (fun w452 w453 w454 q1 x9' x10' x11' => by
      refine hQ _ ?_ x9' x10' x11'
      exact ⟨(fun c hc => by repeat (first | rw [zr_ne (by omega)] | rw [zu_ne (by omega)])), ⟨rfl, fun k hk => zup_f hk, rfl⟩, ⟨rfl, rfl, rfl, rfl, rfl, rfl, rfl, rfl, rfl⟩, rfl, q1⟩)
theorem C_wo_33 {d : Nat} {P : Nat → Nat → Nat} {M : Nat → Int → Int} {HK HK2 : (Nat → Int → Int) → Prop} (x k e t b : Int) (r1 : Int → Int) (hr1 : ∀ i : Int, 0 ≤ i ∧ i < 320 → M (zcall i) 1 = r1 i) (hx : 0 ≤ x ∧ x < 320) (hk : 0 ≤ k ∧ k < 60) (he : 0 ≤ e ∧ e ≤ 1000) (hf : 0 ≤ r1 x ∧ r1 x < 8) (hv : 0 ≤ (M 37 (r1 x)) ∧ (M 37 (r1 x)) ≤ 8) (ht : 0 ≤ t ∧ t ≤ 300) (hw : 0 ≤ M 441 1 ∧ M 441 1 ≤ 1000) (hN : 0 ≤ M 442 13 ∧ M 442 13 + (M 37 (r1 x)) < 320) (h3 : -100 ≤ (M 51 k) ∧ (M 51 k) ≤ 1000) (h4 : -100 ≤ (M 52 k) ∧ (M 52 k) ≤ 1000) (h5 : -100 ≤ (M 53 k) ∧ (M 53 k) ≤ 1000) (hL : cL (M 449) (M 450) (M 452) (M 453) (M 454) (M 455) (M 442 13)) (hP : cP (M 449) (M 452) (M 455) (M 442 13) t b)
    (hW : ∀ M1 : Nat → Int → Int, cMany M M1 (M 37 (r1 x)) t b (fun xv => if xv < M 36 (r1 x) then shf (opx (M 51 k) (M 52 k) (M 53 k) xv) e else 0) → ∀ (Q' : zQ), (∀ (M' : Nat → Int → Int), HK M' → Q' (zS (zupN P 441 3 33) M') none) → WC (d + 4) 256 [vR 441, vR 116, vR (zcall x), vI (M 441 1), vI t, vI b] (zS (zupN P 441 3 33) M1) Q')
    (hE : ∀ M1 : Nat → Int → Int, HK M1 → ((-1000 ≤ M1 42 (r1 x) ∧ M1 42 (r1 x) ≤ 1000) ∧ (-100 ≤ M1 50 k ∧ M1 50 k ≤ 1000) ∧ (0 ≤ M1 442 13 ∧ M1 442 13 < 320) ∧ cL (M1 449) (M1 450) (M1 452) (M1 453) (M1 454) (M1 455) (M1 442 13) ∧ cP (M1 449) (M1 452) (M1 455) (M1 442 13) t b) ∧ ∀ M' : Nat → Int → Int, cPut M1 M' 0 (M1 50 k + e) (if M1 42 (r1 x) = -2 then 0 else shf (M1 42 (r1 x)) (M 441 1)) (-2) (-2) (-2) t b 0 → HK2 M') :
    ∀ (Q' : zQ), (∀ (M' : Nat → Int → Int), HK2 M' → Q' (zS (zupN P 441 3 33) M') none) → WC (d + 5) 257 [vR 441, vR 116, vR (zcall x), vI k, vI e, vI t, vI b] (zS (zupN P 441 3 33) M) Q' := by
  intro Q' hq
  refine ⟨_, rfl, WO_1_33 x k e t b r1 hr1 hx hk he hf hv ht hw hN h3 h4 h5 hL hP (fun w452 w453 w454 w455 q1 q2 q3 x9' x10' => WO_2a_33 (HK := HK) x k e t b (r1 x) (M 441 1) (fun Q2 hq2 => by
    refine hW _ ?_ Q2 hq2
    exact ⟨(fun c hc => by repeat (first | rw [zr_ne (by omega)] | rw [zu_ne (by omega)])), ⟨fun k hk => (zup_ne_c (by decide)).trans (zup_f hk), rfl, fun k hk => (zup_f hk).trans (zup_ne_c (by decide)), rfl⟩, ⟨rfl, rfl, rfl, rfl, rfl, rfl, rfl, rfl, rfl⟩, q1, q2, q3⟩) (fun M1 hk1 x9'' x10'' => ?_))⟩
  obtain ⟨⟨g1, g2, g3, g4, g5⟩, g6⟩ := hE M1 hk1
  exact WO_2b_33 x k e t b (r1 x) (M 441 1) hf hk he hw g1 g2 g3.1 g3.2 g4 g5 (fun w452 w453 w454 q1 => by
    refine hq _ (g6 _ ?_)
    exact ⟨(fun c hc => by repeat (first | rw [zr_ne (by omega)] | rw [zu_ne (by omega)])), ⟨rfl, fun k hk => zup_f hk, rfl⟩, ⟨rfl, rfl, rfl, rfl, rfl, rfl, rfl, rfl, rfl⟩, rfl, q1⟩)
theorem C_op_33 {d : Nat} {P : Nat → Nat → Nat} {M : Nat → Int → Int} {Q : zQ} {HK : (Nat → Int → Int) → Prop} (c e t b f k : Int) (r3 : Int → Int) (hr3 : ∀ i : Int, 0 ≤ i ∧ i < 320 → M (zcall i) 3 = r3 i) (r5 : Int → Int) (hr5 : ∀ i : Int, 0 ≤ i ∧ i < 320 → M (zcall i) 5 = r5 i) (r6 : Int → Int) (hr6 : ∀ i : Int, 0 ≤ i ∧ i < 320 → M (zcall i) 6 = r6 i) {x9 x10 x11 : Option zV} (hc : 0 ≤ c ∧ c < 320) (hf : 0 ≤ f ∧ f < 8) (hl : (0 ≤ M 38 f ∧ M 38 f ≤ 60) ∧ 0 ≤ M 39 f ∧ M 39 f ≤ 60) (hnk : ¬ (M 38 f + M 39 f ≤ k)) (hk : 0 ≤ k ∧ k < 60) (ha : (0 ≤ r5 c ∧ r5 c ≤ 320) ∧ (-2 ≤ (M 54 k) ∧ (M 54 k) ≤ 16) ∧ 0 ≤ M 40 f ∧ M 40 f ≤ 16) (hd0 : 0 ≤ (M 55 k) ∧ (M 55 k) ≤ 5) (ht : 0 ≤ t ∧ t ≤ 300) (h6 : (M 49 k) = 6) (hx : 0 ≤ (r5 c + (M 54 k) - M 40 f) ∧ (r5 c + (M 54 k) - M 40 f) < 320) (hs : ¬ r6 (r5 c + (M 54 k) - M 40 f) = 0)
    (hW : ∀ (Q' : zQ), (∀ (M' : Nat → Int → Int), HK M' → Q' (zS (zupN P 441 3 33) M') none) → WC (d + 5) 257 [vR 441, vR 116, vR (zcall (r5 c + (M 54 k) - M 40 f)), vI k, vI e, vI (t + (M 55 k)), vI (if (M 55 k) = 0 then b else (M 56 k))] (zS (zupN P 441 3 33) M) Q')
    (hQ : ∀ (M1 : Nat → Int → Int), HK M1 → ∀ (x9 x10 x11 : Option zV), WP (d + 5) 256 0 0 37 [some (vR 441), some (vR 116), some (vR (zcall c)), some (vI e), some (vI t), some (vI b), some (vR 48), some (vI f), some (vI (k + 1)), x9, x10, x11] [] (zS (zupN P 441 3 33) M1) Q) : WP (d + 5) 256 0 0 37 [some (vR 441), some (vR 116), some (vR (zcall c)), some (vI e), some (vI t), some (vI b), some (vR 48), some (vI f), some (vI k), x9, x10, x11] [] (zS (zupN P 441 3 33) M) Q := by
  by_cases z : (M 55 k) = 0
  · rw [if_pos z] at hW
    exact WN_op0_33 c e t b f k r3 hr3 r5 hr5 r6 hr6 hW hc hf hl hnk hk ha hd0 ht z h6 hx.1 hx.2 hs hQ
  · rw [if_neg z] at hW
    exact WN_op1_33 c e t b f k r3 hr3 r5 hr5 r6 hr6 hW hc hf hl hnk hk ha hd0 ht z h6 hx.1 hx.2 hs hQ
theorem C_ln_62 {d : Nat} {P : Nat → Nat → Nat} {M : Nat → Int → Int} {Q : zQ} (c e t b f k : Int) (r3 : Int → Int) (hr3 : ∀ i : Int, 0 ≤ i ∧ i < 320 → M (zcall i) 3 = r3 i) (r5 : Int → Int) (hr5 : ∀ i : Int, 0 ≤ i ∧ i < 320 → M (zcall i) 5 = r5 i) (r6 : Int → Int) (hr6 : ∀ i : Int, 0 ≤ i ∧ i < 320 → M (zcall i) 6 = r6 i) {x9 x10 x11 : Option zV} (hc : 0 ≤ c ∧ c < 320) (hf : 0 ≤ f ∧ f < 8) (hl : (0 ≤ M 67 f ∧ M 67 f ≤ 60) ∧ 0 ≤ M 68 f ∧ M 68 f ≤ 60) (hnk : ¬ (M 67 f + M 68 f ≤ k)) (hk : 0 ≤ k ∧ k < 60) (ha : (0 ≤ r5 c ∧ r5 c ≤ 320) ∧ (-2 ≤ (M 83 k) ∧ (M 83 k) ≤ 16) ∧ 0 ≤ M 69 f ∧ M 69 f ≤ 16) (hd0 : 0 ≤ (M 84 k) ∧ (M 84 k) ≤ 5) (ht : 0 ≤ t ∧ t ≤ 300) (he : 0 ≤ e ∧ e ≤ 1000) (h2 : -100 ≤ (M 79 k) ∧ (M 79 k) ≤ 1000) (h3 : -100 ≤ (M 80 k) ∧ (M 80 k) ≤ 1000) (h4 : -100 ≤ (M 81 k) ∧ (M 81 k) ≤ 1000) (h5 : -100 ≤ (M 82 k) ∧ (M 82 k) ≤ 1000) (hx : (M 78 k) = 6 → (0 ≤ (r5 c + (M 83 k) - M 69 f) ∧ (r5 c + (M 83 k) - M 69 f) < 320) ∧ r6 (r5 c + (M 83 k) - M 69 f) = 0) (hy : (M 78 k) = 9 → r3 c = 0) (h0 : 0 ≤ M 442 13) (hn : M 442 13 < 320) (hL : cL (M 449) (M 450) (M 452) (M 453) (M 454) (M 455) (M 442 13)) (hP : cP (M 449) (M 452) (M 455) (M 442 13) (t + (M 84 k)) (if (M 84 k) = 0 then b else (M 85 k)))
    (hQ : ∀ (M' : Nat → Int → Int), cPut M M' (M 78 k) (tgx (M 79 k) e) (shf (M 80 k) e) (shf (M 81 k) e) (shf (M 82 k) e) (M 83 k) (t + (M 84 k)) (if (M 84 k) = 0 then b else (M 85 k)) (M 86 k) → ∀ (x9 x10 x11 : Option zV), WP (d + 5) 256 0 0 37 [some (vR 441), some (vR 116), some (vR (zcall c)), some (vI e), some (vI t), some (vI b), some (vR 77), some (vI f), some (vI (k + 1)), x9, x10, x11] [] (zS (zupN P 441 3 62) M') Q) : WP (d + 5) 256 0 0 37 [some (vR 441), some (vR 116), some (vR (zcall c)), some (vI e), some (vI t), some (vI b), some (vR 77), some (vI f), some (vI k), x9, x10, x11] [] (zS (zupN P 441 3 62) M) Q := by
  by_cases z : (M 84 k) = 0
  · rw [if_pos z] at hP hQ
    exact WN_ln0_62 c e t b f k r3 hr3 r5 hr5 r6 hr6 hc hf hl hnk hk ha hd0 ht he h2 h3 h4 h5 z hx hy h0 hn hL hP (fun w452 w453 w454 q1 x9' x10' x11' => by
      refine hQ _ ?_ x9' x10' x11'
      exact ⟨(fun c hc => by repeat (first | rw [zr_ne (by omega)] | rw [zu_ne (by omega)])), ⟨rfl, fun k hk => zup_f hk, rfl⟩, ⟨rfl, rfl, rfl, rfl, rfl, rfl, rfl, rfl, rfl⟩, rfl, q1⟩)
  · rw [if_neg z] at hP hQ
    exact WN_ln1_62 c e t b f k r3 hr3 r5 hr5 r6 hr6 hc hf hl hnk hk ha hd0 ht he h2 h3 h4 h5 z hx hy h0 hn hL hP (fun w452 w453 w454 q1 x9' x10' x11' => by
      refine hQ _ ?_ x9' x10' x11'
      exact ⟨(fun c hc => by repeat (first | rw [zr_ne (by omega)] | rw [zu_ne (by omega)])), ⟨rfl, fun k hk => zup_f hk, rfl⟩, ⟨rfl, rfl, rfl, rfl, rfl, rfl, rfl, rfl, rfl⟩, rfl, q1⟩)
theorem C_wo_62 {d : Nat} {P : Nat → Nat → Nat} {M : Nat → Int → Int} {HK HK2 : (Nat → Int → Int) → Prop} (x k e t b : Int) (r1 : Int → Int) (hr1 : ∀ i : Int, 0 ≤ i ∧ i < 320 → M (zcall i) 1 = r1 i) (hx : 0 ≤ x ∧ x < 320) (hk : 0 ≤ k ∧ k < 60) (he : 0 ≤ e ∧ e ≤ 1000) (hf : 0 ≤ r1 x ∧ r1 x < 8) (hv : 0 ≤ (M 66 (r1 x)) ∧ (M 66 (r1 x)) ≤ 8) (ht : 0 ≤ t ∧ t ≤ 300) (hw : 0 ≤ M 441 1 ∧ M 441 1 ≤ 1000) (hN : 0 ≤ M 442 13 ∧ M 442 13 + (M 66 (r1 x)) < 320) (h3 : -100 ≤ (M 80 k) ∧ (M 80 k) ≤ 1000) (h4 : -100 ≤ (M 81 k) ∧ (M 81 k) ≤ 1000) (h5 : -100 ≤ (M 82 k) ∧ (M 82 k) ≤ 1000) (hL : cL (M 449) (M 450) (M 452) (M 453) (M 454) (M 455) (M 442 13)) (hP : cP (M 449) (M 452) (M 455) (M 442 13) t b)
    (hW : ∀ M1 : Nat → Int → Int, cMany M M1 (M 66 (r1 x)) t b (fun xv => if xv < M 65 (r1 x) then shf (opx (M 80 k) (M 81 k) (M 82 k) xv) e else 0) → ∀ (Q' : zQ), (∀ (M' : Nat → Int → Int), HK M' → Q' (zS (zupN P 441 3 62) M') none) → WC (d + 4) 256 [vR 441, vR 116, vR (zcall x), vI (M 441 1), vI t, vI b] (zS (zupN P 441 3 62) M1) Q')
    (hE : ∀ M1 : Nat → Int → Int, HK M1 → ((-1000 ≤ M1 71 (r1 x) ∧ M1 71 (r1 x) ≤ 1000) ∧ (-100 ≤ M1 79 k ∧ M1 79 k ≤ 1000) ∧ (0 ≤ M1 442 13 ∧ M1 442 13 < 320) ∧ cL (M1 449) (M1 450) (M1 452) (M1 453) (M1 454) (M1 455) (M1 442 13) ∧ cP (M1 449) (M1 452) (M1 455) (M1 442 13) t b) ∧ ∀ M' : Nat → Int → Int, cPut M1 M' 0 (M1 79 k + e) (if M1 71 (r1 x) = -2 then 0 else shf (M1 71 (r1 x)) (M 441 1)) (-2) (-2) (-2) t b 0 → HK2 M') :
    ∀ (Q' : zQ), (∀ (M' : Nat → Int → Int), HK2 M' → Q' (zS (zupN P 441 3 62) M') none) → WC (d + 5) 257 [vR 441, vR 116, vR (zcall x), vI k, vI e, vI t, vI b] (zS (zupN P 441 3 62) M) Q' := by
  intro Q' hq
  refine ⟨_, rfl, WO_1_62 x k e t b r1 hr1 hx hk he hf hv ht hw hN h3 h4 h5 hL hP (fun w452 w453 w454 w455 q1 q2 q3 x9' x10' => WO_2a_62 (HK := HK) x k e t b (r1 x) (M 441 1) (fun Q2 hq2 => by
    refine hW _ ?_ Q2 hq2
    exact ⟨(fun c hc => by repeat (first | rw [zr_ne (by omega)] | rw [zu_ne (by omega)])), ⟨fun k hk => (zup_ne_c (by decide)).trans (zup_f hk), rfl, fun k hk => (zup_f hk).trans (zup_ne_c (by decide)), rfl⟩, ⟨rfl, rfl, rfl, rfl, rfl, rfl, rfl, rfl, rfl⟩, q1, q2, q3⟩) (fun M1 hk1 x9'' x10'' => ?_))⟩
  obtain ⟨⟨g1, g2, g3, g4, g5⟩, g6⟩ := hE M1 hk1
  exact WO_2b_62 x k e t b (r1 x) (M 441 1) hf hk he hw g1 g2 g3.1 g3.2 g4 g5 (fun w452 w453 w454 q1 => by
    refine hq _ (g6 _ ?_)
    exact ⟨(fun c hc => by repeat (first | rw [zr_ne (by omega)] | rw [zu_ne (by omega)])), ⟨rfl, fun k hk => zup_f hk, rfl⟩, ⟨rfl, rfl, rfl, rfl, rfl, rfl, rfl, rfl, rfl⟩, rfl, q1⟩)
theorem C_op_62 {d : Nat} {P : Nat → Nat → Nat} {M : Nat → Int → Int} {Q : zQ} {HK : (Nat → Int → Int) → Prop} (c e t b f k : Int) (r3 : Int → Int) (hr3 : ∀ i : Int, 0 ≤ i ∧ i < 320 → M (zcall i) 3 = r3 i) (r5 : Int → Int) (hr5 : ∀ i : Int, 0 ≤ i ∧ i < 320 → M (zcall i) 5 = r5 i) (r6 : Int → Int) (hr6 : ∀ i : Int, 0 ≤ i ∧ i < 320 → M (zcall i) 6 = r6 i) {x9 x10 x11 : Option zV} (hc : 0 ≤ c ∧ c < 320) (hf : 0 ≤ f ∧ f < 8) (hl : (0 ≤ M 67 f ∧ M 67 f ≤ 60) ∧ 0 ≤ M 68 f ∧ M 68 f ≤ 60) (hnk : ¬ (M 67 f + M 68 f ≤ k)) (hk : 0 ≤ k ∧ k < 60) (ha : (0 ≤ r5 c ∧ r5 c ≤ 320) ∧ (-2 ≤ (M 83 k) ∧ (M 83 k) ≤ 16) ∧ 0 ≤ M 69 f ∧ M 69 f ≤ 16) (hd0 : 0 ≤ (M 84 k) ∧ (M 84 k) ≤ 5) (ht : 0 ≤ t ∧ t ≤ 300) (h6 : (M 78 k) = 6) (hx : 0 ≤ (r5 c + (M 83 k) - M 69 f) ∧ (r5 c + (M 83 k) - M 69 f) < 320) (hs : ¬ r6 (r5 c + (M 83 k) - M 69 f) = 0)
    (hW : ∀ (Q' : zQ), (∀ (M' : Nat → Int → Int), HK M' → Q' (zS (zupN P 441 3 62) M') none) → WC (d + 5) 257 [vR 441, vR 116, vR (zcall (r5 c + (M 83 k) - M 69 f)), vI k, vI e, vI (t + (M 84 k)), vI (if (M 84 k) = 0 then b else (M 85 k))] (zS (zupN P 441 3 62) M) Q')
    (hQ : ∀ (M1 : Nat → Int → Int), HK M1 → ∀ (x9 x10 x11 : Option zV), WP (d + 5) 256 0 0 37 [some (vR 441), some (vR 116), some (vR (zcall c)), some (vI e), some (vI t), some (vI b), some (vR 77), some (vI f), some (vI (k + 1)), x9, x10, x11] [] (zS (zupN P 441 3 62) M1) Q) : WP (d + 5) 256 0 0 37 [some (vR 441), some (vR 116), some (vR (zcall c)), some (vI e), some (vI t), some (vI b), some (vR 77), some (vI f), some (vI k), x9, x10, x11] [] (zS (zupN P 441 3 62) M) Q := by
  by_cases z : (M 84 k) = 0
  · rw [if_pos z] at hW
    exact WN_op0_62 c e t b f k r3 hr3 r5 hr5 r6 hr6 hW hc hf hl hnk hk ha hd0 ht z h6 hx.1 hx.2 hs hQ
  · rw [if_neg z] at hW
    exact WN_op1_62 c e t b f k r3 hr3 r5 hr5 r6 hr6 hW hc hf hl hnk hk ha hd0 ht z h6 hx.1 hx.2 hs hQ
