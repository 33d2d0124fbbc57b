/-! The turns of a run: the relation goes on -/
section
variable {L : Nat → Int → Int} {o0 n0 o1 n1 nF : Int} {TO : Int → Int} {V0 mx0 : Int} {π e0 : Int → Int} {M σ : Nat → Int → Int}
theorem r_tick (h : mRel L o0 n0 o1 n1 nF TO V0 mx0 π e0 M σ) (hs : M 102 2 < 3000) : mRel L o0 n0 o1 n1 nF TO V0 mx0 π e0 ((zrow M 102 (zs (M 102) 2 (M 102 2 + 1)))) ((zup σ 467 70 (σ 467 70 + 1))) := by
  obtain ⟨⟨s1, s2, s3, s4, s5, s6, s7⟩, ⟨q1, q2, q3, q4, q5, q6, q7, q8, q9, q10⟩, hc, ha, hA⟩ := h
  refine ⟨⟨s1, s2, s3, ?_, s5, s6, s7⟩, ⟨?_, ?_, q3, ?_, q5, q6, q7, q8, q9, q10⟩, hc, ha, hA⟩
  · show σ 467 70 + 1 = M 102 2 + 1; omega
  · show 0 ≤ M 102 2 + 1; omega
  · show M 102 2 + 1 ≤ 3000; omega
  · show M 102 3 ≤ M 102 2 + 1; omega
theorem r_skip {e a' : Int} (h : mRel L o0 n0 o1 n1 nF TO V0 mx0 π e0 M σ) (hl : M 101 12 < M 101 13) (h1 : a' = (σ 511 (M 111 4)) + 1 + L 488 (σ 511 (M 111 4)) + L 489 (σ 511 (M 111 4))) (h2 : e + xof o0 o1 (M 111 4) = a') : mRel L o0 n0 o1 n1 nF TO V0 mx0 π e0 (zup M 101 12 e) (zrow σ 511 (zs (σ 511) (σ 467 67 - 1) a')) := by
  have k := (mRel_in h).1
  rw [k]
  exact ⟨h.1, h.2.1, h.2.2.1, h.2.2.2.1, mRelA_skip h.2.2.2.2 hl h1 h2⟩
theorem r_put {i v : Int} (h : mRel L o0 n0 o1 n1 nF TO V0 mx0 π e0 M σ) (hv : in32 v) : mRel L o0 n0 o1 n1 nF TO V0 mx0 π e0 (zrow M 105 (zs (M 105) i v)) (zrow σ 516 (zs (σ 516) i v)) :=
  ⟨h.1, h.2.1, h.2.2.1, h.2.2.2.1, mRelA_vals h.2.2.2.2 hv⟩
theorem r_push {pc' lim' l c a' b' c' : Int} (h : mRel L o0 n0 o1 n1 nF TO V0 mx0 π e0 M σ) (hl : M 101 12 < M 101 13) (hs : (a' = (σ 511 (M 111 4)) + 1 ∧ b' = (σ 511 (M 111 4)) + 1 + L 488 (σ 511 (M 111 4)) ∧ 0 < L 488 (σ 511 (M 111 4))) ∨ (a' = (σ 511 (M 111 4)) + 1 + L 488 (σ 511 (M 111 4)) ∧ b' = (σ 511 (M 111 4)) + 1 + L 488 (σ 511 (M 111 4)) + L 489 (σ 511 (M 111 4)) ∧ 0 < L 489 (σ 511 (M 111 4)))) (hc : c' = (σ 511 (M 111 4)) + 1 + L 488 (σ 511 (M 111 4)) + L 489 (σ 511 (M 111 4))) (h2 : pc' + xof o0 o1 (M 111 4) = a') (h3 : lim' + xof o0 o1 (M 111 4) = b') (h4 : c + xof o0 o1 (M 111 4) = c') (hl' : 0 ≤ l ∧ l < 2147483648) : mRel L o0 n0 o1 n1 nF TO V0 mx0 π e0 ((zup (zup (zup (zrow (zrow (zrow (zrow M 107 (zs (M 107) (M 106 4) pc')) 108 (zs (M 108) (M 106 4) l)) 109 (zs (M 109) (M 106 4) c)) 110 (zs (M 110) (M 106 4) (M 101 13))) 101 12 pc') 101 13 lim') 106 4 (M 106 4 + 1))) ((zup (zrow (zrow (zrow (zrow (zrow σ 511 (zs (σ 511) (σ 467 67 - 1) a')) 517 (zs (σ 517) (σ 467 68) a')) 518 (zs (σ 518) (σ 467 68) l)) 519 (zs (σ 519) (σ 467 68) b')) 520 (zs (σ 520) (σ 467 68) c')) 467 68 (σ 467 68 + 1))) := by
  have k := (mRel_in h).1
  rw [k]
  obtain ⟨⟨s1, s2, s3, s4, s5, s6, s7⟩, hq, hcn, ha, hA⟩ := h
  rw [s2]
  exact ⟨⟨s1, rfl, s3, s4, s5, s6, s7⟩, hq, hcn, ha, mRelA_push hA hl hs hc h2 h3 h4 hl'⟩
theorem r_again (h : mRel L o0 n0 o1 n1 nF TO V0 mx0 π e0 M σ) (ho : M 101 14 < M 106 4) (hp : 0 < M 108 (M 106 4 - 1)) : mRel L o0 n0 o1 n1 nF TO V0 mx0 π e0 ((zup (zrow M 108 (zs (M 108) (M 106 4 - 1) (M 108 (M 106 4 - 1) - 1))) 101 12 (M 107 (M 106 4 - 1)))) ((zrow (zrow σ 511 (zs (σ 511) (σ 467 67 - 1) (σ 517 (σ 467 68 - 1)))) 518 (zs (σ 518) (σ 467 68 - 1) (σ 518 (σ 467 68 - 1) - 1)))) := by
  obtain ⟨k, i1, i2, i3, i4, i5, i6, i7, i8, i9, i10⟩ := mRel_in h
  obtain ⟨⟨s1, s2, s3, s4, s5, s6, s7⟩, hq, hcn, ha, hA⟩ := h
  have := i8 ho
  rw [k, s2, ← this.2.2.2]
  exact ⟨⟨s1, s2, s3, s4, s5, s6, s7⟩, hq, hcn, ha, mRelA_again hA ho rfl (by omega)⟩
theorem r_pop (h : mRel L o0 n0 o1 n1 nF TO V0 mx0 π e0 M σ) (ho : M 101 14 < M 106 4) : mRel L o0 n0 o1 n1 nF TO V0 mx0 π e0 ((zup (zup (zup M 101 12 (M 109 (M 106 4 - 1))) 101 13 (M 110 (M 106 4 - 1))) 106 4 (M 106 4 - 1))) ((zup (zrow σ 511 (zs (σ 511) (σ 467 67 - 1) (σ 520 (σ 467 68 - 1)))) 467 68 (σ 467 68 - 1))) := by
  obtain ⟨k, i1, i2, i3, i4, i5, i6, i7, i8, i9, i10⟩ := mRel_in h
  obtain ⟨⟨s1, s2, s3, s4, s5, s6, s7⟩, hq, hcn, ha, hA⟩ := h
  rw [k, s2]
  exact ⟨⟨s1, rfl, s3, s4, s5, s6, s7⟩, hq, hcn, ha, mRelA_pop hA ho rfl rfl⟩
theorem r_leave (h : mRel L o0 n0 o1 n1 nF TO V0 mx0 π e0 M σ) (hp : 0 < M 111 4) : mRel L o0 n0 o1 n1 nF TO V0 mx0 π e0 ((zup (zup (zup (zup (zup (zup (zup M 101 10 (M 113 (M 111 4 - 1))) 101 11 (M 101 10)) 101 12 (M 112 (M 111 4 - 1) + 1)) 101 13 (M 114 (M 111 4 - 1))) 101 14 (M 115 (M 111 4 - 1))) 106 4 (M 101 14)) 111 4 (M 111 4 - 1))) ((zup (zup (zup σ 467 67 (σ 467 67 - 1)) 467 68 (σ 515 (σ 467 67 - 1))) 467 69 (σ 513 (σ 467 67 - 1)))) := by
  obtain ⟨k, i1, i2, i3, i4, i5, i6, i7, i8, i9, i10⟩ := mRel_in h
  obtain ⟨⟨s1, s2, s3, s4, s5, s6, s7⟩, hq, hcn, ha, hA⟩ := h
  rw [k, i6, i7]
  refine ⟨⟨?_, rfl, rfl, s4, s5, s6, s7⟩, hq, hcn, ha, (mRelA_leave hA hp rfl rfl rfl rfl rfl rfl rfl).1⟩
  show M 111 4 = M 111 4 - 1 + 1; omega
theorem f_end {v : Int} (h : mRel L o0 n0 o1 n1 nF TO V0 mx0 π e0 M σ) (h0 : M 111 4 = 0) : fRel π e0 TO (zup (zrow M 102 (zs (M 102) 1 v)) 101 15 1) (leaves_f σ v) := by
  obtain ⟨k, i1, i2, i3, i4, i5, i6, i7, i8, i9, i10⟩ := mRel_in h
  obtain ⟨⟨s1, s2, s3, s4, s5, s6, s7⟩, ⟨q1, q2, q3, q4, q5, q6, q7, q8, q9, q10⟩, hcn, ha, hA⟩ := h
  have e : leaves_f σ v = zup (zup (zup (zup (zup σ 467 67 (σ 467 67 - 1)) 467 68 (σ 515 (σ 467 67 - 1))) 467 69 (σ 513 (σ 467 67 - 1))) 467 73 0) 467 74 v := if_neg (fun q => q (by omega))
  rw [e]
  exact ⟨rfl, q5, Int.le_refl _, by show (0 : Int) ≤ 2; decide, rfl, s4.symm, s5.symm, s6.symm, ⟨q1, q2, q3, q4⟩, hcn⟩
theorem f_stop (h : mRel L o0 n0 o1 n1 nF TO V0 mx0 π e0 M σ) (hl : M 101 12 < M 101 13) (hs : ¬ M 102 2 < 3000) : fRel π e0 TO (zup (zrow M 102 (zs (M 102) 0 1)) 101 15 1) (astep σ) := by
  obtain ⟨k, i1, i2, i3, i4, i5, i6, i7, i8, i9, i10⟩ := mRel_in h
  obtain ⟨⟨s1, s2, s3, s4, s5, s6, s7⟩, ⟨q1, q2, q3, q4, q5, q6, q7, q8, q9, q10⟩, hcn, ha, hA⟩ := h
  rw [as_stop (by rw [k]; omega) (by omega) (by rw [k, s2, i6]; intro q; have := (i8 (by omega)).1; omega)]
  exact ⟨rfl, rfl, by show (0 : Int) ≤ 1; decide, by show (1 : Int) ≤ 2; decide, q6, s4.symm, s5.symm, s6.symm, ⟨q1, q2, q3, q4⟩, hcn⟩
theorem f_stop1 {r : Int → Int} (h : mRel L o0 n0 o1 n1 nF TO V0 mx0 π e0 M σ) : fRel π e0 TO (zup (zrow M 102 (zs (M 102) 0 1)) 101 15 1) (zup (zrow σ 511 r) 467 73 1) := by
  obtain ⟨⟨s1, s2, s3, s4, s5, s6, s7⟩, ⟨q1, q2, q3, q4, q5, q6, q7, q8, q9, q10⟩, hcn, ha, hA⟩ := h
  exact ⟨rfl, rfl, by show (0 : Int) ≤ 1; decide, by show (1 : Int) ≤ 2; decide, q6, s4.symm, s5.symm, s6.symm, ⟨q1, q2, q3, q4⟩, hcn⟩
theorem f_stop2 {r : Int → Int} {s : Int} (h : mRel L o0 n0 o1 n1 nF TO V0 mx0 π e0 M σ) (hs : M 102 2 ≤ s ∧ s ≤ 3000) : fRel π e0 TO (zup (zrow M 102 (zs (zs (M 102) 2 s) 0 2)) 101 15 1) (zup (zup (zrow σ 511 r) 467 70 s) 467 73 2) := by
  obtain ⟨⟨s1, s2, s3, s4, s5, s6, s7⟩, ⟨q1, q2, q3, q4, q5, q6, q7, q8, q9, q10⟩, hcn, ha, hA⟩ := h
  refine ⟨rfl, rfl, by show (0 : Int) ≤ 2; decide, by show (2 : Int) ≤ 2; decide, q6, rfl, s5.symm, s6.symm, ⟨?_, hs.2, q3, ?_⟩, hcn⟩
  · show 0 ≤ s; omega
  · show M 102 3 ≤ s; omega
end
