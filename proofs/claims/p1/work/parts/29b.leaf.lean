/-! One turn of the class's run is one turn of the reference's -/
def xSafe (σ : Nat → Int → Int) : Prop :=
  (1 ≤ (σ 467 67) ∧ (σ 467 67) ≤ 24) ∧
  (0 ≤ (σ 467 68) ∧ (σ 467 68) < 400 ∧ 0 ≤ (σ 515 ((σ 467 67) - 1)) ∧ (σ 515 ((σ 467 67) - 1)) ≤ (σ 467 68)) ∧
  (0 ≤ (σ 467 70) ∧ (σ 467 70) ≤ 3000 ∧ 0 ≤ (σ 467 71) ∧ (σ 467 71) ≤ (σ 467 70) ∧ 1 ≤ (σ 506 1) ∧ (σ 506 1) ≤ 50) ∧
  (0 ≤ (σ 467 69) ∧ 0 ≤ (σ 513 ((σ 467 67) - 1)) ∧ (σ 513 ((σ 467 67) - 1)) ≤ (σ 467 69) ∧ (σ 467 69) + 8 ≤ 700) ∧
  (0 ≤ (σ 467 11) ∧ (σ 467 11) ≤ 1) ∧
  ((σ 467 68) > (σ 515 ((σ 467 67) - 1)) → 0 ≤ (σ 518 ((σ 467 68) - 1)) ∧ (σ 518 ((σ 467 68) - 1)) < 2147483648) ∧
  (1 < (σ 467 67) → 0 ≤ (σ 514 ((σ 467 67) - 1)) ∧ (σ 514 ((σ 467 67) - 1)) < 520 ∧ 0 ≤ (σ 513 ((σ 467 67) - 2)) ∧ (σ 513 ((σ 467 67) - 2)) ≤ 700 ∧ 0 ≤ (σ 481 (σ 514 ((σ 467 67) - 1))) ∧ (σ 513 ((σ 467 67) - 2)) + (σ 481 (σ 514 ((σ 467 67) - 1))) < 700) ∧
  (((σ 467 68) > (σ 515 ((σ 467 67) - 1)) ∧ (σ 511 ((σ 467 67) - 1)) = (σ 519 ((σ 467 68) - 1))) ∨ (σ 511 ((σ 467 67) - 1)) = (σ 512 ((σ 467 67) - 1)) ∨ xLine (σ 467 69) (σ 513 ((σ 467 67) - 1)) (σ 467 11) (σ 480) (σ 481) (σ 482) (σ 483) (σ 484) (σ 485) (σ 486) (σ 488) (σ 489) (σ 473) (σ 474) (σ 475) (σ 476) (σ 511 ((σ 467 67) - 1)) ∧ (((σ 480 (σ 511 ((σ 467 67) - 1))) = 7 ∨ (σ 480 (σ 511 ((σ 467 67) - 1))) = 8) → -2147483648 ≤ (xval (σ 516) ((σ 513) ((σ 467 67) - 1)) (σ 482 (σ 511 ((σ 467 67) - 1)))) ∧ (xval (σ 516) ((σ 513) ((σ 467 67) - 1)) (σ 482 (σ 511 ((σ 467 67) - 1)))) < 2147483648)) ∧
  ((0 ≤ (σ 485 (σ 511 ((σ 467 67) - 1))) ∧ (σ 485 (σ 511 ((σ 467 67) - 1))) < 8 → 0 ≤ (σ 509 (σ 485 (σ 511 ((σ 467 67) - 1)))) ∧ (σ 509 (σ 485 (σ 511 ((σ 467 67) - 1)))) ≤ 3000) ∧ (0 ≤ (σ 486 (σ 511 ((σ 467 67) - 1))) ∧ (σ 486 (σ 511 ((σ 467 67) - 1))) < 16 → 0 ≤ (σ 510 (σ 486 (σ 511 ((σ 467 67) - 1)))) ∧ (σ 510 (σ 486 (σ 511 ((σ 467 67) - 1)))) ≤ 3000))
def agr (L σ : Nat → Int → Int) : Prop := σ 467 11 = L 467 11 ∧ σ 473 = L 473 ∧ σ 474 = L 474 ∧ σ 475 = L 475 ∧ σ 476 = L 476 ∧ σ 480 = L 480 ∧ σ 481 = L 481 ∧ σ 482 = L 482 ∧ σ 483 = L 483 ∧ σ 484 = L 484 ∧ σ 485 = L 485 ∧ σ 486 = L 486 ∧ σ 488 = L 488 ∧ σ 489 = L 489 ∧ σ 506 = L 506
/-- a line of the program or of the result -/
def xok (L : Nat → Int → Int) (o0 n0 o1 n1 nF : Int) (TO : Int → Int) (j nv a : Int) : Prop :=
  xLine nv 0 (L 467 11) (L 480) (L 481) (L 482) (L 483) (L 484) (L 485) (L 486) (L 488) (L 489) (L 473) (L 474) (L 475) (L 476) a ∧ (j = 0 → o0 ≤ a ∧ a < o0 + n0) ∧ (¬ j = 0 → o1 ≤ a ∧ a < o1 + n1) ∧ (L 480 a = 6 → L 485 a < nF ∧ TO (L 486 a) = L 485 a)
/-- what is counted: entries by function, times by site -/
def xCnt (π e0 TO ent don rEnt rTim : Int → Int) (ca : Int) : Prop :=
  (∀ f : Int, 0 ≤ f → f < 8 → ent f = rEnt (π f) + e0 f) ∧ (∀ f : Int, 0 ≤ f → f < 8 → 0 ≤ rEnt f ∧ rEnt f ≤ ca) ∧ (∀ s : Int, 0 ≤ s → s < 16 → don s = rTim s ∧ 0 ≤ rTim s ∧ rTim s ≤ ca ∧ (0 < rTim s → 0 ≤ TO s ∧ TO s < 8 ∧ rTim s ≤ rEnt (TO s)))
def mRel (L : Nat → Int → Int) (o0 n0 o1 n1 nF : Int) (TO : Int → Int) (V0 mx0 : Int) (π e0 : Int → Int) (M σ : Nat → Int → Int) : Prop :=
  (σ 467 67 = M 111 4 + 1 ∧ σ 467 68 = M 106 4 ∧ σ 467 69 = M 101 11 ∧ σ 467 70 = M 102 2 ∧ σ 467 71 = M 102 3 ∧ σ 467 72 = M 102 4 ∧ σ 467 73 = (-1)) ∧
  (0 ≤ M 102 2 ∧ M 102 2 ≤ 3000 ∧ 0 ≤ M 102 3 ∧ M 102 3 ≤ M 102 2 ∧ M 102 0 = 0 ∧ M 102 1 = 0 ∧ M 101 9 = L 506 1 ∧ 1 ≤ L 506 1 ∧ L 506 1 ≤ 50 ∧ M 101 15 = 0) ∧
  xCnt π e0 TO (M 103) (M 104) (σ 509) (σ 510) (M 102 3) ∧ agr L σ ∧
  mRelA L (xok L o0 n0 o1 n1 nF TO) V0 mx0 o0 o1 (M 111 4) (M 106 4) (M 101 11) (M 101 12) (M 101 13) (M 101 10) (M 101 14) (M 107) (M 108) (M 109) (M 110) (M 112) (M 113) (M 114) (M 115) (M 105) (σ 511) (σ 512) (σ 513) (σ 514) (σ 515) (σ 516) (σ 517) (σ 518) (σ 519) (σ 520)
/-- what is left when it is over -/
def fRel (π e0 TO : Int → Int) (M σ : Nat → Int → Int) : Prop :=
  M 101 15 = 1 ∧ M 102 0 = σ 467 73 ∧ 0 ≤ σ 467 73 ∧ σ 467 73 ≤ 2 ∧ M 102 1 = (if σ 467 73 = 0 then σ 467 74 else 0) ∧ M 102 2 = σ 467 70 ∧ M 102 3 = σ 467 71 ∧ M 102 4 = σ 467 72 ∧ (0 ≤ M 102 2 ∧ M 102 2 ≤ 3000 ∧ 0 ≤ M 102 3 ∧ M 102 3 ≤ M 102 2) ∧ xCnt π e0 TO (M 103) (M 104) (σ 509) (σ 510) (M 102 3)
/-- how many turns are left at most -/
def cphi (M : Nat → Int → Int) : Int := 4 * (3001 - M 102 2) + 2 * M 106 4 + 2 * M 111 4 + (if M 101 12 = M 101 13 then 1 else 0)
section
variable {L : Nat → Int → Int} {o0 n0 o1 n1 nF : Int} {TO : Int → Int} {V0 mx0 : Int} {π e0 : Int → Int} {M σ : Nat → Int → Int}
theorem xval_cval {f g : Int → Int} {b t o : Int} (ho : (0 ≤ o ∧ o < 1000) ∨ (-700 ≤ o ∧ o ≤ -10 ∧ b - 10 - o < t)) (hb : 0 ≤ b) (h : ∀ i : Int, 0 ≤ i → i < t → f i = g i) : cval f b o = xval g b o := by
  unfold cval xval
  rcases ho with q | q
  · rw [if_neg (by omega), if_pos (by omega)]
  · rw [if_pos (by omega), if_neg (by omega)]; exact h _ (by omega) q.2.2
theorem in32_xval {g : Int → Int} {b t o : Int} (ho : (0 ≤ o ∧ o < 1000) ∨ (-700 ≤ o ∧ o ≤ -10 ∧ b - 10 - o < t)) (hb : 0 ≤ b) (h : ∀ i : Int, 0 ≤ i → i < t → in32 (g i)) : in32 (xval g b o) := by
  unfold xval
  rcases ho with q | q
  · rw [if_pos (by omega)]; unfold in32; omega
  · rw [if_neg (by omega)]; exact h _ (by omega) q.2.2
theorem in32_w (x : Int) : in32 (w32 x) := by unfold in32 w32; omega
theorem in32_wrk {k a b : Int} (ha : in32 a) : in32 (wrk k a b) := by
  unfold wrk
  repeat' split
  all_goals first | exact ha | exact in32_w _ | (unfold in32; omega)
theorem as_line (h1 : ¬ σ 511 (σ 467 67 - 1) = σ 512 (σ 467 67 - 1)) (h2 : ¬ σ 467 70 = 3000) (h3 : ¬ σ 467 68 ≤ σ 515 (σ 467 67 - 1) → ¬ σ 511 (σ 467 67 - 1) = σ 519 (σ 467 68 - 1)) : astep σ = does_f (zup σ 467 70 (σ 467 70 + 1)) (σ 511 (σ 467 67 - 1)) := by
  by_cases c : σ 467 68 ≤ σ 515 (σ 467 67 - 1)
  · exact (if_pos c).trans ((if_pos h1).trans (if_pos h2))
  · exact (if_neg c).trans ((if_pos (h3 c)).trans ((if_pos h1).trans (if_pos h2)))
theorem as_stop (h1 : ¬ σ 511 (σ 467 67 - 1) = σ 512 (σ 467 67 - 1)) (h2 : σ 467 70 = 3000) (h3 : ¬ σ 467 68 ≤ σ 515 (σ 467 67 - 1) → ¬ σ 511 (σ 467 67 - 1) = σ 519 (σ 467 68 - 1)) : astep σ = zup σ 467 73 1 := by
  by_cases c : σ 467 68 ≤ σ 515 (σ 467 67 - 1)
  · exact (if_pos c).trans ((if_pos h1).trans (if_neg (fun q => q h2)))
  · exact (if_neg c).trans ((if_pos (h3 c)).trans ((if_pos h1).trans (if_neg (fun q => q h2))))
theorem as_end (h1 : σ 511 (σ 467 67 - 1) = σ 512 (σ 467 67 - 1)) (c : σ 467 68 ≤ σ 515 (σ 467 67 - 1)) : astep σ = leaves_f σ 0 := (if_pos c).trans (if_neg (fun q => q h1))
/-- what a relation says of the place -/
theorem mRel_in (h : mRel L o0 n0 o1 n1 nF TO V0 mx0 π e0 M σ) : (σ 467 67 - 1 = M 111 4) ∧ (0 ≤ M 111 4 ∧ M 111 4 ≤ 23) ∧ (0 ≤ M 101 10 ∧ M 101 10 ≤ M 101 11 ∧ M 101 11 ≤ V0 + 8 * M 111 4) ∧ (0 ≤ M 101 14 ∧ M 101 14 ≤ M 106 4 ∧ M 106 4 ≤ mx0 + 5 * M 111 4) ∧ M 101 12 + xof o0 o1 (M 111 4) = σ 511 (M 111 4) ∧ M 101 12 ≤ M 101 13 ∧ σ 515 (M 111 4) = M 101 14 ∧ σ 513 (M 111 4) = M 101 10 ∧ (M 101 14 < M 106 4 → M 101 13 + xof o0 o1 (M 111 4) = σ 519 (M 106 4 - 1) ∧ 0 ≤ σ 518 (M 106 4 - 1) ∧ σ 518 (M 106 4 - 1) < 2147483648 ∧ M 108 (M 106 4 - 1) = σ 518 (M 106 4 - 1)) ∧ (M 101 14 = M 106 4 → M 101 13 + xof o0 o1 (M 111 4) = σ 512 (M 111 4)) ∧ M 101 13 + xof o0 o1 (M 111 4) ≤ σ 512 (M 111 4) := by
  obtain ⟨⟨s1, s2, s3, s4, s5, s6, s7⟩, hs, hc, ha, hA⟩ := h
  exact ⟨by omega, mRelA_in hA⟩
theorem mRel_line (h : mRel L o0 n0 o1 n1 nF TO V0 mx0 π e0 M σ) (hl : M 101 12 < M 101 13) : xok L o0 n0 o1 n1 nF TO (M 111 4) (M 101 11 - M 101 10) (σ 511 (M 111 4)) ∧ (0 ≤ L 488 (σ 511 (M 111 4)) ∧ 0 ≤ L 489 (σ 511 (M 111 4))) ∧ σ 511 (M 111 4) + 1 + L 488 (σ 511 (M 111 4)) + L 489 (σ 511 (M 111 4)) ≤ M 101 13 + xof o0 o1 (M 111 4) ∧ ((L 480 (σ 511 (M 111 4)) = 7 ∨ L 480 (σ 511 (M 111 4)) = 8) ∨ (L 488 (σ 511 (M 111 4)) = 0 ∧ L 489 (σ 511 (M 111 4)) = 0)) ∧ (L 480 (σ 511 (M 111 4)) = 8 → L 489 (σ 511 (M 111 4)) = 0) := mRelA_line h.2.2.2.2 hl
theorem mRel_asline (h : mRel L o0 n0 o1 n1 nF TO V0 mx0 π e0 M σ) (hl : M 101 12 < M 101 13) (hs : M 102 2 < 3000) : astep σ = does_f (zup σ 467 70 (σ 467 70 + 1)) (σ 511 (σ 467 67 - 1)) := by
  obtain ⟨k, i1, i2, i3, i4, i5, i6, i7, i8, i9, i10⟩ := mRel_in h
  obtain ⟨⟨s1, s2, s3, s4, s5, s6, s7⟩, _⟩ := h
  refine as_line ?_ (by omega) ?_
  · rw [k]; omega
  · rw [k, s2, i6]; intro q; have := (i8 (by omega)).1; omega
theorem mRel_vals (h : mRel L o0 n0 o1 n1 nF TO V0 mx0 π e0 M σ) : ∀ i : Int, 0 ≤ i → i < M 101 11 → M 105 i = σ 516 i ∧ in32 (σ 516 i) := by
  obtain ⟨RB, BS, FX, DX, hI, e, hj, p, hf, hb, hv⟩ := h.2.2.2.2
  exact hv
end
