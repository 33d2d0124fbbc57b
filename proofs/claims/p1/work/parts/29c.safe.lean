/-! The turns, one by one -/
section
variable {L : Nat → Int → Int} {o0 n0 o1 n1 nF : Int} {TO : Int → Int} {V0 mx0 : Int} {π e0 : Int → Int} {M σ : Nat → Int → Int}
theorem xLine_sh {nv ba rb bank : Int} {f1 f2 f3 f4 f5 f6 f7 f8 f9 f10 f11 f12 f13 : Int → Int} {a : Int} (h : xLine nv 0 bank f1 f2 f3 f4 f5 f6 f7 f8 f9 f10 f11 f12 f13 a) (e : nv = ba - rb) : xLine ba rb bank f1 f2 f3 f4 f5 f6 f7 f8 f9 f10 f11 f12 f13 a := by
  unfold xLine at h ⊢
  obtain ⟨h1, h2, h3, h4, h5, h6, h7⟩ := h
  refine ⟨h1, h2, h3, fun q => by have := h4 q; omega, fun q => by have := h5 q; omega, fun q => by have := h6 q; omega, fun q => ?_⟩
  obtain ⟨g1, g2, g3, g4, g5, g6, g7⟩ := h7 q
  exact ⟨g1, g2, g3, g4, fun r => by have := g5 r; omega, fun r => by have := g6 r; omega, fun r => by have := g7 r; omega⟩
/-- the operands of a line, on both sides -/
theorem mRel_opA (h : mRel L o0 n0 o1 n1 nF TO V0 mx0 π e0 M σ) (hl : M 101 12 < M 101 13) (hk : ¬ L 480 (σ 511 (M 111 4)) = 6) : cval (M 105) (M 101 10) (L 482 (σ 511 (M 111 4))) = xval (σ 516) (σ 513 (M 111 4)) (L 482 (σ 511 (M 111 4))) ∧ in32 (xval (σ 516) (σ 513 (M 111 4)) (L 482 (σ 511 (M 111 4)))) := by
  have hi := mRel_in h
  have hv := mRel_vals h
  have hx := (mRel_line h hl).1.1
  have hx' := xLine_sh hx (rfl : M 101 11 - M 101 10 = M 101 11 - M 101 10)
  unfold xLine at hx'
  have ha := hx'.2.2.2.1 hk
  rw [hi.2.2.2.2.2.2.2.1]
  exact ⟨xval_cval ha hi.2.2.1.1 (fun i a b => (hv i a b).1), in32_xval ha hi.2.2.1.1 (fun i a b => (hv i a b).2)⟩
theorem mRel_opB (h : mRel L o0 n0 o1 n1 nF TO V0 mx0 π e0 M σ) (hl : M 101 12 < M 101 13) (hk : 1 ≤ L 480 (σ 511 (M 111 4)) ∧ L 480 (σ 511 (M 111 4)) ≤ 5) : cval (M 105) (M 101 10) (L 483 (σ 511 (M 111 4))) = xval (σ 516) (σ 513 (M 111 4)) (L 483 (σ 511 (M 111 4))) := by
  have hi := mRel_in h
  have hv := mRel_vals h
  have hx := (mRel_line h hl).1.1
  have hx' := xLine_sh hx (rfl : M 101 11 - M 101 10 = M 101 11 - M 101 10)
  unfold xLine at hx'
  rw [hi.2.2.2.2.2.2.2.1]
  exact xval_cval (hx'.2.2.2.2.1 hk) hi.2.2.1.1 (fun i a b => (hv i a b).1)
theorem mRel_safe (h : mRel L o0 n0 o1 n1 nF TO V0 mx0 π e0 M σ) (hV : 0 ≤ V0 ∧ V0 ≤ 308) (hm : 0 ≤ mx0 ∧ mx0 ≤ 200) (hb : 0 ≤ L 467 11 ∧ L 467 11 ≤ 1) : xSafe σ := by
  have hi := mRel_in h
  obtain ⟨k, i1, i2, i3, i4, i5, i6, i7, i8, i9, i10⟩ := hi
  have hv := mRel_vals h
  have hln := fun hl => mRel_line h hl
  have hop := fun hl hk => mRel_opA h hl hk
  obtain ⟨⟨s1, s2, s3, s4, s5, s6, s7⟩, hs, hc, ha, hA⟩ := h
  obtain ⟨a1, a473, a474, a475, a476, a480, a481, a482, a483, a484, a485, a486, a488, a489, a506⟩ := ha
  unfold xSafe
  rw [k, s2, i6, i7, s3, s4, s5, a1, a473, a474, a475, a476, a480, a481, a482, a483, a484, a485, a486, a488, a489, a506]
  refine ⟨by omega, by omega, by omega, by omega, by omega, fun q => ?_, fun q => ?_, ?_, ?_⟩
  · have := i8 (by omega); omega
  · have := mRelA_leave hA (by omega) rfl rfl rfl rfl rfl rfl rfl
    obtain ⟨_, q1, q2, q3, q4, q5, q6, q7, _⟩ := this
    rw [show σ 467 67 - 2 = M 111 4 - 1 by omega]
    obtain ⟨⟨j1, _⟩, j2, _⟩ := mRelA_in (mRelA_leave hA (by omega) rfl rfl rfl rfl rfl rfl rfl).1
    rw [q6] at q5 ⊢
    omega
  · by_cases hl : M 101 12 < M 101 13
    · refine Or.inr (Or.inr ⟨?_, fun q => ?_⟩)
      · have := xLine_sh (hln hl).1.1 (rfl : M 101 11 - M 101 10 = M 101 11 - M 101 10)
        exact this
      · have := (hop hl (by omega)).2
        unfold in32 at this
        rw [i7] at this
        exact this
    · by_cases ho : M 101 14 < M 106 4
      · refine Or.inl ⟨ho, ?_⟩; have := (i8 ho).1; omega
      · refine Or.inr (Or.inl ?_); have := i9 (by omega); omega
  · obtain ⟨c1, c2, c3⟩ := hc
    refine ⟨fun q => ?_, fun q => ?_⟩
    · have := c2 _ q.1 q.2; omega
    · have := c3 _ q.1 q.2; omega
end
