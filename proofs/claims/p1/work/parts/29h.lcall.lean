/-! A call on both sides -/
section
variable {L : Nat → Int → Int} {o0 n0 o1 n1 nF : Int} {TO : Int → Int} {V0 mx0 : Int} {π e0 : Int → Int} {M σ : Nat → Int → Int}
variable {kd tg fi se th si mi en pa va fl lc sTo : Int → Int} {o n : Int}
theorem l_call_x {c : Int} (h : mRel L o0 n0 o1 n1 nF TO V0 mx0 π e0 M σ) (hl : M 101 12 < M 101 13) (hs : M 102 2 < 3000) (hc : cCode L o n kd tg fi se th si mi en) (ho : (M 111 4 = 0 ∧ o = o0 ∧ n = n0) ∨ (¬ M 111 4 = 0 ∧ o = o1 ∧ n = n1)) (hp : cProg L nF π TO pa va fl lc sTo)
    (hfn : ∀ g : Int, 0 ≤ g → g < nF → xSegE L (xok L o0 n0 o1 n1 nF TO 1 (L 474 (8 * L 467 11 + g))) 5 0 (60 * L 467 11 + L 475 (8 * L 467 11 + g)) (60 * L 467 11 + L 475 (8 * L 467 11 + g) + L 476 (8 * L 467 11 + g))) (ho1 : o1 = 60 * L 467 11)
    (hk : kd (M 101 12) = 6) (hcc : c = (M 102 2 + M 101 9 + 1)) (hcost : c ≤ 3000) (hf : M 111 4 < 23) : mRel L o0 n0 o1 n1 nF TO V0 mx0 π e0 ((zup (zup (zup (zup (zup (zup (zrow (zrow (zrow (zrow (zrow (zrow (zrow (zrow M 102 (zs (zs (zs (zs (M 102) 2 (M 102 2 + 1)) 2 c) 3 (M 102 3 + 1)) 4 (max ((zs (zs (zs (M 102) 2 (M 102 2 + 1)) 2 c) 3 (M 102 3 + 1)) 4) (M 111 4 + 2)))) 103 (zs (M 103) (sTo (si (M 101 12))) (M 103 (sTo (si (M 101 12))) + 1))) 104 (zs (M 104) (si (M 101 12)) (M 104 (si (M 101 12)) + 1))) 105 (cent (M 105) (M 101 10) (M 101 11) (pa (sTo (si (M 101 12)))) (fi (M 101 12)) (se (M 101 12)) (th (M 101 12)) (va (sTo (si (M 101 12)))))) 112 (zs (M 112) (M 111 4) (M 101 12))) 113 (zs (M 113) (M 111 4) (M 101 10))) 114 (zs (M 114) (M 111 4) (M 101 13))) 115 (zs (M 115) (M 111 4) (M 101 14))) 101 10 (M 101 11)) 101 11 (M 101 11 + va (sTo (si (M 101 12))))) 101 12 (fl (sTo (si (M 101 12))))) 101 13 (fl (sTo (si (M 101 12))) + lc (sTo (si (M 101 12))))) 101 14 (M 106 4)) 111 4 (M 111 4 + 1))) (astep σ) := by
  obtain ⟨hr, k0, k1, k2, k3, k4, k5, k6, k7, k8⟩ := mRel_cl h hl hc ho
  obtain ⟨y1, y2, y3, y4, y5, y6, y7, ⟨z1, z2, z3, z4⟩, pF, vF, fF, lF⟩ := mRel_ccall h hl hc ho hp hk
  have hk' : L 480 (σ 511 (M 111 4)) = 6 := k0.symm.trans hk
  have hx0 := (mRel_line h hl).1
  have hb := (mRel_in h).2.2.1
  have hfs := (mRel_in h).2.1
  have hv := mRel_vals h
  have hx' := xLine_sh hx0.1 (rfl : M 101 11 - M 101 10 = M 101 11 - M 101 10)
  unfold xLine at hx'
  obtain ⟨x1, x2, x3, x4, x5, x6, x7⟩ := hx'
  obtain ⟨w1, w2, w3, w4, w5, w6, w7⟩ := x7 hk'
  have x6' := x6 (by omega)
  obtain ⟨s1, ⟨q1, q2, q3, q4, q5, q6, q7, q8, q9, q10⟩, _⟩ := id h
  have hn8 := hp.2.2.1
  rw [does_call h hl hs hk' (by omega) hf, pF, vF, fF, lF, k2, k3, k4]
  rw [k5] at y1 y2 z1 ⊢
  refine r_call (f := sTo (L 486 (σ 511 (M 111 4)))) h hl hf hk' ⟨x1, by omega⟩ ⟨by omega, by omega⟩ (by omega) (by omega) (xSegE_imp (fun a ha => ⟨ha.1, fun z => by omega, fun _ => ha.2.2.1 (by decide), ha.2.2.2⟩) (hfn _ z4 z2)) ?_ ?_ ?_ ?_ ?_ ?_ ?_ ⟨y2.1, by omega⟩ y1 ⟨z4, by omega⟩ z1 z3 hp.2.2.2
  · exact cent_went ⟨w3.1, w3.2.1, w3.2.2.1⟩ hb.1 hv w5 w6 w7
  · show c = _; omega
  · show c ≤ 3000; exact hcost
  · rfl
  · rfl
  · exact q5
  · exact q6
end
