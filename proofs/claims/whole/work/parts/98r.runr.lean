/-! The class runs the result -/
def c_187 : List Nat := []
set_option maxRecDepth 1000000 in
set_option maxHeartbeats 4000000 in
theorem runResult_c_33 {d : Nat} {P : Nat → Nat → Nat} {M L : Nat → Int → Int} {Q : zQ} {n1 nF : Int} {TO π : Int → Int} (co : Int) (hcL : cCode L (60 * L 467 11) n1 (M 49) (M 50) (M 51) (M 52) (M 53) (M 54) (M 58) (M 59)) (hcO : cCode L 120 (M 442 13) (M 443) (M 444) (M 445) (M 446) (M 447) (M 448) (M 452) (M 453)) (hpr : cProg L nF π TO (M 36) (M 37) (M 38) (M 39) (M 45)) (hfn : ∀ g : Int, 0 ≤ g → g < nF → xSegE L (xok L 120 (M 442 13) (60 * L 467 11) n1 nF TO 1 (L 474 (8 * L 467 11 + g))) 5 0 (60 * L 467 11 + L 475 (8 * L 467 11 + g)) (60 * L 467 11 + L 475 (8 * L 467 11 + g) + L 476 (8 * L 467 11 + g))) (hsg : xSegE L (xok L 120 (M 442 13) (60 * L 467 11) n1 nF TO 0 (M 441 1)) 131 0 120 (120 + (M 442 13))) (hn0 : 0 ≤ (M 442 13) ∧ (M 442 13) ≤ 300) (hn1 : n1 ≤ 60) (hb : 0 ≤ L 467 11 ∧ L 467 11 ≤ 1) (hvv : 0 ≤ (M 441 1) ∧ (M 441 1) ≤ 308) (hpa : 0 ≤ (M 441 2) ∧ (M 441 2) ≤ 3 ∧ (M 441 2) ≤ (M 441 1)) (hco : co = L 506 1 ∧ 1 ≤ co ∧ co ≤ 50) (ha : ∀ k : Int, 0 ≤ k → k < 3 → M 18 k = L 505 k ∧ in32 (L 505 k)) (hπ : ∀ a : Int, 0 ≤ a → a < 8 → 0 ≤ π a ∧ π a < 8) (hQ : ∀ (M2 : Nat → Int → Int) (c2 : Nat) (τ : Nat → Int → Int) (j : Nat), xRuns j (xinit L 120 (M 442 13) (M 441 1) (M 441 2)) τ → fRel π (fun _ => 0) TO M2 τ → Fr M M2 → Q (zS (zupN (zupN (zupN P 101 6 33) 101 7 c2) 101 8 442) M2) none) : WC (d + 7) 187 [vR 101, vR 33, vR 441, vR 18, vI co] (zS P M) Q := by
  have hnF := hpr.2.2.1
  have hrel : mRel L 120 (M 442 13) (60 * L 467 11) n1 nF TO 308 131 π (fun _ => 0) (zup (zup (zup (zup (zup (zup (zup (zup (zup (zrow (zrow (zrow (zrow M 102 (zs (zfl (M 102) 0 5) 4 1)) 103 (zfl (M 103) 0 8)) 104 (zfl (M 104) 0 16)) 105 (zar (zfl (M 105) 0 512) (M 18) (M 441 2))) 101 9 co) 101 10 0) 101 11 (M 441 1)) 101 12 0) 101 13 (M 442 13)) 101 14 0) 101 15 0) 106 4 0) 111 4 0) (xinit L 120 (M 442 13) (M 441 1) (M 441 2)) := by
    have z0 : ∀ (r : Int → Int) (k n : Int), 0 ≤ k → k < n → zfl r 0 n k = 0 := fun r k n a b => if_pos ⟨a, by omega⟩
    refine ⟨⟨rfl, rfl, rfl, ?_, ?_, rfl, rfl⟩, ⟨?_, ?_, ?_, ?_, ?_, ?_, hco.1, by omega, by omega, rfl⟩, ⟨fun a a0 a1 => ?_, fun a a0 a1 => ?_, fun a a0 a1 => ?_⟩, ⟨rfl, rfl, rfl, rfl, rfl, rfl, rfl, rfl, rfl, rfl, rfl, rfl, rfl, rfl, rfl⟩, ?_⟩
    · show 0 = zfl (M 102) 0 5 2; rw [z0 _ _ _ (by decide) (by decide)]
    · show 0 = zfl (M 102) 0 5 3; rw [z0 _ _ _ (by decide) (by decide)]
    · show 0 ≤ zfl (M 102) 0 5 2; rw [z0 _ _ _ (by decide) (by decide)]; decide
    · show zfl (M 102) 0 5 2 ≤ 3000; rw [z0 _ _ _ (by decide) (by decide)]; decide
    · show 0 ≤ zfl (M 102) 0 5 3; rw [z0 _ _ _ (by decide) (by decide)]; decide
    · show zfl (M 102) 0 5 3 ≤ zfl (M 102) 0 5 2; rw [z0 _ _ _ (by decide) (by decide), z0 _ _ _ (by decide) (by decide)]; decide
    · show zfl (M 102) 0 5 0 = 0; exact z0 _ _ _ (by decide) (by decide)
    · show zfl (M 102) 0 5 1 = 0; exact z0 _ _ _ (by decide) (by decide)
    · show zfl (M 103) 0 8 a = zfl (L 509) 0 8 (π a) + 0
      rw [z0 (L 509) _ _ (hπ a a0 a1).1 (hπ a a0 a1).2, z0 _ _ _ a0 a1]; rfl
    · show 0 ≤ zfl (L 509) 0 8 a ∧ zfl (L 509) 0 8 a ≤ zfl (M 102) 0 5 3
      rw [z0 _ _ _ a0 a1, z0 _ _ _ (by decide) (by decide)]; decide
    · show zfl (M 104) 0 16 a = zfl (L 510) 0 16 a ∧ 0 ≤ zfl (L 510) 0 16 a ∧ zfl (L 510) 0 16 a ≤ zfl (M 102) 0 5 3 ∧ (0 < zfl (L 510) 0 16 a → _)
      rw [z0 (M 104) _ _ a0 a1, z0 (L 510) _ _ a0 a1, z0 _ _ _ (by decide) (by decide)]
      exact ⟨rfl, by decide, by decide, fun q => absurd q (by decide)⟩
    · refine mRelA_0 (o0 := 120) ?_ ?_ rfl rfl ?_ ?_ (by decide) ?_
      · show (120 : Int) = 0 + 120; decide
      · show 120 + M 442 13 = M 442 13 + 120; omega
      · show xSegE L (xok L 120 _ _ n1 nF TO 0 (M 441 1)) 131 0 (0 + 120) (M 442 13 + 120)
        rw [show (0 : Int) + 120 = 120 by decide, show M 442 13 + 120 = 120 + M 442 13 by omega]
        exact hsg
      · show 0 ≤ M 441 1 ∧ M 441 1 ≤ 308; exact hvv
      · intro i i0 i1
        have i1 : i < M 441 1 := i1
        show zar (zfl (M 105) 0 512) (M 18) (M 441 2) i = zar (zfl (L 516) 0 (M 441 1)) (L 505) (M 441 2) i ∧ in32 (zar (zfl (L 516) 0 (M 441 1)) (L 505) (M 441 2) i)
        unfold zar
        by_cases q : 0 ≤ i ∧ i < M 441 2
        · rw [if_pos q, if_pos q]; exact ha i q.1 (by omega)
        · rw [if_neg q, if_neg q, z0 (M 105) _ _ i0 (by omega), z0 (L 516) _ _ i0 (by omega)]; exact ⟨rfl, by unfold in32; omega⟩
  have hph : 0 + cphi (zup (zup (zup (zup (zup (zup (zup (zup (zup (zrow (zrow (zrow (zrow M 102 (zs (zfl (M 102) 0 5) 4 1)) 103 (zfl (M 103) 0 8)) 104 (zfl (M 104) 0 16)) 105 (zar (zfl (M 105) 0 512) (M 18) (M 441 2))) 101 9 co) 101 10 0) 101 11 (M 441 1)) 101 12 0) 101 13 (M 442 13)) 101 14 0) 101 15 0) 106 4 0) 111 4 0) ≤ 13000 := by
    have z0 : zfl (M 102) 0 5 2 = 0 := if_pos ⟨by decide, by decide⟩
    show 0 + (4 * (3001 - zfl (M 102) 0 5 2) + 2 * 0 + 2 * 0 + (if _ then 1 else 0)) ≤ 13000
    rw [z0]; split <;> omega
  exact ⟨_, rfl, zB_ok zmt zen (stops := c_187) e_187 100000 (⟨rfl, ⟨rfl, ⟨rfl, ⟨rfl, ⟨rfl, ⟨rfl, ⟨rfl, ⟨rfl, ⟨rfl, (begin_c_33_442 (M 441 2) co (show 0 ≤ (M 441 2) ∧ (M 441 2) ≤ 3 from by first | omega) (⟨rfl, ⟨rfl, ⟨rfl, ⟨rfl, (WCn (stops := c_280) e_280 (fun (q2 : zQ) hq2 => ⟨fun q => absurd q (show ¬ (512 < (M 441 1)) from by omega), fun _ => (hq2 _ _ ⟨rfl, ⟨rfl, ⟨rfl, ⟨rfl, ⟨rfl, ⟨rfl, ⟨rfl, ⟨rfl, ⟨rfl, ⟨rfl, ⟨rfl, (WCn (stops := [2, 62]) e_189 (fun (q3 : zQ) hq3 => (eqW ((congrArg (fun m => zup m 101 13 (M 442 13)) ((congrArg (fun m => zup m 101 12 0) ((zup_comm _ (by decide)).trans (congrArg (fun m => zup m 111 4 0) ((zup_comm _ (by decide)).trans (congrArg (fun m => zup m 106 4 0) ((zup_comm _ (by decide)).trans (congrArg (fun m => zup m 101 15 0) (zup_comm _ (by decide))))))))).trans ((zup_comm _ (by decide)).trans (congrArg (fun m => zup m 111 4 0) ((zup_comm _ (by decide)).trans (congrArg (fun m => zup m 106 4 0) ((zup_comm _ (by decide)).trans (congrArg (fun m => zup m 101 15 0) (zup_comm _ (by decide)))))))))).trans ((zup_comm _ (by decide)).trans (congrArg (fun m => zup m 111 4 0) ((zup_comm _ (by decide)).trans (congrArg (fun m => zup m 106 4 0) ((zup_comm _ (by decide)).trans (congrArg (fun m => zup m 101 15 0) (zup_comm _ (by decide))))))))) (crun_33_442 (M0 := (zup (zup (zup (zup (zup (zup (zup (zup (zup (zrow (zrow (zrow (zrow M 102 (zs (zfl (M 102) 0 5) 4 1)) 103 (zfl (M 103) 0 8)) 104 (zfl (M 104) 0 16)) 105 (zar (zfl (M 105) 0 512) (M 18) (M 441 2))) 101 9 co) 101 10 0) 101 11 (M 441 1)) 101 12 0) 101 13 (M 442 13)) 101 14 0) 101 15 0) 106 4 0) 111 4 0)) (L := L) (o0 := 120) (n0 := M 442 13) (o1 := (60 * L 467 11)) (n1 := n1) (nF := nF) (V0 := 308) (mx0 := 131) (TO := TO) (π := π) (e0 := (fun _ => 0)) hcL hcO hpr hfn rfl (by omega) hn1 (fun g => by omega) (by omega) (by omega) hb 13001 0 (zup (zup (zup (zup (zup (zup (zup (zup (zup (zrow (zrow (zrow (zrow M 102 (zs (zfl (M 102) 0 5) 4 1)) 103 (zfl (M 103) 0 8)) 104 (zfl (M 104) 0 16)) 105 (zar (zfl (M 105) 0 512) (M 18) (M 441 2))) 101 9 co) 101 10 0) 101 11 (M 441 1)) 101 12 0) 101 13 (M 442 13)) 101 14 0) 101 15 0) 106 4 0) 111 4 0) (xinit L 120 (M 442 13) (M 441 1) (M 441 2)) 442 (Or.inl ⟨rfl, rfl⟩) (hrel) fr_refl (by omega) hph (by omega) (fun M2 c2 τ j r1 r2 r3 => hq3 _ _ (hQ M2 c2 τ j r1 r2 (fr_trans (fr_up (by decide) (fr_up (by decide) (fr_up (by decide) (fr_up (by decide) (fr_up (by decide) (fr_up (by decide) (fr_up (by decide) (fr_up (by decide) (fr_up (by decide) (fr_row (by decide) (fr_row (by decide) (fr_row (by decide) (fr_row (by decide) fr_refl))))))))))))) r3)))))))⟩⟩⟩⟩⟩⟩⟩⟩⟩⟩⟩)⟩))⟩⟩⟩⟩))⟩⟩⟩⟩⟩⟩⟩⟩⟩)⟩
set_option maxRecDepth 1000000 in
set_option maxHeartbeats 4000000 in
theorem runResult_c_62 {d : Nat} {P : Nat → Nat → Nat} {M L : Nat → Int → Int} {Q : zQ} {n1 nF : Int} {TO π : Int → Int} (co : Int) (hcL : cCode L (60 * L 467 11) n1 (M 78) (M 79) (M 80) (M 81) (M 82) (M 83) (M 87) (M 88)) (hcO : cCode L 120 (M 442 13) (M 443) (M 444) (M 445) (M 446) (M 447) (M 448) (M 452) (M 453)) (hpr : cProg L nF π TO (M 65) (M 66) (M 67) (M 68) (M 74)) (hfn : ∀ g : Int, 0 ≤ g → g < nF → xSegE L (xok L 120 (M 442 13) (60 * L 467 11) n1 nF TO 1 (L 474 (8 * L 467 11 + g))) 5 0 (60 * L 467 11 + L 475 (8 * L 467 11 + g)) (60 * L 467 11 + L 475 (8 * L 467 11 + g) + L 476 (8 * L 467 11 + g))) (hsg : xSegE L (xok L 120 (M 442 13) (60 * L 467 11) n1 nF TO 0 (M 441 1)) 131 0 120 (120 + (M 442 13))) (hn0 : 0 ≤ (M 442 13) ∧ (M 442 13) ≤ 300) (hn1 : n1 ≤ 60) (hb : 0 ≤ L 467 11 ∧ L 467 11 ≤ 1) (hvv : 0 ≤ (M 441 1) ∧ (M 441 1) ≤ 308) (hpa : 0 ≤ (M 441 2) ∧ (M 441 2) ≤ 3 ∧ (M 441 2) ≤ (M 441 1)) (hco : co = L 506 1 ∧ 1 ≤ co ∧ co ≤ 50) (ha : ∀ k : Int, 0 ≤ k → k < 3 → M 18 k = L 505 k ∧ in32 (L 505 k)) (hπ : ∀ a : Int, 0 ≤ a → a < 8 → 0 ≤ π a ∧ π a < 8) (hQ : ∀ (M2 : Nat → Int → Int) (c2 : Nat) (τ : Nat → Int → Int) (j : Nat), xRuns j (xinit L 120 (M 442 13) (M 441 1) (M 441 2)) τ → fRel π (fun _ => 0) TO M2 τ → Fr M M2 → Q (zS (zupN (zupN (zupN P 101 6 62) 101 7 c2) 101 8 442) M2) none) : WC (d + 7) 187 [vR 101, vR 62, vR 441, vR 18, vI co] (zS P M) Q := by
  have hnF := hpr.2.2.1
  have hrel : mRel L 120 (M 442 13) (60 * L 467 11) n1 nF TO 308 131 π (fun _ => 0) (zup (zup (zup (zup (zup (zup (zup (zup (zup (zrow (zrow (zrow (zrow M 102 (zs (zfl (M 102) 0 5) 4 1)) 103 (zfl (M 103) 0 8)) 104 (zfl (M 104) 0 16)) 105 (zar (zfl (M 105) 0 512) (M 18) (M 441 2))) 101 9 co) 101 10 0) 101 11 (M 441 1)) 101 12 0) 101 13 (M 442 13)) 101 14 0) 101 15 0) 106 4 0) 111 4 0) (xinit L 120 (M 442 13) (M 441 1) (M 441 2)) := by
    have z0 : ∀ (r : Int → Int) (k n : Int), 0 ≤ k → k < n → zfl r 0 n k = 0 := fun r k n a b => if_pos ⟨a, by omega⟩
    refine ⟨⟨rfl, rfl, rfl, ?_, ?_, rfl, rfl⟩, ⟨?_, ?_, ?_, ?_, ?_, ?_, hco.1, by omega, by omega, rfl⟩, ⟨fun a a0 a1 => ?_, fun a a0 a1 => ?_, fun a a0 a1 => ?_⟩, ⟨rfl, rfl, rfl, rfl, rfl, rfl, rfl, rfl, rfl, rfl, rfl, rfl, rfl, rfl, rfl⟩, ?_⟩
    · show 0 = zfl (M 102) 0 5 2; rw [z0 _ _ _ (by decide) (by decide)]
    · show 0 = zfl (M 102) 0 5 3; rw [z0 _ _ _ (by decide) (by decide)]
    · show 0 ≤ zfl (M 102) 0 5 2; rw [z0 _ _ _ (by decide) (by decide)]; decide
    · show zfl (M 102) 0 5 2 ≤ 3000; rw [z0 _ _ _ (by decide) (by decide)]; decide
    · show 0 ≤ zfl (M 102) 0 5 3; rw [z0 _ _ _ (by decide) (by decide)]; decide
    · show zfl (M 102) 0 5 3 ≤ zfl (M 102) 0 5 2; rw [z0 _ _ _ (by decide) (by decide), z0 _ _ _ (by decide) (by decide)]; decide
    · show zfl (M 102) 0 5 0 = 0; exact z0 _ _ _ (by decide) (by decide)
    · show zfl (M 102) 0 5 1 = 0; exact z0 _ _ _ (by decide) (by decide)
    · show zfl (M 103) 0 8 a = zfl (L 509) 0 8 (π a) + 0
      rw [z0 (L 509) _ _ (hπ a a0 a1).1 (hπ a a0 a1).2, z0 _ _ _ a0 a1]; rfl
    · show 0 ≤ zfl (L 509) 0 8 a ∧ zfl (L 509) 0 8 a ≤ zfl (M 102) 0 5 3
      rw [z0 _ _ _ a0 a1, z0 _ _ _ (by decide) (by decide)]; decide
    · show zfl (M 104) 0 16 a = zfl (L 510) 0 16 a ∧ 0 ≤ zfl (L 510) 0 16 a ∧ zfl (L 510) 0 16 a ≤ zfl (M 102) 0 5 3 ∧ (0 < zfl (L 510) 0 16 a → _)
      rw [z0 (M 104) _ _ a0 a1, z0 (L 510) _ _ a0 a1, z0 _ _ _ (by decide) (by decide)]
      exact ⟨rfl, by decide, by decide, fun q => absurd q (by decide)⟩
    · refine mRelA_0 (o0 := 120) ?_ ?_ rfl rfl ?_ ?_ (by decide) ?_
      · show (120 : Int) = 0 + 120; decide
      · show 120 + M 442 13 = M 442 13 + 120; omega
      · show xSegE L (xok L 120 _ _ n1 nF TO 0 (M 441 1)) 131 0 (0 + 120) (M 442 13 + 120)
        rw [show (0 : Int) + 120 = 120 by decide, show M 442 13 + 120 = 120 + M 442 13 by omega]
        exact hsg
      · show 0 ≤ M 441 1 ∧ M 441 1 ≤ 308; exact hvv
      · intro i i0 i1
        have i1 : i < M 441 1 := i1
        show zar (zfl (M 105) 0 512) (M 18) (M 441 2) i = zar (zfl (L 516) 0 (M 441 1)) (L 505) (M 441 2) i ∧ in32 (zar (zfl (L 516) 0 (M 441 1)) (L 505) (M 441 2) i)
        unfold zar
        by_cases q : 0 ≤ i ∧ i < M 441 2
        · rw [if_pos q, if_pos q]; exact ha i q.1 (by omega)
        · rw [if_neg q, if_neg q, z0 (M 105) _ _ i0 (by omega), z0 (L 516) _ _ i0 (by omega)]; exact ⟨rfl, by unfold in32; omega⟩
  have hph : 0 + cphi (zup (zup (zup (zup (zup (zup (zup (zup (zup (zrow (zrow (zrow (zrow M 102 (zs (zfl (M 102) 0 5) 4 1)) 103 (zfl (M 103) 0 8)) 104 (zfl (M 104) 0 16)) 105 (zar (zfl (M 105) 0 512) (M 18) (M 441 2))) 101 9 co) 101 10 0) 101 11 (M 441 1)) 101 12 0) 101 13 (M 442 13)) 101 14 0) 101 15 0) 106 4 0) 111 4 0) ≤ 13000 := by
    have z0 : zfl (M 102) 0 5 2 = 0 := if_pos ⟨by decide, by decide⟩
    show 0 + (4 * (3001 - zfl (M 102) 0 5 2) + 2 * 0 + 2 * 0 + (if _ then 1 else 0)) ≤ 13000
    rw [z0]; split <;> omega
  exact ⟨_, rfl, zB_ok zmt zen (stops := c_187) e_187 100000 (⟨rfl, ⟨rfl, ⟨rfl, ⟨rfl, ⟨rfl, ⟨rfl, ⟨rfl, ⟨rfl, ⟨rfl, (begin_c_62_442 (M 441 2) co (show 0 ≤ (M 441 2) ∧ (M 441 2) ≤ 3 from by first | omega) (⟨rfl, ⟨rfl, ⟨rfl, ⟨rfl, (WCn (stops := c_280) e_280 (fun (q2 : zQ) hq2 => ⟨fun q => absurd q (show ¬ (512 < (M 441 1)) from by omega), fun _ => (hq2 _ _ ⟨rfl, ⟨rfl, ⟨rfl, ⟨rfl, ⟨rfl, ⟨rfl, ⟨rfl, ⟨rfl, ⟨rfl, ⟨rfl, ⟨rfl, (WCn (stops := [2, 62]) e_189 (fun (q3 : zQ) hq3 => (eqW ((congrArg (fun m => zup m 101 13 (M 442 13)) ((congrArg (fun m => zup m 101 12 0) ((zup_comm _ (by decide)).trans (congrArg (fun m => zup m 111 4 0) ((zup_comm _ (by decide)).trans (congrArg (fun m => zup m 106 4 0) ((zup_comm _ (by decide)).trans (congrArg (fun m => zup m 101 15 0) (zup_comm _ (by decide))))))))).trans ((zup_comm _ (by decide)).trans (congrArg (fun m => zup m 111 4 0) ((zup_comm _ (by decide)).trans (congrArg (fun m => zup m 106 4 0) ((zup_comm _ (by decide)).trans (congrArg (fun m => zup m 101 15 0) (zup_comm _ (by decide)))))))))).trans ((zup_comm _ (by decide)).trans (congrArg (fun m => zup m 111 4 0) ((zup_comm _ (by decide)).trans (congrArg (fun m => zup m 106 4 0) ((zup_comm _ (by decide)).trans (congrArg (fun m => zup m 101 15 0) (zup_comm _ (by decide))))))))) (crun_62_442 (M0 := (zup (zup (zup (zup (zup (zup (zup (zup (zup (zrow (zrow (zrow (zrow M 102 (zs (zfl (M 102) 0 5) 4 1)) 103 (zfl (M 103) 0 8)) 104 (zfl (M 104) 0 16)) 105 (zar (zfl (M 105) 0 512) (M 18) (M 441 2))) 101 9 co) 101 10 0) 101 11 (M 441 1)) 101 12 0) 101 13 (M 442 13)) 101 14 0) 101 15 0) 106 4 0) 111 4 0)) (L := L) (o0 := 120) (n0 := M 442 13) (o1 := (60 * L 467 11)) (n1 := n1) (nF := nF) (V0 := 308) (mx0 := 131) (TO := TO) (π := π) (e0 := (fun _ => 0)) hcL hcO hpr hfn rfl (by omega) hn1 (fun g => by omega) (by omega) (by omega) hb 13001 0 (zup (zup (zup (zup (zup (zup (zup (zup (zup (zrow (zrow (zrow (zrow M 102 (zs (zfl (M 102) 0 5) 4 1)) 103 (zfl (M 103) 0 8)) 104 (zfl (M 104) 0 16)) 105 (zar (zfl (M 105) 0 512) (M 18) (M 441 2))) 101 9 co) 101 10 0) 101 11 (M 441 1)) 101 12 0) 101 13 (M 442 13)) 101 14 0) 101 15 0) 106 4 0) 111 4 0) (xinit L 120 (M 442 13) (M 441 1) (M 441 2)) 442 (Or.inl ⟨rfl, rfl⟩) (hrel) fr_refl (by omega) hph (by omega) (fun M2 c2 τ j r1 r2 r3 => hq3 _ _ (hQ M2 c2 τ j r1 r2 (fr_trans (fr_up (by decide) (fr_up (by decide) (fr_up (by decide) (fr_up (by decide) (fr_up (by decide) (fr_up (by decide) (fr_up (by decide) (fr_up (by decide) (fr_up (by decide) (fr_row (by decide) (fr_row (by decide) (fr_row (by decide) (fr_row (by decide) fr_refl))))))))))))) r3)))))))⟩⟩⟩⟩⟩⟩⟩⟩⟩⟩⟩)⟩))⟩⟩⟩⟩))⟩⟩⟩⟩⟩⟩⟩⟩⟩)⟩
