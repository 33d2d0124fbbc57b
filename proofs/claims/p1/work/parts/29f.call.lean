/-! The lines of a run: a call -/
section
variable {L : Nat → Int → Int} {o0 n0 o1 n1 nF : Int} {TO : Int → Int} {V0 mx0 : Int} {π e0 : Int → Int} {M σ : Nat → Int → Int}
theorem xCnt_call {ent don rEnt rTim : Int → Int} {ca f s g : Int} (h : xCnt π e0 TO ent don rEnt rTim ca) (hf : 0 ≤ f ∧ f < 8) (hs : 0 ≤ s ∧ s < 16) (hg : 0 ≤ g ∧ g < 8) (hp : π f = g) (hT : TO s = g) (hinj : ∀ a b : Int, 0 ≤ a → a < 8 → 0 ≤ b → b < 8 → π a = π b → a = b) : xCnt π e0 TO (zs ent f (ent f + 1)) (zs don s (don s + 1)) (zs rEnt g (rEnt g + 1)) (zs rTim s (rTim s + 1)) (ca + 1) := by
  obtain ⟨c1, c2, c3⟩ := h
  refine ⟨fun a a0 a1 => ?_, fun a a0 a1 => ?_, fun a a0 a1 => ?_⟩
  · by_cases e : a = f
    · subst e
      have := c1 a a0 a1
      rw [zs_pos rfl, hp, zs_pos rfl]; rw [hp] at this; omega
    · rw [zs_neg e, zs_neg (fun q => e (hinj a f a0 a1 hf.1 hf.2 (q.trans hp.symm)))]; exact c1 a a0 a1
  · have q1 := c2 a a0 a1
    have q2 := c2 g hg.1 hg.2
    unfold zs; split <;> omega
  · obtain ⟨d1, d2, d3, d4⟩ := c3 a a0 a1
    have q2 := c2 g hg.1 hg.2
    by_cases e : a = s
    · subst e
      rw [zs_pos rfl, zs_pos rfl, hT, zs_pos rfl]
      refine ⟨by omega, by omega, by omega, fun _ => ⟨hg.1, hg.2, ?_⟩⟩
      by_cases z : 0 < rTim a
      · have := (d4 z).2.2; rw [hT] at this; omega
      · omega
    · rw [zs_neg e, zs_neg e]
      refine ⟨d1, d2, by omega, fun z => ⟨(d4 z).1, (d4 z).2.1, ?_⟩⟩
      have := (d4 z).2.2
      unfold zs; split
      · next q => rw [q] at this; omega
      · exact this
theorem r_call {r V W : Int → Int} {f s g nv pc' lim' e e' : Int} (h : mRel L o0 n0 o1 n1 nF TO V0 mx0 π e0 M σ) (hl : M 101 12 < M 101 13) (hf' : M 111 4 < 23) (hk : L 480 (σ 511 (M 111 4)) = 6) (hx : (0 ≤ (σ 511 (M 111 4)) ∧ (σ 511 (M 111 4)) < 520) ∧ 0 ≤ L 481 (σ 511 (M 111 4)) ∧ L 481 (σ 511 (M 111 4)) < M 101 11 - M 101 10) (hv1 : 0 ≤ nv ∧ nv ≤ 8) (h3 : pc' + o1 = e) (h4 : lim' + o1 = e') (hseg : xSegE L (xok L o0 n0 o1 n1 nF TO (M 111 4 + 1) nv) 5 0 e e') (hv' : ∀ i : Int, 0 ≤ i → i < M 101 11 + nv → V i = W i ∧ in32 (W i)) (hr2 : r 2 = M 102 2 + 1 + L 506 1) (hr2' : r 2 ≤ 3000) (hr3 : r 3 = M 102 3 + 1) (hr4 : r 4 = max (M 102 4) (M 111 4 + 2)) (hr0 : r 0 = 0) (hr1 : r 1 = 0) (hf : 0 ≤ f ∧ f < 8) (hs : 0 ≤ s ∧ s < 16) (hg : 0 ≤ g ∧ g < 8) (hp : π f = g) (hT : TO s = g) (hinj : ∀ a b : Int, 0 ≤ a → a < 8 → 0 ≤ b → b < 8 → π a = π b → a = b) : mRel L o0 n0 o1 n1 nF TO V0 mx0 π e0 ((zup (zup (zup (zup (zup (zup (zrow (zrow (zrow (zrow (zrow (zrow (zrow (zrow M 102 r) 103 (zs (M 103) f (M 103 f + 1))) 104 (zs (M 104) s (M 104 s + 1))) 105 V) 112 (zs (M 112) (M 111 4) (M 101 12))) 113 (zs (M 113) (M 111 4) (M 101 10))) 114 (zs (M 114) (M 111 4) (M 101 13))) 115 (zs (M 115) (M 111 4) (M 101 14))) 101 10 (M 101 11)) 101 11 (M 101 11 + nv)) 101 12 pc') 101 13 lim') 101 14 (M 106 4)) 111 4 (M 111 4 + 1))) ((zup (zup (zup (zup (zup (zrow (zrow (zrow (zrow (zrow (zrow (zrow (zrow (zup σ 467 70 (σ 467 70 + 1)) 509 (zs (σ 509) g (σ 509 g + 1))) 510 (zs (σ 510) s (σ 510 s + 1))) 511 (zs (zs (σ 511) (σ 467 67 - 1) ((σ 511 (M 111 4)) + 1)) (σ 467 67) e)) 512 (zs (σ 512) (σ 467 67) e')) 513 (zs (σ 513) (σ 467 67) (σ 467 69))) 514 (zs (σ 514) (σ 467 67) (σ 511 (M 111 4)))) 515 (zs (σ 515) (σ 467 67) (σ 467 68))) 516 W) 467 67 (σ 467 67 + 1)) 467 69 (σ 467 69 + nv)) 467 70 (σ 467 70 + 1 + σ 506 1)) 467 71 (σ 467 71 + 1)) 467 72 (max (σ 467 72) (σ 467 67 + 1)))) := by
  have k := (mRel_in h).1
  obtain ⟨⟨s1, s2, s3, s4, s5, s6, s7⟩, ⟨q1, q2, q3, q4, q5, q6, q7, q8, q9, q10⟩, hcn, ha, hA⟩ := h
  have a506 : σ 506 = L 506 := ha.2.2.2.2.2.2.2.2.2.2.2.2.2.2
  rw [k, s2, s3]
  rw [s1]
  refine ⟨⟨?_, s2, rfl, ?_, ?_, ?_, s7⟩, ⟨?_, hr2', ?_, ?_, hr0, hr1, q7, q8, q9, q10⟩, ?_, ha, ?_⟩
  · rfl
  · show σ 467 70 + 1 + σ 506 1 = r 2; rw [a506, hr2, s4]
  · show σ 467 71 + 1 = r 3; rw [hr3, s5]
  · show max (σ 467 72) (M 111 4 + 1 + 1) = r 4; rw [hr4, s6, show M 111 4 + 1 + 1 = M 111 4 + 2 by omega]
  · show 0 ≤ r 2; omega
  · show 0 ≤ r 3; omega
  · show r 3 ≤ r 2; omega
  · show xCnt π e0 TO (zs (M 103) f (M 103 f + 1)) (zs (M 104) s (M 104 s + 1)) (zs (σ 509) g (σ 509 g + 1)) (zs (σ 510) s (σ 510 s + 1)) (r 3)
    rw [hr3]; exact xCnt_call hcn hf hs hg hp hT hinj
  · exact mRelA_call hA hl hf' hk hx hv1 rfl rfl h3 h4 hseg hv'
/-- the values of a function that is entered, as the reference lays them -/
def went (g : Int → Int) (b t np a0 a1 a2 nv : Int) : Int → Int := if np ≤ 0 then zfl g t nv else if np ≤ 1 then zs (zfl g t nv) t (xval g b a0) else if np ≤ 2 then zs (zs (zfl g t nv) t (xval g b a0)) (t + 1) (xval g b a1) else zs (zs (zs (zfl g t nv) t (xval g b a0)) (t + 1) (xval g b a1)) (t + 2) (xval g b a2)
theorem cent_went {f g : Int → Int} {b t np a0 a1 a2 nv : Int} (hn : 0 ≤ np ∧ np ≤ 3 ∧ np ≤ nv) (hb : 0 ≤ b) (h : ∀ i : Int, 0 ≤ i → i < t → f i = g i ∧ in32 (g i))
    (h0 : 0 < np → (0 ≤ a0 ∧ a0 < 1000) ∨ (-700 ≤ a0 ∧ a0 ≤ -10 ∧ b - 10 - a0 < t)) (h1 : 1 < np → (0 ≤ a1 ∧ a1 < 1000) ∨ (-700 ≤ a1 ∧ a1 ≤ -10 ∧ b - 10 - a1 < t)) (h2 : 2 < np → (0 ≤ a2 ∧ a2 < 1000) ∨ (-700 ≤ a2 ∧ a2 ≤ -10 ∧ b - 10 - a2 < t)) :
    ∀ i : Int, 0 ≤ i → i < t + nv → cent f b t np a0 a1 a2 nv i = went g b t np a0 a1 a2 nv i ∧ in32 (went g b t np a0 a1 a2 nv i) := by
  intro i i0 i1
  have hz : in32 0 := by unfold in32; omega
  by_cases hi : i < t
  · have q := h i i0 hi
    have e1 : cent f b t np a0 a1 a2 nv i = f i := if_neg (by omega)
    have e2 : zfl g t nv i = g i := if_neg (by omega)
    have e3 : went g b t np a0 a1 a2 nv i = g i := by
      unfold went
      split
      · exact e2
      · split
        · rw [zs_neg (by omega)]; exact e2
        · split
          · rw [zs_neg (by omega), zs_neg (by omega)]; exact e2
          · rw [zs_neg (by omega), zs_neg (by omega), zs_neg (by omega)]; exact e2
    rw [e1, e3]; exact q
  · have e1 : cent f b t np a0 a1 a2 nv i = if i - t < np then cval f b (if i - t = 0 then a0 else if i - t = 1 then a1 else a2) else 0 := if_pos ⟨by omega, i1⟩
    have e2 : zfl g t nv i = 0 := if_pos ⟨by omega, i1⟩
    rw [e1]
    unfold went
    by_cases n0 : np ≤ 0
    · rw [if_pos n0, if_neg (by omega), e2]; exact ⟨rfl, hz⟩
    · have x0 := xval_cval (h0 (by omega)) hb (fun j p q => (h j p q).1)
      have y0 := in32_xval (h0 (by omega)) hb (fun j p q => (h j p q).2)
      rw [if_neg n0]
      by_cases n1 : np ≤ 1
      · rw [if_pos n1]
        by_cases j0 : i = t
        · rw [if_pos (by omega), if_pos (by omega), zs_pos j0]; exact ⟨x0, y0⟩
        · rw [if_neg (by omega), zs_neg j0, e2]; exact ⟨rfl, hz⟩
      · have x1 := xval_cval (h1 (by omega)) hb (fun j p q => (h j p q).1)
        have y1 := in32_xval (h1 (by omega)) hb (fun j p q => (h j p q).2)
        rw [if_neg n1]
        by_cases n2 : np ≤ 2
        · rw [if_pos n2]
          by_cases j0 : i = t
          · rw [if_pos (by omega), if_pos (by omega), zs_neg (by omega), zs_pos j0]; exact ⟨x0, y0⟩
          · by_cases j1 : i = t + 1
            · rw [if_pos (by omega), if_neg (by omega), if_pos (by omega), zs_pos j1]; exact ⟨x1, y1⟩
            · rw [if_neg (by omega), zs_neg j1, zs_neg j0, e2]; exact ⟨rfl, hz⟩
        · have x2 := xval_cval (h2 (by omega)) hb (fun j p q => (h j p q).1)
          have y2 := in32_xval (h2 (by omega)) hb (fun j p q => (h j p q).2)
          rw [if_neg n2]
          by_cases j0 : i = t
          · rw [if_pos (by omega), if_pos (by omega), zs_neg (by omega), zs_neg (by omega), zs_pos j0]; exact ⟨x0, y0⟩
          · by_cases j1 : i = t + 1
            · rw [if_pos (by omega), if_neg (by omega), if_pos (by omega), zs_neg (by omega), zs_pos j1]; exact ⟨x1, y1⟩
            · by_cases j2 : i = t + 2
              · rw [if_pos (by omega), if_neg (by omega), if_neg (by omega), zs_pos j2]; exact ⟨x2, y2⟩
              · rw [if_neg (by omega), zs_neg j2, zs_neg j1, zs_neg j0, e2]; exact ⟨rfl, hz⟩
theorem does_call (h : mRel L o0 n0 o1 n1 nF TO V0 mx0 π e0 M σ) (hl : M 101 12 < M 101 13) (hs : M 102 2 < 3000) (hk : L 480 (σ 511 (M 111 4)) = 6) (hc : M 102 2 + M 101 9 + 1 ≤ 3000) (hf : M 111 4 < 23) : astep σ = (zup (zup (zup (zup (zup (zrow (zrow (zrow (zrow (zrow (zrow (zrow (zrow (zup σ 467 70 (σ 467 70 + 1)) 509 (zs (σ 509) (L 485 (σ 511 (M 111 4))) (σ 509 (L 485 (σ 511 (M 111 4))) + 1))) 510 (zs (σ 510) (L 486 (σ 511 (M 111 4))) (σ 510 (L 486 (σ 511 (M 111 4))) + 1))) 511 (zs (zs (σ 511) (σ 467 67 - 1) ((σ 511 (M 111 4)) + 1)) (σ 467 67) (60 * L 467 11 + L 475 (8 * L 467 11 + L 485 (σ 511 (M 111 4)))))) 512 (zs (σ 512) (σ 467 67) (60 * L 467 11 + L 475 (8 * L 467 11 + L 485 (σ 511 (M 111 4))) + L 476 (8 * L 467 11 + L 485 (σ 511 (M 111 4)))))) 513 (zs (σ 513) (σ 467 67) (σ 467 69))) 514 (zs (σ 514) (σ 467 67) (σ 511 (M 111 4)))) 515 (zs (σ 515) (σ 467 67) (σ 467 68))) 516 (went (σ 516) (M 101 10) (M 101 11) (L 473 (8 * L 467 11 + L 485 (σ 511 (M 111 4)))) (L 482 (σ 511 (M 111 4))) (L 483 (σ 511 (M 111 4))) (L 484 (σ 511 (M 111 4))) (L 474 (8 * L 467 11 + L 485 (σ 511 (M 111 4)))))) 467 67 (σ 467 67 + 1)) 467 69 (σ 467 69 + (L 474 (8 * L 467 11 + L 485 (σ 511 (M 111 4)))))) 467 70 (σ 467 70 + 1 + σ 506 1)) 467 71 (σ 467 71 + 1)) 467 72 (max (σ 467 72) (σ 467 67 + 1))) := by
  obtain ⟨k, i1, i2, i3, i4, i5, i6, i7, _⟩ := mRel_in h
  obtain ⟨⟨s1, s2, s3, s4, s5, s6, s7⟩, ⟨q1, q2, q3, q4, q5, q6, q7, q8, q9, q10⟩, _, ⟨a1, a473, a474, a475, a476, a480, a481, a482, a483, a484, a485, a486, a488, a489, a506⟩, hA⟩ := id h
  have e0 : (zup σ 467 70 (σ 467 70 + 1)) 480 (σ 511 (M 111 4)) = L 480 (σ 511 (M 111 4)) := by show σ 480 _ = _; rw [a480]
  have e6 : (zup σ 467 70 (σ 467 70 + 1)) 467 70 + (zup σ 467 70 (σ 467 70 + 1)) 506 1 = M 102 2 + 1 + M 101 9 := by show σ 467 70 + 1 + σ 506 1 = _; rw [a506]; omega
  have e7 : (zup σ 467 70 (σ 467 70 + 1)) 473 (8 * (zup σ 467 70 (σ 467 70 + 1)) 467 11 + (zup σ 467 70 (σ 467 70 + 1)) 485 (σ 511 (M 111 4))) = (L 473 (8 * L 467 11 + L 485 (σ 511 (M 111 4)))) := by show σ 473 (8 * σ 467 11 + σ 485 (σ 511 (M 111 4))) = _; rw [a473, a485, a1]
  have hp : ∀ T : Nat → Int → Int, (if ¬ (zup σ 467 70 (σ 467 70 + 1)) 480 (σ 511 (M 111 4)) = 9 then T else T) = T := fun T => by split <;> rfl
  refine doesI h hl hs ?_
  refine (if_pos (by rw [e0]; omega)).trans ((if_neg (by rw [e0]; omega)).trans ((if_pos (by rw [e0]; omega)).trans ((if_pos (by rw [e0]; omega)).trans ((if_pos (by rw [e6]; omega)).trans ((if_pos (by show ¬ σ 467 67 = 24; omega)).trans ?_)))))
  rw [← a473, ← a474, ← a475, ← a476, ← a482, ← a483, ← a484, ← a485, ← a486, ← a1, ← s3, ← i7, ← k]
  rw [← a473, ← a485, ← a1] at e7
  unfold went
  by_cases n0 : σ 473 (8 * σ 467 11 + σ 485 (σ 511 (σ 467 67 - 1))) ≤ 0
  · rw [if_pos n0]; exact (if_pos n0)
  · rw [if_neg n0]
    by_cases n1 : σ 473 (8 * σ 467 11 + σ 485 (σ 511 (σ 467 67 - 1))) ≤ 1
    · rw [if_pos n1]; exact (if_neg n0).trans (if_pos n1)
    · rw [if_neg n1]
      by_cases n2 : σ 473 (8 * σ 467 11 + σ 485 (σ 511 (σ 467 67 - 1))) ≤ 2
      · rw [if_pos n2]; exact (if_neg n0).trans ((if_neg n1).trans (if_pos n2))
      · rw [if_neg n2]; exact (if_neg n0).trans ((if_neg n1).trans (if_neg n2))
end
