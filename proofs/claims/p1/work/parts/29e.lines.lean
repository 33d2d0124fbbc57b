/-! The lines of a run: one turn on both sides -/
section
variable {L : Nat → Int → Int} {o0 n0 o1 n1 nF : Int} {TO : Int → Int} {V0 mx0 : Int} {π e0 : Int → Int} {M σ : Nat → Int → Int}
theorem doesI (h : mRel L o0 n0 o1 n1 nF TO V0 mx0 π e0 M σ) (hl : M 101 12 < M 101 13) (hs : M 102 2 < 3000) {T : Nat → Int → Int} (h1 : does_f (zup σ 467 70 (σ 467 70 + 1)) (σ 511 (M 111 4)) = T) : astep σ = T := by
  rw [mRel_asline h hl hs, (mRel_in h).1]; exact h1
theorem l_skip {fi en : Int} (h : mRel L o0 n0 o1 n1 nF TO V0 mx0 π e0 M σ) (hl : M 101 12 < M 101 13) (hs : M 102 2 < 3000) (hk : L 480 (σ 511 (M 111 4)) = 7 ∨ L 480 (σ 511 (M 111 4)) = 8) (hfi : fi = L 482 (σ 511 (M 111 4))) (hen : en + xof o0 o1 (M 111 4) = (σ 511 (M 111 4)) + 1 + L 488 (σ 511 (M 111 4)) + L 489 (σ 511 (M 111 4)))
    (hc : (L 480 (σ 511 (M 111 4)) = 7 ∧ (cval (M 105) (M 101 10) fi) = 0 ∧ L 489 (σ 511 (M 111 4)) ≤ 0) ∨ (L 480 (σ 511 (M 111 4)) = 7 ∧ ¬ (cval (M 105) (M 101 10) fi) = 0 ∧ L 488 (σ 511 (M 111 4)) ≤ 0) ∨ (L 480 (σ 511 (M 111 4)) = 8 ∧ ((cval (M 105) (M 101 10) fi) ≤ 0 ∨ L 488 (σ 511 (M 111 4)) ≤ 0))) : mRel L o0 n0 o1 n1 nF TO V0 mx0 π e0 (zup (zrow M 102 (zs (M 102) 2 (M 102 2 + 1))) 101 12 en) (astep σ) := by
  obtain ⟨o, _⟩ := mRel_opA h hl (by omega)
  obtain ⟨_, _, _, ⟨a1, a473, a474, a475, a476, a480, a481, a482, a483, a484, a485, a486, a488, a489, a506⟩, _⟩ := id h
  rw [hfi, o] at hc
  have k := (mRel_in h).1
  have ev : xval ((zup σ 467 70 (σ 467 70 + 1)) 516) ((zup σ 467 70 (σ 467 70 + 1)) 513 ((zup σ 467 70 (σ 467 70 + 1)) 467 67 - 1)) ((zup σ 467 70 (σ 467 70 + 1)) 482 (σ 511 (M 111 4))) = xval (σ 516) (σ 513 (M 111 4)) (L 482 (σ 511 (M 111 4))) := by
    show xval (σ 516) (σ 513 (σ 467 67 - 1)) (σ 482 (σ 511 (M 111 4))) = _; rw [k, a482]
  have e0 : (zup σ 467 70 (σ 467 70 + 1)) 480 (σ 511 (M 111 4)) = L 480 (σ 511 (M 111 4)) := by show σ 480 _ = _; rw [a480]
  have e1 : (zup σ 467 70 (σ 467 70 + 1)) 488 (σ 511 (M 111 4)) = L 488 (σ 511 (M 111 4)) := by show σ 488 _ = _; rw [a488]
  have e2 : (zup σ 467 70 (σ 467 70 + 1)) 489 (σ 511 (M 111 4)) = L 489 (σ 511 (M 111 4)) := by show σ 489 _ = _; rw [a489]
  have eG : goesInto_f (zup σ 467 70 (σ 467 70 + 1)) (σ 511 (M 111 4)) = zrow (zup σ 467 70 (σ 467 70 + 1)) 511 (zs ((zup σ 467 70 (σ 467 70 + 1)) 511) ((zup σ 467 70 (σ 467 70 + 1)) 467 67 - 1) ((σ 511 (M 111 4)) + (zup σ 467 70 (σ 467 70 + 1)) 488 (σ 511 (M 111 4)) + (zup σ 467 70 (σ 467 70 + 1)) 489 (σ 511 (M 111 4)) + 1)) := by
    rcases hc with ⟨c1, c2, c3⟩ | ⟨c1, c2, c3⟩ | ⟨c1, c2⟩
    · exact (if_pos (by rw [e0]; omega)).trans ((if_neg (fun q => q (by rw [e0]; exact c1))).trans ((if_pos (by rw [ev]; exact c2)).trans (if_pos (by rw [e2]; exact c3))))
    · exact (if_pos (by rw [e0]; omega)).trans ((if_neg (fun q => q (by rw [e0]; exact c1))).trans ((if_neg (by rw [ev]; exact c2)).trans (if_pos (by rw [e1]; exact c3))))
    · by_cases c3 : xval (σ 516) (σ 513 (M 111 4)) (L 482 (σ 511 (M 111 4))) ≤ 0
      · exact (if_neg (fun q => q (by rw [e0]; exact c1))).trans (if_pos (by rw [ev]; exact c3))
      · exact (if_neg (fun q => q (by rw [e0]; exact c1))).trans ((if_neg (by rw [ev]; exact c3)).trans (if_pos (by rw [e1]; omega)))
  have eD : does_f (zup σ 467 70 (σ 467 70 + 1)) (σ 511 (M 111 4)) = goesInto_f (zup σ 467 70 (σ 467 70 + 1)) (σ 511 (M 111 4)) := by
    rcases hk with c1 | c1
    · exact (if_pos (by rw [e0]; omega)).trans (if_pos (by rw [e0]; exact c1))
    · exact (if_pos (by rw [e0]; omega)).trans ((if_neg (by rw [e0]; omega)).trans (if_neg (fun q => q (by rw [e0]; exact c1))))
  rw [doesI h hl hs (eD.trans eG), e1, e2]
  exact r_skip (r_tick h hs) hl (by show _ = (σ 511 (M 111 4)) + 1 + L 488 (σ 511 (M 111 4)) + L 489 (σ 511 (M 111 4)); omega) (by show en + xof o0 o1 (M 111 4) = _; omega)
theorem l_push {fi pc' lim' l c a' b' : Int} (h : mRel L o0 n0 o1 n1 nF TO V0 mx0 π e0 M σ) (hl : M 101 12 < M 101 13) (hs : M 102 2 < 3000) (hfi : fi = L 482 (σ 511 (M 111 4))) (hen : c + xof o0 o1 (M 111 4) = (σ 511 (M 111 4)) + 1 + L 488 (σ 511 (M 111 4)) + L 489 (σ 511 (M 111 4))) (h2 : pc' + xof o0 o1 (M 111 4) = a') (h3 : lim' + xof o0 o1 (M 111 4) = b')
    (hc : (L 480 (σ 511 (M 111 4)) = 7 ∧ (cval (M 105) (M 101 10) fi) = 0 ∧ 0 < L 489 (σ 511 (M 111 4)) ∧ l = 0 ∧ a' = (σ 511 (M 111 4)) + 1 + L 488 (σ 511 (M 111 4)) ∧ b' = (σ 511 (M 111 4)) + 1 + L 488 (σ 511 (M 111 4)) + L 489 (σ 511 (M 111 4))) ∨ (L 480 (σ 511 (M 111 4)) = 7 ∧ ¬ (cval (M 105) (M 101 10) fi) = 0 ∧ 0 < L 488 (σ 511 (M 111 4)) ∧ l = 0 ∧ a' = (σ 511 (M 111 4)) + 1 ∧ b' = (σ 511 (M 111 4)) + 1 + L 488 (σ 511 (M 111 4))) ∨ (L 480 (σ 511 (M 111 4)) = 8 ∧ 0 < (cval (M 105) (M 101 10) fi) ∧ 0 < L 488 (σ 511 (M 111 4)) ∧ l = (cval (M 105) (M 101 10) fi) - 1 ∧ a' = (σ 511 (M 111 4)) + 1 ∧ b' = (σ 511 (M 111 4)) + 1 + L 488 (σ 511 (M 111 4)))) : mRel L o0 n0 o1 n1 nF TO V0 mx0 π e0 ((zup (zup (zup (zrow (zrow (zrow (zrow (zrow M 102 (zs (M 102) 2 (M 102 2 + 1))) 107 (zs (M 107) (M 106 4) pc')) 108 (zs (M 108) (M 106 4) l)) 109 (zs (M 109) (M 106 4) c)) 110 (zs (M 110) (M 106 4) (M 101 13))) 101 12 pc') 101 13 lim') 106 4 (M 106 4 + 1))) (astep σ) := by
  obtain ⟨o, oi⟩ := mRel_opA h hl (by omega)
  obtain ⟨_, _, _, ⟨a1, a473, a474, a475, a476, a480, a481, a482, a483, a484, a485, a486, a488, a489, a506⟩, _⟩ := id h
  unfold in32 at oi
  rw [hfi, o] at hc
  have k := (mRel_in h).1
  have ev : xval ((zup σ 467 70 (σ 467 70 + 1)) 516) ((zup σ 467 70 (σ 467 70 + 1)) 513 ((zup σ 467 70 (σ 467 70 + 1)) 467 67 - 1)) ((zup σ 467 70 (σ 467 70 + 1)) 482 (σ 511 (M 111 4))) = xval (σ 516) (σ 513 (M 111 4)) (L 482 (σ 511 (M 111 4))) := by
    show xval (σ 516) (σ 513 (σ 467 67 - 1)) (σ 482 (σ 511 (M 111 4))) = _; rw [k, a482]
  have e0 : (zup σ 467 70 (σ 467 70 + 1)) 480 (σ 511 (M 111 4)) = L 480 (σ 511 (M 111 4)) := by show σ 480 _ = _; rw [a480]
  have e1 : (zup σ 467 70 (σ 467 70 + 1)) 488 (σ 511 (M 111 4)) = L 488 (σ 511 (M 111 4)) := by show σ 488 _ = _; rw [a488]
  have e2 : (zup σ 467 70 (σ 467 70 + 1)) 489 (σ 511 (M 111 4)) = L 489 (σ 511 (M 111 4)) := by show σ 489 _ = _; rw [a489]
  have eD : does_f (zup σ 467 70 (σ 467 70 + 1)) (σ 511 (M 111 4)) = goesInto_f (zup σ 467 70 (σ 467 70 + 1)) (σ 511 (M 111 4)) := by
    by_cases c1 : L 480 (σ 511 (M 111 4)) = 7
    · exact (if_pos (by rw [e0]; omega)).trans (if_pos (by rw [e0]; exact c1))
    · exact (if_pos (by rw [e0]; omega)).trans ((if_neg (by rw [e0]; omega)).trans (if_neg (fun q => q (by rw [e0]; omega))))
  have hR := r_push (r_tick h hs) (pc' := pc') (lim' := lim') (l := l) (c := c) (a' := a') (b' := b') (c' := (σ 511 (M 111 4)) + 1 + L 488 (σ 511 (M 111 4)) + L 489 (σ 511 (M 111 4))) hl (by
    rcases hc with ⟨c1, c2, c3, c4, c5, c6⟩ | ⟨c1, c2, c3, c4, c5, c6⟩ | ⟨c1, c2, c3, c4, c5, c6⟩
    · exact Or.inr ⟨c5, c6, c3⟩
    · exact Or.inl ⟨c5, c6, c3⟩
    · exact Or.inl ⟨c5, c6, c3⟩) rfl h2 h3 hen (by omega)
  have eT : goesInto_f (zup σ 467 70 (σ 467 70 + 1)) (σ 511 (M 111 4)) = (zup (zrow (zrow (zrow (zrow (zrow (zup σ 467 70 (σ 467 70 + 1)) 511 (zs (σ 511) (σ 467 67 - 1) a')) 517 (zs (σ 517) (σ 467 68) a')) 518 (zs (σ 518) (σ 467 68) l)) 519 (zs (σ 519) (σ 467 68) b')) 520 (zs (σ 520) (σ 467 68) ((σ 511 (M 111 4)) + 1 + L 488 (σ 511 (M 111 4)) + L 489 (σ 511 (M 111 4))))) 467 68 (σ 467 68 + 1)) := by
    rcases hc with ⟨c1, c2, c3, c4, c5, c6⟩ | ⟨c1, c2, c3, c4, c5, c6⟩ | ⟨c1, c2, c3, c4, c5, c6⟩
    · refine (if_pos (by rw [e0]; omega)).trans ((if_neg (fun q => q (by rw [e0]; exact c1))).trans ((if_pos (by rw [ev]; exact c2)).trans ((if_neg (by rw [e2]; omega)).trans ?_)))
      rw [e1, e2, c4, c5, c6, show (σ 511 (M 111 4)) + L 488 (σ 511 (M 111 4)) + 1 = (σ 511 (M 111 4)) + 1 + L 488 (σ 511 (M 111 4)) by omega, show (σ 511 (M 111 4)) + L 488 (σ 511 (M 111 4)) + L 489 (σ 511 (M 111 4)) + 1 = (σ 511 (M 111 4)) + 1 + L 488 (σ 511 (M 111 4)) + L 489 (σ 511 (M 111 4)) by omega]
      rfl
    · refine (if_pos (by rw [e0]; omega)).trans ((if_neg (fun q => q (by rw [e0]; exact c1))).trans ((if_neg (by rw [ev]; exact c2)).trans ((if_neg (by rw [e1]; omega)).trans ?_)))
      rw [e1, e2, c4, c5, c6, show (σ 511 (M 111 4)) + L 488 (σ 511 (M 111 4)) + 1 = (σ 511 (M 111 4)) + 1 + L 488 (σ 511 (M 111 4)) by omega, show (σ 511 (M 111 4)) + L 488 (σ 511 (M 111 4)) + L 489 (σ 511 (M 111 4)) + 1 = (σ 511 (M 111 4)) + 1 + L 488 (σ 511 (M 111 4)) + L 489 (σ 511 (M 111 4)) by omega]
      rfl
    · refine (if_neg (fun q => q (by rw [e0]; exact c1))).trans ((if_neg (by rw [ev]; omega)).trans ((if_neg (by rw [e1]; omega)).trans ?_))
      rw [ev, e1, e2, c4, c5, c6, show (σ 511 (M 111 4)) + L 488 (σ 511 (M 111 4)) + 1 = (σ 511 (M 111 4)) + 1 + L 488 (σ 511 (M 111 4)) by omega, show (σ 511 (M 111 4)) + L 488 (σ 511 (M 111 4)) + L 489 (σ 511 (M 111 4)) + 1 = (σ 511 (M 111 4)) + 1 + L 488 (σ 511 (M 111 4)) + L 489 (σ 511 (M 111 4)) by omega]
      rfl
  rw [doesI h hl hs (eD.trans eT)]
  exact hR
theorem l_give {fi x : Int} (h : mRel L o0 n0 o1 n1 nF TO V0 mx0 π e0 M σ) (hl : M 101 12 < M 101 13) (hs : M 102 2 < 3000) (hk : L 480 (σ 511 (M 111 4)) = 9) (hfi : fi = L 482 (σ 511 (M 111 4))) (hp : 0 < M 111 4) (hx : x = L 481 (σ 514 (M 111 4))) : mRel L o0 n0 o1 n1 nF TO V0 mx0 π e0 ((zup (zup (zup (zup (zup (zup (zup (zrow (zrow M 102 (zs (M 102) 2 (M 102 2 + 1))) 105 (zs (M 105) (M 113 (M 111 4 - 1) + x) (cval (M 105) (M 101 10) fi))) 101 10 (M 113 (M 111 4 - 1))) 101 11 (M 101 10)) 101 12 (M 112 (M 111 4 - 1) + 1)) 101 13 (M 114 (M 111 4 - 1))) 101 14 (M 115 (M 111 4 - 1))) 106 4 (M 101 14)) 111 4 (M 111 4 - 1))) (astep σ) := by
  obtain ⟨o, oi⟩ := mRel_opA h hl (by omega)
  obtain ⟨_, _, _, ⟨a1, a473, a474, a475, a476, a480, a481, a482, a483, a484, a485, a486, a488, a489, a506⟩, hA⟩ := id h
  have k := (mRel_in h).1
  obtain ⟨_, _, _, _, _, _, q6, _⟩ := mRelA_leave hA hp rfl rfl rfl rfl rfl rfl rfl
  have ev : xval ((zup σ 467 70 (σ 467 70 + 1)) 516) ((zup σ 467 70 (σ 467 70 + 1)) 513 ((zup σ 467 70 (σ 467 70 + 1)) 467 67 - 1)) ((zup σ 467 70 (σ 467 70 + 1)) 482 (σ 511 (M 111 4))) = xval (σ 516) (σ 513 (M 111 4)) (L 482 (σ 511 (M 111 4))) := by
    show xval (σ 516) (σ 513 (σ 467 67 - 1)) (σ 482 (σ 511 (M 111 4))) = _; rw [k, a482]
  have e0 : (zup σ 467 70 (σ 467 70 + 1)) 480 (σ 511 (M 111 4)) = L 480 (σ 511 (M 111 4)) := by show σ 480 _ = _; rw [a480]
  have eD : does_f (zup σ 467 70 (σ 467 70 + 1)) (σ 511 (M 111 4)) = leaves_f (zup σ 467 70 (σ 467 70 + 1)) (xval (σ 516) (σ 513 (M 111 4)) (L 482 (σ 511 (M 111 4)))) := (if_neg (fun q => q (by rw [e0]; exact hk))).trans (congrArg (leaves_f (zup σ 467 70 (σ 467 70 + 1))) ev)
  have eL : leaves_f (zup σ 467 70 (σ 467 70 + 1)) (xval (σ 516) (σ 513 (M 111 4)) (L 482 (σ 511 (M 111 4)))) = (zup (zup (zup (zrow (zup σ 467 70 (σ 467 70 + 1)) 516 (zs (σ 516) (M 113 (M 111 4 - 1) + x) (cval (M 105) (M 101 10) fi))) 467 67 (σ 467 67 - 1)) 467 68 (σ 515 (σ 467 67 - 1))) 467 69 (σ 513 (σ 467 67 - 1))) := by
    refine (if_pos ?_).trans ?_
    · show ¬ σ 467 67 - 1 = 0; omega
    · show _ = _
      rw [hfi, o, hx, ← q6, show M 111 4 - 1 = σ 467 67 - 2 by omega, ← k, ← a481]
      rfl
  rw [doesI h hl hs (eD.trans eL)]
  exact r_leave (r_put (r_tick h hs) (by rw [hfi, o]; exact oi)) hp
theorem l_giveE {fi : Int} (h : mRel L o0 n0 o1 n1 nF TO V0 mx0 π e0 M σ) (hl : M 101 12 < M 101 13) (hs : M 102 2 < 3000) (hk : L 480 (σ 511 (M 111 4)) = 9) (hfi : fi = L 482 (σ 511 (M 111 4))) (hp : M 111 4 = 0) : fRel π e0 TO (zup (zrow M 102 (zs (zs (M 102) 2 (M 102 2 + 1)) 1 (cval (M 105) (M 101 10) fi))) 101 15 1) (astep σ) := by
  obtain ⟨o, oi⟩ := mRel_opA h hl (by omega)
  obtain ⟨_, _, _, ⟨a1, a473, a474, a475, a476, a480, a481, a482, a483, a484, a485, a486, a488, a489, a506⟩, hA⟩ := id h
  have k := (mRel_in h).1
  have ev : xval ((zup σ 467 70 (σ 467 70 + 1)) 516) ((zup σ 467 70 (σ 467 70 + 1)) 513 ((zup σ 467 70 (σ 467 70 + 1)) 467 67 - 1)) ((zup σ 467 70 (σ 467 70 + 1)) 482 (σ 511 (M 111 4))) = xval (σ 516) (σ 513 (M 111 4)) (L 482 (σ 511 (M 111 4))) := by
    show xval (σ 516) (σ 513 (σ 467 67 - 1)) (σ 482 (σ 511 (M 111 4))) = _; rw [k, a482]
  have e0 : (zup σ 467 70 (σ 467 70 + 1)) 480 (σ 511 (M 111 4)) = L 480 (σ 511 (M 111 4)) := by show σ 480 _ = _; rw [a480]
  have eD : does_f (zup σ 467 70 (σ 467 70 + 1)) (σ 511 (M 111 4)) = leaves_f (zup σ 467 70 (σ 467 70 + 1)) (xval (σ 516) (σ 513 (M 111 4)) (L 482 (σ 511 (M 111 4)))) := (if_neg (fun q => q (by rw [e0]; exact hk))).trans (congrArg (leaves_f (zup σ 467 70 (σ 467 70 + 1))) ev)
  rw [doesI h hl hs eD, hfi, o]
  have q := f_end (v := xval (σ 516) (σ 513 (M 111 4)) (L 482 (σ 511 (M 111 4)))) (r_tick h hs) hp
  rw [zrow_zrow] at q
  exact q
theorem l_simple {kd tg fi se : Int} (h : mRel L o0 n0 o1 n1 nF TO V0 mx0 π e0 M σ) (hl : M 101 12 < M 101 13) (hs : M 102 2 < 3000) (hkd : kd = L 480 (σ 511 (M 111 4))) (hk : kd ≤ 5) (htg : tg = L 481 (σ 511 (M 111 4))) (hfi : fi = L 482 (σ 511 (M 111 4))) (hse : se = L 483 (σ 511 (M 111 4))) : mRel L o0 n0 o1 n1 nF TO V0 mx0 π e0 (zup (zrow (zrow M 102 (zs (M 102) 2 (M 102 2 + 1))) 105 (zs (M 105) (M 101 10 + tg) (wrk kd (cval (M 105) (M 101 10) fi) (cval (M 105) (M 101 10) se)))) 101 12 (M 101 12 + 1)) (astep σ) := by
  obtain ⟨o, oi⟩ := mRel_opA h hl (by omega)
  have hB := mRel_opB h hl
  have hx := (mRel_line h hl)
  have hx1 := hx.1.1
  unfold xLine at hx1
  have hz : L 488 (σ 511 (M 111 4)) = 0 ∧ L 489 (σ 511 (M 111 4)) = 0 := by have := hx.2.2.2.1; omega
  obtain ⟨_, _, _, ⟨a1, a473, a474, a475, a476, a480, a481, a482, a483, a484, a485, a486, a488, a489, a506⟩, hA⟩ := id h
  obtain ⟨k, i1, i2, i3, i4, i5, i6, i7, _⟩ := mRel_in h
  have ev : xval ((zup σ 467 70 (σ 467 70 + 1)) 516) ((zup σ 467 70 (σ 467 70 + 1)) 513 ((zup σ 467 70 (σ 467 70 + 1)) 467 67 - 1)) ((zup σ 467 70 (σ 467 70 + 1)) 482 (σ 511 (M 111 4))) = xval (σ 516) (σ 513 (M 111 4)) (L 482 (σ 511 (M 111 4))) := by
    show xval (σ 516) (σ 513 (σ 467 67 - 1)) (σ 482 (σ 511 (M 111 4))) = _; rw [k, a482]
  have ev2 : xval ((zup σ 467 70 (σ 467 70 + 1)) 516) ((zup σ 467 70 (σ 467 70 + 1)) 513 ((zup σ 467 70 (σ 467 70 + 1)) 467 67 - 1)) ((zup σ 467 70 (σ 467 70 + 1)) 483 (σ 511 (M 111 4))) = xval (σ 516) (σ 513 (M 111 4)) (L 483 (σ 511 (M 111 4))) := by
    show xval (σ 516) (σ 513 (σ 467 67 - 1)) (σ 483 (σ 511 (M 111 4))) = _; rw [k, a483]
  have e0 : (zup σ 467 70 (σ 467 70 + 1)) 480 (σ 511 (M 111 4)) = L 480 (σ 511 (M 111 4)) := by show σ 480 _ = _; rw [a480]
  have eX : (zup σ 467 70 (σ 467 70 + 1)) 481 (σ 511 (M 111 4)) = L 481 (σ 511 (M 111 4)) := by show σ 481 _ = _; rw [a481]
  have hw : wrk kd (cval (M 105) (M 101 10) fi) (cval (M 105) (M 101 10) se) = wrk (L 480 (σ 511 (M 111 4))) (xval (σ 516) (σ 513 (M 111 4)) (L 482 (σ 511 (M 111 4)))) (if L 480 (σ 511 (M 111 4)) = 0 then 0 else xval (σ 516) (σ 513 (M 111 4)) (L 483 (σ 511 (M 111 4)))) := by
    rw [hkd, hfi, hse, o]
    by_cases z : L 480 (σ 511 (M 111 4)) = 0
    · unfold wrk; rw [if_pos z, if_pos z]
    · rw [if_neg z, hB (by omega)]
  have hi : in32 (wrk kd (cval (M 105) (M 101 10) fi) (cval (M 105) (M 101 10) se)) := by rw [hw]; exact in32_wrk oi
  have eD : does_f (zup σ 467 70 (σ 467 70 + 1)) (σ 511 (M 111 4)) = zrow (zrow (zup σ 467 70 (σ 467 70 + 1)) 511 (zs (σ 511) (σ 467 67 - 1) ((σ 511 (M 111 4)) + 1))) 516 (zs (σ 516) (M 101 10 + tg) (wrk kd (cval (M 105) (M 101 10) fi) (cval (M 105) (M 101 10) se))) := by
    rw [hw, htg, ← i7]
    by_cases z : L 480 (σ 511 (M 111 4)) = 0
    · refine (if_pos (by rw [e0]; omega)).trans ((if_neg (by rw [e0]; omega)).trans ((if_pos (by rw [e0]; omega)).trans ((if_neg (by rw [e0]; omega)).trans ((if_neg (fun q => q (by rw [e0]; exact z))).trans ?_))))
      rw [e0, ev, eX, if_pos z, ← k]; rfl
    · refine (if_pos (by rw [e0]; omega)).trans ((if_neg (by rw [e0]; omega)).trans ((if_pos (by rw [e0]; omega)).trans ((if_neg (by rw [e0]; omega)).trans ((if_pos (by rw [e0]; exact z)).trans ?_))))
      rw [e0, ev, ev2, eX, if_neg z, ← k]; rfl
  rw [doesI h hl hs eD]
  have q := r_put (i := M 101 10 + tg) (r_skip (r_tick h hs) (e := M 101 12 + 1) (a' := (σ 511 (M 111 4)) + 1) hl (by show _ = (σ 511 (M 111 4)) + 1 + L 488 (σ 511 (M 111 4)) + L 489 (σ 511 (M 111 4)); omega) (by show M 101 12 + 1 + xof o0 o1 (M 111 4) = _; omega)) hi
  rw [zrow_zup _ (by decide)] at q
  exact q
theorem l_cs1 (h : mRel L o0 n0 o1 n1 nF TO V0 mx0 π e0 M σ) (hl : M 101 12 < M 101 13) (hs : M 102 2 < 3000) (hk : L 480 (σ 511 (M 111 4)) = 6) (hc : ¬ M 102 2 + M 101 9 + 1 ≤ 3000) : fRel π e0 TO (zup (zrow M 102 (zs (zs (M 102) 2 (M 102 2 + 1)) 0 1)) 101 15 1) (astep σ) := by
  obtain ⟨⟨s1, s2, s3, s4, s5, s6, s7⟩, ⟨q1, q2, q3, q4, q5, q6, q7, q8, q9, q10⟩, _, ⟨a1, a473, a474, a475, a476, a480, a481, a482, a483, a484, a485, a486, a488, a489, a506⟩, hA⟩ := id h
  have e0 : (zup σ 467 70 (σ 467 70 + 1)) 480 (σ 511 (M 111 4)) = L 480 (σ 511 (M 111 4)) := by show σ 480 _ = _; rw [a480]
  have e6 : (zup σ 467 70 (σ 467 70 + 1)) 467 70 + (zup σ 467 70 (σ 467 70 + 1)) 506 1 = M 102 2 + 1 + M 101 9 := by show σ 467 70 + 1 + σ 506 1 = _; rw [a506]; omega
  have eD : does_f (zup σ 467 70 (σ 467 70 + 1)) (σ 511 (M 111 4)) = zup (zrow (zup σ 467 70 (σ 467 70 + 1)) 511 (zs (σ 511) (σ 467 67 - 1) ((σ 511 (M 111 4)) + 1))) 467 73 1 := (if_pos (by rw [e0]; omega)).trans ((if_neg (by rw [e0]; omega)).trans ((if_pos (by rw [e0]; omega)).trans ((if_pos (by rw [e0]; omega)).trans (if_neg (by rw [e6]; omega)))))
  rw [doesI h hl hs eD]
  have q := f_stop1 (r := zs (σ 511) (σ 467 67 - 1) ((σ 511 (M 111 4)) + 1)) (r_tick h hs)
  rw [zrow_zrow] at q
  exact q
theorem l_cs2 {c : Int} (h : mRel L o0 n0 o1 n1 nF TO V0 mx0 π e0 M σ) (hl : M 101 12 < M 101 13) (hs : M 102 2 < 3000) (hk : L 480 (σ 511 (M 111 4)) = 6) (hcc : c = M 102 2 + M 101 9 + 1) (hc : c ≤ 3000) (hf : 24 ≤ M 111 4 + 1) : fRel π e0 TO (zup (zrow M 102 (zs (zs (zs (M 102) 2 (M 102 2 + 1)) 2 c) 0 2)) 101 15 1) (astep σ) := by
  have i1 := (mRel_in h).2.1
  obtain ⟨⟨s1, s2, s3, s4, s5, s6, s7⟩, ⟨q1, q2, q3, q4, q5, q6, q7, q8, q9, q10⟩, _, ⟨a1, a473, a474, a475, a476, a480, a481, a482, a483, a484, a485, a486, a488, a489, a506⟩, hA⟩ := id h
  have e0 : (zup σ 467 70 (σ 467 70 + 1)) 480 (σ 511 (M 111 4)) = L 480 (σ 511 (M 111 4)) := by show σ 480 _ = _; rw [a480]
  have e6 : (zup σ 467 70 (σ 467 70 + 1)) 467 70 + (zup σ 467 70 (σ 467 70 + 1)) 506 1 = c := by show σ 467 70 + 1 + σ 506 1 = _; rw [a506]; omega
  have eD : does_f (zup σ 467 70 (σ 467 70 + 1)) (σ 511 (M 111 4)) = zup (zup (zrow (zup σ 467 70 (σ 467 70 + 1)) 511 (zs (σ 511) (σ 467 67 - 1) ((σ 511 (M 111 4)) + 1))) 467 70 c) 467 73 2 := by
    have z : σ 467 67 = 24 := by omega
    refine (if_pos (by rw [e0]; omega)).trans ((if_neg (by rw [e0]; omega)).trans ((if_pos (by rw [e0]; omega)).trans ((if_pos (by rw [e0]; omega)).trans ((if_pos (by rw [e6]; omega)).trans ((if_neg (fun q => q z)).trans ?_)))))
    rw [e6]; rfl
  rw [doesI h hl hs eD]
  have q := f_stop2 (r := zs (σ 511) (σ 467 67 - 1) ((σ 511 (M 111 4)) + 1)) (s := c) (r_tick h hs) ⟨by show M 102 2 + 1 ≤ c; omega, hc⟩
  rw [zrow_zrow] at q
  exact q
theorem l_end {x : Int} (h : mRel L o0 n0 o1 n1 nF TO V0 mx0 π e0 M σ) (hl : M 101 12 = M 101 13) (ho : M 106 4 ≤ M 101 14) (hp : 0 < M 111 4) (hx : x = L 481 (σ 514 (M 111 4))) : mRel L o0 n0 o1 n1 nF TO V0 mx0 π e0 ((zup (zup (zup (zup (zup (zup (zup (zrow M 105 (zs (M 105) (M 113 (M 111 4 - 1) + x) 0)) 101 10 (M 113 (M 111 4 - 1))) 101 11 (M 101 10)) 101 12 (M 112 (M 111 4 - 1) + 1)) 101 13 (M 114 (M 111 4 - 1))) 101 14 (M 115 (M 111 4 - 1))) 106 4 (M 101 14)) 111 4 (M 111 4 - 1))) (astep σ) := by
  obtain ⟨k, i1, i2, i3, i4, i5, i6, i7, i8, i9, i10⟩ := mRel_in h
  obtain ⟨⟨s1, s2, s3, s4, s5, s6, s7⟩, _, _, ⟨a1, a473, a474, a475, a476, a480, a481, a482, a483, a484, a485, a486, a488, a489, a506⟩, hA⟩ := id h
  obtain ⟨_, _, _, _, _, _, q6, _⟩ := mRelA_leave hA hp rfl rfl rfl rfl rfl rfl rfl
  have e : astep σ = leaves_f σ 0 := as_end (by rw [k]; have := i9 (by omega); omega) (by rw [k, s2, i6]; exact ho)
  have eL : leaves_f σ 0 = (zup (zup (zup (zrow σ 516 (zs (σ 516) (M 113 (M 111 4 - 1) + x) 0)) 467 67 (σ 467 67 - 1)) 467 68 (σ 515 (σ 467 67 - 1))) 467 69 (σ 513 (σ 467 67 - 1))) := by
    refine (if_pos (by omega)).trans ?_
    rw [hx, ← q6, show M 111 4 - 1 = σ 467 67 - 2 by omega, ← k, ← a481]
  rw [e, eL]
  exact r_leave (r_put h (by unfold in32; omega)) hp
theorem l_endE (h : mRel L o0 n0 o1 n1 nF TO V0 mx0 π e0 M σ) (hl : M 101 12 = M 101 13) (ho : M 106 4 ≤ M 101 14) (hp : M 111 4 = 0) : fRel π e0 TO (zup (zrow M 102 (zs (M 102) 1 0)) 101 15 1) (astep σ) := by
  obtain ⟨k, i1, i2, i3, i4, i5, i6, i7, i8, i9, i10⟩ := mRel_in h
  obtain ⟨⟨s1, s2, s3, s4, s5, s6, s7⟩, _⟩ := id h
  rw [as_end (by rw [k]; have := i9 (by omega); omega) (by rw [k, s2, i6]; exact ho)]
  exact f_end h hp
theorem l_pop (h : mRel L o0 n0 o1 n1 nF TO V0 mx0 π e0 M σ) (hl : M 101 12 = M 101 13) (ho : M 101 14 < M 106 4) (hb : M 108 (M 106 4 - 1) ≤ 0) : mRel L o0 n0 o1 n1 nF TO V0 mx0 π e0 ((zup (zup (zup M 101 12 (M 109 (M 106 4 - 1))) 101 13 (M 110 (M 106 4 - 1))) 106 4 (M 106 4 - 1))) (astep σ) := by
  obtain ⟨k, i1, i2, i3, i4, i5, i6, i7, i8, i9, i10⟩ := mRel_in h
  obtain ⟨⟨s1, s2, s3, s4, s5, s6, s7⟩, _⟩ := id h
  have q := i8 ho
  have e : astep σ = _ := (if_neg (show ¬ σ 467 68 ≤ σ 515 (σ 467 67 - 1) by rw [k, s2, i6]; omega)).trans ((if_neg (fun z : ¬ σ 511 (σ 467 67 - 1) = σ 519 (σ 467 68 - 1) => z (by rw [k, s2]; omega))).trans (if_pos (show σ 518 (σ 467 68 - 1) ≤ 0 by rw [s2]; omega)))
  rw [e]
  exact r_pop h ho
theorem l_again (h : mRel L o0 n0 o1 n1 nF TO V0 mx0 π e0 M σ) (hl : M 101 12 = M 101 13) (ho : M 101 14 < M 106 4) (hb : ¬ M 108 (M 106 4 - 1) ≤ 0) : mRel L o0 n0 o1 n1 nF TO V0 mx0 π e0 ((zup (zrow M 108 (zs (M 108) (M 106 4 - 1) (M 108 (M 106 4 - 1) - 1))) 101 12 (M 107 (M 106 4 - 1)))) (astep σ) := by
  obtain ⟨k, i1, i2, i3, i4, i5, i6, i7, i8, i9, i10⟩ := mRel_in h
  obtain ⟨⟨s1, s2, s3, s4, s5, s6, s7⟩, _⟩ := id h
  have q := i8 ho
  have e : astep σ = _ := (if_neg (show ¬ σ 467 68 ≤ σ 515 (σ 467 67 - 1) by rw [k, s2, i6]; omega)).trans ((if_neg (fun z : ¬ σ 511 (σ 467 67 - 1) = σ 519 (σ 467 68 - 1) => z (by rw [k, s2]; omega))).trans (if_neg (show ¬ σ 518 (σ 467 68 - 1) ≤ 0 by rw [s2]; omega)))
  rw [e]
  exact r_again h ho (by omega)
end
