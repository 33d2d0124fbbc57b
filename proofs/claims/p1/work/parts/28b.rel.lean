/-! The class's run and the reference's, side by side -/
def xof (o0 o1 j : Int) : Int := if j = 0 then o0 else o1
def mRelA (L : Nat → Int → Int) (ok : Int → Int → Int → Prop) (V0 mx0 o0 o1 fs bs top pc lim base fl : Int) (A B C D FA FB FC FD vals rAt rEnd rBase rLine rBlock vars bFirst bLeft bEnd bBehind : Int → Int) : Prop :=
  ∃ RB BS FX DX : Int → Int, xInv L ok V0 mx0 fs RB BS FX rAt rEnd rLine bFirst bLeft bEnd bBehind DX ∧
    (RB (fs + 1) = bs ∧ BS (fs + 1) = top ∧ RB fs = fl ∧ BS fs = base) ∧
    (∀ j : Int, 0 ≤ j → j ≤ fs → rBlock j = RB j ∧ rBase j = BS j) ∧
    (pc + xof o0 o1 fs = rAt fs ∧ lim + xof o0 o1 fs = FX fs) ∧
    (∀ j : Int, 0 ≤ j → j < fs → FA j + xof o0 o1 j = rLine (j + 1) ∧ FB j = BS j ∧ FC j + xof o0 o1 j = FX j ∧ FD j = RB j) ∧
    (∀ j i : Int, 0 ≤ j → j ≤ fs → RB j ≤ i → i < RB (j + 1) → A i + xof o0 o1 j = bFirst i ∧ B i = bLeft i ∧ C i + xof o0 o1 j = bBehind i ∧ D i + xof o0 o1 j = DX i) ∧
    (∀ i : Int, 0 ≤ i → i < top → vals i = vars i ∧ in32 (vars i))
section
variable {L : Nat → Int → Int} {ok : Int → Int → Int → Prop} {V0 mx0 o0 o1 fs bs top pc lim base fl : Int} {A B C D FA FB FC FD vals rAt rEnd rBase rLine rBlock vars bFirst bLeft bEnd bBehind : Int → Int}
theorem mRelA_in (h : mRelA L ok V0 mx0 o0 o1 fs bs top pc lim base fl A B C D FA FB FC FD vals rAt rEnd rBase rLine rBlock vars bFirst bLeft bEnd bBehind) : (0 ≤ fs ∧ fs ≤ 23) ∧ (0 ≤ base ∧ base ≤ top ∧ top ≤ V0 + 8 * fs) ∧ (0 ≤ fl ∧ fl ≤ bs ∧ bs ≤ mx0 + 5 * fs) ∧ pc + xof o0 o1 fs = rAt fs ∧ pc ≤ lim ∧ rBlock fs = fl ∧ rBase fs = base ∧ (fl < bs → lim + xof o0 o1 fs = bEnd (bs - 1) ∧ 0 ≤ bLeft (bs - 1) ∧ bLeft (bs - 1) < 2147483648 ∧ B (bs - 1) = bLeft (bs - 1)) ∧ (fl = bs → lim + xof o0 o1 fs = rEnd fs) ∧ lim + xof o0 o1 fs ≤ rEnd fs := by
  obtain ⟨RB, BS, FX, DX, hI, ⟨e1, e2, e3, e4⟩, hj, ⟨p1, p2⟩, hf, hb, hv⟩ := h
  obtain ⟨b1, b2, b3, b4, b5, b6, b7, bx, b8⟩ := hI.2.1 fs hI.1.1 (Int.le_refl _)
  have h0 : ∀ n : Nat, ∀ j : Int, j = n → j ≤ fs → 0 ≤ RB j ∧ 0 ≤ BS j := by
    intro n
    induction n with
    | zero => intro j e _; rw [show j = 0 by omega, hI.1.2.2.1, hI.1.2.2.2]; omega
    | succ n ih => intro j e q; have := ih (j - 1) (by omega) (by omega); have := hI.2.1 (j - 1) (by omega) (by omega); rw [show j - 1 + 1 = j by omega] at this; omega
  have := h0 fs.toNat fs (by have := hI.1.1; omega) (Int.le_refl _)
  have hle := xSegE_le b8
  refine ⟨⟨hI.1.1, hI.1.2.1⟩, ⟨by omega, by omega, by omega⟩, ⟨by omega, by omega, by omega⟩, p1, by omega, ?_, ?_, fun q => ?_, fun q => ?_, by omega⟩
  · rw [(hj fs hI.1.1 (Int.le_refl _)).1]; exact e3
  · rw [(hj fs hI.1.1 (Int.le_refl _)).2]; exact e4
  · have q4 := hI.2.2.2 fs (bs - 1) hI.1.1 (Int.le_refl _) (by omega) (by omega)
    have q5 := hb fs (bs - 1) hI.1.1 (Int.le_refl _) (by omega) (by omega)
    refine ⟨?_, q4.2.1, q4.2.2.1, q5.2.1⟩
    have := b6 (by omega); rw [e1] at this; omega
  · have := b7 (by omega); omega
theorem mRelA_line (h : mRelA L ok V0 mx0 o0 o1 fs bs top pc lim base fl A B C D FA FB FC FD vals rAt rEnd rBase rLine rBlock vars bFirst bLeft bEnd bBehind) (hl : pc < lim) : ok fs (top - base) (rAt fs) ∧ (0 ≤ L 488 (rAt fs) ∧ 0 ≤ L 489 (rAt fs)) ∧ rAt fs + 1 + L 488 (rAt fs) + L 489 (rAt fs) ≤ lim + xof o0 o1 fs ∧ ((L 480 (rAt fs) = 7 ∨ L 480 (rAt fs) = 8) ∨ (L 488 (rAt fs) = 0 ∧ L 489 (rAt fs) = 0)) ∧ (L 480 (rAt fs) = 8 → L 489 (rAt fs) = 0) := by
  obtain ⟨RB, BS, FX, DX, hI, ⟨e1, e2, e3, e4⟩, hj, ⟨p1, p2⟩, hf, hb, hv⟩ := h
  obtain ⟨b1, b2, b3, b4, b5, b6, b7, bx, b8⟩ := hI.2.1 fs hI.1.1 (Int.le_refl _)
  obtain ⟨g1, g2, g3, g4, g5, g6, g7, g8, g9, g10⟩ := xSegE_inv b8 (by omega)
  rw [e2, e4] at g2
  exact ⟨g2, g3, by omega, g5, g6⟩
theorem mRelA_skip {pc' a' : Int} (h : mRelA L ok V0 mx0 o0 o1 fs bs top pc lim base fl A B C D FA FB FC FD vals rAt rEnd rBase rLine rBlock vars bFirst bLeft bEnd bBehind) (hl : pc < lim) (h1 : a' = rAt fs + 1 + L 488 (rAt fs) + L 489 (rAt fs)) (h2 : pc' + xof o0 o1 fs = a') : mRelA L ok V0 mx0 o0 o1 fs bs top (pc') lim base fl A B C D FA FB FC FD vals (zs rAt fs a') rEnd rBase rLine rBlock vars bFirst bLeft bEnd bBehind := by
  obtain ⟨RB, BS, FX, DX, hI, ⟨e1, e2, e3, e4⟩, hj, ⟨p1, p2⟩, hf, hb, hv⟩ := h
  obtain ⟨b1, b2, b3, b4, b5, b6, b7, bx, b8⟩ := hI.2.1 fs hI.1.1 (Int.le_refl _)
  obtain ⟨g1, g2, g3, g4, g5, g6, g7, g8, g9, g10⟩ := xSegE_inv b8 (by omega)
  refine ⟨RB, BS, FX, DX, xInv_go hI (a := a') (by rw [h1]; exact g10), ⟨e1, e2, e3, e4⟩, hj, ⟨?_, p2⟩, hf, hb, hv⟩
  rw [zs_pos rfl]; exact h2
theorem mRelA_vals {k v : Int} (h : mRelA L ok V0 mx0 o0 o1 fs bs top pc lim base fl A B C D FA FB FC FD vals rAt rEnd rBase rLine rBlock vars bFirst bLeft bEnd bBehind) (hv' : in32 v) : mRelA L ok V0 mx0 o0 o1 fs bs top pc lim base fl A B C D FA FB FC FD (zs vals k v) rAt rEnd rBase rLine rBlock (zs vars k v) bFirst bLeft bEnd bBehind := by
  obtain ⟨RB, BS, FX, DX, hI, e, hj, p, hf, hb, hv⟩ := h
  refine ⟨RB, BS, FX, DX, hI, e, hj, p, hf, hb, fun i a0 a1 => ?_⟩
  unfold zs; split
  · exact ⟨rfl, hv'⟩
  · exact hv i a0 a1
theorem mRelA_push {pc' lim' l c a' b' c' : Int} (h : mRelA L ok V0 mx0 o0 o1 fs bs top pc lim base fl A B C D FA FB FC FD vals rAt rEnd rBase rLine rBlock vars bFirst bLeft bEnd bBehind) (hl : pc < lim) (hs : (a' = rAt fs + 1 ∧ b' = rAt fs + 1 + L 488 (rAt fs) ∧ 0 < L 488 (rAt fs)) ∨ (a' = rAt fs + 1 + L 488 (rAt fs) ∧ b' = rAt fs + 1 + L 488 (rAt fs) + L 489 (rAt fs) ∧ 0 < L 489 (rAt fs))) (hc : c' = rAt fs + 1 + L 488 (rAt fs) + L 489 (rAt fs)) (h2 : pc' + xof o0 o1 fs = a') (h3 : lim' + xof o0 o1 fs = b') (h4 : c + xof o0 o1 fs = c') (hl' : 0 ≤ l ∧ l < 2147483648) : mRelA L ok V0 mx0 o0 o1 fs (bs + 1) top (pc') (lim') base fl (zs A bs pc') (zs B bs l) (zs C bs c) (zs D bs lim) FA FB FC FD vals (zs rAt fs a') rEnd rBase rLine rBlock vars (zs bFirst bs a') (zs bLeft bs l) (zs bEnd bs b') (zs bBehind bs c') := by
  obtain ⟨RB, BS, FX, DX, hI, ⟨e1, e2, e3, e4⟩, hj, ⟨p1, p2⟩, hf, hb, hv⟩ := h
  have hM := fun j a0 a1 => (xInv_mono hI (j := j) a0 a1).1
  obtain ⟨b1, b2, b3, b4, b5, b6, b7, bx, b8⟩ := hI.2.1 fs hI.1.1 (Int.le_refl _)
  obtain ⟨g1, g2, g3, g4, g5, g6, g7, g8, g9, g10⟩ := xSegE_inv b8 (by omega)
  have hlv := g7 (by omega)
  have hm : RB (fs + 1) + 1 ≤ mx0 + 5 * fs := by
    by_cases e : fs = 0
    · rw [e] at hlv ⊢; unfold xmx at hlv; rw [if_pos rfl] at hlv; have := hI.1.2.2.1; omega
    · have := (hI.2.1 (fs - 1) (by have := hI.1.1; omega) (by omega)); rw [show fs - 1 + 1 = fs by omega] at this
      unfold xmx at hlv; rw [if_neg e] at hlv; omega
  have hsub : xSegE L (ok fs (BS (fs + 1) - BS fs)) (xmx mx0 fs) (RB (fs + 1) - RB fs + 1) a' b' := by
    rcases hs with ⟨q1, q2, _⟩ | ⟨q1, q2, _⟩
    · rw [q1, q2]; exact g8
    · rw [q1, q2]; exact g9
  have hrest : xSegE L (ok fs (BS (fs + 1) - BS fs)) (xmx mx0 fs) (RB (fs + 1) - RB fs) c' (FX fs) := by rw [hc]; exact g10
  have hI' := xInv_push hI (a := a') (b := b') (l := l) (c := c') hlv hm (by omega) (by omega) hl' hsub hrest
  rw [e1] at hI'
  refine ⟨_, _, _, _, hI', ⟨zs_pos rfl, e2, (zs_neg (by omega)).trans e3, e4⟩, fun j a0 a1 => ?_, ⟨?_, ?_⟩, fun j a0 a1 => ?_, fun j i a0 a1 a2 a3 => ?_, hv⟩
  · rw [zs_neg (by omega)]; exact hj j a0 a1
  · rw [zs_pos rfl]; exact h2
  · rw [zs_pos rfl]; exact h3
  · rw [zs_neg (by omega : ¬ j = fs), zs_neg (by omega : ¬ j = fs + 1)]; exact hf j a0 a1
  · have hMj := hM j a0 a1
    by_cases e : j = fs
    · subst e
      rw [zs_neg (by omega : ¬ j = j + 1)] at a2
      rw [zs_pos rfl] at a3
      by_cases ei : i = bs
      · subst ei
        rw [zs_pos rfl, zs_pos rfl, zs_pos rfl, zs_pos rfl, zs_pos rfl, zs_pos rfl, zs_pos rfl, zs_pos rfl]
        exact ⟨h2, rfl, h4, p2⟩
      · rw [zs_neg ei, zs_neg ei, zs_neg ei, zs_neg ei, zs_neg ei, zs_neg ei, zs_neg ei, zs_neg ei]
        exact hb j i a0 a1 a2 (by omega)
    · rw [zs_neg (by omega : ¬ j = fs + 1)] at a2
      rw [zs_neg (by omega : ¬ j + 1 = fs + 1)] at a3
      have ei : ¬ i = bs := by have := hM (fs - 1) (by omega) (by omega); have := (xInv_mono (xInv_leave hI (by omega)) (j := j) a0 (by omega)).1; rw [show fs - 1 + 1 = fs by omega] at this; omega
      rw [zs_neg ei, zs_neg ei, zs_neg ei, zs_neg ei, zs_neg ei, zs_neg ei, zs_neg ei, zs_neg ei]
      exact hb j i a0 a1 a2 a3
theorem mRelA_again {pc' l : Int} (h : mRelA L ok V0 mx0 o0 o1 fs bs top pc lim base fl A B C D FA FB FC FD vals rAt rEnd rBase rLine rBlock vars bFirst bLeft bEnd bBehind) (ho : fl < bs) (h2 : pc' = A (bs - 1)) (hl' : 0 ≤ l ∧ l < 2147483648) : mRelA L ok V0 mx0 o0 o1 fs bs top (pc') lim base fl A (zs B (bs - 1) l) C D FA FB FC FD vals (zs rAt fs (bFirst (bs - 1))) rEnd rBase rLine rBlock vars bFirst (zs bLeft (bs - 1) l) bEnd bBehind := by
  obtain ⟨RB, BS, FX, DX, hI, ⟨e1, e2, e3, e4⟩, hj, ⟨p1, p2⟩, hf, hb, hv⟩ := h
  have hI' := xInv_again hI (l := l) (by omega) hl'
  rw [e1] at hI'
  have q := hb fs (bs - 1) hI.1.1 (Int.le_refl _) (by omega) (by omega)
  refine ⟨_, _, _, _, hI', ⟨e1, e2, e3, e4⟩, hj, ⟨?_, p2⟩, hf, fun j i a0 a1 a2 a3 => ?_, hv⟩
  · rw [zs_pos rfl, h2]; exact q.1
  · obtain ⟨r1, r2, r3, r4⟩ := hb j i a0 a1 a2 a3
    refine ⟨r1, ?_, r3, r4⟩
    unfold zs; split
    · rfl
    · exact r2
theorem mRelA_pop {pc' lim' : Int} (h : mRelA L ok V0 mx0 o0 o1 fs bs top pc lim base fl A B C D FA FB FC FD vals rAt rEnd rBase rLine rBlock vars bFirst bLeft bEnd bBehind) (ho : fl < bs) (h2 : pc' = C (bs - 1)) (h3 : lim' = D (bs - 1)) : mRelA L ok V0 mx0 o0 o1 fs (bs - 1) top (pc') (lim') base fl A B C D FA FB FC FD vals (zs rAt fs (bBehind (bs - 1))) rEnd rBase rLine rBlock vars bFirst bLeft bEnd bBehind := by
  obtain ⟨RB, BS, FX, DX, hI, ⟨e1, e2, e3, e4⟩, hj, ⟨p1, p2⟩, hf, hb, hv⟩ := h
  have hI' := xInv_pop hI (by omega)
  rw [e1] at hI'
  have q := hb fs (bs - 1) hI.1.1 (Int.le_refl _) (by omega) (by omega)
  refine ⟨_, _, _, _, hI', ⟨zs_pos rfl, e2, (zs_neg (by omega)).trans e3, e4⟩, fun j a0 a1 => ?_, ⟨?_, ?_⟩, fun j a0 a1 => ?_, fun j i a0 a1 a2 a3 => ?_, hv⟩
  · rw [zs_neg (by omega)]; exact hj j a0 a1
  · rw [zs_pos rfl, h2]; exact q.2.2.1
  · rw [zs_pos rfl, h3]; exact q.2.2.2
  · rw [zs_neg (by omega : ¬ j = fs), zs_neg (by omega : ¬ j = fs + 1)]; exact hf j a0 a1
  · rw [zs_neg (by omega : ¬ j = fs + 1)] at a2
    refine hb j i a0 a1 a2 ?_
    by_cases e : j = fs
    · subst e; rw [zs_pos rfl] at a3; omega
    · rw [zs_neg (by omega : ¬ j + 1 = fs + 1)] at a3; exact a3
theorem mRelA_leave {fs' bs' top' pc' lim' base' fl' : Int} (h : mRelA L ok V0 mx0 o0 o1 fs bs top pc lim base fl A B C D FA FB FC FD vals rAt rEnd rBase rLine rBlock vars bFirst bLeft bEnd bBehind) (hp : 0 < fs) (h1 : fs' = fs - 1) (h2 : bs' = fl) (h3 : top' = base) (h4 : pc' = FA (fs - 1) + 1) (h5 : lim' = FC (fs - 1)) (h6 : base' = FB (fs - 1)) (h7 : fl' = FD (fs - 1)) : (mRelA L ok V0 mx0 o0 o1 (fs') (bs') (top') (pc') (lim') (base') (fl') A B C D FA FB FC FD vals rAt rEnd rBase rLine rBlock vars bFirst bLeft bEnd bBehind) ∧ 0 ≤ rLine fs ∧ rLine fs < 520 ∧ FA (fs - 1) + xof o0 o1 (fs - 1) = rLine fs ∧ 0 ≤ L 481 (rLine fs) ∧ rBase (fs - 1) + L 481 (rLine fs) < top' ∧ rBase (fs - 1) = base' ∧ rAt (fs - 1) = rLine fs + 1 ∧ ok (fs - 1) (top' - base') (rLine fs) := by
  obtain ⟨RB, BS, FX, DX, hI, ⟨e1, e2, e3, e4⟩, hj, ⟨p1, p2⟩, hf, hb, hv⟩ := h
  subst h1 h2 h3
  obtain ⟨r1, r2, r3, r4⟩ := hf (fs - 1) (by omega) (by omega)
  obtain ⟨s1, s2, s3, s4, s5, s6⟩ := hI.2.2.1 (fs - 1) (by omega) (by omega)
  have hJ := hj (fs - 1) (by omega) (by omega)
  have hb0 := (mRelA_in ⟨RB, BS, FX, DX, hI, ⟨e1, e2, e3, e4⟩, hj, ⟨p1, p2⟩, hf, hb, hv⟩).2.1
  rw [show fs - 1 + 1 = fs by omega] at *
  refine ⟨⟨RB, BS, FX, DX, xInv_leave hI hp, ⟨?_, ?_, ?_, ?_⟩, fun j a0 a1 => hj j a0 (by omega), ⟨?_, ?_⟩, fun j a0 a1 => hf j a0 (by omega), fun j i a0 a1 => hb j i a0 (by omega), fun i a0 a1 => hv i a0 (by omega)⟩, s2, s3, r1, s4, ?_, ?_, s1, ?_⟩
  · rw [show fs - 1 + 1 = fs by omega]; exact e3
  · rw [show fs - 1 + 1 = fs by omega]; exact e4
  · rw [h7]; exact r4.symm
  · rw [h6]; exact r2.symm
  · rw [s1, h4]; omega
  · rw [h5]; exact r3
  · rw [hJ.2, ← e4]; exact s5
  · rw [hJ.2, h6]; exact r2.symm
  · rw [h6, r2, ← e4]; exact s6
theorem mRelA_call {fs' top' pc' lim' v e e' : Int} {vals' vars' : Int → Int} (h : mRelA L ok V0 mx0 o0 o1 fs bs top pc lim base fl A B C D FA FB FC FD vals rAt rEnd rBase rLine rBlock vars bFirst bLeft bEnd bBehind) (hl : pc < lim) (hf' : fs < 23) (hk : L 480 (rAt fs) = 6) (hx : (0 ≤ rAt fs ∧ rAt fs < 520) ∧ 0 ≤ L 481 (rAt fs) ∧ L 481 (rAt fs) < top - base) (hv1 : 0 ≤ v ∧ v ≤ 8) (h1 : fs' = fs + 1) (h2 : top' = top + v) (h3 : pc' + o1 = e) (h4 : lim' + o1 = e') (hs : xSegE L (ok (fs + 1) v) 5 0 e e') (hv' : ∀ i : Int, 0 ≤ i → i < top' → vals' i = vars' i ∧ in32 (vars' i)) : mRelA L ok V0 mx0 o0 o1 (fs') bs (top') (pc') (lim') (top) (bs) A B C D (zs FA fs pc) (zs FB fs base) (zs FC fs lim) (zs FD fs fl) (vals') (zs (zs rAt fs (rAt fs + 1)) (fs + 1) e) (zs rEnd (fs + 1) e') (zs rBase (fs + 1) top) (zs rLine (fs + 1) (rAt fs)) (zs rBlock (fs + 1) bs) (vars') bFirst bLeft bEnd bBehind := by
  obtain ⟨RB, BS, FX, DX, hI, ⟨e1, e2, e3, e4⟩, hj, ⟨p1, p2⟩, hf, hb, hv⟩ := h
  obtain ⟨b1, b2, b3, b4, b5, b6, b7, bx, b8⟩ := hI.2.1 fs hI.1.1 (Int.le_refl _)
  obtain ⟨g1, g2, g3, g4, g5, g6, g7, g8, g9, g10⟩ := xSegE_inv b8 (by omega)
  have hz : L 488 (rAt fs) = 0 ∧ L 489 (rAt fs) = 0 := by omega
  rw [hz.1, hz.2, show rAt fs + 1 + 0 + 0 = rAt fs + 1 by omega] at g10
  have hI1 := xInv_go hI g10
  have hI2 := xInv_call hI1 (l := rAt fs) (a := e) (b := e') (v := v) hf' (zs_pos rfl) ⟨hx.1.1, hx.1.2, hx.2.1, by omega, g2⟩ hv1 hs
  rw [e1, e2] at hI2
  have h0 := hI.1.1
  subst h1 h2
  have hz2 : ∀ (f : Int → Int) (v j : Int), j ≤ fs + 1 → zs f (fs + 2) v j = f j := fun f v j q => zs_neg (by omega)
  refine ⟨_, _, _, _, hI2, ⟨?_, ?_, ?_, ?_⟩, fun j a0 a1 => ?_, ⟨?_, ?_⟩, fun j a0 a1 => ?_, fun j i a0 a1 a2 a3 => ?_, hv'⟩
  · rw [show fs + 1 + 1 = fs + 2 by omega]; exact zs_pos rfl
  · rw [show fs + 1 + 1 = fs + 2 by omega]; exact zs_pos rfl
  · rw [hz2 _ _ _ (by omega)]; exact e1
  · rw [hz2 _ _ _ (by omega)]; exact e2
  · rw [hz2 _ _ _ (by omega), hz2 _ _ _ (by omega)]
    by_cases q : j = fs + 1
    · subst q; rw [zs_pos rfl, zs_pos rfl]; exact ⟨e1.symm, e2.symm⟩
    · rw [zs_neg q, zs_neg q]; exact hj j a0 (by omega)
  · rw [zs_pos rfl]; unfold xof; rw [if_neg (by omega)]; exact h3
  · rw [zs_pos rfl]; unfold xof; rw [if_neg (by omega)]; exact h4
  · rw [hz2 _ _ _ (by omega), hz2 _ _ _ (by omega), zs_neg (by omega : ¬ j = fs + 1)]
    by_cases q : j = fs
    · subst q; rw [zs_pos rfl, zs_pos rfl, zs_pos rfl, zs_pos rfl, zs_pos rfl]; exact ⟨p1, e4.symm, p2, e3.symm⟩
    · rw [zs_neg q, zs_neg q, zs_neg q, zs_neg q, zs_neg (by omega : ¬ j + 1 = fs + 1)]; exact hf j a0 (by omega)
  · by_cases q : j = fs + 1
    · subst q
      rw [hz2 _ _ _ (by omega)] at a2
      rw [show fs + 1 + 1 = fs + 2 by omega, zs_pos rfl] at a3
      omega
    · rw [hz2 _ _ _ (by omega)] at a2 a3
      exact hb j i a0 (by omega) a2 a3
end
