/-! A run's state, in numbers alone: segments of lines, frames, blocks -/
/-- lines from a up to b, in their blocks; nv variables, blocks mx deep at most -/
def xSeg (L : Nat → Int → Int) (ok : Int → Prop) (mx : Int) : Nat → Int → Int → Int → Prop
  | 0, _, a, b => a = b
  | n + 1, lv, a, b => a = b ∨ (a < b ∧ ok a ∧ (0 ≤ L 488 a ∧ 0 ≤ L 489 a) ∧
      a + 1 + L 488 a + L 489 a ≤ b ∧ ((L 480 a = 7 ∨ L 480 a = 8) ∨ (L 488 a = 0 ∧ L 489 a = 0)) ∧ (L 480 a = 8 → L 489 a = 0) ∧ ((0 < L 488 a ∨ 0 < L 489 a) → lv < mx) ∧
      xSeg L ok mx n (lv + 1) (a + 1) (a + 1 + L 488 a) ∧ xSeg L ok mx n (lv + 1) (a + 1 + L 488 a) (a + 1 + L 488 a + L 489 a) ∧ xSeg L ok mx n lv (a + 1 + L 488 a + L 489 a) b)
def xSegE (L : Nat → Int → Int) (ok : Int → Prop) (mx lv a b : Int) : Prop := ∃ n, xSeg L ok mx n lv a b
theorem xSegE_inv {L : Nat → Int → Int} {ok : Int → Prop} {mx lv a b : Int} (h : xSegE L ok mx lv a b) (hn : ¬ a = b) : a < b ∧ ok a ∧ (0 ≤ L 488 a ∧ 0 ≤ L 489 a) ∧
      a + 1 + L 488 a + L 489 a ≤ b ∧ ((L 480 a = 7 ∨ L 480 a = 8) ∨ (L 488 a = 0 ∧ L 489 a = 0)) ∧ (L 480 a = 8 → L 489 a = 0) ∧ ((0 < L 488 a ∨ 0 < L 489 a) → lv < mx) ∧
      xSegE L ok mx (lv + 1) (a + 1) (a + 1 + L 488 a) ∧ xSegE L ok mx (lv + 1) (a + 1 + L 488 a) (a + 1 + L 488 a + L 489 a) ∧ xSegE L ok mx lv (a + 1 + L 488 a + L 489 a) b := by
  obtain ⟨n, h⟩ := h
  cases n with
  | zero => exact absurd h hn
  | succ n =>
    obtain h | ⟨h1, h2, h2', h3, h4, h5, h6, h7, h8, h9⟩ := h
    · exact absurd h hn
    · exact ⟨h1, h2, h2', h3, h4, h5, h6, ⟨n, h7⟩, ⟨n, h8⟩, ⟨n, h9⟩⟩
theorem xSegE_le {L : Nat → Int → Int} {ok : Int → Prop} {mx lv a b : Int} (h : xSegE L ok mx lv a b) : a ≤ b := by
  by_cases e : a = b
  · omega
  · have := (xSegE_inv h e).1; omega
/-- how deep blocks are, by frame -/
def xmx (mx0 j : Int) : Int := if j = 0 then mx0 else 5
def xInv (L : Nat → Int → Int) (ok : Int → Int → Int → Prop) (V0 mx0 fs : Int) (RB BS FC rAt rEnd rLine bFirst bLeft bEnd bBehind D : Int → Int) : Prop :=
  (0 ≤ fs ∧ fs ≤ 23 ∧ RB 0 = 0 ∧ BS 0 = 0) ∧
  (∀ j : Int, 0 ≤ j → j ≤ fs → RB j ≤ RB (j + 1) ∧ RB (j + 1) - RB j ≤ xmx mx0 j ∧ BS j ≤ BS (j + 1) ∧ BS (j + 1) ≤ V0 + 8 * j ∧ RB (j + 1) ≤ mx0 + 5 * j ∧
    (RB j < RB (j + 1) → FC j = bEnd (RB (j + 1) - 1)) ∧ (RB j = RB (j + 1) → FC j = rEnd j) ∧ FC j ≤ rEnd j ∧ xSegE L (ok j (BS (j + 1) - BS j)) (xmx mx0 j) (RB (j + 1) - RB j) (rAt j) (FC j)) ∧
  (∀ j : Int, 0 ≤ j → j < fs → rAt j = rLine (j + 1) + 1 ∧ 0 ≤ rLine (j + 1) ∧ rLine (j + 1) < 520 ∧ 0 ≤ L 481 (rLine (j + 1)) ∧ BS j + L 481 (rLine (j + 1)) < BS (j + 1) ∧ ok j (BS (j + 1) - BS j) (rLine (j + 1))) ∧
  (∀ j i : Int, 0 ≤ j → j ≤ fs → RB j ≤ i → i < RB (j + 1) → bFirst i < bEnd i ∧ 0 ≤ bLeft i ∧ bLeft i < 2147483648 ∧ (RB j < i → D i = bEnd (i - 1)) ∧ (RB j = i → D i = rEnd j) ∧ (bEnd i ≤ D i ∧ D i ≤ rEnd j) ∧
    xSegE L (ok j (BS (j + 1) - BS j)) (xmx mx0 j) (i - RB j + 1) (bFirst i) (bEnd i) ∧ xSegE L (ok j (BS (j + 1) - BS j)) (xmx mx0 j) (i - RB j) (bBehind i) (D i))
section
variable {L : Nat → Int → Int} {ok : Int → Int → Int → Prop} {V0 mx0 fs : Int} {RB BS FC rAt rEnd rLine bFirst bLeft bEnd bBehind D : Int → Int}
/-- the place moves on in its segment -/
theorem xInv_go (h : xInv L ok V0 mx0 fs RB BS FC rAt rEnd rLine bFirst bLeft bEnd bBehind D) {a : Int} (ha : xSegE L (ok fs (BS (fs + 1) - BS fs)) (xmx mx0 fs) (RB (fs + 1) - RB fs) a (FC fs)) :
    xInv L ok V0 mx0 fs RB BS FC (zs rAt fs a) rEnd rLine bFirst bLeft bEnd bBehind D := by
  obtain ⟨h1, h2, h3, h4⟩ := h
  refine ⟨h1, fun j a0 a1 => ?_, fun j a0 a1 => ?_, h4⟩
  · obtain ⟨b1, b2, b3, b4, b5, b6, b7, bx, b8⟩ := h2 j a0 a1
    refine ⟨b1, b2, b3, b4, b5, b6, b7, bx, ?_⟩
    by_cases e : j = fs
    · subst e; rw [zs_pos rfl]; exact ha
    · rw [zs_neg e]; exact b8
  · rw [zs_neg (by omega)]; exact h3 j a0 a1
/-- a block is opened -/
theorem xInv_push (h : xInv L ok V0 mx0 fs RB BS FC rAt rEnd rLine bFirst bLeft bEnd bBehind D) {a b l c : Int} (hlv : RB (fs + 1) - RB fs < xmx mx0 fs) (hm : RB (fs + 1) + 1 ≤ mx0 + 5 * fs) (hab : a < b) (hbc : b ≤ c) (hl : 0 ≤ l ∧ l < 2147483648)
    (ha : xSegE L (ok fs (BS (fs + 1) - BS fs)) (xmx mx0 fs) (RB (fs + 1) - RB fs + 1) a b) (hc : xSegE L (ok fs (BS (fs + 1) - BS fs)) (xmx mx0 fs) (RB (fs + 1) - RB fs) c (FC fs)) :
    xInv L ok V0 mx0 fs (zs RB (fs + 1) (RB (fs + 1) + 1)) BS (zs FC fs b) (zs rAt fs a) rEnd rLine (zs bFirst (RB (fs + 1)) a) (zs bLeft (RB (fs + 1)) l) (zs bEnd (RB (fs + 1)) b) (zs bBehind (RB (fs + 1)) c) (zs D (RB (fs + 1)) (FC fs)) := by
  obtain ⟨h1, h2, h3, h4⟩ := h
  have hmono : ∀ n : Nat, ∀ j : Int, 0 ≤ j → j + n = fs + 1 → RB j ≤ RB (fs + 1) := by
    intro n
    induction n with
    | zero => intro j _ e; rw [show j = fs + 1 by omega]; exact Int.le_refl _
    | succ n ih => intro j a0 e; have := ih (j + 1) (by omega) (by omega); have := (h2 j a0 (by omega)).1; omega
  have hle : ∀ j : Int, 0 ≤ j → j ≤ fs → RB (j + 1) ≤ RB (fs + 1) := fun j a0 a1 => hmono (fs - j).toNat (j + 1) (by omega) (by omega)
  refine ⟨⟨h1.1, h1.2.1, by rw [zs_neg (by omega)]; exact h1.2.2.1, h1.2.2.2⟩, fun j a0 a1 => ?_, fun j a0 a1 => ?_, fun j i a0 a1 a2 a3 => ?_⟩
  · obtain ⟨b1, b2, b3, b4, b5, b6, b7, bx, b8⟩ := h2 j a0 a1
    have hj := hle j a0 a1
    by_cases e : j = fs
    · subst e
      rw [zs_neg (by omega : ¬ j = j + 1), zs_pos (rfl : j + 1 = j + 1), zs_pos (rfl : j = j), zs_pos (rfl : j = j)]
      have hcF := xSegE_le hc
      refine ⟨by omega, by omega, b3, b4, by omega, fun _ => ?_, fun q => by omega, by omega, ?_⟩
      · rw [zs_pos (by omega)]
      · rw [show RB (j + 1) + 1 - RB j = RB (j + 1) - RB j + 1 by omega]; exact ha
    · rw [zs_neg (by omega : ¬ j = fs + 1), zs_neg (by omega : ¬ j + 1 = fs + 1), zs_neg e, zs_neg e]
      refine ⟨b1, b2, b3, b4, b5, fun q => ?_, b7, bx, b8⟩
      rw [zs_neg (by omega)]; exact b6 q
  · rw [zs_neg (by omega : ¬ j = fs)]; exact h3 j a0 a1
  · by_cases e : j = fs
    · subst e
      rw [zs_neg (by omega : ¬ j = j + 1)] at a2
      rw [zs_pos (rfl : j + 1 = j + 1)] at a3
      rw [zs_neg (by omega : ¬ j = j + 1)]
      by_cases ei : i = RB (j + 1)
      · subst ei
        rw [zs_pos (rfl : RB (j + 1) = RB (j + 1)), zs_pos (rfl : RB (j + 1) = RB (j + 1)), zs_pos (rfl : RB (j + 1) = RB (j + 1)), zs_pos (rfl : RB (j + 1) = RB (j + 1)), zs_pos (rfl : RB (j + 1) = RB (j + 1))]
        obtain ⟨b1, b2, b3, b4, b5, b6, b7, bx, b8⟩ := h2 j a0 a1
        have hcF := xSegE_le hc
        refine ⟨hab, hl.1, hl.2, fun q => ?_, fun q => b7 q, ⟨by omega, bx⟩, ha, hc⟩
        rw [zs_neg (by omega)]; exact b6 q
      · rw [zs_neg ei, zs_neg ei, zs_neg ei, zs_neg ei, zs_neg ei]
        obtain ⟨b1, b2, b3, b4, b5, bx, b6, b7⟩ := h4 j i a0 a1 a2 (by omega)
        refine ⟨b1, b2, b3, fun q => ?_, b5, bx, b6, b7⟩
        rw [zs_neg (by omega)]; exact b4 q
    · rw [zs_neg (by omega : ¬ j = fs + 1)] at a2
      rw [zs_neg (by omega : ¬ j + 1 = fs + 1)] at a3
      have hj := hle j a0 a1
      rw [zs_neg (by omega : ¬ j = fs + 1)]
      rw [zs_neg (by omega : ¬ i = RB (fs + 1)), zs_neg (by omega : ¬ i = RB (fs + 1)), zs_neg (by omega : ¬ i = RB (fs + 1)), zs_neg (by omega : ¬ i = RB (fs + 1)), zs_neg (by omega : ¬ i = RB (fs + 1))]
      obtain ⟨b1, b2, b3, b4, b5, bx, b6, b7⟩ := h4 j i a0 a1 a2 a3
      refine ⟨b1, b2, b3, fun q => ?_, b5, bx, b6, b7⟩
      rw [zs_neg (by omega)]; exact b4 q
theorem xInv_mono (h : xInv L ok V0 mx0 fs RB BS FC rAt rEnd rLine bFirst bLeft bEnd bBehind D) {j : Int} (a0 : 0 ≤ j) (a1 : j ≤ fs) : RB (j + 1) ≤ RB (fs + 1) ∧ BS (j + 1) ≤ BS (fs + 1) := by
  obtain ⟨h1, h2, h3, h4⟩ := h
  have hmono : ∀ n : Nat, ∀ j : Int, 0 ≤ j → j + n = fs + 1 → RB j ≤ RB (fs + 1) ∧ BS j ≤ BS (fs + 1) := by
    intro n
    induction n with
    | zero => intro j _ e; rw [show j = fs + 1 by omega]; exact ⟨Int.le_refl _, Int.le_refl _⟩
    | succ n ih => intro j a0 e; have := ih (j + 1) (by omega) (by omega); have := (h2 j a0 (by omega)); omega
  exact hmono (fs - j).toNat (j + 1) (by omega) (by omega)
/-- another turn of the block on top -/
theorem xInv_again (h : xInv L ok V0 mx0 fs RB BS FC rAt rEnd rLine bFirst bLeft bEnd bBehind D) {l : Int} (ho : RB fs < RB (fs + 1)) (hl : 0 ≤ l ∧ l < 2147483648) :
    xInv L ok V0 mx0 fs RB BS FC (zs rAt fs (bFirst (RB (fs + 1) - 1))) rEnd rLine bFirst (zs bLeft (RB (fs + 1) - 1) l) bEnd bBehind D := by
  obtain ⟨h1, h2, h3, h4⟩ := h
  refine ⟨h1, fun j a0 a1 => ?_, fun j a0 a1 => ?_, fun j i a0 a1 a2 a3 => ?_⟩
  · obtain ⟨b1, b2, b3, b4, b5, b6, b7, bx, b8⟩ := h2 j a0 a1
    refine ⟨b1, b2, b3, b4, b5, b6, b7, bx, ?_⟩
    by_cases e : j = fs
    · subst e; rw [zs_pos rfl, b6 ho]
      have q := (h4 j (RB (j + 1) - 1) a0 a1 (by omega) (by omega)).2.2.2.2.2.2.1
      rw [show RB (j + 1) - 1 - RB j + 1 = RB (j + 1) - RB j by omega] at q
      exact q
    · rw [zs_neg e]; exact b8
  · rw [zs_neg (by omega)]; exact h3 j a0 a1
  · obtain ⟨b1, b2, b3, b4, b5, bx, b6, b7⟩ := h4 j i a0 a1 a2 a3
    refine ⟨b1, ?_, ?_, b4, b5, bx, b6, b7⟩ <;> (unfold zs; split <;> omega)
/-- the block on top is left -/
theorem xInv_pop (h : xInv L ok V0 mx0 fs RB BS FC rAt rEnd rLine bFirst bLeft bEnd bBehind D) (ho : RB fs < RB (fs + 1)) :
    xInv L ok V0 mx0 fs (zs RB (fs + 1) (RB (fs + 1) - 1)) BS (zs FC fs (D (RB (fs + 1) - 1))) (zs rAt fs (bBehind (RB (fs + 1) - 1))) rEnd rLine bFirst bLeft bEnd bBehind D := by
  have hM := fun j a0 a1 => (xInv_mono h (j := j) a0 a1).1
  obtain ⟨h1, h2, h3, h4⟩ := h
  refine ⟨⟨h1.1, h1.2.1, by rw [zs_neg (by omega)]; exact h1.2.2.1, h1.2.2.2⟩, fun j a0 a1 => ?_, fun j a0 a1 => ?_, fun j i a0 a1 a2 a3 => ?_⟩
  · obtain ⟨b1, b2, b3, b4, b5, b6, b7, bx, b8⟩ := h2 j a0 a1
    by_cases e : j = fs
    · subst e
      rw [zs_neg (by omega : ¬ j = j + 1), zs_pos (rfl : j + 1 = j + 1), zs_pos (rfl : j = j), zs_pos (rfl : j = j)]
      obtain ⟨q1, q2, q3, q4, q5, qx, q6, q7⟩ := h4 j (RB (j + 1) - 1) a0 a1 (by omega) (by omega)
      refine ⟨by omega, by omega, b3, b4, by omega, fun q => q4 q, fun q => q5 q, qx.2, ?_⟩
      rw [show RB (j + 1) - 1 - RB j = RB (j + 1) - 1 - RB j by rfl]; exact q7
    · rw [zs_neg (by omega : ¬ j = fs + 1), zs_neg (by omega : ¬ j + 1 = fs + 1), zs_neg e, zs_neg e]
      exact ⟨b1, b2, b3, b4, b5, b6, b7, bx, b8⟩
  · rw [zs_neg (by omega : ¬ j = fs)]; exact h3 j a0 a1
  · by_cases e : j = fs
    · subst e
      rw [zs_neg (by omega : ¬ j = j + 1)] at a2
      rw [zs_pos (rfl : j + 1 = j + 1)] at a3
      rw [zs_neg (by omega : ¬ j = j + 1)]
      exact h4 j i a0 a1 a2 (by omega)
    · rw [zs_neg (by omega : ¬ j = fs + 1)] at a2
      rw [zs_neg (by omega : ¬ j + 1 = fs + 1)] at a3
      rw [zs_neg (by omega : ¬ j = fs + 1)]
      exact h4 j i a0 a1 a2 a3
/-- the function on top is left -/
theorem xInv_leave (h : xInv L ok V0 mx0 fs RB BS FC rAt rEnd rLine bFirst bLeft bEnd bBehind D) (hf : 0 < fs) :
    xInv L ok V0 mx0 (fs - 1) RB BS FC rAt rEnd rLine bFirst bLeft bEnd bBehind D := by
  obtain ⟨h1, h2, h3, h4⟩ := h
  exact ⟨⟨by omega, by omega, h1.2.2⟩, fun j a0 a1 => h2 j a0 (by omega), fun j a0 a1 => h3 j a0 (by omega), fun j i a0 a1 => h4 j i a0 (by omega)⟩
/-- a function is entered from line l -/
theorem xInv_call (h : xInv L ok V0 mx0 fs RB BS FC rAt rEnd rLine bFirst bLeft bEnd bBehind D) {l a b v : Int} (hf : fs < 23) (hal : rAt fs = l + 1) (hl : 0 ≤ l ∧ l < 520 ∧ 0 ≤ L 481 l ∧ BS fs + L 481 l < BS (fs + 1) ∧ ok fs (BS (fs + 1) - BS fs) l) (hv : 0 ≤ v ∧ v ≤ 8) (ha : xSegE L (ok (fs + 1) v) 5 0 a b) :
    xInv L ok V0 mx0 (fs + 1) (zs RB (fs + 2) (RB (fs + 1))) (zs BS (fs + 2) (BS (fs + 1) + v)) (zs FC (fs + 1) b) (zs rAt (fs + 1) a) (zs rEnd (fs + 1) b) (zs rLine (fs + 1) l) bFirst bLeft bEnd bBehind D := by
  obtain ⟨h1, h2, h3, h4⟩ := h
  have hz : ∀ (f : Int → Int) (v j : Int), j ≤ fs + 1 → zs f (fs + 2) v j = f j := fun f v j q => zs_neg (by omega)
  refine ⟨⟨by omega, by omega, by rw [hz _ _ _ (by omega)]; exact h1.2.2.1, by rw [hz _ _ _ (by omega)]; exact h1.2.2.2⟩, fun j a0 a1 => ?_, fun j a0 a1 => ?_, fun j i a0 a1 a2 a3 => ?_⟩
  · by_cases e : j = fs + 1
    · subst e
      obtain ⟨b1, b2, b3, b4, b5, b6, b7, bx, b8⟩ := h2 fs (by omega) (by omega)
      rw [show fs + 1 + 1 = fs + 2 by omega, zs_pos (f := RB) rfl, zs_pos (f := BS) rfl, zs_neg (f := RB) (by omega : ¬ fs + 1 = fs + 2), zs_neg (f := BS) (by omega : ¬ fs + 1 = fs + 2), zs_pos (f := FC) rfl, zs_pos (f := rAt) rfl, zs_pos (f := rEnd) rfl, show xmx mx0 (fs + 1) = 5 from if_neg (by omega)]
      refine ⟨by omega, by omega, by omega, by omega, by omega, fun q => by omega, fun _ => rfl, Int.le_refl _, ?_⟩
      rw [show BS (fs + 1) + v - BS (fs + 1) = v by omega, show RB (fs + 1) - RB (fs + 1) = 0 by omega]
      exact ha
    · rw [hz _ _ _ (by omega), hz _ _ _ (by omega), hz _ _ _ (by omega), hz _ _ _ (by omega), zs_neg e, zs_neg e, zs_neg e]
      exact h2 j a0 (by omega)
  · by_cases e : j = fs
    · subst e
      rw [zs_neg (by omega : ¬ j = j + 1), zs_pos (rfl : j + 1 = j + 1), hz _ _ _ (by omega), hz _ _ _ (by omega)]
      exact ⟨hal, hl⟩
    · rw [zs_neg (by omega : ¬ j = fs + 1), zs_neg (by omega : ¬ j + 1 = fs + 1), hz _ _ _ (by omega), hz _ _ _ (by omega)]
      exact h3 j a0 (by omega)
  · by_cases e : j = fs + 1
    · subst e
      rw [hz _ _ _ (by omega)] at a2
      rw [show fs + 1 + 1 = fs + 2 by omega, zs_pos rfl] at a3
      omega
    · rw [hz _ _ _ (by omega)] at a2 a3
      rw [hz _ _ _ (by omega), hz _ _ _ (by omega), hz _ _ _ (by omega), zs_neg e]
      exact h4 j i a0 (by omega) a2 a3
end
