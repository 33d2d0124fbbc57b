/-! One call on fresh objects -/
theorem p1_first {L : Nat} {xs : Nat → Int32} {d : Nat} (hL6 : L = 6) : WP (d + 20) 0 550 193353 18 [some (vR 1), some (vR 16), some (vR 467), some (vI 0)] [] (zS zP1 (zM1 L xs)) (fun _ r => r = some (vI 1)) := by
  have hL : zM1 L xs 1 (-1) = (L : Int) := rfl
  have hr : ∀ j : Int, 0 ≤ j → in32 (zM1 L xs 1 j) := fun j hj => by
    have q := sk_int (L := L) (xs := xs) 1 j hj
    have h14 : zty 1 j = 0 := by unfold zty; rw [show (zshp 1).1 = 14 by decide +kernel]; rfl
    rw [h14] at q
    exact q
  have hl : ∀ (P2 : Nat → Nat → Nat) (M2 : Nat → Int → Int), M2 1 = zM1 L xs 1 → True → WP (d + 20) 0 550 193353 18 [some (vR 1), some (vR 16), some (vR 467), some (vI (w32 (0 + 6)))] [] (zS P2 M2) (fun _ r => r = some (vI 1)) := fun P2 M2 e _ => by
    refine law_exit ?_ rfl
    rw [e, hL, hL6]
    decide
  obtain ⟨a, b⟩ := zand31 (zM1 L xs 1 0)
  by_cases h24 : zand (zM1 L xs 1 0) 31 < 24
  · obtain e | e | e | e | e | e | e | e | e | e | e | e | e | e | e | e | e | e | e | e | e | e | e | e : zand (zM1 L xs 1 0) 31 = 0 ∨ zand (zM1 L xs 1 0) 31 = 1 ∨ zand (zM1 L xs 1 0) 31 = 2 ∨ zand (zM1 L xs 1 0) 31 = 3 ∨ zand (zM1 L xs 1 0) 31 = 4 ∨ zand (zM1 L xs 1 0) 31 = 5 ∨ zand (zM1 L xs 1 0) 31 = 6 ∨ zand (zM1 L xs 1 0) 31 = 7 ∨ zand (zM1 L xs 1 0) 31 = 8 ∨ zand (zM1 L xs 1 0) 31 = 9 ∨ zand (zM1 L xs 1 0) 31 = 10 ∨ zand (zM1 L xs 1 0) 31 = 11 ∨ zand (zM1 L xs 1 0) 31 = 12 ∨ zand (zM1 L xs 1 0) 31 = 13 ∨ zand (zM1 L xs 1 0) 31 = 14 ∨ zand (zM1 L xs 1 0) 31 = 15 ∨ zand (zM1 L xs 1 0) 31 = 16 ∨ zand (zM1 L xs 1 0) 31 = 17 ∨ zand (zM1 L xs 1 0) 31 = 18 ∨ zand (zM1 L xs 1 0) 31 = 19 ∨ zand (zM1 L xs 1 0) 31 = 20 ∨ zand (zM1 L xs 1 0) 31 = 21 ∨ zand (zM1 L xs 1 0) 31 = 22 ∨ zand (zM1 L xs 1 0) 31 = 23 := by omega
    · exact law_0 (I := (fun P M => P = zP1 ∧ M = zM1 L xs)) (J := (fun _ _ => True)) pp_0 ⟨rfl, rfl⟩ hL (by omega) (by decide) (by omega) hr e hl
    · exact law_1 (I := (fun P M => P = zP1 ∧ M = zM1 L xs)) (J := (fun _ _ => True)) pp_1 ⟨rfl, rfl⟩ hL (by omega) (by decide) (by omega) hr e hl
    · exact law_2 (I := (fun P M => P = zP1 ∧ M = zM1 L xs)) (J := (fun _ _ => True)) pp_2 ⟨rfl, rfl⟩ hL (by omega) (by decide) (by omega) hr e hl
    · exact law_3 (I := (fun P M => P = zP1 ∧ M = zM1 L xs)) (J := (fun _ _ => True)) pp_3 ⟨rfl, rfl⟩ hL (by omega) (by decide) (by omega) hr e hl
    · exact law_4 (I := (fun P M => P = zP1 ∧ M = zM1 L xs)) (J := (fun _ _ => True)) pp_4 ⟨rfl, rfl⟩ hL (by omega) (by decide) (by omega) hr e hl
    · exact law_5 (I := (fun P M => P = zP1 ∧ M = zM1 L xs)) (J := (fun _ _ => True)) pp_5 ⟨rfl, rfl⟩ hL (by omega) (by decide) (by omega) hr e hl
    · exact law_6 (I := (fun P M => P = zP1 ∧ M = zM1 L xs)) (J := (fun _ _ => True)) pp_6 ⟨rfl, rfl⟩ hL (by omega) (by decide) (by omega) hr e hl
    · exact law_7 (I := (fun P M => P = zP1 ∧ M = zM1 L xs)) (J := (fun _ _ => True)) pp_7 ⟨rfl, rfl⟩ hL (by omega) (by decide) (by omega) hr e hl
    · exact law_8 (I := (fun P M => P = zP1 ∧ M = zM1 L xs)) (J := (fun _ _ => True)) pp_8 ⟨rfl, rfl⟩ hL (by omega) (by decide) (by omega) hr e hl
    · exact law_9 (I := (fun P M => P = zP1 ∧ M = zM1 L xs)) (J := (fun _ _ => True)) pp_9 ⟨rfl, rfl⟩ hL (by omega) (by decide) (by omega) hr e hl
    · exact law_10 (I := (fun P M => P = zP1 ∧ M = zM1 L xs)) (J := (fun _ _ => True)) pp_10 ⟨rfl, rfl⟩ hL (by omega) (by decide) (by omega) hr e hl
    · exact law_11 (I := (fun P M => P = zP1 ∧ M = zM1 L xs)) (J := (fun _ _ => True)) pp_11 ⟨rfl, rfl⟩ hL (by omega) (by decide) (by omega) hr e hl
    · exact law_12 (I := (fun P M => P = zP1 ∧ M = zM1 L xs)) (J := (fun _ _ => True)) pp_12 ⟨rfl, rfl⟩ hL (by omega) (by decide) (by omega) hr e hl
    · exact law_13 (I := (fun P M => P = zP1 ∧ M = zM1 L xs)) (J := (fun _ _ => True)) pp_13 ⟨rfl, rfl⟩ hL (by omega) (by decide) (by omega) hr e hl
    · exact law_14 (I := (fun P M => P = zP1 ∧ M = zM1 L xs)) (J := (fun _ _ => True)) pp_14 ⟨rfl, rfl⟩ hL (by omega) (by decide) (by omega) hr e hl
    · exact law_15 (I := (fun P M => P = zP1 ∧ M = zM1 L xs)) (J := (fun _ _ => True)) pp_15 ⟨rfl, rfl⟩ hL (by omega) (by decide) (by omega) hr e hl
    · exact law_16 (I := (fun P M => P = zP1 ∧ M = zM1 L xs)) (J := (fun _ _ => True)) pp_16 ⟨rfl, rfl⟩ hL (by omega) (by decide) (by omega) hr e hl
    · exact law_17 (I := (fun P M => P = zP1 ∧ M = zM1 L xs)) (J := (fun _ _ => True)) pp_17 ⟨rfl, rfl⟩ hL (by omega) (by decide) (by omega) hr e hl
    · exact law_18 (I := (fun P M => P = zP1 ∧ M = zM1 L xs)) (J := (fun _ _ => True)) pp_18 ⟨rfl, rfl⟩ hL (by omega) (by decide) (by omega) hr e hl
    · exact law_19 (I := (fun P M => P = zP1 ∧ M = zM1 L xs)) (J := (fun _ _ => True)) pp_19 ⟨rfl, rfl⟩ hL (by omega) (by decide) (by omega) hr e hl
    · exact law_20 (I := (fun P M => P = zP1 ∧ M = zM1 L xs)) (J := (fun _ _ => True)) pp_20 ⟨rfl, rfl⟩ hL (by omega) (by decide) (by omega) hr e hl
    · exact law_21 (I := (fun P M => P = zP1 ∧ M = zM1 L xs)) (J := (fun _ _ => True)) pp_21 ⟨rfl, rfl⟩ hL (by omega) (by decide) (by omega) hr e hl
    · exact law_22 (I := (fun P M => P = zP1 ∧ M = zM1 L xs)) (J := (fun _ _ => True)) pp_22 ⟨rfl, rfl⟩ hL (by omega) (by decide) (by omega) hr e hl
    · exact law_23 (I := (fun P M => P = zP1 ∧ M = zM1 L xs)) (J := (fun _ _ => True)) pp_23 ⟨rfl, rfl⟩ hL (by omega) (by decide) (by omega) hr e hl
  · exact law_dflt hL (by omega) (by decide) (by omega) (fun k _ hk e => by omega) (hl _ _ rfl trivial)
theorem owed6 : zOwed 6 := by
  intro L xs hL
  refine law_start (d := 997) ?_
  by_cases h6 : L = 6
  · exact p1_first (d := 980) h6
  · refine law_exit ?_ rfl
    show w32 ((L : Int) - 6) < 0
    rw [w32_id (by unfold in32; omega)]
    omega
