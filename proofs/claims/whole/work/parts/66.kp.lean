/-! What is kept of trees, through the other calls -/
theorem tHold_fr_33 {M A : Nat → Int → Int} {f : Int} (l : ∀ c : Nat, kCell c = true → A c = M c) (h : tHold 33 M f) : tHold 33 A f := by
  obtain ⟨c0, c1, c2, c3, c4, c5, c6, c7, c8, c9, c10, c11, c12, c13, c14, hc, hh, hr⟩ := h
  have lz : ∀ i : Int, 0 ≤ i ∧ i < 320 → A (zcall i) = M (zcall i) := fun i hi => l _ (by have z := zcall_in hi; unfold kCell; simp; omega)
  refine ⟨c0, c1, c2, c3, c4, c5, c6, c7, c8, c9, c10, c11, c12, c13, c14, ?_, ?_, ?_⟩
  · obtain ⟨h0, h1, h2, h3, h4, h5, h6, h7, h8, h9, h10, h11, h12, h13, h14⟩ := hc
    exact ⟨fun i hi => by rw [lz i hi]; exact h0 i hi, fun i hi => by rw [lz i hi]; exact h1 i hi, fun i hi => by rw [lz i hi]; exact h2 i hi, fun i hi => by rw [lz i hi]; exact h3 i hi, fun i hi => by rw [lz i hi]; exact h4 i hi, fun i hi => by rw [lz i hi]; exact h5 i hi, fun i hi => by rw [lz i hi]; exact h6 i hi, fun i hi => by rw [lz i hi]; exact h7 i hi, fun i hi => by rw [lz i hi]; exact h8 i hi, fun i hi => by rw [lz i hi]; exact h9 i hi, fun i hi => by rw [lz i hi]; exact h10 i hi, fun i hi => by rw [lz i hi]; exact h11 i hi, fun i hi => by rw [lz i hi]; exact h12 i hi, fun i hi => by rw [lz i hi]; exact h13 i hi, fun i hi => by rw [lz i hi]; exact h14 i hi⟩
  · rw [l (33 + 7) rfl, l (33 + 8) rfl, l (33 + 12) rfl, l (33 + 10) rfl, l (33 + 4) rfl, l (33 + 14) rfl, l 22 rfl, l 23 rfl, l 120 rfl, l 118 rfl, l 119 rfl, l 116 rfl, l (33 + 6) rfl, l 33 rfl]
    exact hh
  · rw [l 120 rfl, l 19 rfl]; exact hr
theorem KT_fr_33 {M A : Nat → Int → Int} (t : FrT M A) (f : FrP M A) (h : KT 33 M) : KT 33 A := by
  refine ⟨ipx_fr33 f h.1, ?_⟩
  rw [t.1.1, t.2 33 rfl]
  rcases h.2 with z | ⟨z1, z2, z3⟩
  · exact Or.inl z
  · exact Or.inr ⟨z1, z2, tHold_fr_33 t.2 z3⟩
theorem tHold_fr_62 {M A : Nat → Int → Int} {f : Int} (l : ∀ c : Nat, kCell c = true → A c = M c) (h : tHold 62 M f) : tHold 62 A f := by
  obtain ⟨c0, c1, c2, c3, c4, c5, c6, c7, c8, c9, c10, c11, c12, c13, c14, hc, hh, hr⟩ := h
  have lz : ∀ i : Int, 0 ≤ i ∧ i < 320 → A (zcall i) = M (zcall i) := fun i hi => l _ (by have z := zcall_in hi; unfold kCell; simp; omega)
  refine ⟨c0, c1, c2, c3, c4, c5, c6, c7, c8, c9, c10, c11, c12, c13, c14, ?_, ?_, ?_⟩
  · obtain ⟨h0, h1, h2, h3, h4, h5, h6, h7, h8, h9, h10, h11, h12, h13, h14⟩ := hc
    exact ⟨fun i hi => by rw [lz i hi]; exact h0 i hi, fun i hi => by rw [lz i hi]; exact h1 i hi, fun i hi => by rw [lz i hi]; exact h2 i hi, fun i hi => by rw [lz i hi]; exact h3 i hi, fun i hi => by rw [lz i hi]; exact h4 i hi, fun i hi => by rw [lz i hi]; exact h5 i hi, fun i hi => by rw [lz i hi]; exact h6 i hi, fun i hi => by rw [lz i hi]; exact h7 i hi, fun i hi => by rw [lz i hi]; exact h8 i hi, fun i hi => by rw [lz i hi]; exact h9 i hi, fun i hi => by rw [lz i hi]; exact h10 i hi, fun i hi => by rw [lz i hi]; exact h11 i hi, fun i hi => by rw [lz i hi]; exact h12 i hi, fun i hi => by rw [lz i hi]; exact h13 i hi, fun i hi => by rw [lz i hi]; exact h14 i hi⟩
  · rw [l (62 + 7) rfl, l (62 + 8) rfl, l (62 + 12) rfl, l (62 + 10) rfl, l (62 + 4) rfl, l (62 + 14) rfl, l 22 rfl, l 23 rfl, l 120 rfl, l 118 rfl, l 119 rfl, l 116 rfl, l (62 + 6) rfl, l 62 rfl]
    exact hh
  · rw [l 120 rfl, l 19 rfl]; exact hr
theorem KT_fr_62 {M A : Nat → Int → Int} (t : FrT M A) (f : FrP M A) (h : KT 62 M) : KT 62 A := by
  refine ⟨ipx_fr62 f h.1, ?_⟩
  rw [t.1.1, t.2 62 rfl]
  rcases h.2 with z | ⟨z1, z2, z3⟩
  · exact Or.inl z
  · exact Or.inr ⟨z1, z2, tHold_fr_62 t.2 z3⟩
theorem KP_f (P P' : Nat → Nat → Nat) (M A : Nat → Int → Int) (h : KP P M) (t : FrT M A) (f : FrP M A) (e : P' 16 11 = P 16 11) : KP P' A :=
  ⟨fun z => KT_fr_33 t f (h.1 (e.symm.trans z)), fun z => KT_fr_62 t f (h.2 (e.symm.trans z))⟩
theorem KP_o (P P' : Nat → Nat → Nat) (M A : Nat → Int → Int) (h : KP P M) (f : FrP M A) (e : P' 16 11 = P 16 11) (h14 : A 16 14 = -1) : KP P' A :=
  ⟨fun z => ⟨ipx_fr33 f (h.1 (e.symm.trans z)).1, Or.inl h14⟩, fun z => ⟨ipx_fr62 f (h.2 (e.symm.trans z)).1, Or.inl h14⟩⟩
theorem ipx_sw_33 {M A : Nat → Int → Int} {a0 a1 : Int} (hS : M 33 1 = M 471 (M 467 11)) (ha : 0 ≤ a0 ∧ a0 < M 469 (M 467 11)) (hb : 0 ≤ a1 ∧ a1 < M 469 (M 467 11)) (h : ipx 33 M) (s : swR 33 M A a0 a1) : ipx 33 A := by
  have sw := s
  obtain ⟨s1, s2, s3, s4, s5, s6, s7, s8, s9, s10, ⟨s11, s12⟩, ⟨s13, s14⟩, E⟩ := s
  obtain ⟨x1, x2, x3, x4⟩ := h
  unfold ipx
  rw [s14, s13, s7, s8, s10, E 469 rfl, E 471 rfl, E 474 rfl, E 476 rfl, E 477 rfl, E 478 rfl, E 479 rfl, E 485 rfl, E 492 rfl, E 497 rfl, E (33 + 14) rfl]
  refine ⟨fun f f0 f1 => ⟨zx_comp (F := fun z => M 477 (8 * M 467 11 + z)) ha hb (fun k k0 k1 => (x1 k k0 k1).1) f f0 f1, zx_comp (F := fun z => M 478 (8 * M 467 11 + z)) ha hb (fun k k0 k1 => (x1 k k0 k1).2.1) f f0 f1, zx_comp (F := fun z => M 476 (8 * M 467 11 + z) - M 479 (8 * M 467 11 + z) + M 474 (8 * M 467 11 + z)) ha hb (fun k k0 k1 => (x1 k k0 k1).2.2) f f0 f1⟩, fun g g0 g1 => ?_, x3, ipy_sw_33 hS ha hb x4 sw⟩
  obtain ⟨y1, y2, y3, f, f0, f1, e⟩ := x2 g g0 g1
  refine ⟨y1, y2, y3, ?_⟩
  by_cases e0 : f = a0
  · exact ⟨a1, hb.1, hb.2, by rw [← e, e0]; exact zs_pos rfl⟩
  · by_cases e1 : f = a1
    · refine ⟨a0, ha.1, ha.2, ?_⟩
      rw [← e, e1]
      by_cases e2 : a0 = a1
      · rw [e2]; exact zs_pos rfl
      · exact (zs_neg e2).trans (zs_pos rfl)
    · exact ⟨f, f0, f1, by rw [← e]; exact (zs_neg e1).trans (zs_neg e0)⟩
theorem ipx_sw_62 {M A : Nat → Int → Int} {a0 a1 : Int} (hS : M 62 1 = M 471 (M 467 11)) (ha : 0 ≤ a0 ∧ a0 < M 469 (M 467 11)) (hb : 0 ≤ a1 ∧ a1 < M 469 (M 467 11)) (h : ipx 62 M) (s : swR 62 M A a0 a1) : ipx 62 A := by
  have sw := s
  obtain ⟨s1, s2, s3, s4, s5, s6, s7, s8, s9, s10, ⟨s11, s12⟩, ⟨s13, s14⟩, E⟩ := s
  obtain ⟨x1, x2, x3, x4⟩ := h
  unfold ipx
  rw [s14, s13, s7, s8, s10, E 469 rfl, E 471 rfl, E 474 rfl, E 476 rfl, E 477 rfl, E 478 rfl, E 479 rfl, E 485 rfl, E 492 rfl, E 497 rfl, E (62 + 14) rfl]
  refine ⟨fun f f0 f1 => ⟨zx_comp (F := fun z => M 477 (8 * M 467 11 + z)) ha hb (fun k k0 k1 => (x1 k k0 k1).1) f f0 f1, zx_comp (F := fun z => M 478 (8 * M 467 11 + z)) ha hb (fun k k0 k1 => (x1 k k0 k1).2.1) f f0 f1, zx_comp (F := fun z => M 476 (8 * M 467 11 + z) - M 479 (8 * M 467 11 + z) + M 474 (8 * M 467 11 + z)) ha hb (fun k k0 k1 => (x1 k k0 k1).2.2) f f0 f1⟩, fun g g0 g1 => ?_, x3, ipy_sw_62 hS ha hb x4 sw⟩
  obtain ⟨y1, y2, y3, f, f0, f1, e⟩ := x2 g g0 g1
  refine ⟨y1, y2, y3, ?_⟩
  by_cases e0 : f = a0
  · exact ⟨a1, hb.1, hb.2, by rw [← e, e0]; exact zs_pos rfl⟩
  · by_cases e1 : f = a1
    · refine ⟨a0, ha.1, ha.2, ?_⟩
      rw [← e, e1]
      by_cases e2 : a0 = a1
      · rw [e2]; exact zs_pos rfl
      · exact (zs_neg e2).trans (zs_pos rfl)
    · exact ⟨f, f0, f1, by rw [← e]; exact (zs_neg e1).trans (zs_neg e0)⟩
theorem KP_s (P : Nat → Nat → Nat) (M A : Nat → Int → Int) (p : Nat) (a0 a1 : Int) (hp : p = 33 ∨ p = 62) (e : P 16 11 = p) (hi : iptr P M) (h : KP P M) (ha : 0 ≤ a0 ∧ a0 < M 469 (M 467 11)) (hb : 0 ≤ a1 ∧ a1 < M 469 (M 467 11)) (s : swR p M A a0 a1) (h14 : A 16 14 = -1) : KP P A := by
  rcases hp with q | q
  · subst q
    have hS : M 33 1 = M 471 (M 467 11) := by
      rcases hi with ⟨_, _, c⟩ | ⟨c, _, _⟩
      · exact c.2.1.2.1
      · exact absurd (e.symm.trans c) (by decide)
    exact ⟨fun z => ⟨ipx_sw_33 hS ha hb (h.1 z).1 s, Or.inl h14⟩, fun z => absurd (e.symm.trans z) (by decide)⟩
  · subst q
    have hS : M 62 1 = M 471 (M 467 11) := by
      rcases hi with ⟨c, _, _⟩ | ⟨_, _, c⟩
      · exact absurd (e.symm.trans c) (by decide)
      · exact c.2.1.2.1
    exact ⟨fun z => absurd (e.symm.trans z) (by decide), fun z => ⟨ipx_sw_62 hS ha hb (h.2 z).1 s, Or.inl h14⟩⟩
