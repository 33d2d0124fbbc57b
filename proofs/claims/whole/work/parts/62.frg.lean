/-! What trees, results and the like may change: all but tape, arguments, settings, profile, program -/
def wCell (c : Nat) : Bool := c == 16 || c == 467 || c == 20 || (24 ≤ c && c ≤ 32) || (91 ≤ c && c ≤ 466) || (500 ≤ c && c ≤ 502) || 509 ≤ c
def FrG (M A : Nat → Int → Int) : Prop := (∀ c : Nat, wCell c = false → A c = M c) ∧ (∀ k : Int, ¬ (k = 14 ∨ k = 15) → A 16 k = M 16 k) ∧ A 467 1 = M 467 1 ∧ A 467 11 = M 467 11
theorem frG_refl {M : Nat → Int → Int} : FrG M M := ⟨fun _ _ => rfl, fun _ _ => rfl, rfl, rfl⟩
theorem frG_trans {M A B : Nat → Int → Int} (f : FrG M A) (g : FrG A B) : FrG M B := ⟨fun c q => (g.1 c q).trans (f.1 c q), fun k q => (g.2.1 k q).trans (f.2.1 k q), g.2.2.1.trans f.2.2.1, g.2.2.2.trans f.2.2.2⟩
theorem frG_row {M A : Nat → Int → Int} {c : Nat} {r : Int → Int} (h : wCell c = true) (h' : ¬ c = 16 ∧ ¬ c = 467) (f : FrG M A) : FrG M (zrow A c r) := by
  refine ⟨fun c' q => ?_, fun k q => ?_, ?_, ?_⟩
  · rw [← f.1 c' q]; funext k; unfold zrow; rw [if_neg (fun z => by rw [z, h] at q; exact absurd q (by decide))]
  · rw [← f.2.1 k q]; unfold zrow; rw [if_neg (fun z => h'.1 z.symm)]
  · rw [← f.2.2.1]; unfold zrow; rw [if_neg (fun z => h'.2 z.symm)]
  · rw [← f.2.2.2]; unfold zrow; rw [if_neg (fun z => h'.2 z.symm)]
theorem frG_up {M A : Nat → Int → Int} {c : Nat} {k v : Int} (h : wCell c = true) (h' : c = 16 → k = 14 ∨ k = 15) (h2 : c = 467 → ¬ k = 1 ∧ ¬ k = 11) (f : FrG M A) : FrG M (zup A c k v) := by
  refine ⟨fun c' q => ?_, fun k' q => ?_, ?_, ?_⟩
  · rw [← f.1 c' q]; funext k'; unfold zup; rw [if_neg (fun z => by rw [z.1, h] at q; exact absurd q (by decide))]
  · rw [← f.2.1 k' q]; unfold zup; rw [if_neg (fun z => by have y := h' z.1.symm; rw [← z.2] at y; exact q y)]
  · rw [← f.2.2.1]; unfold zup; rw [if_neg (fun z => by exact (h2 z.1.symm).1 z.2.symm)]
  · rw [← f.2.2.2]; unfold zup; rw [if_neg (fun z => by exact (h2 z.1.symm).2 z.2.symm)]
theorem frG_col {M A : Nat → Int → Int} {j : Int} {r : Int → Int} (f : FrG M A) : FrG M (zcol A j r) := by
  refine ⟨fun c' q => ?_, fun k q => ?_, ?_, ?_⟩
  · rw [← f.1 c' q]
    refine zcol_out (fun z => ?_)
    have e : wCell c' = true := by unfold wCell; simp; omega
    rw [e] at q
    exact absurd q (by decide)
  · rw [← f.2.1 k q]; exact congrFun (zcol_out (by decide)) k
  · rw [← f.2.2.1]; exact congrFun (zcol_out (by decide)) 1
  · rw [← f.2.2.2]; exact congrFun (zcol_out (by decide)) 11
theorem frG_P {M A : Nat → Int → Int} (f : FrG M A) : FrP M A := ⟨f.2.2.2, fun c q => f.1 c (by unfold gCell at q; unfold wCell; simp at q ⊢; omega)⟩
theorem IB_frG {L0 : Nat} {xs : Nat → Int32} {m : Nat} {P P' : Nat → Nat → Nat} {M A : Nat → Int → Int} (f : FrG M A) (h1 : P' 16 11 = P 16 11) (h2 : P' 16 12 = P 16 12) (h : IB L0 xs m P M) : IB L0 xs m P' A := by
  obtain ⟨c1, c2, c3, c4, c5, c6, c7⟩ := h
  have E := fun (c : Nat) (q : wCell c = false) => f.1 c q
  have eT : TOf A = TOf M := by funext s; unfold TOf; rw [f.2.2.2, E 471 rfl, E 485 rfl, E 492 rfl]
  have e13 : A 16 13 = M 16 13 := f.2.1 13 (by decide)
  refine ⟨fun c q => ?_, ?_, ?_, ?_, ?_, ?_, iptr_fr (frG_P f) h1 h2 c7⟩
  · rw [← c1 c q]; refine f.1 c ?_; unfold wCell; simp; omega
  · unfold itape; rw [f.2.2.1, e13, E 17 rfl, E 468 rfl]; exact c2
  · unfold iarg; rw [E 18 rfl, E 505 rfl]; exact c3
  · unfold iset; rw [E 19 rfl, E 506 rfl]; exact c4
  · unfold iperm; rw [E 503 rfl, E 504 rfl]; exact c5
  · unfold iprof; rw [eT, E 22 rfl, E 23 rfl, E 503 rfl, E 507 rfl, E 508 rfl]; exact c6
theorem ipx_fr33 {M A : Nat → Int → Int} (f : FrP M A) (h : ipx 33 M) : ipx 33 A := by
  have E := fun (c : Nat) (q : gCell c = true) => f.2 c q
  refine ⟨?_, ?_, ?_, ipy_fr33 f h.2.2.2⟩ <;> rw [f.1, E 469 rfl]
  · rw [E 474 rfl, E 476 rfl, E 477 rfl, E 478 rfl, E 479 rfl, E 503 rfl, E (33 + 7) rfl, E (33 + 8) rfl, E (33 + 10) rfl]; exact h.1
  · rw [E 471 rfl, E 474 rfl, E 476 rfl, E 477 rfl, E 478 rfl, E 479 rfl, E 503 rfl]; exact h.2.1
  · rw [E 471 rfl, E 485 rfl, E 492 rfl, E 497 rfl, E (33 + 14) rfl]; exact h.2.2.1
theorem ipx_fr62 {M A : Nat → Int → Int} (f : FrP M A) (h : ipx 62 M) : ipx 62 A := by
  have E := fun (c : Nat) (q : gCell c = true) => f.2 c q
  refine ⟨?_, ?_, ?_, ipy_fr62 f h.2.2.2⟩ <;> rw [f.1, E 469 rfl]
  · rw [E 474 rfl, E 476 rfl, E 477 rfl, E 478 rfl, E 479 rfl, E 503 rfl, E (62 + 7) rfl, E (62 + 8) rfl, E (62 + 10) rfl]; exact h.1
  · rw [E 471 rfl, E 474 rfl, E 476 rfl, E 477 rfl, E 478 rfl, E 479 rfl, E 503 rfl]; exact h.2.1
  · rw [E 471 rfl, E 485 rfl, E 492 rfl, E 497 rfl, E (62 + 14) rfl]; exact h.2.2.1
