/-! The invariant of a run of calls, but for what is kept of trees; the law's loop by the number of calls -/
theorem law_loop_n {I : Nat → (Nat → Nat → Nat) → (Nat → Int → Int) → Prop} {d L : Nat} (hLL : L ≤ 3072) (hT : ∀ (m : Nat) (P : Nat → Nat → Nat) (M : Nat → Int → Int), I m P M → M 1 (-1) = (L : Int) ∧ ∀ j : Int, 0 ≤ j → in32 (M 1 j)) (hup : ∀ (m : Nat) (P : Nat → Nat → Nat) (M : Nat → Int → Int), I m P M → I (m + 1) P M) (hp0 : ∀ m : Nat, m < 512 → pr_0 d (I m) (I (m + 1))) (hp1 : ∀ m : Nat, m < 512 → pr_1 d (I m) (I (m + 1))) (hp2 : ∀ m : Nat, m < 512 → pr_2 d (I m) (I (m + 1))) (hp3 : ∀ m : Nat, m < 512 → pr_3 d (I m) (I (m + 1))) (hp4 : ∀ m : Nat, m < 512 → pr_4 d (I m) (I (m + 1))) (hp5 : ∀ m : Nat, m < 512 → pr_5 d (I m) (I (m + 1))) (hp6 : ∀ m : Nat, m < 512 → pr_6 d (I m) (I (m + 1))) (hp7 : ∀ m : Nat, m < 512 → pr_7 d (I m) (I (m + 1))) (hp8 : ∀ m : Nat, m < 512 → pr_8 d (I m) (I (m + 1))) (hp9 : ∀ m : Nat, m < 512 → pr_9 d (I m) (I (m + 1))) (hp10 : ∀ m : Nat, m < 512 → pr_10 d (I m) (I (m + 1))) (hp11 : ∀ m : Nat, m < 512 → pr_11 d (I m) (I (m + 1))) (hp12 : ∀ m : Nat, m < 512 → pr_12 d (I m) (I (m + 1))) (hp13 : ∀ m : Nat, m < 512 → pr_13 d (I m) (I (m + 1))) (hp14 : ∀ m : Nat, m < 512 → pr_14 d (I m) (I (m + 1))) (hp15 : ∀ m : Nat, m < 512 → pr_15 d (I m) (I (m + 1))) (hp16 : ∀ m : Nat, m < 512 → pr_16 d (I m) (I (m + 1))) (hp17 : ∀ m : Nat, m < 512 → pr_17 d (I m) (I (m + 1))) (hp18 : ∀ m : Nat, m < 512 → pr_18 d (I m) (I (m + 1))) (hp19 : ∀ m : Nat, m < 512 → pr_19 d (I m) (I (m + 1))) (hp20 : ∀ m : Nat, m < 512 → pr_20 d (I m) (I (m + 1))) (hp21 : ∀ m : Nat, m < 512 → pr_21 d (I m) (I (m + 1))) (hp22 : ∀ m : Nat, m < 512 → pr_22 d (I m) (I (m + 1))) (hp23 : ∀ m : Nat, m < 512 → pr_23 d (I m) (I (m + 1))) : ∀ (n m : Nat) (i : Int) (P : Nat → Nat → Nat) (M : Nat → Int → Int), I m P M → i = 6 * (m : Int) → i ≤ (L : Int) → (L : Int) - i < 6 * n → WP d 0 550 193353 18 [some (vR 1), some (vR 16), some (vR 467), some (vI i)] [] (zS P M) (fun _ r => r = some (vI 1)) := by
  intro n
  induction n with
  | zero => intro m i P M hI h0 h1 h2; omega
  | succ n ih =>
    intro m i P M hI h0 h1 h2
    obtain ⟨hL, hr⟩ := hT m P M hI
    by_cases hb : w32 (M 1 (-1) - 6) < i
    · exact law_exit hb rfl
    · have hi : i + 6 ≤ (L : Int) := by rw [hL, w32_id (by unfold in32; omega)] at hb; omega
      have hm : m < 512 := by omega
      have hw : w32 (i + 6) = i + 6 := w32_id (by unfold in32; omega)
      have hl : ∀ (P2 : Nat → Nat → Nat) (M2 : Nat → Int → Int), M2 1 = M 1 → I (m + 1) P2 M2 → WP d 0 550 193353 18 [some (vR 1), some (vR 16), some (vR 467), some (vI (w32 (i + 6)))] [] (zS P2 M2) (fun _ r => r = some (vI 1)) := fun P2 M2 _ i2 => by
        rw [hw]
        exact ih (m + 1) (i + 6) P2 M2 i2 (by omega) (by omega) (by omega)
      obtain ⟨a, b⟩ := zand31 (M 1 i)
      by_cases h24 : zand (M 1 i) 31 < 24
      · obtain e | e | e | e | e | e | e | e | e | e | e | e | e | e | e | e | e | e | e | e | e | e | e | e : zand (M 1 i) 31 = 0 ∨ zand (M 1 i) 31 = 1 ∨ zand (M 1 i) 31 = 2 ∨ zand (M 1 i) 31 = 3 ∨ zand (M 1 i) 31 = 4 ∨ zand (M 1 i) 31 = 5 ∨ zand (M 1 i) 31 = 6 ∨ zand (M 1 i) 31 = 7 ∨ zand (M 1 i) 31 = 8 ∨ zand (M 1 i) 31 = 9 ∨ zand (M 1 i) 31 = 10 ∨ zand (M 1 i) 31 = 11 ∨ zand (M 1 i) 31 = 12 ∨ zand (M 1 i) 31 = 13 ∨ zand (M 1 i) 31 = 14 ∨ zand (M 1 i) 31 = 15 ∨ zand (M 1 i) 31 = 16 ∨ zand (M 1 i) 31 = 17 ∨ zand (M 1 i) 31 = 18 ∨ zand (M 1 i) 31 = 19 ∨ zand (M 1 i) 31 = 20 ∨ zand (M 1 i) 31 = 21 ∨ zand (M 1 i) 31 = 22 ∨ zand (M 1 i) 31 = 23 := by omega
        · exact law_0 (hp0 m hm) hI hL hLL (by omega) hi hr e hl
        · exact law_1 (hp1 m hm) hI hL hLL (by omega) hi hr e hl
        · exact law_2 (hp2 m hm) hI hL hLL (by omega) hi hr e hl
        · exact law_3 (hp3 m hm) hI hL hLL (by omega) hi hr e hl
        · exact law_4 (hp4 m hm) hI hL hLL (by omega) hi hr e hl
        · exact law_5 (hp5 m hm) hI hL hLL (by omega) hi hr e hl
        · exact law_6 (hp6 m hm) hI hL hLL (by omega) hi hr e hl
        · exact law_7 (hp7 m hm) hI hL hLL (by omega) hi hr e hl
        · exact law_8 (hp8 m hm) hI hL hLL (by omega) hi hr e hl
        · exact law_9 (hp9 m hm) hI hL hLL (by omega) hi hr e hl
        · exact law_10 (hp10 m hm) hI hL hLL (by omega) hi hr e hl
        · exact law_11 (hp11 m hm) hI hL hLL (by omega) hi hr e hl
        · exact law_12 (hp12 m hm) hI hL hLL (by omega) hi hr e hl
        · exact law_13 (hp13 m hm) hI hL hLL (by omega) hi hr e hl
        · exact law_14 (hp14 m hm) hI hL hLL (by omega) hi hr e hl
        · exact law_15 (hp15 m hm) hI hL hLL (by omega) hi hr e hl
        · exact law_16 (hp16 m hm) hI hL hLL (by omega) hi hr e hl
        · exact law_17 (hp17 m hm) hI hL hLL (by omega) hi hr e hl
        · exact law_18 (hp18 m hm) hI hL hLL (by omega) hi hr e hl
        · exact law_19 (hp19 m hm) hI hL hLL (by omega) hi hr e hl
        · exact law_20 (hp20 m hm) hI hL hLL (by omega) hi hr e hl
        · exact law_21 (hp21 m hm) hI hL hLL (by omega) hi hr e hl
        · exact law_22 (hp22 m hm) hI hL hLL (by omega) hi hr e hl
        · exact law_23 (hp23 m hm) hI hL hLL (by omega) hi hr e hl
      · exact law_dflt hL hLL (by omega) hi (fun k _ hk e => by omega) (hl P M rfl (hup m P M hI))
def icon (L0 : Nat) (xs : Nat → Int32) (M : Nat → Int → Int) : Prop := ∀ c : Nat, c < 16 → M c = zMs L0 xs c
def itape (M : Nat → Int → Int) : Prop := (0 ≤ M 16 13 ∧ M 16 13 ≤ 480 ∧ M 467 1 = M 16 13) ∧ ∀ i : Int, 0 ≤ i → i < M 16 13 → M 17 i = M 468 i % 256 ∧ -128 ≤ M 468 i ∧ M 468 i < 128
def iarg (M : Nat → Int → Int) : Prop := ∀ k : Int, 0 ≤ k → k < 3 → M 18 k = M 505 k ∧ in32 (M 505 k)
def iset (M : Nat → Int → Int) : Prop := ∀ k : Int, 0 ≤ k → k < 4 → M 19 k = M 506 k ∧ isSet k (M 506 k)
def iperm (M : Nat → Int → Int) : Prop := ∀ f : Int, 0 ≤ f → f < 8 → (0 ≤ M 503 f ∧ M 503 f < 8) ∧ (0 ≤ M 504 f ∧ M 504 f < 8) ∧ M 504 (M 503 f) = f ∧ M 503 (M 504 f) = f
/-- the function that a site calls, where it lies; none: -1 -/
def TOf (M : Nat → Int → Int) (s : Int) : Int := if s < M 471 (M 467 11) then M 485 (M 492 (16 * M 467 11 + s)) else -1
def iprof (m : Nat) (M : Nat → Int → Int) : Prop := (∀ f : Int, 0 ≤ f → f < 8 → M 22 f = M 507 (M 503 f)) ∧ (∀ f : Int, 0 ≤ f → f < 8 → 0 ≤ M 507 f ∧ M 507 f ≤ 3001 * (m : Int)) ∧ (∀ s : Int, 0 ≤ s → s < 16 → M 23 s = M 508 s ∧ 0 ≤ M 508 s ∧ (0 < M 508 s → 0 ≤ TOf M s ∧ TOf M s < 8 ∧ M 508 s ≤ M 507 (TOf M s)))
/-- the program told, at p in the class, in the reference's bank -/
def iprog (p : Nat) (M : Nat → Int → Int) : Prop :=
  (0 ≤ M 467 11 ∧ M 467 11 ≤ 1) ∧ (M p 0 = M 469 (M 467 11) ∧ M p 1 = M 471 (M 467 11) ∧ M (p + 15) 13 = M 470 (M 467 11)) ∧ (0 ≤ M p 1 ∧ M p 1 ≤ 16) ∧ (0 ≤ M (p + 15) 13 ∧ M (p + 15) 13 ≤ 60) ∧
  cCode M (60 * M 467 11) (M 470 (M 467 11)) (M (p + 16)) (M (p + 17)) (M (p + 18)) (M (p + 19)) (M (p + 20)) (M (p + 21)) (M (p + 25)) (M (p + 26)) ∧
  cProg M (M 469 (M 467 11)) (M 503) (TOf M) (M (p + 3)) (M (p + 4)) (M (p + 5)) (M (p + 6)) (M (p + 12)) ∧
  (∀ g : Int, 0 ≤ g → g < M 469 (M 467 11) → xSegE M (xok M (60 * M 467 11) (M 470 (M 467 11)) (60 * M 467 11) (M 470 (M 467 11)) (M 469 (M 467 11)) (TOf M) 1 (M 474 (8 * M 467 11 + g))) 5 0 (60 * M 467 11 + M 475 (8 * M 467 11 + g)) (60 * M 467 11 + M 475 (8 * M 467 11 + g) + M 476 (8 * M 467 11 + g))) ∧
  (∀ g : Int, 0 ≤ g → g < M 469 (M 467 11) → 0 ≤ M 473 (8 * M 467 11 + g) ∧ M 473 (8 * M 467 11 + g) ≤ 3 ∧ M 473 (8 * M 467 11 + g) ≤ M 474 (8 * M 467 11 + g) ∧ M 474 (8 * M 467 11 + g) ≤ 8 ∧ 0 ≤ M 475 (8 * M 467 11 + g) ∧ M 475 (8 * M 467 11 + g) ≤ 60 ∧ 0 ≤ M 476 (8 * M 467 11 + g) ∧ M 476 (8 * M 467 11 + g) ≤ 60)
def iptr (P : Nat → Nat → Nat) (M : Nat → Int → Int) : Prop := (P 16 11 = 33 ∧ P 16 12 = 62 ∧ iprog 33 M) ∨ (P 16 11 = 62 ∧ P 16 12 = 33 ∧ iprog 62 M)
def IB (L0 : Nat) (xs : Nat → Int32) (m : Nat) (P : Nat → Nat → Nat) (M : Nat → Int → Int) : Prop := icon L0 xs M ∧ itape M ∧ iarg M ∧ iset M ∧ iperm M ∧ iprof m M ∧ iptr P M
theorem iprof_up {m : Nat} {M : Nat → Int → Int} (h : iprof m M) : iprof (m + 1) M := ⟨h.1, fun f a b => by have := h.2.1 f a b; omega, h.2.2⟩
/-- cells that trees and results are of -/
def kCell (c : Nat) : Bool := (116 ≤ c && c < 467) || (33 ≤ c && c ≤ 90) || c == 22 || c == 23 || c == 19
def FrT (M A : Nat → Int → Int) : Prop := (A 16 14 = M 16 14 ∧ A 16 15 = M 16 15) ∧ ∀ c : Nat, kCell c = true → A c = M c
theorem frT_refl {M : Nat → Int → Int} : FrT M M := ⟨⟨rfl, rfl⟩, fun _ _ => rfl⟩
theorem frT_row {M A : Nat → Int → Int} {c : Nat} {r : Int → Int} (h : kCell c = false) (h' : ¬ c = 16) (f : FrT M A) : FrT M (zrow A c r) := by
  refine ⟨⟨?_, ?_⟩, fun c' q => ?_⟩
  · rw [← f.1.1]; unfold zrow; rw [if_neg (fun z => h' z.symm)]
  · rw [← f.1.2]; unfold zrow; rw [if_neg (fun z => h' z.symm)]
  · rw [← f.2 c' q]; funext k; unfold zrow; rw [if_neg (fun z => by rw [z, h] at q; exact absurd q (by decide))]
theorem frT_up {M A : Nat → Int → Int} {c : Nat} {k v : Int} (h : kCell c = false) (h' : ¬ (c = 16 ∧ (k = 14 ∨ k = 15))) (f : FrT M A) : FrT M (zup A c k v) := by
  refine ⟨⟨?_, ?_⟩, fun c' q => ?_⟩
  · rw [← f.1.1]; unfold zup; rw [if_neg (fun z => h' ⟨z.1.symm, Or.inl z.2.symm⟩)]
  · rw [← f.1.2]; unfold zup; rw [if_neg (fun z => h' ⟨z.1.symm, Or.inr z.2.symm⟩)]
  · rw [← f.2 c' q]; funext k'; unfold zup; rw [if_neg (fun z => by rw [z.1, h] at q; exact absurd q (by decide))]
/-- cells that the program is of -/
def gCell (c : Nat) : Bool := (33 ≤ c && c ≤ 90) || (469 ≤ c && c ≤ 499) || c == 503 || c == 504
def FrP (M A : Nat → Int → Int) : Prop := A 467 11 = M 467 11 ∧ ∀ c : Nat, gCell c = true → A c = M c
theorem frP_refl {M : Nat → Int → Int} : FrP M M := ⟨rfl, fun _ _ => rfl⟩
theorem frP_row {M A : Nat → Int → Int} {c : Nat} {r : Int → Int} (h : gCell c = false) (h' : ¬ c = 467) (f : FrP M A) : FrP M (zrow A c r) := by
  refine ⟨?_, fun c' q => ?_⟩
  · rw [← f.1]; unfold zrow; rw [if_neg (fun z => h' z.symm)]
  · rw [← f.2 c' q]; funext k; unfold zrow; rw [if_neg (fun z => by rw [z, h] at q; exact absurd q (by decide))]
theorem frP_up {M A : Nat → Int → Int} {c : Nat} {k v : Int} (h : gCell c = false) (h' : ¬ (c = 467 ∧ k = 11)) (f : FrP M A) : FrP M (zup A c k v) := by
  refine ⟨?_, fun c' q => ?_⟩
  · rw [← f.1]; unfold zup; rw [if_neg (fun z => h' ⟨z.1.symm, z.2.symm⟩)]
  · rw [← f.2 c' q]; funext k'; unfold zup; rw [if_neg (fun z => by rw [z.1, h] at q; exact absurd q (by decide))]
theorem xSegE_congr {L L' : Nat → Int → Int} (h0 : L' 480 = L 480) (h1 : L' 488 = L 488) (h2 : L' 489 = L 489) {ok : Int → Prop} {mx lv a b : Int} (h : xSegE L ok mx lv a b) : xSegE L' ok mx lv a b := by
  obtain ⟨n, h⟩ := h
  refine ⟨n, ?_⟩
  induction n generalizing lv a b with
  | zero => exact h
  | succ n ih =>
    rcases h with h | ⟨q1, q2, q2', q3, q4, q5, q6, q7, q8, q9⟩
    · exact Or.inl h
    · refine Or.inr ?_
      rw [h0, h1, h2]
      exact ⟨q1, q2, q2', q3, q4, q5, q6, ih q7, ih q8, ih q9⟩
theorem iprog_fr33 {M A : Nat → Int → Int} (f : FrP M A) (h : iprog 33 M) : iprog 33 A := by
  have E := f.2
  have e11 := f.1
  have eT : TOf A = TOf M := by funext s; unfold TOf; rw [e11, E 471 rfl, E 485 rfl, E 492 rfl]
  obtain ⟨h1, h2, h3, h4, h5, h6, h7, h8⟩ := h
  refine ⟨by rw [e11]; exact h1, ?_, ?_, ?_, ?_, ?_, fun g g0 g1 => ?_, fun g g0 g1 => ?_⟩
  · rw [e11, E 469 rfl, E 470 rfl, E 471 rfl, E 33 rfl, E (33 + 15) rfl]; exact h2
  · rw [E 33 rfl]; exact h3
  · rw [E (33 + 15) rfl]; exact h4
  · unfold cCode at h5 ⊢
    rw [e11, E 470 rfl, E 480 rfl, E 481 rfl, E 482 rfl, E 483 rfl, E 484 rfl, E 486 rfl, E 488 rfl, E 489 rfl, E (33 + 16) rfl, E (33 + 17) rfl, E (33 + 18) rfl, E (33 + 19) rfl, E (33 + 20) rfl, E (33 + 21) rfl, E (33 + 25) rfl, E (33 + 26) rfl]; exact h5
  · unfold cProg at h6 ⊢
    rw [eT, e11, E 469 rfl, E 473 rfl, E 474 rfl, E 475 rfl, E 476 rfl, E 503 rfl, E (33 + 3) rfl, E (33 + 4) rfl, E (33 + 5) rfl, E (33 + 6) rfl, E (33 + 12) rfl]; exact h6
  · rw [e11, E 469 rfl] at g1
    have q := h7 g g0 g1
    rw [e11, E 469 rfl, E 470 rfl, E 474 rfl, E 475 rfl, E 476 rfl, eT]
    refine xSegE_congr (E 480 rfl) (E 488 rfl) (E 489 rfl) (xSegE_imp (fun a z => ?_) q)
    unfold xok at z ⊢
    rw [e11, E 473 rfl, E 474 rfl, E 475 rfl, E 476 rfl, E 480 rfl, E 481 rfl, E 482 rfl, E 483 rfl, E 484 rfl, E 485 rfl, E 486 rfl, E 488 rfl, E 489 rfl]
    exact z
  · rw [e11, E 469 rfl] at g1
    have q := h8 g g0 g1
    rw [e11, E 473 rfl, E 474 rfl, E 475 rfl, E 476 rfl]; exact q
theorem iprog_fr62 {M A : Nat → Int → Int} (f : FrP M A) (h : iprog 62 M) : iprog 62 A := by
  have E := f.2
  have e11 := f.1
  have eT : TOf A = TOf M := by funext s; unfold TOf; rw [e11, E 471 rfl, E 485 rfl, E 492 rfl]
  obtain ⟨h1, h2, h3, h4, h5, h6, h7, h8⟩ := h
  refine ⟨by rw [e11]; exact h1, ?_, ?_, ?_, ?_, ?_, fun g g0 g1 => ?_, fun g g0 g1 => ?_⟩
  · rw [e11, E 469 rfl, E 470 rfl, E 471 rfl, E 62 rfl, E (62 + 15) rfl]; exact h2
  · rw [E 62 rfl]; exact h3
  · rw [E (62 + 15) rfl]; exact h4
  · unfold cCode at h5 ⊢
    rw [e11, E 470 rfl, E 480 rfl, E 481 rfl, E 482 rfl, E 483 rfl, E 484 rfl, E 486 rfl, E 488 rfl, E 489 rfl, E (62 + 16) rfl, E (62 + 17) rfl, E (62 + 18) rfl, E (62 + 19) rfl, E (62 + 20) rfl, E (62 + 21) rfl, E (62 + 25) rfl, E (62 + 26) rfl]; exact h5
  · unfold cProg at h6 ⊢
    rw [eT, e11, E 469 rfl, E 473 rfl, E 474 rfl, E 475 rfl, E 476 rfl, E 503 rfl, E (62 + 3) rfl, E (62 + 4) rfl, E (62 + 5) rfl, E (62 + 6) rfl, E (62 + 12) rfl]; exact h6
  · rw [e11, E 469 rfl] at g1
    have q := h7 g g0 g1
    rw [e11, E 469 rfl, E 470 rfl, E 474 rfl, E 475 rfl, E 476 rfl, eT]
    refine xSegE_congr (E 480 rfl) (E 488 rfl) (E 489 rfl) (xSegE_imp (fun a z => ?_) q)
    unfold xok at z ⊢
    rw [e11, E 473 rfl, E 474 rfl, E 475 rfl, E 476 rfl, E 480 rfl, E 481 rfl, E 482 rfl, E 483 rfl, E 484 rfl, E 485 rfl, E 486 rfl, E 488 rfl, E 489 rfl]
    exact z
  · rw [e11, E 469 rfl] at g1
    have q := h8 g g0 g1
    rw [e11, E 473 rfl, E 474 rfl, E 475 rfl, E 476 rfl]; exact q
theorem iptr_fr {P P' : Nat → Nat → Nat} {M A : Nat → Int → Int} (f : FrP M A) (h1 : P' 16 11 = P 16 11) (h2 : P' 16 12 = P 16 12) (h : iptr P M) : iptr P' A := by
  rcases h with ⟨a, b, c⟩ | ⟨a, b, c⟩
  · exact Or.inl ⟨h1.trans a, h2.trans b, iprog_fr33 f c⟩
  · exact Or.inr ⟨h1.trans a, h2.trans b, iprog_fr62 f c⟩
theorem icon_row {L0 : Nat} {xs : Nat → Int32} {A : Nat → Int → Int} {c : Nat} {r : Int → Int} (h : 16 ≤ c) (f : icon L0 xs A) : icon L0 xs (zrow A c r) := fun c' q => by
  rw [← f c' q]; funext k; unfold zrow; rw [if_neg (by omega)]
theorem icon_up {L0 : Nat} {xs : Nat → Int32} {A : Nat → Int → Int} {c : Nat} {k v : Int} (h : 16 ≤ c) (f : icon L0 xs A) : icon L0 xs (zup A c k v) := fun c' q => by
  rw [← f c' q]; funext k'; unfold zup; rw [if_neg (by omega)]
section
variable {K : (Nat → Nat → Nat) → (Nat → Int → Int) → Prop} (hKo : ∀ (P P' : Nat → Nat → Nat) (M A : Nat → Int → Int), K P M → FrP M A → P' 16 11 = P 16 11 → A 16 14 = -1 → A 16 15 = -1 → K P' A) (hKf : ∀ (P P' : Nat → Nat → Nat) (M A : Nat → Int → Int), K P M → FrT M A → FrP M A → P' 16 11 = P 16 11 → K P' A) {L0 : Nat} {xs : Nat → Int32} {m d : Nat}
theorem pair_5 (hKf : ∀ (P P' : Nat → Nat → Nat) (M A : Nat → Int → Int), K P M → FrT M A → FrP M A → P' 16 11 = P 16 11 → K P' A) : pr_5 (d + 20) (fun P M => IB L0 xs m P M ∧ K P M) (fun P M => IB L0 xs (m + 1) P M ∧ K P M) := by
  intro P M a0 a1 hI r0 r1 Q1 h1
  obtain ⟨⟨c1, c2, c3, c4, c5, c6, c7⟩, hK⟩ := hI
  refine argument_c a0 a1 (fun q => ?_) (fun q => ?_)
  · exact h1 P M _ rfl (fun Q2 h2 => argument_m a0 a1 (fun _ => h2 P M rfl ⟨⟨c1, c2, c3, c4, c5, iprof_up c6, c7⟩, hK⟩) (fun q' => absurd q' q))
  · refine h1 P _ _ rfl (fun Q2 h2 => argument_m a0 a1 (fun q' => absurd q q') (fun _ => eqR (c3 a0 q.1 q.2).1.symm (h2 P _ rfl ⟨⟨icon_row (by decide) (icon_row (by decide) c1), c2, ?_, c4, c5, iprof_up c6, iptr_fr (frP_row rfl (by decide) (frP_row rfl (by decide) frP_refl)) rfl rfl c7⟩, hKf P P M _ hK (frT_row rfl (by decide) (frT_row rfl (by decide) frT_refl)) (frP_row rfl (by decide) (frP_row rfl (by decide) frP_refl)) rfl⟩)))
    · intro k k0 k1
      show zs (M 18) a0 a1 k = zs (M 505) a0 a1 k ∧ in32 (zs (M 505) a0 a1 k)
      unfold zs; split
      · exact ⟨rfl, r1⟩
      · exact c3 k k0 k1
theorem pair_9 (hKo : ∀ (P P' : Nat → Nat → Nat) (M A : Nat → Int → Int), K P M → FrP M A → P' 16 11 = P 16 11 → A 16 14 = -1 → A 16 15 = -1 → K P' A) : pr_9 (d + 20) (fun P M => IB L0 xs m P M ∧ K P M) (fun P M => IB L0 xs (m + 1) P M ∧ K P M) := by
  intro P M a0 a1 hI r0 r1 Q1 h1
  obtain ⟨⟨c1, c2, c3, c4, c5, c6, c7⟩, hK⟩ := hI
  have hk : M 2 0 = 0 ∧ M 2 1 = 1 ∧ M 2 2 = 0 ∧ M 2 3 = 0 ∧ M 3 0 = 300 ∧ M 3 1 = 50 ∧ M 3 2 = 3 ∧ M 3 3 = 500 ∧ M 3 (-1) = 4 ∧ M 2 (-1) = 4 := by
    rw [c1 2 (by decide), c1 3 (by decide)]; exact ⟨rfl, rfl, rfl, rfl, rfl, rfl, rfl, rfl, rfl, rfl⟩
  refine set_c a0 a1 hk (fun q => ?_) (fun q => ?_)
  · exact h1 P M _ rfl (fun Q2 h2 => set_m a0 a1 (fun _ => h2 P M rfl ⟨⟨c1, c2, c3, c4, c5, iprof_up c6, c7⟩, hK⟩) (fun q' => absurd q' q))
  · have hr : 0 ≤ a0 ∧ a0 < 4 := by unfold isSet at q; omega
    refine h1 P _ _ rfl (fun Q2 h2 => set_m a0 a1 (fun q' => absurd q q') (fun _ => eqR (c4 a0 hr.1 hr.2).1.symm (h2 P _ rfl ⟨⟨icon_row (by decide) (icon_up (by decide) (icon_up (by decide) (icon_row (by decide) c1))), c2, c3, ?_, c5, iprof_up c6, iptr_fr (frP_row rfl (by decide) (frP_up rfl (by decide) (frP_up rfl (by decide) (frP_row rfl (by decide) frP_refl)))) rfl rfl c7⟩, hKo P P M _ hK (frP_row rfl (by decide) (frP_up rfl (by decide) (frP_up rfl (by decide) (frP_row rfl (by decide) frP_refl)))) rfl rfl rfl⟩)))
    · intro k k0 k1
      show zs (M 19) a0 a1 k = zs (M 506) a0 a1 k ∧ isSet k (zs (M 506) a0 a1 k)
      unfold zs; split
      · next e => rw [e]; exact ⟨rfl, q⟩
      · exact c4 k k0 k1
theorem sum_perm8 {g : Int → Int} {p q : Int → Int} (h : ∀ f : Int, 0 ≤ f → f < 8 → (0 ≤ p f ∧ p f < 8) ∧ (0 ≤ q f ∧ q f < 8) ∧ q (p f) = f ∧ p (q f) = f) : g (p 0) + g (p 1) + g (p 2) + g (p 3) + g (p 4) + g (p 5) + g (p 6) + g (p 7) = g 0 + g 1 + g 2 + g 3 + g 4 + g 5 + g 6 + g 7 := by
  -- by counting: each place v is met once
  have key : ∀ (v : Int), 0 ≤ v → v < 8 → (if p 0 = v then g v else 0) + (if p 1 = v then g v else 0) + (if p 2 = v then g v else 0) + (if p 3 = v then g v else 0) + (if p 4 = v then g v else 0) + (if p 5 = v then g v else 0) + (if p 6 = v then g v else 0) + (if p 7 = v then g v else 0) = g v := by
    intro v v0 v1
    obtain ⟨_, hq, _, e⟩ := h v v0 v1
    have hu : ∀ f : Int, 0 ≤ f → f < 8 → (p f = v ↔ f = q v) := fun f f0 f1 => ⟨fun z => by rw [← z]; exact (h f f0 f1).2.2.1.symm, fun z => by rw [z]; exact e⟩
    simp only [hu 0 (by decide) (by decide), hu 1 (by decide) (by decide), hu 2 (by decide) (by decide), hu 3 (by decide) (by decide), hu 4 (by decide) (by decide), hu 5 (by decide) (by decide), hu 6 (by decide) (by decide), hu 7 (by decide) (by decide)]
    rcases (by omega : q v = 0 ∨ q v = 1 ∨ q v = 2 ∨ q v = 3 ∨ q v = 4 ∨ q v = 5 ∨ q v = 6 ∨ q v = 7) with z | z | z | z | z | z | z | z <;> rw [z] <;> simp
  have row : ∀ (w : Int), 0 ≤ w → w < 8 → (if w = 0 then g 0 else 0) + (if w = 1 then g 1 else 0) + (if w = 2 then g 2 else 0) + (if w = 3 then g 3 else 0) + (if w = 4 then g 4 else 0) + (if w = 5 then g 5 else 0) + (if w = 6 then g 6 else 0) + (if w = 7 then g 7 else 0) = g w := by
    intro w w0 w1
    rcases (by omega : w = 0 ∨ w = 1 ∨ w = 2 ∨ w = 3 ∨ w = 4 ∨ w = 5 ∨ w = 6 ∨ w = 7) with z | z | z | z | z | z | z | z <;> rw [z] <;> simp
  have r0 := row (p 0) (h 0 (by decide) (by decide)).1.1 (h 0 (by decide) (by decide)).1.2
  have r1 := row (p 1) (h 1 (by decide) (by decide)).1.1 (h 1 (by decide) (by decide)).1.2
  have r2 := row (p 2) (h 2 (by decide) (by decide)).1.1 (h 2 (by decide) (by decide)).1.2
  have r3 := row (p 3) (h 3 (by decide) (by decide)).1.1 (h 3 (by decide) (by decide)).1.2
  have r4 := row (p 4) (h 4 (by decide) (by decide)).1.1 (h 4 (by decide) (by decide)).1.2
  have r5 := row (p 5) (h 5 (by decide) (by decide)).1.1 (h 5 (by decide) (by decide)).1.2
  have r6 := row (p 6) (h 6 (by decide) (by decide)).1.1 (h 6 (by decide) (by decide)).1.2
  have r7 := row (p 7) (h 7 (by decide) (by decide)).1.1 (h 7 (by decide) (by decide)).1.2
  have k0 := key 0 (by decide) (by decide)
  have k1 := key 1 (by decide) (by decide)
  have k2 := key 2 (by decide) (by decide)
  have k3 := key 3 (by decide) (by decide)
  have k4 := key 4 (by decide) (by decide)
  have k5 := key 5 (by decide) (by decide)
  have k6 := key 6 (by decide) (by decide)
  have k7 := key 7 (by decide) (by decide)
  clear row key h
  generalize (if p 0 = 0 then g 0 else 0) = t00 at r0 k0
  generalize (if p 0 = 1 then g 1 else 0) = t01 at r0 k1
  generalize (if p 0 = 2 then g 2 else 0) = t02 at r0 k2
  generalize (if p 0 = 3 then g 3 else 0) = t03 at r0 k3
  generalize (if p 0 = 4 then g 4 else 0) = t04 at r0 k4
  generalize (if p 0 = 5 then g 5 else 0) = t05 at r0 k5
  generalize (if p 0 = 6 then g 6 else 0) = t06 at r0 k6
  generalize (if p 0 = 7 then g 7 else 0) = t07 at r0 k7
  generalize (if p 1 = 0 then g 0 else 0) = t10 at r1 k0
  generalize (if p 1 = 1 then g 1 else 0) = t11 at r1 k1
  generalize (if p 1 = 2 then g 2 else 0) = t12 at r1 k2
  generalize (if p 1 = 3 then g 3 else 0) = t13 at r1 k3
  generalize (if p 1 = 4 then g 4 else 0) = t14 at r1 k4
  generalize (if p 1 = 5 then g 5 else 0) = t15 at r1 k5
  generalize (if p 1 = 6 then g 6 else 0) = t16 at r1 k6
  generalize (if p 1 = 7 then g 7 else 0) = t17 at r1 k7
  generalize (if p 2 = 0 then g 0 else 0) = t20 at r2 k0
  generalize (if p 2 = 1 then g 1 else 0) = t21 at r2 k1
  generalize (if p 2 = 2 then g 2 else 0) = t22 at r2 k2
  generalize (if p 2 = 3 then g 3 else 0) = t23 at r2 k3
  generalize (if p 2 = 4 then g 4 else 0) = t24 at r2 k4
  generalize (if p 2 = 5 then g 5 else 0) = t25 at r2 k5
  generalize (if p 2 = 6 then g 6 else 0) = t26 at r2 k6
  generalize (if p 2 = 7 then g 7 else 0) = t27 at r2 k7
  generalize (if p 3 = 0 then g 0 else 0) = t30 at r3 k0
  generalize (if p 3 = 1 then g 1 else 0) = t31 at r3 k1
  generalize (if p 3 = 2 then g 2 else 0) = t32 at r3 k2
  generalize (if p 3 = 3 then g 3 else 0) = t33 at r3 k3
  generalize (if p 3 = 4 then g 4 else 0) = t34 at r3 k4
  generalize (if p 3 = 5 then g 5 else 0) = t35 at r3 k5
  generalize (if p 3 = 6 then g 6 else 0) = t36 at r3 k6
  generalize (if p 3 = 7 then g 7 else 0) = t37 at r3 k7
  generalize (if p 4 = 0 then g 0 else 0) = t40 at r4 k0
  generalize (if p 4 = 1 then g 1 else 0) = t41 at r4 k1
  generalize (if p 4 = 2 then g 2 else 0) = t42 at r4 k2
  generalize (if p 4 = 3 then g 3 else 0) = t43 at r4 k3
  generalize (if p 4 = 4 then g 4 else 0) = t44 at r4 k4
  generalize (if p 4 = 5 then g 5 else 0) = t45 at r4 k5
  generalize (if p 4 = 6 then g 6 else 0) = t46 at r4 k6
  generalize (if p 4 = 7 then g 7 else 0) = t47 at r4 k7
  generalize (if p 5 = 0 then g 0 else 0) = t50 at r5 k0
  generalize (if p 5 = 1 then g 1 else 0) = t51 at r5 k1
  generalize (if p 5 = 2 then g 2 else 0) = t52 at r5 k2
  generalize (if p 5 = 3 then g 3 else 0) = t53 at r5 k3
  generalize (if p 5 = 4 then g 4 else 0) = t54 at r5 k4
  generalize (if p 5 = 5 then g 5 else 0) = t55 at r5 k5
  generalize (if p 5 = 6 then g 6 else 0) = t56 at r5 k6
  generalize (if p 5 = 7 then g 7 else 0) = t57 at r5 k7
  generalize (if p 6 = 0 then g 0 else 0) = t60 at r6 k0
  generalize (if p 6 = 1 then g 1 else 0) = t61 at r6 k1
  generalize (if p 6 = 2 then g 2 else 0) = t62 at r6 k2
  generalize (if p 6 = 3 then g 3 else 0) = t63 at r6 k3
  generalize (if p 6 = 4 then g 4 else 0) = t64 at r6 k4
  generalize (if p 6 = 5 then g 5 else 0) = t65 at r6 k5
  generalize (if p 6 = 6 then g 6 else 0) = t66 at r6 k6
  generalize (if p 6 = 7 then g 7 else 0) = t67 at r6 k7
  generalize (if p 7 = 0 then g 0 else 0) = t70 at r7 k0
  generalize (if p 7 = 1 then g 1 else 0) = t71 at r7 k1
  generalize (if p 7 = 2 then g 2 else 0) = t72 at r7 k2
  generalize (if p 7 = 3 then g 3 else 0) = t73 at r7 k3
  generalize (if p 7 = 4 then g 4 else 0) = t74 at r7 k4
  generalize (if p 7 = 5 then g 5 else 0) = t75 at r7 k5
  generalize (if p 7 = 6 then g 6 else 0) = t76 at r7 k6
  generalize (if p 7 = 7 then g 7 else 0) = t77 at r7 k7
  omega
theorem pair_8 (hKo : ∀ (P P' : Nat → Nat → Nat) (M A : Nat → Int → Int), K P M → FrP M A → P' 16 11 = P 16 11 → A 16 14 = -1 → A 16 15 = -1 → K P' A) (hm : m ≤ 512) : pr_8 (d + 20) (fun P M => IB L0 xs m P M ∧ K P M) (fun P M => IB L0 xs (m + 1) P M ∧ K P M) := by
  intro P M hI Q1 h1
  obtain ⟨⟨c1, c2, c3, c4, c5, c6, c7⟩, hK⟩ := hI
  obtain ⟨p1, p2, p3⟩ := id c6
  have hb1 : ∀ k : Int, 0 ≤ k → k < 8 → 0 ≤ M 507 k ∧ M 507 k ≤ 2000000 := fun k k0 k1 => by have := p2 k k0 k1; omega
  have hb0 : ∀ k : Int, 0 ≤ k → k < 8 → 0 ≤ M 22 k ∧ M 22 k ≤ 2000000 := fun k k0 k1 => by
    rw [p1 k k0 k1]; exact hb1 _ (c5 k k0 k1).1.1 (c5 k k0 k1).1.2
  refine forget_c hb0 ?_
  refine h1 P _ _ rfl (fun Q2 h2 => forget_m hb1 (eqR ?_ (h2 P _ rfl ⟨⟨icon_row (by decide) (icon_row (by decide) (icon_up (by decide) (icon_up (by decide) (icon_row (by decide) (icon_row (by decide) c1))))), c2, c3, c4, c5, ⟨fun f f0 f1 => ?_, fun f f0 f1 => ?_, fun s s0 s1 => ?_⟩, iptr_fr (frP_row rfl (by decide) (frP_row rfl (by decide) (frP_up rfl (by decide) (frP_up rfl (by decide) (frP_row rfl (by decide) (frP_row rfl (by decide) frP_refl)))))) rfl rfl c7⟩, hKo P P M _ hK (frP_row rfl (by decide) (frP_row rfl (by decide) (frP_up rfl (by decide) (frP_up rfl (by decide) (frP_row rfl (by decide) (frP_row rfl (by decide) frP_refl)))))) rfl rfl rfl⟩)))
  · show M 507 0 + M 507 1 + M 507 2 + M 507 3 + M 507 4 + M 507 5 + M 507 6 + M 507 7 = M 22 0 + M 22 1 + M 22 2 + M 22 3 + M 22 4 + M 22 5 + M 22 6 + M 22 7
    rw [p1 0 (by decide) (by decide), p1 1 (by decide) (by decide), p1 2 (by decide) (by decide), p1 3 (by decide) (by decide), p1 4 (by decide) (by decide), p1 5 (by decide) (by decide), p1 6 (by decide) (by decide), p1 7 (by decide) (by decide)]
    exact (sum_perm8 (g := M 507) (p := M 503) (q := M 504) c5).symm
  · show zfl (M 22) 0 8 f = zfl (M 507) 0 8 (M 503 f)
    have hp := (c5 f f0 f1).1
    have e1 : zfl (M 22) 0 8 f = 0 := if_pos ⟨f0, by omega⟩
    have e2 : zfl (M 507) 0 8 (M 503 f) = 0 := if_pos ⟨hp.1, by omega⟩
    rw [e1, e2]
  · show 0 ≤ zfl (M 507) 0 8 f ∧ zfl (M 507) 0 8 f ≤ 3001 * ((m + 1 : Nat) : Int)
    have e : zfl (M 507) 0 8 f = 0 := if_pos ⟨f0, by omega⟩
    rw [e]; omega
  · show zfl (M 23) 0 16 s = zfl (M 508) 0 16 s ∧ 0 ≤ zfl (M 508) 0 16 s ∧ (0 < zfl (M 508) 0 16 s → _)
    have e1 : zfl (M 23) 0 16 s = 0 := if_pos ⟨s0, by omega⟩
    have e2 : zfl (M 508) 0 16 s = 0 := if_pos ⟨s0, by omega⟩
    rw [e1, e2]
    exact ⟨rfl, by omega, fun z => absurd z (by omega)⟩
end
