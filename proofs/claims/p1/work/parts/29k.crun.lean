/-! The class's run to its end; the reference's run to its end -/
/-- the reference's turns, so many, up to a stop -/
def xRuns : Nat → (Nat → Int → Int) → (Nat → Int → Int) → Prop
  | 0, σ, τ => σ = τ ∧ ¬ σ 467 73 = (-1)
  | n + 1, σ, τ => σ 467 73 = (-1) ∧ xSafe σ ∧ xRuns n (astep σ) τ
theorem goOn_x {d : Nat} {P : Nat → Nat → Nat} {M : Nat → Int → Int} {Q : zQ} {x1 : Int} (h : M 101 15 = 1) (hQ : Q (zS P M) none) : WP d 189 0 0 2 [some (vR 101), some (vI x1)] [] (zS P M) Q :=
  zB_ok zmt zen (stops := []) e_189 100000 ⟨fun _ => hQ, fun _ => ⟨rfl, ⟨rfl, ⟨fun _ => hQ, fun q => absurd (show ¬ M 101 15 = 0 by omega) q⟩⟩⟩⟩
theorem crun_33_48 {d : Nat} {P : Nat → Nat → Nat} {M0 L : Nat → Int → Int} {o1 n1 nF V0 mx0 : Int} {TO π e0 : Int → Int} (hcL : cCode L o1 n1 (M0 49) (M0 50) (M0 51) (M0 52) (M0 53) (M0 54) (M0 58) (M0 59)) (hcO : cCode L o1 n1 (M0 49) (M0 50) (M0 51) (M0 52) (M0 53) (M0 54) (M0 58) (M0 59)) (hpr : cProg L nF π TO (M0 36) (M0 37) (M0 38) (M0 39) (M0 45)) (hfn : ∀ g : Int, 0 ≤ g → g < nF → xSegE L (xok L o1 n1 o1 n1 nF TO 1 (L 474 (8 * L 467 11 + g))) 5 0 (60 * L 467 11 + L 475 (8 * L 467 11 + g)) (60 * L 467 11 + L 475 (8 * L 467 11 + g) + L 476 (8 * L 467 11 + g))) (ho1 : o1 = 60 * L 467 11) (hn0 : n1 ≤ 60) (hn1 : n1 ≤ 60) (he0 : ∀ f : Int, 0 ≤ e0 f ∧ e0 f ≤ 1) (hV : 0 ≤ V0 ∧ V0 ≤ 308) (hmx : 0 ≤ mx0 ∧ mx0 ≤ 200) (hb : 0 ≤ L 467 11 ∧ L 467 11 ≤ 1) : ∀ (n : Nat) (x1 : Int) (M σ : Nat → Int → Int) (c : Nat), ((c = 48 ∧ M 111 4 = 0) ∨ (c = 48 ∧ ¬ M 111 4 = 0)) → mRel L o1 n1 o1 n1 nF TO V0 mx0 π e0 M σ → Fr M0 M → 0 ≤ x1 → x1 + cphi M ≤ 13000 → cphi M < (n : Int) →
    ∀ {Q : zQ}, (∀ (M2 : Nat → Int → Int) (c2 : Nat) (τ : Nat → Int → Int) (j : Nat), xRuns j σ τ → fRel π e0 TO M2 τ → Fr M0 M2 → Q (zS (zupN (zupN (zupN P 101 6 33) 101 7 c2) 101 8 48) M2) none) → WP (d + 5) 189 0 0 2 [some (vR 101), some (vI x1)] [] (zS (zupN (zupN (zupN P 101 6 33) 101 7 c) 101 8 48) M) Q := by
  intro n
  induction n with
  | zero =>
    intro x1 M σ c hd hR hfr hx0 hx1 hn Q hQ
    have hi := mRel_in hR
    have hst := hR.2.1
    unfold cphi at hn
    exfalso
    split at hn <;> omega
  | succ n ih =>
    intro x1 M σ c hd hR hfr hx0 hx1 hn Q hQ
    have hsafe := mRel_safe hR hV hmx hb
    have hph : 0 ≤ cphi M := by
      have hi := mRel_in hR
      have hst := hR.2.1
      unfold cphi
      split <;> omega
    have hcL1 : cCode L o1 n1 (M 49) (M 50) (M 51) (M 52) (M 53) (M 54) (M 58) (M 59) := by rw [hfr 49 (by decide), hfr 50 (by decide), hfr 51 (by decide), hfr 52 (by decide), hfr 53 (by decide), hfr 54 (by decide), hfr 58 (by decide), hfr 59 (by decide)]; exact hcL
    have hcO1 : cCode L o1 n1 (M 49) (M 50) (M 51) (M 52) (M 53) (M 54) (M 58) (M 59) := by rw [hfr 49 (by decide), hfr 50 (by decide), hfr 51 (by decide), hfr 52 (by decide), hfr 53 (by decide), hfr 54 (by decide), hfr 58 (by decide), hfr 59 (by decide)]; exact hcO
    have hpr1 : cProg L nF π TO (M 36) (M 37) (M 38) (M 39) (M 45) := by rw [hfr 36 (by decide), hfr 37 (by decide), hfr 38 (by decide), hfr 39 (by decide), hfr 45 (by decide)]; exact hpr
    rcases hd with ⟨rfl, z⟩ | ⟨rfl, z⟩ <;> exact turn_33_48_48 x1 hR hcL1 hcO1 hpr1 hfn ho1 hn0 hn1 he0 hV hmx (by omega) hx0 hR.2.1.2.2.2.2.2.2.2.2.2 (fun M1 c1 d1 r1 f1 q1 => ih (x1 + 1) M1 (astep σ) c1 d1 r1 (fr_trans hfr f1) (by omega) (by omega) (by omega) (fun M2 c2 τ n r f g => hQ M2 c2 τ (n + 1) ⟨hR.1.2.2.2.2.2.2, hsafe, r⟩ f g)) (fun M1 c1 f1 g1 => goOn_x f1.1 (hQ M1 c1 (astep σ) 1 ⟨hR.1.2.2.2.2.2.2, hsafe, rfl, by have := f1.2.2.1; omega⟩ f1 (fr_trans hfr g1)))
theorem crun_33_442 {d : Nat} {P : Nat → Nat → Nat} {M0 L : Nat → Int → Int} {o0 n0 o1 n1 nF V0 mx0 : Int} {TO π e0 : Int → Int} (hcL : cCode L o1 n1 (M0 49) (M0 50) (M0 51) (M0 52) (M0 53) (M0 54) (M0 58) (M0 59)) (hcO : cCode L o0 n0 (M0 443) (M0 444) (M0 445) (M0 446) (M0 447) (M0 448) (M0 452) (M0 453)) (hpr : cProg L nF π TO (M0 36) (M0 37) (M0 38) (M0 39) (M0 45)) (hfn : ∀ g : Int, 0 ≤ g → g < nF → xSegE L (xok L o0 n0 o1 n1 nF TO 1 (L 474 (8 * L 467 11 + g))) 5 0 (60 * L 467 11 + L 475 (8 * L 467 11 + g)) (60 * L 467 11 + L 475 (8 * L 467 11 + g) + L 476 (8 * L 467 11 + g))) (ho1 : o1 = 60 * L 467 11) (hn0 : n0 ≤ 320) (hn1 : n1 ≤ 60) (he0 : ∀ f : Int, 0 ≤ e0 f ∧ e0 f ≤ 1) (hV : 0 ≤ V0 ∧ V0 ≤ 308) (hmx : 0 ≤ mx0 ∧ mx0 ≤ 200) (hb : 0 ≤ L 467 11 ∧ L 467 11 ≤ 1) : ∀ (n : Nat) (x1 : Int) (M σ : Nat → Int → Int) (c : Nat), ((c = 442 ∧ M 111 4 = 0) ∨ (c = 48 ∧ ¬ M 111 4 = 0)) → mRel L o0 n0 o1 n1 nF TO V0 mx0 π e0 M σ → Fr M0 M → 0 ≤ x1 → x1 + cphi M ≤ 13000 → cphi M < (n : Int) →
    ∀ {Q : zQ}, (∀ (M2 : Nat → Int → Int) (c2 : Nat) (τ : Nat → Int → Int) (j : Nat), xRuns j σ τ → fRel π e0 TO M2 τ → Fr M0 M2 → Q (zS (zupN (zupN (zupN P 101 6 33) 101 7 c2) 101 8 442) M2) none) → WP (d + 5) 189 0 0 2 [some (vR 101), some (vI x1)] [] (zS (zupN (zupN (zupN P 101 6 33) 101 7 c) 101 8 442) M) Q := by
  intro n
  induction n with
  | zero =>
    intro x1 M σ c hd hR hfr hx0 hx1 hn Q hQ
    have hi := mRel_in hR
    have hst := hR.2.1
    unfold cphi at hn
    exfalso
    split at hn <;> omega
  | succ n ih =>
    intro x1 M σ c hd hR hfr hx0 hx1 hn Q hQ
    have hsafe := mRel_safe hR hV hmx hb
    have hph : 0 ≤ cphi M := by
      have hi := mRel_in hR
      have hst := hR.2.1
      unfold cphi
      split <;> omega
    have hcL1 : cCode L o1 n1 (M 49) (M 50) (M 51) (M 52) (M 53) (M 54) (M 58) (M 59) := by rw [hfr 49 (by decide), hfr 50 (by decide), hfr 51 (by decide), hfr 52 (by decide), hfr 53 (by decide), hfr 54 (by decide), hfr 58 (by decide), hfr 59 (by decide)]; exact hcL
    have hcO1 : cCode L o0 n0 (M 443) (M 444) (M 445) (M 446) (M 447) (M 448) (M 452) (M 453) := by rw [hfr 443 (by decide), hfr 444 (by decide), hfr 445 (by decide), hfr 446 (by decide), hfr 447 (by decide), hfr 448 (by decide), hfr 452 (by decide), hfr 453 (by decide)]; exact hcO
    have hpr1 : cProg L nF π TO (M 36) (M 37) (M 38) (M 39) (M 45) := by rw [hfr 36 (by decide), hfr 37 (by decide), hfr 38 (by decide), hfr 39 (by decide), hfr 45 (by decide)]; exact hpr
    rcases hd with ⟨rfl, z⟩ | ⟨rfl, z⟩
    · exact turn_33_442_442 x1 hR hcL1 hcO1 hpr1 hfn ho1 hn0 hn1 he0 hV hmx z (by omega) hx0 hR.2.1.2.2.2.2.2.2.2.2.2 (fun M1 c1 d1 r1 f1 q1 => ih (x1 + 1) M1 (astep σ) c1 d1 r1 (fr_trans hfr f1) (by omega) (by omega) (by omega) (fun M2 c2 τ n r f g => hQ M2 c2 τ (n + 1) ⟨hR.1.2.2.2.2.2.2, hsafe, r⟩ f g)) (fun M1 c1 f1 g1 => goOn_x f1.1 (hQ M1 c1 (astep σ) 1 ⟨hR.1.2.2.2.2.2.2, hsafe, rfl, by have := f1.2.2.1; omega⟩ f1 (fr_trans hfr g1)))
    · exact turn_33_48_442 x1 hR hcL1 hcO1 hpr1 hfn ho1 hn0 hn1 he0 hV hmx z (by omega) hx0 hR.2.1.2.2.2.2.2.2.2.2.2 (fun M1 c1 d1 r1 f1 q1 => ih (x1 + 1) M1 (astep σ) c1 d1 r1 (fr_trans hfr f1) (by omega) (by omega) (by omega) (fun M2 c2 τ n r f g => hQ M2 c2 τ (n + 1) ⟨hR.1.2.2.2.2.2.2, hsafe, r⟩ f g)) (fun M1 c1 f1 g1 => goOn_x f1.1 (hQ M1 c1 (astep σ) 1 ⟨hR.1.2.2.2.2.2.2, hsafe, rfl, by have := f1.2.2.1; omega⟩ f1 (fr_trans hfr g1)))
theorem crun_62_77 {d : Nat} {P : Nat → Nat → Nat} {M0 L : Nat → Int → Int} {o1 n1 nF V0 mx0 : Int} {TO π e0 : Int → Int} (hcL : cCode L o1 n1 (M0 78) (M0 79) (M0 80) (M0 81) (M0 82) (M0 83) (M0 87) (M0 88)) (hcO : cCode L o1 n1 (M0 78) (M0 79) (M0 80) (M0 81) (M0 82) (M0 83) (M0 87) (M0 88)) (hpr : cProg L nF π TO (M0 65) (M0 66) (M0 67) (M0 68) (M0 74)) (hfn : ∀ g : Int, 0 ≤ g → g < nF → xSegE L (xok L o1 n1 o1 n1 nF TO 1 (L 474 (8 * L 467 11 + g))) 5 0 (60 * L 467 11 + L 475 (8 * L 467 11 + g)) (60 * L 467 11 + L 475 (8 * L 467 11 + g) + L 476 (8 * L 467 11 + g))) (ho1 : o1 = 60 * L 467 11) (hn0 : n1 ≤ 60) (hn1 : n1 ≤ 60) (he0 : ∀ f : Int, 0 ≤ e0 f ∧ e0 f ≤ 1) (hV : 0 ≤ V0 ∧ V0 ≤ 308) (hmx : 0 ≤ mx0 ∧ mx0 ≤ 200) (hb : 0 ≤ L 467 11 ∧ L 467 11 ≤ 1) : ∀ (n : Nat) (x1 : Int) (M σ : Nat → Int → Int) (c : Nat), ((c = 77 ∧ M 111 4 = 0) ∨ (c = 77 ∧ ¬ M 111 4 = 0)) → mRel L o1 n1 o1 n1 nF TO V0 mx0 π e0 M σ → Fr M0 M → 0 ≤ x1 → x1 + cphi M ≤ 13000 → cphi M < (n : Int) →
    ∀ {Q : zQ}, (∀ (M2 : Nat → Int → Int) (c2 : Nat) (τ : Nat → Int → Int) (j : Nat), xRuns j σ τ → fRel π e0 TO M2 τ → Fr M0 M2 → Q (zS (zupN (zupN (zupN P 101 6 62) 101 7 c2) 101 8 77) M2) none) → WP (d + 5) 189 0 0 2 [some (vR 101), some (vI x1)] [] (zS (zupN (zupN (zupN P 101 6 62) 101 7 c) 101 8 77) M) Q := by
  intro n
  induction n with
  | zero =>
    intro x1 M σ c hd hR hfr hx0 hx1 hn Q hQ
    have hi := mRel_in hR
    have hst := hR.2.1
    unfold cphi at hn
    exfalso
    split at hn <;> omega
  | succ n ih =>
    intro x1 M σ c hd hR hfr hx0 hx1 hn Q hQ
    have hsafe := mRel_safe hR hV hmx hb
    have hph : 0 ≤ cphi M := by
      have hi := mRel_in hR
      have hst := hR.2.1
      unfold cphi
      split <;> omega
    have hcL1 : cCode L o1 n1 (M 78) (M 79) (M 80) (M 81) (M 82) (M 83) (M 87) (M 88) := by rw [hfr 78 (by decide), hfr 79 (by decide), hfr 80 (by decide), hfr 81 (by decide), hfr 82 (by decide), hfr 83 (by decide), hfr 87 (by decide), hfr 88 (by decide)]; exact hcL
    have hcO1 : cCode L o1 n1 (M 78) (M 79) (M 80) (M 81) (M 82) (M 83) (M 87) (M 88) := by rw [hfr 78 (by decide), hfr 79 (by decide), hfr 80 (by decide), hfr 81 (by decide), hfr 82 (by decide), hfr 83 (by decide), hfr 87 (by decide), hfr 88 (by decide)]; exact hcO
    have hpr1 : cProg L nF π TO (M 65) (M 66) (M 67) (M 68) (M 74) := by rw [hfr 65 (by decide), hfr 66 (by decide), hfr 67 (by decide), hfr 68 (by decide), hfr 74 (by decide)]; exact hpr
    rcases hd with ⟨rfl, z⟩ | ⟨rfl, z⟩ <;> exact turn_62_77_77 x1 hR hcL1 hcO1 hpr1 hfn ho1 hn0 hn1 he0 hV hmx (by omega) hx0 hR.2.1.2.2.2.2.2.2.2.2.2 (fun M1 c1 d1 r1 f1 q1 => ih (x1 + 1) M1 (astep σ) c1 d1 r1 (fr_trans hfr f1) (by omega) (by omega) (by omega) (fun M2 c2 τ n r f g => hQ M2 c2 τ (n + 1) ⟨hR.1.2.2.2.2.2.2, hsafe, r⟩ f g)) (fun M1 c1 f1 g1 => goOn_x f1.1 (hQ M1 c1 (astep σ) 1 ⟨hR.1.2.2.2.2.2.2, hsafe, rfl, by have := f1.2.2.1; omega⟩ f1 (fr_trans hfr g1)))
theorem crun_62_442 {d : Nat} {P : Nat → Nat → Nat} {M0 L : Nat → Int → Int} {o0 n0 o1 n1 nF V0 mx0 : Int} {TO π e0 : Int → Int} (hcL : cCode L o1 n1 (M0 78) (M0 79) (M0 80) (M0 81) (M0 82) (M0 83) (M0 87) (M0 88)) (hcO : cCode L o0 n0 (M0 443) (M0 444) (M0 445) (M0 446) (M0 447) (M0 448) (M0 452) (M0 453)) (hpr : cProg L nF π TO (M0 65) (M0 66) (M0 67) (M0 68) (M0 74)) (hfn : ∀ g : Int, 0 ≤ g → g < nF → xSegE L (xok L o0 n0 o1 n1 nF TO 1 (L 474 (8 * L 467 11 + g))) 5 0 (60 * L 467 11 + L 475 (8 * L 467 11 + g)) (60 * L 467 11 + L 475 (8 * L 467 11 + g) + L 476 (8 * L 467 11 + g))) (ho1 : o1 = 60 * L 467 11) (hn0 : n0 ≤ 320) (hn1 : n1 ≤ 60) (he0 : ∀ f : Int, 0 ≤ e0 f ∧ e0 f ≤ 1) (hV : 0 ≤ V0 ∧ V0 ≤ 308) (hmx : 0 ≤ mx0 ∧ mx0 ≤ 200) (hb : 0 ≤ L 467 11 ∧ L 467 11 ≤ 1) : ∀ (n : Nat) (x1 : Int) (M σ : Nat → Int → Int) (c : Nat), ((c = 442 ∧ M 111 4 = 0) ∨ (c = 77 ∧ ¬ M 111 4 = 0)) → mRel L o0 n0 o1 n1 nF TO V0 mx0 π e0 M σ → Fr M0 M → 0 ≤ x1 → x1 + cphi M ≤ 13000 → cphi M < (n : Int) →
    ∀ {Q : zQ}, (∀ (M2 : Nat → Int → Int) (c2 : Nat) (τ : Nat → Int → Int) (j : Nat), xRuns j σ τ → fRel π e0 TO M2 τ → Fr M0 M2 → Q (zS (zupN (zupN (zupN P 101 6 62) 101 7 c2) 101 8 442) M2) none) → WP (d + 5) 189 0 0 2 [some (vR 101), some (vI x1)] [] (zS (zupN (zupN (zupN P 101 6 62) 101 7 c) 101 8 442) M) Q := by
  intro n
  induction n with
  | zero =>
    intro x1 M σ c hd hR hfr hx0 hx1 hn Q hQ
    have hi := mRel_in hR
    have hst := hR.2.1
    unfold cphi at hn
    exfalso
    split at hn <;> omega
  | succ n ih =>
    intro x1 M σ c hd hR hfr hx0 hx1 hn Q hQ
    have hsafe := mRel_safe hR hV hmx hb
    have hph : 0 ≤ cphi M := by
      have hi := mRel_in hR
      have hst := hR.2.1
      unfold cphi
      split <;> omega
    have hcL1 : cCode L o1 n1 (M 78) (M 79) (M 80) (M 81) (M 82) (M 83) (M 87) (M 88) := by rw [hfr 78 (by decide), hfr 79 (by decide), hfr 80 (by decide), hfr 81 (by decide), hfr 82 (by decide), hfr 83 (by decide), hfr 87 (by decide), hfr 88 (by decide)]; exact hcL
    have hcO1 : cCode L o0 n0 (M 443) (M 444) (M 445) (M 446) (M 447) (M 448) (M 452) (M 453) := by rw [hfr 443 (by decide), hfr 444 (by decide), hfr 445 (by decide), hfr 446 (by decide), hfr 447 (by decide), hfr 448 (by decide), hfr 452 (by decide), hfr 453 (by decide)]; exact hcO
    have hpr1 : cProg L nF π TO (M 65) (M 66) (M 67) (M 68) (M 74) := by rw [hfr 65 (by decide), hfr 66 (by decide), hfr 67 (by decide), hfr 68 (by decide), hfr 74 (by decide)]; exact hpr
    rcases hd with ⟨rfl, z⟩ | ⟨rfl, z⟩
    · exact turn_62_442_442 x1 hR hcL1 hcO1 hpr1 hfn ho1 hn0 hn1 he0 hV hmx z (by omega) hx0 hR.2.1.2.2.2.2.2.2.2.2.2 (fun M1 c1 d1 r1 f1 q1 => ih (x1 + 1) M1 (astep σ) c1 d1 r1 (fr_trans hfr f1) (by omega) (by omega) (by omega) (fun M2 c2 τ n r f g => hQ M2 c2 τ (n + 1) ⟨hR.1.2.2.2.2.2.2, hsafe, r⟩ f g)) (fun M1 c1 f1 g1 => goOn_x f1.1 (hQ M1 c1 (astep σ) 1 ⟨hR.1.2.2.2.2.2.2, hsafe, rfl, by have := f1.2.2.1; omega⟩ f1 (fr_trans hfr g1)))
    · exact turn_62_77_442 x1 hR hcL1 hcO1 hpr1 hfn ho1 hn0 hn1 he0 hV hmx z (by omega) hx0 hR.2.1.2.2.2.2.2.2.2.2.2 (fun M1 c1 d1 r1 f1 q1 => ih (x1 + 1) M1 (astep σ) c1 d1 r1 (fr_trans hfr f1) (by omega) (by omega) (by omega) (fun M2 c2 τ n r f g => hQ M2 c2 τ (n + 1) ⟨hR.1.2.2.2.2.2.2, hsafe, r⟩ f g)) (fun M1 c1 f1 g1 => goOn_x f1.1 (hQ M1 c1 (astep σ) 1 ⟨hR.1.2.2.2.2.2.2, hsafe, rfl, by have := f1.2.2.1; omega⟩ f1 (fr_trans hfr g1)))
/-- the reference's loop, by its turns -/
theorem mrun {d : Nat} {P : Nat → Nat → Nat} {Q : zQ} {x1 x2 x3 x4 : Int} : ∀ (n : Nat) (M τ : Nat → Int → Int) (x5 x6 : Option zV), xRuns n M τ → Q (zS P τ) none → WP (d + 3) 84 0 0 126 [some (vR 467), some (vI x1), some (vI x2), some (vI x3), some (vI x4), x5, x6] [] (zS P M) Q := by
  intro n
  induction n with
  | zero =>
    intro M τ x5 x6 h hQ
    obtain ⟨rfl, h⟩ := h
    exact zB_ok zmt zen (stops := []) e_84 100000 ⟨rfl, ⟨rfl, ⟨fun _ => hQ, fun q => absurd h q⟩⟩⟩
  | succ n ih =>
    intro M τ x5 x6 h hQ
    obtain ⟨h1, h2, h3⟩ := h
    obtain ⟨s1, s2, s3, s4, s5, s6, s7, s8, s9⟩ := h2
    exact runs_b x1 x2 x3 x4 h1 s1 s2 s3 s4 s5 s6 s7 s8 s9 (fun y5 y6 => ih _ _ _ _ h3 hQ)
