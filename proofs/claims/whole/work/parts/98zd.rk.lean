/-! Both readers together: rk -/
theorem prF_b {s v m : Int} {r : Int → Int} : 1 ≤ prF s v r m ∧ prF s v r m ≤ 5 := by
  have := nF_b (s := s)
  unfold prF
  by_cases a : ¬ s = -2
  · rw [if_pos a]; omega
  · rw [if_neg a]
    by_cases c : ¬ m < 3
    · rw [if_pos c]; decide
    · rw [if_neg c]; decide
/-- what reading a parameter changes in the class -/
def frQ (M M' : Nat → Int → Int) : Prop := (∀ c : Nat, ¬ c = 91 → ¬ c = 95 → M' c = M c) ∧ ∀ k : Int, ¬ (k = 4 ∨ k = 9) → M' 91 k = M 91 k
theorem frQ_tr {M M' M'' : Nat → Int → Int} (h : frQ M M') (k : frQ M' M'') : frQ M M'' := ⟨fun c a d => (k.1 c a d).trans (h.1 c a d), fun j a => (k.2 j a).trans (h.2 j a)⟩
theorem frQ_O {p : Nat} {M M' : Nat → Int → Int} (h : frQ M M') : frO p M M' := fun c a d => h.1 c (by omega) (by omega)
def OPp_33 (b now : Int) (rel : (Nat → Int → Int) → (Nat → Int → Int) → Int → Prop) (τ M M' : Nat → Int → Int) (r : Int) : Prop :=
  (r = 1 ∧ frQ M M' ∧ M 91 4 ≤ M' 91 4 ∧ ∃ τ' : Nat → Int → Int, (RL b now (M' 17) (M' 91 3) (M' 92) (M' 93) (M' 94) (M' 91 4) (M' 91 9) (M' 95) (M' 33 0) (M' 33 1) (M' 48 13) (M' 91 14) (M' 99) (M' 100) (M' 96) (M' 97) (M' 98) (M' 44) (M' 46) (M' 47) (M' 34) (M' 35) (zs (M' 36) now (M' 91 9)) (M' 38) (M' 40) (M' 42) (M' 49) (M' 50) (M' 51) (M' 52) (M' 53) (M' 54) (M' 55) (M' 56) (M' 57) (M' 58) (M' 59) (M' 60) (M' 61) 0 0 (M' 48 13) (hat τ')) ∧ (∀ F' S' : Int, frX b F' S' now τ τ') ∧ τ' 467 47 = τ 467 47 ∧ rel τ τ' 1) ∨
  (r = 0 ∧ frO 33 M M' ∧ ∃ τ' : Nat → Int → Int, FLT M' τ' ∧ (∀ F' S' : Int, frX b F' S' now τ τ') ∧ rel τ τ' 0)
theorem CPk_33 {b now : Int} : ∀ (m : Nat) (M τ : Nat → Int → Int) (k : Int), (RL b now (M 17) (M 91 3) (M 92) (M 93) (M 94) (M 91 4) (M 91 9) (M 95) (M 33 0) (M 33 1) (M 48 13) (M 91 14) (M 99) (M 100) (M 96) (M 97) (M 98) (M 44) (M 46) (M 47) (M 34) (M 35) (zs (M 36) now (M 91 9)) (M 38) (M 40) (M 42) (M 49) (M 50) (M 51) (M 52) (M 53) (M 54) (M 55) (M 56) (M 57) (M 58) (M 59) (M 60) (M 61) 0 0 (M 48 13) (hat τ)) → M 91 9 = k → 1 ≤ k → M 91 3 - M 91 4 < m → ∀ (d : Nat) (P : Nat → Nat → Nat) (Q : zQ), (∀ (M' : Nat → Int → Int) (r : Int), OPp_33 b now rHk τ M M' r → Q (zS P M') (some (vI r))) → WP (d + 19) 233 0 0 2 [some (vR 91), some (vI k)] [] (zS P M) Q := by
  intro m
  induction m with
  | zero =>
    intro M τ k h _ _ hm
    have := (RLh_f h).2.2.2.2.2.2.1
    omega
  | succ m ih =>
    intro M τ k h hk hk1 hm d P Q hQ
    subst hk
    obtain ⟨ft, fb, ⟨f11, f12⟩, f73, fv, fN, fi, fV, tkc⟩ := RLh_f h
    by_cases c41 : M 92 (M 91 4) = 41
    · obtain ⟨g1, r1⟩ := PPz_ok h c41
      have h1 := E_hat_adv h (by omega)
      refine readPar_z (M 91 9) fi fN fv.2 c41 (hQ _ _ (Or.inl ⟨rfl, ⟨fun c a e => ?_, fun k e => ?_⟩, (by show M 91 4 ≤ M 91 4 + 1; omega), adv τ, h1, g1, rfl, r1⟩)) (fun a1 a2 a3 q => absurd c41 q)
      · funext k; exact if_neg (fun q => a q.1)
      · exact if_neg (fun q => e (by omega))
    · refine readPar_k (M 91 9) fi fN fv hk1 fv.2 c41 (fun e ok => ?_) (fun a1 a2 w1 a4 a5 e y => hQ _ _ (Or.inr ⟨rfl, (by repeat first | exact frO_refl | refine frO_up (by decide) ?_ | refine frO_row (by decide) ?_), ?_⟩)) (fun a1 a2 w1 a4 a5 e no y => hQ _ _ (Or.inr ⟨rfl, (by repeat first | exact frO_refl | refine frO_up (by decide) ?_ | refine frO_row (by decide) ?_), ?_⟩))
      · have i1 := nE0 fN fi (by omega)
        have h1 := E_hat_adv h (by omega)
        have h2 := E_par h1 ok.1 ok.2.1 ok.2.2
        have gg : ∀ F' S' : Int, frX b F' S' now τ (zrow (zrow (zrow (adv (adv τ)) 473 (zs ((adv τ) 473) (8 * (adv τ) 467 11 + (adv τ) 467 12) ((adv τ) 473 (8 * (adv τ) 467 11 + (adv τ) 467 12) + 1))) 474 (zs ((adv τ) 474) (8 * (adv τ) 467 11 + (adv τ) 467 12) ((adv τ) 473 (8 * (adv τ) 467 11 + (adv τ) 467 12) + 1))) 500 (zs ((adv τ) 500) ((adv τ) 473 (8 * (adv τ) 467 11 + (adv τ) 467 12)) ((adv τ) 467 10))) := fun F' S' => frX_tr (frX_adv frX_refl) (frX_par h1 (fun z => z))
        have rt : ∀ (τ' : Nat → Int → Int) (r : Int), rHk (zrow (zrow (zrow (adv (adv τ)) 473 (zs ((adv τ) 473) (8 * (adv τ) 467 11 + (adv τ) 467 12) ((adv τ) 473 (8 * (adv τ) 467 11 + (adv τ) 467 12) + 1))) 474 (zs ((adv τ) 474) (8 * (adv τ) 467 11 + (adv τ) 467 12) ((adv τ) 473 (8 * (adv τ) 467 11 + (adv τ) 467 12) + 1))) 500 (zs ((adv τ) 500) ((adv τ) 473 (8 * (adv τ) 467 11 + (adv τ) 467 12)) ((adv τ) 467 10))) τ' r → rHk τ τ' r := fun τ' r q d P A Q y1 k' => PPk h e d P A Q y1 (fun y1 => PPl_ok h1 ok.1 ok.2.1 ok.2.2 d P A Q y1 (fun y1 => q d P A Q y1 k'))
        rw [show M 91 4 + 1 + 1 = M 91 4 + 2 by omega] at h2
        have i2 := nE1 fN fi (by omega) (by have := ok.1; omega)
        refine ih _ (zrow (zrow (zrow (adv (adv τ)) 473 (zs ((adv τ) 473) (8 * (adv τ) 467 11 + (adv τ) 467 12) ((adv τ) 473 (8 * (adv τ) 467 11 + (adv τ) 467 12) + 1))) 474 (zs ((adv τ) 474) (8 * (adv τ) 467 11 + (adv τ) 467 12) ((adv τ) 473 (8 * (adv τ) 467 11 + (adv τ) 467 12) + 1))) 500 (zs ((adv τ) 500) ((adv τ) 473 (8 * (adv τ) 467 11 + (adv τ) 467 12)) ((adv τ) 467 10))) (M 91 9 + 1) ?_ ?_ (by omega) ?_ d P Q (fun M' r oc => hQ M' r ?_)
        · exact h2
        · rfl
        · show M 91 3 - (M 91 4 + 2) < (m : Int)
          omega
        · have fq : frQ M (zup (zup (zrow M 95 (zs (M 95) (M 91 9) (M 94 (M 91 4 + 1)))) 91 4 (M 91 4 + 2)) 91 9 (M 91 9 + 1)) := by
            refine ⟨fun c a e => ?_, fun k e => ?_⟩
            · funext k
              unfold zup zrow
              rw [if_neg (fun q => a q.1), if_neg (fun q => a q.1), if_neg e]
            · unfold zup zrow
              rw [if_neg (fun q => e (by omega)), if_neg (fun q => e (by omega)), if_neg (by decide)]
          rcases oc with ⟨z1, z0, zp, τ', z3, z4, z47, z5⟩ | ⟨z1, z0, τ', z3, z4, z5⟩
          · exact Or.inl ⟨z1, frQ_tr fq z0, Int.le_trans (show M 91 4 ≤ M 91 4 + 2 by omega) zp, τ', z3, fun F' S' => frX_tr (gg F' S') (z4 F' S'), z47, rt _ _ z5⟩
          · exact Or.inr ⟨z1, frO_tr (frQ_O fq) z0, τ', z3, fun F' S' => frX_tr (gg F' S') (z4 F' S'), rt _ _ z5⟩
      · obtain ⟨τ1, g1, e1, r1⟩ := PPz_f h c41 e
        refine ⟨τ1, ⟨by show 1 ≤ a4 ∧ a4 ≤ 6; omega, by show 0 ≤ a5 ∧ a5 ≤ 400; rw [y.2]; exact tkC_st tkc fi.1 fi.2, ?_⟩, g1, r1⟩
        show τ1 467 4 = -1000 * a4 - a5
        rw [e1, y.1, y.2]; omega
      · have i1 := nE0 fN fi (by omega)
        have h1 := E_hat_adv h (by omega)
        obtain ⟨τ1, g1, e1, r1⟩ := PPl_f h1 no
        have pb := prF_b (s := M 92 (M 91 4 + 1)) (v := M 94 (M 91 4 + 1)) (r := M 95) (m := M 91 9)
        refine ⟨τ1, ⟨by show 1 ≤ a4 ∧ a4 ≤ 6; omega, by show 0 ≤ a5 ∧ a5 ≤ 400; rw [y.2]; exact tkC_st tkc (by omega) i1, ?_⟩, fun F' S' => frX_tr (frX_adv frX_refl) (g1 F' S'), fun d P A Q y1 k' => PPk h e d P A Q y1 (fun y1 => r1 d P A Q y1 k')⟩
        show τ1 467 4 = -1000 * a4 - a5
        rw [e1, y.1, y.2]
theorem CP0_33 {b now : Int} {M τ : Nat → Int → Int} (h : (RL b now (M 17) (M 91 3) (M 92) (M 93) (M 94) (M 91 4) (M 91 9) (M 95) (M 33 0) (M 33 1) (M 48 13) (M 91 14) (M 99) (M 100) (M 96) (M 97) (M 98) (M 44) (M 46) (M 47) (M 34) (M 35) (zs (M 36) now (M 91 9)) (M 38) (M 40) (M 42) (M 49) (M 50) (M 51) (M 52) (M 53) (M 54) (M 55) (M 56) (M 57) (M 58) (M 59) (M 60) (M 61) 0 0 (M 48 13) (hat τ))) (h0 : M 91 9 = 0) (d : Nat) (P : Nat → Nat → Nat) (Q : zQ) (hQ : ∀ (M' : Nat → Int → Int) (r : Int), OPp_33 b now rHp τ M M' r → Q (zS P M') (some (vI r))) : WP (d + 19) 233 0 0 2 [some (vR 91), some (vI 0)] [] (zS P M) Q := by
  obtain ⟨ft, fb, ⟨f11, f12⟩, f73, fv, fN, fi, fV, tkc⟩ := RLh_f h
  by_cases c41 : M 92 (M 91 4) = 41
  · obtain ⟨g1, r1⟩ := PPz_ok h c41
    have h1 := E_hat_adv h (by omega)
    refine readPar_z 0 fi fN (by decide) c41 (hQ _ _ (Or.inl ⟨rfl, ⟨fun c a e => ?_, fun k e => ?_⟩, (by show M 91 4 ≤ M 91 4 + 1; omega), adv τ, h1, g1, rfl, fun d P A Q y1 k' => PP0 h c41 d P A Q y1 (fun y1 => r1 d P A Q y1 k')⟩)) (fun a1 a2 a3 q => absurd c41 q)
    · funext k; exact if_neg (fun q => a q.1)
    · exact if_neg (fun q => e (by omega))
  · refine readPar_0 fi fN fv c41 (fun ok => ?_) (fun a1 a2 w1 a4 a5 no y => hQ _ _ (Or.inr ⟨rfl, (by repeat first | exact frO_refl | refine frO_up (by decide) ?_ | refine frO_row (by decide) ?_), ?_⟩))
    · have h2 := E_par h ok.1 ok.2.1 ok.2.2
      have gg : ∀ F' S' : Int, frX b F' S' now τ (zrow (zrow (zrow (adv τ) 473 (zs (τ 473) (8 * τ 467 11 + τ 467 12) (τ 473 (8 * τ 467 11 + τ 467 12) + 1))) 474 (zs (τ 474) (8 * τ 467 11 + τ 467 12) (τ 473 (8 * τ 467 11 + τ 467 12) + 1))) 500 (zs (τ 500) (τ 473 (8 * τ 467 11 + τ 467 12)) (τ 467 10))) := fun F' S' => frX_par h (fun z => z)
      have rt : ∀ (τ' : Nat → Int → Int) (r : Int), rHk (zrow (zrow (zrow (adv τ) 473 (zs (τ 473) (8 * τ 467 11 + τ 467 12) (τ 473 (8 * τ 467 11 + τ 467 12) + 1))) 474 (zs (τ 474) (8 * τ 467 11 + τ 467 12) (τ 473 (8 * τ 467 11 + τ 467 12) + 1))) 500 (zs (τ 500) (τ 473 (8 * τ 467 11 + τ 467 12)) (τ 467 10))) τ' r → rHp τ τ' r := fun τ' r q d P A Q y1 k' => PP1_ok h c41 ok.1 ok.2.1 ok.2.2 d P A Q y1 (fun y1 => q d P A Q y1 k')
      have i1 := nE0 fN fi (by have := ok.1; omega)
      refine CPk_33 (b := b) (now := now) ((M 91 3 - M 91 4).toNat + 1) _ (zrow (zrow (zrow (adv τ) 473 (zs (τ 473) (8 * τ 467 11 + τ 467 12) (τ 473 (8 * τ 467 11 + τ 467 12) + 1))) 474 (zs (τ 474) (8 * τ 467 11 + τ 467 12) (τ 473 (8 * τ 467 11 + τ 467 12) + 1))) 500 (zs (τ 500) (τ 473 (8 * τ 467 11 + τ 467 12)) (τ 467 10))) 1 ?_ ?_ (by decide) ?_ d P Q (fun M' r oc => hQ M' r ?_)
      · exact h2
      · show M 91 9 + 1 = 1
        omega
      · show M 91 3 - (M 91 4 + 1) < (((M 91 3 - M 91 4).toNat + 1 : Nat) : Int)
        omega
      · have fq : frQ M (zup (zup (zrow M 95 (zs (M 95) (M 91 9) (M 94 (M 91 4)))) 91 4 (M 91 4 + 1)) 91 9 (M 91 9 + 1)) := by
          refine ⟨fun c a e => ?_, fun k e => ?_⟩
          · funext k
            unfold zup zrow
            rw [if_neg (fun q => a q.1), if_neg (fun q => a q.1), if_neg e]
          · unfold zup zrow
            rw [if_neg (fun q => e (by omega)), if_neg (fun q => e (by omega)), if_neg (by decide)]
        rcases oc with ⟨z1, z0, zp, τ', z3, z4, z47, z5⟩ | ⟨z1, z0, τ', z3, z4, z5⟩
        · exact Or.inl ⟨z1, frQ_tr fq z0, Int.le_trans (show M 91 4 ≤ M 91 4 + 1 by omega) zp, τ', z3, fun F' S' => frX_tr (gg F' S') (z4 F' S'), z47, rt _ _ z5⟩
        · exact Or.inr ⟨z1, frO_tr (frQ_O fq) z0, τ', z3, fun F' S' => frX_tr (gg F' S') (z4 F' S'), rt _ _ z5⟩
    · obtain ⟨τ1, g1, e1, r1⟩ := PP1_f h c41 no
      have pb := prF_b (s := M 92 (M 91 4)) (v := M 94 (M 91 4)) (r := M 95) (m := M 91 9)
      refine ⟨τ1, ⟨by show 1 ≤ a4 ∧ a4 ≤ 6; omega, by show 0 ≤ a5 ∧ a5 ≤ 400; rw [y.2]; exact tkC_st tkc fi.1 fi.2, ?_⟩, g1, r1⟩
      show τ1 467 4 = -1000 * a4 - a5
      rw [e1, y.1, y.2]
def OPp_62 (b now : Int) (rel : (Nat → Int → Int) → (Nat → Int → Int) → Int → Prop) (τ M M' : Nat → Int → Int) (r : Int) : Prop :=
  (r = 1 ∧ frQ M M' ∧ M 91 4 ≤ M' 91 4 ∧ ∃ τ' : Nat → Int → Int, (RL b now (M' 17) (M' 91 3) (M' 92) (M' 93) (M' 94) (M' 91 4) (M' 91 9) (M' 95) (M' 62 0) (M' 62 1) (M' 77 13) (M' 91 14) (M' 99) (M' 100) (M' 96) (M' 97) (M' 98) (M' 73) (M' 75) (M' 76) (M' 63) (M' 64) (zs (M' 65) now (M' 91 9)) (M' 67) (M' 69) (M' 71) (M' 78) (M' 79) (M' 80) (M' 81) (M' 82) (M' 83) (M' 84) (M' 85) (M' 86) (M' 87) (M' 88) (M' 89) (M' 90) 0 0 (M' 77 13) (hat τ')) ∧ (∀ F' S' : Int, frX b F' S' now τ τ') ∧ τ' 467 47 = τ 467 47 ∧ rel τ τ' 1) ∨
  (r = 0 ∧ frO 62 M M' ∧ ∃ τ' : Nat → Int → Int, FLT M' τ' ∧ (∀ F' S' : Int, frX b F' S' now τ τ') ∧ rel τ τ' 0)
theorem CPk_62 {b now : Int} : ∀ (m : Nat) (M τ : Nat → Int → Int) (k : Int), (RL b now (M 17) (M 91 3) (M 92) (M 93) (M 94) (M 91 4) (M 91 9) (M 95) (M 62 0) (M 62 1) (M 77 13) (M 91 14) (M 99) (M 100) (M 96) (M 97) (M 98) (M 73) (M 75) (M 76) (M 63) (M 64) (zs (M 65) now (M 91 9)) (M 67) (M 69) (M 71) (M 78) (M 79) (M 80) (M 81) (M 82) (M 83) (M 84) (M 85) (M 86) (M 87) (M 88) (M 89) (M 90) 0 0 (M 77 13) (hat τ)) → M 91 9 = k → 1 ≤ k → M 91 3 - M 91 4 < m → ∀ (d : Nat) (P : Nat → Nat → Nat) (Q : zQ), (∀ (M' : Nat → Int → Int) (r : Int), OPp_62 b now rHk τ M M' r → Q (zS P M') (some (vI r))) → WP (d + 19) 233 0 0 2 [some (vR 91), some (vI k)] [] (zS P M) Q := by
  intro m
  induction m with
  | zero =>
    intro M τ k h _ _ hm
    have := (RLh_f h).2.2.2.2.2.2.1
    omega
  | succ m ih =>
    intro M τ k h hk hk1 hm d P Q hQ
    subst hk
    obtain ⟨ft, fb, ⟨f11, f12⟩, f73, fv, fN, fi, fV, tkc⟩ := RLh_f h
    by_cases c41 : M 92 (M 91 4) = 41
    · obtain ⟨g1, r1⟩ := PPz_ok h c41
      have h1 := E_hat_adv h (by omega)
      refine readPar_z (M 91 9) fi fN fv.2 c41 (hQ _ _ (Or.inl ⟨rfl, ⟨fun c a e => ?_, fun k e => ?_⟩, (by show M 91 4 ≤ M 91 4 + 1; omega), adv τ, h1, g1, rfl, r1⟩)) (fun a1 a2 a3 q => absurd c41 q)
      · funext k; exact if_neg (fun q => a q.1)
      · exact if_neg (fun q => e (by omega))
    · refine readPar_k (M 91 9) fi fN fv hk1 fv.2 c41 (fun e ok => ?_) (fun a1 a2 w1 a4 a5 e y => hQ _ _ (Or.inr ⟨rfl, (by repeat first | exact frO_refl | refine frO_up (by decide) ?_ | refine frO_row (by decide) ?_), ?_⟩)) (fun a1 a2 w1 a4 a5 e no y => hQ _ _ (Or.inr ⟨rfl, (by repeat first | exact frO_refl | refine frO_up (by decide) ?_ | refine frO_row (by decide) ?_), ?_⟩))
      · have i1 := nE0 fN fi (by omega)
        have h1 := E_hat_adv h (by omega)
        have h2 := E_par h1 ok.1 ok.2.1 ok.2.2
        have gg : ∀ F' S' : Int, frX b F' S' now τ (zrow (zrow (zrow (adv (adv τ)) 473 (zs ((adv τ) 473) (8 * (adv τ) 467 11 + (adv τ) 467 12) ((adv τ) 473 (8 * (adv τ) 467 11 + (adv τ) 467 12) + 1))) 474 (zs ((adv τ) 474) (8 * (adv τ) 467 11 + (adv τ) 467 12) ((adv τ) 473 (8 * (adv τ) 467 11 + (adv τ) 467 12) + 1))) 500 (zs ((adv τ) 500) ((adv τ) 473 (8 * (adv τ) 467 11 + (adv τ) 467 12)) ((adv τ) 467 10))) := fun F' S' => frX_tr (frX_adv frX_refl) (frX_par h1 (fun z => z))
        have rt : ∀ (τ' : Nat → Int → Int) (r : Int), rHk (zrow (zrow (zrow (adv (adv τ)) 473 (zs ((adv τ) 473) (8 * (adv τ) 467 11 + (adv τ) 467 12) ((adv τ) 473 (8 * (adv τ) 467 11 + (adv τ) 467 12) + 1))) 474 (zs ((adv τ) 474) (8 * (adv τ) 467 11 + (adv τ) 467 12) ((adv τ) 473 (8 * (adv τ) 467 11 + (adv τ) 467 12) + 1))) 500 (zs ((adv τ) 500) ((adv τ) 473 (8 * (adv τ) 467 11 + (adv τ) 467 12)) ((adv τ) 467 10))) τ' r → rHk τ τ' r := fun τ' r q d P A Q y1 k' => PPk h e d P A Q y1 (fun y1 => PPl_ok h1 ok.1 ok.2.1 ok.2.2 d P A Q y1 (fun y1 => q d P A Q y1 k'))
        rw [show M 91 4 + 1 + 1 = M 91 4 + 2 by omega] at h2
        have i2 := nE1 fN fi (by omega) (by have := ok.1; omega)
        refine ih _ (zrow (zrow (zrow (adv (adv τ)) 473 (zs ((adv τ) 473) (8 * (adv τ) 467 11 + (adv τ) 467 12) ((adv τ) 473 (8 * (adv τ) 467 11 + (adv τ) 467 12) + 1))) 474 (zs ((adv τ) 474) (8 * (adv τ) 467 11 + (adv τ) 467 12) ((adv τ) 473 (8 * (adv τ) 467 11 + (adv τ) 467 12) + 1))) 500 (zs ((adv τ) 500) ((adv τ) 473 (8 * (adv τ) 467 11 + (adv τ) 467 12)) ((adv τ) 467 10))) (M 91 9 + 1) ?_ ?_ (by omega) ?_ d P Q (fun M' r oc => hQ M' r ?_)
        · exact h2
        · rfl
        · show M 91 3 - (M 91 4 + 2) < (m : Int)
          omega
        · have fq : frQ M (zup (zup (zrow M 95 (zs (M 95) (M 91 9) (M 94 (M 91 4 + 1)))) 91 4 (M 91 4 + 2)) 91 9 (M 91 9 + 1)) := by
            refine ⟨fun c a e => ?_, fun k e => ?_⟩
            · funext k
              unfold zup zrow
              rw [if_neg (fun q => a q.1), if_neg (fun q => a q.1), if_neg e]
            · unfold zup zrow
              rw [if_neg (fun q => e (by omega)), if_neg (fun q => e (by omega)), if_neg (by decide)]
          rcases oc with ⟨z1, z0, zp, τ', z3, z4, z47, z5⟩ | ⟨z1, z0, τ', z3, z4, z5⟩
          · exact Or.inl ⟨z1, frQ_tr fq z0, Int.le_trans (show M 91 4 ≤ M 91 4 + 2 by omega) zp, τ', z3, fun F' S' => frX_tr (gg F' S') (z4 F' S'), z47, rt _ _ z5⟩
          · exact Or.inr ⟨z1, frO_tr (frQ_O fq) z0, τ', z3, fun F' S' => frX_tr (gg F' S') (z4 F' S'), rt _ _ z5⟩
      · obtain ⟨τ1, g1, e1, r1⟩ := PPz_f h c41 e
        refine ⟨τ1, ⟨by show 1 ≤ a4 ∧ a4 ≤ 6; omega, by show 0 ≤ a5 ∧ a5 ≤ 400; rw [y.2]; exact tkC_st tkc fi.1 fi.2, ?_⟩, g1, r1⟩
        show τ1 467 4 = -1000 * a4 - a5
        rw [e1, y.1, y.2]; omega
      · have i1 := nE0 fN fi (by omega)
        have h1 := E_hat_adv h (by omega)
        obtain ⟨τ1, g1, e1, r1⟩ := PPl_f h1 no
        have pb := prF_b (s := M 92 (M 91 4 + 1)) (v := M 94 (M 91 4 + 1)) (r := M 95) (m := M 91 9)
        refine ⟨τ1, ⟨by show 1 ≤ a4 ∧ a4 ≤ 6; omega, by show 0 ≤ a5 ∧ a5 ≤ 400; rw [y.2]; exact tkC_st tkc (by omega) i1, ?_⟩, fun F' S' => frX_tr (frX_adv frX_refl) (g1 F' S'), fun d P A Q y1 k' => PPk h e d P A Q y1 (fun y1 => r1 d P A Q y1 k')⟩
        show τ1 467 4 = -1000 * a4 - a5
        rw [e1, y.1, y.2]
theorem CP0_62 {b now : Int} {M τ : Nat → Int → Int} (h : (RL b now (M 17) (M 91 3) (M 92) (M 93) (M 94) (M 91 4) (M 91 9) (M 95) (M 62 0) (M 62 1) (M 77 13) (M 91 14) (M 99) (M 100) (M 96) (M 97) (M 98) (M 73) (M 75) (M 76) (M 63) (M 64) (zs (M 65) now (M 91 9)) (M 67) (M 69) (M 71) (M 78) (M 79) (M 80) (M 81) (M 82) (M 83) (M 84) (M 85) (M 86) (M 87) (M 88) (M 89) (M 90) 0 0 (M 77 13) (hat τ))) (h0 : M 91 9 = 0) (d : Nat) (P : Nat → Nat → Nat) (Q : zQ) (hQ : ∀ (M' : Nat → Int → Int) (r : Int), OPp_62 b now rHp τ M M' r → Q (zS P M') (some (vI r))) : WP (d + 19) 233 0 0 2 [some (vR 91), some (vI 0)] [] (zS P M) Q := by
  obtain ⟨ft, fb, ⟨f11, f12⟩, f73, fv, fN, fi, fV, tkc⟩ := RLh_f h
  by_cases c41 : M 92 (M 91 4) = 41
  · obtain ⟨g1, r1⟩ := PPz_ok h c41
    have h1 := E_hat_adv h (by omega)
    refine readPar_z 0 fi fN (by decide) c41 (hQ _ _ (Or.inl ⟨rfl, ⟨fun c a e => ?_, fun k e => ?_⟩, (by show M 91 4 ≤ M 91 4 + 1; omega), adv τ, h1, g1, rfl, fun d P A Q y1 k' => PP0 h c41 d P A Q y1 (fun y1 => r1 d P A Q y1 k')⟩)) (fun a1 a2 a3 q => absurd c41 q)
    · funext k; exact if_neg (fun q => a q.1)
    · exact if_neg (fun q => e (by omega))
  · refine readPar_0 fi fN fv c41 (fun ok => ?_) (fun a1 a2 w1 a4 a5 no y => hQ _ _ (Or.inr ⟨rfl, (by repeat first | exact frO_refl | refine frO_up (by decide) ?_ | refine frO_row (by decide) ?_), ?_⟩))
    · have h2 := E_par h ok.1 ok.2.1 ok.2.2
      have gg : ∀ F' S' : Int, frX b F' S' now τ (zrow (zrow (zrow (adv τ) 473 (zs (τ 473) (8 * τ 467 11 + τ 467 12) (τ 473 (8 * τ 467 11 + τ 467 12) + 1))) 474 (zs (τ 474) (8 * τ 467 11 + τ 467 12) (τ 473 (8 * τ 467 11 + τ 467 12) + 1))) 500 (zs (τ 500) (τ 473 (8 * τ 467 11 + τ 467 12)) (τ 467 10))) := fun F' S' => frX_par h (fun z => z)
      have rt : ∀ (τ' : Nat → Int → Int) (r : Int), rHk (zrow (zrow (zrow (adv τ) 473 (zs (τ 473) (8 * τ 467 11 + τ 467 12) (τ 473 (8 * τ 467 11 + τ 467 12) + 1))) 474 (zs (τ 474) (8 * τ 467 11 + τ 467 12) (τ 473 (8 * τ 467 11 + τ 467 12) + 1))) 500 (zs (τ 500) (τ 473 (8 * τ 467 11 + τ 467 12)) (τ 467 10))) τ' r → rHp τ τ' r := fun τ' r q d P A Q y1 k' => PP1_ok h c41 ok.1 ok.2.1 ok.2.2 d P A Q y1 (fun y1 => q d P A Q y1 k')
      have i1 := nE0 fN fi (by have := ok.1; omega)
      refine CPk_62 (b := b) (now := now) ((M 91 3 - M 91 4).toNat + 1) _ (zrow (zrow (zrow (adv τ) 473 (zs (τ 473) (8 * τ 467 11 + τ 467 12) (τ 473 (8 * τ 467 11 + τ 467 12) + 1))) 474 (zs (τ 474) (8 * τ 467 11 + τ 467 12) (τ 473 (8 * τ 467 11 + τ 467 12) + 1))) 500 (zs (τ 500) (τ 473 (8 * τ 467 11 + τ 467 12)) (τ 467 10))) 1 ?_ ?_ (by decide) ?_ d P Q (fun M' r oc => hQ M' r ?_)
      · exact h2
      · show M 91 9 + 1 = 1
        omega
      · show M 91 3 - (M 91 4 + 1) < (((M 91 3 - M 91 4).toNat + 1 : Nat) : Int)
        omega
      · have fq : frQ M (zup (zup (zrow M 95 (zs (M 95) (M 91 9) (M 94 (M 91 4)))) 91 4 (M 91 4 + 1)) 91 9 (M 91 9 + 1)) := by
          refine ⟨fun c a e => ?_, fun k e => ?_⟩
          · funext k
            unfold zup zrow
            rw [if_neg (fun q => a q.1), if_neg (fun q => a q.1), if_neg e]
          · unfold zup zrow
            rw [if_neg (fun q => e (by omega)), if_neg (fun q => e (by omega)), if_neg (by decide)]
        rcases oc with ⟨z1, z0, zp, τ', z3, z4, z47, z5⟩ | ⟨z1, z0, τ', z3, z4, z5⟩
        · exact Or.inl ⟨z1, frQ_tr fq z0, Int.le_trans (show M 91 4 ≤ M 91 4 + 1 by omega) zp, τ', z3, fun F' S' => frX_tr (gg F' S') (z4 F' S'), z47, rt _ _ z5⟩
        · exact Or.inr ⟨z1, frO_tr (frQ_O fq) z0, τ', z3, fun F' S' => frX_tr (gg F' S') (z4 F' S'), rt _ _ z5⟩
    · obtain ⟨τ1, g1, e1, r1⟩ := PP1_f h c41 no
      have pb := prF_b (s := M 92 (M 91 4)) (v := M 94 (M 91 4)) (r := M 95) (m := M 91 9)
      refine ⟨τ1, ⟨by show 1 ≤ a4 ∧ a4 ≤ 6; omega, by show 0 ≤ a5 ∧ a5 ≤ 400; rw [y.2]; exact tkC_st tkc fi.1 fi.2, ?_⟩, g1, r1⟩
      show τ1 467 4 = -1000 * a4 - a5
      rw [e1, y.1, y.2]
