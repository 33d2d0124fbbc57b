/-! Both readers together: rf -/
/-- the reference's reads(), from its inner loop's head: to its outer one's, and to its end with a fault -/
def rR (τ τ' : Nat → Int → Int) : Prop := ∀ (d : Nat) (P : Nat → Nat → Nat) (A : Nat → Int → Int) (Q : zQ), WP (d + 33) 64 0 0 30 [some (vR 467)] [] (zS P (mix A τ')) Q → WP (d + 33) 64 0 0 60 [some (vR 467)] [] (zS P (mix A τ)) Q
def rRf (τ τ' : Nat → Int → Int) : Prop := ∀ (d : Nat) (P : Nat → Nat → Nat) (A : Nat → Int → Int) (Q : zQ), Q (zS P (mix A τ')) (some (vI 0)) → WP (d + 33) 64 0 0 60 [some (vR 467)] [] (zS P (mix A τ)) Q
def OB_33 (b now F S : Int) (τ M M' : Nat → Int → Int) (r : Int) : Prop :=
  (r = 1 ∧ ∃ M2 τ' : Nat → Int → Int, frC 33 F S now M M2 ∧ M' = (zup (zrow (zrow (zrow (zrow M2 37 (zs (M2 37) (M2 33 0 - 1) (M2 91 9))) 39 (zs (M2 39) (M2 33 0 - 1) (M2 48 13 - M2 38 (M2 33 0 - 1)))) 41 (zs (M2 41) (M2 33 0 - 1) (M2 33 1 - M2 40 (M2 33 0 - 1)))) 43 (zs (M2 43) (M2 33 0 - 1) (M2 48 13 - M2 38 (M2 33 0 - 1) - gvn (M2 42 (M2 33 0 - 1)) + M2 91 9))) 91 4 (M2 91 4 + 1)) ∧ ((RL b now (M2 17) (M2 91 3) (M2 92) (M2 93) (M2 94) (M2 91 4 + 1) (M2 91 9) (M2 95) (M2 33 0) (M2 33 1) (M2 48 13) (M2 91 14) (M2 99) (M2 100) (M2 96) (M2 97) (M2 98) (M2 44) (M2 46) (M2 47) (M2 34) (M2 35) (M2 36) (M2 38) (M2 40) (M2 42) (M2 49) (M2 50) (M2 51) (M2 52) (M2 53) (M2 54) (M2 55) (M2 56) (M2 57) (M2 58) (M2 59) (M2 60) (M2 61) 0 0 (M2 48 13) (zup τ' 467 47 1)) ∨ ((RL b now (M2 17) (M2 91 3) (M2 92) (M2 93) (M2 94) (M2 91 4 + 1) (M2 91 9) (M2 95) (M2 33 0) (M2 33 1) (M2 48 13) (M2 91 14) (M2 99) (M2 100) (M2 96) (M2 97) (M2 98) (M2 44) (M2 46) (M2 47) (M2 34) (M2 35) (M2 36) (M2 38) (M2 40) (M2 42) (M2 49) (M2 50) (M2 51) (M2 52) (M2 53) (M2 54) (M2 55) (M2 56) (M2 57) (M2 58) (M2 59) (M2 60) (M2 61) 1 1 (M2 48 13) (zup τ' 467 47 1)) ∧ (M2 38 now < M2 48 13 ∧ M2 49 (M2 48 13 - 1) = 9 ∧ M2 42 now = M2 51 (M2 48 13 - 1) ∧ ¬ M2 51 (M2 48 13 - 1) = -2))) ∧ τ' 467 47 = 0 ∧ M2 91 14 = 0 ∧ frX b F S now τ τ' ∧ rR τ τ') ∨
  (r = 0 ∧ frO 33 M M' ∧ ∃ τ' : Nat → Int → Int, FLT M' τ' ∧ frX b F S now τ τ' ∧ rRf τ τ')
theorem frCO_33 {F S now : Int} {M M' : Nat → Int → Int} (h : frC 33 F S now M M') : frO 33 M M' := h.1
theorem LB_33 {b now F S : Int} : ∀ (m : Nat) (M τ : Nat → Int → Int) (t : Int), ((RL b now (M 17) (M 91 3) (M 92) (M 93) (M 94) (M 91 4) (M 91 9) (M 95) (M 33 0) (M 33 1) (M 48 13) (M 91 14) (M 99) (M 100) (M 96) (M 97) (M 98) (M 44) (M 46) (M 47) (M 34) (M 35) (M 36) (M 38) (M 40) (M 42) (M 49) (M 50) (M 51) (M 52) (M 53) (M 54) (M 55) (M 56) (M 57) (M 58) (M 59) (M 60) (M 61) 0 0 (M 48 13) τ) ∨ ((RL b now (M 17) (M 91 3) (M 92) (M 93) (M 94) (M 91 4) (M 91 9) (M 95) (M 33 0) (M 33 1) (M 48 13) (M 91 14) (M 99) (M 100) (M 96) (M 97) (M 98) (M 44) (M 46) (M 47) (M 34) (M 35) (M 36) (M 38) (M 40) (M 42) (M 49) (M 50) (M 51) (M 52) (M 53) (M 54) (M 55) (M 56) (M 57) (M 58) (M 59) (M 60) (M 61) 1 1 (M 48 13) τ) ∧ M 91 14 = 0 ∧ M 92 (M 91 4) = 125 ∧ M 38 now < M 48 13 ∧ M 49 (M 48 13 - 1) = 9 ∧ M 42 now = M 51 (M 48 13 - 1) ∧ ¬ M 51 (M 48 13 - 1) = -2)) → M 38 now = F → M 40 now = S → (0 ≤ t ∧ t ≤ M 91 4) → M 91 3 - M 91 4 < m → ∀ (d : Nat) (P : Nat → Nat → Nat) (Q : zQ) (x2 : Option zV), (∀ (M' : Nat → Int → Int) (r : Int), OB_33 b now F S τ M M' r → Q (zS (zupN P 91 8 33) M') (some (vI r))) → WP (d + 119) 235 0 0 2 [some (vR 91), some (vI t), x2] [] (zS (zupN P 91 8 33) M) Q := by
  intro m
  induction m with
  | zero =>
    intro M τ t h _ _ _ hm
    rcases h with h | ⟨h, _⟩ <;> (have := (RL_f h).2.2.2.2.2.2.2.2.2.2; omega)
  | succ m ih =>
    intro M τ t h hF hS ht hm d P Q x2 hQ
    by_cases c : M 92 (M 91 4) = 125
    · by_cases dz : M 91 14 = 0
      · have fin : ∀ (τ1 : Nat → Int → Int), frX b F S now τ τ1 → τ1 467 47 = 0 → rKc τ τ1 1 → 0 < τ 467 47 → (τ 467 5 = 3 ∧ τ 467 8 = 125) → rR τ τ1 := fun τ1 g e r w w2 d P A Q k => pd_c1 (M := mix A τ) (HK := fun M1 => M1 = mix A τ1) (fun Q' k' => r (d + 29) P A Q' (k' _ rfl)) w w2 (fun M1 z => by rw [z]; exact pd_x_r (by omega) k)
        rcases h with h | ⟨h, h2⟩
        · have f := RL_f h
          obtain ⟨fbk, fnv, ⟨f70, n0, n60⟩, ⟨f71, s0, s16'⟩, ⟨f76, F0, Fn⟩, ⟨f78, S0, Sn⟩, ⟨f47, d0, d4⟩, ⟨f11, f12⟩, f74, hNN, hin⟩ := f
          obtain ⟨τ1, h1, g1, r1⟩ := R_closes_0 h dz c
          rw [hF, hS] at g1
          have nf1 := h.2.1.2.2.1
          have en : M 33 0 - 1 = now := by omega
          refine readLines_e_33 t hin hNN ht.1 (by omega) c dz (by omega) h.2.2.1.1 (by rw [en]; omega) (by rw [en]; omega) (hQ _ _ (Or.inl ⟨rfl, M, τ1, frC_refl, rfl, Or.inl h1.1, h1.2, dz, g1, fin τ1 g1 h1.2 r1 (by omega) ((tk_sg h.1.2.2.2 (by decide)).mpr c)⟩))
        · have f := RL_f h
          obtain ⟨fbk, fnv, ⟨f70, n0, n60⟩, ⟨f71, s0, s16'⟩, ⟨f76, F0, Fn⟩, ⟨f78, S0, Sn⟩, ⟨f47, d0, d4⟩, ⟨f11, f12⟩, f74, hNN, hin⟩ := f
          obtain ⟨τ1, h1, g1, r1⟩ := R_closes_0 h dz c
          rw [hF, hS] at g1
          have nf1 := h.2.1.2.2.1
          have en : M 33 0 - 1 = now := by omega
          refine readLines_e_33 t hin hNN ht.1 (by omega) c dz (by omega) h.2.2.1.1 (by rw [en]; omega) (by rw [en]; omega) (hQ _ _ (Or.inl ⟨rfl, M, τ1, frC_refl, rfl, Or.inr ⟨h1.1, h2.2.2⟩, h1.2, dz, g1, fin τ1 g1 h1.2 r1 (by omega) ((tk_sg h.1.2.2.2 (by decide)).mpr c)⟩))
      · have h : (RL b now (M 17) (M 91 3) (M 92) (M 93) (M 94) (M 91 4) (M 91 9) (M 95) (M 33 0) (M 33 1) (M 48 13) (M 91 14) (M 99) (M 100) (M 96) (M 97) (M 98) (M 44) (M 46) (M 47) (M 34) (M 35) (M 36) (M 38) (M 40) (M 42) (M 49) (M 50) (M 51) (M 52) (M 53) (M 54) (M 55) (M 56) (M 57) (M 58) (M 59) (M 60) (M 61) 0 0 (M 48 13) τ) := by
          rcases h with h | ⟨_, h2, _⟩
          · exact h
          · exact absurd h2 dz
        have f := RL_f h
        obtain ⟨fbk, fnv, ⟨f70, n0, n60⟩, ⟨f71, s0, s16'⟩, ⟨f76, F0, Fn⟩, ⟨f78, S0, Sn⟩, ⟨f47, d0, d4⟩, ⟨f11, f12⟩, f74, hNN, hin⟩ := f
        have w := (tk_sg h.1.2.2.2 (c := 125) (by decide)).mpr c
        refine readLines_c_33 (HK := OL_33 b now F S rKc τ M) t (fun Q' hQ' => LK_33 h hF hS c (by omega) (d + 116) P Q' hQ') (by omega) ht.1 (by omega) c dz (fun M1 r1 z nr x2' => ?_) (fun M1 r1 z nr => ?_)
        · rcases z with ⟨z1, z0, zi, τ1, z2, z3, z4⟩ | ⟨z1, z0, _⟩
          · have pr : M 91 4 + 1 ≤ M1 91 4 := by omega
            refine ih M1 τ1 (t + 1) z2 ((z0.2.2.2.2 38 now (by decide) (by decide) (fun q => absurd q (by decide))).trans hF) ((z0.2.2.2.2 40 now (by decide) (by decide) (fun q => absurd q (by decide))).trans hS) ⟨by omega, by omega⟩ (by rw [z0.2.1.1]; omega) d P Q x2' (fun M' r oc => hQ M' r ?_)
            have rt1 : rR τ1 = rR τ1 := rfl
            rcases oc with ⟨y1, M2, τ', y2, y3, y4, y5, y6, y7, y8⟩ | ⟨y1, y0, τ', y3, y4, y5⟩
            · exact Or.inl ⟨y1, M2, τ', frC_tr z0 y2, y3, y4, y5, y6, frX_tr z3 y7, fun d P A Q k => pd_c1 (M := mix A τ) (HK := fun M1 => M1 = mix A τ1) (fun Q' k' => z4 (d + 29) P A Q' (k' _ rfl)) (show 0 < τ 467 47 by omega) w (fun M1 z => by rw [z]; exact y8 d P A Q k)⟩
            · exact Or.inr ⟨y1, frO_tr (frCO_33 z0) y0, τ', y3, frX_tr z3 y4, fun d P A Q k => pd_c1 (M := mix A τ) (HK := fun M1 => M1 = mix A τ1) (fun Q' k' => z4 (d + 29) P A Q' (k' _ rfl)) (show 0 < τ 467 47 by omega) w (fun M1 z => by rw [z]; exact y5 d P A Q k)⟩
          · exact absurd z1 nr
        · rcases z with ⟨z1, _⟩ | ⟨z1, z0, τ1, z2, z3, z4⟩
          · omega
          · exact hQ _ _ (Or.inr ⟨rfl, z0, τ1, z2, z3, fun d P A Q k => pd_c0 (M := mix A τ) (HK := fun M1 => M1 = mix A τ1) (fun Q' k' => z4 (d + 29) P A Q' (k' _ rfl)) (show 0 < τ 467 47 by omega) w (fun M1 z => by rw [z]; exact k)⟩)
    · have h : (RL b now (M 17) (M 91 3) (M 92) (M 93) (M 94) (M 91 4) (M 91 9) (M 95) (M 33 0) (M 33 1) (M 48 13) (M 91 14) (M 99) (M 100) (M 96) (M 97) (M 98) (M 44) (M 46) (M 47) (M 34) (M 35) (M 36) (M 38) (M 40) (M 42) (M 49) (M 50) (M 51) (M 52) (M 53) (M 54) (M 55) (M 56) (M 57) (M 58) (M 59) (M 60) (M 61) 0 0 (M 48 13) τ) := by
        rcases h with h | ⟨_, _, h2, _⟩
        · exact h
        · exact absurd h2 c
      have f := RL_f h
      obtain ⟨fbk, fnv, ⟨f70, n0, n60⟩, ⟨f71, s0, s16'⟩, ⟨f76, F0, Fn⟩, ⟨f78, S0, Sn⟩, ⟨f47, d0, d4⟩, ⟨f11, f12⟩, f74, hNN, hin⟩ := f
      have w : ¬ (τ 467 5 = 3 ∧ τ 467 8 = 125) := fun z => c ((tk_sg h.1.2.2.2 (c := 125) (by decide)).mp z)
      refine readLines_n_33 (HK := OL_33 b now F S rLc τ M) t (fun Q' hQ' => LL_33 h hF hS (d + 9) P Q' hQ') (by omega) ht.1 (by omega) c (fun M1 r1 z nr x2' => ?_) (fun M1 r1 z nr => ?_)
      · rcases z with ⟨z1, z0, zi, τ1, z2, z3, z4⟩ | ⟨z1, z0, _⟩
        · have pr : M 91 4 + 1 ≤ M1 91 4 := by omega
          refine ih M1 τ1 (t + 1) z2 ((z0.2.2.2.2 38 now (by decide) (by decide) (fun q => absurd q (by decide))).trans hF) ((z0.2.2.2.2 40 now (by decide) (by decide) (fun q => absurd q (by decide))).trans hS) ⟨by omega, by omega⟩ (by rw [z0.2.1.1]; omega) d P Q x2' (fun M' r oc => hQ M' r ?_)
          rcases oc with ⟨y1, M2, τ', y2, y3, y4, y5, y6, y7, y8⟩ | ⟨y1, y0, τ', y3, y4, y5⟩
          · exact Or.inl ⟨y1, M2, τ', frC_tr z0 y2, y3, y4, y5, y6, frX_tr z3 y7, fun d P A Q k => pd_l1 (M := mix A τ) (HK := fun M1 => M1 = mix A τ1) (fun Q' k' => z4 (d + 1) P A Q' (k' _ rfl)) (show 0 < τ 467 47 by omega) w (fun M1 z => by rw [z]; exact y8 d P A Q k)⟩
          · exact Or.inr ⟨y1, frO_tr (frCO_33 z0) y0, τ', y3, frX_tr z3 y4, fun d P A Q k => pd_l1 (M := mix A τ) (HK := fun M1 => M1 = mix A τ1) (fun Q' k' => z4 (d + 1) P A Q' (k' _ rfl)) (show 0 < τ 467 47 by omega) w (fun M1 z => by rw [z]; exact y5 d P A Q k)⟩
        · exact absurd z1 nr
      · rcases z with ⟨z1, _⟩ | ⟨z1, z0, τ1, z2, z3, z4⟩
        · omega
        · exact hQ _ _ (Or.inr ⟨rfl, z0, τ1, z2, z3, fun d P A Q k => pd_l0 (M := mix A τ) (HK := fun M1 => M1 = mix A τ1) (fun Q' k' => z4 (d + 1) P A Q' (k' _ rfl)) (show 0 < τ 467 47 by omega) w (fun M1 z => by rw [z]; exact k)⟩)
def OB_62 (b now F S : Int) (τ M M' : Nat → Int → Int) (r : Int) : Prop :=
  (r = 1 ∧ ∃ M2 τ' : Nat → Int → Int, frC 62 F S now M M2 ∧ M' = (zup (zrow (zrow (zrow (zrow M2 66 (zs (M2 66) (M2 62 0 - 1) (M2 91 9))) 68 (zs (M2 68) (M2 62 0 - 1) (M2 77 13 - M2 67 (M2 62 0 - 1)))) 70 (zs (M2 70) (M2 62 0 - 1) (M2 62 1 - M2 69 (M2 62 0 - 1)))) 72 (zs (M2 72) (M2 62 0 - 1) (M2 77 13 - M2 67 (M2 62 0 - 1) - gvn (M2 71 (M2 62 0 - 1)) + M2 91 9))) 91 4 (M2 91 4 + 1)) ∧ ((RL b now (M2 17) (M2 91 3) (M2 92) (M2 93) (M2 94) (M2 91 4 + 1) (M2 91 9) (M2 95) (M2 62 0) (M2 62 1) (M2 77 13) (M2 91 14) (M2 99) (M2 100) (M2 96) (M2 97) (M2 98) (M2 73) (M2 75) (M2 76) (M2 63) (M2 64) (M2 65) (M2 67) (M2 69) (M2 71) (M2 78) (M2 79) (M2 80) (M2 81) (M2 82) (M2 83) (M2 84) (M2 85) (M2 86) (M2 87) (M2 88) (M2 89) (M2 90) 0 0 (M2 77 13) (zup τ' 467 47 1)) ∨ ((RL b now (M2 17) (M2 91 3) (M2 92) (M2 93) (M2 94) (M2 91 4 + 1) (M2 91 9) (M2 95) (M2 62 0) (M2 62 1) (M2 77 13) (M2 91 14) (M2 99) (M2 100) (M2 96) (M2 97) (M2 98) (M2 73) (M2 75) (M2 76) (M2 63) (M2 64) (M2 65) (M2 67) (M2 69) (M2 71) (M2 78) (M2 79) (M2 80) (M2 81) (M2 82) (M2 83) (M2 84) (M2 85) (M2 86) (M2 87) (M2 88) (M2 89) (M2 90) 1 1 (M2 77 13) (zup τ' 467 47 1)) ∧ (M2 67 now < M2 77 13 ∧ M2 78 (M2 77 13 - 1) = 9 ∧ M2 71 now = M2 80 (M2 77 13 - 1) ∧ ¬ M2 80 (M2 77 13 - 1) = -2))) ∧ τ' 467 47 = 0 ∧ M2 91 14 = 0 ∧ frX b F S now τ τ' ∧ rR τ τ') ∨
  (r = 0 ∧ frO 62 M M' ∧ ∃ τ' : Nat → Int → Int, FLT M' τ' ∧ frX b F S now τ τ' ∧ rRf τ τ')
theorem frCO_62 {F S now : Int} {M M' : Nat → Int → Int} (h : frC 62 F S now M M') : frO 62 M M' := h.1
theorem LB_62 {b now F S : Int} : ∀ (m : Nat) (M τ : Nat → Int → Int) (t : Int), ((RL b now (M 17) (M 91 3) (M 92) (M 93) (M 94) (M 91 4) (M 91 9) (M 95) (M 62 0) (M 62 1) (M 77 13) (M 91 14) (M 99) (M 100) (M 96) (M 97) (M 98) (M 73) (M 75) (M 76) (M 63) (M 64) (M 65) (M 67) (M 69) (M 71) (M 78) (M 79) (M 80) (M 81) (M 82) (M 83) (M 84) (M 85) (M 86) (M 87) (M 88) (M 89) (M 90) 0 0 (M 77 13) τ) ∨ ((RL b now (M 17) (M 91 3) (M 92) (M 93) (M 94) (M 91 4) (M 91 9) (M 95) (M 62 0) (M 62 1) (M 77 13) (M 91 14) (M 99) (M 100) (M 96) (M 97) (M 98) (M 73) (M 75) (M 76) (M 63) (M 64) (M 65) (M 67) (M 69) (M 71) (M 78) (M 79) (M 80) (M 81) (M 82) (M 83) (M 84) (M 85) (M 86) (M 87) (M 88) (M 89) (M 90) 1 1 (M 77 13) τ) ∧ M 91 14 = 0 ∧ M 92 (M 91 4) = 125 ∧ M 67 now < M 77 13 ∧ M 78 (M 77 13 - 1) = 9 ∧ M 71 now = M 80 (M 77 13 - 1) ∧ ¬ M 80 (M 77 13 - 1) = -2)) → M 67 now = F → M 69 now = S → (0 ≤ t ∧ t ≤ M 91 4) → M 91 3 - M 91 4 < m → ∀ (d : Nat) (P : Nat → Nat → Nat) (Q : zQ) (x2 : Option zV), (∀ (M' : Nat → Int → Int) (r : Int), OB_62 b now F S τ M M' r → Q (zS (zupN P 91 8 62) M') (some (vI r))) → WP (d + 119) 235 0 0 2 [some (vR 91), some (vI t), x2] [] (zS (zupN P 91 8 62) M) Q := by
  intro m
  induction m with
  | zero =>
    intro M τ t h _ _ _ hm
    rcases h with h | ⟨h, _⟩ <;> (have := (RL_f h).2.2.2.2.2.2.2.2.2.2; omega)
  | succ m ih =>
    intro M τ t h hF hS ht hm d P Q x2 hQ
    by_cases c : M 92 (M 91 4) = 125
    · by_cases dz : M 91 14 = 0
      · have fin : ∀ (τ1 : Nat → Int → Int), frX b F S now τ τ1 → τ1 467 47 = 0 → rKc τ τ1 1 → 0 < τ 467 47 → (τ 467 5 = 3 ∧ τ 467 8 = 125) → rR τ τ1 := fun τ1 g e r w w2 d P A Q k => pd_c1 (M := mix A τ) (HK := fun M1 => M1 = mix A τ1) (fun Q' k' => r (d + 29) P A Q' (k' _ rfl)) w w2 (fun M1 z => by rw [z]; exact pd_x_r (by omega) k)
        rcases h with h | ⟨h, h2⟩
        · have f := RL_f h
          obtain ⟨fbk, fnv, ⟨f70, n0, n60⟩, ⟨f71, s0, s16'⟩, ⟨f76, F0, Fn⟩, ⟨f78, S0, Sn⟩, ⟨f47, d0, d4⟩, ⟨f11, f12⟩, f74, hNN, hin⟩ := f
          obtain ⟨τ1, h1, g1, r1⟩ := R_closes_0 h dz c
          rw [hF, hS] at g1
          have nf1 := h.2.1.2.2.1
          have en : M 62 0 - 1 = now := by omega
          refine readLines_e_62 t hin hNN ht.1 (by omega) c dz (by omega) h.2.2.1.1 (by rw [en]; omega) (by rw [en]; omega) (hQ _ _ (Or.inl ⟨rfl, M, τ1, frC_refl, rfl, Or.inl h1.1, h1.2, dz, g1, fin τ1 g1 h1.2 r1 (by omega) ((tk_sg h.1.2.2.2 (by decide)).mpr c)⟩))
        · have f := RL_f h
          obtain ⟨fbk, fnv, ⟨f70, n0, n60⟩, ⟨f71, s0, s16'⟩, ⟨f76, F0, Fn⟩, ⟨f78, S0, Sn⟩, ⟨f47, d0, d4⟩, ⟨f11, f12⟩, f74, hNN, hin⟩ := f
          obtain ⟨τ1, h1, g1, r1⟩ := R_closes_0 h dz c
          rw [hF, hS] at g1
          have nf1 := h.2.1.2.2.1
          have en : M 62 0 - 1 = now := by omega
          refine readLines_e_62 t hin hNN ht.1 (by omega) c dz (by omega) h.2.2.1.1 (by rw [en]; omega) (by rw [en]; omega) (hQ _ _ (Or.inl ⟨rfl, M, τ1, frC_refl, rfl, Or.inr ⟨h1.1, h2.2.2⟩, h1.2, dz, g1, fin τ1 g1 h1.2 r1 (by omega) ((tk_sg h.1.2.2.2 (by decide)).mpr c)⟩))
      · have h : (RL b now (M 17) (M 91 3) (M 92) (M 93) (M 94) (M 91 4) (M 91 9) (M 95) (M 62 0) (M 62 1) (M 77 13) (M 91 14) (M 99) (M 100) (M 96) (M 97) (M 98) (M 73) (M 75) (M 76) (M 63) (M 64) (M 65) (M 67) (M 69) (M 71) (M 78) (M 79) (M 80) (M 81) (M 82) (M 83) (M 84) (M 85) (M 86) (M 87) (M 88) (M 89) (M 90) 0 0 (M 77 13) τ) := by
          rcases h with h | ⟨_, h2, _⟩
          · exact h
          · exact absurd h2 dz
        have f := RL_f h
        obtain ⟨fbk, fnv, ⟨f70, n0, n60⟩, ⟨f71, s0, s16'⟩, ⟨f76, F0, Fn⟩, ⟨f78, S0, Sn⟩, ⟨f47, d0, d4⟩, ⟨f11, f12⟩, f74, hNN, hin⟩ := f
        have w := (tk_sg h.1.2.2.2 (c := 125) (by decide)).mpr c
        refine readLines_c_62 (HK := OL_62 b now F S rKc τ M) t (fun Q' hQ' => LK_62 h hF hS c (by omega) (d + 116) P Q' hQ') (by omega) ht.1 (by omega) c dz (fun M1 r1 z nr x2' => ?_) (fun M1 r1 z nr => ?_)
        · rcases z with ⟨z1, z0, zi, τ1, z2, z3, z4⟩ | ⟨z1, z0, _⟩
          · have pr : M 91 4 + 1 ≤ M1 91 4 := by omega
            refine ih M1 τ1 (t + 1) z2 ((z0.2.2.2.2 67 now (by decide) (by decide) (fun q => absurd q (by decide))).trans hF) ((z0.2.2.2.2 69 now (by decide) (by decide) (fun q => absurd q (by decide))).trans hS) ⟨by omega, by omega⟩ (by rw [z0.2.1.1]; omega) d P Q x2' (fun M' r oc => hQ M' r ?_)
            have rt1 : rR τ1 = rR τ1 := rfl
            rcases oc with ⟨y1, M2, τ', y2, y3, y4, y5, y6, y7, y8⟩ | ⟨y1, y0, τ', y3, y4, y5⟩
            · exact Or.inl ⟨y1, M2, τ', frC_tr z0 y2, y3, y4, y5, y6, frX_tr z3 y7, fun d P A Q k => pd_c1 (M := mix A τ) (HK := fun M1 => M1 = mix A τ1) (fun Q' k' => z4 (d + 29) P A Q' (k' _ rfl)) (show 0 < τ 467 47 by omega) w (fun M1 z => by rw [z]; exact y8 d P A Q k)⟩
            · exact Or.inr ⟨y1, frO_tr (frCO_62 z0) y0, τ', y3, frX_tr z3 y4, fun d P A Q k => pd_c1 (M := mix A τ) (HK := fun M1 => M1 = mix A τ1) (fun Q' k' => z4 (d + 29) P A Q' (k' _ rfl)) (show 0 < τ 467 47 by omega) w (fun M1 z => by rw [z]; exact y5 d P A Q k)⟩
          · exact absurd z1 nr
        · rcases z with ⟨z1, _⟩ | ⟨z1, z0, τ1, z2, z3, z4⟩
          · omega
          · exact hQ _ _ (Or.inr ⟨rfl, z0, τ1, z2, z3, fun d P A Q k => pd_c0 (M := mix A τ) (HK := fun M1 => M1 = mix A τ1) (fun Q' k' => z4 (d + 29) P A Q' (k' _ rfl)) (show 0 < τ 467 47 by omega) w (fun M1 z => by rw [z]; exact k)⟩)
    · have h : (RL b now (M 17) (M 91 3) (M 92) (M 93) (M 94) (M 91 4) (M 91 9) (M 95) (M 62 0) (M 62 1) (M 77 13) (M 91 14) (M 99) (M 100) (M 96) (M 97) (M 98) (M 73) (M 75) (M 76) (M 63) (M 64) (M 65) (M 67) (M 69) (M 71) (M 78) (M 79) (M 80) (M 81) (M 82) (M 83) (M 84) (M 85) (M 86) (M 87) (M 88) (M 89) (M 90) 0 0 (M 77 13) τ) := by
        rcases h with h | ⟨_, _, h2, _⟩
        · exact h
        · exact absurd h2 c
      have f := RL_f h
      obtain ⟨fbk, fnv, ⟨f70, n0, n60⟩, ⟨f71, s0, s16'⟩, ⟨f76, F0, Fn⟩, ⟨f78, S0, Sn⟩, ⟨f47, d0, d4⟩, ⟨f11, f12⟩, f74, hNN, hin⟩ := f
      have w : ¬ (τ 467 5 = 3 ∧ τ 467 8 = 125) := fun z => c ((tk_sg h.1.2.2.2 (c := 125) (by decide)).mp z)
      refine readLines_n_62 (HK := OL_62 b now F S rLc τ M) t (fun Q' hQ' => LL_62 h hF hS (d + 9) P Q' hQ') (by omega) ht.1 (by omega) c (fun M1 r1 z nr x2' => ?_) (fun M1 r1 z nr => ?_)
      · rcases z with ⟨z1, z0, zi, τ1, z2, z3, z4⟩ | ⟨z1, z0, _⟩
        · have pr : M 91 4 + 1 ≤ M1 91 4 := by omega
          refine ih M1 τ1 (t + 1) z2 ((z0.2.2.2.2 67 now (by decide) (by decide) (fun q => absurd q (by decide))).trans hF) ((z0.2.2.2.2 69 now (by decide) (by decide) (fun q => absurd q (by decide))).trans hS) ⟨by omega, by omega⟩ (by rw [z0.2.1.1]; omega) d P Q x2' (fun M' r oc => hQ M' r ?_)
          rcases oc with ⟨y1, M2, τ', y2, y3, y4, y5, y6, y7, y8⟩ | ⟨y1, y0, τ', y3, y4, y5⟩
          · exact Or.inl ⟨y1, M2, τ', frC_tr z0 y2, y3, y4, y5, y6, frX_tr z3 y7, fun d P A Q k => pd_l1 (M := mix A τ) (HK := fun M1 => M1 = mix A τ1) (fun Q' k' => z4 (d + 1) P A Q' (k' _ rfl)) (show 0 < τ 467 47 by omega) w (fun M1 z => by rw [z]; exact y8 d P A Q k)⟩
          · exact Or.inr ⟨y1, frO_tr (frCO_62 z0) y0, τ', y3, frX_tr z3 y4, fun d P A Q k => pd_l1 (M := mix A τ) (HK := fun M1 => M1 = mix A τ1) (fun Q' k' => z4 (d + 1) P A Q' (k' _ rfl)) (show 0 < τ 467 47 by omega) w (fun M1 z => by rw [z]; exact y5 d P A Q k)⟩
        · exact absurd z1 nr
      · rcases z with ⟨z1, _⟩ | ⟨z1, z0, τ1, z2, z3, z4⟩
        · omega
        · exact hQ _ _ (Or.inr ⟨rfl, z0, τ1, z2, z3, fun d P A Q k => pd_l0 (M := mix A τ) (HK := fun M1 => M1 = mix A τ1) (fun Q' k' => z4 (d + 1) P A Q' (k' _ rfl)) (show 0 < τ 467 47 by omega) w (fun M1 z => by rw [z]; exact k)⟩)
