/-! Both readers together: rn -/
/-- the reference's reads() from its outer loop's head to it again -/
def rN (τ τ' : Nat → Int → Int) : Prop := ∀ (d : Nat) (P : Nat → Nat → Nat) (A : Nat → Int → Int) (Q : zQ), WP (d + 33) 64 0 0 30 [some (vR 467)] [] (zS P (mix A τ')) Q → WP (d + 33) 64 0 0 30 [some (vR 467)] [] (zS P (mix A τ)) Q
theorem PR_in {p : Nat} {b : Int} {M τ : Nat → Int → Int} (h : PR p b M τ) : (0 ≤ b ∧ b ≤ 1) ∧ (0 ≤ M p 0 ∧ M p 0 ≤ 8) ∧ (0 ≤ M (p + 15) 13 ∧ M (p + 15) 13 ≤ 60) ∧ (0 ≤ M p 1 ∧ M p 1 ≤ 16) ∧ (0 ≤ M 91 4 ∧ M 91 4 ≤ M 91 3) ∧ (M 91 3 ≤ 400 ∧ M 92 (M 91 3) = -1) ∧ (τ 469 b = M p 0 ∧ τ 470 b = M (p + 15) 13 ∧ τ 471 b = M p 1 ∧ τ 467 11 = b) := by
  obtain ⟨t, ⟨q1, q2, ⟨q3, q3b, q3c⟩, ⟨q4, q4b, q4c⟩, ⟨q5, q5b, q5c⟩⟩, _⟩ := h
  have tk := t.1
  exact ⟨q1, ⟨q3b, q3c⟩, ⟨q4b, q4c⟩, ⟨q5b, q5c⟩, t.2.1, ⟨by have := tk.1; omega, tk.2.2.2.1⟩, q3, q4, q5, q2⟩
theorem wcc_235_33 {d : Nat} {P : Nat → Nat → Nat} {M : Nat → Int → Int} {Q : zQ} (h : WP (d + 119) 235 0 0 2 [some (vR 91), some (vI 0), none] [] (zS P M) Q) : WC (d + 120) 235 [vR 91] (zS P M) Q := ⟨_, rfl, zB_ok zmt zen (stops := [2, 18, 72]) e_235 100000 h⟩
theorem FL_33 {b n : Int} : ∀ (m : Nat) (M τ : Nat → Int → Int), PR 33 b M τ → M 91 6 = 0 → 8 - M 33 0 < m → ∀ (d : Nat) (P : Nat → Nat → Nat) (Q : zQ),
    (∀ M' τ' : Nat → Int → Int, PR 33 b M' τ' → M' 92 (M' 91 4) = -1 → M' 91 6 = 0 → frO 33 M M' → frB b τ τ' → rN τ τ' → WP (d + 129) 221 0 0 45 [some (vR 91), some (vR 17), some (vI n), some (vR 33), some (vI 1), some (vI (M' 33 0))] [] (zS (zupN P 91 8 33) M') Q) →
    (∀ M' τ' : Nat → Int → Int, FLT M' τ' → frO 33 M M' → frB b τ τ' → rOf τ τ' → Q (zS (zupN P 91 8 33) M') (some (vI (-1000 * M' 91 6 - M' 91 7)))) →
    WP (d + 129) 221 0 0 45 [some (vR 91), some (vR 17), some (vI n), some (vR 33), some (vI 1), some (vI (M 33 0))] [] (zS (zupN P 91 8 33) M) Q := by
  intro m
  induction m with
  | zero => intro M τ h _ hm; have := PR_in h; omega
  | succ m ih =>
    intro M τ h h6 hm d P Q hE hF
    have i := PR_in h
    obtain ⟨ib, i0, i60, i16, iat, iN, iτ⟩ := i
    by_cases c : M 92 (M 91 4) = -1
    · exact hE M τ h c h6 frO_refl frB_refl (fun _ _ _ _ k => k)
    refine readProg_f_33 (HK := OH_33 b τ M) n (M 33 0) (fun Q' hQ' => HD_33 h c (d + 59) P Q' hQ') (by omega) i0.1 i0.2 c (fun M1 r1 z r0 => ?_) (fun M1 r1 z nr => ?_) (fun M1 r1 z r0 => ?_)
    · rcases z with ⟨z1, _⟩ | ⟨_, _, τ', z3, _⟩
      · omega
      · exact ⟨z3.1, z3.2.1⟩
    · rcases z with ⟨z1, zF, zi, z5, z7, znm, z6, τ1, z3, z4, zr⟩ | ⟨z1, _⟩
      · have n7 : M 33 0 ≤ 7 := by have := z3.2.1.2.1.2; omega
        have fB := frB_of z4 i60.1 i16.1 ⟨i0.1, by omega⟩
        have iat1 := z3.1.2.1
        refine readProg_l_33 (HK := OB_33 b (M 33 0) (M 48 13) (M 33 1) τ1 M1) n (M 33 0) (fun Q' hQ' => wcc_235_33 (d := d + 9) (LB_33 (b := b) (now := M 33 0) ((M1 91 3 - M1 91 4).toNat + 1) M1 τ1 0 (Or.inl z3) z5 z7 ⟨by decide, iat1.1⟩ (by omega) (d + 9) P Q' none hQ')) i0.1 i0.2 (fun M3 r3 y nr3 => ?_) (fun M3 r3 y r30 => ?_)
        · rcases y with ⟨y1, M2, τ2, yC, yE, yR, y47, y14, yX, yr⟩ | ⟨y1, _⟩
          · have fm : frF 33 (M 48 13) (M 33 1) (M 33 0) M M2 := frF_tr zF (frF_of yC)
            have ft := frX_tr z4 yX
            have e5 : M2 38 (M 33 0) = M 48 13 := (yC.2.2.2.2 38 _ (by decide) (by decide) (fun q => absurd q (by decide))).trans z5
            have e7 : M2 40 (M 33 0) = M 33 1 := (yC.2.2.2.2 40 _ (by decide) (by decide) (fun q => absurd q (by decide))).trans z7
            have e1 : M2 34 (M 33 0) = M1 34 (M 33 0) := yC.2.2.2.2 34 _ (by decide) (by decide) (fun q => absurd q (by decide))
            have nm : ∀ k : Int, 0 ≤ k → k < M 33 0 → ¬ M 34 k = M2 34 (M 33 0) := fun k a e => by rw [e1]; exact znm k a e
            have e6 : M2 91 6 = 0 := (yC.2.1.2.2.2.2.trans z6).trans h6
            have nf : M2 33 0 = M 33 0 + 1 ∧ PR 33 b M3 τ2 := by
              rw [yE]
              rcases yR with yR | ⟨yR, yG⟩
              · exact ⟨yR.2.1.2.2.1.1, PRend_33 (g := 0) h rfl yR e5 e7 fm ft (fun q => absurd q (by decide)) y14 nm⟩
              · exact ⟨yR.2.1.2.2.1.1, PRend_33 (g := 1) h rfl yR e5 e7 fm ft (fun _ => yG) y14 nm⟩
            have e0 : M3 33 0 = M 33 0 + 1 := by rw [yE]; exact nf.1
            have e63 : M3 91 6 = 0 := by rw [yE]; exact e6
            have fO : frO 33 M M3 := by
              refine frO_tr zF.1 (frO_tr yC.1 ?_)
              rw [yE]
              exact (by repeat first | exact frO_refl | refine frO_up (by decide) ?_ | refine frO_row (by decide) ?_)
            have fB2 : frB b τ τ2 := frB_tr fB (frB_of yX i60.1 i16.1 ⟨i0.1, by omega⟩)
            have rN2 : rN τ τ2 := fun d P A Q k => zr d P A Q (yr d P A Q k)
            rw [← e0]
            refine ih M3 τ2 nf.2 e63 (by omega) d P Q (fun M' τ' k1 k2 k3 k4 k5 k6 => hE M' τ' k1 k2 k3 (frO_tr fO k4) (frB_tr fB2 k5) (fun d P A Q k => rN2 d P A Q (k6 d P A Q k))) (fun M' τ' k1 k2 k3 k4 => hF M' τ' k1 (frO_tr fO k2) (frB_tr fB2 k3) (fun d P A Q k => rN2 d P A Q (k4 d P A Q k)))
          · exact absurd y1 nr3
        · rcases y with ⟨y1, _⟩ | ⟨_, yO, τ2, y3, y4, y5⟩
          · omega
          · exact readProg_w_33 n (M 33 0 + 1) ⟨y3.1, y3.2.1⟩ (by have := y3.1; omega) (hF M3 τ2 y3 (frO_tr zF.1 yO) (frB_tr fB (frB_of y4 i60.1 i16.1 ⟨i0.1, by omega⟩)) (fun d P A Q k => zr d P A Q (y5 d P A Q k)))
      · exact absurd z1 nr
    · rcases z with ⟨z1, _⟩ | ⟨_, zO, τ', z3, z4, z5⟩
      · omega
      · exact hF M1 τ' z3 zO z4 z5
theorem wcc_235_62 {d : Nat} {P : Nat → Nat → Nat} {M : Nat → Int → Int} {Q : zQ} (h : WP (d + 119) 235 0 0 2 [some (vR 91), some (vI 0), none] [] (zS P M) Q) : WC (d + 120) 235 [vR 91] (zS P M) Q := ⟨_, rfl, zB_ok zmt zen (stops := [2, 18, 72]) e_235 100000 h⟩
theorem FL_62 {b n : Int} : ∀ (m : Nat) (M τ : Nat → Int → Int), PR 62 b M τ → M 91 6 = 0 → 8 - M 62 0 < m → ∀ (d : Nat) (P : Nat → Nat → Nat) (Q : zQ),
    (∀ M' τ' : Nat → Int → Int, PR 62 b M' τ' → M' 92 (M' 91 4) = -1 → M' 91 6 = 0 → frO 62 M M' → frB b τ τ' → rN τ τ' → WP (d + 129) 221 0 0 45 [some (vR 91), some (vR 17), some (vI n), some (vR 62), some (vI 1), some (vI (M' 62 0))] [] (zS (zupN P 91 8 62) M') Q) →
    (∀ M' τ' : Nat → Int → Int, FLT M' τ' → frO 62 M M' → frB b τ τ' → rOf τ τ' → Q (zS (zupN P 91 8 62) M') (some (vI (-1000 * M' 91 6 - M' 91 7)))) →
    WP (d + 129) 221 0 0 45 [some (vR 91), some (vR 17), some (vI n), some (vR 62), some (vI 1), some (vI (M 62 0))] [] (zS (zupN P 91 8 62) M) Q := by
  intro m
  induction m with
  | zero => intro M τ h _ hm; have := PR_in h; omega
  | succ m ih =>
    intro M τ h h6 hm d P Q hE hF
    have i := PR_in h
    obtain ⟨ib, i0, i60, i16, iat, iN, iτ⟩ := i
    by_cases c : M 92 (M 91 4) = -1
    · exact hE M τ h c h6 frO_refl frB_refl (fun _ _ _ _ k => k)
    refine readProg_f_62 (HK := OH_62 b τ M) n (M 62 0) (fun Q' hQ' => HD_62 h c (d + 59) P Q' hQ') (by omega) i0.1 i0.2 c (fun M1 r1 z r0 => ?_) (fun M1 r1 z nr => ?_) (fun M1 r1 z r0 => ?_)
    · rcases z with ⟨z1, _⟩ | ⟨_, _, τ', z3, _⟩
      · omega
      · exact ⟨z3.1, z3.2.1⟩
    · rcases z with ⟨z1, zF, zi, z5, z7, znm, z6, τ1, z3, z4, zr⟩ | ⟨z1, _⟩
      · have n7 : M 62 0 ≤ 7 := by have := z3.2.1.2.1.2; omega
        have fB := frB_of z4 i60.1 i16.1 ⟨i0.1, by omega⟩
        have iat1 := z3.1.2.1
        refine readProg_l_62 (HK := OB_62 b (M 62 0) (M 77 13) (M 62 1) τ1 M1) n (M 62 0) (fun Q' hQ' => wcc_235_62 (d := d + 9) (LB_62 (b := b) (now := M 62 0) ((M1 91 3 - M1 91 4).toNat + 1) M1 τ1 0 (Or.inl z3) z5 z7 ⟨by decide, iat1.1⟩ (by omega) (d + 9) P Q' none hQ')) i0.1 i0.2 (fun M3 r3 y nr3 => ?_) (fun M3 r3 y r30 => ?_)
        · rcases y with ⟨y1, M2, τ2, yC, yE, yR, y47, y14, yX, yr⟩ | ⟨y1, _⟩
          · have fm : frF 62 (M 77 13) (M 62 1) (M 62 0) M M2 := frF_tr zF (frF_of yC)
            have ft := frX_tr z4 yX
            have e5 : M2 67 (M 62 0) = M 77 13 := (yC.2.2.2.2 67 _ (by decide) (by decide) (fun q => absurd q (by decide))).trans z5
            have e7 : M2 69 (M 62 0) = M 62 1 := (yC.2.2.2.2 69 _ (by decide) (by decide) (fun q => absurd q (by decide))).trans z7
            have e1 : M2 63 (M 62 0) = M1 63 (M 62 0) := yC.2.2.2.2 63 _ (by decide) (by decide) (fun q => absurd q (by decide))
            have nm : ∀ k : Int, 0 ≤ k → k < M 62 0 → ¬ M 63 k = M2 63 (M 62 0) := fun k a e => by rw [e1]; exact znm k a e
            have e6 : M2 91 6 = 0 := (yC.2.1.2.2.2.2.trans z6).trans h6
            have nf : M2 62 0 = M 62 0 + 1 ∧ PR 62 b M3 τ2 := by
              rw [yE]
              rcases yR with yR | ⟨yR, yG⟩
              · exact ⟨yR.2.1.2.2.1.1, PRend_62 (g := 0) h rfl yR e5 e7 fm ft (fun q => absurd q (by decide)) y14 nm⟩
              · exact ⟨yR.2.1.2.2.1.1, PRend_62 (g := 1) h rfl yR e5 e7 fm ft (fun _ => yG) y14 nm⟩
            have e0 : M3 62 0 = M 62 0 + 1 := by rw [yE]; exact nf.1
            have e63 : M3 91 6 = 0 := by rw [yE]; exact e6
            have fO : frO 62 M M3 := by
              refine frO_tr zF.1 (frO_tr yC.1 ?_)
              rw [yE]
              exact (by repeat first | exact frO_refl | refine frO_up (by decide) ?_ | refine frO_row (by decide) ?_)
            have fB2 : frB b τ τ2 := frB_tr fB (frB_of yX i60.1 i16.1 ⟨i0.1, by omega⟩)
            have rN2 : rN τ τ2 := fun d P A Q k => zr d P A Q (yr d P A Q k)
            rw [← e0]
            refine ih M3 τ2 nf.2 e63 (by omega) d P Q (fun M' τ' k1 k2 k3 k4 k5 k6 => hE M' τ' k1 k2 k3 (frO_tr fO k4) (frB_tr fB2 k5) (fun d P A Q k => rN2 d P A Q (k6 d P A Q k))) (fun M' τ' k1 k2 k3 k4 => hF M' τ' k1 (frO_tr fO k2) (frB_tr fB2 k3) (fun d P A Q k => rN2 d P A Q (k4 d P A Q k)))
          · exact absurd y1 nr3
        · rcases y with ⟨y1, _⟩ | ⟨_, yO, τ2, y3, y4, y5⟩
          · omega
          · exact readProg_w_62 n (M 62 0 + 1) ⟨y3.1, y3.2.1⟩ (by have := y3.1; omega) (hF M3 τ2 y3 (frO_tr zF.1 yO) (frB_tr fB (frB_of y4 i60.1 i16.1 ⟨i0.1, by omega⟩)) (fun d P A Q k => zr d P A Q (y5 d P A Q k)))
      · exact absurd z1 nr
    · rcases z with ⟨z1, _⟩ | ⟨_, zO, τ', z3, z4, z5⟩
      · omega
      · exact hF M1 τ' z3 zO z4 z5
