/-! Both readers together: rd -/
theorem lk_h {v n x k : Int} {K TG FI SE TH SI cO : Int → Int} (hk : 7 ≤ k ∧ k ≤ 9) (hx : opk v x) : lk v (zs K n k) (zs TG n (-2)) (zs (zs FI n (-2)) n x) (zs SE n (-2)) (zs TH n (-2)) SI cO n := by
  unfold lk
  rw [zs_pos rfl, zs_pos rfl, zs_pos rfl, zs_pos rfl, zs_pos rfl]
  exact ⟨by omega, fun _ => hx, fun q => by omega, fun q => by omega, fun q => by omega, fun _ => rfl, fun q => by omega, Or.inr hx, Or.inl rfl, Or.inl rfl⟩
def rKc (τ τ' : Nat → Int → Int) (r : Int) : Prop := ∀ (d : Nat) (P : Nat → Nat → Nat) (A : Nat → Int → Int) (Q : zQ), Q (zS P (mix A τ')) (some (vI r)) → WC (d + 4) 63 [vR 467] (zS P (mix A τ)) Q
theorem wcc_238_33 {d : Nat} {P : Nat → Nat → Nat} {M : Nat → Int → Int} {Q : zQ} (h : WP (d + 109) 238 0 0 0 [some (vR 91)] [] (zS P M) Q) : WC (d + 110) 238 [vR 91] (zS P M) Q := ⟨_, rfl, h⟩
theorem LH_if_33 {b now F S : Int} {M τ : Nat → Int → Int} (h : (RL b now (M 17) (M 91 3) (M 92) (M 93) (M 94) (M 91 4) (M 91 9) (M 95) (M 33 0) (M 33 1) (M 48 13) (M 91 14) (M 99) (M 100) (M 96) (M 97) (M 98) (M 44) (M 46) (M 47) (M 34) (M 35) (M 36) (M 38) (M 40) (M 42) (M 49) (M 50) (M 51) (M 52) (M 53) (M 54) (M 55) (M 56) (M 57) (M 58) (M 59) (M 60) (M 61) 0 0 (M 48 13) τ)) (hF : M 38 now = F) (hS : M 40 now = S) (hs : M 92 (M 91 4) = -6) (d : Nat) (P : Nat → Nat → Nat) (Q : zQ) (hQ : ∀ (M' : Nat → Int → Int) (r : Int), OL_33 b now F S rLc τ M M' r → Q (zS (zupN P 91 8 33) M') (some (vI r))) : WP (d + 109) 238 0 0 0 [some (vR 91)] [] (zS (zupN P 91 8 33) M) Q := by
  have f := RL_f h
  obtain ⟨fbk, fnv, ⟨f70, n0, n60⟩, ⟨f71, s0, s16'⟩, ⟨f76, F0, Fn⟩, ⟨f78, S0, Sn⟩, ⟨f47, d0, d4⟩, ⟨f11, f12⟩, f74, hNN, hin⟩ := f
  have tkc := h.1.1
  have hv := h.2.2.1.1
  have cl := h.2.2.2.2.2.1.1
  have cp := gST_path h.2.2.2.2.1 cl (fun j a c => (h.2.2.2.2.2.1.2.2.2 j a c).1)
  have cle := cP_le cl cp
  obtain ⟨me, ee, hLe⟩ := cL_ex cl cp
  have i1 := nE0 hNN hin (by omega)
  have LN : M 38 now ≤ M 48 13 := Fn
  have hl : 60 * τ 467 11 + τ 470 (τ 467 11) = 60 * b + M 48 13 := by omega
  have nf1 := h.2.1.2.2.1
  have h9 : (7 : Int) = 9 → (0 : Int) = 1 ∧ M 91 14 = 0 := fun z => absurd z (by decide)
  refine readLine_if_33 (HK := OL_33 b now F S rLc τ M) (fun Q' hQ' => ?_) (by omega) hs (fun M1 r1 z => by rcases z with z | z <;> omega) hQ
  refine readHead_c_33 (d := d + 105) 7 hin hNN (by omega) hv (by omega) (by omega) (by omega) cl cp (by omega) (fun w58 w59 q0 ok e d5 hL => hQ' _ _ (Or.inl ⟨rfl, ?_, (by show M 91 4 < M 91 4 + 3; omega), ?_⟩)) (fun w1 w2 w3 w4 w5 w6 w7 w8 w9 w10 w11 w12 w13 w14 w15 w16 w17 w18 w19 w20 w21 a4 a5 q y => hQ' _ _ (Or.inr ⟨rfl, (by repeat first | exact frO_refl | refine frO_up (by decide) ?_ | refine frO_row (by decide) ?_), ?_⟩)) (fun w1 w2 w3 w4 w5 w6 w7 w8 w9 w10 w11 w12 w13 w14 w15 w16 w17 w18 w19 w20 w21 a4 a5 q no y => hQ' _ _ (Or.inr ⟨rfl, (by repeat first | exact frO_refl | refine frO_up (by decide) ?_ | refine frO_row (by decide) ?_), ?_⟩)) (fun w1 w2 w3 w4 w5 w6 w7 w8 w9 w10 w11 w12 w13 w14 w15 w16 w17 w18 w19 w20 w21 a4 a5 q ok e y => hQ' _ _ (Or.inr ⟨rfl, (by repeat first | exact frO_refl | refine frO_up (by decide) ?_ | refine frO_row (by decide) ?_), ?_⟩)) (fun w1 w2 w3 w4 w5 w6 w7 w8 w9 w10 w11 w12 w13 w14 w15 w16 w17 w18 w19 w20 w21 a4 a5 q ok e d5 y => hQ' _ _ (Or.inr ⟨rfl, (by repeat first | exact frO_refl | refine frO_up (by decide) ?_ | refine frO_row (by decide) ?_), ?_⟩))
  · exact (frC_up (by decide) (by decide) (frC_up (by decide) (by decide) (frC_up (by decide) (by decide) (frC_up (by decide) (by decide) (frC_up (by decide) (by decide) (frC_free (by decide) (by decide) (frC_free (by decide) (by decide) (frC_free (by decide) (by decide) (frC_free (by decide) (by decide) (frC_ln (by decide) (by decide) (fun j q => zs_neg (by omega)) (frC_free (by decide) (by decide) (frC_free (by decide) (by decide) (frC_ln (by decide) (by decide) (fun j q => zs_neg (by omega)) (frC_ln (by decide) (by decide) (fun j q => zs_neg (by omega)) (frC_ln (by decide) (by decide) (fun j q => zs_neg (by omega)) (frC_ln (by decide) (by decide) (fun j q => zs_neg (by omega)) (frC_ln (by decide) (by decide) (fun j q => zs_neg (by omega)) (frC_ln (by decide) (by decide) (fun j q => zs_neg (by omega)) (frC_ln (by decide) (by decide) (fun j q => (zs_neg (by omega)).trans (zs_neg (by omega))) (frC_ln (by decide) (by decide) (fun j q => zs_neg (by omega)) (frC_ln (by decide) (by decide) (fun j q => zs_neg (by omega)) frC_refl)))))))))))))))))))))
  · obtain ⟨τ1, h1, g1, r1⟩ := R_pl_if (gg' := 0) h rfl rfl h9 (by omega) hL hs
    obtain ⟨τ2, h2, g2, r2⟩ := R_pl_nb (l := 60 * τ 467 11 + τ 470 (τ 467 11)) h1 (by omega)
    obtain ⟨τ3, h3, g3, e3, r3⟩ := R_pl_ob (l := 60 * τ 467 11 + τ 470 (τ 467 11)) h2 ok
    obtain ⟨τ4, h4, g4, r4⟩ := R_pl_ab (l := 60 * τ 467 11 + τ 470 (τ 467 11)) h3 (Int.le_refl _) hl ⟨LN, by omega⟩ e3
    have vv := oV_opk hv ok (fun q => (tkq_num h2.1.2.2.2).2 q)
    have h5 := E_c h4 rfl (lk_h (by decide) vv.1)
    have i2 := nE1 hNN hin (by omega) (oOK_ne ok)
    rw [show M 91 4 + 2 = M 91 4 + 1 + 1 by omega] at e
    obtain ⟨τ6, h6, g6, r6⟩ := R_pl_bo (l := 60 * τ 467 11 + τ 470 (τ 467 11)) h5 rfl LN hl ⟨zs_pos rfl, fun q => (zs_pos rfl).trans (if_neg (by omega))⟩ (Or.inl (zs_pos rfl)) (zs_pos rfl) d5 e
    rw [hF, hS] at g1 g2 g3 g4 g6
    rw [show M 91 4 + 1 + 1 + 1 = M 91 4 + 3 by omega] at h6
    exact ⟨τ6, Or.inl h6, frX_tr g1 (frX_tr g2 (frX_tr g3 (frX_tr g4 g6))), fun d P A Q k => wc_62 (r1 _ _ _ _ (r2 _ _ _ _ none (fun y4 => r3 _ _ _ _ y4 (fun y4 => r4 _ _ _ _ y4 (fun y4 => r6 _ _ _ _ y4 k)))))⟩
  · obtain ⟨τ1, g1, e1, r1⟩ := R_pl_if4 h (by omega) hs
    rw [hF, hS] at g1
    refine ⟨τ1, ⟨by show 1 ≤ a4 ∧ a4 ≤ 6; omega, by show 0 ≤ a5 ∧ a5 ≤ 400; rw [y.2]; exact tkC_st tkc (by omega) (by omega), ?_⟩, g1, fun d P A Q k => wc_62 (r1 _ _ _ _ k)⟩
    show τ1 467 4 = -1000 * a4 - a5
    rw [e1, y.1, y.2]; omega
  · obtain ⟨τ1, h1, g1, r1⟩ := R_pl_if (gg' := 0) h rfl rfl h9 (by omega) hLe hs
    obtain ⟨τ2, h2, g2, r2⟩ := R_pl_nb (l := 60 * τ 467 11 + τ 470 (τ 467 11)) h1 (by omega)
    obtain ⟨τ3, g3, e3, r3⟩ := R_pl_ob_f (l := 60 * τ 467 11 + τ 470 (τ 467 11)) h2 no
    rw [hF, hS] at g1 g2 g3
    have ob := oF_b (s := M 92 (M 91 4 + 1))
    refine ⟨τ3, ⟨by show 1 ≤ a4 ∧ a4 ≤ 6; omega, by show 0 ≤ a5 ∧ a5 ≤ 400; rw [y.2]; exact tkC_st tkc (by omega) (by omega), ?_⟩, frX_tr g1 (frX_tr g2 g3), fun d P A Q k => wc_62 (r1 _ _ _ _ (r2 _ _ _ _ none (fun y4 => r3 _ _ _ _ y4 k)))⟩
    show τ3 467 4 = -1000 * a4 - a5
    rw [e3, y.1, y.2]
  · obtain ⟨τ1, h1, g1, r1⟩ := R_pl_if (gg' := 0) h rfl rfl h9 (by omega) hLe hs
    obtain ⟨τ2, h2, g2, r2⟩ := R_pl_nb (l := 60 * τ 467 11 + τ 470 (τ 467 11)) h1 (by omega)
    obtain ⟨τ3, h3, g3, e3, r3⟩ := R_pl_ob (l := 60 * τ 467 11 + τ 470 (τ 467 11)) h2 ok
    obtain ⟨τ4, h4, g4, r4⟩ := R_pl_ab (l := 60 * τ 467 11 + τ 470 (τ 467 11)) h3 (Int.le_refl _) hl ⟨LN, by omega⟩ e3
    have vv := oV_opk hv ok (fun q => (tkq_num h2.1.2.2.2).2 q)
    have h5 := E_c h4 rfl (lk_h (by decide) vv.1)
    have i2 := nE1 hNN hin (by omega) (oOK_ne ok)
    rw [show M 91 4 + 2 = M 91 4 + 1 + 1 by omega] at e y
    obtain ⟨τ6, g6, e6, r6⟩ := R_pl_bo_f (l := 60 * τ 467 11 + τ 470 (τ 467 11)) h5 e
    rw [hF, hS] at g1 g2 g3 g4 g6
    refine ⟨τ6, ⟨by show 1 ≤ a4 ∧ a4 ≤ 6; omega, by show 0 ≤ a5 ∧ a5 ≤ 400; rw [y.2]; exact tkC_st tkc (by omega) (by omega), ?_⟩, frX_tr g1 (frX_tr g2 (frX_tr g3 (frX_tr g4 g6))), fun d P A Q k => wc_62 (r1 _ _ _ _ (r2 _ _ _ _ none (fun y4 => r3 _ _ _ _ y4 (fun y4 => r4 _ _ _ _ y4 (fun y4 => r6 _ _ _ _ y4 k)))))⟩
    show τ6 467 4 = -1000 * a4 - a5
    rw [e6, y.1, y.2]; omega
  · obtain ⟨τ1, h1, g1, r1⟩ := R_pl_if (gg' := 0) h rfl rfl h9 (by omega) hLe hs
    obtain ⟨τ2, h2, g2, r2⟩ := R_pl_nb (l := 60 * τ 467 11 + τ 470 (τ 467 11)) h1 (by omega)
    obtain ⟨τ3, h3, g3, e3, r3⟩ := R_pl_ob (l := 60 * τ 467 11 + τ 470 (τ 467 11)) h2 ok
    obtain ⟨τ4, h4, g4, r4⟩ := R_pl_ab (l := 60 * τ 467 11 + τ 470 (τ 467 11)) h3 (Int.le_refl _) hl ⟨LN, by omega⟩ e3
    have vv := oV_opk hv ok (fun q => (tkq_num h2.1.2.2.2).2 q)
    have h5 := E_c h4 rfl (lk_h (by decide) vv.1)
    have i2 := nE1 hNN hin (by omega) (oOK_ne ok)
    rw [show M 91 4 + 2 = M 91 4 + 1 + 1 by omega] at e y
    obtain ⟨τ6, g6, e6, r6⟩ := R_pl_bo_g (l := 60 * τ 467 11 + τ 470 (τ 467 11)) h5 e (show M 91 14 = 4 by omega)
    rw [hF, hS] at g1 g2 g3 g4 g6
    refine ⟨τ6, ⟨by show 1 ≤ a4 ∧ a4 ≤ 6; omega, by show 0 ≤ a5 ∧ a5 ≤ 400; rw [y.2]; exact tkC_st tkc (by omega) (by omega), ?_⟩, frX_tr g1 (frX_tr g2 (frX_tr g3 (frX_tr g4 g6))), fun d P A Q k => wc_62 (r1 _ _ _ _ (r2 _ _ _ _ none (fun y4 => r3 _ _ _ _ y4 (fun y4 => r4 _ _ _ _ y4 (fun y4 => r6 _ _ _ _ y4 k)))))⟩
    show τ6 467 4 = -1000 * a4 - a5
    rw [e6, y.1, y.2]; omega
theorem LH_loop_33 {b now F S : Int} {M τ : Nat → Int → Int} (h : (RL b now (M 17) (M 91 3) (M 92) (M 93) (M 94) (M 91 4) (M 91 9) (M 95) (M 33 0) (M 33 1) (M 48 13) (M 91 14) (M 99) (M 100) (M 96) (M 97) (M 98) (M 44) (M 46) (M 47) (M 34) (M 35) (M 36) (M 38) (M 40) (M 42) (M 49) (M 50) (M 51) (M 52) (M 53) (M 54) (M 55) (M 56) (M 57) (M 58) (M 59) (M 60) (M 61) 0 0 (M 48 13) τ)) (hF : M 38 now = F) (hS : M 40 now = S) (hs : M 92 (M 91 4) = -8) (d : Nat) (P : Nat → Nat → Nat) (Q : zQ) (hQ : ∀ (M' : Nat → Int → Int) (r : Int), OL_33 b now F S rLc τ M M' r → Q (zS (zupN P 91 8 33) M') (some (vI r))) : WP (d + 109) 238 0 0 0 [some (vR 91)] [] (zS (zupN P 91 8 33) M) Q := by
  have f := RL_f h
  obtain ⟨fbk, fnv, ⟨f70, n0, n60⟩, ⟨f71, s0, s16'⟩, ⟨f76, F0, Fn⟩, ⟨f78, S0, Sn⟩, ⟨f47, d0, d4⟩, ⟨f11, f12⟩, f74, hNN, hin⟩ := f
  have tkc := h.1.1
  have hv := h.2.2.1.1
  have cl := h.2.2.2.2.2.1.1
  have cp := gST_path h.2.2.2.2.1 cl (fun j a c => (h.2.2.2.2.2.1.2.2.2 j a c).1)
  have cle := cP_le cl cp
  obtain ⟨me, ee, hLe⟩ := cL_ex cl cp
  have i1 := nE0 hNN hin (by omega)
  have LN : M 38 now ≤ M 48 13 := Fn
  have hl : 60 * τ 467 11 + τ 470 (τ 467 11) = 60 * b + M 48 13 := by omega
  have nf1 := h.2.1.2.2.1
  have h9 : (8 : Int) = 9 → (0 : Int) = 1 ∧ M 91 14 = 0 := fun z => absurd z (by decide)
  refine readLine_loop_33 (HK := OL_33 b now F S rLc τ M) (fun Q' hQ' => ?_) (by omega) hs (fun M1 r1 z => by rcases z with z | z <;> omega) hQ
  refine readHead_c_33 (d := d + 105) 8 hin hNN (by omega) hv (by omega) (by omega) (by omega) cl cp (by omega) (fun w58 w59 q0 ok e d5 hL => hQ' _ _ (Or.inl ⟨rfl, ?_, (by show M 91 4 < M 91 4 + 3; omega), ?_⟩)) (fun w1 w2 w3 w4 w5 w6 w7 w8 w9 w10 w11 w12 w13 w14 w15 w16 w17 w18 w19 w20 w21 a4 a5 q y => hQ' _ _ (Or.inr ⟨rfl, (by repeat first | exact frO_refl | refine frO_up (by decide) ?_ | refine frO_row (by decide) ?_), ?_⟩)) (fun w1 w2 w3 w4 w5 w6 w7 w8 w9 w10 w11 w12 w13 w14 w15 w16 w17 w18 w19 w20 w21 a4 a5 q no y => hQ' _ _ (Or.inr ⟨rfl, (by repeat first | exact frO_refl | refine frO_up (by decide) ?_ | refine frO_row (by decide) ?_), ?_⟩)) (fun w1 w2 w3 w4 w5 w6 w7 w8 w9 w10 w11 w12 w13 w14 w15 w16 w17 w18 w19 w20 w21 a4 a5 q ok e y => hQ' _ _ (Or.inr ⟨rfl, (by repeat first | exact frO_refl | refine frO_up (by decide) ?_ | refine frO_row (by decide) ?_), ?_⟩)) (fun w1 w2 w3 w4 w5 w6 w7 w8 w9 w10 w11 w12 w13 w14 w15 w16 w17 w18 w19 w20 w21 a4 a5 q ok e d5 y => hQ' _ _ (Or.inr ⟨rfl, (by repeat first | exact frO_refl | refine frO_up (by decide) ?_ | refine frO_row (by decide) ?_), ?_⟩))
  · exact (frC_up (by decide) (by decide) (frC_up (by decide) (by decide) (frC_up (by decide) (by decide) (frC_up (by decide) (by decide) (frC_up (by decide) (by decide) (frC_free (by decide) (by decide) (frC_free (by decide) (by decide) (frC_free (by decide) (by decide) (frC_free (by decide) (by decide) (frC_ln (by decide) (by decide) (fun j q => zs_neg (by omega)) (frC_free (by decide) (by decide) (frC_free (by decide) (by decide) (frC_ln (by decide) (by decide) (fun j q => zs_neg (by omega)) (frC_ln (by decide) (by decide) (fun j q => zs_neg (by omega)) (frC_ln (by decide) (by decide) (fun j q => zs_neg (by omega)) (frC_ln (by decide) (by decide) (fun j q => zs_neg (by omega)) (frC_ln (by decide) (by decide) (fun j q => zs_neg (by omega)) (frC_ln (by decide) (by decide) (fun j q => zs_neg (by omega)) (frC_ln (by decide) (by decide) (fun j q => (zs_neg (by omega)).trans (zs_neg (by omega))) (frC_ln (by decide) (by decide) (fun j q => zs_neg (by omega)) (frC_ln (by decide) (by decide) (fun j q => zs_neg (by omega)) frC_refl)))))))))))))))))))))
  · obtain ⟨τ1, h1, g1, r1⟩ := R_pl_loop (gg' := 0) h rfl rfl h9 (by omega) hL hs
    obtain ⟨τ2, h2, g2, r2⟩ := R_pl_nb (l := 60 * τ 467 11 + τ 470 (τ 467 11)) h1 (by omega)
    obtain ⟨τ3, h3, g3, e3, r3⟩ := R_pl_ob (l := 60 * τ 467 11 + τ 470 (τ 467 11)) h2 ok
    obtain ⟨τ4, h4, g4, r4⟩ := R_pl_ab (l := 60 * τ 467 11 + τ 470 (τ 467 11)) h3 (Int.le_refl _) hl ⟨LN, by omega⟩ e3
    have vv := oV_opk hv ok (fun q => (tkq_num h2.1.2.2.2).2 q)
    have h5 := E_c h4 rfl (lk_h (by decide) vv.1)
    have i2 := nE1 hNN hin (by omega) (oOK_ne ok)
    rw [show M 91 4 + 2 = M 91 4 + 1 + 1 by omega] at e
    obtain ⟨τ6, h6, g6, r6⟩ := R_pl_bo (l := 60 * τ 467 11 + τ 470 (τ 467 11)) h5 rfl LN hl ⟨zs_pos rfl, fun q => (zs_pos rfl).trans (if_neg (by omega))⟩ (Or.inr (zs_pos rfl)) (zs_pos rfl) d5 e
    rw [hF, hS] at g1 g2 g3 g4 g6
    rw [show M 91 4 + 1 + 1 + 1 = M 91 4 + 3 by omega] at h6
    exact ⟨τ6, Or.inl h6, frX_tr g1 (frX_tr g2 (frX_tr g3 (frX_tr g4 g6))), fun d P A Q k => wc_62 (r1 _ _ _ _ (r2 _ _ _ _ none (fun y4 => r3 _ _ _ _ y4 (fun y4 => r4 _ _ _ _ y4 (fun y4 => r6 _ _ _ _ y4 k)))))⟩
  · obtain ⟨τ1, g1, e1, r1⟩ := R_pl_loop4 h (by omega) hs
    rw [hF, hS] at g1
    refine ⟨τ1, ⟨by show 1 ≤ a4 ∧ a4 ≤ 6; omega, by show 0 ≤ a5 ∧ a5 ≤ 400; rw [y.2]; exact tkC_st tkc (by omega) (by omega), ?_⟩, g1, fun d P A Q k => wc_62 (r1 _ _ _ _ k)⟩
    show τ1 467 4 = -1000 * a4 - a5
    rw [e1, y.1, y.2]; omega
  · obtain ⟨τ1, h1, g1, r1⟩ := R_pl_loop (gg' := 0) h rfl rfl h9 (by omega) hLe hs
    obtain ⟨τ2, h2, g2, r2⟩ := R_pl_nb (l := 60 * τ 467 11 + τ 470 (τ 467 11)) h1 (by omega)
    obtain ⟨τ3, g3, e3, r3⟩ := R_pl_ob_f (l := 60 * τ 467 11 + τ 470 (τ 467 11)) h2 no
    rw [hF, hS] at g1 g2 g3
    have ob := oF_b (s := M 92 (M 91 4 + 1))
    refine ⟨τ3, ⟨by show 1 ≤ a4 ∧ a4 ≤ 6; omega, by show 0 ≤ a5 ∧ a5 ≤ 400; rw [y.2]; exact tkC_st tkc (by omega) (by omega), ?_⟩, frX_tr g1 (frX_tr g2 g3), fun d P A Q k => wc_62 (r1 _ _ _ _ (r2 _ _ _ _ none (fun y4 => r3 _ _ _ _ y4 k)))⟩
    show τ3 467 4 = -1000 * a4 - a5
    rw [e3, y.1, y.2]
  · obtain ⟨τ1, h1, g1, r1⟩ := R_pl_loop (gg' := 0) h rfl rfl h9 (by omega) hLe hs
    obtain ⟨τ2, h2, g2, r2⟩ := R_pl_nb (l := 60 * τ 467 11 + τ 470 (τ 467 11)) h1 (by omega)
    obtain ⟨τ3, h3, g3, e3, r3⟩ := R_pl_ob (l := 60 * τ 467 11 + τ 470 (τ 467 11)) h2 ok
    obtain ⟨τ4, h4, g4, r4⟩ := R_pl_ab (l := 60 * τ 467 11 + τ 470 (τ 467 11)) h3 (Int.le_refl _) hl ⟨LN, by omega⟩ e3
    have vv := oV_opk hv ok (fun q => (tkq_num h2.1.2.2.2).2 q)
    have h5 := E_c h4 rfl (lk_h (by decide) vv.1)
    have i2 := nE1 hNN hin (by omega) (oOK_ne ok)
    rw [show M 91 4 + 2 = M 91 4 + 1 + 1 by omega] at e y
    obtain ⟨τ6, g6, e6, r6⟩ := R_pl_bo_f (l := 60 * τ 467 11 + τ 470 (τ 467 11)) h5 e
    rw [hF, hS] at g1 g2 g3 g4 g6
    refine ⟨τ6, ⟨by show 1 ≤ a4 ∧ a4 ≤ 6; omega, by show 0 ≤ a5 ∧ a5 ≤ 400; rw [y.2]; exact tkC_st tkc (by omega) (by omega), ?_⟩, frX_tr g1 (frX_tr g2 (frX_tr g3 (frX_tr g4 g6))), fun d P A Q k => wc_62 (r1 _ _ _ _ (r2 _ _ _ _ none (fun y4 => r3 _ _ _ _ y4 (fun y4 => r4 _ _ _ _ y4 (fun y4 => r6 _ _ _ _ y4 k)))))⟩
    show τ6 467 4 = -1000 * a4 - a5
    rw [e6, y.1, y.2]; omega
  · obtain ⟨τ1, h1, g1, r1⟩ := R_pl_loop (gg' := 0) h rfl rfl h9 (by omega) hLe hs
    obtain ⟨τ2, h2, g2, r2⟩ := R_pl_nb (l := 60 * τ 467 11 + τ 470 (τ 467 11)) h1 (by omega)
    obtain ⟨τ3, h3, g3, e3, r3⟩ := R_pl_ob (l := 60 * τ 467 11 + τ 470 (τ 467 11)) h2 ok
    obtain ⟨τ4, h4, g4, r4⟩ := R_pl_ab (l := 60 * τ 467 11 + τ 470 (τ 467 11)) h3 (Int.le_refl _) hl ⟨LN, by omega⟩ e3
    have vv := oV_opk hv ok (fun q => (tkq_num h2.1.2.2.2).2 q)
    have h5 := E_c h4 rfl (lk_h (by decide) vv.1)
    have i2 := nE1 hNN hin (by omega) (oOK_ne ok)
    rw [show M 91 4 + 2 = M 91 4 + 1 + 1 by omega] at e y
    obtain ⟨τ6, g6, e6, r6⟩ := R_pl_bo_g (l := 60 * τ 467 11 + τ 470 (τ 467 11)) h5 e (show M 91 14 = 4 by omega)
    rw [hF, hS] at g1 g2 g3 g4 g6
    refine ⟨τ6, ⟨by show 1 ≤ a4 ∧ a4 ≤ 6; omega, by show 0 ≤ a5 ∧ a5 ≤ 400; rw [y.2]; exact tkC_st tkc (by omega) (by omega), ?_⟩, frX_tr g1 (frX_tr g2 (frX_tr g3 (frX_tr g4 g6))), fun d P A Q k => wc_62 (r1 _ _ _ _ (r2 _ _ _ _ none (fun y4 => r3 _ _ _ _ y4 (fun y4 => r4 _ _ _ _ y4 (fun y4 => r6 _ _ _ _ y4 k)))))⟩
    show τ6 467 4 = -1000 * a4 - a5
    rw [e6, y.1, y.2]; omega
theorem LG_33 {b now F S : Int} {M τ : Nat → Int → Int} (h : (RL b now (M 17) (M 91 3) (M 92) (M 93) (M 94) (M 91 4) (M 91 9) (M 95) (M 33 0) (M 33 1) (M 48 13) (M 91 14) (M 99) (M 100) (M 96) (M 97) (M 98) (M 44) (M 46) (M 47) (M 34) (M 35) (M 36) (M 38) (M 40) (M 42) (M 49) (M 50) (M 51) (M 52) (M 53) (M 54) (M 55) (M 56) (M 57) (M 58) (M 59) (M 60) (M 61) 0 0 (M 48 13) τ)) (hF : M 38 now = F) (hS : M 40 now = S) (hs : M 92 (M 91 4) = -9) (d : Nat) (P : Nat → Nat → Nat) (Q : zQ) (hQ : ∀ (M' : Nat → Int → Int) (r : Int), OL_33 b now F S rLc τ M M' r → Q (zS (zupN P 91 8 33) M') (some (vI r))) : WP (d + 109) 238 0 0 0 [some (vR 91)] [] (zS (zupN P 91 8 33) M) Q := by
  have f := RL_f h
  obtain ⟨fbk, fnv, ⟨f70, n0, n60⟩, ⟨f71, s0, s16'⟩, ⟨f76, F0, Fn⟩, ⟨f78, S0, Sn⟩, ⟨f47, d0, d4⟩, ⟨f11, f12⟩, f74, hNN, hin⟩ := f
  have tkc := h.1.1
  have hv := h.2.2.1.1
  have cl := h.2.2.2.2.2.1.1
  have cp := gST_path h.2.2.2.2.1 cl (fun j a c => (h.2.2.2.2.2.1.2.2.2 j a c).1)
  have cle := cP_le cl cp
  obtain ⟨me, ee, hLe⟩ := cL_ex cl cp
  have i1 := nE0 hNN hin (by omega)
  have LN : M 38 now ≤ M 48 13 := Fn
  have hl : 60 * τ 467 11 + τ 470 (τ 467 11) = 60 * b + M 48 13 := by omega
  have nf1 := h.2.1.2.2.1
  refine readLine_give_33 (HK := OL_33 b now F S rLc τ M) (fun Q' hQ' => ?_) (by omega) hs (fun M1 r1 z => by rcases z with z | z <;> omega) hQ
  refine readGive_c_33 (d := d + 105) hin hNN (by omega) hv (by omega) (by omega) (by omega) cl cp (by omega) (by omega) (fun w58 w59 dz q0 ok e e3' hL => hQ' _ _ (Or.inl ⟨rfl, ?_, (by show M 91 4 < M 91 4 + 3; omega), ?_⟩)) (fun w1 w2 w3 w4 w5 w6 w7 w8 w9 w10 w11 w12 w13 w14 w15 w16 w17 w18 w19 a4 a5 dz y => hQ' _ _ (Or.inr ⟨rfl, (by repeat first | exact frO_refl | refine frO_up (by decide) ?_ | refine frO_row (by decide) ?_), ?_⟩)) (fun w1 w2 w3 w4 w5 w6 w7 w8 w9 w10 w11 w12 w13 w14 w15 w16 w17 w18 w19 a4 a5 dz q y => hQ' _ _ (Or.inr ⟨rfl, (by repeat first | exact frO_refl | refine frO_up (by decide) ?_ | refine frO_row (by decide) ?_), ?_⟩)) (fun w1 w2 w3 w4 w5 w6 w7 w8 w9 w10 w11 w12 w13 w14 w15 w16 w17 w18 w19 a4 a5 dz q no y => hQ' _ _ (Or.inr ⟨rfl, (by repeat first | exact frO_refl | refine frO_up (by decide) ?_ | refine frO_row (by decide) ?_), ?_⟩)) (fun w1 w2 w3 w4 w5 w6 w7 w8 w9 w10 w11 w12 w13 w14 w15 w16 w17 w18 w19 a4 a5 dz q ok e y => hQ' _ _ (Or.inr ⟨rfl, (by repeat first | exact frO_refl | refine frO_up (by decide) ?_ | refine frO_row (by decide) ?_), ?_⟩)) (fun w1 w2 w3 w4 w5 w6 w7 w8 w9 w10 w11 w12 w13 w14 w15 w16 w17 w18 w19 a4 a5 dz q ok e e3' y => hQ' _ _ (Or.inr ⟨rfl, (by repeat first | exact frO_refl | refine frO_up (by decide) ?_ | refine frO_row (by decide) ?_), ?_⟩))
  · exact (frC_up (by decide) (by decide) (frC_up (by decide) (by decide) (frC_up (by decide) (by decide) (frC_up (by decide) (by decide) (frC_free (by decide) (by decide) (frC_free (by decide) (by decide) (frC_ln (by decide) (by decide) (fun j q => zs_neg (by omega)) (frC_free (by decide) (by decide) (frC_free (by decide) (by decide) (frC_ln (by decide) (by decide) (fun j q => zs_neg (by omega)) (frC_ln (by decide) (by decide) (fun j q => zs_neg (by omega)) (frC_ln (by decide) (by decide) (fun j q => zs_neg (by omega)) (frC_ln (by decide) (by decide) (fun j q => zs_neg (by omega)) (frC_ln (by decide) (by decide) (fun j q => zs_neg (by omega)) (frC_ln (by decide) (by decide) (fun j q => zs_neg (by omega)) (frC_ln (by decide) (by decide) (fun j q => (zs_neg (by omega)).trans (zs_neg (by omega))) (frC_ln (by decide) (by decide) (fun j q => zs_neg (by omega)) (frC_ln (by decide) (by decide) (fun j q => zs_neg (by omega)) (frC_fn (by decide) (by decide) (fun j q => zs_neg (by omega)) frC_refl)))))))))))))))))))
  · obtain ⟨τ1, h1, g1, r1⟩ := R_pl_give (gg' := 1) h rfl rfl (fun _ => ⟨rfl, dz⟩) (by omega) hL hs
    obtain ⟨τ2, h2, g2, r2⟩ := R_pl_ng (l := 60 * τ 467 11 + τ 470 (τ 467 11)) h1 (by omega)
    obtain ⟨τ3, h3, g3, e3, r3⟩ := R_pl_og (l := 60 * τ 467 11 + τ 470 (τ 467 11)) h2 ok
    obtain ⟨τ4, h4, g4, r4⟩ := R_pl_ag (l := 60 * τ 467 11 + τ 470 (τ 467 11)) h3 (Int.le_refl _) hl ⟨LN, by omega⟩ e3
    have vv := oV_opk hv ok (fun q => (tkq_num h2.1.2.2.2).2 q)
    have h5 := E_c h4 rfl (lk_h (by decide) vv.1)
    obtain ⟨τ5, h6, g5, r5⟩ := R_pl_gg (l := 60 * τ 467 11 + τ 470 (τ 467 11)) (x := oV (M 92 (M 91 4 + 1)) (M 94 (M 91 4 + 1)) (M 95) (M 91 9)) h5
    have i2 := nE1 hNN hin (by omega) (oOK_ne ok)
    rw [show M 91 4 + 2 = M 91 4 + 1 + 1 by omega] at e
    rw [show M 91 4 + 3 = M 91 4 + 1 + 1 + 1 by omega] at e3'
    obtain ⟨τ6, h7, g6, r6⟩ := R_pl_ge (l := 60 * τ 467 11 + τ 470 (τ 467 11)) h6 e e3'
    rw [hF, hS] at g1 g2 g3 g4 g5 g6
    rw [show M 91 4 + 1 + 1 + 1 = M 91 4 + 3 by omega] at h7 e3'
    refine ⟨τ6, Or.inr ⟨h7, dz, e3', ?_, ?_, ?_, ?_⟩, frX_tr g1 (frX_tr g2 (frX_tr g3 (frX_tr g4 (frX_tr g5 g6)))), fun d P A Q k => wc_62 (r1 _ _ _ _ (r2 _ _ _ _ none (fun y4 => r3 _ _ _ _ y4 (fun y4 => r4 _ _ _ _ y4 (fun y4 => r5 _ _ _ _ y4 (fun y4 => r6 _ _ _ _ y4 k))))))⟩
    · show M 38 now < M 48 13 + 1
      omega
    · show zs (M 49) (M 48 13) 9 (M 48 13 + 1 - 1) = 9
      exact zs_pos (by omega)
    · show zs (M 42) (M 33 0 - 1) (oV (M 92 (M 91 4 + 1)) (M 94 (M 91 4 + 1)) (M 95) (M 91 9)) now = zs (zs (M 51) (M 48 13) (-2)) (M 48 13) (oV (M 92 (M 91 4 + 1)) (M 94 (M 91 4 + 1)) (M 95) (M 91 9)) (M 48 13 + 1 - 1)
      rw [zs_pos (by omega), zs_pos (by omega)]
    · show ¬ zs (zs (M 51) (M 48 13) (-2)) (M 48 13) (oV (M 92 (M 91 4 + 1)) (M 94 (M 91 4 + 1)) (M 95) (M 91 9)) (M 48 13 + 1 - 1) = -2
      rw [zs_pos (by omega)]
      have := vv.1
      unfold opk at this
      omega
  · obtain ⟨τ1, g1, e1, r1⟩ := R_pl_g1 h hs (by omega)
    rw [hF, hS] at g1
    refine ⟨τ1, ⟨by show 1 ≤ a4 ∧ a4 ≤ 6; omega, by show 0 ≤ a5 ∧ a5 ≤ 400; rw [y.2]; exact tkC_st tkc (by omega) (by omega), ?_⟩, g1, fun d P A Q k => wc_62 (r1 _ _ _ _ k)⟩
    show τ1 467 4 = -1000 * a4 - a5
    rw [e1, y.1, y.2]; omega
  · obtain ⟨τ1, g1, e1, r1⟩ := R_pl_give4 h (by omega) hs dz
    rw [hF, hS] at g1
    refine ⟨τ1, ⟨by show 1 ≤ a4 ∧ a4 ≤ 6; omega, by show 0 ≤ a5 ∧ a5 ≤ 400; rw [y.2]; exact tkC_st tkc (by omega) (by omega), ?_⟩, g1, fun d P A Q k => wc_62 (r1 _ _ _ _ k)⟩
    show τ1 467 4 = -1000 * a4 - a5
    rw [e1, y.1, y.2]; omega
  · obtain ⟨τ1, h1, g1, r1⟩ := R_pl_give (gg' := 1) h rfl rfl (fun _ => ⟨rfl, dz⟩) (by omega) hLe hs
    obtain ⟨τ2, h2, g2, r2⟩ := R_pl_ng (l := 60 * τ 467 11 + τ 470 (τ 467 11)) h1 (by omega)
    obtain ⟨τ3, g3, e3, r3⟩ := R_pl_og_f (l := 60 * τ 467 11 + τ 470 (τ 467 11)) h2 no
    rw [hF, hS] at g1 g2 g3
    have ob := oF_b (s := M 92 (M 91 4 + 1))
    refine ⟨τ3, ⟨by show 1 ≤ a4 ∧ a4 ≤ 6; omega, by show 0 ≤ a5 ∧ a5 ≤ 400; rw [y.2]; exact tkC_st tkc (by omega) (by omega), ?_⟩, frX_tr g1 (frX_tr g2 g3), fun d P A Q k => wc_62 (r1 _ _ _ _ (r2 _ _ _ _ none (fun y4 => r3 _ _ _ _ y4 k)))⟩
    show τ3 467 4 = -1000 * a4 - a5
    rw [e3, y.1, y.2]
  · obtain ⟨τ1, h1, g1, r1⟩ := R_pl_give (gg' := 1) h rfl rfl (fun _ => ⟨rfl, dz⟩) (by omega) hLe hs
    obtain ⟨τ2, h2, g2, r2⟩ := R_pl_ng (l := 60 * τ 467 11 + τ 470 (τ 467 11)) h1 (by omega)
    obtain ⟨τ3, h3, g3, e3, r3⟩ := R_pl_og (l := 60 * τ 467 11 + τ 470 (τ 467 11)) h2 ok
    obtain ⟨τ4, h4, g4, r4⟩ := R_pl_ag (l := 60 * τ 467 11 + τ 470 (τ 467 11)) h3 (Int.le_refl _) hl ⟨LN, by omega⟩ e3
    have vv := oV_opk hv ok (fun q => (tkq_num h2.1.2.2.2).2 q)
    have h5 := E_c h4 rfl (lk_h (by decide) vv.1)
    obtain ⟨τ5, h6, g5, r5⟩ := R_pl_gg (l := 60 * τ 467 11 + τ 470 (τ 467 11)) (x := oV (M 92 (M 91 4 + 1)) (M 94 (M 91 4 + 1)) (M 95) (M 91 9)) h5
    have i2 := nE1 hNN hin (by omega) (oOK_ne ok)
    rw [show M 91 4 + 2 = M 91 4 + 1 + 1 by omega] at e y
    obtain ⟨τ6, g6, e6, r6⟩ := R_pl_ge_f (l := 60 * τ 467 11 + τ 470 (τ 467 11)) h6 e
    rw [hF, hS] at g1 g2 g3 g4 g5 g6
    refine ⟨τ6, ⟨by show 1 ≤ a4 ∧ a4 ≤ 6; omega, by show 0 ≤ a5 ∧ a5 ≤ 400; rw [y.2]; exact tkC_st tkc (by omega) (by omega), ?_⟩, frX_tr g1 (frX_tr g2 (frX_tr g3 (frX_tr g4 (frX_tr g5 g6)))), fun d P A Q k => wc_62 (r1 _ _ _ _ (r2 _ _ _ _ none (fun y4 => r3 _ _ _ _ y4 (fun y4 => r4 _ _ _ _ y4 (fun y4 => r5 _ _ _ _ y4 (fun y4 => r6 _ _ _ _ y4 k))))))⟩
    show τ6 467 4 = -1000 * a4 - a5
    rw [e6, y.1, y.2]; omega
  · obtain ⟨τ1, h1, g1, r1⟩ := R_pl_give (gg' := 1) h rfl rfl (fun _ => ⟨rfl, dz⟩) (by omega) hLe hs
    obtain ⟨τ2, h2, g2, r2⟩ := R_pl_ng (l := 60 * τ 467 11 + τ 470 (τ 467 11)) h1 (by omega)
    obtain ⟨τ3, h3, g3, e3, r3⟩ := R_pl_og (l := 60 * τ 467 11 + τ 470 (τ 467 11)) h2 ok
    obtain ⟨τ4, h4, g4, r4⟩ := R_pl_ag (l := 60 * τ 467 11 + τ 470 (τ 467 11)) h3 (Int.le_refl _) hl ⟨LN, by omega⟩ e3
    have vv := oV_opk hv ok (fun q => (tkq_num h2.1.2.2.2).2 q)
    have h5 := E_c h4 rfl (lk_h (by decide) vv.1)
    obtain ⟨τ5, h6, g5, r5⟩ := R_pl_gg (l := 60 * τ 467 11 + τ 470 (τ 467 11)) (x := oV (M 92 (M 91 4 + 1)) (M 94 (M 91 4 + 1)) (M 95) (M 91 9)) h5
    have i2 := nE1 hNN hin (by omega) (oOK_ne ok)
    have i3 := nE2 hNN hin (by omega) (oOK_ne ok) (by omega)
    rw [show M 91 4 + 2 = M 91 4 + 1 + 1 by omega] at e
    rw [show M 91 4 + 3 = M 91 4 + 1 + 1 + 1 by omega] at e3' y
    obtain ⟨τ6, g6, e6, r6⟩ := R_pl_ge_g (l := 60 * τ 467 11 + τ 470 (τ 467 11)) h6 e e3'
    rw [hF, hS] at g1 g2 g3 g4 g5 g6
    refine ⟨τ6, ⟨by show 1 ≤ a4 ∧ a4 ≤ 6; omega, by show 0 ≤ a5 ∧ a5 ≤ 400; rw [y.2]; exact tkC_st tkc (by omega) (by omega), ?_⟩, frX_tr g1 (frX_tr g2 (frX_tr g3 (frX_tr g4 (frX_tr g5 g6)))), fun d P A Q k => wc_62 (r1 _ _ _ _ (r2 _ _ _ _ none (fun y4 => r3 _ _ _ _ y4 (fun y4 => r4 _ _ _ _ y4 (fun y4 => r5 _ _ _ _ y4 (fun y4 => r6 _ _ _ _ y4 k))))))⟩
    show τ6 467 4 = -1000 * a4 - a5
    rw [e6, y.1, y.2]; omega
theorem LX_33 {b now F S : Int} {M τ : Nat → Int → Int} (h : (RL b now (M 17) (M 91 3) (M 92) (M 93) (M 94) (M 91 4) (M 91 9) (M 95) (M 33 0) (M 33 1) (M 48 13) (M 91 14) (M 99) (M 100) (M 96) (M 97) (M 98) (M 44) (M 46) (M 47) (M 34) (M 35) (M 36) (M 38) (M 40) (M 42) (M 49) (M 50) (M 51) (M 52) (M 53) (M 54) (M 55) (M 56) (M 57) (M 58) (M 59) (M 60) (M 61) 0 0 (M 48 13) τ)) (hF : M 38 now = F) (hS : M 40 now = S) (hs : ¬ M 92 (M 91 4) = -2 ∧ ¬ M 92 (M 91 4) = -6 ∧ ¬ M 92 (M 91 4) = -8 ∧ ¬ M 92 (M 91 4) = -9) (d : Nat) (P : Nat → Nat → Nat) (Q : zQ) (hQ : ∀ (M' : Nat → Int → Int) (r : Int), OL_33 b now F S rLc τ M M' r → Q (zS (zupN P 91 8 33) M') (some (vI r))) : WP (d + 109) 238 0 0 0 [some (vR 91)] [] (zS (zupN P 91 8 33) M) Q := by
  have f := RL_f h
  obtain ⟨fbk, fnv, ⟨f70, n0, n60⟩, ⟨f71, s0, s16'⟩, ⟨f76, F0, Fn⟩, ⟨f78, S0, Sn⟩, ⟨f47, d0, d4⟩, ⟨f11, f12⟩, f74, hNN, hin⟩ := f
  have tkc := h.1.1
  have hv := h.2.2.1.1
  have key : Q (zS (zupN P 91 8 33) (zup (zup M 91 6 (nF (M 92 (M 91 4)))) 91 7 (M 93 (M 91 4)))) (some (vI 0)) := by
    obtain ⟨τ1, g1, e1, r1⟩ := R_pl_no h hs
    rw [hF, hS] at g1
    have nb := nF_b (s := M 92 (M 91 4))
    exact hQ _ _ (Or.inr ⟨rfl, (by repeat first | exact frO_refl | refine frO_up (by decide) ?_ | refine frO_row (by decide) ?_), τ1, ⟨by show 1 ≤ nF (M 92 (M 91 4)) ∧ nF (M 92 (M 91 4)) ≤ 6; omega, by show 0 ≤ M 93 (M 91 4) ∧ M 93 (M 91 4) ≤ 400; exact tkC_st tkc hin.1 hin.2, e1⟩, g1, fun d P A Q k => wc_62 (r1 _ _ _ _ k)⟩)
  by_cases c7 : M 92 (M 91 4) = -7
  · exact readLine_e7_33 (by omega) c7 key
  · by_cases c5 : M 92 (M 91 4) = -5
    · exact readLine_e5_33 (by omega) c5 key
    · by_cases c4 : M 92 (M 91 4) = -4
      · exact readLine_e4_33 (by omega) c4 key
      · by_cases c3 : M 92 (M 91 4) = -3
        · exact readLine_e3_33 (by omega) c3 key
        · exact readLine_f_33 (by omega) hs.2.2.2 hs.2.2.1 c7 hs.2.1 c5 c4 c3 hs.1 key
theorem LL_33 {b now F S : Int} {M τ : Nat → Int → Int} (h : (RL b now (M 17) (M 91 3) (M 92) (M 93) (M 94) (M 91 4) (M 91 9) (M 95) (M 33 0) (M 33 1) (M 48 13) (M 91 14) (M 99) (M 100) (M 96) (M 97) (M 98) (M 44) (M 46) (M 47) (M 34) (M 35) (M 36) (M 38) (M 40) (M 42) (M 49) (M 50) (M 51) (M 52) (M 53) (M 54) (M 55) (M 56) (M 57) (M 58) (M 59) (M 60) (M 61) 0 0 (M 48 13) τ)) (hF : M 38 now = F) (hS : M 40 now = S) (d : Nat) (P : Nat → Nat → Nat) (Q : zQ) (hQ : ∀ (M' : Nat → Int → Int) (r : Int), OL_33 b now F S rLc τ M M' r → Q (zS (zupN P 91 8 33) M') (some (vI r))) : WC (d + 110) 238 [vR 91] (zS (zupN P 91 8 33) M) Q := by
  refine wcc_238_33 ?_
  by_cases c2 : M 92 (M 91 4) = -2
  · exact LP_33 h hF hS c2 d P Q hQ
  · by_cases c6 : M 92 (M 91 4) = -6
    · exact LH_if_33 h hF hS c6 d P Q hQ
    · by_cases c8 : M 92 (M 91 4) = -8
      · exact LH_loop_33 h hF hS c8 d P Q hQ
      · by_cases c9 : M 92 (M 91 4) = -9
        · exact LG_33 h hF hS c9 d P Q hQ
        · exact LX_33 h hF hS ⟨c2, c6, c8, c9⟩ d P Q hQ
theorem LK_33 {b now F S : Int} {M τ : Nat → Int → Int} (h : (RL b now (M 17) (M 91 3) (M 92) (M 93) (M 94) (M 91 4) (M 91 9) (M 95) (M 33 0) (M 33 1) (M 48 13) (M 91 14) (M 99) (M 100) (M 96) (M 97) (M 98) (M 44) (M 46) (M 47) (M 34) (M 35) (M 36) (M 38) (M 40) (M 42) (M 49) (M 50) (M 51) (M 52) (M 53) (M 54) (M 55) (M 56) (M 57) (M 58) (M 59) (M 60) (M 61) 0 0 (M 48 13) τ)) (hF : M 38 now = F) (hS : M 40 now = S) (hs : M 92 (M 91 4) = 125) (hd : 1 ≤ M 91 14) (d : Nat) (P : Nat → Nat → Nat) (Q : zQ) (hQ : ∀ (M' : Nat → Int → Int) (r : Int), OL_33 b now F S rKc τ M M' r → Q (zS (zupN P 91 8 33) M') (some (vI r))) : WC (d + 3) 236 [vR 91] (zS (zupN P 91 8 33) M) Q := by
  have f := RL_f h
  obtain ⟨fbk, fnv, ⟨f70, n0, n60⟩, ⟨f71, s0, s16'⟩, ⟨f76, F0, Fn⟩, ⟨f78, S0, Sn⟩, ⟨f47, d0, d4⟩, ⟨f11, f12⟩, f74, hNN, hin⟩ := f
  have tkc := h.1.1
  have hv := h.2.2.1.1
  have i1 := nE0 hNN hin (by omega)
  have od := h.2.2.2.2.1.2.1 (M 91 14) hd (Int.le_refl _)
  have od1 := od.1
  have od3 := od.2.2.1
  refine closeBlock_c_33 hin hNN (by omega) ⟨hd, d4⟩ (by omega) (fun q => hQ _ _ (Or.inl ⟨rfl, ?_, (by show M 91 4 < M 91 4 + 1; omega), ?_⟩)) (fun q e => hQ _ _ (Or.inl ⟨rfl, ?_, (by show M 91 4 < M 91 4 + 3; omega), ?_⟩)) (fun a1 a2 a4 a5 w1 q e y => hQ _ _ (Or.inr ⟨rfl, (by repeat first | exact frO_refl | refine frO_up (by decide) ?_ | refine frO_row (by decide) ?_), ?_⟩))
  · exact (frC_up (by decide) (by decide) (frC_up (by decide) (by decide) frC_refl))
  · by_cases b0 : M 100 (M 91 14) = 0
    · obtain ⟨τ1, h1, g1, r1⟩ := R_closes_2 h hd hs b0 (fun z => q ⟨⟨z.1, b0⟩, z.2⟩)
      rw [hF, hS] at g1
      exact ⟨τ1, Or.inl h1, g1, r1⟩
    · obtain ⟨τ1, h1, g1, r1⟩ := R_closes_1 h hd hs (by omega)
      rw [hF, hS] at g1
      exact ⟨τ1, Or.inl h1, g1, r1⟩
  · exact (frC_up (by decide) (by decide) (frC_up (by decide) (by decide) (frC_free (by decide) (by decide) (frC_free (by decide) (by decide) (frC_ln (by decide) (by decide) (fun j q => zs_neg (by omega)) frC_refl)))))
  · rw [show M 91 4 + 2 = M 91 4 + 1 + 1 by omega] at e
    obtain ⟨τ1, h1, g1, r1⟩ := R_closes_3 h hd hs q.1.2 q.1.1 q.2 e
    rw [hF, hS] at g1
    rw [show M 91 4 + 1 + 1 + 1 = M 91 4 + 3 by omega] at h1
    exact ⟨τ1, Or.inl h1, g1, r1⟩
  · have i2 := nE1 hNN hin (by omega) (by omega)
    rw [show M 91 4 + 2 = M 91 4 + 1 + 1 by omega] at e y
    obtain ⟨τ1, g1, e1, r1⟩ := R_closes_4 h hd hs q.1.2 q.1.1 q.2 e
    rw [hF, hS] at g1
    refine ⟨τ1, ⟨by show 1 ≤ a4 ∧ a4 ≤ 6; omega, by show 0 ≤ a5 ∧ a5 ≤ 400; rw [y.2]; exact tkC_st tkc (by omega) (by omega), ?_⟩, g1, r1⟩
    show τ1 467 4 = -1000 * a4 - a5
    rw [e1, y.1, y.2]; omega
theorem wcc_238_62 {d : Nat} {P : Nat → Nat → Nat} {M : Nat → Int → Int} {Q : zQ} (h : WP (d + 109) 238 0 0 0 [some (vR 91)] [] (zS P M) Q) : WC (d + 110) 238 [vR 91] (zS P M) Q := ⟨_, rfl, h⟩
theorem LH_if_62 {b now F S : Int} {M τ : Nat → Int → Int} (h : (RL b now (M 17) (M 91 3) (M 92) (M 93) (M 94) (M 91 4) (M 91 9) (M 95) (M 62 0) (M 62 1) (M 77 13) (M 91 14) (M 99) (M 100) (M 96) (M 97) (M 98) (M 73) (M 75) (M 76) (M 63) (M 64) (M 65) (M 67) (M 69) (M 71) (M 78) (M 79) (M 80) (M 81) (M 82) (M 83) (M 84) (M 85) (M 86) (M 87) (M 88) (M 89) (M 90) 0 0 (M 77 13) τ)) (hF : M 67 now = F) (hS : M 69 now = S) (hs : M 92 (M 91 4) = -6) (d : Nat) (P : Nat → Nat → Nat) (Q : zQ) (hQ : ∀ (M' : Nat → Int → Int) (r : Int), OL_62 b now F S rLc τ M M' r → Q (zS (zupN P 91 8 62) M') (some (vI r))) : WP (d + 109) 238 0 0 0 [some (vR 91)] [] (zS (zupN P 91 8 62) M) Q := by
  have f := RL_f h
  obtain ⟨fbk, fnv, ⟨f70, n0, n60⟩, ⟨f71, s0, s16'⟩, ⟨f76, F0, Fn⟩, ⟨f78, S0, Sn⟩, ⟨f47, d0, d4⟩, ⟨f11, f12⟩, f74, hNN, hin⟩ := f
  have tkc := h.1.1
  have hv := h.2.2.1.1
  have cl := h.2.2.2.2.2.1.1
  have cp := gST_path h.2.2.2.2.1 cl (fun j a c => (h.2.2.2.2.2.1.2.2.2 j a c).1)
  have cle := cP_le cl cp
  obtain ⟨me, ee, hLe⟩ := cL_ex cl cp
  have i1 := nE0 hNN hin (by omega)
  have LN : M 67 now ≤ M 77 13 := Fn
  have hl : 60 * τ 467 11 + τ 470 (τ 467 11) = 60 * b + M 77 13 := by omega
  have nf1 := h.2.1.2.2.1
  have h9 : (7 : Int) = 9 → (0 : Int) = 1 ∧ M 91 14 = 0 := fun z => absurd z (by decide)
  refine readLine_if_62 (HK := OL_62 b now F S rLc τ M) (fun Q' hQ' => ?_) (by omega) hs (fun M1 r1 z => by rcases z with z | z <;> omega) hQ
  refine readHead_c_62 (d := d + 105) 7 hin hNN (by omega) hv (by omega) (by omega) (by omega) cl cp (by omega) (fun w58 w59 q0 ok e d5 hL => hQ' _ _ (Or.inl ⟨rfl, ?_, (by show M 91 4 < M 91 4 + 3; omega), ?_⟩)) (fun w1 w2 w3 w4 w5 w6 w7 w8 w9 w10 w11 w12 w13 w14 w15 w16 w17 w18 w19 w20 w21 a4 a5 q y => hQ' _ _ (Or.inr ⟨rfl, (by repeat first | exact frO_refl | refine frO_up (by decide) ?_ | refine frO_row (by decide) ?_), ?_⟩)) (fun w1 w2 w3 w4 w5 w6 w7 w8 w9 w10 w11 w12 w13 w14 w15 w16 w17 w18 w19 w20 w21 a4 a5 q no y => hQ' _ _ (Or.inr ⟨rfl, (by repeat first | exact frO_refl | refine frO_up (by decide) ?_ | refine frO_row (by decide) ?_), ?_⟩)) (fun w1 w2 w3 w4 w5 w6 w7 w8 w9 w10 w11 w12 w13 w14 w15 w16 w17 w18 w19 w20 w21 a4 a5 q ok e y => hQ' _ _ (Or.inr ⟨rfl, (by repeat first | exact frO_refl | refine frO_up (by decide) ?_ | refine frO_row (by decide) ?_), ?_⟩)) (fun w1 w2 w3 w4 w5 w6 w7 w8 w9 w10 w11 w12 w13 w14 w15 w16 w17 w18 w19 w20 w21 a4 a5 q ok e d5 y => hQ' _ _ (Or.inr ⟨rfl, (by repeat first | exact frO_refl | refine frO_up (by decide) ?_ | refine frO_row (by decide) ?_), ?_⟩))
  · exact (frC_up (by decide) (by decide) (frC_up (by decide) (by decide) (frC_up (by decide) (by decide) (frC_up (by decide) (by decide) (frC_up (by decide) (by decide) (frC_free (by decide) (by decide) (frC_free (by decide) (by decide) (frC_free (by decide) (by decide) (frC_free (by decide) (by decide) (frC_ln (by decide) (by decide) (fun j q => zs_neg (by omega)) (frC_free (by decide) (by decide) (frC_free (by decide) (by decide) (frC_ln (by decide) (by decide) (fun j q => zs_neg (by omega)) (frC_ln (by decide) (by decide) (fun j q => zs_neg (by omega)) (frC_ln (by decide) (by decide) (fun j q => zs_neg (by omega)) (frC_ln (by decide) (by decide) (fun j q => zs_neg (by omega)) (frC_ln (by decide) (by decide) (fun j q => zs_neg (by omega)) (frC_ln (by decide) (by decide) (fun j q => zs_neg (by omega)) (frC_ln (by decide) (by decide) (fun j q => (zs_neg (by omega)).trans (zs_neg (by omega))) (frC_ln (by decide) (by decide) (fun j q => zs_neg (by omega)) (frC_ln (by decide) (by decide) (fun j q => zs_neg (by omega)) frC_refl)))))))))))))))))))))
  · obtain ⟨τ1, h1, g1, r1⟩ := R_pl_if (gg' := 0) h rfl rfl h9 (by omega) hL hs
    obtain ⟨τ2, h2, g2, r2⟩ := R_pl_nb (l := 60 * τ 467 11 + τ 470 (τ 467 11)) h1 (by omega)
    obtain ⟨τ3, h3, g3, e3, r3⟩ := R_pl_ob (l := 60 * τ 467 11 + τ 470 (τ 467 11)) h2 ok
    obtain ⟨τ4, h4, g4, r4⟩ := R_pl_ab (l := 60 * τ 467 11 + τ 470 (τ 467 11)) h3 (Int.le_refl _) hl ⟨LN, by omega⟩ e3
    have vv := oV_opk hv ok (fun q => (tkq_num h2.1.2.2.2).2 q)
    have h5 := E_c h4 rfl (lk_h (by decide) vv.1)
    have i2 := nE1 hNN hin (by omega) (oOK_ne ok)
    rw [show M 91 4 + 2 = M 91 4 + 1 + 1 by omega] at e
    obtain ⟨τ6, h6, g6, r6⟩ := R_pl_bo (l := 60 * τ 467 11 + τ 470 (τ 467 11)) h5 rfl LN hl ⟨zs_pos rfl, fun q => (zs_pos rfl).trans (if_neg (by omega))⟩ (Or.inl (zs_pos rfl)) (zs_pos rfl) d5 e
    rw [hF, hS] at g1 g2 g3 g4 g6
    rw [show M 91 4 + 1 + 1 + 1 = M 91 4 + 3 by omega] at h6
    exact ⟨τ6, Or.inl h6, frX_tr g1 (frX_tr g2 (frX_tr g3 (frX_tr g4 g6))), fun d P A Q k => wc_62 (r1 _ _ _ _ (r2 _ _ _ _ none (fun y4 => r3 _ _ _ _ y4 (fun y4 => r4 _ _ _ _ y4 (fun y4 => r6 _ _ _ _ y4 k)))))⟩
  · obtain ⟨τ1, g1, e1, r1⟩ := R_pl_if4 h (by omega) hs
    rw [hF, hS] at g1
    refine ⟨τ1, ⟨by show 1 ≤ a4 ∧ a4 ≤ 6; omega, by show 0 ≤ a5 ∧ a5 ≤ 400; rw [y.2]; exact tkC_st tkc (by omega) (by omega), ?_⟩, g1, fun d P A Q k => wc_62 (r1 _ _ _ _ k)⟩
    show τ1 467 4 = -1000 * a4 - a5
    rw [e1, y.1, y.2]; omega
  · obtain ⟨τ1, h1, g1, r1⟩ := R_pl_if (gg' := 0) h rfl rfl h9 (by omega) hLe hs
    obtain ⟨τ2, h2, g2, r2⟩ := R_pl_nb (l := 60 * τ 467 11 + τ 470 (τ 467 11)) h1 (by omega)
    obtain ⟨τ3, g3, e3, r3⟩ := R_pl_ob_f (l := 60 * τ 467 11 + τ 470 (τ 467 11)) h2 no
    rw [hF, hS] at g1 g2 g3
    have ob := oF_b (s := M 92 (M 91 4 + 1))
    refine ⟨τ3, ⟨by show 1 ≤ a4 ∧ a4 ≤ 6; omega, by show 0 ≤ a5 ∧ a5 ≤ 400; rw [y.2]; exact tkC_st tkc (by omega) (by omega), ?_⟩, frX_tr g1 (frX_tr g2 g3), fun d P A Q k => wc_62 (r1 _ _ _ _ (r2 _ _ _ _ none (fun y4 => r3 _ _ _ _ y4 k)))⟩
    show τ3 467 4 = -1000 * a4 - a5
    rw [e3, y.1, y.2]
  · obtain ⟨τ1, h1, g1, r1⟩ := R_pl_if (gg' := 0) h rfl rfl h9 (by omega) hLe hs
    obtain ⟨τ2, h2, g2, r2⟩ := R_pl_nb (l := 60 * τ 467 11 + τ 470 (τ 467 11)) h1 (by omega)
    obtain ⟨τ3, h3, g3, e3, r3⟩ := R_pl_ob (l := 60 * τ 467 11 + τ 470 (τ 467 11)) h2 ok
    obtain ⟨τ4, h4, g4, r4⟩ := R_pl_ab (l := 60 * τ 467 11 + τ 470 (τ 467 11)) h3 (Int.le_refl _) hl ⟨LN, by omega⟩ e3
    have vv := oV_opk hv ok (fun q => (tkq_num h2.1.2.2.2).2 q)
    have h5 := E_c h4 rfl (lk_h (by decide) vv.1)
    have i2 := nE1 hNN hin (by omega) (oOK_ne ok)
    rw [show M 91 4 + 2 = M 91 4 + 1 + 1 by omega] at e y
    obtain ⟨τ6, g6, e6, r6⟩ := R_pl_bo_f (l := 60 * τ 467 11 + τ 470 (τ 467 11)) h5 e
    rw [hF, hS] at g1 g2 g3 g4 g6
    refine ⟨τ6, ⟨by show 1 ≤ a4 ∧ a4 ≤ 6; omega, by show 0 ≤ a5 ∧ a5 ≤ 400; rw [y.2]; exact tkC_st tkc (by omega) (by omega), ?_⟩, frX_tr g1 (frX_tr g2 (frX_tr g3 (frX_tr g4 g6))), fun d P A Q k => wc_62 (r1 _ _ _ _ (r2 _ _ _ _ none (fun y4 => r3 _ _ _ _ y4 (fun y4 => r4 _ _ _ _ y4 (fun y4 => r6 _ _ _ _ y4 k)))))⟩
    show τ6 467 4 = -1000 * a4 - a5
    rw [e6, y.1, y.2]; omega
  · obtain ⟨τ1, h1, g1, r1⟩ := R_pl_if (gg' := 0) h rfl rfl h9 (by omega) hLe hs
    obtain ⟨τ2, h2, g2, r2⟩ := R_pl_nb (l := 60 * τ 467 11 + τ 470 (τ 467 11)) h1 (by omega)
    obtain ⟨τ3, h3, g3, e3, r3⟩ := R_pl_ob (l := 60 * τ 467 11 + τ 470 (τ 467 11)) h2 ok
    obtain ⟨τ4, h4, g4, r4⟩ := R_pl_ab (l := 60 * τ 467 11 + τ 470 (τ 467 11)) h3 (Int.le_refl _) hl ⟨LN, by omega⟩ e3
    have vv := oV_opk hv ok (fun q => (tkq_num h2.1.2.2.2).2 q)
    have h5 := E_c h4 rfl (lk_h (by decide) vv.1)
    have i2 := nE1 hNN hin (by omega) (oOK_ne ok)
    rw [show M 91 4 + 2 = M 91 4 + 1 + 1 by omega] at e y
    obtain ⟨τ6, g6, e6, r6⟩ := R_pl_bo_g (l := 60 * τ 467 11 + τ 470 (τ 467 11)) h5 e (show M 91 14 = 4 by omega)
    rw [hF, hS] at g1 g2 g3 g4 g6
    refine ⟨τ6, ⟨by show 1 ≤ a4 ∧ a4 ≤ 6; omega, by show 0 ≤ a5 ∧ a5 ≤ 400; rw [y.2]; exact tkC_st tkc (by omega) (by omega), ?_⟩, frX_tr g1 (frX_tr g2 (frX_tr g3 (frX_tr g4 g6))), fun d P A Q k => wc_62 (r1 _ _ _ _ (r2 _ _ _ _ none (fun y4 => r3 _ _ _ _ y4 (fun y4 => r4 _ _ _ _ y4 (fun y4 => r6 _ _ _ _ y4 k)))))⟩
    show τ6 467 4 = -1000 * a4 - a5
    rw [e6, y.1, y.2]; omega
theorem LH_loop_62 {b now F S : Int} {M τ : Nat → Int → Int} (h : (RL b now (M 17) (M 91 3) (M 92) (M 93) (M 94) (M 91 4) (M 91 9) (M 95) (M 62 0) (M 62 1) (M 77 13) (M 91 14) (M 99) (M 100) (M 96) (M 97) (M 98) (M 73) (M 75) (M 76) (M 63) (M 64) (M 65) (M 67) (M 69) (M 71) (M 78) (M 79) (M 80) (M 81) (M 82) (M 83) (M 84) (M 85) (M 86) (M 87) (M 88) (M 89) (M 90) 0 0 (M 77 13) τ)) (hF : M 67 now = F) (hS : M 69 now = S) (hs : M 92 (M 91 4) = -8) (d : Nat) (P : Nat → Nat → Nat) (Q : zQ) (hQ : ∀ (M' : Nat → Int → Int) (r : Int), OL_62 b now F S rLc τ M M' r → Q (zS (zupN P 91 8 62) M') (some (vI r))) : WP (d + 109) 238 0 0 0 [some (vR 91)] [] (zS (zupN P 91 8 62) M) Q := by
  have f := RL_f h
  obtain ⟨fbk, fnv, ⟨f70, n0, n60⟩, ⟨f71, s0, s16'⟩, ⟨f76, F0, Fn⟩, ⟨f78, S0, Sn⟩, ⟨f47, d0, d4⟩, ⟨f11, f12⟩, f74, hNN, hin⟩ := f
  have tkc := h.1.1
  have hv := h.2.2.1.1
  have cl := h.2.2.2.2.2.1.1
  have cp := gST_path h.2.2.2.2.1 cl (fun j a c => (h.2.2.2.2.2.1.2.2.2 j a c).1)
  have cle := cP_le cl cp
  obtain ⟨me, ee, hLe⟩ := cL_ex cl cp
  have i1 := nE0 hNN hin (by omega)
  have LN : M 67 now ≤ M 77 13 := Fn
  have hl : 60 * τ 467 11 + τ 470 (τ 467 11) = 60 * b + M 77 13 := by omega
  have nf1 := h.2.1.2.2.1
  have h9 : (8 : Int) = 9 → (0 : Int) = 1 ∧ M 91 14 = 0 := fun z => absurd z (by decide)
  refine readLine_loop_62 (HK := OL_62 b now F S rLc τ M) (fun Q' hQ' => ?_) (by omega) hs (fun M1 r1 z => by rcases z with z | z <;> omega) hQ
  refine readHead_c_62 (d := d + 105) 8 hin hNN (by omega) hv (by omega) (by omega) (by omega) cl cp (by omega) (fun w58 w59 q0 ok e d5 hL => hQ' _ _ (Or.inl ⟨rfl, ?_, (by show M 91 4 < M 91 4 + 3; omega), ?_⟩)) (fun w1 w2 w3 w4 w5 w6 w7 w8 w9 w10 w11 w12 w13 w14 w15 w16 w17 w18 w19 w20 w21 a4 a5 q y => hQ' _ _ (Or.inr ⟨rfl, (by repeat first | exact frO_refl | refine frO_up (by decide) ?_ | refine frO_row (by decide) ?_), ?_⟩)) (fun w1 w2 w3 w4 w5 w6 w7 w8 w9 w10 w11 w12 w13 w14 w15 w16 w17 w18 w19 w20 w21 a4 a5 q no y => hQ' _ _ (Or.inr ⟨rfl, (by repeat first | exact frO_refl | refine frO_up (by decide) ?_ | refine frO_row (by decide) ?_), ?_⟩)) (fun w1 w2 w3 w4 w5 w6 w7 w8 w9 w10 w11 w12 w13 w14 w15 w16 w17 w18 w19 w20 w21 a4 a5 q ok e y => hQ' _ _ (Or.inr ⟨rfl, (by repeat first | exact frO_refl | refine frO_up (by decide) ?_ | refine frO_row (by decide) ?_), ?_⟩)) (fun w1 w2 w3 w4 w5 w6 w7 w8 w9 w10 w11 w12 w13 w14 w15 w16 w17 w18 w19 w20 w21 a4 a5 q ok e d5 y => hQ' _ _ (Or.inr ⟨rfl, (by repeat first | exact frO_refl | refine frO_up (by decide) ?_ | refine frO_row (by decide) ?_), ?_⟩))
  · exact (frC_up (by decide) (by decide) (frC_up (by decide) (by decide) (frC_up (by decide) (by decide) (frC_up (by decide) (by decide) (frC_up (by decide) (by decide) (frC_free (by decide) (by decide) (frC_free (by decide) (by decide) (frC_free (by decide) (by decide) (frC_free (by decide) (by decide) (frC_ln (by decide) (by decide) (fun j q => zs_neg (by omega)) (frC_free (by decide) (by decide) (frC_free (by decide) (by decide) (frC_ln (by decide) (by decide) (fun j q => zs_neg (by omega)) (frC_ln (by decide) (by decide) (fun j q => zs_neg (by omega)) (frC_ln (by decide) (by decide) (fun j q => zs_neg (by omega)) (frC_ln (by decide) (by decide) (fun j q => zs_neg (by omega)) (frC_ln (by decide) (by decide) (fun j q => zs_neg (by omega)) (frC_ln (by decide) (by decide) (fun j q => zs_neg (by omega)) (frC_ln (by decide) (by decide) (fun j q => (zs_neg (by omega)).trans (zs_neg (by omega))) (frC_ln (by decide) (by decide) (fun j q => zs_neg (by omega)) (frC_ln (by decide) (by decide) (fun j q => zs_neg (by omega)) frC_refl)))))))))))))))))))))
  · obtain ⟨τ1, h1, g1, r1⟩ := R_pl_loop (gg' := 0) h rfl rfl h9 (by omega) hL hs
    obtain ⟨τ2, h2, g2, r2⟩ := R_pl_nb (l := 60 * τ 467 11 + τ 470 (τ 467 11)) h1 (by omega)
    obtain ⟨τ3, h3, g3, e3, r3⟩ := R_pl_ob (l := 60 * τ 467 11 + τ 470 (τ 467 11)) h2 ok
    obtain ⟨τ4, h4, g4, r4⟩ := R_pl_ab (l := 60 * τ 467 11 + τ 470 (τ 467 11)) h3 (Int.le_refl _) hl ⟨LN, by omega⟩ e3
    have vv := oV_opk hv ok (fun q => (tkq_num h2.1.2.2.2).2 q)
    have h5 := E_c h4 rfl (lk_h (by decide) vv.1)
    have i2 := nE1 hNN hin (by omega) (oOK_ne ok)
    rw [show M 91 4 + 2 = M 91 4 + 1 + 1 by omega] at e
    obtain ⟨τ6, h6, g6, r6⟩ := R_pl_bo (l := 60 * τ 467 11 + τ 470 (τ 467 11)) h5 rfl LN hl ⟨zs_pos rfl, fun q => (zs_pos rfl).trans (if_neg (by omega))⟩ (Or.inr (zs_pos rfl)) (zs_pos rfl) d5 e
    rw [hF, hS] at g1 g2 g3 g4 g6
    rw [show M 91 4 + 1 + 1 + 1 = M 91 4 + 3 by omega] at h6
    exact ⟨τ6, Or.inl h6, frX_tr g1 (frX_tr g2 (frX_tr g3 (frX_tr g4 g6))), fun d P A Q k => wc_62 (r1 _ _ _ _ (r2 _ _ _ _ none (fun y4 => r3 _ _ _ _ y4 (fun y4 => r4 _ _ _ _ y4 (fun y4 => r6 _ _ _ _ y4 k)))))⟩
  · obtain ⟨τ1, g1, e1, r1⟩ := R_pl_loop4 h (by omega) hs
    rw [hF, hS] at g1
    refine ⟨τ1, ⟨by show 1 ≤ a4 ∧ a4 ≤ 6; omega, by show 0 ≤ a5 ∧ a5 ≤ 400; rw [y.2]; exact tkC_st tkc (by omega) (by omega), ?_⟩, g1, fun d P A Q k => wc_62 (r1 _ _ _ _ k)⟩
    show τ1 467 4 = -1000 * a4 - a5
    rw [e1, y.1, y.2]; omega
  · obtain ⟨τ1, h1, g1, r1⟩ := R_pl_loop (gg' := 0) h rfl rfl h9 (by omega) hLe hs
    obtain ⟨τ2, h2, g2, r2⟩ := R_pl_nb (l := 60 * τ 467 11 + τ 470 (τ 467 11)) h1 (by omega)
    obtain ⟨τ3, g3, e3, r3⟩ := R_pl_ob_f (l := 60 * τ 467 11 + τ 470 (τ 467 11)) h2 no
    rw [hF, hS] at g1 g2 g3
    have ob := oF_b (s := M 92 (M 91 4 + 1))
    refine ⟨τ3, ⟨by show 1 ≤ a4 ∧ a4 ≤ 6; omega, by show 0 ≤ a5 ∧ a5 ≤ 400; rw [y.2]; exact tkC_st tkc (by omega) (by omega), ?_⟩, frX_tr g1 (frX_tr g2 g3), fun d P A Q k => wc_62 (r1 _ _ _ _ (r2 _ _ _ _ none (fun y4 => r3 _ _ _ _ y4 k)))⟩
    show τ3 467 4 = -1000 * a4 - a5
    rw [e3, y.1, y.2]
  · obtain ⟨τ1, h1, g1, r1⟩ := R_pl_loop (gg' := 0) h rfl rfl h9 (by omega) hLe hs
    obtain ⟨τ2, h2, g2, r2⟩ := R_pl_nb (l := 60 * τ 467 11 + τ 470 (τ 467 11)) h1 (by omega)
    obtain ⟨τ3, h3, g3, e3, r3⟩ := R_pl_ob (l := 60 * τ 467 11 + τ 470 (τ 467 11)) h2 ok
    obtain ⟨τ4, h4, g4, r4⟩ := R_pl_ab (l := 60 * τ 467 11 + τ 470 (τ 467 11)) h3 (Int.le_refl _) hl ⟨LN, by omega⟩ e3
    have vv := oV_opk hv ok (fun q => (tkq_num h2.1.2.2.2).2 q)
    have h5 := E_c h4 rfl (lk_h (by decide) vv.1)
    have i2 := nE1 hNN hin (by omega) (oOK_ne ok)
    rw [show M 91 4 + 2 = M 91 4 + 1 + 1 by omega] at e y
    obtain ⟨τ6, g6, e6, r6⟩ := R_pl_bo_f (l := 60 * τ 467 11 + τ 470 (τ 467 11)) h5 e
    rw [hF, hS] at g1 g2 g3 g4 g6
    refine ⟨τ6, ⟨by show 1 ≤ a4 ∧ a4 ≤ 6; omega, by show 0 ≤ a5 ∧ a5 ≤ 400; rw [y.2]; exact tkC_st tkc (by omega) (by omega), ?_⟩, frX_tr g1 (frX_tr g2 (frX_tr g3 (frX_tr g4 g6))), fun d P A Q k => wc_62 (r1 _ _ _ _ (r2 _ _ _ _ none (fun y4 => r3 _ _ _ _ y4 (fun y4 => r4 _ _ _ _ y4 (fun y4 => r6 _ _ _ _ y4 k)))))⟩
    show τ6 467 4 = -1000 * a4 - a5
    rw [e6, y.1, y.2]; omega
  · obtain ⟨τ1, h1, g1, r1⟩ := R_pl_loop (gg' := 0) h rfl rfl h9 (by omega) hLe hs
    obtain ⟨τ2, h2, g2, r2⟩ := R_pl_nb (l := 60 * τ 467 11 + τ 470 (τ 467 11)) h1 (by omega)
    obtain ⟨τ3, h3, g3, e3, r3⟩ := R_pl_ob (l := 60 * τ 467 11 + τ 470 (τ 467 11)) h2 ok
    obtain ⟨τ4, h4, g4, r4⟩ := R_pl_ab (l := 60 * τ 467 11 + τ 470 (τ 467 11)) h3 (Int.le_refl _) hl ⟨LN, by omega⟩ e3
    have vv := oV_opk hv ok (fun q => (tkq_num h2.1.2.2.2).2 q)
    have h5 := E_c h4 rfl (lk_h (by decide) vv.1)
    have i2 := nE1 hNN hin (by omega) (oOK_ne ok)
    rw [show M 91 4 + 2 = M 91 4 + 1 + 1 by omega] at e y
    obtain ⟨τ6, g6, e6, r6⟩ := R_pl_bo_g (l := 60 * τ 467 11 + τ 470 (τ 467 11)) h5 e (show M 91 14 = 4 by omega)
    rw [hF, hS] at g1 g2 g3 g4 g6
    refine ⟨τ6, ⟨by show 1 ≤ a4 ∧ a4 ≤ 6; omega, by show 0 ≤ a5 ∧ a5 ≤ 400; rw [y.2]; exact tkC_st tkc (by omega) (by omega), ?_⟩, frX_tr g1 (frX_tr g2 (frX_tr g3 (frX_tr g4 g6))), fun d P A Q k => wc_62 (r1 _ _ _ _ (r2 _ _ _ _ none (fun y4 => r3 _ _ _ _ y4 (fun y4 => r4 _ _ _ _ y4 (fun y4 => r6 _ _ _ _ y4 k)))))⟩
    show τ6 467 4 = -1000 * a4 - a5
    rw [e6, y.1, y.2]; omega
theorem LG_62 {b now F S : Int} {M τ : Nat → Int → Int} (h : (RL b now (M 17) (M 91 3) (M 92) (M 93) (M 94) (M 91 4) (M 91 9) (M 95) (M 62 0) (M 62 1) (M 77 13) (M 91 14) (M 99) (M 100) (M 96) (M 97) (M 98) (M 73) (M 75) (M 76) (M 63) (M 64) (M 65) (M 67) (M 69) (M 71) (M 78) (M 79) (M 80) (M 81) (M 82) (M 83) (M 84) (M 85) (M 86) (M 87) (M 88) (M 89) (M 90) 0 0 (M 77 13) τ)) (hF : M 67 now = F) (hS : M 69 now = S) (hs : M 92 (M 91 4) = -9) (d : Nat) (P : Nat → Nat → Nat) (Q : zQ) (hQ : ∀ (M' : Nat → Int → Int) (r : Int), OL_62 b now F S rLc τ M M' r → Q (zS (zupN P 91 8 62) M') (some (vI r))) : WP (d + 109) 238 0 0 0 [some (vR 91)] [] (zS (zupN P 91 8 62) M) Q := by
  have f := RL_f h
  obtain ⟨fbk, fnv, ⟨f70, n0, n60⟩, ⟨f71, s0, s16'⟩, ⟨f76, F0, Fn⟩, ⟨f78, S0, Sn⟩, ⟨f47, d0, d4⟩, ⟨f11, f12⟩, f74, hNN, hin⟩ := f
  have tkc := h.1.1
  have hv := h.2.2.1.1
  have cl := h.2.2.2.2.2.1.1
  have cp := gST_path h.2.2.2.2.1 cl (fun j a c => (h.2.2.2.2.2.1.2.2.2 j a c).1)
  have cle := cP_le cl cp
  obtain ⟨me, ee, hLe⟩ := cL_ex cl cp
  have i1 := nE0 hNN hin (by omega)
  have LN : M 67 now ≤ M 77 13 := Fn
  have hl : 60 * τ 467 11 + τ 470 (τ 467 11) = 60 * b + M 77 13 := by omega
  have nf1 := h.2.1.2.2.1
  refine readLine_give_62 (HK := OL_62 b now F S rLc τ M) (fun Q' hQ' => ?_) (by omega) hs (fun M1 r1 z => by rcases z with z | z <;> omega) hQ
  refine readGive_c_62 (d := d + 105) hin hNN (by omega) hv (by omega) (by omega) (by omega) cl cp (by omega) (by omega) (fun w58 w59 dz q0 ok e e3' hL => hQ' _ _ (Or.inl ⟨rfl, ?_, (by show M 91 4 < M 91 4 + 3; omega), ?_⟩)) (fun w1 w2 w3 w4 w5 w6 w7 w8 w9 w10 w11 w12 w13 w14 w15 w16 w17 w18 w19 a4 a5 dz y => hQ' _ _ (Or.inr ⟨rfl, (by repeat first | exact frO_refl | refine frO_up (by decide) ?_ | refine frO_row (by decide) ?_), ?_⟩)) (fun w1 w2 w3 w4 w5 w6 w7 w8 w9 w10 w11 w12 w13 w14 w15 w16 w17 w18 w19 a4 a5 dz q y => hQ' _ _ (Or.inr ⟨rfl, (by repeat first | exact frO_refl | refine frO_up (by decide) ?_ | refine frO_row (by decide) ?_), ?_⟩)) (fun w1 w2 w3 w4 w5 w6 w7 w8 w9 w10 w11 w12 w13 w14 w15 w16 w17 w18 w19 a4 a5 dz q no y => hQ' _ _ (Or.inr ⟨rfl, (by repeat first | exact frO_refl | refine frO_up (by decide) ?_ | refine frO_row (by decide) ?_), ?_⟩)) (fun w1 w2 w3 w4 w5 w6 w7 w8 w9 w10 w11 w12 w13 w14 w15 w16 w17 w18 w19 a4 a5 dz q ok e y => hQ' _ _ (Or.inr ⟨rfl, (by repeat first | exact frO_refl | refine frO_up (by decide) ?_ | refine frO_row (by decide) ?_), ?_⟩)) (fun w1 w2 w3 w4 w5 w6 w7 w8 w9 w10 w11 w12 w13 w14 w15 w16 w17 w18 w19 a4 a5 dz q ok e e3' y => hQ' _ _ (Or.inr ⟨rfl, (by repeat first | exact frO_refl | refine frO_up (by decide) ?_ | refine frO_row (by decide) ?_), ?_⟩))
  · exact (frC_up (by decide) (by decide) (frC_up (by decide) (by decide) (frC_up (by decide) (by decide) (frC_up (by decide) (by decide) (frC_free (by decide) (by decide) (frC_free (by decide) (by decide) (frC_ln (by decide) (by decide) (fun j q => zs_neg (by omega)) (frC_free (by decide) (by decide) (frC_free (by decide) (by decide) (frC_ln (by decide) (by decide) (fun j q => zs_neg (by omega)) (frC_ln (by decide) (by decide) (fun j q => zs_neg (by omega)) (frC_ln (by decide) (by decide) (fun j q => zs_neg (by omega)) (frC_ln (by decide) (by decide) (fun j q => zs_neg (by omega)) (frC_ln (by decide) (by decide) (fun j q => zs_neg (by omega)) (frC_ln (by decide) (by decide) (fun j q => zs_neg (by omega)) (frC_ln (by decide) (by decide) (fun j q => (zs_neg (by omega)).trans (zs_neg (by omega))) (frC_ln (by decide) (by decide) (fun j q => zs_neg (by omega)) (frC_ln (by decide) (by decide) (fun j q => zs_neg (by omega)) (frC_fn (by decide) (by decide) (fun j q => zs_neg (by omega)) frC_refl)))))))))))))))))))
  · obtain ⟨τ1, h1, g1, r1⟩ := R_pl_give (gg' := 1) h rfl rfl (fun _ => ⟨rfl, dz⟩) (by omega) hL hs
    obtain ⟨τ2, h2, g2, r2⟩ := R_pl_ng (l := 60 * τ 467 11 + τ 470 (τ 467 11)) h1 (by omega)
    obtain ⟨τ3, h3, g3, e3, r3⟩ := R_pl_og (l := 60 * τ 467 11 + τ 470 (τ 467 11)) h2 ok
    obtain ⟨τ4, h4, g4, r4⟩ := R_pl_ag (l := 60 * τ 467 11 + τ 470 (τ 467 11)) h3 (Int.le_refl _) hl ⟨LN, by omega⟩ e3
    have vv := oV_opk hv ok (fun q => (tkq_num h2.1.2.2.2).2 q)
    have h5 := E_c h4 rfl (lk_h (by decide) vv.1)
    obtain ⟨τ5, h6, g5, r5⟩ := R_pl_gg (l := 60 * τ 467 11 + τ 470 (τ 467 11)) (x := oV (M 92 (M 91 4 + 1)) (M 94 (M 91 4 + 1)) (M 95) (M 91 9)) h5
    have i2 := nE1 hNN hin (by omega) (oOK_ne ok)
    rw [show M 91 4 + 2 = M 91 4 + 1 + 1 by omega] at e
    rw [show M 91 4 + 3 = M 91 4 + 1 + 1 + 1 by omega] at e3'
    obtain ⟨τ6, h7, g6, r6⟩ := R_pl_ge (l := 60 * τ 467 11 + τ 470 (τ 467 11)) h6 e e3'
    rw [hF, hS] at g1 g2 g3 g4 g5 g6
    rw [show M 91 4 + 1 + 1 + 1 = M 91 4 + 3 by omega] at h7 e3'
    refine ⟨τ6, Or.inr ⟨h7, dz, e3', ?_, ?_, ?_, ?_⟩, frX_tr g1 (frX_tr g2 (frX_tr g3 (frX_tr g4 (frX_tr g5 g6)))), fun d P A Q k => wc_62 (r1 _ _ _ _ (r2 _ _ _ _ none (fun y4 => r3 _ _ _ _ y4 (fun y4 => r4 _ _ _ _ y4 (fun y4 => r5 _ _ _ _ y4 (fun y4 => r6 _ _ _ _ y4 k))))))⟩
    · show M 67 now < M 77 13 + 1
      omega
    · show zs (M 78) (M 77 13) 9 (M 77 13 + 1 - 1) = 9
      exact zs_pos (by omega)
    · show zs (M 71) (M 62 0 - 1) (oV (M 92 (M 91 4 + 1)) (M 94 (M 91 4 + 1)) (M 95) (M 91 9)) now = zs (zs (M 80) (M 77 13) (-2)) (M 77 13) (oV (M 92 (M 91 4 + 1)) (M 94 (M 91 4 + 1)) (M 95) (M 91 9)) (M 77 13 + 1 - 1)
      rw [zs_pos (by omega), zs_pos (by omega)]
    · show ¬ zs (zs (M 80) (M 77 13) (-2)) (M 77 13) (oV (M 92 (M 91 4 + 1)) (M 94 (M 91 4 + 1)) (M 95) (M 91 9)) (M 77 13 + 1 - 1) = -2
      rw [zs_pos (by omega)]
      have := vv.1
      unfold opk at this
      omega
  · obtain ⟨τ1, g1, e1, r1⟩ := R_pl_g1 h hs (by omega)
    rw [hF, hS] at g1
    refine ⟨τ1, ⟨by show 1 ≤ a4 ∧ a4 ≤ 6; omega, by show 0 ≤ a5 ∧ a5 ≤ 400; rw [y.2]; exact tkC_st tkc (by omega) (by omega), ?_⟩, g1, fun d P A Q k => wc_62 (r1 _ _ _ _ k)⟩
    show τ1 467 4 = -1000 * a4 - a5
    rw [e1, y.1, y.2]; omega
  · obtain ⟨τ1, g1, e1, r1⟩ := R_pl_give4 h (by omega) hs dz
    rw [hF, hS] at g1
    refine ⟨τ1, ⟨by show 1 ≤ a4 ∧ a4 ≤ 6; omega, by show 0 ≤ a5 ∧ a5 ≤ 400; rw [y.2]; exact tkC_st tkc (by omega) (by omega), ?_⟩, g1, fun d P A Q k => wc_62 (r1 _ _ _ _ k)⟩
    show τ1 467 4 = -1000 * a4 - a5
    rw [e1, y.1, y.2]; omega
  · obtain ⟨τ1, h1, g1, r1⟩ := R_pl_give (gg' := 1) h rfl rfl (fun _ => ⟨rfl, dz⟩) (by omega) hLe hs
    obtain ⟨τ2, h2, g2, r2⟩ := R_pl_ng (l := 60 * τ 467 11 + τ 470 (τ 467 11)) h1 (by omega)
    obtain ⟨τ3, g3, e3, r3⟩ := R_pl_og_f (l := 60 * τ 467 11 + τ 470 (τ 467 11)) h2 no
    rw [hF, hS] at g1 g2 g3
    have ob := oF_b (s := M 92 (M 91 4 + 1))
    refine ⟨τ3, ⟨by show 1 ≤ a4 ∧ a4 ≤ 6; omega, by show 0 ≤ a5 ∧ a5 ≤ 400; rw [y.2]; exact tkC_st tkc (by omega) (by omega), ?_⟩, frX_tr g1 (frX_tr g2 g3), fun d P A Q k => wc_62 (r1 _ _ _ _ (r2 _ _ _ _ none (fun y4 => r3 _ _ _ _ y4 k)))⟩
    show τ3 467 4 = -1000 * a4 - a5
    rw [e3, y.1, y.2]
  · obtain ⟨τ1, h1, g1, r1⟩ := R_pl_give (gg' := 1) h rfl rfl (fun _ => ⟨rfl, dz⟩) (by omega) hLe hs
    obtain ⟨τ2, h2, g2, r2⟩ := R_pl_ng (l := 60 * τ 467 11 + τ 470 (τ 467 11)) h1 (by omega)
    obtain ⟨τ3, h3, g3, e3, r3⟩ := R_pl_og (l := 60 * τ 467 11 + τ 470 (τ 467 11)) h2 ok
    obtain ⟨τ4, h4, g4, r4⟩ := R_pl_ag (l := 60 * τ 467 11 + τ 470 (τ 467 11)) h3 (Int.le_refl _) hl ⟨LN, by omega⟩ e3
    have vv := oV_opk hv ok (fun q => (tkq_num h2.1.2.2.2).2 q)
    have h5 := E_c h4 rfl (lk_h (by decide) vv.1)
    obtain ⟨τ5, h6, g5, r5⟩ := R_pl_gg (l := 60 * τ 467 11 + τ 470 (τ 467 11)) (x := oV (M 92 (M 91 4 + 1)) (M 94 (M 91 4 + 1)) (M 95) (M 91 9)) h5
    have i2 := nE1 hNN hin (by omega) (oOK_ne ok)
    rw [show M 91 4 + 2 = M 91 4 + 1 + 1 by omega] at e y
    obtain ⟨τ6, g6, e6, r6⟩ := R_pl_ge_f (l := 60 * τ 467 11 + τ 470 (τ 467 11)) h6 e
    rw [hF, hS] at g1 g2 g3 g4 g5 g6
    refine ⟨τ6, ⟨by show 1 ≤ a4 ∧ a4 ≤ 6; omega, by show 0 ≤ a5 ∧ a5 ≤ 400; rw [y.2]; exact tkC_st tkc (by omega) (by omega), ?_⟩, frX_tr g1 (frX_tr g2 (frX_tr g3 (frX_tr g4 (frX_tr g5 g6)))), fun d P A Q k => wc_62 (r1 _ _ _ _ (r2 _ _ _ _ none (fun y4 => r3 _ _ _ _ y4 (fun y4 => r4 _ _ _ _ y4 (fun y4 => r5 _ _ _ _ y4 (fun y4 => r6 _ _ _ _ y4 k))))))⟩
    show τ6 467 4 = -1000 * a4 - a5
    rw [e6, y.1, y.2]; omega
  · obtain ⟨τ1, h1, g1, r1⟩ := R_pl_give (gg' := 1) h rfl rfl (fun _ => ⟨rfl, dz⟩) (by omega) hLe hs
    obtain ⟨τ2, h2, g2, r2⟩ := R_pl_ng (l := 60 * τ 467 11 + τ 470 (τ 467 11)) h1 (by omega)
    obtain ⟨τ3, h3, g3, e3, r3⟩ := R_pl_og (l := 60 * τ 467 11 + τ 470 (τ 467 11)) h2 ok
    obtain ⟨τ4, h4, g4, r4⟩ := R_pl_ag (l := 60 * τ 467 11 + τ 470 (τ 467 11)) h3 (Int.le_refl _) hl ⟨LN, by omega⟩ e3
    have vv := oV_opk hv ok (fun q => (tkq_num h2.1.2.2.2).2 q)
    have h5 := E_c h4 rfl (lk_h (by decide) vv.1)
    obtain ⟨τ5, h6, g5, r5⟩ := R_pl_gg (l := 60 * τ 467 11 + τ 470 (τ 467 11)) (x := oV (M 92 (M 91 4 + 1)) (M 94 (M 91 4 + 1)) (M 95) (M 91 9)) h5
    have i2 := nE1 hNN hin (by omega) (oOK_ne ok)
    have i3 := nE2 hNN hin (by omega) (oOK_ne ok) (by omega)
    rw [show M 91 4 + 2 = M 91 4 + 1 + 1 by omega] at e
    rw [show M 91 4 + 3 = M 91 4 + 1 + 1 + 1 by omega] at e3' y
    obtain ⟨τ6, g6, e6, r6⟩ := R_pl_ge_g (l := 60 * τ 467 11 + τ 470 (τ 467 11)) h6 e e3'
    rw [hF, hS] at g1 g2 g3 g4 g5 g6
    refine ⟨τ6, ⟨by show 1 ≤ a4 ∧ a4 ≤ 6; omega, by show 0 ≤ a5 ∧ a5 ≤ 400; rw [y.2]; exact tkC_st tkc (by omega) (by omega), ?_⟩, frX_tr g1 (frX_tr g2 (frX_tr g3 (frX_tr g4 (frX_tr g5 g6)))), fun d P A Q k => wc_62 (r1 _ _ _ _ (r2 _ _ _ _ none (fun y4 => r3 _ _ _ _ y4 (fun y4 => r4 _ _ _ _ y4 (fun y4 => r5 _ _ _ _ y4 (fun y4 => r6 _ _ _ _ y4 k))))))⟩
    show τ6 467 4 = -1000 * a4 - a5
    rw [e6, y.1, y.2]; omega
theorem LX_62 {b now F S : Int} {M τ : Nat → Int → Int} (h : (RL b now (M 17) (M 91 3) (M 92) (M 93) (M 94) (M 91 4) (M 91 9) (M 95) (M 62 0) (M 62 1) (M 77 13) (M 91 14) (M 99) (M 100) (M 96) (M 97) (M 98) (M 73) (M 75) (M 76) (M 63) (M 64) (M 65) (M 67) (M 69) (M 71) (M 78) (M 79) (M 80) (M 81) (M 82) (M 83) (M 84) (M 85) (M 86) (M 87) (M 88) (M 89) (M 90) 0 0 (M 77 13) τ)) (hF : M 67 now = F) (hS : M 69 now = S) (hs : ¬ M 92 (M 91 4) = -2 ∧ ¬ M 92 (M 91 4) = -6 ∧ ¬ M 92 (M 91 4) = -8 ∧ ¬ M 92 (M 91 4) = -9) (d : Nat) (P : Nat → Nat → Nat) (Q : zQ) (hQ : ∀ (M' : Nat → Int → Int) (r : Int), OL_62 b now F S rLc τ M M' r → Q (zS (zupN P 91 8 62) M') (some (vI r))) : WP (d + 109) 238 0 0 0 [some (vR 91)] [] (zS (zupN P 91 8 62) M) Q := by
  have f := RL_f h
  obtain ⟨fbk, fnv, ⟨f70, n0, n60⟩, ⟨f71, s0, s16'⟩, ⟨f76, F0, Fn⟩, ⟨f78, S0, Sn⟩, ⟨f47, d0, d4⟩, ⟨f11, f12⟩, f74, hNN, hin⟩ := f
  have tkc := h.1.1
  have hv := h.2.2.1.1
  have key : Q (zS (zupN P 91 8 62) (zup (zup M 91 6 (nF (M 92 (M 91 4)))) 91 7 (M 93 (M 91 4)))) (some (vI 0)) := by
    obtain ⟨τ1, g1, e1, r1⟩ := R_pl_no h hs
    rw [hF, hS] at g1
    have nb := nF_b (s := M 92 (M 91 4))
    exact hQ _ _ (Or.inr ⟨rfl, (by repeat first | exact frO_refl | refine frO_up (by decide) ?_ | refine frO_row (by decide) ?_), τ1, ⟨by show 1 ≤ nF (M 92 (M 91 4)) ∧ nF (M 92 (M 91 4)) ≤ 6; omega, by show 0 ≤ M 93 (M 91 4) ∧ M 93 (M 91 4) ≤ 400; exact tkC_st tkc hin.1 hin.2, e1⟩, g1, fun d P A Q k => wc_62 (r1 _ _ _ _ k)⟩)
  by_cases c7 : M 92 (M 91 4) = -7
  · exact readLine_e7_62 (by omega) c7 key
  · by_cases c5 : M 92 (M 91 4) = -5
    · exact readLine_e5_62 (by omega) c5 key
    · by_cases c4 : M 92 (M 91 4) = -4
      · exact readLine_e4_62 (by omega) c4 key
      · by_cases c3 : M 92 (M 91 4) = -3
        · exact readLine_e3_62 (by omega) c3 key
        · exact readLine_f_62 (by omega) hs.2.2.2 hs.2.2.1 c7 hs.2.1 c5 c4 c3 hs.1 key
theorem LL_62 {b now F S : Int} {M τ : Nat → Int → Int} (h : (RL b now (M 17) (M 91 3) (M 92) (M 93) (M 94) (M 91 4) (M 91 9) (M 95) (M 62 0) (M 62 1) (M 77 13) (M 91 14) (M 99) (M 100) (M 96) (M 97) (M 98) (M 73) (M 75) (M 76) (M 63) (M 64) (M 65) (M 67) (M 69) (M 71) (M 78) (M 79) (M 80) (M 81) (M 82) (M 83) (M 84) (M 85) (M 86) (M 87) (M 88) (M 89) (M 90) 0 0 (M 77 13) τ)) (hF : M 67 now = F) (hS : M 69 now = S) (d : Nat) (P : Nat → Nat → Nat) (Q : zQ) (hQ : ∀ (M' : Nat → Int → Int) (r : Int), OL_62 b now F S rLc τ M M' r → Q (zS (zupN P 91 8 62) M') (some (vI r))) : WC (d + 110) 238 [vR 91] (zS (zupN P 91 8 62) M) Q := by
  refine wcc_238_62 ?_
  by_cases c2 : M 92 (M 91 4) = -2
  · exact LP_62 h hF hS c2 d P Q hQ
  · by_cases c6 : M 92 (M 91 4) = -6
    · exact LH_if_62 h hF hS c6 d P Q hQ
    · by_cases c8 : M 92 (M 91 4) = -8
      · exact LH_loop_62 h hF hS c8 d P Q hQ
      · by_cases c9 : M 92 (M 91 4) = -9
        · exact LG_62 h hF hS c9 d P Q hQ
        · exact LX_62 h hF hS ⟨c2, c6, c8, c9⟩ d P Q hQ
theorem LK_62 {b now F S : Int} {M τ : Nat → Int → Int} (h : (RL b now (M 17) (M 91 3) (M 92) (M 93) (M 94) (M 91 4) (M 91 9) (M 95) (M 62 0) (M 62 1) (M 77 13) (M 91 14) (M 99) (M 100) (M 96) (M 97) (M 98) (M 73) (M 75) (M 76) (M 63) (M 64) (M 65) (M 67) (M 69) (M 71) (M 78) (M 79) (M 80) (M 81) (M 82) (M 83) (M 84) (M 85) (M 86) (M 87) (M 88) (M 89) (M 90) 0 0 (M 77 13) τ)) (hF : M 67 now = F) (hS : M 69 now = S) (hs : M 92 (M 91 4) = 125) (hd : 1 ≤ M 91 14) (d : Nat) (P : Nat → Nat → Nat) (Q : zQ) (hQ : ∀ (M' : Nat → Int → Int) (r : Int), OL_62 b now F S rKc τ M M' r → Q (zS (zupN P 91 8 62) M') (some (vI r))) : WC (d + 3) 236 [vR 91] (zS (zupN P 91 8 62) M) Q := by
  have f := RL_f h
  obtain ⟨fbk, fnv, ⟨f70, n0, n60⟩, ⟨f71, s0, s16'⟩, ⟨f76, F0, Fn⟩, ⟨f78, S0, Sn⟩, ⟨f47, d0, d4⟩, ⟨f11, f12⟩, f74, hNN, hin⟩ := f
  have tkc := h.1.1
  have hv := h.2.2.1.1
  have i1 := nE0 hNN hin (by omega)
  have od := h.2.2.2.2.1.2.1 (M 91 14) hd (Int.le_refl _)
  have od1 := od.1
  have od3 := od.2.2.1
  refine closeBlock_c_62 hin hNN (by omega) ⟨hd, d4⟩ (by omega) (fun q => hQ _ _ (Or.inl ⟨rfl, ?_, (by show M 91 4 < M 91 4 + 1; omega), ?_⟩)) (fun q e => hQ _ _ (Or.inl ⟨rfl, ?_, (by show M 91 4 < M 91 4 + 3; omega), ?_⟩)) (fun a1 a2 a4 a5 w1 q e y => hQ _ _ (Or.inr ⟨rfl, (by repeat first | exact frO_refl | refine frO_up (by decide) ?_ | refine frO_row (by decide) ?_), ?_⟩))
  · exact (frC_up (by decide) (by decide) (frC_up (by decide) (by decide) frC_refl))
  · by_cases b0 : M 100 (M 91 14) = 0
    · obtain ⟨τ1, h1, g1, r1⟩ := R_closes_2 h hd hs b0 (fun z => q ⟨⟨z.1, b0⟩, z.2⟩)
      rw [hF, hS] at g1
      exact ⟨τ1, Or.inl h1, g1, r1⟩
    · obtain ⟨τ1, h1, g1, r1⟩ := R_closes_1 h hd hs (by omega)
      rw [hF, hS] at g1
      exact ⟨τ1, Or.inl h1, g1, r1⟩
  · exact (frC_up (by decide) (by decide) (frC_up (by decide) (by decide) (frC_free (by decide) (by decide) (frC_free (by decide) (by decide) (frC_ln (by decide) (by decide) (fun j q => zs_neg (by omega)) frC_refl)))))
  · rw [show M 91 4 + 2 = M 91 4 + 1 + 1 by omega] at e
    obtain ⟨τ1, h1, g1, r1⟩ := R_closes_3 h hd hs q.1.2 q.1.1 q.2 e
    rw [hF, hS] at g1
    rw [show M 91 4 + 1 + 1 + 1 = M 91 4 + 3 by omega] at h1
    exact ⟨τ1, Or.inl h1, g1, r1⟩
  · have i2 := nE1 hNN hin (by omega) (by omega)
    rw [show M 91 4 + 2 = M 91 4 + 1 + 1 by omega] at e y
    obtain ⟨τ1, g1, e1, r1⟩ := R_closes_4 h hd hs q.1.2 q.1.1 q.2 e
    rw [hF, hS] at g1
    refine ⟨τ1, ⟨by show 1 ≤ a4 ∧ a4 ≤ 6; omega, by show 0 ≤ a5 ∧ a5 ≤ 400; rw [y.2]; exact tkC_st tkc (by omega) (by omega), ?_⟩, g1, r1⟩
    show τ1 467 4 = -1000 * a4 - a5
    rw [e1, y.1, y.2]; omega
