/-! Both readers together: rl -/
section
variable {b : Int} {now : Int} {tx : Int → Int} {N : Int} {so : Int → Int} {st : Int → Int} {va : Int → Int} {i : Int} {v : Int} {nm : Int → Int} {nf : Int} {ns : Int} {nl : Int} {dep : Int} {op : Int → Int} {br : Int → Int} {cN : Int → Int} {cP : Int → Int} {cO : Int → Int} {sI : Int → Int} {sL : Int → Int} {sM : Int → Int} {fN : Int → Int} {fL : Int → Int} {fP : Int → Int} {fF : Int → Int} {fS : Int → Int} {fG : Int → Int} {K : Int → Int} {TG : Int → Int} {FI : Int → Int} {SE : Int → Int} {TH : Int → Int} {SI : Int → Int} {DP : Int → Int} {BR : Int → Int} {WE : Int → Int} {MI : Int → Int} {EN : Int → Int} {AR : Int → Int} {LA : Int → Int} {g : Int} {gg : Int} {c : Int} {τ : Nat → Int → Int}
theorem E_opn (h : (RL b now tx N so st va i v nm nf ns nl dep op br cN cP cO sI sL sM fN fL fP fF fS fG K TG FI SE TH SI DP BR WE MI EN AR LA g gg c (hat τ))) (h0 : τ 467 47 = 0) (hd : dep = 0) (hi : ¬ so i = -1) : (RL b now tx N so st va (i + 1) v nm nf ns nl dep op br cN cP cO sI sL sM fN fL fP fF fS fG K TG FI SE TH SI DP BR WE MI EN AR LA g gg c (zup (zrow (zrow (adv τ) 501 (zs (τ 501) (τ 467 47) (-1))) 502 (zs (τ 502) (τ 467 47) 0)) 467 47 (τ 467 47 + 1))) := by
  rw [h0]
  have t1 := gTK_adv (τ := τ) h.1 hi
  obtain ⟨hT, hC, hV, hI, hS, ⟨b1, ⟨b2, b2b, b2c⟩, b3, b4⟩, hF, hX, hZ, hN⟩ := h
  exact ⟨t1, hC, hV, hI, hS, ⟨b1, ⟨b2, b2b, by show (0 : Int) + 1 = dep + 1; omega⟩, b3, fun j a c => by omega⟩, hF, hX, hZ, hN⟩
theorem RO_ok (h : (RL b now tx N so st va i v nm nf ns nl dep op br cN cP cO sI sL sM fN fL fP fF fS fG K TG FI SE TH SI DP BR WE MI EN AR LA g gg c (hat τ))) (h0 : τ 467 47 = 0) (hs : so i = 123) (d : Nat) (P : Nat → Nat → Nat) (A : Nat → Int → Int) (Q : zQ) (k : WP (d + 33) 64 0 0 60 [some (vR 467)] [] (zS P (mix A (zup (zrow (zrow (adv τ) 501 (zs (τ 501) (τ 467 47) (-1))) 502 (zs (τ 502) (τ 467 47) 0)) 467 47 (τ 467 47 + 1)))) Q) : WP (d + 33) 64 0 0 49 [some (vR 467)] [] (zS P (mix A τ)) Q := by
  have ft : gTK tx so st va N i (τ 468) (τ 467 3) (τ 467 2) (τ 467 5) (τ 467 6) (τ 467 7) (τ 467 8) (τ 467 9) (τ 467 10) := h.1
  have g := gTK_b ft
  exact pd_o_r (τ := τ) g.1 g.2.1 g.2.2.1 g.2.2.2.1 h0 (fun _ => k) (fun q => absurd ((tk_sg ft.2.2.2 (c := 123) (by decide)).mpr hs) q) (fun _ q => absurd q (by decide))
theorem RO_f (h : (RL b now tx N so st va i v nm nf ns nl dep op br cN cP cO sI sL sM fN fL fP fF fS fG K TG FI SE TH SI DP BR WE MI EN AR LA g gg c (hat τ))) (h0 : τ 467 47 = 0) (hs : ¬ so i = 123) : ∃ τ' : Nat → Int → Int, (∀ F' S' : Int, frX b F' S' now τ τ') ∧ τ' 467 4 = -1000 - st i ∧ ∀ (d : Nat) (P : Nat → Nat → Nat) (A : Nat → Int → Int) (Q : zQ), Q (zS P (mix A τ')) (some (vI 0)) → WP (d + 33) 64 0 0 49 [some (vR 467)] [] (zS P (mix A τ)) Q := by
  have ft : gTK tx so st va N i (τ 468) (τ 467 3) (τ 467 2) (τ 467 5) (τ 467 6) (τ 467 7) (τ 467 8) (τ 467 9) (τ 467 10) := h.1
  have g := gTK_b ft
  refine ⟨_, fun F' S' => frX_up (by decide) frX_refl, ?_, fun d P A Q k => pd_o_r (τ := τ) g.1 g.2.1 g.2.2.1 g.2.2.2.1 h0 (fun q => absurd ((tk_sg ft.2.2.2 (c := 123) (by decide)).mp q) hs) (fun _ => k) (fun _ q => absurd q (by decide))⟩
  show -1000 - τ 467 6 = _
  rw [g.2.2.2.2]
end
/-- the reference's reads() from its outer loop's head: to its inner one's, and to a fault -/
def rO (τ τ' : Nat → Int → Int) : Prop := ∀ (d : Nat) (P : Nat → Nat → Nat) (A : Nat → Int → Int) (Q : zQ), WP (d + 33) 64 0 0 60 [some (vR 467)] [] (zS P (mix A τ')) Q → WP (d + 33) 64 0 0 30 [some (vR 467)] [] (zS P (mix A τ)) Q
def rOf (τ τ' : Nat → Int → Int) : Prop := ∀ (d : Nat) (P : Nat → Nat → Nat) (A : Nat → Int → Int) (Q : zQ), Q (zS P (mix A τ')) (some (vI 0)) → WP (d + 33) 64 0 0 30 [some (vR 467)] [] (zS P (mix A τ)) Q
def OH_33 (b : Int) (τ M M' : Nat → Int → Int) (r : Int) : Prop :=
  (r = 1 ∧ frF 33 (M 48 13) (M 33 1) (M 33 0) M M' ∧ M 91 4 < M' 91 4 ∧ M' 38 (M 33 0) = M 48 13 ∧ M' 40 (M 33 0) = M 33 1 ∧ (∀ k : Int, 0 ≤ k → k < M 33 0 → ¬ M 34 k = M' 34 (M 33 0)) ∧ M' 91 6 = M 91 6 ∧ ∃ τ' : Nat → Int → Int, (RL b (M 33 0) (M' 17) (M' 91 3) (M' 92) (M' 93) (M' 94) (M' 91 4) (M' 91 9) (M' 95) (M' 33 0) (M' 33 1) (M' 48 13) (M' 91 14) (M' 99) (M' 100) (M' 96) (M' 97) (M' 98) (M' 44) (M' 46) (M' 47) (M' 34) (M' 35) (M' 36) (M' 38) (M' 40) (M' 42) (M' 49) (M' 50) (M' 51) (M' 52) (M' 53) (M' 54) (M' 55) (M' 56) (M' 57) (M' 58) (M' 59) (M' 60) (M' 61) 0 0 (M' 48 13) τ') ∧ frX b (M 48 13) (M 33 1) (M 33 0) τ τ' ∧ rO τ τ') ∨
  (r = 0 ∧ frO 33 M M' ∧ ∃ τ' : Nat → Int → Int, FLT M' τ' ∧ frB b τ τ' ∧ rOf τ τ')
theorem wcc_229_33 {d : Nat} {P : Nat → Nat → Nat} {M : Nat → Int → Int} {Q : zQ} (h : WP (d + 69) 229 0 0 0 [some (vR 91), none] [] (zS P M) Q) : WC (d + 70) 229 [vR 91] (zS P M) Q := ⟨_, rfl, h⟩
theorem wcc_233_33 {d : Nat} {P : Nat → Nat → Nat} {M : Nat → Int → Int} {Q : zQ} (h : WP (d + 19) 233 0 0 2 [some (vR 91), some (vI 0)] [] (zS P M) Q) : WC (d + 20) 233 [vR 91] (zS P M) Q := ⟨_, rfl, zB_ok zmt zen (stops := [2, 16, 46]) e_233 100000 h⟩
theorem HD_33 {b : Int} {M τ : Nat → Int → Int} (h : PR 33 b M τ) (hne : ¬ M 92 (M 91 4) = -1) (d : Nat) (P : Nat → Nat → Nat) (Q : zQ) (hQ : ∀ (M' : Nat → Int → Int) (r : Int), OH_33 b τ M M' r → Q (zS (zupN P 91 8 33) M') (some (vI r))) : WC (d + 70) 229 [vR 91] (zS (zupN P 91 8 33) M) Q := by
  have ft := h.1
  have fi := ft.2.1
  have tkc := ft.1
  have fN : M 91 3 ≤ 400 ∧ M 92 (M 91 3) = -1 := ⟨by have := tkc.1; omega, tkc.2.2.2.1⟩
  obtain ⟨q1, q2, ⟨q3, q3b, q3c⟩, ⟨q4, q4b, q4c⟩, ⟨q5, q5b, q5c⟩⟩ := h.2.1
  have w0 : ¬ τ 467 5 = 0 := fun z => hne ((tk_end0 ft.2.2.2).mp z)
  have toF : ∀ τ' : Nat → Int → Int, rH τ τ' 0 → rOf τ τ' := fun τ' r d P A Q k => pd_h0 (M := mix A τ) (HK := fun M1 => M1 = mix A τ') (fun Q' k' => by rw [zup_mix A τ (by decide)]; exact r d P A Q' (k' _ rfl)) w0 (fun M1 z => by rw [z]; exact k)
  refine wcc_229_33 ?_
  have i1 := nE0 fN fi hne
  have t1 := gTK_adv (τ := τ) ft hne
  refine funHead_a_33 (d := d + 50) fi fN ⟨q3b, q3c⟩ (fun z => ((tk_name t1.2.2.2).2 z).2) (fun a c e f g => ?_) (fun a4 a5 e y => hQ _ _ (Or.inr ⟨rfl, (by repeat first | exact frO_refl | refine frO_up (by decide) ?_ | refine frO_row (by decide) ?_), ?_⟩)) (fun a4 a5 e f y => hQ _ _ (Or.inr ⟨rfl, (by repeat first | exact frO_refl | refine frO_up (by decide) ?_ | refine frO_row (by decide) ?_), ?_⟩)) (fun a1 a4 a5 e f g y => hQ _ _ (Or.inr ⟨rfl, (by repeat first | exact frO_refl | refine frO_up (by decide) ?_ | refine frO_row (by decide) ?_), ?_⟩)) (fun a1 a4 a5 e f g k y => hQ _ _ (Or.inr ⟨rfl, (by repeat first | exact frO_refl | refine frO_up (by decide) ?_ | refine frO_row (by decide) ?_), ?_⟩)) (fun b1 w1 w2 w3 w4 w5 b2 b3 a1 a4 a5 e f g k l y => hQ _ _ (Or.inr ⟨rfl, (by repeat first | exact frO_refl | refine frO_up (by decide) ?_ | refine frO_row (by decide) ?_), ?_⟩))
  · have i2 := nE1 fN fi hne (by omega)
    have g2 : M 92 (M 91 4 + 1 + 1) = 40 := by rw [show M 91 4 + 1 + 1 = M 91 4 + 2 by omega]; exact g
    obtain ⟨h1, f1⟩ := PRhead_33 h a c e g2
    have hok := PH_ok h a c e f g2
    rw [show M 91 4 + 1 + 1 + 1 = M 91 4 + 3 by omega] at h1
    have key : ∀ M1 : Nat → Int → Int, (RL b (M 33 0) (M1 17) (M1 91 3) (M1 92) (M1 93) (M1 94) (M1 91 4) (M1 91 9) (M1 95) (M1 33 0) (M1 33 1) (M1 48 13) (M1 91 14) (M1 99) (M1 100) (M1 96) (M1 97) (M1 98) (M1 44) (M1 46) (M1 47) (M1 34) (M1 35) (zs (M1 36) (M 33 0) (M1 91 9)) (M1 38) (M1 40) (M1 42) (M1 49) (M1 50) (M1 51) (M1 52) (M1 53) (M1 54) (M1 55) (M1 56) (M1 57) (M1 58) (M1 59) (M1 60) (M1 61) 0 0 (M1 48 13) (hat (adv (adv (zrow (zrow (zup (zrow (zrow (zrow (zrow (zrow (zrow (zrow (adv (zup τ 467 47 0)) 473 (zs (τ 473) (8 * τ 467 11 + τ 469 (τ 467 11)) 0)) 474 (zs (τ 474) (8 * τ 467 11 + τ 469 (τ 467 11)) 0)) 475 (zs (τ 475) (8 * τ 467 11 + τ 469 (τ 467 11)) (τ 470 (τ 467 11)))) 476 (zs (τ 476) (8 * τ 467 11 + τ 469 (τ 467 11)) 0)) 477 (zs (τ 477) (8 * τ 467 11 + τ 469 (τ 467 11)) (τ 471 (τ 467 11)))) 478 (zs (τ 478) (8 * τ 467 11 + τ 469 (τ 467 11)) 0)) 479 (zs (τ 479) (8 * τ 467 11 + τ 469 (τ 467 11)) 0)) 467 12 (τ 469 (τ 467 11))) 469 (zs (τ 469) (τ 467 11) (τ 469 (τ 467 11) + 1))) 472 (zs (τ 472) (8 * τ 467 11 + τ 469 (τ 467 11)) (adv (zup τ 467 47 0) 467 10))))))) → M1 91 9 = 0 → M1 91 14 = 0 → frF 33 (M 48 13) (M 33 1) (M 33 0) M M1 → frO 33 M M1 → M 91 4 < M1 91 4 → M1 38 (M 33 0) = M 48 13 → M1 40 (M 33 0) = M 33 1 → M1 34 (M 33 0) = M 94 (M 91 4 + 1) → M1 91 6 = M 91 6 → WP (d + 50 + 19) 229 0 0 111 [some (vR 91), some (vI (M 33 0))] [] (zS (zupN P 91 8 33) M1) Q := fun M1 k1 k2 k14 k3 k3b k4 k5 k6 k7 k8 => by
      refine funHead_b_33 (d := d) (HK := OPp_33 b (M 33 0) rHp (adv (adv (zrow (zrow (zup (zrow (zrow (zrow (zrow (zrow (zrow (zrow (adv (zup τ 467 47 0)) 473 (zs (τ 473) (8 * τ 467 11 + τ 469 (τ 467 11)) 0)) 474 (zs (τ 474) (8 * τ 467 11 + τ 469 (τ 467 11)) 0)) 475 (zs (τ 475) (8 * τ 467 11 + τ 469 (τ 467 11)) (τ 470 (τ 467 11)))) 476 (zs (τ 476) (8 * τ 467 11 + τ 469 (τ 467 11)) 0)) 477 (zs (τ 477) (8 * τ 467 11 + τ 469 (τ 467 11)) (τ 471 (τ 467 11)))) 478 (zs (τ 478) (8 * τ 467 11 + τ 469 (τ 467 11)) 0)) 479 (zs (τ 479) (8 * τ 467 11 + τ 469 (τ 467 11)) 0)) 467 12 (τ 469 (τ 467 11))) 469 (zs (τ 469) (τ 467 11) (τ 469 (τ 467 11) + 1))) 472 (zs (τ 472) (8 * τ 467 11 + τ 469 (τ 467 11)) (adv (zup τ 467 47 0) 467 10))))) M1) (M 33 0) (fun Q' hQ' => wcc_233_33 (d := d + 49) (CP0_33 k1 k2 _ _ Q' hQ')) (fun M2 r1 z nr => ?_) (fun M2 r1 z nr => ?_)
      · rcases z with ⟨z1, z0, zp, τ', z3, z4, z47, z5⟩ | ⟨z1, _⟩
        · have gT : gTK (M2 17) (M2 92) (M2 93) (M2 94) (M2 91 3) (M2 91 4) (τ' 468) (τ' 467 3) (τ' 467 2) (τ' 467 5) (τ' 467 6) (τ' 467 7) (τ' 467 8) (τ' 467 9) (τ' 467 10) := z3.1
          have e47 : τ' 467 47 = 0 := z47
          have dz : M2 91 14 = 0 := (z0.2 14 (by decide)).trans k14
          have gi := gT.2.1
          have gN : M2 91 3 ≤ 400 := by have := gT.1.1; omega
          have toO : ∀ τ'' : Nat → Int → Int, (∀ (d : Nat) (P : Nat → Nat → Nat) (A : Nat → Int → Int) (Q : zQ), WP (d + 33) 64 0 0 60 [some (vR 467)] [] (zS P (mix A τ'')) Q → WP (d + 33) 64 0 0 49 [some (vR 467)] [] (zS P (mix A τ')) Q) → rO τ τ'' := fun τ'' r d P A Q k => pd_h1 (M := mix A τ) (HK := fun M1 => M1 = mix A τ') (fun Q' k' => by rw [zup_mix A τ (by decide)]; exact hok τ' 1 z5 d P A Q' (k' _ rfl)) w0 (fun M1 z => by rw [z]; exact r d P A Q k)
          have toOf : ∀ τ'' : Nat → Int → Int, (∀ (d : Nat) (P : Nat → Nat → Nat) (A : Nat → Int → Int) (Q : zQ), Q (zS P (mix A τ'')) (some (vI 0)) → WP (d + 33) 64 0 0 49 [some (vR 467)] [] (zS P (mix A τ')) Q) → rOf τ τ'' := fun τ'' r d P A Q k => pd_h1 (M := mix A τ) (HK := fun M1 => M1 = mix A τ') (fun Q' k' => by rw [zup_mix A τ (by decide)]; exact hok τ' 1 z5 d P A Q' (k' _ rfl)) w0 (fun M1 z => by rw [z]; exact r d P A Q k)
          have fq : frF 33 (M 48 13) (M 33 1) (M 33 0) M1 M2 := ⟨fun c a e => z0.1 c (by omega) (by omega), ⟨z0.2 3 (by decide), z0.1 92 (by decide) (by decide), z0.1 93 (by decide) (by decide), z0.1 94 (by decide) (by decide)⟩, fun c l a e _ _ _ => by rw [z0.1 c (by omega) (by omega)], fun c x a _ => by rw [z0.1 c (by omega) (by omega)], fun c k a e _ => by rw [z0.1 c (by omega) (by omega)]⟩
          refine funHead_c_33 (M 33 0) (by omega) ⟨q3b, c⟩ (fun e1 => hQ _ _ (Or.inl ⟨rfl, ?_, ?_, ?_, ?_, fun k a c' => ?_, ?_, (zup (zrow (zrow (adv τ') 501 (zs (τ' 501) (τ' 467 47) (-1))) 502 (zs (τ' 502) (τ' 467 47) 0)) 467 47 (τ' 467 47 + 1)), ?_, ?_, ?_⟩)) (fun a4 a5 e1 y => hQ _ _ (Or.inr ⟨rfl, frO_tr k3b (frO_tr (frQ_O z0) (by repeat first | exact frO_refl | refine frO_up (by decide) ?_ | refine frO_row (by decide) ?_)), ?_⟩))
          · refine frF_tr k3 (frF_tr fq ⟨fun c a e => ?_, ⟨rfl, rfl, rfl, rfl⟩, fun c l a e _ _ _ => ?_, fun c x a _ => ?_, fun c k a e q => ?_⟩)
            · funext k
              unfold zup zrow
              rw [if_neg (by omega), if_neg (by omega)]
            · unfold zup zrow
              rw [if_neg (by omega), if_neg (by omega)]
            · unfold zup zrow
              rw [if_neg (by omega), if_neg (by omega)]
            · unfold zup zrow
              rw [if_neg (by omega)]
              by_cases c3 : c = 36
              · rw [if_pos c3, zs_neg q, c3]
              · rw [if_neg c3]
          · show M 91 4 < M2 91 4 + 1
            omega
          · show M2 38 (M 33 0) = M 48 13
            rw [z0.1 38 (by decide) (by decide)]; exact k5
          · show M2 40 (M 33 0) = M 33 1
            rw [z0.1 40 (by decide) (by decide)]; exact k6
          · show ¬ M 34 k = M2 34 (M 33 0)
            rw [z0.1 34 (by decide) (by decide), k7]
            have fi := fnd_in (r := M 34) (w := M 94 (M 91 4 + 1)) (m := M 33 0) q3b
            rcases fi with z | z
            · exact z.2 k a c'
            · omega
          · show M2 91 6 = M 91 6
            rw [z0.2 6 (by decide)]; exact k8
          · exact E_opn z3 e47 dz (fun z => absurd (e1.symm.trans z) (by decide))
          · refine frX_tr f1 (frX_tr (z4 _ _) ?_)
            exact frX_up (by decide) (frX_nm (by decide) (frX_nm (by decide) (frX_adv frX_refl)))
          · exact toO _ (fun d P A Q k => RO_ok z3 e47 e1 d P A Q k)
          · obtain ⟨τ2, g1, e2, r2⟩ := RO_f z3 e47 e1
            refine ⟨τ2, ⟨by show 1 ≤ a4 ∧ a4 ≤ 6; omega, by show 0 ≤ a5 ∧ a5 ≤ 400; rw [y.2]; exact tkC_st gT.1 gi.1 gi.2, ?_⟩, frB_of (frX_tr f1 (frX_tr (z4 _ _) (g1 _ _))) q4b q5b ⟨q3b, c⟩, toOf _ r2⟩
            show τ2 467 4 = -1000 * a4 - a5
            rw [e2, y.1, y.2]; omega
        · exact absurd z1 nr
      · rcases z with ⟨z1, _⟩ | ⟨z1, z0, τ', z3, z4, z5⟩
        · omega
        · exact hQ _ _ (Or.inr ⟨rfl, frO_tr k3b z0, τ', z3, frB_of (frX_tr f1 (z4 _ _)) q4b q5b ⟨q3b, c⟩, toF τ' (hok τ' 0 z5)⟩)
    refine key _ ?_ rfl rfl ?_ ?_ ?_ ?_ ?_ ?_ rfl
    · exact h1
    · refine ⟨fun c a e => ?_, ⟨rfl, rfl, rfl, rfl⟩, fun c l a e _ _ _ => ?_, fun c x a _ => ?_, fun c k a e q => ?_⟩
      · funext k
        unfold zup zrow
        rw [if_neg (by omega), if_neg (by omega), if_neg (by omega), if_neg (by omega), if_neg (by omega), if_neg (by omega), if_neg (by omega), if_neg (by omega), if_neg (by omega)]
      · unfold zup zrow
        rw [if_neg (by omega), if_neg (by omega), if_neg (by omega), if_neg (by omega), if_neg (by omega), if_neg (by omega), if_neg (by omega), if_neg (by omega), if_neg (by omega)]
      · unfold zup zrow
        rw [if_neg (by omega), if_neg (by omega), if_neg (by omega), if_neg (by omega), if_neg (by omega), if_neg (by omega), if_neg (by omega), if_neg (by omega), if_neg (by omega)]
      · unfold zup zrow
        rw [if_neg (by omega), if_neg (by omega), if_neg (by omega), if_neg (by omega)]
        repeat (split; (rename_i e'; rw [zs_neg q, e']))
        rfl
    · exact (by repeat first | exact frO_refl | refine frO_up (by decide) ?_ | refine frO_row (by decide) ?_)
    · show M 91 4 < M 91 4 + 3
      omega
    · exact zs_pos rfl
    · exact zs_pos rfl
    · exact zs_pos rfl
  · obtain ⟨τ1, g1, e1, r1⟩ := PH_f1 h e
    refine ⟨τ1, ⟨by show 1 ≤ a4 ∧ a4 ≤ 6; omega, by show 0 ≤ a5 ∧ a5 ≤ 400; rw [y.2]; exact tkC_st tkc fi.1 fi.2, ?_⟩, g1, toF _ r1⟩
    show τ1 467 4 = -1000 * a4 - a5
    rw [e1, y.1, y.2]; omega
  · obtain ⟨τ1, g1, e1, r1⟩ := PH_f4 h e (by omega)
    refine ⟨τ1, ⟨by show 1 ≤ a4 ∧ a4 ≤ 6; omega, by show 0 ≤ a5 ∧ a5 ≤ 400; rw [y.2]; exact tkC_st tkc fi.1 fi.2, ?_⟩, g1, toF _ r1⟩
    show τ1 467 4 = -1000 * a4 - a5
    rw [e1, y.1, y.2]; omega
  · obtain ⟨τ1, g1, e1, r1⟩ := PH_fn h e f g
    have nb := nF_b (s := M 92 (M 91 4 + 1))
    refine ⟨τ1, ⟨by show 1 ≤ a4 ∧ a4 ≤ 6; omega, by show 0 ≤ a5 ∧ a5 ≤ 400; rw [y.2]; exact tkC_st tkc (by omega) i1, ?_⟩, frB_of g1 q4b q5b ⟨q3b, f⟩, toF _ r1⟩
    show τ1 467 4 = -1000 * a4 - a5
    rw [e1, y.1, y.2]
  · obtain ⟨τ1, g1, e1, r1⟩ := PH_f5 h e f g k
    refine ⟨τ1, ⟨by show 1 ≤ a4 ∧ a4 ≤ 6; omega, by show 0 ≤ a5 ∧ a5 ≤ 400; rw [y.2]; exact tkC_st tkc (by omega) i1, ?_⟩, frB_of g1 q4b q5b ⟨q3b, f⟩, toF _ r1⟩
    show τ1 467 4 = -1000 * a4 - a5
    rw [e1, y.1, y.2]; omega
  · have i2 := nE1 fN fi hne (by omega)
    rw [show M 91 4 + 2 = M 91 4 + 1 + 1 by omega] at l y
    obtain ⟨τ1, g1, e1, r1⟩ := PH_fs h e f g k l
    refine ⟨τ1, ⟨by show 1 ≤ a4 ∧ a4 ≤ 6; omega, by show 0 ≤ a5 ∧ a5 ≤ 400; rw [y.2]; exact tkC_st tkc (by omega) (by omega), ?_⟩, frB_of g1 q4b q5b ⟨q3b, f⟩, toF _ r1⟩
    show τ1 467 4 = -1000 * a4 - a5
    rw [e1, y.1, y.2]; omega
def OH_62 (b : Int) (τ M M' : Nat → Int → Int) (r : Int) : Prop :=
  (r = 1 ∧ frF 62 (M 77 13) (M 62 1) (M 62 0) M M' ∧ M 91 4 < M' 91 4 ∧ M' 67 (M 62 0) = M 77 13 ∧ M' 69 (M 62 0) = M 62 1 ∧ (∀ k : Int, 0 ≤ k → k < M 62 0 → ¬ M 63 k = M' 63 (M 62 0)) ∧ M' 91 6 = M 91 6 ∧ ∃ τ' : Nat → Int → Int, (RL b (M 62 0) (M' 17) (M' 91 3) (M' 92) (M' 93) (M' 94) (M' 91 4) (M' 91 9) (M' 95) (M' 62 0) (M' 62 1) (M' 77 13) (M' 91 14) (M' 99) (M' 100) (M' 96) (M' 97) (M' 98) (M' 73) (M' 75) (M' 76) (M' 63) (M' 64) (M' 65) (M' 67) (M' 69) (M' 71) (M' 78) (M' 79) (M' 80) (M' 81) (M' 82) (M' 83) (M' 84) (M' 85) (M' 86) (M' 87) (M' 88) (M' 89) (M' 90) 0 0 (M' 77 13) τ') ∧ frX b (M 77 13) (M 62 1) (M 62 0) τ τ' ∧ rO τ τ') ∨
  (r = 0 ∧ frO 62 M M' ∧ ∃ τ' : Nat → Int → Int, FLT M' τ' ∧ frB b τ τ' ∧ rOf τ τ')
theorem wcc_229_62 {d : Nat} {P : Nat → Nat → Nat} {M : Nat → Int → Int} {Q : zQ} (h : WP (d + 69) 229 0 0 0 [some (vR 91), none] [] (zS P M) Q) : WC (d + 70) 229 [vR 91] (zS P M) Q := ⟨_, rfl, h⟩
theorem wcc_233_62 {d : Nat} {P : Nat → Nat → Nat} {M : Nat → Int → Int} {Q : zQ} (h : WP (d + 19) 233 0 0 2 [some (vR 91), some (vI 0)] [] (zS P M) Q) : WC (d + 20) 233 [vR 91] (zS P M) Q := ⟨_, rfl, zB_ok zmt zen (stops := [2, 16, 46]) e_233 100000 h⟩
theorem HD_62 {b : Int} {M τ : Nat → Int → Int} (h : PR 62 b M τ) (hne : ¬ M 92 (M 91 4) = -1) (d : Nat) (P : Nat → Nat → Nat) (Q : zQ) (hQ : ∀ (M' : Nat → Int → Int) (r : Int), OH_62 b τ M M' r → Q (zS (zupN P 91 8 62) M') (some (vI r))) : WC (d + 70) 229 [vR 91] (zS (zupN P 91 8 62) M) Q := by
  have ft := h.1
  have fi := ft.2.1
  have tkc := ft.1
  have fN : M 91 3 ≤ 400 ∧ M 92 (M 91 3) = -1 := ⟨by have := tkc.1; omega, tkc.2.2.2.1⟩
  obtain ⟨q1, q2, ⟨q3, q3b, q3c⟩, ⟨q4, q4b, q4c⟩, ⟨q5, q5b, q5c⟩⟩ := h.2.1
  have w0 : ¬ τ 467 5 = 0 := fun z => hne ((tk_end0 ft.2.2.2).mp z)
  have toF : ∀ τ' : Nat → Int → Int, rH τ τ' 0 → rOf τ τ' := fun τ' r d P A Q k => pd_h0 (M := mix A τ) (HK := fun M1 => M1 = mix A τ') (fun Q' k' => by rw [zup_mix A τ (by decide)]; exact r d P A Q' (k' _ rfl)) w0 (fun M1 z => by rw [z]; exact k)
  refine wcc_229_62 ?_
  have i1 := nE0 fN fi hne
  have t1 := gTK_adv (τ := τ) ft hne
  refine funHead_a_62 (d := d + 50) fi fN ⟨q3b, q3c⟩ (fun z => ((tk_name t1.2.2.2).2 z).2) (fun a c e f g => ?_) (fun a4 a5 e y => hQ _ _ (Or.inr ⟨rfl, (by repeat first | exact frO_refl | refine frO_up (by decide) ?_ | refine frO_row (by decide) ?_), ?_⟩)) (fun a4 a5 e f y => hQ _ _ (Or.inr ⟨rfl, (by repeat first | exact frO_refl | refine frO_up (by decide) ?_ | refine frO_row (by decide) ?_), ?_⟩)) (fun a1 a4 a5 e f g y => hQ _ _ (Or.inr ⟨rfl, (by repeat first | exact frO_refl | refine frO_up (by decide) ?_ | refine frO_row (by decide) ?_), ?_⟩)) (fun a1 a4 a5 e f g k y => hQ _ _ (Or.inr ⟨rfl, (by repeat first | exact frO_refl | refine frO_up (by decide) ?_ | refine frO_row (by decide) ?_), ?_⟩)) (fun b1 w1 w2 w3 w4 w5 b2 b3 a1 a4 a5 e f g k l y => hQ _ _ (Or.inr ⟨rfl, (by repeat first | exact frO_refl | refine frO_up (by decide) ?_ | refine frO_row (by decide) ?_), ?_⟩))
  · have i2 := nE1 fN fi hne (by omega)
    have g2 : M 92 (M 91 4 + 1 + 1) = 40 := by rw [show M 91 4 + 1 + 1 = M 91 4 + 2 by omega]; exact g
    obtain ⟨h1, f1⟩ := PRhead_62 h a c e g2
    have hok := PH_ok h a c e f g2
    rw [show M 91 4 + 1 + 1 + 1 = M 91 4 + 3 by omega] at h1
    have key : ∀ M1 : Nat → Int → Int, (RL b (M 62 0) (M1 17) (M1 91 3) (M1 92) (M1 93) (M1 94) (M1 91 4) (M1 91 9) (M1 95) (M1 62 0) (M1 62 1) (M1 77 13) (M1 91 14) (M1 99) (M1 100) (M1 96) (M1 97) (M1 98) (M1 73) (M1 75) (M1 76) (M1 63) (M1 64) (zs (M1 65) (M 62 0) (M1 91 9)) (M1 67) (M1 69) (M1 71) (M1 78) (M1 79) (M1 80) (M1 81) (M1 82) (M1 83) (M1 84) (M1 85) (M1 86) (M1 87) (M1 88) (M1 89) (M1 90) 0 0 (M1 77 13) (hat (adv (adv (zrow (zrow (zup (zrow (zrow (zrow (zrow (zrow (zrow (zrow (adv (zup τ 467 47 0)) 473 (zs (τ 473) (8 * τ 467 11 + τ 469 (τ 467 11)) 0)) 474 (zs (τ 474) (8 * τ 467 11 + τ 469 (τ 467 11)) 0)) 475 (zs (τ 475) (8 * τ 467 11 + τ 469 (τ 467 11)) (τ 470 (τ 467 11)))) 476 (zs (τ 476) (8 * τ 467 11 + τ 469 (τ 467 11)) 0)) 477 (zs (τ 477) (8 * τ 467 11 + τ 469 (τ 467 11)) (τ 471 (τ 467 11)))) 478 (zs (τ 478) (8 * τ 467 11 + τ 469 (τ 467 11)) 0)) 479 (zs (τ 479) (8 * τ 467 11 + τ 469 (τ 467 11)) 0)) 467 12 (τ 469 (τ 467 11))) 469 (zs (τ 469) (τ 467 11) (τ 469 (τ 467 11) + 1))) 472 (zs (τ 472) (8 * τ 467 11 + τ 469 (τ 467 11)) (adv (zup τ 467 47 0) 467 10))))))) → M1 91 9 = 0 → M1 91 14 = 0 → frF 62 (M 77 13) (M 62 1) (M 62 0) M M1 → frO 62 M M1 → M 91 4 < M1 91 4 → M1 67 (M 62 0) = M 77 13 → M1 69 (M 62 0) = M 62 1 → M1 63 (M 62 0) = M 94 (M 91 4 + 1) → M1 91 6 = M 91 6 → WP (d + 50 + 19) 229 0 0 111 [some (vR 91), some (vI (M 62 0))] [] (zS (zupN P 91 8 62) M1) Q := fun M1 k1 k2 k14 k3 k3b k4 k5 k6 k7 k8 => by
      refine funHead_b_62 (d := d) (HK := OPp_62 b (M 62 0) rHp (adv (adv (zrow (zrow (zup (zrow (zrow (zrow (zrow (zrow (zrow (zrow (adv (zup τ 467 47 0)) 473 (zs (τ 473) (8 * τ 467 11 + τ 469 (τ 467 11)) 0)) 474 (zs (τ 474) (8 * τ 467 11 + τ 469 (τ 467 11)) 0)) 475 (zs (τ 475) (8 * τ 467 11 + τ 469 (τ 467 11)) (τ 470 (τ 467 11)))) 476 (zs (τ 476) (8 * τ 467 11 + τ 469 (τ 467 11)) 0)) 477 (zs (τ 477) (8 * τ 467 11 + τ 469 (τ 467 11)) (τ 471 (τ 467 11)))) 478 (zs (τ 478) (8 * τ 467 11 + τ 469 (τ 467 11)) 0)) 479 (zs (τ 479) (8 * τ 467 11 + τ 469 (τ 467 11)) 0)) 467 12 (τ 469 (τ 467 11))) 469 (zs (τ 469) (τ 467 11) (τ 469 (τ 467 11) + 1))) 472 (zs (τ 472) (8 * τ 467 11 + τ 469 (τ 467 11)) (adv (zup τ 467 47 0) 467 10))))) M1) (M 62 0) (fun Q' hQ' => wcc_233_62 (d := d + 49) (CP0_62 k1 k2 _ _ Q' hQ')) (fun M2 r1 z nr => ?_) (fun M2 r1 z nr => ?_)
      · rcases z with ⟨z1, z0, zp, τ', z3, z4, z47, z5⟩ | ⟨z1, _⟩
        · have gT : gTK (M2 17) (M2 92) (M2 93) (M2 94) (M2 91 3) (M2 91 4) (τ' 468) (τ' 467 3) (τ' 467 2) (τ' 467 5) (τ' 467 6) (τ' 467 7) (τ' 467 8) (τ' 467 9) (τ' 467 10) := z3.1
          have e47 : τ' 467 47 = 0 := z47
          have dz : M2 91 14 = 0 := (z0.2 14 (by decide)).trans k14
          have gi := gT.2.1
          have gN : M2 91 3 ≤ 400 := by have := gT.1.1; omega
          have toO : ∀ τ'' : Nat → Int → Int, (∀ (d : Nat) (P : Nat → Nat → Nat) (A : Nat → Int → Int) (Q : zQ), WP (d + 33) 64 0 0 60 [some (vR 467)] [] (zS P (mix A τ'')) Q → WP (d + 33) 64 0 0 49 [some (vR 467)] [] (zS P (mix A τ')) Q) → rO τ τ'' := fun τ'' r d P A Q k => pd_h1 (M := mix A τ) (HK := fun M1 => M1 = mix A τ') (fun Q' k' => by rw [zup_mix A τ (by decide)]; exact hok τ' 1 z5 d P A Q' (k' _ rfl)) w0 (fun M1 z => by rw [z]; exact r d P A Q k)
          have toOf : ∀ τ'' : Nat → Int → Int, (∀ (d : Nat) (P : Nat → Nat → Nat) (A : Nat → Int → Int) (Q : zQ), Q (zS P (mix A τ'')) (some (vI 0)) → WP (d + 33) 64 0 0 49 [some (vR 467)] [] (zS P (mix A τ')) Q) → rOf τ τ'' := fun τ'' r d P A Q k => pd_h1 (M := mix A τ) (HK := fun M1 => M1 = mix A τ') (fun Q' k' => by rw [zup_mix A τ (by decide)]; exact hok τ' 1 z5 d P A Q' (k' _ rfl)) w0 (fun M1 z => by rw [z]; exact r d P A Q k)
          have fq : frF 62 (M 77 13) (M 62 1) (M 62 0) M1 M2 := ⟨fun c a e => z0.1 c (by omega) (by omega), ⟨z0.2 3 (by decide), z0.1 92 (by decide) (by decide), z0.1 93 (by decide) (by decide), z0.1 94 (by decide) (by decide)⟩, fun c l a e _ _ _ => by rw [z0.1 c (by omega) (by omega)], fun c x a _ => by rw [z0.1 c (by omega) (by omega)], fun c k a e _ => by rw [z0.1 c (by omega) (by omega)]⟩
          refine funHead_c_62 (M 62 0) (by omega) ⟨q3b, c⟩ (fun e1 => hQ _ _ (Or.inl ⟨rfl, ?_, ?_, ?_, ?_, fun k a c' => ?_, ?_, (zup (zrow (zrow (adv τ') 501 (zs (τ' 501) (τ' 467 47) (-1))) 502 (zs (τ' 502) (τ' 467 47) 0)) 467 47 (τ' 467 47 + 1)), ?_, ?_, ?_⟩)) (fun a4 a5 e1 y => hQ _ _ (Or.inr ⟨rfl, frO_tr k3b (frO_tr (frQ_O z0) (by repeat first | exact frO_refl | refine frO_up (by decide) ?_ | refine frO_row (by decide) ?_)), ?_⟩))
          · refine frF_tr k3 (frF_tr fq ⟨fun c a e => ?_, ⟨rfl, rfl, rfl, rfl⟩, fun c l a e _ _ _ => ?_, fun c x a _ => ?_, fun c k a e q => ?_⟩)
            · funext k
              unfold zup zrow
              rw [if_neg (by omega), if_neg (by omega)]
            · unfold zup zrow
              rw [if_neg (by omega), if_neg (by omega)]
            · unfold zup zrow
              rw [if_neg (by omega), if_neg (by omega)]
            · unfold zup zrow
              rw [if_neg (by omega)]
              by_cases c3 : c = 65
              · rw [if_pos c3, zs_neg q, c3]
              · rw [if_neg c3]
          · show M 91 4 < M2 91 4 + 1
            omega
          · show M2 67 (M 62 0) = M 77 13
            rw [z0.1 67 (by decide) (by decide)]; exact k5
          · show M2 69 (M 62 0) = M 62 1
            rw [z0.1 69 (by decide) (by decide)]; exact k6
          · show ¬ M 63 k = M2 63 (M 62 0)
            rw [z0.1 63 (by decide) (by decide), k7]
            have fi := fnd_in (r := M 63) (w := M 94 (M 91 4 + 1)) (m := M 62 0) q3b
            rcases fi with z | z
            · exact z.2 k a c'
            · omega
          · show M2 91 6 = M 91 6
            rw [z0.2 6 (by decide)]; exact k8
          · exact E_opn z3 e47 dz (fun z => absurd (e1.symm.trans z) (by decide))
          · refine frX_tr f1 (frX_tr (z4 _ _) ?_)
            exact frX_up (by decide) (frX_nm (by decide) (frX_nm (by decide) (frX_adv frX_refl)))
          · exact toO _ (fun d P A Q k => RO_ok z3 e47 e1 d P A Q k)
          · obtain ⟨τ2, g1, e2, r2⟩ := RO_f z3 e47 e1
            refine ⟨τ2, ⟨by show 1 ≤ a4 ∧ a4 ≤ 6; omega, by show 0 ≤ a5 ∧ a5 ≤ 400; rw [y.2]; exact tkC_st gT.1 gi.1 gi.2, ?_⟩, frB_of (frX_tr f1 (frX_tr (z4 _ _) (g1 _ _))) q4b q5b ⟨q3b, c⟩, toOf _ r2⟩
            show τ2 467 4 = -1000 * a4 - a5
            rw [e2, y.1, y.2]; omega
        · exact absurd z1 nr
      · rcases z with ⟨z1, _⟩ | ⟨z1, z0, τ', z3, z4, z5⟩
        · omega
        · exact hQ _ _ (Or.inr ⟨rfl, frO_tr k3b z0, τ', z3, frB_of (frX_tr f1 (z4 _ _)) q4b q5b ⟨q3b, c⟩, toF τ' (hok τ' 0 z5)⟩)
    refine key _ ?_ rfl rfl ?_ ?_ ?_ ?_ ?_ ?_ rfl
    · exact h1
    · refine ⟨fun c a e => ?_, ⟨rfl, rfl, rfl, rfl⟩, fun c l a e _ _ _ => ?_, fun c x a _ => ?_, fun c k a e q => ?_⟩
      · funext k
        unfold zup zrow
        rw [if_neg (by omega), if_neg (by omega), if_neg (by omega), if_neg (by omega), if_neg (by omega), if_neg (by omega), if_neg (by omega), if_neg (by omega), if_neg (by omega)]
      · unfold zup zrow
        rw [if_neg (by omega), if_neg (by omega), if_neg (by omega), if_neg (by omega), if_neg (by omega), if_neg (by omega), if_neg (by omega), if_neg (by omega), if_neg (by omega)]
      · unfold zup zrow
        rw [if_neg (by omega), if_neg (by omega), if_neg (by omega), if_neg (by omega), if_neg (by omega), if_neg (by omega), if_neg (by omega), if_neg (by omega), if_neg (by omega)]
      · unfold zup zrow
        rw [if_neg (by omega), if_neg (by omega), if_neg (by omega), if_neg (by omega)]
        repeat (split; (rename_i e'; rw [zs_neg q, e']))
        rfl
    · exact (by repeat first | exact frO_refl | refine frO_up (by decide) ?_ | refine frO_row (by decide) ?_)
    · show M 91 4 < M 91 4 + 3
      omega
    · exact zs_pos rfl
    · exact zs_pos rfl
    · exact zs_pos rfl
  · obtain ⟨τ1, g1, e1, r1⟩ := PH_f1 h e
    refine ⟨τ1, ⟨by show 1 ≤ a4 ∧ a4 ≤ 6; omega, by show 0 ≤ a5 ∧ a5 ≤ 400; rw [y.2]; exact tkC_st tkc fi.1 fi.2, ?_⟩, g1, toF _ r1⟩
    show τ1 467 4 = -1000 * a4 - a5
    rw [e1, y.1, y.2]; omega
  · obtain ⟨τ1, g1, e1, r1⟩ := PH_f4 h e (by omega)
    refine ⟨τ1, ⟨by show 1 ≤ a4 ∧ a4 ≤ 6; omega, by show 0 ≤ a5 ∧ a5 ≤ 400; rw [y.2]; exact tkC_st tkc fi.1 fi.2, ?_⟩, g1, toF _ r1⟩
    show τ1 467 4 = -1000 * a4 - a5
    rw [e1, y.1, y.2]; omega
  · obtain ⟨τ1, g1, e1, r1⟩ := PH_fn h e f g
    have nb := nF_b (s := M 92 (M 91 4 + 1))
    refine ⟨τ1, ⟨by show 1 ≤ a4 ∧ a4 ≤ 6; omega, by show 0 ≤ a5 ∧ a5 ≤ 400; rw [y.2]; exact tkC_st tkc (by omega) i1, ?_⟩, frB_of g1 q4b q5b ⟨q3b, f⟩, toF _ r1⟩
    show τ1 467 4 = -1000 * a4 - a5
    rw [e1, y.1, y.2]
  · obtain ⟨τ1, g1, e1, r1⟩ := PH_f5 h e f g k
    refine ⟨τ1, ⟨by show 1 ≤ a4 ∧ a4 ≤ 6; omega, by show 0 ≤ a5 ∧ a5 ≤ 400; rw [y.2]; exact tkC_st tkc (by omega) i1, ?_⟩, frB_of g1 q4b q5b ⟨q3b, f⟩, toF _ r1⟩
    show τ1 467 4 = -1000 * a4 - a5
    rw [e1, y.1, y.2]; omega
  · have i2 := nE1 fN fi hne (by omega)
    rw [show M 91 4 + 2 = M 91 4 + 1 + 1 by omega] at l y
    obtain ⟨τ1, g1, e1, r1⟩ := PH_fs h e f g k l
    refine ⟨τ1, ⟨by show 1 ≤ a4 ∧ a4 ≤ 6; omega, by show 0 ≤ a5 ∧ a5 ≤ 400; rw [y.2]; exact tkC_st tkc (by omega) (by omega), ?_⟩, frB_of g1 q4b q5b ⟨q3b, f⟩, toF _ r1⟩
    show τ1 467 4 = -1000 * a4 - a5
    rw [e1, y.1, y.2]; omega
