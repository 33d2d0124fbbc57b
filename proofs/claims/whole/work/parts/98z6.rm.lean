/-! Both readers together: rm -/
/-- so many steps of the reference: a call of readsValue, from τ, answers r and comes to τ' -/
def rVc (l : Int) (τ τ' : Nat → Int → Int) (r : Int) : Prop := ∀ (d : Nat) (P : Nat → Nat → Nat) (A : Nat → Int → Int) (Q : zQ), Q (zS P (mix A τ')) (some (vI r)) → WC (d + 30) 61 [vR 467, vI l] (zS P (mix A τ)) Q
def rLc (τ τ' : Nat → Int → Int) (r : Int) : Prop := ∀ (d : Nat) (P : Nat → Nat → Nat) (A : Nat → Int → Int) (Q : zQ), Q (zS P (mix A τ')) (some (vI r)) → WC (d + 32) 62 [vR 467] (zS P (mix A τ)) Q
/-- from behind the first operand of a call's operands (378), and from ahead of them (247), to its end -/
def rQc (l w p s : Int) (τ τ' : Nat → Int → Int) (r : Int) : Prop := ∀ (d : Nat) (P : Nat → Nat → Nat) (A : Nat → Int → Int) (Q : zQ), Q (zS P (mix A τ')) (some (vI r)) → WP (d + 28) 59 0 0 378 [some (vR 467), some (vI l), some (vJ w), none, some (vI p), some (vI s), some (vI 1)] [] (zS P (mix A τ)) Q
def rMc (l w p s : Int) (τ τ' : Nat → Int → Int) (r : Int) : Prop := ∀ (d : Nat) (P : Nat → Nat → Nat) (A : Nat → Int → Int) (Q : zQ) (y6 : Option zV), Q (zS P (mix A τ')) (some (vI r)) → WP (d + 28) 59 0 0 247 [some (vR 467), some (vI l), some (vJ w), none, some (vI p), some (vI s), y6] [] (zS P (mix A τ)) Q
theorem wc_61 {d : Nat} {P : Nat → Nat → Nat} {M : Nat → Int → Int} {Q : zQ} {l : Int} (h : WP (d + 29) 61 0 0 0 [some (vR 467), some (vI l), none, none, none, none] [] (zS P M) Q) : WC (d + 30) 61 [vR 467, vI l] (zS P M) Q := ⟨_, rfl, h⟩
theorem wc_62 {d : Nat} {P : Nat → Nat → Nat} {M : Nat → Int → Int} {Q : zQ} (h : WP (d + 31) 62 0 0 0 [some (vR 467), none, none, none, none] [] (zS P M) Q) : WC (d + 32) 62 [vR 467] (zS P M) Q := ⟨_, rfl, h⟩
theorem wc_59 {d : Nat} {P : Nat → Nat → Nat} {M : Nat → Int → Int} {Q : zQ} {l w p : Int} (h : WP (d + 28) 59 0 0 0 [some (vR 467), some (vI l), some (vJ w), none, some (vI p), none, none] [] (zS P M) Q) : WC (d + 29) 59 [vR 467, vI l, vJ w, vI p] (zS P M) Q := ⟨_, rfl, h⟩
theorem oN_v {s w m : Int} {r : Int → Int} (h : s = -2) : oN s w r m = vN r w m ∧ oR s w r m = vRw r w m ∧ oV s w r m = -10 - vV r w m ∧ (oOK s w r m ↔ vOK r w m) := by
  subst h
  unfold oN oR oV vN vRw vV oOK vOK
  refine ⟨?_, ?_, ?_, by omega⟩
  · by_cases c : 0 ≤ fnd r w m
    · rw [if_pos (Or.inr c), if_pos c]
    · rw [if_neg (by omega), if_neg c]
  · by_cases c : 0 ≤ fnd r w m
    · rw [if_pos (Or.inr c), if_pos c]
    · rw [if_neg (by omega), if_neg c]
  · rw [if_neg (by decide)]; split <;> rfl
theorem oF_n {s : Int} (h : ¬ s = -4) (h2 : ¬ s = -2) : oF s = nF s := by
  unfold oF nF
  rw [if_neg h, if_neg h2]
section
variable {b : Int} {now : Int} {tx : Int → Int} {N : Int} {so : Int → Int} {st : Int → Int} {va : Int → Int} {i : Int} {v : Int} {nm : Int → Int} {nf : Int} {ns : Int} {nl : Int} {dep : Int} {op : Int → Int} {br : Int → Int} {cN : Int → Int} {cP : Int → Int} {cO : Int → Int} {sI : Int → Int} {sL : Int → Int} {sM : Int → Int} {fN : Int → Int} {fL : Int → Int} {fP : Int → Int} {fF : Int → Int} {fS : Int → Int} {fG : Int → Int} {K : Int → Int} {TG : Int → Int} {FI : Int → Int} {SE : Int → Int} {TH : Int → Int} {SI : Int → Int} {DP : Int → Int} {BR : Int → Int} {WE : Int → Int} {MI : Int → Int} {EN : Int → Int} {AR : Int → Int} {LA : Int → Int} {g : Int} {gg : Int} {c : Int} {τ : Nat → Int → Int} {l n : Int}
theorem V_at (h : (RL b now tx N so st va i v nm nf ns nl dep op br cN cP cO sI sL sM fN fL fP fF fS fG K TG FI SE TH SI DP BR WE MI EN AR LA g gg c τ)) (ok : oOK (so i) (va i) nm v) (hnc : ¬ (so i = -2 ∧ so (i + 1) = 40)) : ∃ τ' : Nat → Int → Int, (RL b now tx N so st va (i + 1) (oN (so i) (va i) nm v) (oR (so i) (va i) nm v) nf ns nl dep op br cN cP cO sI sL sM fN fL fP fF fS fG K TG FI SE TH SI DP BR WE MI EN AR LA g gg c τ') ∧ frX b (fF now) (fS now) now τ τ' ∧ τ' 467 48 = (oV (so i) (va i) nm v) ∧ ∀ (d : Nat) (P : Nat → Nat → Nat) (A : Nat → Int → Int) (Q : zQ), (∀ y2 y3 y4 y5 : Option zV, WP (d + 29) 61 0 0 85 [some (vR 467), some (vI l), y2, y3, y4, y5] [] (zS P (mix A τ')) Q) → WP (d + 29) 61 0 0 0 [some (vR 467), some (vI l), none, none, none, none] [] (zS P (mix A τ)) Q := by
  by_cases c4 : so i = -4
  · obtain ⟨τ', h1, f1, e1, r1⟩ := R_pv_a (l := l) h c4 ok
    exact ⟨τ', h1, f1, e1, fun d P A Q k => r1 d P A Q (k _ _ _ _)⟩
  · have c2 : so i = -2 := by unfold oOK at ok; omega
    have q := oN_v (w := va i) (m := v) (r := nm) c2
    obtain ⟨τ', h1, f1, e1, r1⟩ := R_pv_b (l := l) h c2 (fun z => hnc ⟨c2, z⟩) (q.2.2.2.mp ok)
    rw [q.1, q.2.1, q.2.2.1]
    exact ⟨τ', h1, f1, e1, fun d P A Q k => r1 d P A Q (fun y2 y3 y4 y5 => k y2 y3 y4 y5)⟩
theorem V_at_f (h : (RL b now tx N so st va i v nm nf ns nl dep op br cN cP cO sI sL sM fN fL fP fF fS fG K TG FI SE TH SI DP BR WE MI EN AR LA g gg c τ)) (no : ¬ oOK (so i) (va i) nm v) (hnc : ¬ (so i = -2 ∧ so (i + 1) = 40)) : ∃ τ' : Nat → Int → Int, frX b (fF now) (fS now) now τ τ' ∧ τ' 467 4 = -1000 * oF (so i) - st i ∧ rVc l τ τ' 0 := by
  by_cases c4 : so i = -4
  · obtain ⟨τ', f1, e1, r1⟩ := R_pv_a_f (l := l) h c4 no
    exact ⟨τ', f1, e1, fun d P A Q k => wc_61 (r1 d P A Q k)⟩
  · by_cases c2 : so i = -2
    · have q := oN_v (w := va i) (m := v) (r := nm) c2
      obtain ⟨τ', f1, e1, r1⟩ := R_pv_b_f (l := l) h c2 (fun z => hnc ⟨c2, z⟩) (fun z => no (q.2.2.2.mpr z))
      refine ⟨τ', f1, ?_, fun d P A Q k => wc_61 (r1 d P A Q k)⟩
      rw [e1, c2]; rfl
    · obtain ⟨τ', f1, e1, r1⟩ := R_pv_x (l := l) h c4 c2
      refine ⟨τ', f1, ?_, fun d P A Q k => wc_61 (r1 d P A Q k)⟩
      rw [e1, oF_n c4 c2]
theorem V_w0 (h : (RL b now tx N so st va i v nm nf ns nl dep op br cN cP cO sI sL sM fN fL fP fF fS fG K TG FI SE TH SI DP BR WE MI EN AR LA g gg c τ)) (ok : oOK (so i) (va i) nm v) (hnc : ¬ (so i = -2 ∧ so (i + 1) = 40)) (hk : kS (so (i + 1)) = 0) (hc : c ≤ n) (hl0 : l = 60 * b + n) (hn0 : fF now ≤ n ∧ n < 60) : ∃ τ' : Nat → Int → Int, (RL b now tx N so st va (i + 1) (oN (so i) (va i) nm v) (oR (so i) (va i) nm v) nf ns nl dep op br cN cP cO sI sL sM fN fL fP fF fS fG K TG (zs FI n (oV (so i) (va i) nm v)) SE TH SI DP BR WE MI EN AR LA g gg c τ') ∧ frX b (fF now) (fS now) now τ τ' ∧ rVc l τ τ' 1 := by
  obtain ⟨τ1, h1, f1, e1, r1⟩ := V_at (l := l) h ok hnc
  obtain ⟨τ2, h2, f2, r2⟩ := R_pv_c (l := l) h1 hc hl0 hn0 e1
  obtain ⟨τ3, h3, f3, r3⟩ := R_pv_d0 (l := l) h2 hk (by have := (RL_f h).1; have := (RL_f h).2.2.2.2.2.2.2.1; have := (RL_f h).2.2.2.2.1; omega)
  exact ⟨τ3, h3, frX_tr f1 (frX_tr f2 f3), fun d P A Q k => wc_61 (r1 _ _ _ _ (fun y2 y3 y4 y5 => r2 _ _ _ _ y2 y3 y4 y5 (fun y2 y3 y4 y5 => r3 _ _ _ _ y2 y3 y4 y5 k)))⟩
theorem V_w1 (h : (RL b now tx N so st va i v nm nf ns nl dep op br cN cP cO sI sL sM fN fL fP fF fS fG K TG FI SE TH SI DP BR WE MI EN AR LA g gg c τ)) (ok : oOK (so i) (va i) nm v) (hnc : ¬ (so i = -2 ∧ so (i + 1) = 40)) (hk : ¬ kS (so (i + 1)) = 0) (hc : c ≤ n) (hl0 : l = 60 * b + n) (hn0 : fF now ≤ n ∧ n < 60) (hn1 : nl = n + 1) (h0 : K n = 0) (ok2 : oOK (so (i + 1 + 1)) (va (i + 1 + 1)) (oR (so i) (va i) nm v) (oN (so i) (va i) nm v)) : ∃ τ' : Nat → Int → Int, (RL b now tx N so st va (i + 1 + 1 + 1) (oN (so (i + 1 + 1)) (va (i + 1 + 1)) (oR (so i) (va i) nm v) (oN (so i) (va i) nm v)) (oR (so (i + 1 + 1)) (va (i + 1 + 1)) (oR (so i) (va i) nm v) (oN (so i) (va i) nm v)) nf ns nl dep op br cN cP cO sI sL sM fN fL fP fF fS fG (zs K n (kS (so (i + 1)))) TG (zs FI n (oV (so i) (va i) nm v)) (zs SE n (oV (so (i + 1 + 1)) (va (i + 1 + 1)) (oR (so i) (va i) nm v) (oN (so i) (va i) nm v))) TH SI DP BR WE MI EN AR LA g gg c τ') ∧ frX b (fF now) (fS now) now τ τ' ∧ rVc l τ τ' 1 := by
  obtain ⟨τ1, h1, f1, e1, r1⟩ := V_at (l := l) h ok hnc
  obtain ⟨τ2, h2, f2, r2⟩ := R_pv_c (l := l) h1 hc hl0 hn0 e1
  obtain ⟨τ3, h3, f3, r3⟩ := R_pv_d (l := l) h2 hc hl0 hn0 hn1 h0 hk
  obtain ⟨τ4, h4, f4, e4, r4⟩ := R_pv_e (l := l) h3 ok2
  obtain ⟨τ5, h5, f5, r5⟩ := R_pv_f (l := l) h4 hc hl0 hn0 e4
  exact ⟨τ5, h5, frX_tr f1 (frX_tr f2 (frX_tr f3 (frX_tr f4 f5))), fun d P A Q k => wc_61 (r1 _ _ _ _ (fun y2 y3 y4 y5 => r2 _ _ _ _ y2 y3 y4 y5 (fun y2 y3 y4 y5 => r3 _ _ _ _ y2 y3 y4 y5 (fun y2 y3 y4 y5 => r4 _ _ _ _ y2 y3 y4 y5 (fun y2 y3 y4 y5 => r5 _ _ _ _ y2 y3 y4 y5 k)))))⟩
theorem V_w4 (h : (RL b now tx N so st va i v nm nf ns nl dep op br cN cP cO sI sL sM fN fL fP fF fS fG K TG FI SE TH SI DP BR WE MI EN AR LA g gg c τ)) (ok : oOK (so i) (va i) nm v) (hnc : ¬ (so i = -2 ∧ so (i + 1) = 40)) (hk : ¬ kS (so (i + 1)) = 0) (hc : c ≤ n) (hl0 : l = 60 * b + n) (hn0 : fF now ≤ n ∧ n < 60) (hn1 : nl = n + 1) (h0 : K n = 0) (no2 : ¬ oOK (so (i + 1 + 1)) (va (i + 1 + 1)) (oR (so i) (va i) nm v) (oN (so i) (va i) nm v)) : ∃ τ' : Nat → Int → Int, frX b (fF now) (fS now) now τ τ' ∧ τ' 467 4 = -1000 * oF (so (i + 1 + 1)) - st (i + 1 + 1) ∧ rVc l τ τ' 0 := by
  obtain ⟨τ1, h1, f1, e1, r1⟩ := V_at (l := l) h ok hnc
  obtain ⟨τ2, h2, f2, r2⟩ := R_pv_c (l := l) h1 hc hl0 hn0 e1
  obtain ⟨τ3, h3, f3, r3⟩ := R_pv_d (l := l) h2 hc hl0 hn0 hn1 h0 hk
  obtain ⟨τ4, f4, e4, r4⟩ := R_pv_e_f (l := l) h3 no2
  exact ⟨τ4, frX_tr f1 (frX_tr f2 (frX_tr f3 f4)), e4, fun d P A Q k => wc_61 (r1 _ _ _ _ (fun y2 y3 y4 y5 => r2 _ _ _ _ y2 y3 y4 y5 (fun y2 y3 y4 y5 => r3 _ _ _ _ y2 y3 y4 y5 (fun y2 y3 y4 y5 => r4 _ _ _ _ y2 y3 y4 y5 k))))⟩
theorem V_call (h : (RL b now tx N so st va i v nm nf ns nl dep op br cN cP cO sI sL sM fN fL fP fF fS fG K TG FI SE TH SI DP BR WE MI EN AR LA g gg c τ)) (hs : so i = -2) (h40 : so (i + 1) = 40) (hc : c = n) (hn : nl = n + 1) (hF0 : fF now ≤ n) (hl0 : l = 60 * b + n) (h0 : K n = 0) (hd : DP n = dep) (hs16 : ns < 16) (hx : (0 ≤ TG n ∧ TG n < v) ∧ FI n = -2 ∧ SE n = -2 ∧ TH n = -2) : ∃ τ1 : Nat → Int → Int, (RL b now tx N so st va (i + 1 + 1) v nm nf (ns + 1) nl dep op br (zs cN ns (va i)) (zs cP ns (st i)) (zs cO ns 0) (zs sI ns (nf - 1)) (zs sL ns n) (zs sM ns 0) fN fL fP fF fS fG (zs K n 6) TG FI SE TH (zs SI n ns) DP BR WE MI EN AR LA g gg (n + 1) τ1) ∧ frX b (fF now) (fS now) now τ τ1 ∧ ∀ (τ' : Nat → Int → Int) (r : Int), (r = 0 ∨ r = 1) → rMc l (va i) (st i) (16 * b + ns) τ1 τ' r → rVc l τ τ' r := by
  have tk := h.1.2.2.2
  have tn := (tk_name tk).1.mpr hs
  have ew := ((tk_name tk).2 hs).1
  obtain ⟨hl, hq, h8, hbg, e6⟩ := gTK_b h.1
  have h1 := E_adv h (by omega)
  have t1 := (tk_sg h1.1.2.2.2 (c := 40) (by decide)).mpr h40
  have f := RL_f h1
  obtain ⟨τ1, h2, f2, r2⟩ := R_pc_a (l := l) (w := va i) (p := st i) h1 hc hn hF0 hl0 h0 hd hs16 hx (by omega) (by omega)
  have es : 16 * adv τ 467 11 + adv τ 471 (adv τ 467 11) = 16 * b + ns := by
    have := f.2.2.2.1.1
    have := f.2.2.2.2.2.2.2.1.1
    omega
  rw [es] at r2
  refine ⟨τ1, h2, frX_tr (frX_adv frX_refl) f2, fun τ' r hr q d P A Q k => wc_61 ?_⟩
  have hole : ∀ (r : Int), rMc l (va i) (st i) (16 * b + ns) τ1 τ' r → ∀ (Q' : zQ), (∀ M' : Nat → Int → Int, M' = mix A τ' → Q' (zS P M') (some (vI r))) → WC (d + 29) 59 [vR 467, vI l, vJ (mix A τ 467 10), vI (mix A τ 467 6)] (zS P (adv (mix A τ))) Q' := fun r q Q' k' => by
    rw [adv_mix]
    show WC (d + 29) 59 [vR 467, vI l, vJ (τ 467 10), vI (τ 467 6)] _ _
    rw [ew, e6]
    exact wc_59 (r2 d P A Q' (fun y6 => q d P A Q' y6 (k' _ rfl)))
  rcases hr with z | z <;> subst z
  · exact pv_g0 (M := mix A τ) (HK := fun M' => M' = mix A τ') l (hole 0 q) hl hq h8 hbg tn.1 tn.2.1 tn.2.2 t1 (fun M1 e => by rw [e]; exact k)
  · exact pv_g1 (M := mix A τ) (HK := fun M' => M' = mix A τ') l (hole 1 q) hl hq h8 hbg tn.1 tn.2.1 tn.2.2 t1 (fun M1 e => by rw [e]; exact k)
theorem V_call_f (h : (RL b now tx N so st va i v nm nf ns nl dep op br cN cP cO sI sL sM fN fL fP fF fS fG K TG FI SE TH SI DP BR WE MI EN AR LA g gg c τ)) (hs : so i = -2) (h40 : so (i + 1) = 40) (hn : ns = 16) (hl0 : 0 ≤ l ∧ l < 520) : ∃ τ' : Nat → Int → Int, frX b (fF now) (fS now) now τ τ' ∧ τ' 467 4 = -4000 - st i ∧ rVc l τ τ' 0 := by
  have tk := h.1.2.2.2
  have tn := (tk_name tk).1.mpr hs
  have ew := ((tk_name tk).2 hs).1
  obtain ⟨hl, hq, h8, hbg, e6⟩ := gTK_b h.1
  have h1 := E_adv h (by omega)
  have t1 := (tk_sg h1.1.2.2.2 (c := 40) (by decide)).mpr h40
  have f := RL_f h1
  obtain ⟨τ', f2, e2, r2⟩ := R_pc_a_f (l := l) (w := va i) (p := st i) h1 hn hl0 (by omega)
  refine ⟨τ', frX_tr (frX_adv frX_refl) f2, e2, fun d P A Q k => wc_61 ?_⟩
  refine pv_g0 (M := mix A τ) (HK := fun M' => M' = mix A τ') l (fun Q' k' => ?_) hl hq h8 hbg tn.1 tn.2.1 tn.2.2 t1 (fun M1 e => by rw [e]; exact k)
  rw [adv_mix]
  show WC (d + 29) 59 [vR 467, vI l, vJ (τ 467 10), vI (τ 467 6)] _ _
  rw [ew, e6]
  exact wc_59 (r2 d P A Q' (k' _ rfl))
end
