/-! The steps of the reference, by what both readers have in common -/
section
variable {b : Int} {now : Int} {tx : Int → Int} {N : Int} {so : Int → Int} {st : Int → Int} {va : Int → Int} {i : Int} {v : Int} {nm : Int → Int} {nf : Int} {ns : Int} {nl : Int} {dep : Int} {op : Int → Int} {br : Int → Int} {cN : Int → Int} {cP : Int → Int} {cO : Int → Int} {sI : Int → Int} {sL : Int → Int} {sM : Int → Int} {fN : Int → Int} {fL : Int → Int} {fP : Int → Int} {fF : Int → Int} {fS : Int → Int} {fG : Int → Int} {K : Int → Int} {TG : Int → Int} {FI : Int → Int} {SE : Int → Int} {TH : Int → Int} {SI : Int → Int} {DP : Int → Int} {BR : Int → Int} {WE : Int → Int} {MI : Int → Int} {EN : Int → Int} {AR : Int → Int} {LA : Int → Int} {g : Int} {gg : Int} {c : Int} {τ : Nat → Int → Int}
theorem RL_f (h : (RL b now tx N so st va i v nm nf ns nl dep op br cN cP cO sI sL sM fN fL fP fF fS fG K TG FI SE TH SI DP BR WE MI EN AR LA g gg c τ)) : ((0 ≤ τ 467 11 ∧ τ 467 11 ≤ 1) ∧ 0 ≤ τ 467 12 ∧ τ 467 12 ≤ 7) ∧ (0 ≤ τ 474 (8 * τ 467 11 + τ 467 12) ∧ τ 474 (8 * τ 467 11 + τ 467 12) ≤ 8) ∧ (τ 470 (τ 467 11) = nl ∧ 0 ≤ nl ∧ nl ≤ 60) ∧ (τ 471 (τ 467 11) = ns ∧ 0 ≤ ns ∧ ns ≤ 16) ∧ (τ 476 (8 * τ 467 11 + τ 467 12) = nl - fF now ∧ 0 ≤ fF now ∧ fF now ≤ nl) ∧ (τ 478 (8 * τ 467 11 + τ 467 12) = ns - fS now ∧ 0 ≤ fS now ∧ fS now ≤ ns) ∧ (τ 467 47 = dep + 1 ∧ 0 ≤ dep ∧ dep ≤ 4) ∧ (τ 467 11 = b ∧ τ 467 12 = now) ∧ τ 474 (8 * τ 467 11 + τ 467 12) = v ∧ (N ≤ 400 ∧ so N = -1) ∧ (0 ≤ i ∧ i ≤ N) := by
  obtain ⟨hT, hC, hV, hI, hS, hB, hF, hX, hZ, hN⟩ := h
  obtain ⟨⟨c11, c12⟩, hC⟩ := hC
  subst c11 c12
  obtain ⟨d1, d2, d3, d4, d5, d6, d7, d8, d9⟩ := hC
  have v0 := hV.1
  have v1 := hV.2.1
  exact ⟨d1, by omega, d3, d4, ⟨d5.2.2.2, d5.2.1, d5.2.2.1⟩, ⟨d6.2.2.2, d6.2.1, d6.2.2.1⟩, ⟨hB.2.1.2.2, hB.2.1.1, hB.2.1.2.1⟩, ⟨rfl, rfl⟩, v1, ⟨by have := hT.1.1; omega, hT.1.2.2.2.1⟩, hT.2.1⟩
set_option maxRecDepth 100000 in
theorem R_pv_a {l : Int} (h : (RL b now tx N so st va i v nm nf ns nl dep op br cN cP cO sI sL sM fN fL fP fF fS fG K TG FI SE TH SI DP BR WE MI EN AR LA g gg c τ)) (hs : so i = -4) (ok : oOK (so i) (va i) nm v) : ∃ τ' : Nat → Int → Int, ((RL b now tx N so st va (i + 1) (oN (so i) (va i) nm v) (oR (so i) (va i) nm v) nf ns nl dep op br cN cP cO sI sL sM fN fL fP fF fS fG K TG FI SE TH SI DP BR WE MI EN AR LA g gg c τ')) ∧ (frX b (fF now) (fS now) now τ τ') ∧ (τ' 467 48 = oV (so i) (va i) nm v) ∧ ∀ (d : Nat) (P : Nat → Nat → Nat) (A : Nat → Int → Int) (Q : zQ), (WP (d + 29) 61 0 0 85 [some (vR 467), some (vI l), none, none, none, none] [] (zS P (mix A τ')) Q) → WP (d + 29) 61 0 0 0 [some (vR 467), some (vI l), none, none, none, none] [] (zS P (mix A τ)) Q := by
  have hb := gTK_b h.1
  obtain ⟨hl, hq, h8, hbg, e6⟩ := hb
  have hf := RL_f h
  obtain ⟨hbk, hnv, ⟨e70, n0, n60⟩, ⟨e71, s0, s16⟩, ⟨e76, F0, Fn⟩, ⟨e78, S0, Sn⟩, ⟨e47, d0, d4⟩, ⟨e11, e12⟩, e74, hNN, hin⟩ := hf
  have tk := h.1.2.2.2
  subst e11; subst e12
  have tw := tk_op tk (r := τ 500) (m := τ 474 (8 * τ 467 11 + τ 467 12))
  have tu := gVA_o h.2.2.1 (so i) (va i)
  refine ⟨(zup (zrow (zrow (adv τ) 474 (zs (τ 474) (8 * (τ 467 11) + (τ 467 12)) (oN (rS (τ 467 5)) (rWv (τ 467 5) (τ 467 7) (τ 467 10)) (τ 500) (τ 474 (8 * (τ 467 11) + (τ 467 12)))))) 500 (oR (rS (τ 467 5)) (rWv (τ 467 5) (τ 467 7) (τ 467 10)) (τ 500) (τ 474 (8 * (τ 467 11) + (τ 467 12))))) 467 48 (oV (rS (τ 467 5)) (rWv (τ 467 5) (τ 467 7) (τ 467 10)) (τ 500) (τ 474 (8 * (τ 467 11) + (τ 467 12))))), (by
      have e := tw.2.1 (tu.1.mpr ok)
      rw [e.1, e.2]
      exact E_var (E_adv h (oOK_ne ok)) ok (fun q => (tkq_num tk).2 q)), (frX_up (by decide) (frX_nm (by decide) (frX_fn (by decide) (fun j q => (zs_neg (by omega))) (frX_adv frX_refl)))), (by
      have e := tw.2.1 (tu.1.mpr ok)
      show oV (rS (τ 467 5)) (rWv (τ 467 5) (τ 467 7) (τ 467 10)) (τ 500) (τ 474 (8 * τ 467 11 + τ 467 12)) = _
      rw [e.1, e.2]; exact tu.2), fun d P A Q k => ?_⟩
  exact pv_a_r l (by first | assumption | omega) (by first | assumption | omega) (by first | assumption | omega) (by first | assumption | omega) (by first | assumption | omega) (by first | assumption | omega) ((tkq_num tk).1.mpr hs)
    (fun q => k)
    (fun q => False.elim (by
      exact absurd (tw.1.mpr (tu.1.mpr ok)) q))
set_option maxRecDepth 100000 in
theorem R_pv_a_f {l : Int} (h : (RL b now tx N so st va i v nm nf ns nl dep op br cN cP cO sI sL sM fN fL fP fF fS fG K TG FI SE TH SI DP BR WE MI EN AR LA g gg c τ)) (hs : so i = -4) (no : ¬ oOK (so i) (va i) nm v) : ∃ τ' : Nat → Int → Int, (frX b (fF now) (fS now) now τ τ') ∧ (τ' 467 4 = -1000 * oF (so i) - st i) ∧ ∀ (d : Nat) (P : Nat → Nat → Nat) (A : Nat → Int → Int) (Q : zQ), (Q (zS P (mix A τ')) (some (vI 0))) → WP (d + 29) 61 0 0 0 [some (vR 467), some (vI l), none, none, none, none] [] (zS P (mix A τ)) Q := by
  have hb := gTK_b h.1
  obtain ⟨hl, hq, h8, hbg, e6⟩ := hb
  have hf := RL_f h
  obtain ⟨hbk, hnv, ⟨e70, n0, n60⟩, ⟨e71, s0, s16⟩, ⟨e76, F0, Fn⟩, ⟨e78, S0, Sn⟩, ⟨e47, d0, d4⟩, ⟨e11, e12⟩, e74, hNN, hin⟩ := hf
  have tk := h.1.2.2.2
  subst e11; subst e12
  have tw := tk_op tk (r := τ 500) (m := τ 474 (8 * τ 467 11 + τ 467 12))
  have tu := gVA_o h.2.2.1 (so i) (va i)
  refine ⟨(zup (zup τ 467 4 (-1000 * rF (τ 467 5) (τ 467 10) (τ 467 9) - (τ 467 6))) 467 48 (rQ (τ 467 5) (τ 467 10) (τ 467 9) (τ 467 48))), (frX_up (by decide) (frX_up (by decide) frX_refl)), (by
      show -1000 * rF (τ 467 5) (τ 467 10) (τ 467 9) - τ 467 6 = _
      rw [tw.2.2 (fun z => no (tu.1.mp z)), e6]), fun d P A Q k => ?_⟩
  exact pv_a_r l (by first | assumption | omega) (by first | assumption | omega) (by first | assumption | omega) (by first | assumption | omega) (by first | assumption | omega) (by first | assumption | omega) ((tkq_num tk).1.mpr hs)
    (fun q => False.elim (by
      exact absurd (tu.1.mp (tw.1.mp q)) no))
    (fun q => k)
set_option maxRecDepth 100000 in
theorem R_pv_e {l : Int} (h : (RL b now tx N so st va i v nm nf ns nl dep op br cN cP cO sI sL sM fN fL fP fF fS fG K TG FI SE TH SI DP BR WE MI EN AR LA g gg c τ)) (ok : oOK (so i) (va i) nm v) : ∃ τ' : Nat → Int → Int, ((RL b now tx N so st va (i + 1) (oN (so i) (va i) nm v) (oR (so i) (va i) nm v) nf ns nl dep op br cN cP cO sI sL sM fN fL fP fF fS fG K TG FI SE TH SI DP BR WE MI EN AR LA g gg c τ')) ∧ (frX b (fF now) (fS now) now τ τ') ∧ (τ' 467 48 = oV (so i) (va i) nm v) ∧ ∀ (d : Nat) (P : Nat → Nat → Nat) (A : Nat → Int → Int) (Q : zQ) (y2 : Option zV) (y3 : Option zV) (y4 : Option zV) (y5 : Option zV), (∀ (y2' : Option zV) (y3' : Option zV) (y4' : Option zV) (y5' : Option zV), WP (d + 29) 61 0 0 127 [some (vR 467), some (vI l), y2', y3', y4', y5'] [] (zS P (mix A τ')) Q) → WP (d + 29) 61 0 0 118 [some (vR 467), some (vI l), y2, y3, y4, y5] [] (zS P (mix A τ)) Q := by
  have hb := gTK_b h.1
  obtain ⟨hl, hq, h8, hbg, e6⟩ := hb
  have hf := RL_f h
  obtain ⟨hbk, hnv, ⟨e70, n0, n60⟩, ⟨e71, s0, s16⟩, ⟨e76, F0, Fn⟩, ⟨e78, S0, Sn⟩, ⟨e47, d0, d4⟩, ⟨e11, e12⟩, e74, hNN, hin⟩ := hf
  have tk := h.1.2.2.2
  subst e11; subst e12
  have tw := tk_op tk (r := τ 500) (m := τ 474 (8 * τ 467 11 + τ 467 12))
  have tu := gVA_o h.2.2.1 (so i) (va i)
  refine ⟨(zup (zrow (zrow (adv τ) 474 (zs (τ 474) (8 * (τ 467 11) + (τ 467 12)) (oN (rS (τ 467 5)) (rWv (τ 467 5) (τ 467 7) (τ 467 10)) (τ 500) (τ 474 (8 * (τ 467 11) + (τ 467 12)))))) 500 (oR (rS (τ 467 5)) (rWv (τ 467 5) (τ 467 7) (τ 467 10)) (τ 500) (τ 474 (8 * (τ 467 11) + (τ 467 12))))) 467 48 (oV (rS (τ 467 5)) (rWv (τ 467 5) (τ 467 7) (τ 467 10)) (τ 500) (τ 474 (8 * (τ 467 11) + (τ 467 12))))), (by
      have e := tw.2.1 (tu.1.mpr ok)
      rw [e.1, e.2]
      exact E_var (E_adv h (oOK_ne ok)) ok (fun q => (tkq_num tk).2 q)), (frX_up (by decide) (frX_nm (by decide) (frX_fn (by decide) (fun j q => (zs_neg (by omega))) (frX_adv frX_refl)))), (by
      have e := tw.2.1 (tu.1.mpr ok)
      show oV (rS (τ 467 5)) (rWv (τ 467 5) (τ 467 7) (τ 467 10)) (τ 500) (τ 474 (8 * τ 467 11 + τ 467 12)) = _
      rw [e.1, e.2]; exact tu.2), fun d P A Q y2 y3 y4 y5 k => ?_⟩
  exact pv_e_r l (by first | assumption | omega) (by first | assumption | omega) (by first | assumption | omega) (by first | assumption | omega) (by first | assumption | omega) (by first | assumption | omega)
    (fun q => k)
    (fun q => False.elim (by
      exact absurd (tw.1.mpr (tu.1.mpr ok)) q))
set_option maxRecDepth 100000 in
theorem R_pv_e_f {l : Int} (h : (RL b now tx N so st va i v nm nf ns nl dep op br cN cP cO sI sL sM fN fL fP fF fS fG K TG FI SE TH SI DP BR WE MI EN AR LA g gg c τ)) (no : ¬ oOK (so i) (va i) nm v) : ∃ τ' : Nat → Int → Int, (frX b (fF now) (fS now) now τ τ') ∧ (τ' 467 4 = -1000 * oF (so i) - st i) ∧ ∀ (d : Nat) (P : Nat → Nat → Nat) (A : Nat → Int → Int) (Q : zQ) (y2 : Option zV) (y3 : Option zV) (y4 : Option zV) (y5 : Option zV), (Q (zS P (mix A τ')) (some (vI 0))) → WP (d + 29) 61 0 0 118 [some (vR 467), some (vI l), y2, y3, y4, y5] [] (zS P (mix A τ)) Q := by
  have hb := gTK_b h.1
  obtain ⟨hl, hq, h8, hbg, e6⟩ := hb
  have hf := RL_f h
  obtain ⟨hbk, hnv, ⟨e70, n0, n60⟩, ⟨e71, s0, s16⟩, ⟨e76, F0, Fn⟩, ⟨e78, S0, Sn⟩, ⟨e47, d0, d4⟩, ⟨e11, e12⟩, e74, hNN, hin⟩ := hf
  have tk := h.1.2.2.2
  subst e11; subst e12
  have tw := tk_op tk (r := τ 500) (m := τ 474 (8 * τ 467 11 + τ 467 12))
  have tu := gVA_o h.2.2.1 (so i) (va i)
  refine ⟨(zup (zup τ 467 4 (-1000 * rF (τ 467 5) (τ 467 10) (τ 467 9) - (τ 467 6))) 467 48 (rQ (τ 467 5) (τ 467 10) (τ 467 9) (τ 467 48))), (frX_up (by decide) (frX_up (by decide) frX_refl)), (by
      show -1000 * rF (τ 467 5) (τ 467 10) (τ 467 9) - τ 467 6 = _
      rw [tw.2.2 (fun z => no (tu.1.mp z)), e6]), fun d P A Q y2 y3 y4 y5 k => ?_⟩
  exact pv_e_r l (by first | assumption | omega) (by first | assumption | omega) (by first | assumption | omega) (by first | assumption | omega) (by first | assumption | omega) (by first | assumption | omega)
    (fun q => False.elim (by
      exact absurd (tu.1.mp (tw.1.mp q)) no))
    (fun q => k)
set_option maxRecDepth 100000 in
theorem R_pc_b {l : Int} {w : Int} {p : Int} {s : Int} (h : (RL b now tx N so st va i v nm nf ns nl dep op br cN cP cO sI sL sM fN fL fP fF fS fG K TG FI SE TH SI DP BR WE MI EN AR LA g gg c τ)) (ok : oOK (so i) (va i) nm v) : ∃ τ' : Nat → Int → Int, ((RL b now tx N so st va (i + 1) (oN (so i) (va i) nm v) (oR (so i) (va i) nm v) nf ns nl dep op br cN cP cO sI sL sM fN fL fP fF fS fG K TG FI SE TH SI DP BR WE MI EN AR LA g gg c τ')) ∧ (frX b (fF now) (fS now) now τ τ') ∧ (τ' 467 48 = oV (so i) (va i) nm v) ∧ ∀ (d : Nat) (P : Nat → Nat → Nat) (A : Nat → Int → Int) (Q : zQ), (WP (d + 28) 59 0 0 277 [some (vR 467), some (vI l), some (vJ w), none, some (vI p), some (vI s), some (vI 1)] [] (zS P (mix A τ')) Q) → WP (d + 28) 59 0 0 263 [some (vR 467), some (vI l), some (vJ w), none, some (vI p), some (vI s), some (vI 1)] [] (zS P (mix A τ)) Q := by
  have hb := gTK_b h.1
  obtain ⟨hl, hq, h8, hbg, e6⟩ := hb
  have hf := RL_f h
  obtain ⟨hbk, hnv, ⟨e70, n0, n60⟩, ⟨e71, s0, s16⟩, ⟨e76, F0, Fn⟩, ⟨e78, S0, Sn⟩, ⟨e47, d0, d4⟩, ⟨e11, e12⟩, e74, hNN, hin⟩ := hf
  have tk := h.1.2.2.2
  subst e11; subst e12
  have tw := tk_op tk (r := τ 500) (m := τ 474 (8 * τ 467 11 + τ 467 12))
  have tu := gVA_o h.2.2.1 (so i) (va i)
  refine ⟨(zup (zrow (zrow (adv τ) 474 (zs (τ 474) (8 * (τ 467 11) + (τ 467 12)) (oN (rS (τ 467 5)) (rWv (τ 467 5) (τ 467 7) (τ 467 10)) (τ 500) (τ 474 (8 * (τ 467 11) + (τ 467 12)))))) 500 (oR (rS (τ 467 5)) (rWv (τ 467 5) (τ 467 7) (τ 467 10)) (τ 500) (τ 474 (8 * (τ 467 11) + (τ 467 12))))) 467 48 (oV (rS (τ 467 5)) (rWv (τ 467 5) (τ 467 7) (τ 467 10)) (τ 500) (τ 474 (8 * (τ 467 11) + (τ 467 12))))), (by
      have e := tw.2.1 (tu.1.mpr ok)
      rw [e.1, e.2]
      exact E_var (E_adv h (oOK_ne ok)) ok (fun q => (tkq_num tk).2 q)), (frX_up (by decide) (frX_nm (by decide) (frX_fn (by decide) (fun j q => (zs_neg (by omega))) (frX_adv frX_refl)))), (by
      have e := tw.2.1 (tu.1.mpr ok)
      show oV (rS (τ 467 5)) (rWv (τ 467 5) (τ 467 7) (τ 467 10)) (τ 500) (τ 474 (8 * τ 467 11 + τ 467 12)) = _
      rw [e.1, e.2]; exact tu.2), fun d P A Q k => ?_⟩
  exact pc_b_r l w p s (by first | assumption | omega) (by first | assumption | omega) (by first | assumption | omega) (by first | assumption | omega) (by first | assumption | omega) (by first | assumption | omega)
    (fun q => k)
    (fun q => False.elim (by
      exact absurd (tw.1.mpr (tu.1.mpr ok)) q))
set_option maxRecDepth 100000 in
theorem R_pc_b_f {l : Int} {w : Int} {p : Int} {s : Int} (h : (RL b now tx N so st va i v nm nf ns nl dep op br cN cP cO sI sL sM fN fL fP fF fS fG K TG FI SE TH SI DP BR WE MI EN AR LA g gg c τ)) (no : ¬ oOK (so i) (va i) nm v) : ∃ τ' : Nat → Int → Int, (frX b (fF now) (fS now) now τ τ') ∧ (τ' 467 4 = -1000 * oF (so i) - st i) ∧ ∀ (d : Nat) (P : Nat → Nat → Nat) (A : Nat → Int → Int) (Q : zQ), (Q (zS P (mix A τ')) (some (vI 0))) → WP (d + 28) 59 0 0 263 [some (vR 467), some (vI l), some (vJ w), none, some (vI p), some (vI s), some (vI 1)] [] (zS P (mix A τ)) Q := by
  have hb := gTK_b h.1
  obtain ⟨hl, hq, h8, hbg, e6⟩ := hb
  have hf := RL_f h
  obtain ⟨hbk, hnv, ⟨e70, n0, n60⟩, ⟨e71, s0, s16⟩, ⟨e76, F0, Fn⟩, ⟨e78, S0, Sn⟩, ⟨e47, d0, d4⟩, ⟨e11, e12⟩, e74, hNN, hin⟩ := hf
  have tk := h.1.2.2.2
  subst e11; subst e12
  have tw := tk_op tk (r := τ 500) (m := τ 474 (8 * τ 467 11 + τ 467 12))
  have tu := gVA_o h.2.2.1 (so i) (va i)
  refine ⟨(zup (zup τ 467 4 (-1000 * rF (τ 467 5) (τ 467 10) (τ 467 9) - (τ 467 6))) 467 48 (rQ (τ 467 5) (τ 467 10) (τ 467 9) (τ 467 48))), (frX_up (by decide) (frX_up (by decide) frX_refl)), (by
      show -1000 * rF (τ 467 5) (τ 467 10) (τ 467 9) - τ 467 6 = _
      rw [tw.2.2 (fun z => no (tu.1.mp z)), e6]), fun d P A Q k => ?_⟩
  exact pc_b_r l w p s (by first | assumption | omega) (by first | assumption | omega) (by first | assumption | omega) (by first | assumption | omega) (by first | assumption | omega) (by first | assumption | omega)
    (fun q => False.elim (by
      exact absurd (tu.1.mp (tw.1.mp q)) no))
    (fun q => k)
set_option maxRecDepth 100000 in
theorem R_pl_ob {l : Int} (h : (RL b now tx N so st va i v nm nf ns nl dep op br cN cP cO sI sL sM fN fL fP fF fS fG K TG FI SE TH SI DP BR WE MI EN AR LA g gg c τ)) (ok : oOK (so i) (va i) nm v) : ∃ τ' : Nat → Int → Int, ((RL b now tx N so st va (i + 1) (oN (so i) (va i) nm v) (oR (so i) (va i) nm v) nf ns nl dep op br cN cP cO sI sL sM fN fL fP fF fS fG K TG FI SE TH SI DP BR WE MI EN AR LA g gg c τ')) ∧ (frX b (fF now) (fS now) now τ τ') ∧ (τ' 467 48 = oV (so i) (va i) nm v) ∧ ∀ (d : Nat) (P : Nat → Nat → Nat) (A : Nat → Int → Int) (Q : zQ) (y4 : Option zV), (∀ (y4' : Option zV), WP (d + 31) 62 0 0 155 [some (vR 467), some (vI 1), some (vI 0), some (vI l), y4'] [] (zS P (mix A τ')) Q) → WP (d + 31) 62 0 0 146 [some (vR 467), some (vI 1), some (vI 0), some (vI l), y4] [] (zS P (mix A τ)) Q := by
  have hb := gTK_b h.1
  obtain ⟨hl, hq, h8, hbg, e6⟩ := hb
  have hf := RL_f h
  obtain ⟨hbk, hnv, ⟨e70, n0, n60⟩, ⟨e71, s0, s16⟩, ⟨e76, F0, Fn⟩, ⟨e78, S0, Sn⟩, ⟨e47, d0, d4⟩, ⟨e11, e12⟩, e74, hNN, hin⟩ := hf
  have tk := h.1.2.2.2
  subst e11; subst e12
  have tw := tk_op tk (r := τ 500) (m := τ 474 (8 * τ 467 11 + τ 467 12))
  have tu := gVA_o h.2.2.1 (so i) (va i)
  refine ⟨(zup (zrow (zrow (adv τ) 474 (zs (τ 474) (8 * (τ 467 11) + (τ 467 12)) (oN (rS (τ 467 5)) (rWv (τ 467 5) (τ 467 7) (τ 467 10)) (τ 500) (τ 474 (8 * (τ 467 11) + (τ 467 12)))))) 500 (oR (rS (τ 467 5)) (rWv (τ 467 5) (τ 467 7) (τ 467 10)) (τ 500) (τ 474 (8 * (τ 467 11) + (τ 467 12))))) 467 48 (oV (rS (τ 467 5)) (rWv (τ 467 5) (τ 467 7) (τ 467 10)) (τ 500) (τ 474 (8 * (τ 467 11) + (τ 467 12))))), (by
      have e := tw.2.1 (tu.1.mpr ok)
      rw [e.1, e.2]
      exact E_var (E_adv h (oOK_ne ok)) ok (fun q => (tkq_num tk).2 q)), (frX_up (by decide) (frX_nm (by decide) (frX_fn (by decide) (fun j q => (zs_neg (by omega))) (frX_adv frX_refl)))), (by
      have e := tw.2.1 (tu.1.mpr ok)
      show oV (rS (τ 467 5)) (rWv (τ 467 5) (τ 467 7) (τ 467 10)) (τ 500) (τ 474 (8 * τ 467 11 + τ 467 12)) = _
      rw [e.1, e.2]; exact tu.2), fun d P A Q y4 k => ?_⟩
  exact pl_ob_r l (by first | assumption | omega) (by first | assumption | omega) (by first | assumption | omega) (by first | assumption | omega) (by first | assumption | omega) (by first | assumption | omega)
    (fun q => k)
    (fun q => False.elim (by
      exact absurd (tw.1.mpr (tu.1.mpr ok)) q))
set_option maxRecDepth 100000 in
theorem R_pl_ob_f {l : Int} (h : (RL b now tx N so st va i v nm nf ns nl dep op br cN cP cO sI sL sM fN fL fP fF fS fG K TG FI SE TH SI DP BR WE MI EN AR LA g gg c τ)) (no : ¬ oOK (so i) (va i) nm v) : ∃ τ' : Nat → Int → Int, (frX b (fF now) (fS now) now τ τ') ∧ (τ' 467 4 = -1000 * oF (so i) - st i) ∧ ∀ (d : Nat) (P : Nat → Nat → Nat) (A : Nat → Int → Int) (Q : zQ) (y4 : Option zV), (Q (zS P (mix A τ')) (some (vI 0))) → WP (d + 31) 62 0 0 146 [some (vR 467), some (vI 1), some (vI 0), some (vI l), y4] [] (zS P (mix A τ)) Q := by
  have hb := gTK_b h.1
  obtain ⟨hl, hq, h8, hbg, e6⟩ := hb
  have hf := RL_f h
  obtain ⟨hbk, hnv, ⟨e70, n0, n60⟩, ⟨e71, s0, s16⟩, ⟨e76, F0, Fn⟩, ⟨e78, S0, Sn⟩, ⟨e47, d0, d4⟩, ⟨e11, e12⟩, e74, hNN, hin⟩ := hf
  have tk := h.1.2.2.2
  subst e11; subst e12
  have tw := tk_op tk (r := τ 500) (m := τ 474 (8 * τ 467 11 + τ 467 12))
  have tu := gVA_o h.2.2.1 (so i) (va i)
  refine ⟨(zup (zup τ 467 4 (-1000 * rF (τ 467 5) (τ 467 10) (τ 467 9) - (τ 467 6))) 467 48 (rQ (τ 467 5) (τ 467 10) (τ 467 9) (τ 467 48))), (frX_up (by decide) (frX_up (by decide) frX_refl)), (by
      show -1000 * rF (τ 467 5) (τ 467 10) (τ 467 9) - τ 467 6 = _
      rw [tw.2.2 (fun z => no (tu.1.mp z)), e6]), fun d P A Q y4 k => ?_⟩
  exact pl_ob_r l (by first | assumption | omega) (by first | assumption | omega) (by first | assumption | omega) (by first | assumption | omega) (by first | assumption | omega) (by first | assumption | omega)
    (fun q => False.elim (by
      exact absurd (tu.1.mp (tw.1.mp q)) no))
    (fun q => k)
set_option maxRecDepth 100000 in
theorem R_pl_og {l : Int} (h : (RL b now tx N so st va i v nm nf ns nl dep op br cN cP cO sI sL sM fN fL fP fF fS fG K TG FI SE TH SI DP BR WE MI EN AR LA g gg c τ)) (ok : oOK (so i) (va i) nm v) : ∃ τ' : Nat → Int → Int, ((RL b now tx N so st va (i + 1) (oN (so i) (va i) nm v) (oR (so i) (va i) nm v) nf ns nl dep op br cN cP cO sI sL sM fN fL fP fF fS fG K TG FI SE TH SI DP BR WE MI EN AR LA g gg c τ')) ∧ (frX b (fF now) (fS now) now τ τ') ∧ (τ' 467 48 = oV (so i) (va i) nm v) ∧ ∀ (d : Nat) (P : Nat → Nat → Nat) (A : Nat → Int → Int) (Q : zQ) (y4 : Option zV), (∀ (y4' : Option zV), WP (d + 31) 62 0 0 155 [some (vR 467), some (vI 0), some (vI 1), some (vI l), y4'] [] (zS P (mix A τ')) Q) → WP (d + 31) 62 0 0 146 [some (vR 467), some (vI 0), some (vI 1), some (vI l), y4] [] (zS P (mix A τ)) Q := by
  have hb := gTK_b h.1
  obtain ⟨hl, hq, h8, hbg, e6⟩ := hb
  have hf := RL_f h
  obtain ⟨hbk, hnv, ⟨e70, n0, n60⟩, ⟨e71, s0, s16⟩, ⟨e76, F0, Fn⟩, ⟨e78, S0, Sn⟩, ⟨e47, d0, d4⟩, ⟨e11, e12⟩, e74, hNN, hin⟩ := hf
  have tk := h.1.2.2.2
  subst e11; subst e12
  have tw := tk_op tk (r := τ 500) (m := τ 474 (8 * τ 467 11 + τ 467 12))
  have tu := gVA_o h.2.2.1 (so i) (va i)
  refine ⟨(zup (zrow (zrow (adv τ) 474 (zs (τ 474) (8 * (τ 467 11) + (τ 467 12)) (oN (rS (τ 467 5)) (rWv (τ 467 5) (τ 467 7) (τ 467 10)) (τ 500) (τ 474 (8 * (τ 467 11) + (τ 467 12)))))) 500 (oR (rS (τ 467 5)) (rWv (τ 467 5) (τ 467 7) (τ 467 10)) (τ 500) (τ 474 (8 * (τ 467 11) + (τ 467 12))))) 467 48 (oV (rS (τ 467 5)) (rWv (τ 467 5) (τ 467 7) (τ 467 10)) (τ 500) (τ 474 (8 * (τ 467 11) + (τ 467 12))))), (by
      have e := tw.2.1 (tu.1.mpr ok)
      rw [e.1, e.2]
      exact E_var (E_adv h (oOK_ne ok)) ok (fun q => (tkq_num tk).2 q)), (frX_up (by decide) (frX_nm (by decide) (frX_fn (by decide) (fun j q => (zs_neg (by omega))) (frX_adv frX_refl)))), (by
      have e := tw.2.1 (tu.1.mpr ok)
      show oV (rS (τ 467 5)) (rWv (τ 467 5) (τ 467 7) (τ 467 10)) (τ 500) (τ 474 (8 * τ 467 11 + τ 467 12)) = _
      rw [e.1, e.2]; exact tu.2), fun d P A Q y4 k => ?_⟩
  exact pl_og_r l (by first | assumption | omega) (by first | assumption | omega) (by first | assumption | omega) (by first | assumption | omega) (by first | assumption | omega) (by first | assumption | omega)
    (fun q => k)
    (fun q => False.elim (by
      exact absurd (tw.1.mpr (tu.1.mpr ok)) q))
set_option maxRecDepth 100000 in
theorem R_pl_og_f {l : Int} (h : (RL b now tx N so st va i v nm nf ns nl dep op br cN cP cO sI sL sM fN fL fP fF fS fG K TG FI SE TH SI DP BR WE MI EN AR LA g gg c τ)) (no : ¬ oOK (so i) (va i) nm v) : ∃ τ' : Nat → Int → Int, (frX b (fF now) (fS now) now τ τ') ∧ (τ' 467 4 = -1000 * oF (so i) - st i) ∧ ∀ (d : Nat) (P : Nat → Nat → Nat) (A : Nat → Int → Int) (Q : zQ) (y4 : Option zV), (Q (zS P (mix A τ')) (some (vI 0))) → WP (d + 31) 62 0 0 146 [some (vR 467), some (vI 0), some (vI 1), some (vI l), y4] [] (zS P (mix A τ)) Q := by
  have hb := gTK_b h.1
  obtain ⟨hl, hq, h8, hbg, e6⟩ := hb
  have hf := RL_f h
  obtain ⟨hbk, hnv, ⟨e70, n0, n60⟩, ⟨e71, s0, s16⟩, ⟨e76, F0, Fn⟩, ⟨e78, S0, Sn⟩, ⟨e47, d0, d4⟩, ⟨e11, e12⟩, e74, hNN, hin⟩ := hf
  have tk := h.1.2.2.2
  subst e11; subst e12
  have tw := tk_op tk (r := τ 500) (m := τ 474 (8 * τ 467 11 + τ 467 12))
  have tu := gVA_o h.2.2.1 (so i) (va i)
  refine ⟨(zup (zup τ 467 4 (-1000 * rF (τ 467 5) (τ 467 10) (τ 467 9) - (τ 467 6))) 467 48 (rQ (τ 467 5) (τ 467 10) (τ 467 9) (τ 467 48))), (frX_up (by decide) (frX_up (by decide) frX_refl)), (by
      show -1000 * rF (τ 467 5) (τ 467 10) (τ 467 9) - τ 467 6 = _
      rw [tw.2.2 (fun z => no (tu.1.mp z)), e6]), fun d P A Q y4 k => ?_⟩
  exact pl_og_r l (by first | assumption | omega) (by first | assumption | omega) (by first | assumption | omega) (by first | assumption | omega) (by first | assumption | omega) (by first | assumption | omega)
    (fun q => False.elim (by
      exact absurd (tu.1.mp (tw.1.mp q)) no))
    (fun q => k)
set_option maxRecDepth 100000 in
theorem R_pv_b {l : Int} (h : (RL b now tx N so st va i v nm nf ns nl dep op br cN cP cO sI sL sM fN fL fP fF fS fG K TG FI SE TH SI DP BR WE MI EN AR LA g gg c τ)) (hs : so i = -2) (h2 : ¬ so (i + 1) = 40) (ok : vOK nm (va i) v) : ∃ τ' : Nat → Int → Int, ((RL b now tx N so st va (i + 1) (vN nm (va i) v) (vRw nm (va i) v) nf ns nl dep op br cN cP cO sI sL sM fN fL fP fF fS fG K TG FI SE TH SI DP BR WE MI EN AR LA g gg c τ')) ∧ (frX b (fF now) (fS now) now τ τ') ∧ (τ' 467 48 = -10 - vV nm (va i) v) ∧ ∀ (d : Nat) (P : Nat → Nat → Nat) (A : Nat → Int → Int) (Q : zQ), (∀ (y2' : Option zV) (y3' : Option zV) (y4' : Option zV) (y5' : Option zV), WP (d + 29) 61 0 0 85 [some (vR 467), some (vI l), y2', y3', y4', y5'] [] (zS P (mix A τ')) Q) → WP (d + 29) 61 0 0 0 [some (vR 467), some (vI l), none, none, none, none] [] (zS P (mix A τ)) Q := by
  have hb := gTK_b h.1
  obtain ⟨hl, hq, h8, hbg, e6⟩ := hb
  have hf := RL_f h
  obtain ⟨hbk, hnv, ⟨e70, n0, n60⟩, ⟨e71, s0, s16⟩, ⟨e76, F0, Fn⟩, ⟨e78, S0, Sn⟩, ⟨e47, d0, d4⟩, ⟨e11, e12⟩, e74, hNN, hin⟩ := hf
  have tk := h.1.2.2.2
  subst e11; subst e12
  have tn := (tk_name tk).1.mpr hs
  have ew := ((tk_name tk).2 hs).1
  have tv := gVA_v h.2.2.1 (va i)
  refine ⟨(zup (zrow (zrow (adv τ) 474 (zs (τ 474) (8 * (τ 467 11) + (τ 467 12)) (vN (τ 500) (τ 467 10) (τ 474 (8 * (τ 467 11) + (τ 467 12)))))) 500 (vRw (τ 500) (τ 467 10) (τ 474 (8 * (τ 467 11) + (τ 467 12))))) 467 48 (-10 - vV (τ 500) (τ 467 10) (τ 474 (8 * (τ 467 11) + (τ 467 12))))), (by
      rw [ew]
      exact E_48 (E_vn (E_adv h (by omega)) ok)), (frX_up (by decide) (frX_nm (by decide) (frX_fn (by decide) (fun j q => (zs_neg (by omega))) (frX_adv frX_refl)))), (by
      show -10 - vV (τ 500) (τ 467 10) (τ 474 (8 * τ 467 11 + τ 467 12)) = _
      rw [ew, tv.2]), fun d P A Q k => ?_⟩
  exact pv_b_r l (by first | assumption | omega) (by first | assumption | omega) (by first | assumption | omega) (by first | assumption | omega) (by first | assumption | omega) (by first | assumption | omega) (tn.1) (tn.2.1) (tn.2.2) (fun z => h2 ((tk_sg (E_adv h (by omega)).1.2.2.2 (by decide)).mp z))
    (fun q => k)
    (fun q => False.elim (by
      rw [ew] at q; exact absurd (tv.1.mpr ok) q))
set_option maxRecDepth 100000 in
theorem R_pv_b_f {l : Int} (h : (RL b now tx N so st va i v nm nf ns nl dep op br cN cP cO sI sL sM fN fL fP fF fS fG K TG FI SE TH SI DP BR WE MI EN AR LA g gg c τ)) (hs : so i = -2) (h2 : ¬ so (i + 1) = 40) (no : ¬ vOK nm (va i) v) : ∃ τ' : Nat → Int → Int, (frX b (fF now) (fS now) now τ τ') ∧ (τ' 467 4 = -4000 - st i) ∧ ∀ (d : Nat) (P : Nat → Nat → Nat) (A : Nat → Int → Int) (Q : zQ), (Q (zS P (mix A τ')) (some (vI 0))) → WP (d + 29) 61 0 0 0 [some (vR 467), some (vI l), none, none, none, none] [] (zS P (mix A τ)) Q := by
  have hb := gTK_b h.1
  obtain ⟨hl, hq, h8, hbg, e6⟩ := hb
  have hf := RL_f h
  obtain ⟨hbk, hnv, ⟨e70, n0, n60⟩, ⟨e71, s0, s16⟩, ⟨e76, F0, Fn⟩, ⟨e78, S0, Sn⟩, ⟨e47, d0, d4⟩, ⟨e11, e12⟩, e74, hNN, hin⟩ := hf
  have tk := h.1.2.2.2
  subst e11; subst e12
  have tn := (tk_name tk).1.mpr hs
  have ew := ((tk_name tk).2 hs).1
  have tv := gVA_v h.2.2.1 (va i)
  refine ⟨(zup (adv τ) 467 4 (-4000 - (τ 467 6))), (frX_up (by decide) (frX_adv frX_refl)), (by
      show -4000 - τ 467 6 = _
      rw [e6]), fun d P A Q k => ?_⟩
  exact pv_b_r l (by first | assumption | omega) (by first | assumption | omega) (by first | assumption | omega) (by first | assumption | omega) (by first | assumption | omega) (by first | assumption | omega) (tn.1) (tn.2.1) (tn.2.2) (fun z => h2 ((tk_sg (E_adv h (by omega)).1.2.2.2 (by decide)).mp z))
    (fun q => False.elim (by
      rw [ew] at q; exact absurd (tv.1.mp q) no))
    (fun q => k)
set_option maxRecDepth 100000 in
theorem R_pv_x {l : Int} (h : (RL b now tx N so st va i v nm nf ns nl dep op br cN cP cO sI sL sM fN fL fP fF fS fG K TG FI SE TH SI DP BR WE MI EN AR LA g gg c τ)) (hs4 : ¬ so i = -4) (hs : ¬ so i = -2) : ∃ τ' : Nat → Int → Int, (frX b (fF now) (fS now) now τ τ') ∧ (τ' 467 4 = -1000 * nF (so i) - st i) ∧ ∀ (d : Nat) (P : Nat → Nat → Nat) (A : Nat → Int → Int) (Q : zQ), (Q (zS P (mix A τ')) (some (vI 0))) → WP (d + 29) 61 0 0 0 [some (vR 467), some (vI l), none, none, none, none] [] (zS P (mix A τ)) Q := by
  have hb := gTK_b h.1
  obtain ⟨hl, hq, h8, hbg, e6⟩ := hb
  have hf := RL_f h
  obtain ⟨hbk, hnv, ⟨e70, n0, n60⟩, ⟨e71, s0, s16⟩, ⟨e76, F0, Fn⟩, ⟨e78, S0, Sn⟩, ⟨e47, d0, d4⟩, ⟨e11, e12⟩, e74, hNN, hin⟩ := hf
  have tk := h.1.2.2.2
  subst e11; subst e12
  refine ⟨(zup τ 467 4 (-1000 * nmF (τ 467 5) (τ 467 10) - (τ 467 6))), (frX_up (by decide) frX_refl), (by
      show -1000 * nmF (τ 467 5) (τ 467 10) - τ 467 6 = _
      rw [tk_nmF tk hs, e6]), fun d P A Q k => ?_⟩
  exact pv_x_r l (by first | assumption | omega) (fun z => hs4 ((tkq_num tk).1.mp z)) (fun z => hs ((tk_name tk).1.mp z))
    (k)
set_option maxRecDepth 100000 in
theorem R_pv_c {l : Int} {n x : Int} (h : (RL b now tx N so st va i v nm nf ns nl dep op br cN cP cO sI sL sM fN fL fP fF fS fG K TG FI SE TH SI DP BR WE MI EN AR LA g gg c τ)) (hc : c ≤ n) (hl0 : l = 60 * b + n) (hn0 : fF now ≤ n ∧ n < 60) (hx : τ 467 48 = x) : ∃ τ' : Nat → Int → Int, ((RL b now tx N so st va i v nm nf ns nl dep op br cN cP cO sI sL sM fN fL fP fF fS fG K TG (zs FI n x) SE TH SI DP BR WE MI EN AR LA g gg c τ')) ∧ (frX b (fF now) (fS now) now τ τ') ∧ ∀ (d : Nat) (P : Nat → Nat → Nat) (A : Nat → Int → Int) (Q : zQ) (y2 : Option zV) (y3 : Option zV) (y4 : Option zV) (y5 : Option zV), (∀ (y2' : Option zV) (y3' : Option zV) (y4' : Option zV) (y5' : Option zV), WP (d + 29) 61 0 0 95 [some (vR 467), some (vI l), y2', y3', y4', y5'] [] (zS P (mix A τ')) Q) → WP (d + 29) 61 0 0 85 [some (vR 467), some (vI l), y2, y3, y4, y5] [] (zS P (mix A τ)) Q := by
  have hb := gTK_b h.1
  obtain ⟨hl, hq, h8, hbg, e6⟩ := hb
  have hf := RL_f h
  obtain ⟨hbk, hnv, ⟨e70, n0, n60⟩, ⟨e71, s0, s16⟩, ⟨e76, F0, Fn⟩, ⟨e78, S0, Sn⟩, ⟨e47, d0, d4⟩, ⟨e11, e12⟩, e74, hNN, hin⟩ := hf
  have tk := h.1.2.2.2
  subst e11; subst e12
  refine ⟨(zrow τ 482 (zs (τ 482) l (τ 467 48))), (by
      rw [hx]
      exact E_fi h hc hl0), (frX_ln (by decide) (fun j q => (zs_neg (by omega))) frX_refl), fun d P A Q y2 y3 y4 y5 k => ?_⟩
  exact pv_c_r l (by first | assumption | omega)
    (k)
set_option maxRecDepth 100000 in
theorem R_pv_d {l : Int} {n : Int} (h : (RL b now tx N so st va i v nm nf ns nl dep op br cN cP cO sI sL sM fN fL fP fF fS fG K TG FI SE TH SI DP BR WE MI EN AR LA g gg c τ)) (hc : c ≤ n) (hl0 : l = 60 * b + n) (hn0 : fF now ≤ n ∧ n < 60) (hn1 : nl = n + 1) (h0 : K n = 0) (hk : ¬ kS (so i) = 0) : ∃ τ' : Nat → Int → Int, ((RL b now tx N so st va (i + 1) v nm nf ns nl dep op br cN cP cO sI sL sM fN fL fP fF fS fG (zs K n (kS (so i))) TG FI SE TH SI DP BR WE MI EN AR LA g gg c τ')) ∧ (frX b (fF now) (fS now) now τ τ') ∧ ∀ (d : Nat) (P : Nat → Nat → Nat) (A : Nat → Int → Int) (Q : zQ) (y2 : Option zV) (y3 : Option zV) (y4 : Option zV) (y5 : Option zV), (∀ (y2' : Option zV) (y3' : Option zV) (y4' : Option zV) (y5' : Option zV), WP (d + 29) 61 0 0 118 [some (vR 467), some (vI l), y2', y3', y4', y5'] [] (zS P (mix A τ')) Q) → WP (d + 29) 61 0 0 95 [some (vR 467), some (vI l), y2, y3, y4, y5] [] (zS P (mix A τ)) Q := by
  have hb := gTK_b h.1
  obtain ⟨hl, hq, h8, hbg, e6⟩ := hb
  have hf := RL_f h
  obtain ⟨hbk, hnv, ⟨e70, n0, n60⟩, ⟨e71, s0, s16⟩, ⟨e76, F0, Fn⟩, ⟨e78, S0, Sn⟩, ⟨e47, d0, d4⟩, ⟨e11, e12⟩, e74, hNN, hin⟩ := hf
  have tk := h.1.2.2.2
  subst e11; subst e12
  refine ⟨(zrow (adv τ) 480 (zs (τ 480) l (gS (τ 467 5) (τ 467 8)))), (by
      rw [((tk_gS tk).2 hk).1]
      exact E_k (E_adv h (fun z => hk (by rw [z]; rfl))) hc hn1 hn0.1 hl0 h0 ((tk_gS tk).2 hk).2), (frX_ln (by decide) (fun j q => (zs_neg (by omega))) (frX_adv frX_refl)), fun d P A Q y2 y3 y4 y5 k => ?_⟩
  exact pv_d_r l (by first | assumption | omega) (by first | assumption | omega) (by first | assumption | omega) (by first | assumption | omega)
    (fun q => k)
    (fun q => False.elim (by
      exact absurd ((tk_gS tk).1.mp q) hk))
set_option maxRecDepth 100000 in
theorem R_pv_d0 {l : Int} (h : (RL b now tx N so st va i v nm nf ns nl dep op br cN cP cO sI sL sM fN fL fP fF fS fG K TG FI SE TH SI DP BR WE MI EN AR LA g gg c τ)) (hk : kS (so i) = 0) (hl0 : 0 ≤ l ∧ l < 520) : ∃ τ' : Nat → Int → Int, ((RL b now tx N so st va i v nm nf ns nl dep op br cN cP cO sI sL sM fN fL fP fF fS fG K TG FI SE TH SI DP BR WE MI EN AR LA g gg c τ')) ∧ (frX b (fF now) (fS now) now τ τ') ∧ ∀ (d : Nat) (P : Nat → Nat → Nat) (A : Nat → Int → Int) (Q : zQ) (y2 : Option zV) (y3 : Option zV) (y4 : Option zV) (y5 : Option zV), (Q (zS P (mix A τ')) (some (vI 1))) → WP (d + 29) 61 0 0 95 [some (vR 467), some (vI l), y2, y3, y4, y5] [] (zS P (mix A τ)) Q := by
  have hb := gTK_b h.1
  obtain ⟨hl, hq, h8, hbg, e6⟩ := hb
  have hf := RL_f h
  obtain ⟨hbk, hnv, ⟨e70, n0, n60⟩, ⟨e71, s0, s16⟩, ⟨e76, F0, Fn⟩, ⟨e78, S0, Sn⟩, ⟨e47, d0, d4⟩, ⟨e11, e12⟩, e74, hNN, hin⟩ := hf
  have tk := h.1.2.2.2
  subst e11; subst e12
  refine ⟨τ, (by
      exact h), frX_refl, fun d P A Q y2 y3 y4 y5 k => ?_⟩
  exact pv_d_r l (by first | assumption | omega) (by first | assumption | omega) (by first | assumption | omega) (by first | assumption | omega)
    (fun q => False.elim (by
      exact absurd ((tk_gS tk).1.mpr hk) q))
    (fun q => k)
set_option maxRecDepth 100000 in
theorem R_pv_f {l : Int} {n x : Int} (h : (RL b now tx N so st va i v nm nf ns nl dep op br cN cP cO sI sL sM fN fL fP fF fS fG K TG FI SE TH SI DP BR WE MI EN AR LA g gg c τ)) (hc : c ≤ n) (hl0 : l = 60 * b + n) (hn0 : fF now ≤ n ∧ n < 60) (hx : τ 467 48 = x) : ∃ τ' : Nat → Int → Int, ((RL b now tx N so st va i v nm nf ns nl dep op br cN cP cO sI sL sM fN fL fP fF fS fG K TG FI (zs SE n x) TH SI DP BR WE MI EN AR LA g gg c τ')) ∧ (frX b (fF now) (fS now) now τ τ') ∧ ∀ (d : Nat) (P : Nat → Nat → Nat) (A : Nat → Int → Int) (Q : zQ) (y2 : Option zV) (y3 : Option zV) (y4 : Option zV) (y5 : Option zV), (Q (zS P (mix A τ')) (some (vI 1))) → WP (d + 29) 61 0 0 127 [some (vR 467), some (vI l), y2, y3, y4, y5] [] (zS P (mix A τ)) Q := by
  have hb := gTK_b h.1
  obtain ⟨hl, hq, h8, hbg, e6⟩ := hb
  have hf := RL_f h
  obtain ⟨hbk, hnv, ⟨e70, n0, n60⟩, ⟨e71, s0, s16⟩, ⟨e76, F0, Fn⟩, ⟨e78, S0, Sn⟩, ⟨e47, d0, d4⟩, ⟨e11, e12⟩, e74, hNN, hin⟩ := hf
  have tk := h.1.2.2.2
  subst e11; subst e12
  refine ⟨(zrow τ 483 (zs (τ 483) l (τ 467 48))), (by
      rw [hx]
      exact E_se h hc hl0), (frX_ln (by decide) (fun j q => (zs_neg (by omega))) frX_refl), fun d P A Q y2 y3 y4 y5 k => ?_⟩
  exact pv_f_r l (by first | assumption | omega)
    (k)
set_option maxRecDepth 100000 in
theorem R_pc_a {l : Int} {w : Int} {p : Int} {n : Int} (h : (RL b now tx N so st va i v nm nf ns nl dep op br cN cP cO sI sL sM fN fL fP fF fS fG K TG FI SE TH SI DP BR WE MI EN AR LA g gg c τ)) (hc : c = n) (hn : nl = n + 1) (hF0 : fF now ≤ n) (hl0 : l = 60 * b + n) (h0 : K n = 0) (hd : DP n = dep) (hs : ns < 16) (hx : (0 ≤ TG n ∧ TG n < v) ∧ FI n = -2 ∧ SE n = -2 ∧ TH n = -2) (hne : ¬ so i = -1) (hp : 0 ≤ p ∧ p ≤ 400) : ∃ τ' : Nat → Int → Int, ((RL b now tx N so st va (i + 1) v nm nf (ns + 1) nl dep op br (zs cN ns w) (zs cP ns p) (zs cO ns 0) (zs sI ns (nf - 1)) (zs sL ns n) (zs sM ns 0) fN fL fP fF fS fG (zs K n 6) TG FI SE TH (zs SI n ns) DP BR WE MI EN AR LA g gg (n + 1) τ')) ∧ (frX b (fF now) (fS now) now τ τ') ∧ ∀ (d : Nat) (P : Nat → Nat → Nat) (A : Nat → Int → Int) (Q : zQ), (∀ (y6' : Option zV), WP (d + 28) 59 0 0 247 [some (vR 467), some (vI l), some (vJ w), none, some (vI p), some (vI (16 * (τ 467 11) + (τ 471 (τ 467 11)))), y6'] [] (zS P (mix A τ')) Q) → WP (d + 28) 59 0 0 0 [some (vR 467), some (vI l), some (vJ w), none, some (vI p), none, none] [] (zS P (mix A τ)) Q := by
  have hb := gTK_b h.1
  obtain ⟨hl, hq, h8, hbg, e6⟩ := hb
  have hf := RL_f h
  obtain ⟨hbk, hnv, ⟨e70, n0, n60⟩, ⟨e71, s0, s16⟩, ⟨e76, F0, Fn⟩, ⟨e78, S0, Sn⟩, ⟨e47, d0, d4⟩, ⟨e11, e12⟩, e74, hNN, hin⟩ := hf
  have tk := h.1.2.2.2
  subst e11; subst e12
  have how : ∀ xj : Int, 1 ≤ xj → xj < τ 467 47 → 0 ≤ τ 501 xj ∧ τ 501 xj < 520 := fun xj a b' => by
    have z := h.2.2.2.2.2.1.2.2.2 xj a (by omega)
    have y := (h.2.2.2.2.1.2.1 xj a (by omega)).1
    omega
  refine ⟨(zrow (zrow (zrow (zrow (zrow (zrow (zrow (zrow (zrow (zrow (zrow (zrow (adv τ) 471 (zs (τ 471) (τ 467 11) ((τ 471 (τ 467 11)) + 1))) 478 (zs (τ 478) (8 * (τ 467 11) + (τ 467 12)) ((τ 478 (8 * (τ 467 11) + (τ 467 12))) + 1))) 480 (zs (τ 480) l 6)) 486 (zs (τ 486) l (τ 471 (τ 467 11)))) 492 (zs (τ 492) (16 * (τ 467 11) + (τ 471 (τ 467 11))) l)) 493 (zs (τ 493) (16 * (τ 467 11) + (τ 471 (τ 467 11))) (ob8 (zs (τ 480) l 6) (τ 501) ((τ 467 47) - 1).toNat))) 494 (zs (τ 494) (16 * (τ 467 11) + (τ 471 (τ 467 11))) (obn (zs (τ 480) l 6) (τ 501) ((τ 467 47) - 1).toNat))) 495 (zs (τ 495) (16 * (τ 467 11) + (τ 471 (τ 467 11))) 0)) 496 (zs (τ 496) (16 * (τ 467 11) + (τ 471 (τ 467 11))) p)) 497 (zs (τ 497) (16 * (τ 467 11) + (τ 471 (τ 467 11))) 0)) 498 (zs (τ 498) (16 * (τ 467 11) + (τ 471 (τ 467 11))) (τ 467 12))) 499 (zs (τ 499) (16 * (τ 467 11) + (τ 471 (τ 467 11))) w)), (by
      exact E_call (E_adv h hne) hc hn hF0 hl0 h0 hd hs hp hx), (frX_st (by decide) (fun j q => (zs_neg (by omega))) (frX_st (by decide) (fun j q => (zs_neg (by omega))) (frX_st (by decide) (fun j q => (zs_neg (by omega))) (frX_st (by decide) (fun j q => (zs_neg (by omega))) (frX_st (by decide) (fun j q => (zs_neg (by omega))) (frX_st (by decide) (fun j q => (zs_neg (by omega))) (frX_st (by decide) (fun j q => (zs_neg (by omega))) (frX_st (by decide) (fun j q => (zs_neg (by omega))) (frX_ln (by decide) (fun j q => (zs_neg (by omega))) (frX_ln (by decide) (fun j q => (zs_neg (by omega))) (frX_fn (by decide) (fun j q => (zs_neg (by omega))) (frX_bk (by decide) (fun j q => (zs_neg (by omega))) (frX_adv frX_refl))))))))))))), fun d P A Q k => ?_⟩
  exact pc_a_r l w p (by first | assumption | omega) (by first | assumption | omega) (by first | assumption | omega) (by first | assumption | omega) (by first | assumption | omega) (by first | assumption | omega) (by first | assumption | omega) (by first | assumption | omega) (by first | assumption | omega) (by first | assumption | omega)
    (fun q => k)
    (fun q => False.elim (by
      omega))
set_option maxRecDepth 100000 in
theorem R_pc_a_f {l : Int} {w : Int} {p : Int} (h : (RL b now tx N so st va i v nm nf ns nl dep op br cN cP cO sI sL sM fN fL fP fF fS fG K TG FI SE TH SI DP BR WE MI EN AR LA g gg c τ)) (hs : ns = 16) (hl0 : 0 ≤ l ∧ l < 520) (hp : 0 ≤ p ∧ p ≤ 400) : ∃ τ' : Nat → Int → Int, (frX b (fF now) (fS now) now τ τ') ∧ (τ' 467 4 = -4000 - p) ∧ ∀ (d : Nat) (P : Nat → Nat → Nat) (A : Nat → Int → Int) (Q : zQ), (Q (zS P (mix A τ')) (some (vI 0))) → WP (d + 28) 59 0 0 0 [some (vR 467), some (vI l), some (vJ w), none, some (vI p), none, none] [] (zS P (mix A τ)) Q := by
  have hb := gTK_b h.1
  obtain ⟨hl, hq, h8, hbg, e6⟩ := hb
  have hf := RL_f h
  obtain ⟨hbk, hnv, ⟨e70, n0, n60⟩, ⟨e71, s0, s16⟩, ⟨e76, F0, Fn⟩, ⟨e78, S0, Sn⟩, ⟨e47, d0, d4⟩, ⟨e11, e12⟩, e74, hNN, hin⟩ := hf
  have tk := h.1.2.2.2
  subst e11; subst e12
  have how : ∀ xj : Int, 1 ≤ xj → xj < τ 467 47 → 0 ≤ τ 501 xj ∧ τ 501 xj < 520 := fun xj a b' => by
    have z := h.2.2.2.2.2.1.2.2.2 xj a (by omega)
    have y := (h.2.2.2.2.1.2.1 xj a (by omega)).1
    omega
  refine ⟨(zup τ 467 4 (-4000 - p)), (frX_up (by decide) frX_refl), (by
      rfl), fun d P A Q k => ?_⟩
  exact pc_a_r l w p (by first | assumption | omega) (by first | assumption | omega) (by first | assumption | omega) (by first | assumption | omega) (by first | assumption | omega) (by first | assumption | omega) (by first | assumption | omega) (by first | assumption | omega) (by first | assumption | omega) (by first | assumption | omega)
    (fun q => False.elim (by
      omega))
    (fun q => k)
set_option maxRecDepth 100000 in
theorem R_pc_m0 {l : Int} {w : Int} {p : Int} {s : Int} (h : (RL b now tx N so st va i v nm nf ns nl dep op br cN cP cO sI sL sM fN fL fP fF fS fG K TG FI SE TH SI DP BR WE MI EN AR LA g gg c τ)) (hs : so i = 41) : ∃ τ' : Nat → Int → Int, ((RL b now tx N so st va i v nm nf ns nl dep op br cN cP cO sI sL sM fN fL fP fF fS fG K TG FI SE TH SI DP BR WE MI EN AR LA g gg c τ')) ∧ (frX b (fF now) (fS now) now τ τ') ∧ ∀ (d : Nat) (P : Nat → Nat → Nat) (A : Nat → Int → Int) (Q : zQ) (y6 : Option zV), (WP (d + 28) 59 0 0 263 [some (vR 467), some (vI l), some (vJ w), none, some (vI p), some (vI s), some (vI 0)] [] (zS P (mix A τ')) Q) → WP (d + 28) 59 0 0 247 [some (vR 467), some (vI l), some (vJ w), none, some (vI p), some (vI s), y6] [] (zS P (mix A τ)) Q := by
  have hb := gTK_b h.1
  obtain ⟨hl, hq, h8, hbg, e6⟩ := hb
  have hf := RL_f h
  obtain ⟨hbk, hnv, ⟨e70, n0, n60⟩, ⟨e71, s0, s16⟩, ⟨e76, F0, Fn⟩, ⟨e78, S0, Sn⟩, ⟨e47, d0, d4⟩, ⟨e11, e12⟩, e74, hNN, hin⟩ := hf
  have tk := h.1.2.2.2
  subst e11; subst e12
  refine ⟨τ, (by
      exact h), frX_refl, fun d P A Q y6 k => ?_⟩
  exact pc_m_r l w p s 
    (fun q => k)
    (fun q => False.elim (by
      exact absurd ((tk_sg tk (c := 41) (by decide)).mpr hs) q))
set_option maxRecDepth 100000 in
theorem R_pc_m1 {l : Int} {w : Int} {p : Int} {s : Int} (h : (RL b now tx N so st va i v nm nf ns nl dep op br cN cP cO sI sL sM fN fL fP fF fS fG K TG FI SE TH SI DP BR WE MI EN AR LA g gg c τ)) (hs : ¬ so i = 41) : ∃ τ' : Nat → Int → Int, ((RL b now tx N so st va i v nm nf ns nl dep op br cN cP cO sI sL sM fN fL fP fF fS fG K TG FI SE TH SI DP BR WE MI EN AR LA g gg c τ')) ∧ (frX b (fF now) (fS now) now τ τ') ∧ ∀ (d : Nat) (P : Nat → Nat → Nat) (A : Nat → Int → Int) (Q : zQ) (y6 : Option zV), (WP (d + 28) 59 0 0 263 [some (vR 467), some (vI l), some (vJ w), none, some (vI p), some (vI s), some (vI 1)] [] (zS P (mix A τ')) Q) → WP (d + 28) 59 0 0 247 [some (vR 467), some (vI l), some (vJ w), none, some (vI p), some (vI s), y6] [] (zS P (mix A τ)) Q := by
  have hb := gTK_b h.1
  obtain ⟨hl, hq, h8, hbg, e6⟩ := hb
  have hf := RL_f h
  obtain ⟨hbk, hnv, ⟨e70, n0, n60⟩, ⟨e71, s0, s16⟩, ⟨e76, F0, Fn⟩, ⟨e78, S0, Sn⟩, ⟨e47, d0, d4⟩, ⟨e11, e12⟩, e74, hNN, hin⟩ := hf
  have tk := h.1.2.2.2
  subst e11; subst e12
  refine ⟨τ, (by
      exact h), frX_refl, fun d P A Q y6 k => ?_⟩
  exact pc_m_r l w p s 
    (fun q => False.elim (by
      exact absurd ((tk_sg tk (c := 41) (by decide)).mp q) hs))
    (fun q => k)
set_option maxRecDepth 100000 in
theorem R_pc_c {l : Int} {w : Int} {p : Int} {s : Int} {n m x : Int} (h : (RL b now tx N so st va i v nm nf ns nl dep op br cN cP cO sI sL sM fN fL fP fF fS fG K TG FI SE TH SI DP BR WE MI EN AR LA g gg c τ)) (hc : c = n + 1) (hn : nl = n + 1) (hF0 : fF now ≤ n) (hl0 : l = 60 * b + n) (hm : ns = m + 1) (hsm : s = 16 * b + m) (hm0 : fS now ≤ m) (hK : K n = 6 ∧ SI n = m) (hx : opk v x) (hk : cO m < 400) (h48 : τ 467 48 = x) : ∃ τ' : Nat → Int → Int, ((RL b now tx N so st va i v nm nf ns nl dep op br cN cP (zs cO m (cO m + 1)) sI sL (zs sM m (sM m + nng x)) fN fL fP fF fS fG K TG (pO 0 (cO m) FI n x) (pO 1 (cO m) SE n x) (pO 2 (cO m) TH n x) SI DP BR WE MI EN AR LA g gg c τ')) ∧ (frX b (fF now) (fS now) now τ τ') ∧ ∀ (d : Nat) (P : Nat → Nat → Nat) (A : Nat → Int → Int) (Q : zQ), (WP (d + 28) 59 0 0 378 [some (vR 467), some (vI l), some (vJ w), none, some (vI p), some (vI s), some (vI 1)] [] (zS P (mix A τ')) Q) → WP (d + 28) 59 0 0 277 [some (vR 467), some (vI l), some (vJ w), none, some (vI p), some (vI s), some (vI 1)] [] (zS P (mix A τ)) Q := by
  have hb := gTK_b h.1
  obtain ⟨hl, hq, h8, hbg, e6⟩ := hb
  have hf := RL_f h
  obtain ⟨hbk, hnv, ⟨e70, n0, n60⟩, ⟨e71, s0, s16⟩, ⟨e76, F0, Fn⟩, ⟨e78, S0, Sn⟩, ⟨e47, d0, d4⟩, ⟨e11, e12⟩, e74, hNN, hin⟩ := hf
  have tk := h.1.2.2.2
  subst e11; subst e12
  obtain ⟨y1, y2, ⟨y3, y4, y5⟩, y6, y7, y8, y9, y10, y11, y12⟩ := h.2.2.2.2.2.2.2.2.2.2.2.1 m (by omega) (by omega)
  rw [← hsm] at y9 y11
  refine ⟨(zrow (zrow (zrow (zrow (zrow τ 482 (pO 0 (τ 495 s) (τ 482) l (τ 467 48))) 483 (pO 1 (τ 495 s) (τ 483) l (τ 467 48))) 484 (pO 2 (τ 495 s) (τ 484) l (τ 467 48))) 495 (zs (τ 495) s ((τ 495 s) + 1))) 497 (zs (τ 497) s ((τ 497 s) + nng (τ 467 48)))), (by
      rw [h48]
      exact E_arg h hc hn hF0 hl0 hm hsm (by omega) hK hx hk), (frX_st (by decide) (fun j q => (zs_neg (by omega))) (frX_st (by decide) (fun j q => (zs_neg (by omega))) (frX_ln (by decide) (fun j q => (pO_neg (by omega))) (frX_ln (by decide) (fun j q => (pO_neg (by omega))) (frX_ln (by decide) (fun j q => (pO_neg (by omega))) frX_refl))))), fun d P A Q k => ?_⟩
  exact pc_c_r l w p s (by first | assumption | omega) (by first | assumption | omega) (by first | assumption | omega) (by first | assumption | omega)
    (k)
set_option maxRecDepth 100000 in
theorem R_pc_d0 {l : Int} {w : Int} {p : Int} {s : Int} (h : (RL b now tx N so st va i v nm nf ns nl dep op br cN cP cO sI sL sM fN fL fP fF fS fG K TG FI SE TH SI DP BR WE MI EN AR LA g gg c τ)) (hs : so i = 44) : ∃ τ' : Nat → Int → Int, ((RL b now tx N so st va (i + 1) v nm nf ns nl dep op br cN cP cO sI sL sM fN fL fP fF fS fG K TG FI SE TH SI DP BR WE MI EN AR LA g gg c τ')) ∧ (frX b (fF now) (fS now) now τ τ') ∧ ∀ (d : Nat) (P : Nat → Nat → Nat) (A : Nat → Int → Int) (Q : zQ), (WP (d + 28) 59 0 0 263 [some (vR 467), some (vI l), some (vJ w), none, some (vI p), some (vI s), some (vI 1)] [] (zS P (mix A τ')) Q) → WP (d + 28) 59 0 0 378 [some (vR 467), some (vI l), some (vJ w), none, some (vI p), some (vI s), some (vI 1)] [] (zS P (mix A τ)) Q := by
  have hb := gTK_b h.1
  obtain ⟨hl, hq, h8, hbg, e6⟩ := hb
  have hf := RL_f h
  obtain ⟨hbk, hnv, ⟨e70, n0, n60⟩, ⟨e71, s0, s16⟩, ⟨e76, F0, Fn⟩, ⟨e78, S0, Sn⟩, ⟨e47, d0, d4⟩, ⟨e11, e12⟩, e74, hNN, hin⟩ := hf
  have tk := h.1.2.2.2
  subst e11; subst e12
  refine ⟨(adv τ), (by
      exact E_adv h (by omega)), (frX_adv frX_refl), fun d P A Q k => ?_⟩
  exact pc_d_r l w p s (by first | assumption | omega) (by first | assumption | omega) (by first | assumption | omega)
    (fun q => k)
    (fun q => False.elim (by
      exact absurd ((tk_sg tk (c := 44) (by decide)).mpr hs) q))
set_option maxRecDepth 100000 in
theorem R_pc_d1 {l : Int} {w : Int} {p : Int} {s : Int} (h : (RL b now tx N so st va i v nm nf ns nl dep op br cN cP cO sI sL sM fN fL fP fF fS fG K TG FI SE TH SI DP BR WE MI EN AR LA g gg c τ)) (hs : ¬ so i = 44) : ∃ τ' : Nat → Int → Int, ((RL b now tx N so st va i v nm nf ns nl dep op br cN cP cO sI sL sM fN fL fP fF fS fG K TG FI SE TH SI DP BR WE MI EN AR LA g gg c τ')) ∧ (frX b (fF now) (fS now) now τ τ') ∧ ∀ (d : Nat) (P : Nat → Nat → Nat) (A : Nat → Int → Int) (Q : zQ), (WP (d + 28) 59 0 0 263 [some (vR 467), some (vI l), some (vJ w), none, some (vI p), some (vI s), some (vI 0)] [] (zS P (mix A τ')) Q) → WP (d + 28) 59 0 0 378 [some (vR 467), some (vI l), some (vJ w), none, some (vI p), some (vI s), some (vI 1)] [] (zS P (mix A τ)) Q := by
  have hb := gTK_b h.1
  obtain ⟨hl, hq, h8, hbg, e6⟩ := hb
  have hf := RL_f h
  obtain ⟨hbk, hnv, ⟨e70, n0, n60⟩, ⟨e71, s0, s16⟩, ⟨e76, F0, Fn⟩, ⟨e78, S0, Sn⟩, ⟨e47, d0, d4⟩, ⟨e11, e12⟩, e74, hNN, hin⟩ := hf
  have tk := h.1.2.2.2
  subst e11; subst e12
  refine ⟨τ, (by
      exact h), frX_refl, fun d P A Q k => ?_⟩
  exact pc_d_r l w p s (by first | assumption | omega) (by first | assumption | omega) (by first | assumption | omega)
    (fun q => False.elim (by
      exact absurd ((tk_sg tk (c := 44) (by decide)).mp q) hs))
    (fun q => k)
set_option maxRecDepth 100000 in
theorem R_pc_z {l : Int} {w : Int} {p : Int} {s : Int} (h : (RL b now tx N so st va i v nm nf ns nl dep op br cN cP cO sI sL sM fN fL fP fF fS fG K TG FI SE TH SI DP BR WE MI EN AR LA g gg c τ)) (hs : so i = 41) : ∃ τ' : Nat → Int → Int, ((RL b now tx N so st va (i + 1) v nm nf ns nl dep op br cN cP cO sI sL sM fN fL fP fF fS fG K TG FI SE TH SI DP BR WE MI EN AR LA g gg c τ')) ∧ (frX b (fF now) (fS now) now τ τ') ∧ ∀ (d : Nat) (P : Nat → Nat → Nat) (A : Nat → Int → Int) (Q : zQ), (Q (zS P (mix A τ')) (some (vI 1))) → WP (d + 28) 59 0 0 263 [some (vR 467), some (vI l), some (vJ w), none, some (vI p), some (vI s), some (vI 0)] [] (zS P (mix A τ)) Q := by
  have hb := gTK_b h.1
  obtain ⟨hl, hq, h8, hbg, e6⟩ := hb
  have hf := RL_f h
  obtain ⟨hbk, hnv, ⟨e70, n0, n60⟩, ⟨e71, s0, s16⟩, ⟨e76, F0, Fn⟩, ⟨e78, S0, Sn⟩, ⟨e47, d0, d4⟩, ⟨e11, e12⟩, e74, hNN, hin⟩ := hf
  have tk := h.1.2.2.2
  subst e11; subst e12
  refine ⟨(adv τ), (by
      exact E_adv h (by omega)), (frX_adv frX_refl), fun d P A Q k => ?_⟩
  exact pc_z_r l w p s (by first | assumption | omega) (by first | assumption | omega) (by first | assumption | omega) (by first | assumption | omega)
    (fun q => k)
    (fun q => False.elim (by
      exact absurd ((tk_sg tk (c := 41) (by decide)).mpr hs) q))
set_option maxRecDepth 100000 in
theorem R_pc_z_f {l : Int} {w : Int} {p : Int} {s : Int} (h : (RL b now tx N so st va i v nm nf ns nl dep op br cN cP cO sI sL sM fN fL fP fF fS fG K TG FI SE TH SI DP BR WE MI EN AR LA g gg c τ)) (hs : ¬ so i = 41) : ∃ τ' : Nat → Int → Int, (frX b (fF now) (fS now) now τ τ') ∧ (τ' 467 4 = -1000 - st i) ∧ ∀ (d : Nat) (P : Nat → Nat → Nat) (A : Nat → Int → Int) (Q : zQ), (Q (zS P (mix A τ')) (some (vI 0))) → WP (d + 28) 59 0 0 263 [some (vR 467), some (vI l), some (vJ w), none, some (vI p), some (vI s), some (vI 0)] [] (zS P (mix A τ)) Q := by
  have hb := gTK_b h.1
  obtain ⟨hl, hq, h8, hbg, e6⟩ := hb
  have hf := RL_f h
  obtain ⟨hbk, hnv, ⟨e70, n0, n60⟩, ⟨e71, s0, s16⟩, ⟨e76, F0, Fn⟩, ⟨e78, S0, Sn⟩, ⟨e47, d0, d4⟩, ⟨e11, e12⟩, e74, hNN, hin⟩ := hf
  have tk := h.1.2.2.2
  subst e11; subst e12
  refine ⟨(zup τ 467 4 (-1000 - (τ 467 6))), (frX_up (by decide) frX_refl), (by
      show -1000 - τ 467 6 = _
      rw [e6]), fun d P A Q k => ?_⟩
  exact pc_z_r l w p s (by first | assumption | omega) (by first | assumption | omega) (by first | assumption | omega) (by first | assumption | omega)
    (fun q => False.elim (by
      exact absurd ((tk_sg tk (c := 41) (by decide)).mp q) hs))
    (fun q => k)
set_option maxRecDepth 100000 in
theorem R_pl_ps {l : Int} {x : Int} (h : (RL b now tx N so st va i v nm nf ns nl dep op br cN cP cO sI sL sM fN fL fP fF fS fG K TG FI SE TH SI DP BR WE MI EN AR LA g gg c τ)) (hs : so i = 61) : ∃ τ' : Nat → Int → Int, ((RL b now tx N so st va (i + 1) v nm nf ns nl dep op br cN cP cO sI sL sM fN fL fP fF fS fG K TG FI SE TH SI DP BR WE MI EN AR LA g gg c τ')) ∧ (frX b (fF now) (fS now) now τ τ') ∧ ∀ (d : Nat) (P : Nat → Nat → Nat) (A : Nat → Int → Int) (Q : zQ), (WP (d + 31) 62 0 0 261 [some (vR 467), some (vI 0), some (vI 0), some (vI l), some (vI x)] [] (zS P (mix A τ')) Q) → WP (d + 31) 62 0 0 252 [some (vR 467), some (vI 0), some (vI 0), some (vI l), some (vI x)] [] (zS P (mix A τ)) Q := by
  have hb := gTK_b h.1
  obtain ⟨hl, hq, h8, hbg, e6⟩ := hb
  have hf := RL_f h
  obtain ⟨hbk, hnv, ⟨e70, n0, n60⟩, ⟨e71, s0, s16⟩, ⟨e76, F0, Fn⟩, ⟨e78, S0, Sn⟩, ⟨e47, d0, d4⟩, ⟨e11, e12⟩, e74, hNN, hin⟩ := hf
  have tk := h.1.2.2.2
  subst e11; subst e12
  refine ⟨(adv τ), (by
      exact E_adv h (by omega)), (frX_adv frX_refl), fun d P A Q k => ?_⟩
  exact pl_ps_r l x (by first | assumption | omega) (by first | assumption | omega) (by first | assumption | omega) (by first | assumption | omega)
    (fun q => k)
    (fun q => False.elim (by
      exact absurd ((tk_sg tk (c := 61) (by decide)).mpr hs) q))
set_option maxRecDepth 100000 in
theorem R_pl_ps_f {l : Int} {x : Int} (h : (RL b now tx N so st va i v nm nf ns nl dep op br cN cP cO sI sL sM fN fL fP fF fS fG K TG FI SE TH SI DP BR WE MI EN AR LA g gg c τ)) (hs : ¬ so i = 61) : ∃ τ' : Nat → Int → Int, (frX b (fF now) (fS now) now τ τ') ∧ (τ' 467 4 = -1000 - st i) ∧ ∀ (d : Nat) (P : Nat → Nat → Nat) (A : Nat → Int → Int) (Q : zQ), (Q (zS P (mix A τ')) (some (vI 0))) → WP (d + 31) 62 0 0 252 [some (vR 467), some (vI 0), some (vI 0), some (vI l), some (vI x)] [] (zS P (mix A τ)) Q := by
  have hb := gTK_b h.1
  obtain ⟨hl, hq, h8, hbg, e6⟩ := hb
  have hf := RL_f h
  obtain ⟨hbk, hnv, ⟨e70, n0, n60⟩, ⟨e71, s0, s16⟩, ⟨e76, F0, Fn⟩, ⟨e78, S0, Sn⟩, ⟨e47, d0, d4⟩, ⟨e11, e12⟩, e74, hNN, hin⟩ := hf
  have tk := h.1.2.2.2
  subst e11; subst e12
  refine ⟨(zup τ 467 4 (-1000 - (τ 467 6))), (frX_up (by decide) frX_refl), (by
      show -1000 - τ 467 6 = _
      rw [e6]), fun d P A Q k => ?_⟩
  exact pl_ps_r l x (by first | assumption | omega) (by first | assumption | omega) (by first | assumption | omega) (by first | assumption | omega)
    (fun q => False.elim (by
      exact absurd ((tk_sg tk (c := 61) (by decide)).mp q) hs))
    (fun q => k)
set_option maxRecDepth 100000 in
theorem R_pl_pe {l : Int} {x : Int} (h : (RL b now tx N so st va i v nm nf ns nl dep op br cN cP cO sI sL sM fN fL fP fF fS fG K TG FI SE TH SI DP BR WE MI EN AR LA g gg c τ)) (hs : so i = 59) : ∃ τ' : Nat → Int → Int, ((RL b now tx N so st va (i + 1) v nm nf ns nl dep op br cN cP cO sI sL sM fN fL fP fF fS fG K TG FI SE TH SI DP BR WE MI EN AR LA g gg c τ')) ∧ (frX b (fF now) (fS now) now τ τ') ∧ ∀ (d : Nat) (P : Nat → Nat → Nat) (A : Nat → Int → Int) (Q : zQ), (Q (zS P (mix A τ')) (some (vI 1))) → WP (d + 31) 62 0 0 269 [some (vR 467), some (vI 0), some (vI 0), some (vI l), some (vI x)] [] (zS P (mix A τ)) Q := by
  have hb := gTK_b h.1
  obtain ⟨hl, hq, h8, hbg, e6⟩ := hb
  have hf := RL_f h
  obtain ⟨hbk, hnv, ⟨e70, n0, n60⟩, ⟨e71, s0, s16⟩, ⟨e76, F0, Fn⟩, ⟨e78, S0, Sn⟩, ⟨e47, d0, d4⟩, ⟨e11, e12⟩, e74, hNN, hin⟩ := hf
  have tk := h.1.2.2.2
  subst e11; subst e12
  refine ⟨(adv τ), (by
      exact E_adv h (by omega)), (frX_adv frX_refl), fun d P A Q k => ?_⟩
  exact pl_pe_r l x (by first | assumption | omega) (by first | assumption | omega) (by first | assumption | omega) (by first | assumption | omega)
    (fun q => k)
    (fun q => False.elim (by
      exact absurd ((tk_sg tk (c := 59) (by decide)).mpr hs) q))
set_option maxRecDepth 100000 in
theorem R_pl_pe_f {l : Int} {x : Int} (h : (RL b now tx N so st va i v nm nf ns nl dep op br cN cP cO sI sL sM fN fL fP fF fS fG K TG FI SE TH SI DP BR WE MI EN AR LA g gg c τ)) (hs : ¬ so i = 59) : ∃ τ' : Nat → Int → Int, (frX b (fF now) (fS now) now τ τ') ∧ (τ' 467 4 = -1000 - st i) ∧ ∀ (d : Nat) (P : Nat → Nat → Nat) (A : Nat → Int → Int) (Q : zQ), (Q (zS P (mix A τ')) (some (vI 0))) → WP (d + 31) 62 0 0 269 [some (vR 467), some (vI 0), some (vI 0), some (vI l), some (vI x)] [] (zS P (mix A τ)) Q := by
  have hb := gTK_b h.1
  obtain ⟨hl, hq, h8, hbg, e6⟩ := hb
  have hf := RL_f h
  obtain ⟨hbk, hnv, ⟨e70, n0, n60⟩, ⟨e71, s0, s16⟩, ⟨e76, F0, Fn⟩, ⟨e78, S0, Sn⟩, ⟨e47, d0, d4⟩, ⟨e11, e12⟩, e74, hNN, hin⟩ := hf
  have tk := h.1.2.2.2
  subst e11; subst e12
  refine ⟨(zup τ 467 4 (-1000 - (τ 467 6))), (frX_up (by decide) frX_refl), (by
      show -1000 - τ 467 6 = _
      rw [e6]), fun d P A Q k => ?_⟩
  exact pl_pe_r l x (by first | assumption | omega) (by first | assumption | omega) (by first | assumption | omega) (by first | assumption | omega)
    (fun q => False.elim (by
      exact absurd ((tk_sg tk (c := 59) (by decide)).mp q) hs))
    (fun q => k)
set_option maxRecDepth 100000 in
theorem R_pl_if {gg' : Int} {MI' EN' : Int → Int} (h : (RL b now tx N so st va i v nm nf ns nl dep op br cN cP cO sI sL sM fN fL fP fF fS fG K TG FI SE TH SI DP BR WE MI EN AR LA g gg c τ)) (hc0 : c = nl) (hg0 : gg = 0) (h9 : (7 : Int) = 9 → gg' = 1 ∧ dep = 0) (hn0 : nl < 60) (hL : cL (zs DP nl dep) (zs BR nl (brv dep br)) MI' EN' (zs AR nl (arv dep LA)) (zs LA dep nl) (nl + 1)) (hs : so i = -6) : ∃ τ' : Nat → Int → Int, ((RL b now tx N so st va i v nm nf ns (nl + 1) dep op br cN cP cO sI sL sM fN fL fP fF fS fG (zs K nl 7) (zs TG nl (-2)) (zs FI nl (-2)) (zs SE nl (-2)) (zs TH nl (-2)) (zs SI nl (-2)) (zs DP nl dep) (zs BR nl (brv dep br)) (zs WE nl 0) MI' EN' (zs AR nl (arv dep LA)) (zs LA dep nl) g gg' c τ')) ∧ (frX b (fF now) (fS now) now τ τ') ∧ ∀ (d : Nat) (P : Nat → Nat → Nat) (A : Nat → Int → Int) (Q : zQ), (WP (d + 31) 62 0 0 134 [some (vR 467), some (vI 1), some (vI 0), some (vI (60 * (τ 467 11) + (τ 470 (τ 467 11)))), none] [] (zS P (mix A τ')) Q) → WP (d + 31) 62 0 0 0 [some (vR 467), none, none, none, none] [] (zS P (mix A τ)) Q := by
  have hb := gTK_b h.1
  obtain ⟨hl, hq, h8, hbg, e6⟩ := hb
  have hf := RL_f h
  obtain ⟨hbk, hnv, ⟨e70, n0, n60⟩, ⟨e71, s0, s16⟩, ⟨e76, F0, Fn⟩, ⟨e78, S0, Sn⟩, ⟨e47, d0, d4⟩, ⟨e11, e12⟩, e74, hNN, hin⟩ := hf
  have tk := h.1.2.2.2
  subst e11; subst e12
  have tw := (tkq_word tk).2.1.mpr hs
  refine ⟨(zrow (zrow (zrow (zrow (zrow (zrow (zrow (zrow (zrow (zrow (zrow (zrow (zrow (zrow τ 470 (zs (τ 470) (τ 467 11) ((τ 470 (τ 467 11)) + 1))) 476 (zs (τ 476) (8 * (τ 467 11) + (τ 467 12)) ((τ 476 (8 * (τ 467 11) + (τ 467 12))) + 1))) 480 (zs (τ 480) (60 * (τ 467 11) + (τ 470 (τ 467 11))) 7)) 481 (zs (τ 481) (60 * (τ 467 11) + (τ 470 (τ 467 11))) (-2))) 482 (zs (τ 482) (60 * (τ 467 11) + (τ 470 (τ 467 11))) (-2))) 483 (zs (τ 483) (60 * (τ 467 11) + (τ 470 (τ 467 11))) (-2))) 484 (zs (τ 484) (60 * (τ 467 11) + (τ 470 (τ 467 11))) (-2))) 485 (zs (τ 485) (60 * (τ 467 11) + (τ 470 (τ 467 11))) (-2))) 486 (zs (τ 486) (60 * (τ 467 11) + (τ 470 (τ 467 11))) (-2))) 487 (zs (τ 487) (60 * (τ 467 11) + (τ 470 (τ 467 11))) ((τ 467 47) - 1))) 488 (zs (τ 488) (60 * (τ 467 11) + (τ 470 (τ 467 11))) 0)) 489 (zs (τ 489) (60 * (τ 467 11) + (τ 470 (τ 467 11))) 0)) 490 (zs (τ 490) (60 * (τ 467 11) + (τ 470 (τ 467 11))) (-1))) 491 (zs (τ 491) (60 * (τ 467 11) + (τ 470 (τ 467 11))) 0)), (by
      exact E_add h hc0 hg0 (by decide) h9 hn0 hL), (frX_ln (by decide) (fun j q => (zs_neg (by omega))) (frX_ln (by decide) (fun j q => (zs_neg (by omega))) (frX_ln (by decide) (fun j q => (zs_neg (by omega))) (frX_ln (by decide) (fun j q => (zs_neg (by omega))) (frX_ln (by decide) (fun j q => (zs_neg (by omega))) (frX_ln (by decide) (fun j q => (zs_neg (by omega))) (frX_ln (by decide) (fun j q => (zs_neg (by omega))) (frX_ln (by decide) (fun j q => (zs_neg (by omega))) (frX_ln (by decide) (fun j q => (zs_neg (by omega))) (frX_ln (by decide) (fun j q => (zs_neg (by omega))) (frX_ln (by decide) (fun j q => (zs_neg (by omega))) (frX_ln (by decide) (fun j q => (zs_neg (by omega))) (frX_fn (by decide) (fun j q => (zs_neg (by omega))) (frX_bk (by decide) (fun j q => (zs_neg (by omega))) frX_refl)))))))))))))), fun d P A Q k => ?_⟩
  exact pl_if_r  (by first | assumption | omega) (by first | assumption | omega) (by first | assumption | omega) (by first | assumption | omega) (by first | assumption | omega) (by first | assumption | omega) (tw.1) (tw.2)
    (k)
set_option maxRecDepth 100000 in
theorem R_pl_if4 (h : (RL b now tx N so st va i v nm nf ns nl dep op br cN cP cO sI sL sM fN fL fP fF fS fG K TG FI SE TH SI DP BR WE MI EN AR LA g gg c τ)) (hn0 : nl = 60) (hs : so i = -6) : ∃ τ' : Nat → Int → Int, (frX b (fF now) (fS now) now τ τ') ∧ (τ' 467 4 = -4000 - st i) ∧ ∀ (d : Nat) (P : Nat → Nat → Nat) (A : Nat → Int → Int) (Q : zQ), (Q (zS P (mix A τ')) (some (vI 0))) → WP (d + 31) 62 0 0 0 [some (vR 467), none, none, none, none] [] (zS P (mix A τ)) Q := by
  have hb := gTK_b h.1
  obtain ⟨hl, hq, h8, hbg, e6⟩ := hb
  have hf := RL_f h
  obtain ⟨hbk, hnv, ⟨e70, n0, n60⟩, ⟨e71, s0, s16⟩, ⟨e76, F0, Fn⟩, ⟨e78, S0, Sn⟩, ⟨e47, d0, d4⟩, ⟨e11, e12⟩, e74, hNN, hin⟩ := hf
  have tk := h.1.2.2.2
  subst e11; subst e12
  have tw := (tkq_word tk).2.1.mpr hs
  refine ⟨(zup τ 467 4 (-4000 - (τ 467 6))), (frX_up (by decide) frX_refl), (by
      show -4000 - τ 467 6 = _
      rw [e6]), fun d P A Q k => ?_⟩
  exact pl_if4_r  (by first | assumption | omega) (by first | assumption | omega) (by first | assumption | omega) (tw.1) (tw.2)
    (k)
set_option maxRecDepth 100000 in
theorem R_pl_loop {gg' : Int} {MI' EN' : Int → Int} (h : (RL b now tx N so st va i v nm nf ns nl dep op br cN cP cO sI sL sM fN fL fP fF fS fG K TG FI SE TH SI DP BR WE MI EN AR LA g gg c τ)) (hc0 : c = nl) (hg0 : gg = 0) (h9 : (8 : Int) = 9 → gg' = 1 ∧ dep = 0) (hn0 : nl < 60) (hL : cL (zs DP nl dep) (zs BR nl (brv dep br)) MI' EN' (zs AR nl (arv dep LA)) (zs LA dep nl) (nl + 1)) (hs : so i = -8) : ∃ τ' : Nat → Int → Int, ((RL b now tx N so st va i v nm nf ns (nl + 1) dep op br cN cP cO sI sL sM fN fL fP fF fS fG (zs K nl 8) (zs TG nl (-2)) (zs FI nl (-2)) (zs SE nl (-2)) (zs TH nl (-2)) (zs SI nl (-2)) (zs DP nl dep) (zs BR nl (brv dep br)) (zs WE nl 0) MI' EN' (zs AR nl (arv dep LA)) (zs LA dep nl) g gg' c τ')) ∧ (frX b (fF now) (fS now) now τ τ') ∧ ∀ (d : Nat) (P : Nat → Nat → Nat) (A : Nat → Int → Int) (Q : zQ), (WP (d + 31) 62 0 0 134 [some (vR 467), some (vI 1), some (vI 0), some (vI (60 * (τ 467 11) + (τ 470 (τ 467 11)))), none] [] (zS P (mix A τ')) Q) → WP (d + 31) 62 0 0 0 [some (vR 467), none, none, none, none] [] (zS P (mix A τ)) Q := by
  have hb := gTK_b h.1
  obtain ⟨hl, hq, h8, hbg, e6⟩ := hb
  have hf := RL_f h
  obtain ⟨hbk, hnv, ⟨e70, n0, n60⟩, ⟨e71, s0, s16⟩, ⟨e76, F0, Fn⟩, ⟨e78, S0, Sn⟩, ⟨e47, d0, d4⟩, ⟨e11, e12⟩, e74, hNN, hin⟩ := hf
  have tk := h.1.2.2.2
  subst e11; subst e12
  have tw := (tkq_word tk).2.2.2.1.mpr hs
  refine ⟨(zrow (zrow (zrow (zrow (zrow (zrow (zrow (zrow (zrow (zrow (zrow (zrow (zrow (zrow τ 470 (zs (τ 470) (τ 467 11) ((τ 470 (τ 467 11)) + 1))) 476 (zs (τ 476) (8 * (τ 467 11) + (τ 467 12)) ((τ 476 (8 * (τ 467 11) + (τ 467 12))) + 1))) 480 (zs (τ 480) (60 * (τ 467 11) + (τ 470 (τ 467 11))) 8)) 481 (zs (τ 481) (60 * (τ 467 11) + (τ 470 (τ 467 11))) (-2))) 482 (zs (τ 482) (60 * (τ 467 11) + (τ 470 (τ 467 11))) (-2))) 483 (zs (τ 483) (60 * (τ 467 11) + (τ 470 (τ 467 11))) (-2))) 484 (zs (τ 484) (60 * (τ 467 11) + (τ 470 (τ 467 11))) (-2))) 485 (zs (τ 485) (60 * (τ 467 11) + (τ 470 (τ 467 11))) (-2))) 486 (zs (τ 486) (60 * (τ 467 11) + (τ 470 (τ 467 11))) (-2))) 487 (zs (τ 487) (60 * (τ 467 11) + (τ 470 (τ 467 11))) ((τ 467 47) - 1))) 488 (zs (τ 488) (60 * (τ 467 11) + (τ 470 (τ 467 11))) 0)) 489 (zs (τ 489) (60 * (τ 467 11) + (τ 470 (τ 467 11))) 0)) 490 (zs (τ 490) (60 * (τ 467 11) + (τ 470 (τ 467 11))) (-1))) 491 (zs (τ 491) (60 * (τ 467 11) + (τ 470 (τ 467 11))) 0)), (by
      exact E_add h hc0 hg0 (by decide) h9 hn0 hL), (frX_ln (by decide) (fun j q => (zs_neg (by omega))) (frX_ln (by decide) (fun j q => (zs_neg (by omega))) (frX_ln (by decide) (fun j q => (zs_neg (by omega))) (frX_ln (by decide) (fun j q => (zs_neg (by omega))) (frX_ln (by decide) (fun j q => (zs_neg (by omega))) (frX_ln (by decide) (fun j q => (zs_neg (by omega))) (frX_ln (by decide) (fun j q => (zs_neg (by omega))) (frX_ln (by decide) (fun j q => (zs_neg (by omega))) (frX_ln (by decide) (fun j q => (zs_neg (by omega))) (frX_ln (by decide) (fun j q => (zs_neg (by omega))) (frX_ln (by decide) (fun j q => (zs_neg (by omega))) (frX_ln (by decide) (fun j q => (zs_neg (by omega))) (frX_fn (by decide) (fun j q => (zs_neg (by omega))) (frX_bk (by decide) (fun j q => (zs_neg (by omega))) frX_refl)))))))))))))), fun d P A Q k => ?_⟩
  exact pl_loop_r  (by first | assumption | omega) (by first | assumption | omega) (by first | assumption | omega) (by first | assumption | omega) (by first | assumption | omega) (by first | assumption | omega) (tw.1) (tw.2)
    (k)
set_option maxRecDepth 100000 in
theorem R_pl_loop4 (h : (RL b now tx N so st va i v nm nf ns nl dep op br cN cP cO sI sL sM fN fL fP fF fS fG K TG FI SE TH SI DP BR WE MI EN AR LA g gg c τ)) (hn0 : nl = 60) (hs : so i = -8) : ∃ τ' : Nat → Int → Int, (frX b (fF now) (fS now) now τ τ') ∧ (τ' 467 4 = -4000 - st i) ∧ ∀ (d : Nat) (P : Nat → Nat → Nat) (A : Nat → Int → Int) (Q : zQ), (Q (zS P (mix A τ')) (some (vI 0))) → WP (d + 31) 62 0 0 0 [some (vR 467), none, none, none, none] [] (zS P (mix A τ)) Q := by
  have hb := gTK_b h.1
  obtain ⟨hl, hq, h8, hbg, e6⟩ := hb
  have hf := RL_f h
  obtain ⟨hbk, hnv, ⟨e70, n0, n60⟩, ⟨e71, s0, s16⟩, ⟨e76, F0, Fn⟩, ⟨e78, S0, Sn⟩, ⟨e47, d0, d4⟩, ⟨e11, e12⟩, e74, hNN, hin⟩ := hf
  have tk := h.1.2.2.2
  subst e11; subst e12
  have tw := (tkq_word tk).2.2.2.1.mpr hs
  refine ⟨(zup τ 467 4 (-4000 - (τ 467 6))), (frX_up (by decide) frX_refl), (by
      show -4000 - τ 467 6 = _
      rw [e6]), fun d P A Q k => ?_⟩
  exact pl_loop4_r  (by first | assumption | omega) (by first | assumption | omega) (by first | assumption | omega) (tw.1) (tw.2)
    (k)
set_option maxRecDepth 100000 in
theorem R_pl_give {gg' : Int} {MI' EN' : Int → Int} (h : (RL b now tx N so st va i v nm nf ns nl dep op br cN cP cO sI sL sM fN fL fP fF fS fG K TG FI SE TH SI DP BR WE MI EN AR LA g gg c τ)) (hc0 : c = nl) (hg0 : gg = 0) (h9 : (9 : Int) = 9 → gg' = 1 ∧ dep = 0) (hn0 : nl < 60) (hL : cL (zs DP nl dep) (zs BR nl (brv dep br)) MI' EN' (zs AR nl (arv dep LA)) (zs LA dep nl) (nl + 1)) (hs : so i = -9) : ∃ τ' : Nat → Int → Int, ((RL b now tx N so st va i v nm nf ns (nl + 1) dep op br cN cP cO sI sL sM fN fL fP fF fS fG (zs K nl 9) (zs TG nl (-2)) (zs FI nl (-2)) (zs SE nl (-2)) (zs TH nl (-2)) (zs SI nl (-2)) (zs DP nl dep) (zs BR nl (brv dep br)) (zs WE nl 0) MI' EN' (zs AR nl (arv dep LA)) (zs LA dep nl) g gg' c τ')) ∧ (frX b (fF now) (fS now) now τ τ') ∧ ∀ (d : Nat) (P : Nat → Nat → Nat) (A : Nat → Int → Int) (Q : zQ), (WP (d + 31) 62 0 0 134 [some (vR 467), some (vI 0), some (vI 1), some (vI (60 * (τ 467 11) + (τ 470 (τ 467 11)))), none] [] (zS P (mix A τ')) Q) → WP (d + 31) 62 0 0 0 [some (vR 467), none, none, none, none] [] (zS P (mix A τ)) Q := by
  have hb := gTK_b h.1
  obtain ⟨hl, hq, h8, hbg, e6⟩ := hb
  have hf := RL_f h
  obtain ⟨hbk, hnv, ⟨e70, n0, n60⟩, ⟨e71, s0, s16⟩, ⟨e76, F0, Fn⟩, ⟨e78, S0, Sn⟩, ⟨e47, d0, d4⟩, ⟨e11, e12⟩, e74, hNN, hin⟩ := hf
  have tk := h.1.2.2.2
  subst e11; subst e12
  have tw := (tkq_word tk).2.2.2.2.mpr hs
  have h90 := (h9 rfl).2
  refine ⟨(zrow (zrow (zrow (zrow (zrow (zrow (zrow (zrow (zrow (zrow (zrow (zrow (zrow (zrow τ 470 (zs (τ 470) (τ 467 11) ((τ 470 (τ 467 11)) + 1))) 476 (zs (τ 476) (8 * (τ 467 11) + (τ 467 12)) ((τ 476 (8 * (τ 467 11) + (τ 467 12))) + 1))) 480 (zs (τ 480) (60 * (τ 467 11) + (τ 470 (τ 467 11))) 9)) 481 (zs (τ 481) (60 * (τ 467 11) + (τ 470 (τ 467 11))) (-2))) 482 (zs (τ 482) (60 * (τ 467 11) + (τ 470 (τ 467 11))) (-2))) 483 (zs (τ 483) (60 * (τ 467 11) + (τ 470 (τ 467 11))) (-2))) 484 (zs (τ 484) (60 * (τ 467 11) + (τ 470 (τ 467 11))) (-2))) 485 (zs (τ 485) (60 * (τ 467 11) + (τ 470 (τ 467 11))) (-2))) 486 (zs (τ 486) (60 * (τ 467 11) + (τ 470 (τ 467 11))) (-2))) 487 (zs (τ 487) (60 * (τ 467 11) + (τ 470 (τ 467 11))) ((τ 467 47) - 1))) 488 (zs (τ 488) (60 * (τ 467 11) + (τ 470 (τ 467 11))) 0)) 489 (zs (τ 489) (60 * (τ 467 11) + (τ 470 (τ 467 11))) 0)) 490 (zs (τ 490) (60 * (τ 467 11) + (τ 470 (τ 467 11))) (-1))) 491 (zs (τ 491) (60 * (τ 467 11) + (τ 470 (τ 467 11))) 0)), (by
      exact E_add h hc0 hg0 (by decide) h9 hn0 hL), (frX_ln (by decide) (fun j q => (zs_neg (by omega))) (frX_ln (by decide) (fun j q => (zs_neg (by omega))) (frX_ln (by decide) (fun j q => (zs_neg (by omega))) (frX_ln (by decide) (fun j q => (zs_neg (by omega))) (frX_ln (by decide) (fun j q => (zs_neg (by omega))) (frX_ln (by decide) (fun j q => (zs_neg (by omega))) (frX_ln (by decide) (fun j q => (zs_neg (by omega))) (frX_ln (by decide) (fun j q => (zs_neg (by omega))) (frX_ln (by decide) (fun j q => (zs_neg (by omega))) (frX_ln (by decide) (fun j q => (zs_neg (by omega))) (frX_ln (by decide) (fun j q => (zs_neg (by omega))) (frX_ln (by decide) (fun j q => (zs_neg (by omega))) (frX_fn (by decide) (fun j q => (zs_neg (by omega))) (frX_bk (by decide) (fun j q => (zs_neg (by omega))) frX_refl)))))))))))))), fun d P A Q k => ?_⟩
  exact pl_give_r  (by first | assumption | omega) (by first | assumption | omega) (by first | assumption | omega) (by first | assumption | omega) (by first | assumption | omega) (by first | assumption | omega) (tw.1) (tw.2) (by omega)
    (k)
set_option maxRecDepth 100000 in
theorem R_pl_give4 (h : (RL b now tx N so st va i v nm nf ns nl dep op br cN cP cO sI sL sM fN fL fP fF fS fG K TG FI SE TH SI DP BR WE MI EN AR LA g gg c τ)) (hn0 : nl = 60) (hs : so i = -9) (h90 : dep = 0) : ∃ τ' : Nat → Int → Int, (frX b (fF now) (fS now) now τ τ') ∧ (τ' 467 4 = -4000 - st i) ∧ ∀ (d : Nat) (P : Nat → Nat → Nat) (A : Nat → Int → Int) (Q : zQ), (Q (zS P (mix A τ')) (some (vI 0))) → WP (d + 31) 62 0 0 0 [some (vR 467), none, none, none, none] [] (zS P (mix A τ)) Q := by
  have hb := gTK_b h.1
  obtain ⟨hl, hq, h8, hbg, e6⟩ := hb
  have hf := RL_f h
  obtain ⟨hbk, hnv, ⟨e70, n0, n60⟩, ⟨e71, s0, s16⟩, ⟨e76, F0, Fn⟩, ⟨e78, S0, Sn⟩, ⟨e47, d0, d4⟩, ⟨e11, e12⟩, e74, hNN, hin⟩ := hf
  have tk := h.1.2.2.2
  subst e11; subst e12
  have tw := (tkq_word tk).2.2.2.2.mpr hs
  refine ⟨(zup τ 467 4 (-4000 - (τ 467 6))), (frX_up (by decide) frX_refl), (by
      show -4000 - τ 467 6 = _
      rw [e6]), fun d P A Q k => ?_⟩
  exact pl_give4_r  (by first | assumption | omega) (by first | assumption | omega) (by first | assumption | omega) (tw.1) (tw.2) (by omega)
    (k)
set_option maxRecDepth 100000 in
theorem R_pl_put {gg' : Int} {MI' EN' : Int → Int} (h : (RL b now tx N so st va i v nm nf ns nl dep op br cN cP cO sI sL sM fN fL fP fF fS fG K TG FI SE TH SI DP BR WE MI EN AR LA g gg c τ)) (hc0 : c = nl) (hg0 : gg = 0) (h9 : (0 : Int) = 9 → gg' = 1 ∧ dep = 0) (hn0 : nl < 60) (hL : cL (zs DP nl dep) (zs BR nl (brv dep br)) MI' EN' (zs AR nl (arv dep LA)) (zs LA dep nl) (nl + 1)) (hs : so i = -2) : ∃ τ' : Nat → Int → Int, ((RL b now tx N so st va i v nm nf ns (nl + 1) dep op br cN cP cO sI sL sM fN fL fP fF fS fG (zs K nl 0) (zs TG nl (-2)) (zs FI nl (-2)) (zs SE nl (-2)) (zs TH nl (-2)) (zs SI nl (-2)) (zs DP nl dep) (zs BR nl (brv dep br)) (zs WE nl 0) MI' EN' (zs AR nl (arv dep LA)) (zs LA dep nl) g gg' c τ')) ∧ (frX b (fF now) (fS now) now τ τ') ∧ ∀ (d : Nat) (P : Nat → Nat → Nat) (A : Nat → Int → Int) (Q : zQ), (WP (d + 31) 62 0 0 134 [some (vR 467), some (vI 0), some (vI 0), some (vI (60 * (τ 467 11) + (τ 470 (τ 467 11)))), none] [] (zS P (mix A τ')) Q) → WP (d + 31) 62 0 0 0 [some (vR 467), none, none, none, none] [] (zS P (mix A τ)) Q := by
  have hb := gTK_b h.1
  obtain ⟨hl, hq, h8, hbg, e6⟩ := hb
  have hf := RL_f h
  obtain ⟨hbk, hnv, ⟨e70, n0, n60⟩, ⟨e71, s0, s16⟩, ⟨e76, F0, Fn⟩, ⟨e78, S0, Sn⟩, ⟨e47, d0, d4⟩, ⟨e11, e12⟩, e74, hNN, hin⟩ := hf
  have tk := h.1.2.2.2
  subst e11; subst e12
  have tn := (tk_name tk).1.mpr hs
  have ew := ((tk_name tk).2 hs).1
  have tv := gVA_v h.2.2.1 (va i)
  refine ⟨(zrow (zrow (zrow (zrow (zrow (zrow (zrow (zrow (zrow (zrow (zrow (zrow (zrow (zrow τ 470 (zs (τ 470) (τ 467 11) ((τ 470 (τ 467 11)) + 1))) 476 (zs (τ 476) (8 * (τ 467 11) + (τ 467 12)) ((τ 476 (8 * (τ 467 11) + (τ 467 12))) + 1))) 480 (zs (τ 480) (60 * (τ 467 11) + (τ 470 (τ 467 11))) 0)) 481 (zs (τ 481) (60 * (τ 467 11) + (τ 470 (τ 467 11))) (-2))) 482 (zs (τ 482) (60 * (τ 467 11) + (τ 470 (τ 467 11))) (-2))) 483 (zs (τ 483) (60 * (τ 467 11) + (τ 470 (τ 467 11))) (-2))) 484 (zs (τ 484) (60 * (τ 467 11) + (τ 470 (τ 467 11))) (-2))) 485 (zs (τ 485) (60 * (τ 467 11) + (τ 470 (τ 467 11))) (-2))) 486 (zs (τ 486) (60 * (τ 467 11) + (τ 470 (τ 467 11))) (-2))) 487 (zs (τ 487) (60 * (τ 467 11) + (τ 470 (τ 467 11))) ((τ 467 47) - 1))) 488 (zs (τ 488) (60 * (τ 467 11) + (τ 470 (τ 467 11))) 0)) 489 (zs (τ 489) (60 * (τ 467 11) + (τ 470 (τ 467 11))) 0)) 490 (zs (τ 490) (60 * (τ 467 11) + (τ 470 (τ 467 11))) (-1))) 491 (zs (τ 491) (60 * (τ 467 11) + (τ 470 (τ 467 11))) 0)), (by
      exact E_add h hc0 hg0 (by decide) h9 hn0 hL), (frX_ln (by decide) (fun j q => (zs_neg (by omega))) (frX_ln (by decide) (fun j q => (zs_neg (by omega))) (frX_ln (by decide) (fun j q => (zs_neg (by omega))) (frX_ln (by decide) (fun j q => (zs_neg (by omega))) (frX_ln (by decide) (fun j q => (zs_neg (by omega))) (frX_ln (by decide) (fun j q => (zs_neg (by omega))) (frX_ln (by decide) (fun j q => (zs_neg (by omega))) (frX_ln (by decide) (fun j q => (zs_neg (by omega))) (frX_ln (by decide) (fun j q => (zs_neg (by omega))) (frX_ln (by decide) (fun j q => (zs_neg (by omega))) (frX_ln (by decide) (fun j q => (zs_neg (by omega))) (frX_ln (by decide) (fun j q => (zs_neg (by omega))) (frX_fn (by decide) (fun j q => (zs_neg (by omega))) (frX_bk (by decide) (fun j q => (zs_neg (by omega))) frX_refl)))))))))))))), fun d P A Q k => ?_⟩
  exact pl_put_r  (by first | assumption | omega) (by first | assumption | omega) (by first | assumption | omega) (by first | assumption | omega) (by first | assumption | omega) (by first | assumption | omega) (tn.1) (tn.2.1) (tn.2.2)
    (k)
set_option maxRecDepth 100000 in
theorem R_pl_put4 (h : (RL b now tx N so st va i v nm nf ns nl dep op br cN cP cO sI sL sM fN fL fP fF fS fG K TG FI SE TH SI DP BR WE MI EN AR LA g gg c τ)) (hn0 : nl = 60) (hs : so i = -2) : ∃ τ' : Nat → Int → Int, (frX b (fF now) (fS now) now τ τ') ∧ (τ' 467 4 = -4000 - st i) ∧ ∀ (d : Nat) (P : Nat → Nat → Nat) (A : Nat → Int → Int) (Q : zQ), (Q (zS P (mix A τ')) (some (vI 0))) → WP (d + 31) 62 0 0 0 [some (vR 467), none, none, none, none] [] (zS P (mix A τ)) Q := by
  have hb := gTK_b h.1
  obtain ⟨hl, hq, h8, hbg, e6⟩ := hb
  have hf := RL_f h
  obtain ⟨hbk, hnv, ⟨e70, n0, n60⟩, ⟨e71, s0, s16⟩, ⟨e76, F0, Fn⟩, ⟨e78, S0, Sn⟩, ⟨e47, d0, d4⟩, ⟨e11, e12⟩, e74, hNN, hin⟩ := hf
  have tk := h.1.2.2.2
  subst e11; subst e12
  have tn := (tk_name tk).1.mpr hs
  have ew := ((tk_name tk).2 hs).1
  have tv := gVA_v h.2.2.1 (va i)
  refine ⟨(zup τ 467 4 (-4000 - (τ 467 6))), (frX_up (by decide) frX_refl), (by
      show -4000 - τ 467 6 = _
      rw [e6]), fun d P A Q k => ?_⟩
  exact pl_put4_r  (by first | assumption | omega) (by first | assumption | omega) (by first | assumption | omega) (tn.1) (tn.2.1) (tn.2.2)
    (k)
set_option maxRecDepth 100000 in
theorem R_pl_g1 (h : (RL b now tx N so st va i v nm nf ns nl dep op br cN cP cO sI sL sM fN fL fP fF fS fG K TG FI SE TH SI DP BR WE MI EN AR LA g gg c τ)) (hs : so i = -9) (h1 : 0 < dep) : ∃ τ' : Nat → Int → Int, (frX b (fF now) (fS now) now τ τ') ∧ (τ' 467 4 = -1000 - st i) ∧ ∀ (d : Nat) (P : Nat → Nat → Nat) (A : Nat → Int → Int) (Q : zQ), (Q (zS P (mix A τ')) (some (vI 0))) → WP (d + 31) 62 0 0 0 [some (vR 467), none, none, none, none] [] (zS P (mix A τ)) Q := by
  have hb := gTK_b h.1
  obtain ⟨hl, hq, h8, hbg, e6⟩ := hb
  have hf := RL_f h
  obtain ⟨hbk, hnv, ⟨e70, n0, n60⟩, ⟨e71, s0, s16⟩, ⟨e76, F0, Fn⟩, ⟨e78, S0, Sn⟩, ⟨e47, d0, d4⟩, ⟨e11, e12⟩, e74, hNN, hin⟩ := hf
  have tk := h.1.2.2.2
  subst e11; subst e12
  have tw := (tkq_word tk).2.2.2.2.mpr hs
  refine ⟨(zup τ 467 4 (-1000 - (τ 467 6))), (frX_up (by decide) frX_refl), (by
      show -1000 - τ 467 6 = _
      rw [e6]), fun d P A Q k => ?_⟩
  exact pl_g1_r  (by first | assumption | omega) (tw.1) (tw.2) (by first | assumption | omega)
    (k)
set_option maxRecDepth 100000 in
theorem R_pl_no (h : (RL b now tx N so st va i v nm nf ns nl dep op br cN cP cO sI sL sM fN fL fP fF fS fG K TG FI SE TH SI DP BR WE MI EN AR LA g gg c τ)) (hs : ¬ so i = -2 ∧ ¬ so i = -6 ∧ ¬ so i = -8 ∧ ¬ so i = -9) : ∃ τ' : Nat → Int → Int, (frX b (fF now) (fS now) now τ τ') ∧ (τ' 467 4 = -1000 * nF (so i) - st i) ∧ ∀ (d : Nat) (P : Nat → Nat → Nat) (A : Nat → Int → Int) (Q : zQ), (Q (zS P (mix A τ')) (some (vI 0))) → WP (d + 31) 62 0 0 0 [some (vR 467), none, none, none, none] [] (zS P (mix A τ)) Q := by
  have hb := gTK_b h.1
  obtain ⟨hl, hq, h8, hbg, e6⟩ := hb
  have hf := RL_f h
  obtain ⟨hbk, hnv, ⟨e70, n0, n60⟩, ⟨e71, s0, s16⟩, ⟨e76, F0, Fn⟩, ⟨e78, S0, Sn⟩, ⟨e47, d0, d4⟩, ⟨e11, e12⟩, e74, hNN, hin⟩ := hf
  have tk := h.1.2.2.2
  subst e11; subst e12
  refine ⟨(zup τ 467 4 (-1000 * nmF (τ 467 5) (τ 467 10) - (τ 467 6))), (frX_up (by decide) frX_refl), (by
      show -1000 * nmF (τ 467 5) (τ 467 10) - τ 467 6 = _
      rw [tk_nmF tk hs.1, e6]), fun d P A Q k => ?_⟩
  exact pl_no_r  (by first | assumption | omega) (fun z => hs.1 ((tk_name tk).1.mp z)) (fun z => hs.2.1 ((tkq_word tk).2.1.mp z)) (fun z => hs.2.2.1 ((tkq_word tk).2.2.2.1.mp z)) (fun z => hs.2.2.2 ((tkq_word tk).2.2.2.2.mp z))
    (k)
set_option maxRecDepth 100000 in
theorem R_pl_nb {l : Int} (h : (RL b now tx N so st va i v nm nf ns nl dep op br cN cP cO sI sL sM fN fL fP fF fS fG K TG FI SE TH SI DP BR WE MI EN AR LA g gg c τ)) (hne : ¬ so i = -1) : ∃ τ' : Nat → Int → Int, ((RL b now tx N so st va (i + 1) v nm nf ns nl dep op br cN cP cO sI sL sM fN fL fP fF fS fG K TG FI SE TH SI DP BR WE MI EN AR LA g gg c τ')) ∧ (frX b (fF now) (fS now) now τ τ') ∧ ∀ (d : Nat) (P : Nat → Nat → Nat) (A : Nat → Int → Int) (Q : zQ) (y4 : Option zV), (∀ (y4' : Option zV), WP (d + 31) 62 0 0 146 [some (vR 467), some (vI 1), some (vI 0), some (vI l), y4'] [] (zS P (mix A τ')) Q) → WP (d + 31) 62 0 0 134 [some (vR 467), some (vI 1), some (vI 0), some (vI l), y4] [] (zS P (mix A τ)) Q := by
  have hb := gTK_b h.1
  obtain ⟨hl, hq, h8, hbg, e6⟩ := hb
  have hf := RL_f h
  obtain ⟨hbk, hnv, ⟨e70, n0, n60⟩, ⟨e71, s0, s16⟩, ⟨e76, F0, Fn⟩, ⟨e78, S0, Sn⟩, ⟨e47, d0, d4⟩, ⟨e11, e12⟩, e74, hNN, hin⟩ := hf
  have tk := h.1.2.2.2
  subst e11; subst e12
  refine ⟨(adv τ), (by
      exact E_adv h hne), (frX_adv frX_refl), fun d P A Q y4 k => ?_⟩
  exact pl_nb_r l (by first | assumption | omega) (by first | assumption | omega) (by first | assumption | omega)
    (k)
set_option maxRecDepth 100000 in
theorem R_pl_ab {l : Int} {n x : Int} (h : (RL b now tx N so st va i v nm nf ns nl dep op br cN cP cO sI sL sM fN fL fP fF fS fG K TG FI SE TH SI DP BR WE MI EN AR LA g gg c τ)) (hc : c ≤ n) (hl0 : l = 60 * b + n) (hn0 : fF now ≤ n ∧ n < 60) (hx : τ 467 48 = x) : ∃ τ' : Nat → Int → Int, ((RL b now tx N so st va i v nm nf ns nl dep op br cN cP cO sI sL sM fN fL fP fF fS fG K TG (zs FI n x) SE TH SI DP BR WE MI EN AR LA g gg c τ')) ∧ (frX b (fF now) (fS now) now τ τ') ∧ ∀ (d : Nat) (P : Nat → Nat → Nat) (A : Nat → Int → Int) (Q : zQ) (y4 : Option zV), (∀ (y4' : Option zV), WP (d + 31) 62 0 0 165 [some (vR 467), some (vI 1), some (vI 0), some (vI l), y4'] [] (zS P (mix A τ')) Q) → WP (d + 31) 62 0 0 155 [some (vR 467), some (vI 1), some (vI 0), some (vI l), y4] [] (zS P (mix A τ)) Q := by
  have hb := gTK_b h.1
  obtain ⟨hl, hq, h8, hbg, e6⟩ := hb
  have hf := RL_f h
  obtain ⟨hbk, hnv, ⟨e70, n0, n60⟩, ⟨e71, s0, s16⟩, ⟨e76, F0, Fn⟩, ⟨e78, S0, Sn⟩, ⟨e47, d0, d4⟩, ⟨e11, e12⟩, e74, hNN, hin⟩ := hf
  have tk := h.1.2.2.2
  subst e11; subst e12
  refine ⟨(zrow τ 482 (zs (τ 482) l (τ 467 48))), (by
      rw [hx]
      exact E_fi h hc hl0), (frX_ln (by decide) (fun j q => (zs_neg (by omega))) frX_refl), fun d P A Q y4 k => ?_⟩
  exact pl_ab_r l (by first | assumption | omega)
    (k)
set_option maxRecDepth 100000 in
theorem R_pl_ng {l : Int} (h : (RL b now tx N so st va i v nm nf ns nl dep op br cN cP cO sI sL sM fN fL fP fF fS fG K TG FI SE TH SI DP BR WE MI EN AR LA g gg c τ)) (hne : ¬ so i = -1) : ∃ τ' : Nat → Int → Int, ((RL b now tx N so st va (i + 1) v nm nf ns nl dep op br cN cP cO sI sL sM fN fL fP fF fS fG K TG FI SE TH SI DP BR WE MI EN AR LA g gg c τ')) ∧ (frX b (fF now) (fS now) now τ τ') ∧ ∀ (d : Nat) (P : Nat → Nat → Nat) (A : Nat → Int → Int) (Q : zQ) (y4 : Option zV), (∀ (y4' : Option zV), WP (d + 31) 62 0 0 146 [some (vR 467), some (vI 0), some (vI 1), some (vI l), y4'] [] (zS P (mix A τ')) Q) → WP (d + 31) 62 0 0 134 [some (vR 467), some (vI 0), some (vI 1), some (vI l), y4] [] (zS P (mix A τ)) Q := by
  have hb := gTK_b h.1
  obtain ⟨hl, hq, h8, hbg, e6⟩ := hb
  have hf := RL_f h
  obtain ⟨hbk, hnv, ⟨e70, n0, n60⟩, ⟨e71, s0, s16⟩, ⟨e76, F0, Fn⟩, ⟨e78, S0, Sn⟩, ⟨e47, d0, d4⟩, ⟨e11, e12⟩, e74, hNN, hin⟩ := hf
  have tk := h.1.2.2.2
  subst e11; subst e12
  refine ⟨(adv τ), (by
      exact E_adv h hne), (frX_adv frX_refl), fun d P A Q y4 k => ?_⟩
  exact pl_ng_r l (by first | assumption | omega) (by first | assumption | omega) (by first | assumption | omega)
    (k)
set_option maxRecDepth 100000 in
theorem R_pl_ag {l : Int} {n x : Int} (h : (RL b now tx N so st va i v nm nf ns nl dep op br cN cP cO sI sL sM fN fL fP fF fS fG K TG FI SE TH SI DP BR WE MI EN AR LA g gg c τ)) (hc : c ≤ n) (hl0 : l = 60 * b + n) (hn0 : fF now ≤ n ∧ n < 60) (hx : τ 467 48 = x) : ∃ τ' : Nat → Int → Int, ((RL b now tx N so st va i v nm nf ns nl dep op br cN cP cO sI sL sM fN fL fP fF fS fG K TG (zs FI n x) SE TH SI DP BR WE MI EN AR LA g gg c τ')) ∧ (frX b (fF now) (fS now) now τ τ') ∧ ∀ (d : Nat) (P : Nat → Nat → Nat) (A : Nat → Int → Int) (Q : zQ) (y4 : Option zV), (∀ (y4' : Option zV), WP (d + 31) 62 0 0 165 [some (vR 467), some (vI 0), some (vI 1), some (vI l), y4'] [] (zS P (mix A τ')) Q) → WP (d + 31) 62 0 0 155 [some (vR 467), some (vI 0), some (vI 1), some (vI l), y4] [] (zS P (mix A τ)) Q := by
  have hb := gTK_b h.1
  obtain ⟨hl, hq, h8, hbg, e6⟩ := hb
  have hf := RL_f h
  obtain ⟨hbk, hnv, ⟨e70, n0, n60⟩, ⟨e71, s0, s16⟩, ⟨e76, F0, Fn⟩, ⟨e78, S0, Sn⟩, ⟨e47, d0, d4⟩, ⟨e11, e12⟩, e74, hNN, hin⟩ := hf
  have tk := h.1.2.2.2
  subst e11; subst e12
  refine ⟨(zrow τ 482 (zs (τ 482) l (τ 467 48))), (by
      rw [hx]
      exact E_fi h hc hl0), (frX_ln (by decide) (fun j q => (zs_neg (by omega))) frX_refl), fun d P A Q y4 k => ?_⟩
  exact pl_ag_r l (by first | assumption | omega)
    (k)
set_option maxRecDepth 100000 in
theorem R_pl_bo {l : Int} {n : Int} (h : (RL b now tx N so st va i v nm nf ns nl dep op br cN cP cO sI sL sM fN fL fP fF fS fG K TG FI SE TH SI DP BR WE MI EN AR LA g gg c τ)) (hn : nl = n + 1) (hF0 : fF now ≤ n) (hl0 : l = 60 * b + n) (hd : DP n = dep ∧ (0 < dep → BR n = br dep)) (hk : K n = 7 ∨ K n = 8) (hw : WE n = 0) (h4 : dep < 4) (hs : so i = 123) : ∃ τ' : Nat → Int → Int, ((RL b now tx N so st va (i + 1) v nm nf ns nl (dep + 1) (zs op (dep + 1) n) (zs br (dep + 1) 0) cN cP cO sI sL sM fN fL fP fF fS fG K TG FI SE TH SI DP BR WE MI EN AR LA g gg c τ')) ∧ (frX b (fF now) (fS now) now τ τ') ∧ ∀ (d : Nat) (P : Nat → Nat → Nat) (A : Nat → Int → Int) (Q : zQ) (y4 : Option zV), (Q (zS P (mix A τ')) (some (vI 1))) → WP (d + 31) 62 0 0 165 [some (vR 467), some (vI 1), some (vI 0), some (vI l), y4] [] (zS P (mix A τ)) Q := by
  have hb := gTK_b h.1
  obtain ⟨hl, hq, h8, hbg, e6⟩ := hb
  have hf := RL_f h
  obtain ⟨hbk, hnv, ⟨e70, n0, n60⟩, ⟨e71, s0, s16⟩, ⟨e76, F0, Fn⟩, ⟨e78, S0, Sn⟩, ⟨e47, d0, d4⟩, ⟨e11, e12⟩, e74, hNN, hin⟩ := hf
  have tk := h.1.2.2.2
  subst e11; subst e12
  refine ⟨(zup (zrow (zrow (adv τ) 501 (zs (τ 501) (τ 467 47) l)) 502 (zs (τ 502) (τ 467 47) 0)) 467 47 ((τ 467 47) + 1)), (by
      exact E_open (E_adv h (by omega)) hn hF0 hl0 hd hk hw h4), (frX_up (by decide) (frX_nm (by decide) (frX_nm (by decide) (frX_adv frX_refl)))), fun d P A Q y4 k => ?_⟩
  exact pl_bo_r l (by first | assumption | omega) (by first | assumption | omega) (by first | assumption | omega) (by first | assumption | omega) (by first | assumption | omega)
    (fun q q1 => k)
    (fun q => False.elim (by
      exact absurd ((tk_sg tk (c := 123) (by decide)).mpr hs) q))
    (fun q q1 => False.elim (by
      omega))
set_option maxRecDepth 100000 in
theorem R_pl_bo_f {l : Int} (h : (RL b now tx N so st va i v nm nf ns nl dep op br cN cP cO sI sL sM fN fL fP fF fS fG K TG FI SE TH SI DP BR WE MI EN AR LA g gg c τ)) (hs : ¬ so i = 123) : ∃ τ' : Nat → Int → Int, (frX b (fF now) (fS now) now τ τ') ∧ (τ' 467 4 = -1000 - st i) ∧ ∀ (d : Nat) (P : Nat → Nat → Nat) (A : Nat → Int → Int) (Q : zQ) (y4 : Option zV), (Q (zS P (mix A τ')) (some (vI 0))) → WP (d + 31) 62 0 0 165 [some (vR 467), some (vI 1), some (vI 0), some (vI l), y4] [] (zS P (mix A τ)) Q := by
  have hb := gTK_b h.1
  obtain ⟨hl, hq, h8, hbg, e6⟩ := hb
  have hf := RL_f h
  obtain ⟨hbk, hnv, ⟨e70, n0, n60⟩, ⟨e71, s0, s16⟩, ⟨e76, F0, Fn⟩, ⟨e78, S0, Sn⟩, ⟨e47, d0, d4⟩, ⟨e11, e12⟩, e74, hNN, hin⟩ := hf
  have tk := h.1.2.2.2
  subst e11; subst e12
  refine ⟨(zup τ 467 4 (-1000 - (τ 467 6))), (frX_up (by decide) frX_refl), (by
      show -1000 - τ 467 6 = _
      rw [e6]), fun d P A Q y4 k => ?_⟩
  exact pl_bo_r l (by first | assumption | omega) (by first | assumption | omega) (by first | assumption | omega) (by first | assumption | omega) (by first | assumption | omega)
    (fun q q1 => False.elim (by
      exact absurd ((tk_sg tk (c := 123) (by decide)).mp q) hs))
    (fun q => k)
    (fun q q1 => False.elim (by
      exact absurd ((tk_sg tk (c := 123) (by decide)).mp q) hs))
set_option maxRecDepth 100000 in
theorem R_pl_bo_g {l : Int} (h : (RL b now tx N so st va i v nm nf ns nl dep op br cN cP cO sI sL sM fN fL fP fF fS fG K TG FI SE TH SI DP BR WE MI EN AR LA g gg c τ)) (hs : so i = 123) (h4 : dep = 4) : ∃ τ' : Nat → Int → Int, (frX b (fF now) (fS now) now τ τ') ∧ (τ' 467 4 = -4000 - st i) ∧ ∀ (d : Nat) (P : Nat → Nat → Nat) (A : Nat → Int → Int) (Q : zQ) (y4 : Option zV), (Q (zS P (mix A τ')) (some (vI 0))) → WP (d + 31) 62 0 0 165 [some (vR 467), some (vI 1), some (vI 0), some (vI l), y4] [] (zS P (mix A τ)) Q := by
  have hb := gTK_b h.1
  obtain ⟨hl, hq, h8, hbg, e6⟩ := hb
  have hf := RL_f h
  obtain ⟨hbk, hnv, ⟨e70, n0, n60⟩, ⟨e71, s0, s16⟩, ⟨e76, F0, Fn⟩, ⟨e78, S0, Sn⟩, ⟨e47, d0, d4⟩, ⟨e11, e12⟩, e74, hNN, hin⟩ := hf
  have tk := h.1.2.2.2
  subst e11; subst e12
  refine ⟨(zup τ 467 4 (-4000 - (τ 467 6))), (frX_up (by decide) frX_refl), (by
      show -4000 - τ 467 6 = _
      rw [e6]), fun d P A Q y4 k => ?_⟩
  exact pl_bo_r l (by first | assumption | omega) (by first | assumption | omega) (by first | assumption | omega) (by first | assumption | omega) (by first | assumption | omega)
    (fun q q1 => False.elim (by
      omega))
    (fun q => False.elim (by
      exact absurd ((tk_sg tk (c := 123) (by decide)).mpr hs) q))
    (fun q q1 => k)
set_option maxRecDepth 100000 in
theorem R_pl_gg {l : Int} {x : Int} (h : (RL b now tx N so st va i v nm nf ns nl dep op br cN cP cO sI sL sM fN fL fP fF fS fG K TG FI SE TH SI DP BR WE MI EN AR LA g gg c τ)) : ∃ τ' : Nat → Int → Int, ((RL b now tx N so st va i v nm nf ns nl dep op br cN cP cO sI sL sM fN fL fP fF fS (zs fG (nf - 1) x) K TG FI SE TH SI DP BR WE MI EN AR LA 1 gg c τ')) ∧ (frX b (fF now) (fS now) now τ τ') ∧ ∀ (d : Nat) (P : Nat → Nat → Nat) (A : Nat → Int → Int) (Q : zQ) (y4 : Option zV), (∀ (y4' : Option zV), WP (d + 31) 62 0 0 186 [some (vR 467), some (vI 0), some (vI 1), some (vI l), y4'] [] (zS P (mix A τ')) Q) → WP (d + 31) 62 0 0 165 [some (vR 467), some (vI 0), some (vI 1), some (vI l), y4] [] (zS P (mix A τ)) Q := by
  have hb := gTK_b h.1
  obtain ⟨hl, hq, h8, hbg, e6⟩ := hb
  have hf := RL_f h
  obtain ⟨hbk, hnv, ⟨e70, n0, n60⟩, ⟨e71, s0, s16⟩, ⟨e76, F0, Fn⟩, ⟨e78, S0, Sn⟩, ⟨e47, d0, d4⟩, ⟨e11, e12⟩, e74, hNN, hin⟩ := hf
  have tk := h.1.2.2.2
  subst e11; subst e12
  refine ⟨(zrow τ 479 (zs (τ 479) (8 * (τ 467 11) + (τ 467 12)) 1)), (by
      exact E_give h), (frX_fn (by decide) (fun j q => (zs_neg (by omega))) frX_refl), fun d P A Q y4 k => ?_⟩
  exact pl_gg_r l (by first | assumption | omega)
    (k)
set_option maxRecDepth 100000 in
theorem R_pl_ge {l : Int} (h : (RL b now tx N so st va i v nm nf ns nl dep op br cN cP cO sI sL sM fN fL fP fF fS fG K TG FI SE TH SI DP BR WE MI EN AR LA g gg c τ)) (hs : so i = 59) (hs1 : so (i + 1) = 125) : ∃ τ' : Nat → Int → Int, ((RL b now tx N so st va (i + 1) v nm nf ns nl dep op br cN cP cO sI sL sM fN fL fP fF fS fG K TG FI SE TH SI DP BR WE MI EN AR LA g gg c τ')) ∧ (frX b (fF now) (fS now) now τ τ') ∧ ∀ (d : Nat) (P : Nat → Nat → Nat) (A : Nat → Int → Int) (Q : zQ) (y4 : Option zV), (Q (zS P (mix A τ')) (some (vI 1))) → WP (d + 31) 62 0 0 186 [some (vR 467), some (vI 0), some (vI 1), some (vI l), y4] [] (zS P (mix A τ)) Q := by
  have hb := gTK_b h.1
  obtain ⟨hl, hq, h8, hbg, e6⟩ := hb
  have hf := RL_f h
  obtain ⟨hbk, hnv, ⟨e70, n0, n60⟩, ⟨e71, s0, s16⟩, ⟨e76, F0, Fn⟩, ⟨e78, S0, Sn⟩, ⟨e47, d0, d4⟩, ⟨e11, e12⟩, e74, hNN, hin⟩ := hf
  have tk := h.1.2.2.2
  subst e11; subst e12
  refine ⟨(adv τ), (by
      exact E_adv h (by omega)), (frX_adv frX_refl), fun d P A Q y4 k => ?_⟩
  exact pl_ge_r l (by first | assumption | omega) (by first | assumption | omega) (by first | assumption | omega) (by first | assumption | omega)
    (fun q q1 => k)
    (fun q => False.elim (by
      exact absurd ((tk_sg tk (c := 59) (by decide)).mpr hs) q))
    (fun q q1 => False.elim (by
      exact absurd ((tk_sg (E_adv h (by omega)).1.2.2.2 (c := 125) (by decide)).mpr hs1) q1))
set_option maxRecDepth 100000 in
theorem R_pl_ge_f {l : Int} (h : (RL b now tx N so st va i v nm nf ns nl dep op br cN cP cO sI sL sM fN fL fP fF fS fG K TG FI SE TH SI DP BR WE MI EN AR LA g gg c τ)) (hs : ¬ so i = 59) : ∃ τ' : Nat → Int → Int, (frX b (fF now) (fS now) now τ τ') ∧ (τ' 467 4 = -1000 - st i) ∧ ∀ (d : Nat) (P : Nat → Nat → Nat) (A : Nat → Int → Int) (Q : zQ) (y4 : Option zV), (Q (zS P (mix A τ')) (some (vI 0))) → WP (d + 31) 62 0 0 186 [some (vR 467), some (vI 0), some (vI 1), some (vI l), y4] [] (zS P (mix A τ)) Q := by
  have hb := gTK_b h.1
  obtain ⟨hl, hq, h8, hbg, e6⟩ := hb
  have hf := RL_f h
  obtain ⟨hbk, hnv, ⟨e70, n0, n60⟩, ⟨e71, s0, s16⟩, ⟨e76, F0, Fn⟩, ⟨e78, S0, Sn⟩, ⟨e47, d0, d4⟩, ⟨e11, e12⟩, e74, hNN, hin⟩ := hf
  have tk := h.1.2.2.2
  subst e11; subst e12
  refine ⟨(zup τ 467 4 (-1000 - (τ 467 6))), (frX_up (by decide) frX_refl), (by
      show -1000 - τ 467 6 = _
      rw [e6]), fun d P A Q y4 k => ?_⟩
  exact pl_ge_r l (by first | assumption | omega) (by first | assumption | omega) (by first | assumption | omega) (by first | assumption | omega)
    (fun q q1 => False.elim (by
      exact absurd ((tk_sg tk (c := 59) (by decide)).mp q) hs))
    (fun q => k)
    (fun q q1 => False.elim (by
      exact absurd ((tk_sg tk (c := 59) (by decide)).mp q) hs))
set_option maxRecDepth 100000 in
theorem R_pl_ge_g {l : Int} (h : (RL b now tx N so st va i v nm nf ns nl dep op br cN cP cO sI sL sM fN fL fP fF fS fG K TG FI SE TH SI DP BR WE MI EN AR LA g gg c τ)) (hs : so i = 59) (hs1 : ¬ so (i + 1) = 125) : ∃ τ' : Nat → Int → Int, (frX b (fF now) (fS now) now τ τ') ∧ (τ' 467 4 = -1000 - st (i + 1)) ∧ ∀ (d : Nat) (P : Nat → Nat → Nat) (A : Nat → Int → Int) (Q : zQ) (y4 : Option zV), (Q (zS P (mix A τ')) (some (vI 0))) → WP (d + 31) 62 0 0 186 [some (vR 467), some (vI 0), some (vI 1), some (vI l), y4] [] (zS P (mix A τ)) Q := by
  have hb := gTK_b h.1
  obtain ⟨hl, hq, h8, hbg, e6⟩ := hb
  have hf := RL_f h
  obtain ⟨hbk, hnv, ⟨e70, n0, n60⟩, ⟨e71, s0, s16⟩, ⟨e76, F0, Fn⟩, ⟨e78, S0, Sn⟩, ⟨e47, d0, d4⟩, ⟨e11, e12⟩, e74, hNN, hin⟩ := hf
  have tk := h.1.2.2.2
  subst e11; subst e12
  refine ⟨(zup (adv τ) 467 4 (-1000 - ((adv τ) 467 6))), (frX_up (by decide) (frX_adv frX_refl)), (by
      show -1000 - adv τ 467 6 = _
      rw [(gTK_b (E_adv h (by omega)).1).2.2.2.2]), fun d P A Q y4 k => ?_⟩
  exact pl_ge_r l (by first | assumption | omega) (by first | assumption | omega) (by first | assumption | omega) (by first | assumption | omega)
    (fun q q1 => False.elim (by
      exact absurd ((tk_sg (E_adv h (by omega)).1.2.2.2 (c := 125) (by decide)).mp q1) hs1))
    (fun q => False.elim (by
      exact absurd ((tk_sg tk (c := 59) (by decide)).mpr hs) q))
    (fun q q1 => k)
set_option maxRecDepth 100000 in
theorem R_pl_pv {l : Int} (h : (RL b now tx N so st va i v nm nf ns nl dep op br cN cP cO sI sL sM fN fL fP fF fS fG K TG FI SE TH SI DP BR WE MI EN AR LA g gg c τ)) (hs : so i = -2) (ok : vOK nm (va i) v) : ∃ τ' : Nat → Int → Int, ((RL b now tx N so st va i (vN nm (va i) v) (vRw nm (va i) v) nf ns nl dep op br cN cP cO sI sL sM fN fL fP fF fS fG K TG FI SE TH SI DP BR WE MI EN AR LA g gg c τ')) ∧ (frX b (fF now) (fS now) now τ τ') ∧ (vV (τ 500) (τ 467 10) (τ 474 (8 * τ 467 11 + τ 467 12)) = vV nm (va i) v) ∧ ∀ (d : Nat) (P : Nat → Nat → Nat) (A : Nat → Int → Int) (Q : zQ) (y4 : Option zV), (WP (d + 31) 62 0 0 240 [some (vR 467), some (vI 0), some (vI 0), some (vI l), some (vI (vV (τ 500) (τ 467 10) (τ 474 (8 * (τ 467 11) + (τ 467 12)))))] [] (zS P (mix A τ')) Q) → WP (d + 31) 62 0 0 134 [some (vR 467), some (vI 0), some (vI 0), some (vI l), y4] [] (zS P (mix A τ)) Q := by
  have hb := gTK_b h.1
  obtain ⟨hl, hq, h8, hbg, e6⟩ := hb
  have hf := RL_f h
  obtain ⟨hbk, hnv, ⟨e70, n0, n60⟩, ⟨e71, s0, s16⟩, ⟨e76, F0, Fn⟩, ⟨e78, S0, Sn⟩, ⟨e47, d0, d4⟩, ⟨e11, e12⟩, e74, hNN, hin⟩ := hf
  have tk := h.1.2.2.2
  subst e11; subst e12
  have tn := (tk_name tk).1.mpr hs
  have ew := ((tk_name tk).2 hs).1
  have tv := gVA_v h.2.2.1 (va i)
  refine ⟨(zrow (zrow τ 474 (zs (τ 474) (8 * (τ 467 11) + (τ 467 12)) (vN (τ 500) (τ 467 10) (τ 474 (8 * (τ 467 11) + (τ 467 12)))))) 500 (vRw (τ 500) (τ 467 10) (τ 474 (8 * (τ 467 11) + (τ 467 12))))), (by
      rw [ew]
      exact E_vn h ok), (frX_nm (by decide) (frX_fn (by decide) (fun j q => (zs_neg (by omega))) frX_refl)), (by
      rw [ew]; exact tv.2), fun d P A Q y4 k => ?_⟩
  exact pl_pv_r l (by first | assumption | omega) (by first | assumption | omega) (by first | assumption | omega)
    (fun q => k)
    (fun q => False.elim (by
      rw [ew] at q; exact absurd (tv.1.mpr ok) q))
set_option maxRecDepth 100000 in
theorem R_pl_pv_f {l : Int} (h : (RL b now tx N so st va i v nm nf ns nl dep op br cN cP cO sI sL sM fN fL fP fF fS fG K TG FI SE TH SI DP BR WE MI EN AR LA g gg c τ)) (hs : so i = -2) (no : ¬ vOK nm (va i) v) : ∃ τ' : Nat → Int → Int, (frX b (fF now) (fS now) now τ τ') ∧ (τ' 467 4 = -4000 - st i) ∧ ∀ (d : Nat) (P : Nat → Nat → Nat) (A : Nat → Int → Int) (Q : zQ) (y4 : Option zV), (Q (zS P (mix A τ')) (some (vI 0))) → WP (d + 31) 62 0 0 134 [some (vR 467), some (vI 0), some (vI 0), some (vI l), y4] [] (zS P (mix A τ)) Q := by
  have hb := gTK_b h.1
  obtain ⟨hl, hq, h8, hbg, e6⟩ := hb
  have hf := RL_f h
  obtain ⟨hbk, hnv, ⟨e70, n0, n60⟩, ⟨e71, s0, s16⟩, ⟨e76, F0, Fn⟩, ⟨e78, S0, Sn⟩, ⟨e47, d0, d4⟩, ⟨e11, e12⟩, e74, hNN, hin⟩ := hf
  have tk := h.1.2.2.2
  subst e11; subst e12
  have tn := (tk_name tk).1.mpr hs
  have ew := ((tk_name tk).2 hs).1
  have tv := gVA_v h.2.2.1 (va i)
  refine ⟨(zup τ 467 4 (-4000 - (τ 467 6))), (frX_up (by decide) frX_refl), (by
      show -4000 - τ 467 6 = _
      rw [e6]), fun d P A Q y4 k => ?_⟩
  exact pl_pv_r l (by first | assumption | omega) (by first | assumption | omega) (by first | assumption | omega)
    (fun q => False.elim (by
      rw [ew] at q; exact absurd (tv.1.mp q) no))
    (fun q => k)
set_option maxRecDepth 100000 in
theorem R_pl_px {l : Int} {x : Int} {n : Int} (h : (RL b now tx N so st va i v nm nf ns nl dep op br cN cP cO sI sL sM fN fL fP fF fS fG K TG FI SE TH SI DP BR WE MI EN AR LA g gg c τ)) (hc : c ≤ n) (hl0 : l = 60 * b + n) (hn0 : fF now ≤ n ∧ n < 60) (hne : ¬ so i = -1) : ∃ τ' : Nat → Int → Int, ((RL b now tx N so st va (i + 1) v nm nf ns nl dep op br cN cP cO sI sL sM fN fL fP fF fS fG K (zs TG n x) FI SE TH SI DP BR WE MI EN AR LA g gg c τ')) ∧ (frX b (fF now) (fS now) now τ τ') ∧ ∀ (d : Nat) (P : Nat → Nat → Nat) (A : Nat → Int → Int) (Q : zQ), (WP (d + 31) 62 0 0 252 [some (vR 467), some (vI 0), some (vI 0), some (vI l), some (vI x)] [] (zS P (mix A τ')) Q) → WP (d + 31) 62 0 0 240 [some (vR 467), some (vI 0), some (vI 0), some (vI l), some (vI x)] [] (zS P (mix A τ)) Q := by
  have hb := gTK_b h.1
  obtain ⟨hl, hq, h8, hbg, e6⟩ := hb
  have hf := RL_f h
  obtain ⟨hbk, hnv, ⟨e70, n0, n60⟩, ⟨e71, s0, s16⟩, ⟨e76, F0, Fn⟩, ⟨e78, S0, Sn⟩, ⟨e47, d0, d4⟩, ⟨e11, e12⟩, e74, hNN, hin⟩ := hf
  have tk := h.1.2.2.2
  subst e11; subst e12
  refine ⟨(zrow (adv τ) 481 (zs (τ 481) l x)), (by
      exact E_tg (E_adv h hne) hc hl0), (frX_ln (by decide) (fun j q => (zs_neg (by omega))) (frX_adv frX_refl)), fun d P A Q k => ?_⟩
  exact pl_px_r l x (by first | assumption | omega) (by first | assumption | omega) (by first | assumption | omega) (by first | assumption | omega)
    (k)
set_option maxRecDepth 100000 in
theorem R_closes_0 (h : (RL b now tx N so st va i v nm nf ns nl dep op br cN cP cO sI sL sM fN fL fP fF fS fG K TG FI SE TH SI DP BR WE MI EN AR LA g gg c τ)) (hd : dep = 0) (hs : so i = 125) : ∃ τ' : Nat → Int → Int, (((RL b now tx N so st va (i + 1) v nm nf ns nl dep op br cN cP cO sI sL sM fN fL fP fF fS fG K TG FI SE TH SI DP BR WE MI EN AR LA g gg c (zup τ' 467 47 1)) ∧ τ' 467 47 = 0)) ∧ (frX b (fF now) (fS now) now τ τ') ∧ ∀ (d : Nat) (P : Nat → Nat → Nat) (A : Nat → Int → Int) (Q : zQ), (Q (zS P (mix A τ')) (some (vI 1))) → WC (d + 4) 63 [vR 467] (zS P (mix A τ)) Q := by
  have hb := gTK_b h.1
  obtain ⟨hl, hq, h8, hbg, e6⟩ := hb
  have hf := RL_f h
  obtain ⟨hbk, hnv, ⟨e70, n0, n60⟩, ⟨e71, s0, s16⟩, ⟨e76, F0, Fn⟩, ⟨e78, S0, Sn⟩, ⟨e47, d0, d4⟩, ⟨e11, e12⟩, e74, hNN, hin⟩ := hf
  have tk := h.1.2.2.2
  subst e11; subst e12
  have ew : τ 467 47 - 1 = dep := by omega
  have hl1 : τ 501 (τ 467 47 - 1) = -1 ∧ dep = 0 ∨ (1 ≤ dep ∧ τ 501 (τ 467 47 - 1) = 60 * τ 467 11 + op dep ∧ τ 502 (τ 467 47 - 1) = br dep ∧ fF (τ 467 12) ≤ op dep ∧ op dep < nl ∧ 0 ≤ τ 488 (60 * τ 467 11 + op dep) ∧ τ 488 (60 * τ 467 11 + op dep) ≤ 60 ∧ τ 480 (60 * τ 467 11 + op dep) = K (op dep)) := by
    rw [ew]
    by_cases e : dep = 0
    · left; rw [e]; exact ⟨h.2.2.2.2.2.1.2.2.1, rfl⟩
    · right
      have z := h.2.2.2.2.2.1.2.2.2 dep (by omega) (Int.le_refl _)
      have y := h.2.2.2.2.1.2.1 dep (by omega) (Int.le_refl _)
      have k0 := h.2.2.2.1.1 (op dep) (by have := y.1; omega) y.1.2
      have i1 := gST_in h.2.2.2.2.1 (j := dep) (by omega) (Int.le_refl _)
      have t : 0 ≤ τ 488 (60 * τ 467 11 + op dep) ∧ τ 488 (60 * τ 467 11 + op dep) ≤ 60 := by
        rcases y.2.2.1 with q | q
        · have := (y.2.2.2.2.1 q).2; omega
        · have e1 : stL (fF (τ 467 12)) op br (τ 488) (60 * τ 467 11) dep = op dep + 1 + τ 488 (60 * τ 467 11 + op dep) := (if_neg e).trans (if_neg (by omega))
          have := (y.2.2.2.2.2.1 q).2.2.1
          rw [enL_dep] at i1
          have := y.1
          omega
      have := y.1
      exact ⟨by omega, z.2.1, z.2.2, by omega, by omega, t.1, t.2, k0.symm⟩
  refine ⟨(zup (adv τ) 467 47 ((τ 467 47) - 1)), (by
      exact ⟨E_47 (E_adv h (by omega)) hd, by show τ 467 47 - 1 = 0; omega⟩), (frX_up (by decide) (frX_adv frX_refl)), fun d P A Q k => ?_⟩
  exact closes_a_r  (by first | assumption | omega) (by first | assumption | omega) (by first | assumption | omega) (by first | assumption | omega) (by first | assumption | omega) (by omega) (by rcases hl1 with z | z <;> omega) (fun z => by
    rcases hl1 with y | y
    · exact absurd y.1 z
    · rw [y.2.1]; omega)
    (fun q => k)
    (fun q q1 => False.elim (by
      omega))
    (fun q q1 q2 => False.elim (by
      omega))
    (fun q q1 q2 q3 => False.elim (by
      omega))
    (fun q q1 q2 q3 => False.elim (by
      omega))
    (fun q => False.elim (by
      exact absurd q (by decide)))
set_option maxRecDepth 100000 in
theorem R_closes_1 (h : (RL b now tx N so st va i v nm nf ns nl dep op br cN cP cO sI sL sM fN fL fP fF fS fG K TG FI SE TH SI DP BR WE MI EN AR LA g gg c τ)) (hd : 1 ≤ dep) (hs : so i = 125) (hb1 : br dep = 1) : ∃ τ' : Nat → Int → Int, ((RL b now tx N so st va (i + 1) v nm nf ns nl (dep - 1) op br cN cP cO sI sL sM fN fL fP fF fS fG K TG FI SE TH SI DP BR WE MI EN AR LA g gg c τ')) ∧ (frX b (fF now) (fS now) now τ τ') ∧ ∀ (d : Nat) (P : Nat → Nat → Nat) (A : Nat → Int → Int) (Q : zQ), (Q (zS P (mix A τ')) (some (vI 1))) → WC (d + 4) 63 [vR 467] (zS P (mix A τ)) Q := by
  have hb := gTK_b h.1
  obtain ⟨hl, hq, h8, hbg, e6⟩ := hb
  have hf := RL_f h
  obtain ⟨hbk, hnv, ⟨e70, n0, n60⟩, ⟨e71, s0, s16⟩, ⟨e76, F0, Fn⟩, ⟨e78, S0, Sn⟩, ⟨e47, d0, d4⟩, ⟨e11, e12⟩, e74, hNN, hin⟩ := hf
  have tk := h.1.2.2.2
  subst e11; subst e12
  have ew : τ 467 47 - 1 = dep := by omega
  have hl1 : τ 501 (τ 467 47 - 1) = -1 ∧ dep = 0 ∨ (1 ≤ dep ∧ τ 501 (τ 467 47 - 1) = 60 * τ 467 11 + op dep ∧ τ 502 (τ 467 47 - 1) = br dep ∧ fF (τ 467 12) ≤ op dep ∧ op dep < nl ∧ 0 ≤ τ 488 (60 * τ 467 11 + op dep) ∧ τ 488 (60 * τ 467 11 + op dep) ≤ 60 ∧ τ 480 (60 * τ 467 11 + op dep) = K (op dep)) := by
    rw [ew]
    by_cases e : dep = 0
    · left; rw [e]; exact ⟨h.2.2.2.2.2.1.2.2.1, rfl⟩
    · right
      have z := h.2.2.2.2.2.1.2.2.2 dep (by omega) (Int.le_refl _)
      have y := h.2.2.2.2.1.2.1 dep (by omega) (Int.le_refl _)
      have k0 := h.2.2.2.1.1 (op dep) (by have := y.1; omega) y.1.2
      have i1 := gST_in h.2.2.2.2.1 (j := dep) (by omega) (Int.le_refl _)
      have t : 0 ≤ τ 488 (60 * τ 467 11 + op dep) ∧ τ 488 (60 * τ 467 11 + op dep) ≤ 60 := by
        rcases y.2.2.1 with q | q
        · have := (y.2.2.2.2.1 q).2; omega
        · have e1 : stL (fF (τ 467 12)) op br (τ 488) (60 * τ 467 11) dep = op dep + 1 + τ 488 (60 * τ 467 11 + op dep) := (if_neg e).trans (if_neg (by omega))
          have := (y.2.2.2.2.2.1 q).2.2.1
          rw [enL_dep] at i1
          have := y.1
          omega
      have := y.1
      exact ⟨by omega, z.2.1, z.2.2, by omega, by omega, t.1, t.2, k0.symm⟩
  have hd1 : 1 ≤ dep ∧ τ 501 (τ 467 47 - 1) = 60 * τ 467 11 + op dep ∧ τ 502 (τ 467 47 - 1) = br dep ∧ fF (τ 467 12) ≤ op dep ∧ op dep < nl ∧ 0 ≤ τ 488 (60 * τ 467 11 + op dep) ∧ τ 488 (60 * τ 467 11 + op dep) ≤ 60 ∧ τ 480 (60 * τ 467 11 + op dep) = K (op dep) := by
    rcases hl1 with y | y
    · omega
    · exact y
  refine ⟨(zup (zrow (adv τ) 489 (zs (τ 489) (τ 501 ((τ 467 47) - 1)) (60 * (τ 467 11) + (τ 470 (τ 467 11)) - (τ 501 ((τ 467 47) - 1)) - (τ 488 (τ 501 ((τ 467 47) - 1))) - 1))) 467 47 ((τ 467 47) - 1)), (by
      exact E_close1 (E_adv h (by omega)) hd (show ¬ τ 502 (τ 467 47 - 1) = 0 by rw [hd1.2.2.1]; omega)), (frX_up (by decide) (frX_ln (by decide) (fun j q => (zs_neg (by omega))) (frX_adv frX_refl))), fun d P A Q k => ?_⟩
  exact closes_a_r  (by first | assumption | omega) (by first | assumption | omega) (by first | assumption | omega) (by first | assumption | omega) (by first | assumption | omega) (by omega) (by rcases hl1 with z | z <;> omega) (fun z => by
    rcases hl1 with y | y
    · exact absurd y.1 z
    · rw [y.2.1]; omega)
    (fun q => False.elim (by
      omega))
    (fun q q1 => k)
    (fun q q1 q2 => False.elim (by
      omega))
    (fun q q1 q2 q3 => False.elim (by
      omega))
    (fun q q1 q2 q3 => False.elim (by
      omega))
    (fun q => False.elim (by
      exact absurd q (by decide)))
set_option maxRecDepth 100000 in
theorem R_closes_2 (h : (RL b now tx N so st va i v nm nf ns nl dep op br cN cP cO sI sL sM fN fL fP fF fS fG K TG FI SE TH SI DP BR WE MI EN AR LA g gg c τ)) (hd : 1 ≤ dep) (hs : so i = 125) (hb0 : br dep = 0) (hno : ¬ (K (op dep) = 7 ∧ so (i + 1) = -7)) : ∃ τ' : Nat → Int → Int, ((RL b now tx N so st va (i + 1) v nm nf ns nl (dep - 1) op br cN cP cO sI sL sM fN fL fP fF fS fG K TG FI SE TH SI DP BR WE MI EN AR LA g gg c τ')) ∧ (frX b (fF now) (fS now) now τ τ') ∧ ∀ (d : Nat) (P : Nat → Nat → Nat) (A : Nat → Int → Int) (Q : zQ), (Q (zS P (mix A τ')) (some (vI 1))) → WC (d + 4) 63 [vR 467] (zS P (mix A τ)) Q := by
  have hb := gTK_b h.1
  obtain ⟨hl, hq, h8, hbg, e6⟩ := hb
  have hf := RL_f h
  obtain ⟨hbk, hnv, ⟨e70, n0, n60⟩, ⟨e71, s0, s16⟩, ⟨e76, F0, Fn⟩, ⟨e78, S0, Sn⟩, ⟨e47, d0, d4⟩, ⟨e11, e12⟩, e74, hNN, hin⟩ := hf
  have tk := h.1.2.2.2
  subst e11; subst e12
  have ew : τ 467 47 - 1 = dep := by omega
  have hl1 : τ 501 (τ 467 47 - 1) = -1 ∧ dep = 0 ∨ (1 ≤ dep ∧ τ 501 (τ 467 47 - 1) = 60 * τ 467 11 + op dep ∧ τ 502 (τ 467 47 - 1) = br dep ∧ fF (τ 467 12) ≤ op dep ∧ op dep < nl ∧ 0 ≤ τ 488 (60 * τ 467 11 + op dep) ∧ τ 488 (60 * τ 467 11 + op dep) ≤ 60 ∧ τ 480 (60 * τ 467 11 + op dep) = K (op dep)) := by
    rw [ew]
    by_cases e : dep = 0
    · left; rw [e]; exact ⟨h.2.2.2.2.2.1.2.2.1, rfl⟩
    · right
      have z := h.2.2.2.2.2.1.2.2.2 dep (by omega) (Int.le_refl _)
      have y := h.2.2.2.2.1.2.1 dep (by omega) (Int.le_refl _)
      have k0 := h.2.2.2.1.1 (op dep) (by have := y.1; omega) y.1.2
      have i1 := gST_in h.2.2.2.2.1 (j := dep) (by omega) (Int.le_refl _)
      have t : 0 ≤ τ 488 (60 * τ 467 11 + op dep) ∧ τ 488 (60 * τ 467 11 + op dep) ≤ 60 := by
        rcases y.2.2.1 with q | q
        · have := (y.2.2.2.2.1 q).2; omega
        · have e1 : stL (fF (τ 467 12)) op br (τ 488) (60 * τ 467 11) dep = op dep + 1 + τ 488 (60 * τ 467 11 + op dep) := (if_neg e).trans (if_neg (by omega))
          have := (y.2.2.2.2.2.1 q).2.2.1
          rw [enL_dep] at i1
          have := y.1
          omega
      have := y.1
      exact ⟨by omega, z.2.1, z.2.2, by omega, by omega, t.1, t.2, k0.symm⟩
  have hd1 : 1 ≤ dep ∧ τ 501 (τ 467 47 - 1) = 60 * τ 467 11 + op dep ∧ τ 502 (τ 467 47 - 1) = br dep ∧ fF (τ 467 12) ≤ op dep ∧ op dep < nl ∧ 0 ≤ τ 488 (60 * τ 467 11 + op dep) ∧ τ 488 (60 * τ 467 11 + op dep) ≤ 60 ∧ τ 480 (60 * τ 467 11 + op dep) = K (op dep) := by
    rcases hl1 with y | y
    · omega
    · exact y
  have w1 : adv τ 467 5 = 1 ∧ adv τ 467 10 = 176741 ↔ so (i + 1) = -7 := (tkq_word (E_adv h (by omega)).1.2.2.2).2.2.1
  refine ⟨(zup (zrow (adv τ) 488 (zs (τ 488) (τ 501 ((τ 467 47) - 1)) (60 * (τ 467 11) + (τ 470 (τ 467 11)) - (τ 501 ((τ 467 47) - 1)) - 1))) 467 47 ((τ 467 47) - 1)), (by
      exact E_close2 (E_adv h (by omega)) hd (show τ 502 (τ 467 47 - 1) = 0 by rw [hd1.2.2.1]; omega)), (frX_up (by decide) (frX_ln (by decide) (fun j q => (zs_neg (by omega))) (frX_adv frX_refl))), fun d P A Q k => ?_⟩
  exact closes_a_r  (by first | assumption | omega) (by first | assumption | omega) (by first | assumption | omega) (by first | assumption | omega) (by first | assumption | omega) (by omega) (by rcases hl1 with z | z <;> omega) (fun z => by
    rcases hl1 with y | y
    · exact absurd y.1 z
    · rw [y.2.1]; omega)
    (fun q => False.elim (by
      omega))
    (fun q q1 => False.elim (by
      omega))
    (fun q q1 q2 => k)
    (fun q q1 q2 q3 => False.elim (by
      (rw [hd1.2.1, hd1.2.2.2.2.2.2.2] at q2; exact hno ⟨q2.1, w1.mp q2.2⟩)))
    (fun q q1 q2 q3 => False.elim (by
      (rw [hd1.2.1, hd1.2.2.2.2.2.2.2] at q2; exact hno ⟨q2.1, w1.mp q2.2⟩)))
    (fun q => False.elim (by
      exact absurd q (by decide)))
set_option maxRecDepth 100000 in
theorem R_closes_3 (h : (RL b now tx N so st va i v nm nf ns nl dep op br cN cP cO sI sL sM fN fL fP fF fS fG K TG FI SE TH SI DP BR WE MI EN AR LA g gg c τ)) (hd : 1 ≤ dep) (hs : so i = 125) (hb0 : br dep = 0) (hK7 : K (op dep) = 7) (hs1 : so (i + 1) = -7) (hs2 : so (i + 1 + 1) = 123) : ∃ τ' : Nat → Int → Int, ((RL b now tx N so st va (i + 1 + 1 + 1) v nm nf ns nl (dep - 1 + 1) (zs op (dep - 1 + 1) (op dep)) (zs br (dep - 1 + 1) 1) cN cP cO sI sL sM fN fL fP fF fS fG K TG FI SE TH SI DP BR (zs WE (op dep) 1) MI EN AR LA g gg c τ')) ∧ (frX b (fF now) (fS now) now τ τ') ∧ ∀ (d : Nat) (P : Nat → Nat → Nat) (A : Nat → Int → Int) (Q : zQ), (Q (zS P (mix A τ')) (some (vI 1))) → WC (d + 4) 63 [vR 467] (zS P (mix A τ)) Q := by
  have hb := gTK_b h.1
  obtain ⟨hl, hq, h8, hbg, e6⟩ := hb
  have hf := RL_f h
  obtain ⟨hbk, hnv, ⟨e70, n0, n60⟩, ⟨e71, s0, s16⟩, ⟨e76, F0, Fn⟩, ⟨e78, S0, Sn⟩, ⟨e47, d0, d4⟩, ⟨e11, e12⟩, e74, hNN, hin⟩ := hf
  have tk := h.1.2.2.2
  subst e11; subst e12
  have ew : τ 467 47 - 1 = dep := by omega
  have hl1 : τ 501 (τ 467 47 - 1) = -1 ∧ dep = 0 ∨ (1 ≤ dep ∧ τ 501 (τ 467 47 - 1) = 60 * τ 467 11 + op dep ∧ τ 502 (τ 467 47 - 1) = br dep ∧ fF (τ 467 12) ≤ op dep ∧ op dep < nl ∧ 0 ≤ τ 488 (60 * τ 467 11 + op dep) ∧ τ 488 (60 * τ 467 11 + op dep) ≤ 60 ∧ τ 480 (60 * τ 467 11 + op dep) = K (op dep)) := by
    rw [ew]
    by_cases e : dep = 0
    · left; rw [e]; exact ⟨h.2.2.2.2.2.1.2.2.1, rfl⟩
    · right
      have z := h.2.2.2.2.2.1.2.2.2 dep (by omega) (Int.le_refl _)
      have y := h.2.2.2.2.1.2.1 dep (by omega) (Int.le_refl _)
      have k0 := h.2.2.2.1.1 (op dep) (by have := y.1; omega) y.1.2
      have i1 := gST_in h.2.2.2.2.1 (j := dep) (by omega) (Int.le_refl _)
      have t : 0 ≤ τ 488 (60 * τ 467 11 + op dep) ∧ τ 488 (60 * τ 467 11 + op dep) ≤ 60 := by
        rcases y.2.2.1 with q | q
        · have := (y.2.2.2.2.1 q).2; omega
        · have e1 : stL (fF (τ 467 12)) op br (τ 488) (60 * τ 467 11) dep = op dep + 1 + τ 488 (60 * τ 467 11 + op dep) := (if_neg e).trans (if_neg (by omega))
          have := (y.2.2.2.2.2.1 q).2.2.1
          rw [enL_dep] at i1
          have := y.1
          omega
      have := y.1
      exact ⟨by omega, z.2.1, z.2.2, by omega, by omega, t.1, t.2, k0.symm⟩
  have hd1 : 1 ≤ dep ∧ τ 501 (τ 467 47 - 1) = 60 * τ 467 11 + op dep ∧ τ 502 (τ 467 47 - 1) = br dep ∧ fF (τ 467 12) ≤ op dep ∧ op dep < nl ∧ 0 ≤ τ 488 (60 * τ 467 11 + op dep) ∧ τ 488 (60 * τ 467 11 + op dep) ≤ 60 ∧ τ 480 (60 * τ 467 11 + op dep) = K (op dep) := by
    rcases hl1 with y | y
    · omega
    · exact y
  have w1 : adv τ 467 5 = 1 ∧ adv τ 467 10 = 176741 ↔ so (i + 1) = -7 := (tkq_word (E_adv h (by omega)).1.2.2.2).2.2.1
  have a1 := E_adv h (by omega)
  have a2 := E_adv a1 (by omega)
  have g3 := tk_sg a2.1.2.2.2 (c := 123) (by decide)
  refine ⟨(zup (zrow (zrow (zrow (zrow (adv (adv (adv τ))) 488 (zs (τ 488) (τ 501 ((τ 467 47) - 1)) (60 * (τ 467 11) + (τ 470 (τ 467 11)) - (τ 501 ((τ 467 47) - 1)) - 1))) 491 (zs (τ 491) (τ 501 ((τ 467 47) - 1)) 1)) 501 (zs (τ 501) ((τ 467 47) - 1) (τ 501 ((τ 467 47) - 1)))) 502 (zs (τ 502) ((τ 467 47) - 1) 1)) 467 47 (((τ 467 47) - 1) + 1)), (by
      exact E_else (E_adv a2 (by omega)) hd (show τ 502 (τ 467 47 - 1) = 0 by rw [hd1.2.2.1]; omega) (show τ 480 (τ 501 (τ 467 47 - 1)) = 7 by rw [hd1.2.1, hd1.2.2.2.2.2.2.2]; exact hK7)), (frX_up (by decide) (frX_nm (by decide) (frX_nm (by decide) (frX_ln (by decide) (fun j q => (zs_neg (by omega))) (frX_ln (by decide) (fun j q => (zs_neg (by omega))) (frX_adv (frX_adv (frX_adv frX_refl)))))))), fun d P A Q k => ?_⟩
  exact closes_a_r  (by first | assumption | omega) (by first | assumption | omega) (by first | assumption | omega) (by first | assumption | omega) (by first | assumption | omega) (by omega) (by rcases hl1 with z | z <;> omega) (fun z => by
    rcases hl1 with y | y
    · exact absurd y.1 z
    · rw [y.2.1]; omega)
    (fun q => False.elim (by
      omega))
    (fun q q1 => False.elim (by
      omega))
    (fun q q1 q2 => False.elim (by
      exact absurd ⟨(by rw [hd1.2.1, hd1.2.2.2.2.2.2.2]; exact hK7), w1.mpr hs1⟩ q2))
    (fun q q1 q2 q3 => k)
    (fun q q1 q2 q3 => False.elim (by
      exact absurd (g3.mpr hs2) q3))
    (fun q => False.elim (by
      exact absurd q (by decide)))
set_option maxRecDepth 100000 in
theorem R_closes_4 (h : (RL b now tx N so st va i v nm nf ns nl dep op br cN cP cO sI sL sM fN fL fP fF fS fG K TG FI SE TH SI DP BR WE MI EN AR LA g gg c τ)) (hd : 1 ≤ dep) (hs : so i = 125) (hb0 : br dep = 0) (hK7 : K (op dep) = 7) (hs1 : so (i + 1) = -7) (hs2 : ¬ so (i + 1 + 1) = 123) : ∃ τ' : Nat → Int → Int, (frX b (fF now) (fS now) now τ τ') ∧ (τ' 467 4 = -1000 - st (i + 1 + 1)) ∧ ∀ (d : Nat) (P : Nat → Nat → Nat) (A : Nat → Int → Int) (Q : zQ), (Q (zS P (mix A τ')) (some (vI 0))) → WC (d + 4) 63 [vR 467] (zS P (mix A τ)) Q := by
  have hb := gTK_b h.1
  obtain ⟨hl, hq, h8, hbg, e6⟩ := hb
  have hf := RL_f h
  obtain ⟨hbk, hnv, ⟨e70, n0, n60⟩, ⟨e71, s0, s16⟩, ⟨e76, F0, Fn⟩, ⟨e78, S0, Sn⟩, ⟨e47, d0, d4⟩, ⟨e11, e12⟩, e74, hNN, hin⟩ := hf
  have tk := h.1.2.2.2
  subst e11; subst e12
  have ew : τ 467 47 - 1 = dep := by omega
  have hl1 : τ 501 (τ 467 47 - 1) = -1 ∧ dep = 0 ∨ (1 ≤ dep ∧ τ 501 (τ 467 47 - 1) = 60 * τ 467 11 + op dep ∧ τ 502 (τ 467 47 - 1) = br dep ∧ fF (τ 467 12) ≤ op dep ∧ op dep < nl ∧ 0 ≤ τ 488 (60 * τ 467 11 + op dep) ∧ τ 488 (60 * τ 467 11 + op dep) ≤ 60 ∧ τ 480 (60 * τ 467 11 + op dep) = K (op dep)) := by
    rw [ew]
    by_cases e : dep = 0
    · left; rw [e]; exact ⟨h.2.2.2.2.2.1.2.2.1, rfl⟩
    · right
      have z := h.2.2.2.2.2.1.2.2.2 dep (by omega) (Int.le_refl _)
      have y := h.2.2.2.2.1.2.1 dep (by omega) (Int.le_refl _)
      have k0 := h.2.2.2.1.1 (op dep) (by have := y.1; omega) y.1.2
      have i1 := gST_in h.2.2.2.2.1 (j := dep) (by omega) (Int.le_refl _)
      have t : 0 ≤ τ 488 (60 * τ 467 11 + op dep) ∧ τ 488 (60 * τ 467 11 + op dep) ≤ 60 := by
        rcases y.2.2.1 with q | q
        · have := (y.2.2.2.2.1 q).2; omega
        · have e1 : stL (fF (τ 467 12)) op br (τ 488) (60 * τ 467 11) dep = op dep + 1 + τ 488 (60 * τ 467 11 + op dep) := (if_neg e).trans (if_neg (by omega))
          have := (y.2.2.2.2.2.1 q).2.2.1
          rw [enL_dep] at i1
          have := y.1
          omega
      have := y.1
      exact ⟨by omega, z.2.1, z.2.2, by omega, by omega, t.1, t.2, k0.symm⟩
  have hd1 : 1 ≤ dep ∧ τ 501 (τ 467 47 - 1) = 60 * τ 467 11 + op dep ∧ τ 502 (τ 467 47 - 1) = br dep ∧ fF (τ 467 12) ≤ op dep ∧ op dep < nl ∧ 0 ≤ τ 488 (60 * τ 467 11 + op dep) ∧ τ 488 (60 * τ 467 11 + op dep) ≤ 60 ∧ τ 480 (60 * τ 467 11 + op dep) = K (op dep) := by
    rcases hl1 with y | y
    · omega
    · exact y
  have w1 : adv τ 467 5 = 1 ∧ adv τ 467 10 = 176741 ↔ so (i + 1) = -7 := (tkq_word (E_adv h (by omega)).1.2.2.2).2.2.1
  have a1 := E_adv h (by omega)
  have a2 := E_adv a1 (by omega)
  have g3 := tk_sg a2.1.2.2.2 (c := 123) (by decide)
  refine ⟨(zup (zup (zrow (zrow (adv (adv τ)) 488 (zs (τ 488) (τ 501 ((τ 467 47) - 1)) (60 * (τ 467 11) + (τ 470 (τ 467 11)) - (τ 501 ((τ 467 47) - 1)) - 1))) 491 (zs (τ 491) (τ 501 ((τ 467 47) - 1)) 1)) 467 4 (-1000 - ((adv (adv τ)) 467 6))) 467 47 ((τ 467 47) - 1)), (frX_up (by decide) (frX_up (by decide) (frX_ln (by decide) (fun j q => (zs_neg (by omega))) (frX_ln (by decide) (fun j q => (zs_neg (by omega))) (frX_adv (frX_adv frX_refl)))))), (by
      show -1000 - adv (adv τ) 467 6 = _
      rw [(gTK_b a2.1).2.2.2.2]), fun d P A Q k => ?_⟩
  exact closes_a_r  (by first | assumption | omega) (by first | assumption | omega) (by first | assumption | omega) (by first | assumption | omega) (by first | assumption | omega) (by omega) (by rcases hl1 with z | z <;> omega) (fun z => by
    rcases hl1 with y | y
    · exact absurd y.1 z
    · rw [y.2.1]; omega)
    (fun q => False.elim (by
      omega))
    (fun q q1 => False.elim (by
      omega))
    (fun q q1 q2 => False.elim (by
      exact absurd ⟨(by rw [hd1.2.1, hd1.2.2.2.2.2.2.2]; exact hK7), w1.mpr hs1⟩ q2))
    (fun q q1 q2 q3 => False.elim (by
      exact absurd (g3.mp q3) hs2))
    (fun q q1 q2 q3 => k)
    (fun q => False.elim (by
      exact absurd q (by decide)))
end
