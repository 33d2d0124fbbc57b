/-! Both readers together: rj -/
section
variable {b : Int} {now : Int} {tx : Int → Int} {N : Int} {so : Int → Int} {st : Int → Int} {va : Int → Int} {i : Int} {v : Int} {nm : Int → Int} {nf : Int} {ns : Int} {nl : Int} {dep : Int} {op : Int → Int} {br : Int → Int} {cN : Int → Int} {cP : Int → Int} {cO : Int → Int} {sI : Int → Int} {sL : Int → Int} {sM : Int → Int} {fN : Int → Int} {fL : Int → Int} {fP : Int → Int} {fF : Int → Int} {fS : Int → Int} {fG : Int → Int} {K : Int → Int} {TG : Int → Int} {FI : Int → Int} {SE : Int → Int} {TH : Int → Int} {SI : Int → Int} {DP : Int → Int} {BR : Int → Int} {WE : Int → Int} {MI : Int → Int} {EN : Int → Int} {AR : Int → Int} {LA : Int → Int} {g : Int} {gg : Int} {c : Int} {τ : Nat → Int → Int}
theorem RLh_f (h : (RL b now tx N so st va i v nm nf ns nl dep op br cN cP cO sI sL sM fN fL (zs fP now v) fF fS fG K TG FI SE TH SI DP BR WE MI EN AR LA g gg c (hat τ))) : gTK tx so st va N i (τ 468) (τ 467 3) (τ 467 2) (τ 467 5) (τ 467 6) (τ 467 7) (τ 467 8) (τ 467 9) (τ 467 10) ∧ ((0 ≤ τ 467 11 ∧ τ 467 11 ≤ 1) ∧ 0 ≤ τ 467 12 ∧ τ 467 12 ≤ 7) ∧ (τ 467 11 = b ∧ τ 467 12 = now) ∧ τ 473 (8 * τ 467 11 + τ 467 12) = v ∧ (0 ≤ v ∧ v ≤ 3) ∧ (N ≤ 400 ∧ so N = -1) ∧ (0 ≤ i ∧ i ≤ N) ∧ gVA v nm (τ 500) (τ 474 (8 * τ 467 11 + τ 467 12)) ∧ tkC tx (τ 468) (τ 467 3) N so st va := by
  have f := RL_f h
  obtain ⟨hT, hC, hV, hI, hS, hB, hF, hX, hZ, hN⟩ := h
  obtain ⟨⟨c11, c12⟩, d1, d2, d3, d4, d5, d6, ⟨d7, d7b, d7c, d7d⟩, d8, d9⟩ := hC
  have c11 : τ 467 11 = b := c11
  have c12 : τ 467 12 = now := c12
  have d7 : τ 473 (8 * b + now) = zs fP now v now := d7
  rw [zs_pos rfl] at d7 d7b d7c
  have hV : gVA v nm (τ 500) (τ 474 (8 * b + now)) := hV
  rw [c11, c12]
  exact ⟨hT, ⟨d1.1, d1.2⟩, ⟨rfl, rfl⟩, d7, ⟨d7b, d7c⟩, f.2.2.2.2.2.2.2.2.2.1, f.2.2.2.2.2.2.2.2.2.2, hV, hT.1⟩
theorem E_par (h : (RL b now tx N so st va i v nm nf ns nl dep op br cN cP cO sI sL sM fN fL (zs fP now v) fF fS fG K TG FI SE TH SI DP BR WE MI EN AR LA g gg c (hat τ))) (hs : so i = -2) (hv : v < 3) (hd : fnd nm (va i) v = -1) : (RL b now tx N so st va (i + 1) (v + 1) (zs nm v (va i)) nf ns nl dep op br cN cP cO sI sL sM fN fL (zs fP now (v + 1)) fF fS fG K TG FI SE TH SI DP BR WE MI EN AR LA g gg c (hat (zrow (zrow (zrow (adv τ) 473 (zs (τ 473) (8 * τ 467 11 + τ 467 12) (τ 473 (8 * τ 467 11 + τ 467 12) + 1))) 474 (zs (τ 474) (8 * τ 467 11 + τ 467 12) (τ 473 (8 * τ 467 11 + τ 467 12) + 1))) 500 (zs (τ 500) (τ 473 (8 * τ 467 11 + τ 467 12)) (τ 467 10))))) := by
  have f := RLh_f h
  obtain ⟨ft, fb, ⟨f11, f12⟩, f73, fv, fN, fi, fV, _⟩ := f
  have ew : τ 467 10 = va i := ((tk_name ft.2.2.2).2 hs).1
  have t1 := gTK_adv ft (by omega)
  obtain ⟨hT, hC, hV, hI, hS, hB, hF, hX, hZ, hN⟩ := h
  obtain ⟨⟨c11, c12⟩, d1, d2, d3, d4, d5, d6, d7, d8, d9⟩ := hC
  subst f11 f12
  rw [f73, ew]
  refine ⟨t1, ⟨⟨rfl, rfl⟩, d1, d2, d3, d4, d5, d6, ⟨?_, ?_, ?_, ?_⟩, d8, d9⟩, ⟨by omega, ?_, fun j j0 j1 => ?_⟩, hI, hS, hB, ⟨hF.1, fun l l0 l1 => lk_up (by omega) (hF.2 l l0 l1)⟩, hX, hZ, hN⟩
  · show zs (τ 473) (8 * τ 467 11 + τ 467 12) (v + 1) (8 * τ 467 11 + τ 467 12) = zs fP (τ 467 12) (v + 1) (τ 467 12)
    rw [zs_pos rfl, zs_pos rfl]
  · rw [zs_pos rfl]; omega
  · rw [zs_pos rfl]; omega
  · rw [zs_pos rfl]; exact Int.le_refl _
  · show zs (τ 474) (8 * τ 467 11 + τ 467 12) (v + 1) (8 * τ 467 11 + τ 467 12) = v + 1
    exact zs_pos rfl
  · show zs nm v (va i) j = zs (τ 500) v (va i) j
    by_cases e : j = v
    · rw [zs_pos e, zs_pos e]
    · rw [zs_neg e, zs_neg e]; exact fV.2.2 j j0 (by omega)
theorem E_hat_adv (h : (RL b now tx N so st va i v nm nf ns nl dep op br cN cP cO sI sL sM fN fL (zs fP now v) fF fS fG K TG FI SE TH SI DP BR WE MI EN AR LA g gg c (hat τ))) (hi : ¬ so i = -1) : (RL b now tx N so st va (i + 1) v nm nf ns nl dep op br cN cP cO sI sL sM fN fL (zs fP now v) fF fS fG K TG FI SE TH SI DP BR WE MI EN AR LA g gg c (hat (adv τ))) := by
  have t1 := gTK_adv (τ := τ) h.1 hi
  exact ⟨t1, h.2⟩
theorem frX_par {F' S' : Int} (h : (RL b now tx N so st va i v nm nf ns nl dep op br cN cP cO sI sL sM fN fL (zs fP now v) fF fS fG K TG FI SE TH SI DP BR WE MI EN AR LA g gg c (hat τ))) (hr : ¬ False) : frX b F' S' now τ (zrow (zrow (zrow (adv τ) 473 (zs (τ 473) (8 * τ 467 11 + τ 467 12) (τ 473 (8 * τ 467 11 + τ 467 12) + 1))) 474 (zs (τ 474) (8 * τ 467 11 + τ 467 12) (τ 473 (8 * τ 467 11 + τ 467 12) + 1))) 500 (zs (τ 500) (τ 473 (8 * τ 467 11 + τ 467 12)) (τ 467 10))) := by
  obtain ⟨ft, fb, ⟨f11, f12⟩, _⟩ := RLh_f h
  subst f11 f12
  exact frX_nm (by decide) (frX_fn (by decide) (fun j e => zs_neg e) (frX_fn (by decide) (fun j e => zs_neg e) (frX_adv frX_refl)))
theorem PP1_ok (h : (RL b now tx N so st va i v nm nf ns nl dep op br cN cP cO sI sL sM fN fL (zs fP now v) fF fS fG K TG FI SE TH SI DP BR WE MI EN AR LA g gg c (hat τ))) (h41 : ¬ so i = 41) (hs : so i = -2) (hv : v < 3) (hd : fnd nm (va i) v = -1) (d : Nat) (P : Nat → Nat → Nat) (A : Nat → Int → Int) (Q : zQ) (y1 : Option zV) (k : ∀ y1 : Option zV, WP (d + 32) 55 0 0 253 [some (vR 467), y1] [] (zS P (mix A (zrow (zrow (zrow (adv τ) 473 (zs (τ 473) (8 * τ 467 11 + τ 467 12) (τ 473 (8 * τ 467 11 + τ 467 12) + 1))) 474 (zs (τ 474) (8 * τ 467 11 + τ 467 12) (τ 473 (8 * τ 467 11 + τ 467 12) + 1))) 500 (zs (τ 500) (τ 473 (8 * τ 467 11 + τ 467 12)) (τ 467 10))))) Q) : WP (d + 32) 55 0 0 235 [some (vR 467), y1] [] (zS P (mix A τ)) Q := by
  obtain ⟨ft, fb, ⟨f11, f12⟩, f73, fv, fN, fi, fV, _⟩ := RLh_f h
  have g := gTK_b ft
  have tn := (tk_name ft.2.2.2).1.mpr hs
  have ew : τ 467 10 = va i := ((tk_name ft.2.2.2).2 hs).1
  have fd : fnd (τ 500) (τ 467 10) (τ 473 (8 * τ 467 11 + τ 467 12)) = -1 := by
    rw [f73, ew, ← fnd_cg fv.1 fV.2.2]; exact hd
  exact ph_p1_r (τ := τ) g.1 g.2.1 g.2.2.1 g.2.2.2.1 fb (by rw [f73]; exact fv) (fun z => h41 ((tk_sg ft.2.2.2 (c := 41) (by decide)).mp z)) (fun _ _ _ y1' => k y1') (fun q => absurd tn q) (fun _ q => absurd (by rw [f73]; exact hv) q) (fun _ _ q => by omega)
theorem PP1_f (h : (RL b now tx N so st va i v nm nf ns nl dep op br cN cP cO sI sL sM fN fL (zs fP now v) fF fS fG K TG FI SE TH SI DP BR WE MI EN AR LA g gg c (hat τ))) (h41 : ¬ so i = 41) (no : ¬ prOK (so i) (va i) nm v) : ∃ τ' : Nat → Int → Int, (∀ F' S' : Int, frX b F' S' now τ τ') ∧ τ' 467 4 = -1000 * prF (so i) (va i) nm v - st i ∧ ∀ (d : Nat) (P : Nat → Nat → Nat) (A : Nat → Int → Int) (Q : zQ) (y1 : Option zV), Q (zS P (mix A τ')) (some (vI 0)) → WP (d + 32) 55 0 0 235 [some (vR 467), y1] [] (zS P (mix A τ)) Q := by
  obtain ⟨ft, fb, ⟨f11, f12⟩, f73, fv, fN, fi, fV, _⟩ := RLh_f h
  have g := gTK_b ft
  have e6 := g.2.2.2.2
  have fc := fnd_cg (w := va i) fv.1 fV.2.2
  have fin := fnd_in (r := nm) (w := va i) (m := v) fv.1
  by_cases hs : so i = -2
  · have tn := (tk_name ft.2.2.2).1.mpr hs
    have ew : τ 467 10 = va i := ((tk_name ft.2.2.2).2 hs).1
    have fd : fnd (τ 500) (τ 467 10) (τ 473 (8 * τ 467 11 + τ 467 12)) = fnd nm (va i) v := by rw [f73, ew, fc]
    by_cases hv : v < 3
    · have hd : ¬ fnd nm (va i) v = -1 := fun z => no ⟨hs, hv, z⟩
      refine ⟨_, fun F' S' => frX_up (by decide) frX_refl, ?_, fun d P A Q y1 k => ph_p1_r (τ := τ) g.1 g.2.1 g.2.2.1 g.2.2.2.1 fb (by rw [f73]; exact fv) (fun z => h41 ((tk_sg ft.2.2.2 (c := 41) (by decide)).mp z)) (fun _ _ q => by omega) (fun q => absurd tn q) (fun _ q => absurd (by rw [f73]; exact hv) q) (fun _ _ q => k)⟩
      show -5000 - τ 467 6 = _
      unfold prF
      rw [e6, if_neg (by omega), if_neg (by omega)]; omega
    · refine ⟨_, fun F' S' => frX_up (by decide) frX_refl, ?_, fun d P A Q y1 k => ph_p1_r (τ := τ) g.1 g.2.1 g.2.2.1 g.2.2.2.1 fb (by rw [f73]; exact fv) (fun z => h41 ((tk_sg ft.2.2.2 (c := 41) (by decide)).mp z)) (fun _ q => absurd q (by rw [f73]; exact hv)) (fun q => absurd tn q) (fun _ q => k) (fun _ q => absurd q (by rw [f73]; exact hv))⟩
      show -4000 - τ 467 6 = _
      unfold prF
      rw [e6, if_neg (by omega), if_pos hv]; omega
  · have tn : ¬ (τ 467 5 = 1 ∧ (¬ (τ 467 10 = 6830 ∨ τ 467 10 = 294 ∨ τ 467 10 = 176741 ∨ τ 467 10 = 409072 ∨ τ 467 10 = 239301)) ∧ τ 467 9 ≤ 6) := fun z => hs ((tk_name ft.2.2.2).1.mp z)
    refine ⟨_, fun F' S' => frX_up (by decide) frX_refl, ?_, fun d P A Q y1 k => ph_p1_r (τ := τ) g.1 g.2.1 g.2.2.1 g.2.2.2.1 fb (by rw [f73]; exact fv) (fun z => h41 ((tk_sg ft.2.2.2 (c := 41) (by decide)).mp z)) (fun q => absurd q tn) (fun q => k) (fun q => absurd q tn) (fun q => absurd q tn)⟩
    show -1000 * nmF (τ 467 5) (τ 467 10) - τ 467 6 = _
    unfold prF
    rw [tk_nmF ft.2.2.2 hs, e6, if_pos hs]
theorem PPl_ok (h : (RL b now tx N so st va i v nm nf ns nl dep op br cN cP cO sI sL sM fN fL (zs fP now v) fF fS fG K TG FI SE TH SI DP BR WE MI EN AR LA g gg c (hat τ))) (hs : so i = -2) (hv : v < 3) (hd : fnd nm (va i) v = -1) (d : Nat) (P : Nat → Nat → Nat) (A : Nat → Int → Int) (Q : zQ) (y1 : Option zV) (k : ∀ y1 : Option zV, WP (d + 32) 55 0 0 253 [some (vR 467), y1] [] (zS P (mix A (zrow (zrow (zrow (adv τ) 473 (zs (τ 473) (8 * τ 467 11 + τ 467 12) (τ 473 (8 * τ 467 11 + τ 467 12) + 1))) 474 (zs (τ 474) (8 * τ 467 11 + τ 467 12) (τ 473 (8 * τ 467 11 + τ 467 12) + 1))) 500 (zs (τ 500) (τ 473 (8 * τ 467 11 + τ 467 12)) (τ 467 10))))) Q) : WP (d + 32) 55 0 0 266 [some (vR 467), y1] [] (zS P (mix A τ)) Q := by
  obtain ⟨ft, fb, ⟨f11, f12⟩, f73, fv, fN, fi, fV, _⟩ := RLh_f h
  have g := gTK_b ft
  have tn := (tk_name ft.2.2.2).1.mpr hs
  have ew : τ 467 10 = va i := ((tk_name ft.2.2.2).2 hs).1
  have fd : fnd (τ 500) (τ 467 10) (τ 473 (8 * τ 467 11 + τ 467 12)) = -1 := by
    rw [f73, ew, ← fnd_cg fv.1 fV.2.2]; exact hd
  exact ph_l_r (τ := τ) g.1 g.2.1 g.2.2.1 g.2.2.2.1 fb (by rw [f73]; exact fv) (fun _ _ _ y1' => k y1') (fun q => absurd tn q) (fun _ q => absurd (by rw [f73]; exact hv) q) (fun _ _ q => by omega)
theorem PPl_f (h : (RL b now tx N so st va i v nm nf ns nl dep op br cN cP cO sI sL sM fN fL (zs fP now v) fF fS fG K TG FI SE TH SI DP BR WE MI EN AR LA g gg c (hat τ))) (no : ¬ prOK (so i) (va i) nm v) : ∃ τ' : Nat → Int → Int, (∀ F' S' : Int, frX b F' S' now τ τ') ∧ τ' 467 4 = -1000 * prF (so i) (va i) nm v - st i ∧ ∀ (d : Nat) (P : Nat → Nat → Nat) (A : Nat → Int → Int) (Q : zQ) (y1 : Option zV), Q (zS P (mix A τ')) (some (vI 0)) → WP (d + 32) 55 0 0 266 [some (vR 467), y1] [] (zS P (mix A τ)) Q := by
  obtain ⟨ft, fb, ⟨f11, f12⟩, f73, fv, fN, fi, fV, _⟩ := RLh_f h
  have g := gTK_b ft
  have e6 := g.2.2.2.2
  have fc := fnd_cg (w := va i) fv.1 fV.2.2
  have fin := fnd_in (r := nm) (w := va i) (m := v) fv.1
  by_cases hs : so i = -2
  · have tn := (tk_name ft.2.2.2).1.mpr hs
    have ew : τ 467 10 = va i := ((tk_name ft.2.2.2).2 hs).1
    have fd : fnd (τ 500) (τ 467 10) (τ 473 (8 * τ 467 11 + τ 467 12)) = fnd nm (va i) v := by rw [f73, ew, fc]
    by_cases hv : v < 3
    · have hd : ¬ fnd nm (va i) v = -1 := fun z => no ⟨hs, hv, z⟩
      refine ⟨_, fun F' S' => frX_up (by decide) frX_refl, ?_, fun d P A Q y1 k => ph_l_r (τ := τ) g.1 g.2.1 g.2.2.1 g.2.2.2.1 fb (by rw [f73]; exact fv) (fun _ _ q => by omega) (fun q => absurd tn q) (fun _ q => absurd (by rw [f73]; exact hv) q) (fun _ _ q => k)⟩
      show -5000 - τ 467 6 = _
      unfold prF
      rw [e6, if_neg (by omega), if_neg (by omega)]; omega
    · refine ⟨_, fun F' S' => frX_up (by decide) frX_refl, ?_, fun d P A Q y1 k => ph_l_r (τ := τ) g.1 g.2.1 g.2.2.1 g.2.2.2.1 fb (by rw [f73]; exact fv) (fun _ q => absurd q (by rw [f73]; exact hv)) (fun q => absurd tn q) (fun _ q => k) (fun _ q => absurd q (by rw [f73]; exact hv))⟩
      show -4000 - τ 467 6 = _
      unfold prF
      rw [e6, if_neg (by omega), if_pos hv]; omega
  · have tn : ¬ (τ 467 5 = 1 ∧ (¬ (τ 467 10 = 6830 ∨ τ 467 10 = 294 ∨ τ 467 10 = 176741 ∨ τ 467 10 = 409072 ∨ τ 467 10 = 239301)) ∧ τ 467 9 ≤ 6) := fun z => hs ((tk_name ft.2.2.2).1.mp z)
    refine ⟨_, fun F' S' => frX_up (by decide) frX_refl, ?_, fun d P A Q y1 k => ph_l_r (τ := τ) g.1 g.2.1 g.2.2.1 g.2.2.2.1 fb (by rw [f73]; exact fv) (fun q => absurd q tn) (fun q => k) (fun q => absurd q tn) (fun q => absurd q tn)⟩
    show -1000 * nmF (τ 467 5) (τ 467 10) - τ 467 6 = _
    unfold prF
    rw [tk_nmF ft.2.2.2 hs, e6, if_pos hs]
theorem PPz_ok (h : (RL b now tx N so st va i v nm nf ns nl dep op br cN cP cO sI sL sM fN fL (zs fP now v) fF fS fG K TG FI SE TH SI DP BR WE MI EN AR LA g gg c (hat τ))) (hs : so i = 41) : (∀ F' S' : Int, frX b F' S' now τ (adv τ)) ∧ rHk τ (adv τ) 1 := by
  obtain ⟨ft, _⟩ := RLh_f h
  have g := gTK_b ft
  refine ⟨fun F' S' => frX_adv frX_refl, fun d P A Q y1 k => ph_z_r (τ := τ) g.1 g.2.1 g.2.2.1 g.2.2.2.1 (fun z => by have := (tk_sg ft.2.2.2 (c := 44) (by decide)).mp z; omega) (fun _ => k) (fun q => absurd ((tk_sg ft.2.2.2 (c := 41) (by decide)).mpr hs) q)⟩
theorem PPz_f (h : (RL b now tx N so st va i v nm nf ns nl dep op br cN cP cO sI sL sM fN fL (zs fP now v) fF fS fG K TG FI SE TH SI DP BR WE MI EN AR LA g gg c (hat τ))) (hs : ¬ so i = 41) (hs4 : ¬ so i = 44) : ∃ τ' : Nat → Int → Int, (∀ F' S' : Int, frX b F' S' now τ τ') ∧ τ' 467 4 = -1000 - st i ∧ rHk τ τ' 0 := by
  obtain ⟨ft, _⟩ := RLh_f h
  have g := gTK_b ft
  refine ⟨_, fun F' S' => frX_up (by decide) frX_refl, ?_, fun d P A Q y1 k => ph_z_r (τ := τ) g.1 g.2.1 g.2.2.1 g.2.2.2.1 (fun z => hs4 ((tk_sg ft.2.2.2 (c := 44) (by decide)).mp z)) (fun q => absurd ((tk_sg ft.2.2.2 (c := 41) (by decide)).mp q) hs) (fun _ => k)⟩
  show -1000 - τ 467 6 = _
  rw [g.2.2.2.2]
theorem PPk (h : (RL b now tx N so st va i v nm nf ns nl dep op br cN cP cO sI sL sM fN fL (zs fP now v) fF fS fG K TG FI SE TH SI DP BR WE MI EN AR LA g gg c (hat τ))) (hs : so i = 44) (d : Nat) (P : Nat → Nat → Nat) (A : Nat → Int → Int) (Q : zQ) (y1 : Option zV) (k : ∀ y1 : Option zV, WP (d + 32) 55 0 0 266 [some (vR 467), y1] [] (zS P (mix A (adv τ))) Q) : WP (d + 32) 55 0 0 253 [some (vR 467), y1] [] (zS P (mix A τ)) Q := by
  obtain ⟨ft, _⟩ := RLh_f h
  have g := gTK_b ft
  exact ph_k_r (τ := τ) g.1 g.2.1 g.2.2.1 ((tk_sg ft.2.2.2 (c := 44) (by decide)).mpr hs) k
theorem PP0 (h : (RL b now tx N so st va i v nm nf ns nl dep op br cN cP cO sI sL sM fN fL (zs fP now v) fF fS fG K TG FI SE TH SI DP BR WE MI EN AR LA g gg c (hat τ))) (hs : so i = 41) (d : Nat) (P : Nat → Nat → Nat) (A : Nat → Int → Int) (Q : zQ) (y1 : Option zV) (k : ∀ y1 : Option zV, WP (d + 32) 55 0 0 253 [some (vR 467), y1] [] (zS P (mix A τ)) Q) : WP (d + 32) 55 0 0 235 [some (vR 467), y1] [] (zS P (mix A τ)) Q := by
  obtain ⟨ft, _⟩ := RLh_f h
  exact ph_p0_r (τ := τ) ((tk_sg ft.2.2.2 (c := 41) (by decide)).mpr hs) k
end
