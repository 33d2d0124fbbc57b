/-! What the steps of reading do to it -/
theorem cL_ch {dp br mi en ar la : Int → Int} {n : Int} (h : cL dp br mi en ar la n) : ∀ i : Int, 0 ≤ i → i < n → 0 ≤ dp i ∧ (0 < dp i → 0 ≤ ar i ∧ ar i < i ∧ dp (ar i) = dp i - 1) := fun i a b => ⟨(h.2.1 i a b).1.1.1, (h.2.1 i a b).2.1⟩
section
variable {b : Int} {now : Int} {tx : Int → Int} {N : Int} {so : Int → Int} {st : Int → Int} {va : Int → Int} {i : Int} {v : Int} {nm : Int → Int} {nf : Int} {ns : Int} {nl : Int} {dep : Int} {op : Int → Int} {br : Int → Int} {cN : Int → Int} {cP : Int → Int} {cO : Int → Int} {sI : Int → Int} {sL : Int → Int} {sM : Int → Int} {fN : Int → Int} {fL : Int → Int} {fP : Int → Int} {fF : Int → Int} {fS : Int → Int} {fG : Int → Int} {K : Int → Int} {TG : Int → Int} {FI : Int → Int} {SE : Int → Int} {TH : Int → Int} {SI : Int → Int} {DP : Int → Int} {BR : Int → Int} {WE : Int → Int} {MI : Int → Int} {EN : Int → Int} {AR : Int → Int} {LA : Int → Int} {g : Int} {gg : Int} {c : Int} {τ : Nat → Int → Int}
theorem E_adv (h : (RL b now tx N so st va i v nm nf ns nl dep op br cN cP cO sI sL sM fN fL fP fF fS fG K TG FI SE TH SI DP BR WE MI EN AR LA g gg c τ)) (hi : ¬ so i = -1) : (RL b now tx N so st va (i + 1) v nm nf ns nl dep op br cN cP cO sI sL sM fN fL fP fF fS fG K TG FI SE TH SI DP BR WE MI EN AR LA g gg c (adv τ)) := by
  obtain ⟨hT, hC, hV, hI, hS, hB, hF, hX, hZ, hN⟩ := h
  refine ⟨?_, hC, hV, hI, hS, hB, hF, hX, hZ, hN⟩
  obtain ⟨t1, t2, t3, t4⟩ := hT
  have lt := nE0 (so := so) (i := i) (N := N) ⟨by have := t1.1; omega, t1.2.2.2.1⟩ t2 hi
  have s := tk_step (o7 := τ 467 7) (o8 := τ 467 8) (o9 := τ 467 9) (o10 := τ 467 10) t1 (show 0 ≤ i + 1 by omega) lt t3
  exact ⟨t1, ⟨by omega, lt⟩, s.2.1, s.2.2⟩
theorem E_var {s w x : Int} (h : (RL b now tx N so st va i v nm nf ns nl dep op br cN cP cO sI sL sM fN fL fP fF fS fG K TG FI SE TH SI DP BR WE MI EN AR LA g gg c τ)) (ok : oOK s w nm v) (hw : s = -4 → 0 ≤ w) : (RL b now tx N so st va i (oN s w nm v) (oR s w nm v) nf ns nl dep op br cN cP cO sI sL sM fN fL fP fF fS fG K TG FI SE TH SI DP BR WE MI EN AR LA g gg c (zup (zrow (zrow τ 474 (zs (τ 474) (8 * τ 467 11 + τ 467 12) (oN s w (τ 500) (τ 474 (8 * τ 467 11 + τ 467 12))))) 500 (oR s w (τ 500) (τ 474 (8 * τ 467 11 + τ 467 12)))) 467 48 x)) := by
  obtain ⟨hT, hC, hV, hI, hS, hB, hF, hX, hZ, hN⟩ := h
  obtain ⟨⟨c11, c12⟩, hC⟩ := hC
  subst c11 c12
  have up := (oV_opk hV.1 ok hw).2
  refine ⟨hT, ⟨⟨rfl, rfl⟩, ?_⟩, ?_, hI, hS, hB, ⟨hF.1, fun l l0 l1 => lk_up up (hF.2 l l0 l1)⟩, hX, hZ, hN⟩
  · obtain ⟨d1, d2, d3, d4, d5, d6, d7, d8⟩ := hC
    exact ⟨d1, d2, d3, d4, d5, d6, ⟨d7.1, d7.2.1, d7.2.2.1, by omega⟩, d8⟩
  · have z := gVA_on hV (s := s) (w := w) ok
    refine ⟨z.1, ?_, z.2.2⟩
    show zs (τ 474) (8 * τ 467 11 + τ 467 12) (oN s w (τ 500) (τ 474 (8 * τ 467 11 + τ 467 12))) (8 * τ 467 11 + τ 467 12) = _
    rw [zs_pos rfl]; exact z.2.1
theorem E_vn {w : Int} (h : (RL b now tx N so st va i v nm nf ns nl dep op br cN cP cO sI sL sM fN fL fP fF fS fG K TG FI SE TH SI DP BR WE MI EN AR LA g gg c τ)) (ok : vOK nm w v) : (RL b now tx N so st va i (vN nm w v) (vRw nm w v) nf ns nl dep op br cN cP cO sI sL sM fN fL fP fF fS fG K TG FI SE TH SI DP BR WE MI EN AR LA g gg c (zrow (zrow τ 474 (zs (τ 474) (8 * τ 467 11 + τ 467 12) (vN (τ 500) w (τ 474 (8 * τ 467 11 + τ 467 12))))) 500 (vRw (τ 500) w (τ 474 (8 * τ 467 11 + τ 467 12))))) := by
  obtain ⟨hT, hC, hV, hI, hS, hB, hF, hX, hZ, hN⟩ := h
  obtain ⟨⟨c11, c12⟩, hC⟩ := hC
  subst c11 c12
  have up := (vV_in (nm := nm) (w := w) hV.1).2
  refine ⟨hT, ⟨⟨rfl, rfl⟩, ?_⟩, ?_, hI, hS, hB, ⟨hF.1, fun l l0 l1 => lk_up up (hF.2 l l0 l1)⟩, hX, hZ, hN⟩
  · obtain ⟨d1, d2, d3, d4, d5, d6, d7, d8⟩ := hC
    exact ⟨d1, d2, d3, d4, d5, d6, ⟨d7.1, d7.2.1, d7.2.2.1, by omega⟩, d8⟩
  · have z := gVA_vn hV (w := w) ok
    refine ⟨z.1, ?_, z.2.2⟩
    show zs (τ 474) (8 * τ 467 11 + τ 467 12) (vN (τ 500) w (τ 474 (8 * τ 467 11 + τ 467 12))) (8 * τ 467 11 + τ 467 12) = _
    rw [zs_pos rfl]; exact z.2.1
theorem E_add {k gg' : Int} {MI' EN' : Int → Int} (h : (RL b now tx N so st va i v nm nf ns nl dep op br cN cP cO sI sL sM fN fL fP fF fS fG K TG FI SE TH SI DP BR WE MI EN AR LA g gg c τ)) (hc : c = nl) (hg : gg = 0) (hk : ¬ k = 6) (h9 : k = 9 → gg' = 1 ∧ dep = 0) (hn : nl < 60) (hL : cL (zs DP nl dep) (zs BR nl (brv dep br)) MI' EN' (zs AR nl (arv dep LA)) (zs LA dep nl) (nl + 1)) : (RL b now tx N so st va i v nm nf ns (nl + 1) dep op br cN cP cO sI sL sM fN fL fP fF fS fG (zs K nl k) (zs TG nl (-2)) (zs FI nl (-2)) (zs SE nl (-2)) (zs TH nl (-2)) (zs SI nl (-2)) (zs DP nl dep) (zs BR nl (brv dep br)) (zs WE nl 0) MI' EN' (zs AR nl (arv dep LA)) (zs LA dep nl) g gg' c (zrow (zrow (zrow (zrow (zrow (zrow (zrow (zrow (zrow (zrow (zrow (zrow (zrow (zrow τ 470 (zs (τ 470) (τ 467 11) (τ 470 (τ 467 11) + 1))) 476 (zs (τ 476) (8 * τ 467 11 + τ 467 12) (τ 476 (8 * τ 467 11 + τ 467 12) + 1))) 480 (zs (τ 480) (60 * τ 467 11 + τ 470 (τ 467 11)) k)) 481 (zs (τ 481) (60 * τ 467 11 + τ 470 (τ 467 11)) (-2))) 482 (zs (τ 482) (60 * τ 467 11 + τ 470 (τ 467 11)) (-2))) 483 (zs (τ 483) (60 * τ 467 11 + τ 470 (τ 467 11)) (-2))) 484 (zs (τ 484) (60 * τ 467 11 + τ 470 (τ 467 11)) (-2))) 485 (zs (τ 485) (60 * τ 467 11 + τ 470 (τ 467 11)) (-2))) 486 (zs (τ 486) (60 * τ 467 11 + τ 470 (τ 467 11)) (-2))) 487 (zs (τ 487) (60 * τ 467 11 + τ 470 (τ 467 11)) (τ 467 47 - 1))) 488 (zs (τ 488) (60 * τ 467 11 + τ 470 (τ 467 11)) 0)) 489 (zs (τ 489) (60 * τ 467 11 + τ 470 (τ 467 11)) 0)) 490 (zs (τ 490) (60 * τ 467 11 + τ 470 (τ 467 11)) (-1))) 491 (zs (τ 491) (60 * τ 467 11 + τ 470 (τ 467 11)) 0))) := by
  obtain ⟨hT, hC, hV, hI, hS, hB, hF, hX, hZ, hN⟩ := h
  obtain ⟨⟨c11, c12⟩, hC⟩ := hC
  subst c11 c12
  obtain ⟨⟨d1, d1'⟩, d2, ⟨d3, d3'⟩, d4, ⟨d5, dv, dw, dx⟩, d6, d7, d8, d9⟩ := hC
  obtain ⟨b1, b2, b3, b4⟩ := hB
  obtain ⟨i0, i1, i2, i3, i4, i5, i6, i7, i11⟩ := hI
  subst hg
  have dk : τ 467 47 - 1 = dep := by omega
  have hm : ∀ l : Int, l < nl → zs K nl k l = K l := fun l z => zs_neg (by omega)
  refine ⟨hT, ⟨⟨rfl, rfl⟩, ⟨d1, d1'⟩, d2, ?_, d4, ⟨d5, dv, by omega, ?_⟩, d6, d7, d8, d9⟩, hV, ?_, ?_, ⟨hL, b2, b3, fun j j0 j1 => ?_⟩, ⟨by have := hF.1; omega, fun l l0 l1 => ?_⟩, ?_, fun _ => ?_, ?_⟩
  · refine ⟨?_, by omega, by omega⟩
    show zs (τ 470) (τ 467 11) (τ 470 (τ 467 11) + 1) (τ 467 11) = nl + 1
    rw [zs_pos rfl, d3]
  · show zs (τ 476) (8 * τ 467 11 + τ 467 12) (τ 476 (8 * τ 467 11 + τ 467 12) + 1) (8 * τ 467 11 + τ 467 12) = _
    rw [zs_pos rfl]; omega
  · rw [d3, dk]
    refine ⟨al_add i0, al_add i1, al_add i2, al_add i3, al_add i4, fun l l0 l1 => ?_, al_add i6, al_add i7, al_add i11⟩
    show zs (τ 485) (60 * τ 467 11 + nl) (-2) (60 * τ 467 11 + l) = -2
    by_cases e : l = nl
    · rw [e]; exact zs_pos rfl
    · rw [zs_neg (by omega)]; exact i5 l l0 (by omega)
  · rw [d3]
    exact gST_add hS hm (fun l z => zs_neg (by omega))
  · have z := b4 j j0 j1
    exact ⟨(zs_neg (by omega)).trans z.1, z.2⟩
  · have hl : l < nl := by omega
    exact lk_cg (hF.2 l l0 l1) ⟨zs_neg (by omega), zs_neg (by omega), zs_neg (by omega), zs_neg (by omega), zs_neg (by omega), zs_neg (by omega)⟩ (fun _ => rfl)
  · rw [d3]
    exact fx_add hX h9 ⟨b2.1, b2.2.1⟩
  · rw [d3, show nl + 1 - 1 = nl by omega]
    exact ⟨zs_pos rfl, zs_pos rfl⟩
  · exact gSI_line hN (by omega) (cL_ch b1) hk
theorem E_tg {n l x : Int} (h : (RL b now tx N so st va i v nm nf ns nl dep op br cN cP cO sI sL sM fN fL fP fF fS fG K TG FI SE TH SI DP BR WE MI EN AR LA g gg c τ)) (hc : c ≤ n) (hl : l = 60 * b + n) : (RL b now tx N so st va i v nm nf ns nl dep op br cN cP cO sI sL sM fN fL fP fF fS fG K (zs TG n x) FI SE TH SI DP BR WE MI EN AR LA g gg c (zrow τ 481 (zs (τ 481) l x))) := by
  obtain ⟨hT, hC, hV, hI, hS, hB, hF, hX, hZ, hN⟩ := h
  obtain ⟨⟨c11, c12⟩, hC⟩ := hC
  subst c11 c12
  obtain ⟨⟨d1, du⟩, d2, ⟨d3, d3b⟩, d4, ⟨d5, dv, dw, dx⟩, d6, d7, d8, d9⟩ := hC
  obtain ⟨b1, b2, b3, b4⟩ := hB
  obtain ⟨i0, i1, i2, i3, i4, i5, i6, i7, i11⟩ := hI
  refine ⟨hT, ⟨⟨rfl, rfl⟩, ⟨d1, du⟩, d2, ⟨d3, d3b⟩, d4, ⟨d5, dv, dw, dx⟩, d6, d7, d8, d9⟩, hV, ⟨i0, (by rw [hl]; exact al_set i1), i2, i3, i4, i5, i6, i7, i11⟩, hS, ⟨b1, b2, b3, b4⟩, ⟨hF.1, fun l l0 l1 => lk_cg (hF.2 l l0 l1) ⟨rfl, zs_neg (by omega), rfl, rfl, rfl, rfl⟩ (fun _ => rfl)⟩, hX, hZ, hN⟩
theorem E_fi {n l x : Int} (h : (RL b now tx N so st va i v nm nf ns nl dep op br cN cP cO sI sL sM fN fL fP fF fS fG K TG FI SE TH SI DP BR WE MI EN AR LA g gg c τ)) (hc : c ≤ n) (hl : l = 60 * b + n) : (RL b now tx N so st va i v nm nf ns nl dep op br cN cP cO sI sL sM fN fL fP fF fS fG K TG (zs FI n x) SE TH SI DP BR WE MI EN AR LA g gg c (zrow τ 482 (zs (τ 482) l x))) := by
  obtain ⟨hT, hC, hV, hI, hS, hB, hF, hX, hZ, hN⟩ := h
  obtain ⟨⟨c11, c12⟩, hC⟩ := hC
  subst c11 c12
  obtain ⟨⟨d1, du⟩, d2, ⟨d3, d3b⟩, d4, ⟨d5, dv, dw, dx⟩, d6, d7, d8, d9⟩ := hC
  obtain ⟨b1, b2, b3, b4⟩ := hB
  obtain ⟨i0, i1, i2, i3, i4, i5, i6, i7, i11⟩ := hI
  refine ⟨hT, ⟨⟨rfl, rfl⟩, ⟨d1, du⟩, d2, ⟨d3, d3b⟩, d4, ⟨d5, dv, dw, dx⟩, d6, d7, d8, d9⟩, hV, ⟨i0, i1, (by rw [hl]; exact al_set i2), i3, i4, i5, i6, i7, i11⟩, hS, ⟨b1, b2, b3, b4⟩, ⟨hF.1, fun l l0 l1 => lk_cg (hF.2 l l0 l1) ⟨rfl, rfl, zs_neg (by omega), rfl, rfl, rfl⟩ (fun _ => rfl)⟩, hX, hZ, hN⟩
theorem E_se {n l x : Int} (h : (RL b now tx N so st va i v nm nf ns nl dep op br cN cP cO sI sL sM fN fL fP fF fS fG K TG FI SE TH SI DP BR WE MI EN AR LA g gg c τ)) (hc : c ≤ n) (hl : l = 60 * b + n) : (RL b now tx N so st va i v nm nf ns nl dep op br cN cP cO sI sL sM fN fL fP fF fS fG K TG FI (zs SE n x) TH SI DP BR WE MI EN AR LA g gg c (zrow τ 483 (zs (τ 483) l x))) := by
  obtain ⟨hT, hC, hV, hI, hS, hB, hF, hX, hZ, hN⟩ := h
  obtain ⟨⟨c11, c12⟩, hC⟩ := hC
  subst c11 c12
  obtain ⟨⟨d1, du⟩, d2, ⟨d3, d3b⟩, d4, ⟨d5, dv, dw, dx⟩, d6, d7, d8, d9⟩ := hC
  obtain ⟨b1, b2, b3, b4⟩ := hB
  obtain ⟨i0, i1, i2, i3, i4, i5, i6, i7, i11⟩ := hI
  refine ⟨hT, ⟨⟨rfl, rfl⟩, ⟨d1, du⟩, d2, ⟨d3, d3b⟩, d4, ⟨d5, dv, dw, dx⟩, d6, d7, d8, d9⟩, hV, ⟨i0, i1, i2, (by rw [hl]; exact al_set i3), i4, i5, i6, i7, i11⟩, hS, ⟨b1, b2, b3, b4⟩, ⟨hF.1, fun l l0 l1 => lk_cg (hF.2 l l0 l1) ⟨rfl, rfl, rfl, zs_neg (by omega), rfl, rfl⟩ (fun _ => rfl)⟩, hX, hZ, hN⟩
theorem E_k {n l x : Int} (h : (RL b now tx N so st va i v nm nf ns nl dep op br cN cP cO sI sL sM fN fL fP fF fS fG K TG FI SE TH SI DP BR WE MI EN AR LA g gg c τ)) (hc : c ≤ n) (hn : nl = n + 1) (hF0 : fF now ≤ n) (hl : l = 60 * b + n) (h0 : K n = 0) (hk : 1 ≤ x ∧ x ≤ 5) : (RL b now tx N so st va i v nm nf ns nl dep op br cN cP cO sI sL sM fN fL fP fF fS fG (zs K n x) TG FI SE TH SI DP BR WE MI EN AR LA g gg c (zrow τ 480 (zs (τ 480) l x))) := by
  obtain ⟨hT, hC, hV, hI, hS, hB, hF, hX, hZ, hN⟩ := h
  obtain ⟨⟨c11, c12⟩, hC⟩ := hC
  subst c11 c12
  obtain ⟨⟨d1, du⟩, d2, ⟨d3, d3b⟩, d4, ⟨d5, dv, dw, dx⟩, d6, d7, d8, d9⟩ := hC
  obtain ⟨b1, b2, b3, b4⟩ := hB
  obtain ⟨i0, i1, i2, i3, i4, i5, i6, i7, i11⟩ := hI
  have kz : ∀ j : Int, ¬ j = n → zs K n x j = K j := fun j z => zs_neg z
  refine ⟨hT, ⟨⟨rfl, rfl⟩, ⟨d1, du⟩, d2, ⟨d3, d3b⟩, d4, ⟨d5, dv, dw, dx⟩, d6, d7, d8, d9⟩, hV, ⟨by rw [hl]; exact al_set i0, i1, i2, i3, i4, i5, i6, i7, i11⟩, gST_set hS (fun j j0 j1 => kz _ (fun z => ?_)), ⟨b1, b2, b3, b4⟩, ⟨hF.1, fun l l0 l1 => lk_cg (hF.2 l l0 l1) ⟨zs_neg (by omega), rfl, rfl, rfl, rfl, rfl⟩ (fun _ => rfl)⟩, fun j j0 j1 => ?_, hZ, ?_⟩
  · have y := (hS.2.1 j j0 j1).2.2.2.1
    rw [z] at y; omega
  · have y := hX j j0 j1
    unfold fx at y ⊢
    by_cases e : j = n
    · subst e
      rw [zs_pos rfl]
      obtain ⟨y1, y2, y3, y4, y5, y6⟩ := y
      exact ⟨y1, fun q => by have := y2 q; omega, y3, fun _ => y4 (by omega), y5, fun q => by omega⟩
    · rw [kz j e]; exact y
  · have y := hN
    rw [hn] at y ⊢
    exact gSI_kind y (by omega) (by rw [hn] at b1; exact cL_ch b1) (by omega) (by omega)
theorem E_c (h : (RL b now tx N so st va i v nm nf ns nl dep op br cN cP cO sI sL sM fN fL fP fF fS fG K TG FI SE TH SI DP BR WE MI EN AR LA g gg c τ)) (hn : nl = c + 1) (hk : lk v K TG FI SE TH SI cO c) : (RL b now tx N so st va i v nm nf ns nl dep op br cN cP cO sI sL sM fN fL fP fF fS fG K TG FI SE TH SI DP BR WE MI EN AR LA g gg (c + 1) τ) := by
  obtain ⟨hT, hC, hV, hI, hS, hB, hF, hX, hZ, hN⟩ := h
  exact ⟨hT, hC, hV, hI, hS, hB, ⟨by omega, fun l l0 l1 => by
    by_cases e : l = c
    · rw [e]; exact hk
    · exact hF.2 l l0 (by omega)⟩, hX, hZ, hN⟩
theorem E_open {n l : Int} (h : (RL b now tx N so st va i v nm nf ns nl dep op br cN cP cO sI sL sM fN fL fP fF fS fG K TG FI SE TH SI DP BR WE MI EN AR LA g gg c τ)) (hn : nl = n + 1) (hF0 : fF now ≤ n) (hl : l = 60 * b + n) (hd : DP n = dep ∧ (0 < dep → BR n = br dep)) (hk : K n = 7 ∨ K n = 8) (hw : WE n = 0) (h4 : dep < 4) : (RL b now tx N so st va i v nm nf ns nl (dep + 1) (zs op (dep + 1) n) (zs br (dep + 1) 0) cN cP cO sI sL sM fN fL fP fF fS fG K TG FI SE TH SI DP BR WE MI EN AR LA g gg c (zup (zrow (zrow τ 501 (zs (τ 501) (τ 467 47) l)) 502 (zs (τ 502) (τ 467 47) 0)) 467 47 (τ 467 47 + 1))) := by
  obtain ⟨hT, hC, hV, hI, hS, hB, hF, hX, hZ, hN⟩ := h
  obtain ⟨⟨c11, c12⟩, hC⟩ := hC
  subst c11 c12
  obtain ⟨⟨d1, du⟩, d2, ⟨d3, d3b⟩, d4, ⟨d5, dv, dw, dx⟩, d6, d7, d8, d9⟩ := hC
  obtain ⟨b1, b2, b3, b4⟩ := hB
  obtain ⟨i0, i1, i2, i3, i4, i5, i6, i7, i11⟩ := hI
  have hz := hZ (by omega)
  rw [hn, show n + 1 - 1 = n by omega] at hz
  subst hn
  have L := gST_path hS b1 (fun j j0 j1 => (b4 j j0 j1).1)
  refine ⟨hT, ⟨⟨rfl, rfl⟩, ⟨d1, du⟩, d2, ⟨d3, d3b⟩, d4, ⟨d5, dv, dw, dx⟩, d6, d7, d8, d9⟩, hV, ⟨i0, i1, i2, i3, i4, i5, i6, i7, i11⟩, gST_open hS hF0 hd.1 hd.2 hk hw hz.1 hz.2, ⟨b1, ⟨by omega, by omega, ?_⟩, ?_, fun j j0 j1 => ?_⟩, hF, hX, hZ, hN⟩
  · show τ 467 47 + 1 = dep + 1 + 1
    omega
  · show zs (τ 501) (τ 467 47) l 0 = -1
    rw [zs_neg (by omega)]; exact b3
  · show LA (j - 1) = zs op (dep + 1) n j ∧ zs (τ 501) (τ 467 47) l j = 60 * τ 467 11 + zs op (dep + 1) n j ∧ zs (τ 502) (τ 467 47) 0 j = zs br (dep + 1) 0 j
    by_cases e : j = dep + 1
    · subst e
      rw [zs_pos rfl, zs_pos rfl, zs_pos (by omega), zs_pos (by omega)]
      refine ⟨?_, hl, rfl⟩
      have z := b1.2.2 dep b2.1 (by omega) (by rw [show n + 1 - 1 = n by omega, hd.1]; exact Int.le_refl _)
      rw [show dep + 1 - 1 = dep by omega]
      by_cases c' : LA dep = n
      · exact c'
      · have y := z.2.2.1 n (by omega) (by omega)
        omega
    · rw [zs_neg (f := op) e, zs_neg (f := br) e, zs_neg (f := τ 501) (by omega), zs_neg (f := τ 502) (by omega)]
      exact b4 j j0 (by omega)
theorem E_close2 (h : (RL b now tx N so st va i v nm nf ns nl dep op br cN cP cO sI sL sM fN fL fP fF fS fG K TG FI SE TH SI DP BR WE MI EN AR LA g gg c τ)) (hd : 1 ≤ dep) (h0 : τ 502 (τ 467 47 - 1) = 0) : (RL b now tx N so st va i v nm nf ns nl (dep - 1) op br cN cP cO sI sL sM fN fL fP fF fS fG K TG FI SE TH SI DP BR WE MI EN AR LA g gg c (zup (zrow τ 488 (zs (τ 488) (τ 501 (τ 467 47 - 1)) (60 * τ 467 11 + τ 470 (τ 467 11) - (τ 501 (τ 467 47 - 1)) - 1))) 467 47 (τ 467 47 - 1))) := by
  obtain ⟨hT, hC, hV, hI, hS, hB, hF, hX, hZ, hN⟩ := h
  obtain ⟨⟨c11, c12⟩, hC⟩ := hC
  subst c11 c12
  obtain ⟨⟨d1, du⟩, d2, ⟨d3, d3b⟩, d4, ⟨d5, dv, dw, dx⟩, d6, d7, d8, d9⟩ := hC
  obtain ⟨b1, b2, b3, b4⟩ := hB
  obtain ⟨i0, i1, i2, i3, i4, i5, i6, i7, i11⟩ := hI
  obtain ⟨z1, z2, z3, z4, z5, z6, z7⟩ := hS.2.1 dep hd (Int.le_refl _)
  have w := b4 dep hd (Int.le_refl _)
  have ew : τ 467 47 - 1 = dep := by omega
  have eo : τ 501 dep = 60 * τ 467 11 + op dep := w.2.1
  rw [ew] at h0
  have b0 : br dep = 0 := by rw [← w.2.2]; exact h0
  rw [ew, eo, d3]
  refine ⟨hT, ⟨⟨rfl, rfl⟩, ⟨d1, du⟩, d2, ⟨d3, d3b⟩, d4, ⟨d5, dv, dw, dx⟩, d6, d7, d8, d9⟩, hV, ⟨i0, i1, i2, i3, i4, i5, i6, i7, i11⟩, gST_close hS hd (fun _ => ⟨rfl, rfl⟩) (fun q => absurd b0 q), ⟨b1, ⟨by omega, by omega, by show dep = dep - 1 + 1; omega⟩, b3, fun j j0 j1 => b4 j j0 (by omega)⟩, hF, fun j j0 j1 => ?_, ?_, hN⟩
  · have y := hX j j0 j1
    unfold fx at y ⊢
    show _ ∧ _ ∧ _ ∧ (_ → zs (τ 488) (60 * τ 467 11 + op dep) _ (60 * τ 467 11 + j) = 0 ∧ _) ∧ _
    obtain ⟨y1, y2, y3, y4, y5, y6⟩ := y
    refine ⟨y1, y2, y3, fun q => ?_, y5, y6⟩
    have ne : ¬ j = op dep := fun z => by rw [z] at q; exact q z4
    rw [zs_neg (by omega)]; exact y4 q
  · intro q
    have z := hZ q
    show zs (τ 488) (60 * τ 467 11 + op dep) _ (60 * τ 467 11 + (nl - 1)) = 0 ∧ _
    by_cases e : nl - 1 = op dep
    · rw [zs_pos (by omega)]; exact ⟨by omega, z.2⟩
    · rw [zs_neg (by omega)]; exact z
theorem E_close1 (h : (RL b now tx N so st va i v nm nf ns nl dep op br cN cP cO sI sL sM fN fL fP fF fS fG K TG FI SE TH SI DP BR WE MI EN AR LA g gg c τ)) (hd : 1 ≤ dep) (h0 : ¬ τ 502 (τ 467 47 - 1) = 0) : (RL b now tx N so st va i v nm nf ns nl (dep - 1) op br cN cP cO sI sL sM fN fL fP fF fS fG K TG FI SE TH SI DP BR WE MI EN AR LA g gg c (zup (zrow τ 489 (zs (τ 489) (τ 501 (τ 467 47 - 1)) (60 * τ 467 11 + τ 470 (τ 467 11) - (τ 501 (τ 467 47 - 1)) - τ 488 (τ 501 (τ 467 47 - 1)) - 1))) 467 47 (τ 467 47 - 1))) := by
  obtain ⟨hT, hC, hV, hI, hS, hB, hF, hX, hZ, hN⟩ := h
  obtain ⟨⟨c11, c12⟩, hC⟩ := hC
  subst c11 c12
  obtain ⟨⟨d1, du⟩, d2, ⟨d3, d3b⟩, d4, ⟨d5, dv, dw, dx⟩, d6, d7, d8, d9⟩ := hC
  obtain ⟨b1, b2, b3, b4⟩ := hB
  obtain ⟨i0, i1, i2, i3, i4, i5, i6, i7, i11⟩ := hI
  obtain ⟨z1, z2, z3, z4, z5, z6, z7⟩ := hS.2.1 dep hd (Int.le_refl _)
  have w := b4 dep hd (Int.le_refl _)
  have ew : τ 467 47 - 1 = dep := by omega
  have eo : τ 501 dep = 60 * τ 467 11 + op dep := w.2.1
  rw [ew] at h0
  have b0 : ¬ br dep = 0 := by rw [← w.2.2]; exact h0
  have c1 := z6 (by omega)
  rw [ew, eo, d3]
  refine ⟨hT, ⟨⟨rfl, rfl⟩, ⟨d1, du⟩, d2, ⟨d3, d3b⟩, d4, ⟨d5, dv, dw, dx⟩, d6, d7, d8, d9⟩, hV, ⟨i0, i1, i2, i3, i4, i5, i6, i7, i11⟩, gST_close hS hd (fun q => absurd q b0) (fun _ => ⟨rfl, rfl⟩), ⟨b1, ⟨by omega, by omega, by show dep = dep - 1 + 1; omega⟩, b3, fun j j0 j1 => b4 j j0 (by omega)⟩, hF, fun j j0 j1 => ?_, ?_, hN⟩
  · have y := hX j j0 j1
    unfold fx at y ⊢
    show _ ∧ _ ∧ (_ → zs (τ 489) (60 * τ 467 11 + op dep) _ (60 * τ 467 11 + j) = 0) ∧ (_ → _ ∧ zs (τ 489) (60 * τ 467 11 + op dep) _ (60 * τ 467 11 + j) = 0) ∧ _
    obtain ⟨y1, y2, y3, y4, y5, y6⟩ := y
    by_cases e : j = op dep
    · rw [e] at y1 y2 y5 y6 ⊢
      exact ⟨y1, y2, fun q => by omega, fun q => absurd z4 q, y5, y6⟩
    · rw [zs_neg (by omega)]; exact ⟨y1, y2, y3, y4, y5, y6⟩
  · intro q
    have z := hZ q
    show _ ∧ zs (τ 489) (60 * τ 467 11 + op dep) _ (60 * τ 467 11 + (nl - 1)) = 0
    by_cases e : nl - 1 = op dep
    · rw [zs_pos (by omega)]
      refine ⟨z.1, ?_⟩
      rw [e] at z; have := z.1; omega
    · rw [zs_neg (by omega)]; exact z
theorem E_else (h : (RL b now tx N so st va i v nm nf ns nl dep op br cN cP cO sI sL sM fN fL fP fF fS fG K TG FI SE TH SI DP BR WE MI EN AR LA g gg c τ)) (hd : 1 ≤ dep) (h0 : τ 502 (τ 467 47 - 1) = 0) (h7 : τ 480 (τ 501 (τ 467 47 - 1)) = 7) : (RL b now tx N so st va i v nm nf ns nl (dep - 1 + 1) (zs op (dep - 1 + 1) (op dep)) (zs br (dep - 1 + 1) 1) cN cP cO sI sL sM fN fL fP fF fS fG K TG FI SE TH SI DP BR (zs WE (op dep) 1) MI EN AR LA g gg c (zup (zrow (zrow (zrow (zrow τ 488 (zs (τ 488) (τ 501 (τ 467 47 - 1)) (60 * τ 467 11 + τ 470 (τ 467 11) - (τ 501 (τ 467 47 - 1)) - 1))) 491 (zs (τ 491) (τ 501 (τ 467 47 - 1)) 1)) 501 (zs (τ 501) (τ 467 47 - 1) (τ 501 (τ 467 47 - 1)))) 502 (zs (τ 502) (τ 467 47 - 1) 1)) 467 47 (τ 467 47 - 1 + 1))) := by
  obtain ⟨hT, hC, hV, hI, hS, hB, hF, hX, hZ, hN⟩ := h
  obtain ⟨⟨c11, c12⟩, hC⟩ := hC
  subst c11 c12
  obtain ⟨⟨d1, du⟩, d2, ⟨d3, d3b⟩, d4, ⟨d5, dv, dw, dx⟩, d6, d7, d8, d9⟩ := hC
  obtain ⟨b1, b2, b3, b4⟩ := hB
  obtain ⟨i0, i1, i2, i3, i4, i5, i6, i7, i11⟩ := hI
  obtain ⟨z1, z2, z3, z4, z5, z6, z7⟩ := hS.2.1 dep hd (Int.le_refl _)
  have w := b4 dep hd (Int.le_refl _)
  have ew : τ 467 47 - 1 = dep := by omega
  have eo : τ 501 dep = 60 * τ 467 11 + op dep := w.2.1
  rw [ew] at h0
  have b0 : br dep = 0 := by rw [← w.2.2]; exact h0
  rw [ew, eo] at h7
  have k7 : K (op dep) = 7 := by rw [i0 (op dep) (by omega) z1.2]; exact h7
  rw [ew, eo, d3]
  refine ⟨hT, ⟨⟨rfl, rfl⟩, ⟨d1, du⟩, d2, ⟨d3, d3b⟩, d4, ⟨d5, dv, dw, dx⟩, d6, d7, d8, d9⟩, hV, ⟨i0, i1, i2, i3, i4, i5, i6, i7, al_set i11⟩, gST_else hS hd b0 k7, ⟨b1, ⟨by omega, by omega, by show dep + 1 = dep - 1 + 1 + 1; omega⟩, ?_, fun j j0 j1 => ?_⟩, hF, fun j j0 j1 => ?_, ?_, hN⟩
  · show zs (τ 501) dep _ 0 = -1
    rw [zs_neg (by omega)]; exact b3
  · show LA (j - 1) = zs op (dep - 1 + 1) (op dep) j ∧ zs (τ 501) dep (60 * τ 467 11 + op dep) j = 60 * τ 467 11 + zs op (dep - 1 + 1) (op dep) j ∧ zs (τ 502) dep 1 j = zs br (dep - 1 + 1) 1 j
    rw [show dep - 1 + 1 = dep by omega] at j1 ⊢
    have u := b4 j j0 j1
    by_cases e : j = dep
    · subst e
      rw [zs_pos rfl, zs_pos rfl, zs_pos rfl, zs_pos rfl]
      exact ⟨u.1, rfl, rfl⟩
    · rw [zs_neg (f := op) e, zs_neg (f := br) e, zs_neg (f := τ 501) e, zs_neg (f := τ 502) e]
      exact u
  · have y := hX j j0 j1
    unfold fx at y ⊢
    show _ ∧ _ ∧ _ ∧ (_ → zs (τ 488) (60 * τ 467 11 + op dep) _ (60 * τ 467 11 + j) = 0 ∧ _) ∧ _
    obtain ⟨y1, y2, y3, y4, y5, y6⟩ := y
    by_cases e : j = op dep
    · rw [e] at y1 y2 y5 y6 ⊢
      rw [zs_pos rfl]
      exact ⟨Or.inr rfl, fun _ => k7, fun q => by omega, fun q => absurd z4 q, y5, y6⟩
    · rw [zs_neg (f := WE) e, zs_neg (f := τ 488) (by omega)]; exact ⟨y1, y2, y3, y4, y5, y6⟩
  · intro q
    have z := hZ q
    show zs (τ 488) (60 * τ 467 11 + op dep) _ (60 * τ 467 11 + (nl - 1)) = 0 ∧ _
    by_cases e : nl - 1 = op dep
    · rw [zs_pos (by omega)]; exact ⟨by omega, z.2⟩
    · rw [zs_neg (by omega)]; exact z
theorem E_give {x : Int} (h : (RL b now tx N so st va i v nm nf ns nl dep op br cN cP cO sI sL sM fN fL fP fF fS fG K TG FI SE TH SI DP BR WE MI EN AR LA g gg c τ)) : (RL b now tx N so st va i v nm nf ns nl dep op br cN cP cO sI sL sM fN fL fP fF fS (zs fG (nf - 1) x) K TG FI SE TH SI DP BR WE MI EN AR LA 1 gg c (zrow τ 479 (zs (τ 479) (8 * τ 467 11 + τ 467 12) 1))) := by
  obtain ⟨hT, hC, hV, hI, hS, hB, hF, hX, hZ, hN⟩ := h
  obtain ⟨⟨c11, c12⟩, hC⟩ := hC
  subst c11 c12
  obtain ⟨⟨d1, du⟩, d2, ⟨d3, d3b⟩, d4, ⟨d5, dv, dw, dx⟩, d6, d7, d8, d9⟩ := hC
  obtain ⟨b1, b2, b3, b4⟩ := hB
  obtain ⟨i0, i1, i2, i3, i4, i5, i6, i7, i11⟩ := hI
  refine ⟨hT, ⟨⟨rfl, rfl⟩, ⟨d1, du⟩, d2, ⟨d3, d3b⟩, d4, ⟨d5, dv, dw, dx⟩, d6, d7, d8, ?_, Or.inr rfl, fun q => by omega⟩, hV, ⟨i0, i1, i2, i3, i4, i5, i6, i7, i11⟩, hS, ⟨b1, b2, b3, b4⟩, hF, hX, hZ, hN⟩
  show zs (τ 479) (8 * τ 467 11 + τ 467 12) 1 (8 * τ 467 11 + τ 467 12) = 1
  exact zs_pos rfl
theorem ob8_hma {kd ow K AR op : Int → Int} {dep : Int} (h : ∀ j : Int, 1 ≤ j → j ≤ dep → kd (ow j) = K (op j) ∧ (K (op j) = 7 ∨ K (op j) = 8) ∧ (1 < j → AR (op j) = op (j - 1))) : ∀ (k : Nat) (x : Int), (k : Int) ≤ dep → (0 < k → AR x = op (k : Int)) → ob8 kd ow k = hma K AR 8 k x ∧ obn kd ow k = hma K AR 7 k x
  | 0, _, _, _ => ⟨rfl, rfl⟩
  | k + 1, x, hk, hx => by
    have z := h ((k : Int) + 1) (by omega) (by omega)
    have e : AR x = op ((k : Int) + 1) := hx (by omega)
    have i := ob8_hma h k (op ((k : Int) + 1)) (by omega) (fun q => by
      have y := z.2.2 (by omega)
      rw [show (k : Int) + 1 - 1 = k by omega] at y; exact y)
    show ob8 kd ow k + (if kd (ow ((k : Int) + 1)) = 8 then 1 else 0) = (if K (AR x) = 8 then 1 else 0) + hma K AR 8 k (AR x) ∧ obn kd ow k + (if kd (ow ((k : Int) + 1)) = 8 then 0 else 1) = (if K (AR x) = 7 then 1 else 0) + hma K AR 7 k (AR x)
    rw [e, i.1, i.2, z.1]
    rcases z.2.1 with q | q <;> rw [q]
    · exact ⟨by rw [if_neg (by decide)]; omega, by rw [if_neg (by decide), if_pos rfl]; omega⟩
    · exact ⟨by rw [if_pos rfl]; omega, by rw [if_pos rfl, if_neg (by decide)]; omega⟩
theorem E_call {n l p w : Int} (h : (RL b now tx N so st va i v nm nf ns nl dep op br cN cP cO sI sL sM fN fL fP fF fS fG K TG FI SE TH SI DP BR WE MI EN AR LA g gg c τ)) (hc : c = n) (hn : nl = n + 1) (hF0 : fF now ≤ n) (hl : l = 60 * b + n) (h0 : K n = 0) (hd : DP n = dep) (hs : ns < 16) (hp : 0 ≤ p ∧ p ≤ 400) (hx : (0 ≤ TG n ∧ TG n < v) ∧ FI n = -2 ∧ SE n = -2 ∧ TH n = -2) : (RL b now tx N so st va i v nm nf (ns + 1) nl dep op br (zs cN ns w) (zs cP ns p) (zs cO ns 0) (zs sI ns (nf - 1)) (zs sL ns n) (zs sM ns 0) fN fL fP fF fS fG (zs K n 6) TG FI SE TH (zs SI n ns) DP BR WE MI EN AR LA g gg (n + 1) (zrow (zrow (zrow (zrow (zrow (zrow (zrow (zrow (zrow (zrow (zrow (zrow τ 471 (zs (τ 471) (τ 467 11) (τ 471 (τ 467 11) + 1))) 478 (zs (τ 478) (8 * τ 467 11 + τ 467 12) (τ 478 (8 * τ 467 11 + τ 467 12) + 1))) 480 (zs (τ 480) l 6)) 486 (zs (τ 486) l (τ 471 (τ 467 11)))) 492 (zs (τ 492) (16 * τ 467 11 + τ 471 (τ 467 11)) l)) 493 (zs (τ 493) (16 * τ 467 11 + τ 471 (τ 467 11)) (ob8 (zs (τ 480) l 6) (τ 501) (τ 467 47 - 1).toNat))) 494 (zs (τ 494) (16 * τ 467 11 + τ 471 (τ 467 11)) (obn (zs (τ 480) l 6) (τ 501) (τ 467 47 - 1).toNat))) 495 (zs (τ 495) (16 * τ 467 11 + τ 471 (τ 467 11)) 0)) 496 (zs (τ 496) (16 * τ 467 11 + τ 471 (τ 467 11)) p)) 497 (zs (τ 497) (16 * τ 467 11 + τ 471 (τ 467 11)) 0)) 498 (zs (τ 498) (16 * τ 467 11 + τ 471 (τ 467 11)) (τ 467 12))) 499 (zs (τ 499) (16 * τ 467 11 + τ 471 (τ 467 11)) w))) := by
  obtain ⟨hT, hC, hV, hI, hS, hB, hF, hX, hZ, hN⟩ := h
  obtain ⟨⟨c11, c12⟩, hC⟩ := hC
  subst c11 c12
  obtain ⟨⟨d1, du⟩, d2, ⟨d3, d3b⟩, d4, ⟨d5, dv, dw, dx⟩, d6, d7, d8, d9⟩ := hC
  obtain ⟨b1, b2, b3, b4⟩ := hB
  obtain ⟨i0, i1, i2, i3, i4, i5, i6, i7, i11⟩ := hI
  obtain ⟨n1, n2, n3, n4⟩ := id hN
  have kz : ∀ j : Int, ¬ j = n → zs K n 6 j = K j := fun j z => zs_neg z
  have LP := gST_path hS b1 (fun j j0 j1 => (b4 j j0 j1).1)
  have bl := hS.1
  have hop : ∀ j : Int, 1 ≤ j → j ≤ dep → ¬ op j = n := fun j j0 j1 z => by
    have y := (hS.2.1 j j0 j1).2.2.2.1
    rw [z] at y; omega
  have lan : LA dep = n := by
    have z := b1.2.2 dep b2.1 (by omega) (by rw [hn, show n + 1 - 1 = n by omega, hd]; exact Int.le_refl _)
    by_cases c' : LA dep = n
    · exact c'
    · have y := z.2.2.1 n (by omega) (by omega)
      omega
  have par : ∀ d : Int, 0 < d → d ≤ dep → AR (LA d) = LA (d - 1) := fun d q0 q1 => (b1.2.2 d (by omega) (by omega) (by rw [hn, show n + 1 - 1 = n by omega, hd]; exact q1)).2.2.2.1 q0
  have hob := ob8_hma (kd := zs (τ 480) l 6) (ow := τ 501) (K := K) (AR := AR) (op := op) (dep := dep) (fun j j0 j1 => by
    have z := hS.2.1 j j0 j1
    have y := b4 j j0 j1
    refine ⟨?_, z.2.2.2.1, fun q => ?_⟩
    · rw [y.2.1, zs_neg (by have := hop j j0 j1; omega)]
      exact (i0 (op j) (by have := z.1; omega) z.1.2).symm
    · have r := par (j - 1) (by omega) (by omega)
      rw [y.1, (b4 (j - 1) (by omega) (by omega)).1] at r
      exact r) dep.toNat n (by omega) (fun q => by
    have r := par dep (by omega) (Int.le_refl _)
    rw [lan, (b4 dep (by omega) (Int.le_refl _)).1] at r
    rw [show (dep.toNat : Int) = dep by omega]; exact r)
  have ek : τ 467 47 - 1 = dep := by omega
  have nw : τ 467 12 = nf - 1 := by omega
  rw [ek, d4.1, hl]
  rw [hl] at hob
  refine ⟨hT, ⟨⟨rfl, rfl⟩, ⟨d1, du⟩, d2, ⟨d3, d3b⟩, ⟨?_, by omega, by omega⟩, ⟨d5, dv, dw, dx⟩, ⟨d6.1, d6.2.1, by omega, ?_⟩, d7, d8, d9⟩, hV, ⟨al_set i0, i1, i2, i3, i4, i5, al_set i6, i7, i11⟩, gST_set hS (fun j j0 j1 => kz _ (hop j j0 j1)), ⟨b1, b2, b3, b4⟩, ⟨by omega, fun l l0 l1 => ?_⟩, fun j j0 j1 => ?_, hZ, ?_⟩
  · show zs (τ 471) (τ 467 11) (ns + 1) (τ 467 11) = ns + 1
    exact zs_pos rfl
  · show zs (τ 478) (8 * τ 467 11 + τ 467 12) (τ 478 (8 * τ 467 11 + τ 467 12) + 1) (8 * τ 467 11 + τ 467 12) = _
    rw [zs_pos rfl]; have := d6.2.2.2; omega
  · by_cases e : l = n
    · subst e
      unfold lk
      rw [zs_pos (f := K) rfl, zs_pos (f := SI) rfl, zs_pos (f := cO) rfl, hx.2.1, hx.2.2.1, hx.2.2.2]
      exact ⟨by omega, fun q => absurd rfl q, fun q => by omega, fun _ => hx.1, fun q => by omega, fun q => by omega, fun _ => ⟨fun q => by omega, fun q => by omega, fun q => by omega⟩, Or.inl rfl, Or.inl rfl, Or.inl rfl⟩
    · refine lk_cg (hF.2 l l0 (by omega)) ⟨kz l e, rfl, rfl, rfl, rfl, zs_neg e⟩ (fun q => ?_)
      have z := ((n2 l (by omega) (by omega)).1 q).2
      exact zs_neg (by omega)
  · have y := hX j j0 j1
    unfold fx at y ⊢
    by_cases e : j = n
    · subst e
      rw [zs_pos rfl]
      obtain ⟨y1, y2, y3, y4, y5, y6⟩ := y
      exact ⟨y1, fun q => by have := y2 q; omega, y3, fun _ => y4 (by omega), y5, fun q => by omega⟩
    · rw [kz j e]; exact y
  · subst hn
    have y := gSI_call hN (by omega) (cL_ch b1) (by omega) (by omega) (x := nf - 1) (w := w) (p := p) (u8 := ob8 (zs (τ 480) (60 * τ 467 11 + n) 6) (τ 501) dep.toNat) (u7 := obn (zs (τ 480) (60 * τ 467 11 + n) 6) (τ 501) dep.toNat) ⟨by omega, rfl⟩ hp (by rw [hd]; exact hob.1) (by rw [hd]; exact hob.2)
    rw [nw]
    exact y
theorem E_arg {n l m s x : Int} (h : (RL b now tx N so st va i v nm nf ns nl dep op br cN cP cO sI sL sM fN fL fP fF fS fG K TG FI SE TH SI DP BR WE MI EN AR LA g gg c τ)) (hc : c = n + 1) (hn : nl = n + 1) (hF0 : fF now ≤ n) (hl : l = 60 * b + n) (hm : ns = m + 1) (hs : s = 16 * b + m) (hm0 : 0 ≤ m) (hK : K n = 6 ∧ SI n = m) (hx : opk v x) (hk : cO m < 400) : (RL b now tx N so st va i v nm nf ns nl dep op br cN cP (zs cO m (cO m + 1)) sI sL (zs sM m (sM m + nng x)) fN fL fP fF fS fG K TG (pO 0 (cO m) FI n x) (pO 1 (cO m) SE n x) (pO 2 (cO m) TH n x) SI DP BR WE MI EN AR LA g gg c (zrow (zrow (zrow (zrow (zrow τ 482 (pO 0 (τ 495 s) (τ 482) l x)) 483 (pO 1 (τ 495 s) (τ 483) l x)) 484 (pO 2 (τ 495 s) (τ 484) l x)) 495 (zs (τ 495) s ((τ 495 s) + 1))) 497 (zs (τ 497) s (τ 497 s + nng x)))) := by
  obtain ⟨hT, hC, hV, hI, hS, hB, hF, hX, hZ, hN⟩ := h
  obtain ⟨⟨c11, c12⟩, hC⟩ := hC
  subst c11 c12
  obtain ⟨⟨d1, du⟩, d2, ⟨d3, d3b⟩, d4, ⟨d5, dv, dw, dx⟩, d6, d7, d8, d9⟩ := hC
  obtain ⟨b1, b2, b3, b4⟩ := hB
  obtain ⟨i0, i1, i2, i3, i4, i5, i6, i7, i11⟩ := hI
  have z := hN.2.2.1 m hm0 (by omega)
  obtain ⟨z1, z2, ⟨z3, z3b, z3c⟩, z4, z5, z6, z7, z8, z9, z10⟩ := z
  rw [← hs] at z7 z9
  rw [z7, hl]
  have g0 : 0 ≤ nng x ∧ nng x ≤ 1 := by unfold nng; split <;> omega
  have po : ∀ (j k : Int) (r : Int → Int) (q : Int), ¬ q = n → pO j k r n x q = r q := fun j k r q e => by
    unfold pO; split
    · exact zs_neg e
    · rfl
  refine ⟨hT, ⟨⟨rfl, rfl⟩, ⟨d1, du⟩, d2, ⟨d3, d3b⟩, d4, ⟨d5, dv, dw, dx⟩, d6, d7, d8, d9⟩, hV, ⟨i0, i1, al_put i2, al_put i3, al_put i4, i5, i6, i7, i11⟩, hS, ⟨b1, b2, b3, b4⟩, ⟨hF.1, fun l l0 l1 => ?_⟩, hX, hZ, ?_⟩
  · by_cases e : l = n
    · subst e
      have y := hF.2 l l0 l1
      unfold lk at y ⊢
      obtain ⟨y1, y2, y3, y4, y5, y6, y7, y8, y9, y10⟩ := y
      have y7 := y7 hK.1
      rw [hK.2] at y7 ⊢
      rw [zs_pos (f := cO) rfl]
      refine ⟨y1, fun q => absurd hK.1 q, fun q => by omega, y4, fun q => by omega, y6, fun _ => ⟨fun _ => ?_, fun _ => ?_, fun _ => ?_⟩, ?_, ?_, ?_⟩
      · unfold pO; split
        · rw [zs_pos rfl]; exact hx
        · exact y7.1 (by omega)
      · unfold pO; split
        · rw [zs_pos rfl]; exact hx
        · exact y7.2.1 (by omega)
      · unfold pO; split
        · rw [zs_pos rfl]; exact hx
        · exact y7.2.2 (by omega)
      · unfold pO; split
        · rw [zs_pos rfl]; exact Or.inr hx
        · exact y8
      · unfold pO; split
        · rw [zs_pos rfl]; exact Or.inr hx
        · exact y9
      · unfold pO; split
        · rw [zs_pos rfl]; exact Or.inr hx
        · exact y10
    · refine lk_cg (hF.2 l l0 l1) ⟨rfl, rfl, po _ _ _ _ e, po _ _ _ _ e, po _ _ _ _ e, rfl⟩ (fun q => ?_)
      have w := ((hN.2.1 l (by omega) (by omega)).1 q)
      have w2 := (hN.2.1 n (by omega) (by omega)).1 hK.1
      have ne : ¬ SI l = m := fun u => by
        have t1 := cn6_le (K := K) (l + 1).toNat n.toNat (by omega)
        rw [cn6_suc (by omega), if_pos q] at t1
        omega
      exact zs_neg ne
  · subst hm
    have y := gSI_arg hN hm0 (k := cO m + 1) (m := sM m + nng x) ⟨by omega, by omega⟩ ⟨by omega, by omega⟩
    rw [z9, hs]
    exact y
theorem E_48 {x : Int} (h : (RL b now tx N so st va i v nm nf ns nl dep op br cN cP cO sI sL sM fN fL fP fF fS fG K TG FI SE TH SI DP BR WE MI EN AR LA g gg c τ)) : (RL b now tx N so st va i v nm nf ns nl dep op br cN cP cO sI sL sM fN fL fP fF fS fG K TG FI SE TH SI DP BR WE MI EN AR LA g gg c (zup τ 467 48 x)) := by
  obtain ⟨hT, hC, hV, hI, hS, hB, hF, hX, hZ, hN⟩ := h
  exact ⟨hT, hC, hV, hI, hS, hB, hF, hX, hZ, hN⟩
theorem E_47 {x : Int} (h : (RL b now tx N so st va i v nm nf ns nl dep op br cN cP cO sI sL sM fN fL fP fF fS fG K TG FI SE TH SI DP BR WE MI EN AR LA g gg c τ)) (hd : dep = 0) : (RL b now tx N so st va i v nm nf ns nl dep op br cN cP cO sI sL sM fN fL fP fF fS fG K TG FI SE TH SI DP BR WE MI EN AR LA g gg c (zup (zup τ 467 47 x) 467 47 1)) := by
  obtain ⟨hT, hC, hV, hI, hS, hB, hF, hX, hZ, hN⟩ := h
  exact ⟨hT, hC, hV, hI, hS, ⟨hB.1, ⟨hB.2.1.1, hB.2.1.2.1, by show (1 : Int) = dep + 1; omega⟩, hB.2.2⟩, hF, hX, hZ, hN⟩
end
/-! What a token is, on either side -/
section
variable {s a v b k am sg lt wd : Int}
theorem sgn_3 {c : Int} (h : c = 40 ∨ c = 41 ∨ c = 123 ∨ c = 125 ∨ c = 44 ∨ c = 59 ∨ c = 61 ∨ c = 43 ∨ c = 45 ∨ c = 42 ∨ c = 60) : sgn c = 3 := if_pos h
theorem tk_sg (h : tkR s a v b k am sg lt wd) {c : Int} (hc : c = 40 ∨ c = 41 ∨ c = 123 ∨ c = 125 ∨ c = 44 ∨ c = 59 ∨ c = 61 ∨ c = 43 ∨ c = 45 ∨ c = 42 ∨ c = 60) : (k = 3 ∧ sg = c) ↔ s = c := by
  obtain ⟨_, h⟩ := h
  rcases h with h | h | h | h | h | h | h | h | h | h
  all_goals first
    | exact ⟨fun q => by omega, fun q => by omega⟩
    | (obtain ⟨h1, h2, h3, h4⟩ := h
       refine ⟨fun q => by omega, fun q => ?_⟩
       rw [q] at h4
       have := sgn_3 hc
       omega)
theorem tk_end0 (h : tkR s a v b k am sg lt wd) : k = 0 ↔ s = -1 := by
  obtain ⟨_, h⟩ := h
  have q := sgn_b s
  omega
theorem tkq_num (h : tkR s a v b k am sg lt wd) : (k = 2 ↔ s = -4) ∧ (s = -4 → 0 ≤ v) := by
  obtain ⟨_, h⟩ := h
  have q := sgn_b s
  omega
theorem tk_name (h : tkR s a v b k am sg lt wd) : ((k = 1 ∧ (¬ (wd = 6830 ∨ wd = 294 ∨ wd = 176741 ∨ wd = 409072 ∨ wd = 239301)) ∧ lt ≤ 6) ↔ s = -2) ∧ (s = -2 → wd = v ∧ 0 < v ∧ v < 1073741824) := by
  obtain ⟨_, h⟩ := h
  unfold own at h
  have q := sgn_b s
  omega
theorem tkq_word (h : tkR s a v b k am sg lt wd) : ((k = 1 ∧ wd = 6830) ↔ s = -5) ∧ ((k = 1 ∧ wd = 294) ↔ s = -6) ∧ ((k = 1 ∧ wd = 176741) ↔ s = -7) ∧ ((k = 1 ∧ wd = 409072) ↔ s = -8) ∧ ((k = 1 ∧ wd = 239301) ↔ s = -9) := by
  obtain ⟨_, h⟩ := h
  unfold own at h
  have q := sgn_b s
  refine ⟨?_, ?_, ?_, ?_, ?_⟩ <;> omega
theorem tk_nmF (h : tkR s a v b k am sg lt wd) (hn : ¬ s = -2) : nmF k wd = nF s := by
  obtain ⟨_, h⟩ := h
  unfold own at h
  have q := sgn_b s
  unfold nmF nF
  by_cases c : k = 1 ∧ ¬ (wd = 6830 ∨ wd = 294 ∨ wd = 176741 ∨ wd = 409072 ∨ wd = 239301)
  · rw [if_pos c, if_pos (by omega)]
  · rw [if_neg c, if_neg (by omega)]
theorem tk_op (h : tkR s a v b k am sg lt wd) {r : Int → Int} {m : Int} : (rOK k am wd lt r m ↔ oOK s v r m) ∧ (oOK s v r m → rS k = s ∧ rWv k am wd = v) ∧ (¬ oOK s v r m → rF k wd lt = oF s) := by
  have n := (tkq_num h)
  have w := (tk_name h)
  by_cases c4 : s = -4
  · have k2 : k = 2 := n.1.mpr c4
    have hv : (v ≤ 999 ∧ am = v) ∨ (999 < v ∧ 999 < am) := by obtain ⟨_, h⟩ := h; omega
    refine ⟨?_, fun q => ?_, fun q => ?_⟩
    · unfold rOK oOK; omega
    · unfold oOK at q
      exact ⟨(if_pos k2).trans c4.symm, (if_pos k2).trans (by omega)⟩
    · unfold rF oF; rw [if_pos k2, if_pos c4]
  · have k2 : ¬ k = 2 := fun z => c4 (n.1.mp z)
    by_cases c2 : s = -2
    · have z := w.1.mpr c2
      have y := (w.2 c2).1
      rw [← y]
      refine ⟨?_, fun q => ?_, fun q => ?_⟩
      · unfold rOK oOK; omega
      · exact ⟨(if_neg k2).trans c2.symm, if_neg k2⟩
      · unfold rF oF; rw [if_neg k2, if_pos ⟨z.1, z.2.1⟩, if_neg (by omega), if_neg c4, if_pos c2]
    · have z : ¬ (k = 1 ∧ (¬ (wd = 6830 ∨ wd = 294 ∨ wd = 176741 ∨ wd = 409072 ∨ wd = 239301)) ∧ lt ≤ 6) := fun z => c2 (w.1.mp z)
      have no : ¬ oOK s v r m := by unfold oOK; omega
      refine ⟨⟨fun q => ?_, fun q => absurd q no⟩, fun q => absurd q no, fun _ => ?_⟩
      · exfalso; unfold rOK at q
        rcases q with q | q
        · exact k2 q.1
        · exact z ⟨q.1, q.2.1, q.2.2.1⟩
      · have nm := tk_nmF h c2
        unfold nmF nF at nm
        unfold rF oF
        rw [if_neg k2, if_neg c4, if_neg c2]
        by_cases c : k = 1 ∧ ¬ (wd = 6830 ∨ wd = 294 ∨ wd = 176741 ∨ wd = 409072 ∨ wd = 239301)
        · rw [if_pos c] at nm ⊢
          rw [if_pos (by omega)]; exact nm
        · rw [if_neg c] at nm ⊢
          exact nm
theorem tk_gS (h : tkR s a v b k am sg lt wd) : (gS k sg = -1 ↔ kS s = 0) ∧ (¬ kS s = 0 → gS k sg = kS s ∧ 1 ≤ kS s ∧ kS s ≤ 5) := by
  have g := fun c hc => tk_sg h (c := c) hc
  have g43 := g 43 (by decide); have g45 := g 45 (by decide); have g42 := g 42 (by decide); have g60 := g 60 (by decide); have g61 := g 61 (by decide)
  unfold gS kS
  by_cases c1 : s = 43
  · have z := g43.mpr c1
    rw [if_pos z.1, if_pos z.2, if_pos c1]; omega
  · by_cases c2 : s = 45
    · have z := g45.mpr c2
      rw [if_pos z.1, if_neg (by omega), if_pos z.2, if_neg c1, if_pos c2]; omega
    · by_cases c3 : s = 42
      · have z := g42.mpr c3
        rw [if_pos z.1, if_neg (by omega), if_neg (by omega), if_pos z.2, if_neg c1, if_neg c2, if_pos c3]; omega
      · by_cases c4 : s = 60
        · have z := g60.mpr c4
          rw [if_pos z.1, if_neg (by omega), if_neg (by omega), if_neg (by omega), if_pos z.2, if_neg c1, if_neg c2, if_neg c3, if_pos c4]; omega
        · by_cases c5 : s = 61
          · have z := g61.mpr c5
            rw [if_pos z.1, if_neg (by omega), if_neg (by omega), if_neg (by omega), if_neg (by omega), if_pos z.2, if_neg c1, if_neg c2, if_neg c3, if_neg c4, if_pos c5]; omega
          · rw [if_neg c1, if_neg c2, if_neg c3, if_neg c4, if_neg c5]
            refine ⟨⟨fun _ => rfl, fun _ => ?_⟩, fun q => absurd rfl q⟩
            by_cases k3 : k = 3
            · rw [if_pos k3, if_neg (fun z => c1 (g43.mp ⟨k3, z⟩)), if_neg (fun z => c2 (g45.mp ⟨k3, z⟩)), if_neg (fun z => c3 (g42.mp ⟨k3, z⟩)), if_neg (fun z => c4 (g60.mp ⟨k3, z⟩)), if_neg (fun z => c5 (g61.mp ⟨k3, z⟩))]
            · rw [if_neg k3]
end
/-- the reference's memory but for what reading changes: in bank b, behind lines F and sites S, at function g -/
def frX (b F S g : Int) (τ τ' : Nat → Int → Int) : Prop :=
  (∀ c : Nat, 467 < c → ¬ (469 ≤ c ∧ c ≤ 502) → τ' c = τ c) ∧
  (∀ k : Int, ¬ (k = 2 ∨ (4 ≤ k ∧ k ≤ 10) ∨ k = 12 ∨ k = 47 ∨ k = 48) → τ' 467 k = τ 467 k) ∧
  (∀ (c : Nat) (j : Int), 469 ≤ c → c ≤ 471 → ¬ j = b → τ' c j = τ c j) ∧
  (∀ (c : Nat) (j : Int), 472 ≤ c → c ≤ 479 → ¬ j = 8 * b + g → τ' c j = τ c j) ∧
  (∀ (c : Nat) (j : Int), 480 ≤ c → c ≤ 491 → ¬ (60 * b + F ≤ j ∧ j < 60 * b + 60) → τ' c j = τ c j) ∧
  ∀ (c : Nat) (j : Int), 492 ≤ c → c ≤ 499 → ¬ (16 * b + S ≤ j ∧ j < 16 * b + 16) → τ' c j = τ c j
section
variable {b F S g : Int} {τ τ' τ'' : Nat → Int → Int}
theorem frX_refl : frX b F S g τ τ := ⟨fun _ _ _ => rfl, fun _ _ => rfl, fun _ _ _ _ _ => rfl, fun _ _ _ _ _ => rfl, fun _ _ _ _ _ => rfl, fun _ _ _ _ _ => rfl⟩
theorem frX_tr (h : frX b F S g τ τ') (k : frX b F S g τ' τ'') : frX b F S g τ τ'' := ⟨fun c a d => (k.1 c a d).trans (h.1 c a d), fun j a => (k.2.1 j a).trans (h.2.1 j a), fun c j x y z => (k.2.2.1 c j x y z).trans (h.2.2.1 c j x y z), fun c j x y z => (k.2.2.2.1 c j x y z).trans (h.2.2.2.1 c j x y z), fun c j x y z => (k.2.2.2.2.1 c j x y z).trans (h.2.2.2.2.1 c j x y z), fun c j x y z => (k.2.2.2.2.2 c j x y z).trans (h.2.2.2.2.2 c j x y z)⟩
theorem frX_wk {F' S' : Int} (h : frX b F S g τ τ') (hF : F' ≤ F) (hS : S' ≤ S) : frX b F' S' g τ τ' := ⟨h.1, h.2.1, h.2.2.1, h.2.2.2.1, fun c j x y z => h.2.2.2.2.1 c j x y (fun q => z ⟨by omega, q.2⟩), fun c j x y z => h.2.2.2.2.2 c j x y (fun q => z ⟨by omega, q.2⟩)⟩
theorem frX_adv (h : frX b F S g τ τ') : frX b F S g τ (adv τ') := by
  refine frX_tr h ⟨fun c a d => ?_, fun k a => adv_at (by omega), fun c j x y z => adv_at (by omega), fun c j x y z => adv_at (by omega), fun c j x y z => adv_at (by omega), fun c j x y z => adv_at (by omega)⟩
  funext k
  exact adv_at (by omega)
theorem frX_up {k v : Int} (hk : k = 2 ∨ (4 ≤ k ∧ k ≤ 10) ∨ k = 12 ∨ k = 47 ∨ k = 48) (h : frX b F S g τ τ') : frX b F S g τ (zup τ' 467 k v) := by
  refine frX_tr h ⟨fun c a d => ?_, fun j a => by unfold zup; rw [if_neg (fun q => a (by rw [q.2]; exact hk))], fun c j x y z => if_neg (fun q => by omega), fun c j x y z => if_neg (fun q => by omega), fun c j x y z => if_neg (fun q => by omega), fun c j x y z => if_neg (fun q => by omega)⟩
  funext j
  exact if_neg (fun q => by omega)
theorem frX_row {c : Nat} {r : Int → Int} (hc : 469 ≤ c ∧ c ≤ 502) (hr : ∀ j : Int, (c ≤ 471 → ¬ j = b) → (472 ≤ c → c ≤ 479 → ¬ j = 8 * b + g) → (480 ≤ c → c ≤ 491 → ¬ (60 * b + F ≤ j ∧ j < 60 * b + 60)) → (492 ≤ c → c ≤ 499 → ¬ (16 * b + S ≤ j ∧ j < 16 * b + 16)) → c ≤ 499 → r j = τ' c j) (h : frX b F S g τ τ') : frX b F S g τ (zrow τ' c r) := by
  have key : ∀ (x : Nat) (j : Int), (x = c → r j = τ' c j) → zrow τ' c r x j = τ' x j := fun x j w => by
    unfold zrow
    split
    · rename_i e; rw [e]; exact w e
    · rfl
  refine frX_tr h ⟨fun x a d => ?_, fun j a => key _ _ (fun e => by omega), fun x j a y z => key _ _ (fun e => hr j (fun _ => z) (fun q => by omega) (fun q => by omega) (fun q => by omega) (by omega)), fun x j a y z => key _ _ (fun e => hr j (fun q => by omega) (fun _ _ => z) (fun q => by omega) (fun q => by omega) (by omega)), fun x j a y z => key _ _ (fun e => hr j (fun q => by omega) (fun _ q => by omega) (fun _ _ => z) (fun q => by omega) (by omega)), fun x j a y z => key _ _ (fun e => hr j (fun q => by omega) (fun _ q => by omega) (fun _ q => by omega) (fun _ _ => z) (by omega))⟩
  funext j
  exact key _ _ (fun e => by omega)
theorem frX_bk {c : Nat} {r : Int → Int} (hc : 469 ≤ c ∧ c ≤ 471) (hr : ∀ j : Int, ¬ j = b → r j = τ' c j) (h : frX b F S g τ τ') : frX b F S g τ (zrow τ' c r) := frX_row (by omega) (fun j q _ _ _ _ => hr j (q hc.2)) h
theorem frX_fn {c : Nat} {r : Int → Int} (hc : 472 ≤ c ∧ c ≤ 479) (hr : ∀ j : Int, ¬ j = 8 * b + g → r j = τ' c j) (h : frX b F S g τ τ') : frX b F S g τ (zrow τ' c r) := frX_row (by omega) (fun j _ q _ _ _ => hr j (q hc.1 hc.2)) h
theorem frX_ln {c : Nat} {r : Int → Int} (hc : 480 ≤ c ∧ c ≤ 491) (hr : ∀ j : Int, ¬ (60 * b + F ≤ j ∧ j < 60 * b + 60) → r j = τ' c j) (h : frX b F S g τ τ') : frX b F S g τ (zrow τ' c r) := frX_row (by omega) (fun j _ _ q _ _ => hr j (q hc.1 hc.2)) h
theorem frX_st {c : Nat} {r : Int → Int} (hc : 492 ≤ c ∧ c ≤ 499) (hr : ∀ j : Int, ¬ (16 * b + S ≤ j ∧ j < 16 * b + 16) → r j = τ' c j) (h : frX b F S g τ τ') : frX b F S g τ (zrow τ' c r) := frX_row (by omega) (fun j _ _ _ q _ => hr j (q hc.1 hc.2)) h
theorem frX_nm {c : Nat} {r : Int → Int} (hc : 500 ≤ c ∧ c ≤ 502) (h : frX b F S g τ τ') : frX b F S g τ (zrow τ' c r) := frX_row (by omega) (fun j _ _ _ _ q => by omega) h
end
theorem pO_neg {j k l v i : Int} {r : Int → Int} (h : ¬ i = l) : pO j k r l v i = r i := by
  unfold pO; split
  · exact zs_neg h
  · rfl
section
variable {b : Int} {now : Int} {tx : Int → Int} {N : Int} {so : Int → Int} {st : Int → Int} {va : Int → Int} {i : Int} {v : Int} {nm : Int → Int} {nf : Int} {ns : Int} {nl : Int} {dep : Int} {op : Int → Int} {br : Int → Int} {cN : Int → Int} {cP : Int → Int} {cO : Int → Int} {sI : Int → Int} {sL : Int → Int} {sM : Int → Int} {fN : Int → Int} {fL : Int → Int} {fP : Int → Int} {fF : Int → Int} {fS : Int → Int} {fG : Int → Int} {K : Int → Int} {TG : Int → Int} {FI : Int → Int} {SE : Int → Int} {TH : Int → Int} {SI : Int → Int} {DP : Int → Int} {BR : Int → Int} {WE : Int → Int} {MI : Int → Int} {EN : Int → Int} {AR : Int → Int} {LA : Int → Int} {g : Int} {gg : Int} {c : Int} {τ : Nat → Int → Int}
theorem gTK_b (hT : gTK tx so st va N i (τ 468) (τ 467 3) (τ 467 2) (τ 467 5) (τ 467 6) (τ 467 7) (τ 467 8) (τ 467 9) (τ 467 10)) : (0 ≤ τ 467 3 ∧ τ 467 3 ≤ 400) ∧ (0 ≤ τ 467 2 ∧ τ 467 2 ≤ τ 467 3) ∧ (∀ xi : Int, 0 ≤ xi → xi < τ 467 3 → 0 ≤ zand (τ 468 xi) 255) ∧ (0 ≤ τ 467 6 ∧ τ 467 6 ≤ 400) ∧ τ 467 6 = st i := by
  obtain ⟨⟨t1, t2, t3, t4, t5, t6⟩, i1, q, k⟩ := hT
  have p := psT_in (tx := tx) (n := τ 467 3) (i := i + 1) (by omega)
  have s0 : 0 ≤ st i ∧ st i ≤ 400 := by
    by_cases e : i = N
    · rw [e, t5]; omega
    · obtain ⟨u1, u2, _⟩ := t2 i i1.1 (by omega)
      have pi := psT_in (tx := tx) (n := τ 467 3) (i := i) (by omega)
      have sl := skp_le (a := cB tx (τ 467 3)) (n := τ 467 3) (q := psT (cB tx (τ 467 3)) (τ 467 3) i)
      rw [u2]; omega
  have k6 := k.1
  refine ⟨by omega, by rw [q]; exact p, fun x a b => ?_, by rw [k6]; exact s0, k6⟩
  have z := t6 x a b
  rw [z.1]; exact z.2.1
end
