/-! Lengths, copies, constants, new cells: sound. -/
theorem s_aast {l : Launch} {G : zG} {mi pc nx : Nat} (hd : decode (zby mi) pc = .ok (.aastore, 1)) (hn : pc + 1 = nx) : zSnd l G mi pc (o_aast zshp nx) := by
  subst hn
  intro d uc us call k0 Q ls st σ h hcl hk0 p e R s m args below meth c H locs la I FT Rp S E V U1 U2 ok okl
  obtain _ | ⟨y | y | y, _ | ⟨i | i | i, _ | ⟨x | x | x, st⟩⟩⟩ := st <;> try exact False.elim h
  obtain ⟨hs, hlt⟩ := zis_of h.1
  have hx : 16 ≤ x := by
    rcases Nat.lt_or_ge x 16 with q | q
    · have := zshp_z x q
      omega
    · exact q
  obtain ⟨hy16, hylt, hyw, hys⟩ := zobj_at (G := G) h.2.2.1 (by omega)
  have hi : in32 i := zh1 (zt1 ok)
  have hw := zws_at (G := G) (σ := σ) (c := x) hx hlt
  rw [zcell_r hs] at hw
  have hb := h.2.1.2
  rw [zlen_hi hx] at hb
  have ht := tn hi h.2.1.1
  rw [List.map_cons, List.map_cons, List.map_cons, show zcv G (Sum.inr (Sum.inr x)) = .ref (zloc G x) from zloc_cv (by omega), show zcv G (Sum.inr (Sum.inr y)) = .ref (zloc G y) from zloc_cv (by omega)]
  refine va_astq (r := (RX1, TX1, 15)) I.1 I.2.1 Rp.1 Rp.2.1 (zws_D G σ) S (x - 16) 4 (y - 16) 1 hw rfl hyw rfl (vin hi h.2.1.1 hb) hd (fun H1 locs1 hP1 hD1 S1 => ?_)
  refine hk0 _ _ _ _ _ _ h.2.2.2 p e R s m args below meth c H1 locs1 la I FT (zRep_set (σ' := (zupN σ.1 x i.toNat y, σ.2.1, σ.2.2.1, σ.2.2.2)) (c := x) Rp S S1 hx hlt hP1 rfl (fun c q k => zupN_c q) (fun c q k => rfl) (fun c q k => rfl) ?_ (fun j hj => Rp.2.2.2.1 x j hj)) S1 E V U1 U2 (zt1 (zt1 (zt1 ok))) okl
  rw [zcell_r hs]
  refine congrArg (fun z => (Sum.inl (G.2.2.2.2 17, (zshp x).2, Sum.inr (Sum.inr (Sum.inr (Sum.inr z)))) : va_E)) ?_
  funext j
  unfold va_up
  by_cases hj : j = (Int32.ofInt i).toNatClampNeg
  · rw [if_pos hj]
    show zrf G (zupN σ.1 x i.toNat y x j) = _
    rw [show j = i.toNat by omega, zupN_at]
    unfold zrf
    rw [if_neg (by omega)]
  · rw [if_neg hj]
    show zrf G (zupN σ.1 x i.toNat y x j) = _
    rw [zupN_k (by omega)]
theorem s_alen14 {l : Launch} {G : zG} {mi pc nx : Nat} (hd : decode (zby mi) pc = .ok (.arraylength, 1)) (hn : pc + 1 = nx) : zSnd l G mi pc (o_alen zshp nx 14) := by
  subst hn
  intro d uc us call k0 Q ls st σ h hcl hk0 p e R s m args below meth c H locs la I FT Rp S E V U1 U2 ok okl
  obtain _ | ⟨x | x | x, st⟩ := st <;> try exact False.elim h
  obtain ⟨hs, hlt⟩ := zis_of h.1
  have hle := zshp_le x
  rcases Nat.lt_or_ge x 16 with hx | hx
  · obtain ⟨h1, h2⟩ := zshp_i x hx hs
    obtain ⟨n, e1, e2, scr, a1, a2, a3, a4, a5⟩ := zX_at Rp.2.2.2.2.2.1 h1 h2
    have hz : zlen zshp σ.2.2.1 x = (n : Int) := by rw [zlen_lo hx, Rp.2.2.2.2.2.2.1 x hx, e1]
    have g := hk0 _ _ _ _ _ _ h.2 p e R s m args below meth c H locs la I FT Rp S E V U1 U2 (zc1 (show in32 _ by rw [hz]; unfold in32; omega) (zt1 ok)) okl
    rw [List.map_cons, show zcv G (Sum.inr (Sum.inr x)) = .ref (G.2.1 x) from zlow_cv hx (by omega)]
    exact W.alen (n := Int32.ofInt (zlen zshp σ.2.2.1 x)) I.1 I.2.1 a1 a2 (by rw [a4, hz]; exact Int32.ofInt_eq_ofNat.symm) rfl rfl hd g
  · have g := hk0 _ _ _ _ _ _ h.2 p e R s m args below meth c H locs la I FT Rp S E V U1 U2 (zc1 (show in32 _ by rw [zlen_hi hx]; unfold in32; omega) (zt1 ok)) okl
    have hw := zws_at (G := G) (σ := σ) (c := x) hx hlt
    rw [zcell_i hs (Or.inr (Or.inl rfl))] at hw
    rw [List.map_cons, show zcv G (Sum.inr (Sum.inr x)) = .ref (zloc G x) from zloc_cv (by omega)]
    refine va_alen (v := Int32.ofInt (zlen zshp σ.2.2.1 x)) I.1 I.2.1 Rp.1 Rp.2.1 (x - 16) 1 hw (ty := .int) rfl (by rw [zlen_hi hx]; exact Int32.ofInt_eq_ofNat.symm) hd g
theorem s_alen13 {l : Launch} {G : zG} {mi pc nx : Nat} (hd : decode (zby mi) pc = .ok (.arraylength, 1)) (hn : pc + 1 = nx) : zSnd l G mi pc (o_alen zshp nx 13) := by
  subst hn
  intro d uc us call k0 Q ls st σ h hcl hk0 p e R s m args below meth c H locs la I FT Rp S E V U1 U2 ok okl
  obtain _ | ⟨x | x | x, st⟩ := st <;> try exact False.elim h
  obtain ⟨hs, hlt⟩ := zis_of h.1
  have hle := zshp_le x
  rcases Nat.lt_or_ge x 16 with hx | hx
  · obtain ⟨h1, h2⟩ := zshp_b x hx hs
    obtain ⟨-, -, -, cell, a1, a2, a3, a4, a5, a6, a7⟩ := (Rp.2.2.2.2.2.1.2.2.2.2.2.2.2.2.2.2.1).1 (x - 10) (by omega)
    dsimp only at a1
    have hx10 : 10 + (x - 10) = x := by omega
    have hl := zstr_len G (x - 10) (by omega)
    rw [hx10] at hl a1
    have hz : zlen zshp σ.2.2.1 x = ((([3, 2, 4, 4, 4] : List Nat).getD (x - 10) 0 : Nat) : Int) := by rw [zlen_lo hx, Rp.2.2.2.2.2.2.1 x hx, hl]
    have hsm : ∀ i, i < 5 → (([3, 2, 4, 4, 4] : List Nat).getD i 0) ≤ 4 := by decide
    have hs4 := hsm (x - 10) (by omega)
    have g := hk0 _ _ _ _ _ _ h.2 p e R s m args below meth c H locs la I FT Rp S E V U1 U2 (zc1 (show in32 _ by rw [hz]; unfold in32; omega) (zt1 ok)) okl
    rw [List.map_cons, show zcv G (Sum.inr (Sum.inr x)) = .ref (G.2.1 x) from zlow_cv hx (by omega)]
    exact W.alen (n := Int32.ofInt (zlen zshp σ.2.2.1 x)) I.1 I.2.1 a1 a2 (by rw [a5, hz]; exact Int32.ofInt_eq_ofNat.symm) rfl rfl hd g
  · have g := hk0 _ _ _ _ _ _ h.2 p e R s m args below meth c H locs la I FT Rp S E V U1 U2 (zc1 (show in32 _ by rw [zlen_hi hx]; unfold in32; omega) (zt1 ok)) okl
    have hw := zws_at (G := G) (σ := σ) (c := x) hx hlt
    rw [zcell_i hs (Or.inl rfl)] at hw
    rw [List.map_cons, show zcv G (Sum.inr (Sum.inr x)) = .ref (zloc G x) from zloc_cv (by omega)]
    refine va_alen (v := Int32.ofInt (zlen zshp σ.2.2.1 x)) I.1 I.2.1 Rp.1 Rp.2.1 (x - 16) 0 hw (ty := .byte) rfl (by rw [zlen_hi hx]; exact Int32.ofInt_eq_ofNat.symm) hd g
theorem s_alen15 {l : Launch} {G : zG} {mi pc nx : Nat} (hd : decode (zby mi) pc = .ok (.arraylength, 1)) (hn : pc + 1 = nx) : zSnd l G mi pc (o_alen zshp nx 15) := by
  subst hn
  intro d uc us call k0 Q ls st σ h hcl hk0 p e R s m args below meth c H locs la I FT Rp S E V U1 U2 ok okl
  obtain _ | ⟨x | x | x, st⟩ := st <;> try exact False.elim h
  obtain ⟨hs, hlt⟩ := zis_of h.1
  have hle := zshp_le x
  have hx : 16 ≤ x := by
    rcases Nat.lt_or_ge x 16 with q | q
    · have := zshp_z x q
      omega
    · exact q
  · have g := hk0 _ _ _ _ _ _ h.2 p e R s m args below meth c H locs la I FT Rp S E V U1 U2 (zc1 (show in32 _ by rw [zlen_hi hx]; unfold in32; omega) (zt1 ok)) okl
    have hw := zws_at (G := G) (σ := σ) (c := x) hx hlt
    rw [zcell_j hs] at hw
    rw [List.map_cons, show zcv G (Sum.inr (Sum.inr x)) = .ref (zloc G x) from zloc_cv (by omega)]
    refine va_alen (v := Int32.ofInt (zlen zshp σ.2.2.1 x)) I.1 I.2.1 Rp.1 Rp.2.1 (x - 16) 2 hw (ty := .long) rfl (by rw [zlen_hi hx]; exact Int32.ofInt_eq_ofNat.symm) hd g
theorem s_alen17 {l : Launch} {G : zG} {mi pc nx : Nat} (hd : decode (zby mi) pc = .ok (.arraylength, 1)) (hn : pc + 1 = nx) : zSnd l G mi pc (o_alen zshp nx 17) := by
  subst hn
  intro d uc us call k0 Q ls st σ h hcl hk0 p e R s m args below meth c H locs la I FT Rp S E V U1 U2 ok okl
  obtain _ | ⟨x | x | x, st⟩ := st <;> try exact False.elim h
  obtain ⟨hs, hlt⟩ := zis_of h.1
  have hle := zshp_le x
  have hx : 16 ≤ x := by
    rcases Nat.lt_or_ge x 16 with q | q
    · have := zshp_z x q
      omega
    · exact q
  · have g := hk0 _ _ _ _ _ _ h.2 p e R s m args below meth c H locs la I FT Rp S E V U1 U2 (zc1 (show in32 _ by rw [zlen_hi hx]; unfold in32; omega) (zt1 ok)) okl
    have hw := zws_at (G := G) (σ := σ) (c := x) hx hlt
    rw [zcell_r hs] at hw
    rw [List.map_cons, show zcv G (Sum.inr (Sum.inr x)) = .ref (zloc G x) from zloc_cv (by omega)]
    refine va_alen (v := Int32.ofInt (zlen zshp σ.2.2.1 x)) I.1 I.2.1 Rp.1 Rp.2.1 (x - 16) 4 hw (ty := .object "CallOpener$Call") rfl (by rw [zlen_hi hx]; exact Int32.ofInt_eq_ofNat.symm) hd g
theorem s_acp14 {l : Launch} {G : zG} {mi pc nx idx : Nat} (hw1 : Cond.methodLink (zyn mi).cls idx arraycopyName ∈ zwd) (hw2 : Cond.native arraycopyName ∈ zwd) (hw3 : Cond.static arraycopyName ∈ zwd) (hw4 : Cond.initialized "java/lang/System" ∈ zwd) (hd : decode (zby mi) pc = .ok (.invokestatic idx, 3)) (hn : pc + 3 = nx) : zSnd l G mi pc (o_acpw zshp nx 14) := by
  subst hn
  intro d uc us call k0 Q ls st σ hh hcl hk0 p e R s m args below meth c H locs la I FT Rp S E V U1 U2 ok okl
  obtain ⟨hwd, h⟩ := hh
  have hwd := Nat.le_of_ble_eq_true hwd
  obtain _ | ⟨n | n | n, _ | ⟨q | q | q, _ | ⟨b | b | b, _ | ⟨p0 | p0 | p0, _ | ⟨a | a | a, st⟩⟩⟩⟩⟩ := st <;> try exact False.elim h
  obtain ⟨hsa, hlta, ha16⟩ := zis2 h.1
  obtain ⟨hsb, hltb, hb16⟩ := zis2 h.2.1
  obtain ⟨b1, b2, b3, b4, b5⟩ := h.2.2.1
  have on : in32 n := zh1 ok
  have oq : in32 q := zh1 (zt1 ok)
  have op : in32 p0 := zh1 (zt1 (zt1 (zt1 ok)))
  have hwa := zws_at (G := G) (σ := σ) (c := a) ha16 hlta
  have hwb := zws_at (G := G) (σ := σ) (c := b) hb16 hltb
  rw [zcell_i hsa (Or.inr (Or.inl rfl))] at hwa
  rw [zcell_i hsb (Or.inr (Or.inl rfl))] at hwb
  rw [zlen_hi ha16] at b4
  rw [zlen_hi hb16] at b5
  have tn1 := tn on b1
  have tn2 := tn op b2
  have tn3 := tn oq b3
  have neg : ∀ {z : Int}, in32 z → 0 ≤ z → ¬ Int32.ofInt z < 0 := fun hz h0 w => absurd ((i_lt hz i_0).mp w) (by omega)
  have hsum : ((st.map (zcv G)).map fun v => v.category).sum = zwords st := by
    unfold zwords
    rw [List.map_map]
    exact congrArg List.sum (List.map_congr_left fun v _ => zcv_cat2 (zrep_vf Rp) v)
  have hws : zwords (Sum.inl n :: Sum.inl q :: Sum.inr (Sum.inr b) :: Sum.inl p0 :: Sum.inr (Sum.inr a) :: st) = 5 + zwords st := by
    unfold zwords
    simp only [List.map_cons, List.sum_cons, zcat]
    omega
  rw [List.map_cons, List.map_cons, List.map_cons, List.map_cons, List.map_cons, show zcv G (Sum.inr (Sum.inr a)) = .ref (zloc G a) from zloc_cv (by omega), show zcv G (Sum.inr (Sum.inr b)) = .ref (zloc G b) from zloc_cv (by omega)]
  refine va_copyi (ty := .int) I.1 I.2.1 (I.2.2.1.trans V.1.symm) I.2.2.2.1 (I.2.2.2.2.1 _ hw1) (I.2.2.2.2.1 _ hw2) (I.2.2.2.2.1 _ hw3) (I.2.2.2.2.1 _ hw4) Rp.1 Rp.2.1 (zws_D G σ) S (a - 16) (b - 16) 1 1 hwa hwb rfl rfl rfl (neg op b2) (neg oq b3) (neg on b1) (by omega) (by omega) (fun i hi => rfl) (by have := FT.2.2.1; omega) (by
    have h1 := FT.2.2.2
    have h2 : nativeFrameWords "java/lang/System" "arraycopy" 5 + 11 ≤ 40 := by decide +kernel
    omega) hd (fun H1 locs1 hP1 hD1 S1 => ?_)
  refine hk0 _ _ _ _ _ _ h.2.2.2 p e R s m args below meth c H1 locs1 la I FT (zRep_set (σ' := (σ.1, σ.2.1, zcp σ.2.2.1 b a q p0 n, σ.2.2.2)) (c := b) Rp S S1 hb16 hltb hP1 rfl (fun c q k => rfl) (fun c q k => rfl) (fun c w k => ?_) ?_ (fun j hj => ?_)) S1 E V U1 U2 (zt1 (zt1 (zt1 (zt1 (zt1 ok))))) okl
  · show zcp σ.2.2.1 b a q p0 n c k = _
    unfold zcp
    rw [if_neg (fun z => w z.1)]
  · rw [zcell_i hsb (Or.inr (Or.inl rfl))]
    refine congrArg (fun z => (Sum.inl (G.2.2.2.2 14, (zshp b).2, Sum.inl z) : va_E)) ?_
    funext j
    show Int32.ofInt (zcp σ.2.2.1 b a q p0 n b j) = va_cpy _ _ _ _ _ j
    unfold zcp va_cpy
    by_cases hj : q ≤ (j : Int) ∧ (j : Int) < q + n
    · rw [if_pos ⟨rfl, hj⟩, if_pos (by omega)]
      dsimp only
      rw [show ((Int32.ofInt p0).toNatClampNeg + (j - (Int32.ofInt q).toNatClampNeg) : Nat) = (p0 + ((j : Int) - q)).toNat by omega, show (((p0 + ((j : Int) - q)).toNat : Nat) : Int) = p0 + ((j : Int) - q) by omega]
    · rw [if_neg (fun z => hj z.2), if_neg (by omega)]
  · show zin (zty b j) (zcp σ.2.2.1 b a q p0 n b j)
    unfold zcp
    by_cases hj2 : q ≤ j ∧ j < q + n
    · rw [if_pos ⟨rfl, hj2⟩, zty_a hsb (Or.inr (Or.inl ⟨rfl, rfl⟩))]
      have z := Rp.2.2.2.1 a (p0 + (j - q)) (by omega)
      rw [zty_a hsa (Or.inr (Or.inl ⟨rfl, rfl⟩))] at z
      exact z
    · rw [if_neg (fun z => hj2 z.2)]
      exact Rp.2.2.2.1 b j hj
theorem s_acp15 {l : Launch} {G : zG} {mi pc nx idx : Nat} (hw1 : Cond.methodLink (zyn mi).cls idx arraycopyName ∈ zwd) (hw2 : Cond.native arraycopyName ∈ zwd) (hw3 : Cond.static arraycopyName ∈ zwd) (hw4 : Cond.initialized "java/lang/System" ∈ zwd) (hd : decode (zby mi) pc = .ok (.invokestatic idx, 3)) (hn : pc + 3 = nx) : zSnd l G mi pc (o_acpw zshp nx 15) := by
  subst hn
  intro d uc us call k0 Q ls st σ hh hcl hk0 p e R s m args below meth c H locs la I FT Rp S E V U1 U2 ok okl
  obtain ⟨hwd, h⟩ := hh
  have hwd := Nat.le_of_ble_eq_true hwd
  obtain _ | ⟨n | n | n, _ | ⟨q | q | q, _ | ⟨b | b | b, _ | ⟨p0 | p0 | p0, _ | ⟨a | a | a, st⟩⟩⟩⟩⟩ := st <;> try exact False.elim h
  obtain ⟨hsa, hlta, ha16⟩ := zis2 h.1
  obtain ⟨hsb, hltb, hb16⟩ := zis2 h.2.1
  obtain ⟨b1, b2, b3, b4, b5⟩ := h.2.2.1
  have on : in32 n := zh1 ok
  have oq : in32 q := zh1 (zt1 ok)
  have op : in32 p0 := zh1 (zt1 (zt1 (zt1 ok)))
  have hwa := zws_at (G := G) (σ := σ) (c := a) ha16 hlta
  have hwb := zws_at (G := G) (σ := σ) (c := b) hb16 hltb
  rw [zcell_j hsa] at hwa
  rw [zcell_j hsb] at hwb
  rw [zlen_hi ha16] at b4
  rw [zlen_hi hb16] at b5
  have tn1 := tn on b1
  have tn2 := tn op b2
  have tn3 := tn oq b3
  have neg : ∀ {z : Int}, in32 z → 0 ≤ z → ¬ Int32.ofInt z < 0 := fun hz h0 w => absurd ((i_lt hz i_0).mp w) (by omega)
  have hsum : ((st.map (zcv G)).map fun v => v.category).sum = zwords st := by
    unfold zwords
    rw [List.map_map]
    exact congrArg List.sum (List.map_congr_left fun v _ => zcv_cat2 (zrep_vf Rp) v)
  have hws : zwords (Sum.inl n :: Sum.inl q :: Sum.inr (Sum.inr b) :: Sum.inl p0 :: Sum.inr (Sum.inr a) :: st) = 5 + zwords st := by
    unfold zwords
    simp only [List.map_cons, List.sum_cons, zcat]
    omega
  rw [List.map_cons, List.map_cons, List.map_cons, List.map_cons, List.map_cons, show zcv G (Sum.inr (Sum.inr a)) = .ref (zloc G a) from zloc_cv (by omega), show zcv G (Sum.inr (Sum.inr b)) = .ref (zloc G b) from zloc_cv (by omega)]
  refine va_copyl (ty := .long) I.1 I.2.1 (I.2.2.1.trans V.1.symm) I.2.2.2.1 (I.2.2.2.2.1 _ hw1) (I.2.2.2.2.1 _ hw2) (I.2.2.2.2.1 _ hw3) (I.2.2.2.2.1 _ hw4) Rp.1 Rp.2.1 (zws_D G σ) S (a - 16) (b - 16) 2 2 hwa hwb rfl rfl rfl (neg op b2) (neg oq b3) (neg on b1) (by omega) (by omega) (fun i hi => rfl) (by have := FT.2.2.1; omega) (by
    have h1 := FT.2.2.2
    have h2 : nativeFrameWords "java/lang/System" "arraycopy" 5 + 11 ≤ 40 := by decide +kernel
    omega) hd (fun H1 locs1 hP1 hD1 S1 => ?_)
  refine hk0 _ _ _ _ _ _ h.2.2.2 p e R s m args below meth c H1 locs1 la I FT (zRep_set (σ' := (σ.1, σ.2.1, zcp σ.2.2.1 b a q p0 n, σ.2.2.2)) (c := b) Rp S S1 hb16 hltb hP1 rfl (fun c q k => rfl) (fun c q k => rfl) (fun c w k => ?_) ?_ (fun j hj => ?_)) S1 E V U1 U2 (zt1 (zt1 (zt1 (zt1 (zt1 ok))))) okl
  · show zcp σ.2.2.1 b a q p0 n c k = _
    unfold zcp
    rw [if_neg (fun z => w z.1)]
  · rw [zcell_j hsb]
    refine congrArg (fun z => (Sum.inl (G.2.2.2.2 15, (zshp b).2, Sum.inr (Sum.inl z)) : va_E)) ?_
    funext j
    show Int64.ofInt (zcp σ.2.2.1 b a q p0 n b j) = va_cpy _ _ _ _ _ j
    unfold zcp va_cpy
    by_cases hj : q ≤ (j : Int) ∧ (j : Int) < q + n
    · rw [if_pos ⟨rfl, hj⟩, if_pos (by omega)]
      dsimp only
      rw [show ((Int32.ofInt p0).toNatClampNeg + (j - (Int32.ofInt q).toNatClampNeg) : Nat) = (p0 + ((j : Int) - q)).toNat by omega, show (((p0 + ((j : Int) - q)).toNat : Nat) : Int) = p0 + ((j : Int) - q) by omega]
    · rw [if_neg (fun z => hj z.2), if_neg (by omega)]
  · show zin (zty b j) (zcp σ.2.2.1 b a q p0 n b j)
    unfold zcp
    by_cases hj2 : q ≤ j ∧ j < q + n
    · rw [if_pos ⟨rfl, hj2⟩, zty_a hsb (Or.inr (Or.inr (Or.inl ⟨rfl, rfl⟩)))]
      have z := Rp.2.2.2.1 a (p0 + (j - q)) (by omega)
      rw [zty_a hsa (Or.inr (Or.inr (Or.inl ⟨rfl, rfl⟩)))] at z
      exact z
    · rw [if_neg (fun z => hj2 z.2)]
      exact Rp.2.2.2.1 b j hj
