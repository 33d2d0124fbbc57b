/-! Rows: sound. -/
theorem tn {i : Int} (h : in32 i) (h0 : 0 ≤ i) : (((Int32.ofInt i).toNatClampNeg : Nat) : Int) = i := by
  show (((Int32.ofInt i).toInt.toNat : Nat) : Int) = i
  rw [i_ti h]
  omega
theorem vin {i : Int} {n : Nat} (h : in32 i) (h0 : 0 ≤ i) (h1 : i < (n : Int)) : vp_in (Int32.ofInt i) n := vp_in_iff.mpr (by rw [i_ti h]; exact ⟨h0, h1⟩)
theorem zlen_hi {M : Nat → Int → Int} {c : Nat} (h : 16 ≤ c) : zlen zshp M c = ((zshp c).2 : Int) := by
  unfold zlen
  have : Nat.blt c 16 = false := by
    cases hb : Nat.blt c 16 with
    | false => rfl
    | true =>
      have := Nat.le_of_ble_eq_true hb
      omega
  rw [this]
  rfl
theorem zlen_lo {M : Nat → Int → Int} {c : Nat} (h : c < 16) : zlen zshp M c = M c (-1) := by
  unfold zlen
  have : Nat.blt c 16 = true := Nat.ble_eq_true_of_le h
  rw [this]
  rfl
theorem zX_at {G : zG} {s : State} {H : Heap} (h : zRO G s H) {c : Nat} (h1 : 1 ≤ c) (h2 : c < 5) : ∃ n : Nat, zM0 G c (-1) = (n : Int) ∧ n ≤ 3072 ∧ va_X (G.2.1 c) n (fun j => Int32.ofInt (zM0 G c j)) s H := by
  by_cases hc : c = 1
  · subst hc
    refine ⟨G.1.2.1, rfl, h.2.2.1, ?_⟩
    obtain ⟨scr, a1, a2, a3, a4, a5⟩ := h.2.1
    refine ⟨scr, a1, a2, a3, a4, fun j hj => ?_⟩
    rw [a5 j hj]
    have e : zM0 G 1 (j : Int) = (G.1.2.2 j).toInt := by
      show (if (j : Int) = -1 then (G.1.2.1 : Int) else if 0 ≤ (j : Int) ∧ (j : Int) < G.1.2.1 then (G.1.2.2 (j : Int).toNat).toInt else 0) = _
      rw [if_neg (by omega), if_pos (by omega)]
      rfl
    dsimp only
    rw [e, Int32.ofInt_toInt]
  · refine ⟨4, ?_, by omega, h.2.2.2.1 c (by omega) h2⟩
    obtain rfl | rfl | rfl : c = 2 ∨ c = 3 ∨ c = 4 := by omega
    · rfl
    · rfl
    · rfl
theorem zstr_eq (G : zG) : ∀ (i : Nat), i < 5 → ∀ j : Nat, (zstrs.getD i []).getD j 0 = Int32.ofInt (zM0 G (10 + i) (j : Int)) := by
  intro i hi j
  have key : ∀ (l : List Int) (l2 : List Int32), l2 = l.map Int32.ofInt → l2.getD j 0 = Int32.ofInt (l.getD j 0) := fun l l2 e => by
    rw [e, List.getD_eq_getElem?_getD, List.getD_eq_getElem?_getD, List.getElem?_map]
    cases l[j]? <;> rfl
  have hj : ¬ (j : Int) = -1 := by omega
  obtain rfl | rfl | rfl | rfl | rfl : i = 0 ∨ i = 1 ∨ i = 2 ∨ i = 3 ∨ i = 4 := by omega
  · show _ = Int32.ofInt (if (j : Int) = -1 then 3 else ([102, 117, 110] : List Int).getD (j : Int).toNat 0)
    rw [if_neg hj]
    exact key [102, 117, 110] _ (by decide)
  · show _ = Int32.ofInt (if (j : Int) = -1 then 2 else ([105, 102] : List Int).getD (j : Int).toNat 0)
    rw [if_neg hj]
    exact key [105, 102] _ (by decide)
  · show _ = Int32.ofInt (if (j : Int) = -1 then 4 else ([101, 108, 115, 101] : List Int).getD (j : Int).toNat 0)
    rw [if_neg hj]
    exact key [101, 108, 115, 101] _ (by decide)
  · show _ = Int32.ofInt (if (j : Int) = -1 then 4 else ([108, 111, 111, 112] : List Int).getD (j : Int).toNat 0)
    rw [if_neg hj]
    exact key [108, 111, 111, 112] _ (by decide)
  · show _ = Int32.ofInt (if (j : Int) = -1 then 4 else ([103, 105, 118, 101] : List Int).getD (j : Int).toNat 0)
    rw [if_neg hj]
    exact key [103, 105, 118, 101] _ (by decide)
theorem zstr_len (G : zG) : ∀ (i : Nat), i < 5 → zM0 G (10 + i) (-1) = ((([3, 2, 4, 4, 4] : List Nat).getD i 0 : Nat) : Int) := by
  intro i hi
  obtain rfl | rfl | rfl | rfl | rfl : i = 0 ∨ i = 1 ∨ i = 2 ∨ i = 3 ∨ i = 4 := by omega
  all_goals rfl
theorem zty_a {c kd t : Nat} {k : Int} (h : (zshp c).1 = kd) (ht : (kd = 13 ∧ t = 3) ∨ (kd = 14 ∧ t = 0) ∨ (kd = 15 ∧ t = 2) ∨ (kd = 16 ∧ t = 1)) : zty c k = t := by
  unfold zty
  rw [h]
  rcases ht with ⟨rfl, rfl⟩ | ⟨rfl, rfl⟩ | ⟨rfl, rfl⟩ | ⟨rfl, rfl⟩
  all_goals rfl
theorem zlow_cv {G : zG} {c : Nat} (h : c < 16) (h2 : ¬ c = 15) : zcv G (vR c) = .ref (G.2.1 c) := by
  rw [zloc_cv h2]
  unfold zloc
  rw [if_pos h]
theorem s_iald {l : Launch} {G : zG} {mi pc nx : Nat} (hd : decode (zby mi) pc = .ok (.iaload, 1)) (hn : pc + 1 = nx) : zSnd l G mi pc (o_ald zshp nx 14) := by
  subst hn
  intro d uc us call k0 Q ls st σ h hcl hk0 p e R s m args below meth c H locs la I FT Rp S E V U1 U2 ok okl
  obtain _ | ⟨i | i | i, _ | ⟨x | x | x, st⟩⟩ := st <;> try exact False.elim h
  obtain ⟨hs, hlt⟩ := zis_of h.1
  have hi : in32 i := zh1 ok
  have g := hk0 _ _ _ _ _ _ h.2.2 p e R s m args below meth c H locs la I FT Rp S E V U1 U2 (zc1 (zin_32 (by rw [zty_a hs (Or.inr (Or.inl ⟨rfl, rfl⟩))]; omega) (Rp.2.2.2.1 x i h.2.1.1)) (zt1 (zt1 ok))) okl
  by_cases hx : x < 16
  · obtain ⟨h1, h2⟩ := zshp_i x hx hs
    obtain ⟨n, e1, e2, scr, a1, a2, a3, a4, a5⟩ := zX_at Rp.2.2.2.2.2.1 h1 h2
    have hb := h.2.1.2
    rw [zlen_lo hx, Rp.2.2.2.2.2.2.1 x hx, e1] at hb
    have hv := vin hi h.2.1.1 hb
    have ht : ((Int32.ofInt i).toNatClampNeg : Int) = i := tn hi h.2.1.1
    rw [List.map_cons, List.map_cons, show zcv G (Sum.inr (Sum.inr x)) = .ref (G.2.1 x) from zlow_cv hx (by omega)]
    refine W.iald (v := .int (Int32.ofInt (zM0 G x i))) I.1 I.2.1 a1 a2 a3 (by rw [a4]; exact hv) ?_ rfl rfl hd ?_
    · rw [a5 _ (by omega)]
      dsimp only
      rw [ht]
    · rw [← Rp.2.2.2.2.2.2.1 x hx i]
      exact g
  · have hw := zws_at (G := G) (σ := σ) (c := x) (by omega) hlt
    rw [zcell_i hs (Or.inr (Or.inl rfl))] at hw
    have hb := h.2.1.2
    rw [zlen_hi (by omega)] at hb
    rw [List.map_cons, List.map_cons, show zcv G (Sum.inr (Sum.inr x)) = .ref (zloc G x) from zloc_cv (by omega)]
    refine va_iald I.1 I.2.1 Rp.1 Rp.2.1 (x - 16) 1 hw rfl (vin hi h.2.1.1 hb) hd ?_
    rw [tn hi h.2.1.1]
    exact g
theorem s_bald {l : Launch} {G : zG} {mi pc nx : Nat} (hd : decode (zby mi) pc = .ok (.baload, 1)) (hn : pc + 1 = nx) : zSnd l G mi pc (o_ald zshp nx 13) := by
  subst hn
  intro d uc us call k0 Q ls st σ h hcl hk0 p e R s m args below meth c H locs la I FT Rp S E V U1 U2 ok okl
  obtain _ | ⟨i | i | i, _ | ⟨x | x | x, st⟩⟩ := st <;> try exact False.elim h
  obtain ⟨hs, hlt⟩ := zis_of h.1
  have hi : in32 i := zh1 ok
  have g := hk0 _ _ _ _ _ _ h.2.2 p e R s m args below meth c H locs la I FT Rp S E V U1 U2 (zc1 (zin_32 (by rw [zty_a hs (Or.inl ⟨rfl, rfl⟩)]; omega) (Rp.2.2.2.1 x i h.2.1.1)) (zt1 (zt1 ok))) okl
  by_cases hx : x < 16
  · obtain ⟨h1, h2⟩ := zshp_b x hx hs
    obtain ⟨-, -, -, cell, a1, a2, a3, a4, a5, a6, a7⟩ := (Rp.2.2.2.2.2.1.2.2.2.2.2.2.2.2.2.2.1).1 (x - 10) (by omega)
    have hx10 : 10 + (x - 10) = x := by omega
    have hb := h.2.1.2
    have hl := zstr_len G (x - 10) (by omega)
    dsimp only at a1 a6
    rw [hx10] at hl a1
    rw [zlen_lo hx, Rp.2.2.2.2.2.2.1 x hx, hl] at hb
    have ht : ((Int32.ofInt i).toNatClampNeg : Int) = i := tn hi h.2.1.1
    rw [List.map_cons, List.map_cons, show zcv G (Sum.inr (Sum.inr x)) = .ref (G.2.1 x) from zlow_cv hx (by omega)]
    refine W.bald (v := .int (Int32.ofInt (zM0 G x i))) I.1 I.2.1 a1 a2 a3 (fun q => ?_) ?_ rfl rfl hd ?_
    · rcases q with q | q
      · exact absurd ((i_lt hi i_0).mp q) (by have := h.2.1.1; omega)
      · omega
    · rw [a6 _ (by omega), zstr_eq G (x - 10) (by omega), hx10, ht]
    · rw [← Rp.2.2.2.2.2.2.1 x hx i]
      exact g
  · have hw := zws_at (G := G) (σ := σ) (c := x) (by omega) hlt
    rw [zcell_i hs (Or.inl rfl)] at hw
    have hb := h.2.1.2
    rw [zlen_hi (by omega)] at hb
    rw [List.map_cons, List.map_cons, show zcv G (Sum.inr (Sum.inr x)) = .ref (zloc G x) from zloc_cv (by omega)]
    refine va_bald I.1 I.2.1 Rp.1 Rp.2.1 (x - 16) 0 hw rfl (vin hi h.2.1.1 hb) hd ?_
    rw [tn hi h.2.1.1]
    exact g
theorem s_zald {l : Launch} {G : zG} {mi pc nx : Nat} (hd : decode (zby mi) pc = .ok (.baload, 1)) (hn : pc + 1 = nx) : zSnd l G mi pc (o_ald zshp nx 16) := by
  subst hn
  intro d uc us call k0 Q ls st σ h hcl hk0 p e R s m args below meth c H locs la I FT Rp S E V U1 U2 ok okl
  obtain _ | ⟨i | i | i, _ | ⟨x | x | x, st⟩⟩ := st <;> try exact False.elim h
  obtain ⟨hs, hlt⟩ := zis_of h.1
  have hi : in32 i := zh1 ok
  have hx : 16 ≤ x := by
    rcases Nat.lt_or_ge x 16 with q | q
    · have := zshp_z x q
      omega
    · exact q
  have g := hk0 _ _ _ _ _ _ h.2.2 p e R s m args below meth c H locs la I FT Rp S E V U1 U2 (zc1 (zin_32 (by rw [zty_a hs (Or.inr (Or.inr (Or.inr ⟨rfl, rfl⟩)))]; omega) (Rp.2.2.2.1 x i h.2.1.1)) (zt1 (zt1 ok))) okl
  have hw := zws_at (G := G) (σ := σ) (c := x) hx hlt
  rw [zcell_i hs (Or.inr (Or.inr rfl))] at hw
  have hb := h.2.1.2
  rw [zlen_hi hx] at hb
  rw [List.map_cons, List.map_cons, show zcv G (Sum.inr (Sum.inr x)) = .ref (zloc G x) from zloc_cv (by omega)]
  refine va_zald I.1 I.2.1 Rp.1 Rp.2.1 (x - 16) 3 hw rfl (vin hi h.2.1.1 hb) hd ?_
  rw [tn hi h.2.1.1]
  exact g
theorem s_lald {l : Launch} {G : zG} {mi pc nx : Nat} (hd : decode (zby mi) pc = .ok (.laload, 1)) (hn : pc + 1 = nx) : zSnd l G mi pc (o_lald zshp nx) := by
  subst hn
  intro d uc us call k0 Q ls st σ h hcl hk0 p e R s m args below meth c H locs la I FT Rp S E V U1 U2 ok okl
  obtain _ | ⟨i | i | i, _ | ⟨x | x | x, st⟩⟩ := st <;> try exact False.elim h
  obtain ⟨hs, hlt⟩ := zis_of h.1
  have hi : in32 i := zh1 ok
  have hx : 16 ≤ x := by
    rcases Nat.lt_or_ge x 16 with q | q
    · have := zshp_z x q
      omega
    · exact q
  have g := hk0 _ _ _ _ _ _ h.2.2 p e R s m args below meth c H locs la I FT Rp S E V U1 U2 (zc1 (by
    have q := Rp.2.2.2.1 x i h.2.1.1
    rw [zty_a hs (Or.inr (Or.inr (Or.inl ⟨rfl, rfl⟩)))] at q
    exact q) (zt1 (zt1 ok))) okl
  have hw := zws_at (G := G) (σ := σ) (c := x) hx hlt
  rw [zcell_j hs] at hw
  have hb := h.2.1.2
  rw [zlen_hi hx] at hb
  rw [List.map_cons, List.map_cons, show zcv G (Sum.inr (Sum.inr x)) = .ref (zloc G x) from zloc_cv (by omega)]
  refine va_lald I.1 I.2.1 Rp.1 Rp.2.1 (x - 16) 2 hw rfl (vin hi h.2.1.1 hb) hd ?_
  rw [tn hi h.2.1.1]
  exact g
theorem s_aald {l : Launch} {G : zG} {mi pc nx : Nat} (hd : decode (zby mi) pc = .ok (.aaload, 1)) (hn : pc + 1 = nx) : zSnd l G mi pc (o_aald zshp nx) := by
  subst hn
  intro d uc us call k0 Q ls st σ h hcl hk0 p e R s m args below meth c H locs la I FT Rp S E V U1 U2 ok okl
  obtain _ | ⟨i | i | i, _ | ⟨x | x | x, st⟩⟩ := st <;> try exact False.elim h
  obtain ⟨hs, hlt⟩ := zis_of h.1
  have hi : in32 i := zh1 ok
  have hx : 16 ≤ x := by
    rcases Nat.lt_or_ge x 16 with q | q
    · have := zshp_z x q
      omega
    · exact q
  have g := hk0 _ _ _ _ _ _ h.2.2.2 p e R s m args below meth c H locs la I FT Rp S E V U1 U2 (zc1 (trivial) (zt1 (zt1 ok))) okl
  have hw := zws_at (G := G) (σ := σ) (c := x) hx hlt
  rw [zcell_r hs] at hw
  have hb := h.2.1.2
  rw [zlen_hi hx] at hb
  rw [List.map_cons, List.map_cons, show zcv G (Sum.inr (Sum.inr x)) = .ref (zloc G x) from zloc_cv (by omega)]
  refine va_aldq I.1 I.2.1 Rp.1 Rp.2.1 (x - 16) 4 hw rfl (vin hi h.2.1.1 hb) hd ?_
  have hn2 : (Int32.ofInt i).toNatClampNeg = i.toNat := by
    have := tn hi h.2.1.1
    omega
  have h15 : 15 < σ.1 x i.toNat := h.2.2.1
  rw [hn2, zrf_hi h15]
  rw [List.map_cons, zloc_cv (by omega)] at g
  exact g
theorem zis2 {nx c kd : Nat} (h : (zis zshp nx c kd && Nat.ble 16 c) = true) : (zshp c).1 = kd ∧ c < nx ∧ 16 ≤ c := by
  rw [Bool.and_eq_true] at h
  obtain ⟨a, b⟩ := zis_of h.1
  exact ⟨a, b, Nat.le_of_ble_eq_true h.2⟩
theorem upd_z {M : Nat → Int → Int} {c : Nat} {i v : Int} {x : Int32} (h : in32 i) (h0 : 0 ≤ i) (hv : Int32.ofInt v = x) : (fun j : Nat => Int32.ofInt (zup M c i v c j)) = upd (fun j => Int32.ofInt (M c j)) (Int32.ofInt i).toNatClampNeg x := by
  have ht := tn h h0
  funext j
  unfold upd
  by_cases hj : j = (Int32.ofInt i).toNatClampNeg
  · rw [if_pos hj, ← hv, show (j : Int) = i by omega, zup_at]
  · rw [if_neg hj, zup_k (by omega)]
theorem s_iast {l : Launch} {G : zG} {mi pc nx : Nat} (hd : decode (zby mi) pc = .ok (.iastore, 1)) (hn : pc + 1 = nx) : zSnd l G mi pc (o_iast zshp nx) := by
  subst hn
  intro d uc us call k0 Q ls st σ h hcl hk0 p e R s m args below meth c H locs la I FT Rp S E V U1 U2 ok okl
  obtain _ | ⟨y | y | y, _ | ⟨i | i | i, _ | ⟨x | x | x, st⟩⟩⟩ := st <;> try exact False.elim h
  obtain ⟨hs, hlt, hx⟩ := zis2 h.1
  have hi : in32 i := zh1 (zt1 ok)
  have hw := zws_at (G := G) (σ := σ) (c := x) hx hlt
  rw [zcell_i hs (Or.inr (Or.inl rfl))] at hw
  have hb := h.2.1.2
  rw [zlen_hi hx] at hb
  rw [List.map_cons, List.map_cons, List.map_cons, show zcv G (Sum.inr (Sum.inr x)) = .ref (zloc G x) from zloc_cv (by omega)]
  refine va_iast I.1 I.2.1 Rp.1 Rp.2.1 (zws_D G σ) S (x - 16) 1 hw rfl (vin hi h.2.1.1 hb) hd (fun H1 locs1 hP1 hD1 S1 => ?_)
  refine hk0 _ _ _ _ _ _ h.2.2 p e R s m args below meth c H1 locs1 la I FT (zRep_set (σ' := (σ.1, σ.2.1, zup σ.2.2.1 x i (y), σ.2.2.2)) (c := x) Rp S S1 hx hlt hP1 rfl (fun c q k => rfl) (fun c q k => rfl) (fun c q k => zup_c q) ?_ (fun j hj => ?_)) S1 E V U1 U2 (zt1 (zt1 (zt1 ok))) okl
  · rw [zcell_i hs (Or.inr (Or.inl rfl))]
    exact congrArg (fun z => (Sum.inl (G.2.2.2.2 14, (zshp x).2, Sum.inl z) : va_E)) (upd_z hi h.2.1.1 rfl)
  · by_cases hq : j = i
    · subst hq
      rw [show (σ.1, σ.2.1, zup σ.2.2.1 x j (y), σ.2.2.2).2.2.1 x j = (y) from zup_at _ _ _ _]
      rw [zty_a hs (Or.inr (Or.inl ⟨rfl, rfl⟩))]
      exact zh1 ok
    · rw [show (σ.1, σ.2.1, zup σ.2.2.1 x i (y), σ.2.2.2).2.2.1 x j = σ.2.2.1 x j from zup_k hq]
      exact Rp.2.2.2.1 x j hj
theorem s_bast {l : Launch} {G : zG} {mi pc nx : Nat} (hd : decode (zby mi) pc = .ok (.bastore, 1)) (hn : pc + 1 = nx) : zSnd l G mi pc (o_bast zshp nx) := by
  subst hn
  intro d uc us call k0 Q ls st σ h hcl hk0 p e R s m args below meth c H locs la I FT Rp S E V U1 U2 ok okl
  obtain _ | ⟨y | y | y, _ | ⟨i | i | i, _ | ⟨x | x | x, st⟩⟩⟩ := st <;> try exact False.elim h
  obtain ⟨hs, hlt, hx⟩ := zis2 h.1
  have hi : in32 i := zh1 (zt1 ok)
  have hw := zws_at (G := G) (σ := σ) (c := x) hx hlt
  rw [zcell_i hs (Or.inl rfl)] at hw
  have hb := h.2.1.2
  rw [zlen_hi hx] at hb
  rw [List.map_cons, List.map_cons, List.map_cons, show zcv G (Sum.inr (Sum.inr x)) = .ref (zloc G x) from zloc_cv (by omega)]
  refine va_bast I.1 I.2.1 Rp.1 Rp.2.1 (zws_D G σ) S (x - 16) 0 hw rfl (vin hi h.2.1.1 hb) hd (fun H1 locs1 hP1 hD1 S1 => ?_)
  refine hk0 _ _ _ _ _ _ h.2.2 p e R s m args below meth c H1 locs1 la I FT (zRep_set (σ' := (σ.1, σ.2.1, zup σ.2.2.1 x i (w8 y), σ.2.2.2)) (c := x) Rp S S1 hx hlt hP1 rfl (fun c q k => rfl) (fun c q k => rfl) (fun c q k => zup_c q) ?_ (fun j hj => ?_)) S1 E V U1 U2 (zt1 (zt1 (zt1 ok))) okl
  · rw [zcell_i hs (Or.inl rfl)]
    exact congrArg (fun z => (Sum.inl (G.2.2.2.2 13, (zshp x).2, Sum.inl z) : va_E)) (upd_z hi h.2.1.1 (by rw [vp_nar_byte, i_w8 (zh1 ok)]))
  · by_cases hq : j = i
    · subst hq
      rw [show (σ.1, σ.2.1, zup σ.2.2.1 x j (w8 y), σ.2.2.2).2.2.1 x j = (w8 y) from zup_at _ _ _ _]
      rw [zty_a hs (Or.inl ⟨rfl, rfl⟩)]
      show -128 ≤ w8 y ∧ w8 y < 128
      unfold w8
      omega
    · rw [show (σ.1, σ.2.1, zup σ.2.2.1 x i (w8 y), σ.2.2.2).2.2.1 x j = σ.2.2.1 x j from zup_k hq]
      exact Rp.2.2.2.1 x j hj
theorem s_zast {l : Launch} {G : zG} {mi pc nx : Nat} (hd : decode (zby mi) pc = .ok (.bastore, 1)) (hn : pc + 1 = nx) : zSnd l G mi pc (o_zast zshp nx) := by
  subst hn
  intro d uc us call k0 Q ls st σ h hcl hk0 p e R s m args below meth c H locs la I FT Rp S E V U1 U2 ok okl
  obtain _ | ⟨y | y | y, _ | ⟨i | i | i, _ | ⟨x | x | x, st⟩⟩⟩ := st <;> try exact False.elim h
  obtain ⟨hs, hlt, hx⟩ := zis2 h.1
  have hi : in32 i := zh1 (zt1 ok)
  have hw := zws_at (G := G) (σ := σ) (c := x) hx hlt
  rw [zcell_i hs (Or.inr (Or.inr rfl))] at hw
  have hb := h.2.1.2
  rw [zlen_hi hx] at hb
  rw [List.map_cons, List.map_cons, List.map_cons, show zcv G (Sum.inr (Sum.inr x)) = .ref (zloc G x) from zloc_cv (by omega)]
  refine va_zast I.1 I.2.1 Rp.1 Rp.2.1 (zws_D G σ) S (x - 16) 3 hw rfl (vin hi h.2.1.1 hb) hd (fun H1 locs1 hP1 hD1 S1 => ?_)
  refine hk0 _ _ _ _ _ _ h.2.2.2 p e R s m args below meth c H1 locs1 la I FT (zRep_set (σ' := (σ.1, σ.2.1, zup σ.2.2.1 x i (y), σ.2.2.2)) (c := x) Rp S S1 hx hlt hP1 rfl (fun c q k => rfl) (fun c q k => rfl) (fun c q k => zup_c q) ?_ (fun j hj => ?_)) S1 E V U1 U2 (zt1 (zt1 (zt1 ok))) okl
  · rw [zcell_i hs (Or.inr (Or.inr rfl))]
    exact congrArg (fun z => (Sum.inl (G.2.2.2.2 16, (zshp x).2, Sum.inl z) : va_E)) (upd_z hi h.2.1.1 (by rcases h.2.2.1 with q | q <;> subst q <;> rfl))
  · by_cases hq : j = i
    · subst hq
      rw [show (σ.1, σ.2.1, zup σ.2.2.1 x j (y), σ.2.2.2).2.2.1 x j = (y) from zup_at _ _ _ _]
      rw [zty_a hs (Or.inr (Or.inr (Or.inr ⟨rfl, rfl⟩)))]
      exact h.2.2.1
    · rw [show (σ.1, σ.2.1, zup σ.2.2.1 x i (y), σ.2.2.2).2.2.1 x j = σ.2.2.1 x j from zup_k hq]
      exact Rp.2.2.2.1 x j hj
theorem updL_z {M : Nat → Int → Int} {c : Nat} {i v : Int} (h : in32 i) (h0 : 0 ≤ i) : (fun j : Nat => Int64.ofInt (zup M c i v c j)) = vp_updL (fun j => Int64.ofInt (M c j)) (Int32.ofInt i).toNatClampNeg (Int64.ofInt v) := by
  have ht := tn h h0
  funext j
  unfold vp_updL
  by_cases hj : j = (Int32.ofInt i).toNatClampNeg
  · rw [if_pos hj, show (j : Int) = i by omega, zup_at]
  · rw [if_neg hj, zup_k (by omega)]
theorem s_last {l : Launch} {G : zG} {mi pc nx : Nat} (hd : decode (zby mi) pc = .ok (.lastore, 1)) (hn : pc + 1 = nx) : zSnd l G mi pc (o_last zshp nx) := by
  subst hn
  intro d uc us call k0 Q ls st σ h hcl hk0 p e R s m args below meth c H locs la I FT Rp S E V U1 U2 ok okl
  obtain _ | ⟨y | y | y, _ | ⟨i | i | i, _ | ⟨x | x | x, st⟩⟩⟩ := st <;> try exact False.elim h
  obtain ⟨hs, hlt, hx⟩ := zis2 h.1
  have hi : in32 i := zh1 (zt1 ok)
  have hw := zws_at (G := G) (σ := σ) (c := x) hx hlt
  rw [zcell_j hs] at hw
  have hb := h.2.1.2
  rw [zlen_hi hx] at hb
  rw [List.map_cons, List.map_cons, List.map_cons, show zcv G (Sum.inr (Sum.inr x)) = .ref (zloc G x) from zloc_cv (by omega)]
  refine va_last I.1 I.2.1 Rp.1 Rp.2.1 (zws_D G σ) S (x - 16) 2 hw rfl (vin hi h.2.1.1 hb) hd (fun H1 locs1 hP1 hD1 S1 => ?_)
  refine hk0 _ _ _ _ _ _ h.2.2 p e R s m args below meth c H1 locs1 la I FT (zRep_set (σ' := (σ.1, σ.2.1, zup σ.2.2.1 x i (y), σ.2.2.2)) (c := x) Rp S S1 hx hlt hP1 rfl (fun c q k => rfl) (fun c q k => rfl) (fun c q k => zup_c q) ?_ (fun j hj => ?_)) S1 E V U1 U2 (zt1 (zt1 (zt1 ok))) okl
  · rw [zcell_j hs]
    exact congrArg (fun z => (Sum.inl (G.2.2.2.2 15, (zshp x).2, Sum.inr (Sum.inl z)) : va_E)) (updL_z hi h.2.1.1)
  · by_cases hq : j = i
    · subst hq
      rw [show (σ.1, σ.2.1, zup σ.2.2.1 x j (y), σ.2.2.2).2.2.1 x j = (y) from zup_at _ _ _ _]
      rw [zty_a hs (Or.inr (Or.inr (Or.inl ⟨rfl, rfl⟩)))]
      exact zh1 ok
    · rw [show (σ.1, σ.2.1, zup σ.2.2.1 x i (y), σ.2.2.2).2.2.1 x j = σ.2.2.1 x j from zup_k hq]
      exact Rp.2.2.2.1 x j hj
