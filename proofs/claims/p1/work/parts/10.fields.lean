/-! getfield, putfield, rows: sound. -/
theorem zci {ci : Nat} {q : vw_C} (h : zcls[ci]? = some q) : ci < 13 := (List.getElem?_eq_some_iff.mp h).1
theorem zfv_i {G : zG} {σ : zM} {c t k : Nat} (h2 : ¬ t = 2) (h8 : t < 8) : zfv G σ c t k = .int (Int32.ofInt (σ.2.2.1 c k)) := by
  unfold zfv
  split
  · exact absurd rfl h2
  · omega
  · omega
  · rfl
theorem zfv_M {G : zG} {σ σ' : zM} {c t k : Nat} (h1 : σ'.1 c k = σ.1 c k) (h2 : σ'.2.1 c k = σ.2.1 c k) (h3 : σ'.2.2.1 c k = σ.2.2.1 c k) : zfv G σ' c t k = zfv G σ c t k := by
  unfold zfv
  rw [h1, h2, h3]
theorem zrf_hi {G : zG} {r : Nat} (h : 15 < r) : va_rf (zrf G r) = .ref (zloc G r) := by
  unfold zrf
  rw [if_neg (by omega)]
  rfl
theorem s_getI {l : Launch} {G : zG} {mi pc nx ci k idx N : Nat} {C : String} {T : u_T} (hc : zcls[ci]? = some (C, T, N)) (hin : ∀ w ∈ u_ws C T N, w ∈ zwd) (hf : zfn ci = N) (hk : k < N) {kk : Int} (hkk : kk = (k : Int)) (h2 : ¬ zfty ci k = 2) (h8 : zfty ci k < 8) (hl : Cond.fieldLink (zyn mi).cls idx (T k).1 (T k).2.1 (T k).2.2.1 ∈ zwd) (hd : decode (zby mi) pc = .ok (.getfield idx, 3)) (hn : pc + 3 = nx) : zSnd l G mi pc (o_getI zshp nx ci kk) := by
  subst hn
  intro d uc us call k0 Q ls st σ h hcl hk0 p e R s m args below meth c H locs la I FT Rp S E V U1 U2 ok okl
  obtain _ | ⟨x | x | x, st⟩ := st <;> try exact False.elim h
  obtain ⟨h16, hlt, hw, hs⟩ := zobj_at (G := G) h.1 (zci hc)
  have g := hk0 _ _ _ _ _ _ h.2 p e R s m args below meth c H locs la I FT Rp S E V U1 U2 (zc1 (by rw [hkk]; exact zin_32 (by rw [zty_o hs (zci hc)]; exact h2) (Rp.2.2.2.1 x k (by omega))) (zt1 ok)) okl
  rw [List.map_cons, show zcv G (Sum.inr (Sum.inr x)) = .ref (zloc G x) from zloc_cv (by omega)]
  refine va_get (own := (zyn mi).cls) (ref := (T k).1) I.1 I.2.1 I.2.2.2.2.1 hin I.2.2.2.1 Rp.1 Rp.2.1 (x - 16) hw hc k hk (I.2.2.2.2.1 _ hl) (fun _ q => q) (zfs_at (by rw [hf]; exact hk)) hd ?_
  rw [zfv_i h2 h8, ← hkk]
  exact g
theorem s_getJ {l : Launch} {G : zG} {mi pc nx ci k idx N : Nat} {C : String} {T : u_T} (hc : zcls[ci]? = some (C, T, N)) (hin : ∀ w ∈ u_ws C T N, w ∈ zwd) (hf : zfn ci = N) (hk : k < N) {kk : Int} (hkk : kk = (k : Int)) (h2 : zfty ci k = 2) (hl : Cond.fieldLink (zyn mi).cls idx (T k).1 (T k).2.1 (T k).2.2.1 ∈ zwd) (hd : decode (zby mi) pc = .ok (.getfield idx, 3)) (hn : pc + 3 = nx) : zSnd l G mi pc (o_getJ zshp nx ci kk) := by
  subst hn
  intro d uc us call k0 Q ls st σ h hcl hk0 p e R s m args below meth c H locs la I FT Rp S E V U1 U2 ok okl
  obtain _ | ⟨x | x | x, st⟩ := st <;> try exact False.elim h
  obtain ⟨h16, hlt, hw, hs⟩ := zobj_at (G := G) h.1 (zci hc)
  have g := hk0 _ _ _ _ _ _ h.2 p e R s m args below meth c H locs la I FT Rp S E V U1 U2 (zc1 (by
    rw [hkk]
    have q := Rp.2.2.2.1 x k (by omega)
    rw [zty_o hs (zci hc), h2] at q
    exact q) (zt1 ok)) okl
  rw [List.map_cons, show zcv G (Sum.inr (Sum.inr x)) = .ref (zloc G x) from zloc_cv (by omega)]
  refine va_get (own := (zyn mi).cls) (ref := (T k).1) I.1 I.2.1 I.2.2.2.2.1 hin I.2.2.2.1 Rp.1 Rp.2.1 (x - 16) hw hc k hk (I.2.2.2.2.1 _ hl) (fun _ q => q) (zfs_at (by rw [hf]; exact hk)) hd ?_
  rw [h2, show zfv G σ x 2 k = .long (Int64.ofInt (σ.2.2.1 x k)) from rfl, ← hkk]
  exact g
theorem s_getF {l : Launch} {G : zG} {mi pc nx ci k idx N : Nat} {C : String} {T : u_T} (hc : zcls[ci]? = some (C, T, N)) (hin : ∀ w ∈ u_ws C T N, w ∈ zwd) (hf : zfn ci = N) (hk : k < N) (h2 : zfty ci k = 8) (hl : Cond.fieldLink (zyn mi).cls idx (T k).1 (T k).2.1 (T k).2.2.1 ∈ zwd) (hd : decode (zby mi) pc = .ok (.getfield idx, 3)) (hn : pc + 3 = nx) : zSnd l G mi pc (o_getF zshp nx ci k) := by
  subst hn
  intro d uc us call k0 Q ls st σ h hcl hk0 p e R s m args below meth c H locs la I FT Rp S E V U1 U2 ok okl
  obtain _ | ⟨x | x | x, st⟩ := st <;> try exact False.elim h
  obtain ⟨h16, hlt, hw, hs⟩ := zobj_at (G := G) h.1 (zci hc)
  have g := hk0 _ _ _ _ _ _ h.2.2 p e R s m args below meth c H locs la I FT Rp S E V U1 U2 (zc1 trivial (zt1 ok)) okl
  rw [List.map_cons, show zcv G (Sum.inr (Sum.inr x)) = .ref (zloc G x) from zloc_cv (by omega)]
  refine va_get (own := (zyn mi).cls) (ref := (T k).1) I.1 I.2.1 I.2.2.2.2.1 hin I.2.2.2.1 Rp.1 Rp.2.1 (x - 16) hw hc k hk (I.2.2.2.2.1 _ hl) (fun _ q => q) (zfs_at (by rw [hf]; exact hk)) hd ?_
  have h15 : 15 < σ.1 x k := Nat.le_of_ble_eq_true h.2.1
  rw [h2, show zfv G σ x 8 k = va_rf (zrf G (σ.1 x k)) from rfl, zrf_hi h15]
  rw [List.map_cons, zloc_cv (c := σ.1 x k) (by omega)] at g
  exact g
theorem s_getP {l : Launch} {G : zG} {mi pc nx ci k idx N : Nat} {C : String} {T : u_T} (hc : zcls[ci]? = some (C, T, N)) (hin : ∀ w ∈ u_ws C T N, w ∈ zwd) (hf : zfn ci = N) (hk : k < N) (h2 : zfty ci k = 9) (hl : Cond.fieldLink (zyn mi).cls idx (T k).1 (T k).2.1 (T k).2.2.1 ∈ zwd) (hd : decode (zby mi) pc = .ok (.getfield idx, 3)) (hn : pc + 3 = nx) : zSnd l G mi pc (o_getP zshp nx ci k) := by
  subst hn
  intro d uc us call k0 Q ls st σ h hcl hk0 p e R s m args below meth c H locs la I FT Rp S E V U1 U2 ok okl
  obtain _ | ⟨x | x | x, st⟩ := st <;> try exact False.elim h
  obtain ⟨h16, hlt, hw, hs⟩ := zobj_at (G := G) h.1 (zci hc)
  have g := hk0 _ _ _ _ _ _ h.2.2 p e R s m args below meth c H locs la I FT Rp S E V U1 U2 (zc1 trivial (zt1 ok)) okl
  rw [List.map_cons, show zcv G (Sum.inr (Sum.inr x)) = .ref (zloc G x) from zloc_cv (by omega)]
  refine va_get (own := (zyn mi).cls) (ref := (T k).1) I.1 I.2.1 I.2.2.2.2.1 hin I.2.2.2.1 Rp.1 Rp.2.1 (x - 16) hw hc k hk (I.2.2.2.2.1 _ hl) (fun _ q => q) (zfs_at (by rw [hf]; exact hk)) hd ?_
  have h15 : 15 < σ.2.1 x k := h.2.1
  rw [h2, show zfv G σ x 9 k = va_rf (zrf G (σ.2.1 x k)) from rfl, zrf_hi h15]
  rw [List.map_cons, zloc_cv (c := σ.2.1 x k) (by omega)] at g
  exact g
theorem s_putI {l : Launch} {G : zG} {mi pc nx ci k idx N : Nat} {C : String} {T : u_T} (hc : zcls[ci]? = some (C, T, N)) (hin : ∀ w ∈ u_ws C T N, w ∈ zwd) (hf : zfn ci = N) (hk : k < N) {kk : Int} (hkk : kk = (k : Int)) (ty0 : Nat → FieldType) (hty : ∀ k, k < N → parseFieldDescriptor (T k).2.2.1 = some (ty0 k)) (hnm : ∀ a, a < N → ∀ b, b < N → a ≠ b → (T a).2.1 ≠ (T b).2.1) (h2 : zfty ci k = 0) (hfn : (T k).2.2.2 = false) (hT : ty0 k = .int) (hl : Cond.fieldLink (zyn mi).cls idx (T k).1 (T k).2.1 (T k).2.2.1 ∈ zwd) (hd : decode (zby mi) pc = .ok (.putfield idx, 3)) (hn : pc + 3 = nx) : zSnd l G mi pc (o_putI zshp nx ci kk) := by
  subst hn
  intro d uc us call k0 Q ls st σ h hcl hk0 p e R s m args below meth c H locs la I FT Rp S E V U1 U2 ok okl
  obtain _ | ⟨y | y | y, _ | ⟨x | x | x, st⟩⟩ := st <;> try exact False.elim h
  obtain ⟨h16, hlt, hw, hs⟩ := zobj_at (G := G) h.1 (zci hc)
  have hz : (zfs G σ x ci).set k (.int (Int32.ofInt y)) = zfs G (σ.1, σ.2.1, zup σ.2.2.1 x kk y, σ.2.2.2) x ci := zfs_set (by rw [hf]; exact hk) (by rw [h2, zfv_i (by omega) (by omega), ← hkk]; exact congrArg (fun z => Value.int (Int32.ofInt z)) (zup_at _ _ _ _)) (fun j hj => zfv_M rfl rfl (zup_k (by omega)))
  rw [List.map_cons, List.map_cons, show zcv G (Sum.inr (Sum.inr x)) = .ref (zloc G x) from zloc_cv (by omega)]
  refine va_put (own := (zyn mi).cls) (ref := (T k).1) (ty := ty0 k) (v := .int (Int32.ofInt y)) I.1 I.2.1 I.2.2.2.2.1 hin ty0 hty hnm I.2.2.2.1 Rp.1 Rp.2.1 (zws_D G σ) S (x - 16) hw hc k hk (I.2.2.2.2.1 _ hl) (fun _ q => q) hfn (hty k hk) (by rw [hT]; rfl) (by rw [hT]; rfl) (by rw [zfs_len, hf]; exact hk) hd (fun H1 locs1 hP1 hD1 S1 => ?_)
  rw [hz] at hP1
  refine hk0 _ _ _ _ _ _ h.2 p e R s m args below meth c H1 locs1 la I FT (zRep_set (σ' := (σ.1, σ.2.1, zup σ.2.2.1 x kk y, σ.2.2.2)) (c := x) Rp S S1 h16 hlt hP1 rfl (fun c q k => rfl) (fun c q k => rfl) (fun c q k => zup_c q) (zcell_o hs (zci hc)) ?_) S1 E V U1 U2 (zt1 (zt1 ok)) okl
  intro j hj
  by_cases hq : j = kk
  · subst hq
    rw [show (σ.1, σ.2.1, zup σ.2.2.1 x j y, σ.2.2.2).2.2.1 x j = y from zup_at _ _ _ _, hkk, zty_o hs (zci hc), h2]
    exact zh1 ok
  · rw [show (σ.1, σ.2.1, zup σ.2.2.1 x kk y, σ.2.2.2).2.2.1 x j = σ.2.2.1 x j from zup_k hq]
    exact Rp.2.2.2.1 x j hj
theorem s_putZ {l : Launch} {G : zG} {mi pc nx ci k idx N : Nat} {C : String} {T : u_T} (hc : zcls[ci]? = some (C, T, N)) (hin : ∀ w ∈ u_ws C T N, w ∈ zwd) (hf : zfn ci = N) (hk : k < N) {kk : Int} (hkk : kk = (k : Int)) (ty0 : Nat → FieldType) (hty : ∀ k, k < N → parseFieldDescriptor (T k).2.2.1 = some (ty0 k)) (hnm : ∀ a, a < N → ∀ b, b < N → a ≠ b → (T a).2.1 ≠ (T b).2.1) (h2 : zfty ci k = 1) (hfn : (T k).2.2.2 = false) (hT : ty0 k = .boolean) (hl : Cond.fieldLink (zyn mi).cls idx (T k).1 (T k).2.1 (T k).2.2.1 ∈ zwd) (hd : decode (zby mi) pc = .ok (.putfield idx, 3)) (hn : pc + 3 = nx) : zSnd l G mi pc (o_putZ zshp nx ci kk) := by
  subst hn
  intro d uc us call k0 Q ls st σ h hcl hk0 p e R s m args below meth c H locs la I FT Rp S E V U1 U2 ok okl
  obtain _ | ⟨y | y | y, _ | ⟨x | x | x, st⟩⟩ := st <;> try exact False.elim h
  obtain ⟨h16, hlt, hw, hs⟩ := zobj_at (G := G) h.1 (zci hc)
  have hz : (zfs G σ x ci).set k (.int (Int32.ofInt y)) = zfs G (σ.1, σ.2.1, zup σ.2.2.1 x kk y, σ.2.2.2) x ci := zfs_set (by rw [hf]; exact hk) (by rw [h2, zfv_i (by omega) (by omega), ← hkk]; exact congrArg (fun z => Value.int (Int32.ofInt z)) (zup_at _ _ _ _)) (fun j hj => zfv_M rfl rfl (zup_k (by omega)))
  rw [List.map_cons, List.map_cons, show zcv G (Sum.inr (Sum.inr x)) = .ref (zloc G x) from zloc_cv (by omega)]
  refine va_put (own := (zyn mi).cls) (ref := (T k).1) (ty := ty0 k) (v := .int (Int32.ofInt y)) I.1 I.2.1 I.2.2.2.2.1 hin ty0 hty hnm I.2.2.2.1 Rp.1 Rp.2.1 (zws_D G σ) S (x - 16) hw hc k hk (I.2.2.2.2.1 _ hl) (fun _ q => q) hfn (hty k hk) (by rw [hT]; rcases h.2.1 with q | q <;> subst q <;> rfl) (by rw [hT]; rcases h.2.1 with q | q <;> subst q <;> rfl) (by rw [zfs_len, hf]; exact hk) hd (fun H1 locs1 hP1 hD1 S1 => ?_)
  rw [hz] at hP1
  refine hk0 _ _ _ _ _ _ h.2.2 p e R s m args below meth c H1 locs1 la I FT (zRep_set (σ' := (σ.1, σ.2.1, zup σ.2.2.1 x kk y, σ.2.2.2)) (c := x) Rp S S1 h16 hlt hP1 rfl (fun c q k => rfl) (fun c q k => rfl) (fun c q k => zup_c q) (zcell_o hs (zci hc)) ?_) S1 E V U1 U2 (zt1 (zt1 ok)) okl
  intro j hj
  by_cases hq : j = kk
  · subst hq
    rw [show (σ.1, σ.2.1, zup σ.2.2.1 x j y, σ.2.2.2).2.2.1 x j = y from zup_at _ _ _ _, hkk, zty_o hs (zci hc), h2]
    exact h.2.1
  · rw [show (σ.1, σ.2.1, zup σ.2.2.1 x kk y, σ.2.2.2).2.2.1 x j = σ.2.2.1 x j from zup_k hq]
    exact Rp.2.2.2.1 x j hj
theorem s_putJ {l : Launch} {G : zG} {mi pc nx ci k idx N : Nat} {C : String} {T : u_T} (hc : zcls[ci]? = some (C, T, N)) (hin : ∀ w ∈ u_ws C T N, w ∈ zwd) (hf : zfn ci = N) (hk : k < N) {kk : Int} (hkk : kk = (k : Int)) (ty0 : Nat → FieldType) (hty : ∀ k, k < N → parseFieldDescriptor (T k).2.2.1 = some (ty0 k)) (hnm : ∀ a, a < N → ∀ b, b < N → a ≠ b → (T a).2.1 ≠ (T b).2.1) (h2 : zfty ci k = 2) (hfn : (T k).2.2.2 = false) (hT : ty0 k = .long) (hl : Cond.fieldLink (zyn mi).cls idx (T k).1 (T k).2.1 (T k).2.2.1 ∈ zwd) (hd : decode (zby mi) pc = .ok (.putfield idx, 3)) (hn : pc + 3 = nx) : zSnd l G mi pc (o_putJ zshp nx ci kk) := by
  subst hn
  intro d uc us call k0 Q ls st σ h hcl hk0 p e R s m args below meth c H locs la I FT Rp S E V U1 U2 ok okl
  obtain _ | ⟨y | y | y, _ | ⟨x | x | x, st⟩⟩ := st <;> try exact False.elim h
  obtain ⟨h16, hlt, hw, hs⟩ := zobj_at (G := G) h.1 (zci hc)
  have hz : (zfs G σ x ci).set k (.long (Int64.ofInt y)) = zfs G (σ.1, σ.2.1, zup σ.2.2.1 x kk y, σ.2.2.2) x ci := zfs_set (by rw [hf]; exact hk) (by rw [h2, show zfv G (σ.1, σ.2.1, zup σ.2.2.1 x kk y, σ.2.2.2) x 2 k = .long (Int64.ofInt (zup σ.2.2.1 x kk y x k)) from rfl, ← hkk, zup_at]) (fun j hj => zfv_M rfl rfl (zup_k (by omega)))
  rw [List.map_cons, List.map_cons, show zcv G (Sum.inr (Sum.inr x)) = .ref (zloc G x) from zloc_cv (by omega)]
  refine va_put (own := (zyn mi).cls) (ref := (T k).1) (ty := ty0 k) (v := .long (Int64.ofInt y)) I.1 I.2.1 I.2.2.2.2.1 hin ty0 hty hnm I.2.2.2.1 Rp.1 Rp.2.1 (zws_D G σ) S (x - 16) hw hc k hk (I.2.2.2.2.1 _ hl) (fun _ q => q) hfn (hty k hk) (by rw [hT]; rfl) (by rw [hT]; rfl) (by rw [zfs_len, hf]; exact hk) hd (fun H1 locs1 hP1 hD1 S1 => ?_)
  rw [hz] at hP1
  refine hk0 _ _ _ _ _ _ h.2 p e R s m args below meth c H1 locs1 la I FT (zRep_set (σ' := (σ.1, σ.2.1, zup σ.2.2.1 x kk y, σ.2.2.2)) (c := x) Rp S S1 h16 hlt hP1 rfl (fun c q k => rfl) (fun c q k => rfl) (fun c q k => zup_c q) (zcell_o hs (zci hc)) ?_) S1 E V U1 U2 (zt1 (zt1 ok)) okl
  intro j hj
  by_cases hq : j = kk
  · subst hq
    rw [show (σ.1, σ.2.1, zup σ.2.2.1 x j y, σ.2.2.2).2.2.1 x j = y from zup_at _ _ _ _, hkk, zty_o hs (zci hc), h2]
    exact zh1 ok
  · rw [show (σ.1, σ.2.1, zup σ.2.2.1 x kk y, σ.2.2.2).2.2.1 x j = σ.2.2.1 x j from zup_k hq]
    exact Rp.2.2.2.1 x j hj
theorem s_putF {l : Launch} {G : zG} {mi pc nx ci k idx N : Nat} {C : String} {T : u_T} (hc : zcls[ci]? = some (C, T, N)) (hin : ∀ w ∈ u_ws C T N, w ∈ zwd) (hf : zfn ci = N) (hk : k < N) (ty0 : Nat → FieldType) (hty : ∀ k, k < N → parseFieldDescriptor (T k).2.2.1 = some (ty0 k)) (hnm : ∀ a, a < N → ∀ b, b < N → a ≠ b → (T a).2.1 ≠ (T b).2.1) (h2 : zfty ci k = 8) (hfn : (T k).2.2.2 = true) (hini : (zyn mi).name = "<init>") (hde : (T k).1 = (zyn mi).cls) (hnr : ∀ a, narrow (ty0 k) (.ref a) = .ref a) (hft : ∀ a, fits (ty0 k) (.ref a) = true) (hl : Cond.fieldLink (zyn mi).cls idx (T k).1 (T k).2.1 (T k).2.2.1 ∈ zwd) (hd : decode (zby mi) pc = .ok (.putfield idx, 3)) (hn : pc + 3 = nx) : zSnd l G mi pc (o_putF zshp nx ci k) := by
  subst hn
  intro d uc us call k0 Q ls st σ h hcl hk0 p e R s m args below meth c H locs la I FT Rp S E V U1 U2 ok okl
  obtain _ | ⟨y | y | y, _ | ⟨x | x | x, st⟩⟩ := st <;> try exact False.elim h
  obtain ⟨h16, hlt, hw, hs⟩ := zobj_at (G := G) h.1 (zci hc)
  have h15 : 15 < y := Nat.le_of_ble_eq_true h.2.1
  have hz : (zfs G σ x ci).set k (.ref (zloc G y)) = zfs G (zupN σ.1 x k y, σ.2.1, σ.2.2.1, σ.2.2.2) x ci := zfs_set (by rw [hf]; exact hk) (by rw [h2, show zfv G (zupN σ.1 x k y, σ.2.1, σ.2.2.1, σ.2.2.2) x 8 k = va_rf (zrf G (zupN σ.1 x k y x k)) from rfl, zupN_at, zrf_hi h15]) (fun j hj => zfv_M (zupN_k hj) rfl rfl)
  rw [List.map_cons, List.map_cons, show zcv G (Sum.inr (Sum.inr x)) = .ref (zloc G x) from zloc_cv (by omega), show zcv G (Sum.inr (Sum.inr y)) = .ref (zloc G y) from zloc_cv (by omega)]
  refine va_putF (own := (zyn mi).cls) (ref := (T k).1) (ty := ty0 k) (v := .ref (zloc G y)) I.1 I.2.1 I.2.2.2.2.1 hin ty0 hty hnm I.2.2.2.1 Rp.1 Rp.2.1 (zws_D G σ) S (x - 16) hw hc k hk (I.2.2.2.2.1 _ hl) (fun _ q => q) hfn (I.2.2.2.2.2.2.2 hini) hde (hty k hk) (hnr _) (hft _) (by rw [zfs_len, hf]; exact hk) hd (fun H1 locs1 hP1 hD1 S1 => ?_)
  rw [hz] at hP1
  refine hk0 _ _ _ _ _ _ h.2.2 p e R s m args below meth c H1 locs1 la I FT (zRep_set (σ' := (zupN σ.1 x k y, σ.2.1, σ.2.2.1, σ.2.2.2)) (c := x) Rp S S1 h16 hlt hP1 rfl (fun c q k => zupN_c q) (fun c q k => rfl) (fun c q k => rfl) (zcell_o hs (zci hc)) ?_) S1 E V U1 U2 (zt1 (zt1 ok)) okl
  exact fun j hj => Rp.2.2.2.1 x j hj
theorem s_putP {l : Launch} {G : zG} {mi pc nx ci k idx N : Nat} {C : String} {T : u_T} (hc : zcls[ci]? = some (C, T, N)) (hin : ∀ w ∈ u_ws C T N, w ∈ zwd) (hf : zfn ci = N) (hk : k < N) (ty0 : Nat → FieldType) (hty : ∀ k, k < N → parseFieldDescriptor (T k).2.2.1 = some (ty0 k)) (hnm : ∀ a, a < N → ∀ b, b < N → a ≠ b → (T a).2.1 ≠ (T b).2.1) (h2 : zfty ci k = 9) (hfn : (T k).2.2.2 = false) (hnr : ∀ a, narrow (ty0 k) (.ref a) = .ref a) (hft : ∀ a, fits (ty0 k) (.ref a) = true) (hl : Cond.fieldLink (zyn mi).cls idx (T k).1 (T k).2.1 (T k).2.2.1 ∈ zwd) (hd : decode (zby mi) pc = .ok (.putfield idx, 3)) (hn : pc + 3 = nx) : zSnd l G mi pc (o_putP zshp nx ci k) := by
  subst hn
  intro d uc us call k0 Q ls st σ h hcl hk0 p e R s m args below meth c H locs la I FT Rp S E V U1 U2 ok okl
  obtain _ | ⟨y | y | y, _ | ⟨x | x | x, st⟩⟩ := st <;> try exact False.elim h
  obtain ⟨h16, hlt, hw, hs⟩ := zobj_at (G := G) h.1 (zci hc)
  have h15 : 15 < y := h.2.1
  have hz : (zfs G σ x ci).set k (.ref (zloc G y)) = zfs G (σ.1, zupN σ.2.1 x k y, σ.2.2.1, σ.2.2.2) x ci := zfs_set (by rw [hf]; exact hk) (by rw [h2, show zfv G (σ.1, zupN σ.2.1 x k y, σ.2.2.1, σ.2.2.2) x 9 k = va_rf (zrf G (zupN σ.2.1 x k y x k)) from rfl, zupN_at, zrf_hi h15]) (fun j hj => zfv_M rfl (zupN_k hj) rfl)
  rw [List.map_cons, List.map_cons, show zcv G (Sum.inr (Sum.inr x)) = .ref (zloc G x) from zloc_cv (by omega), show zcv G (Sum.inr (Sum.inr y)) = .ref (zloc G y) from zloc_cv (by omega)]
  refine va_put (own := (zyn mi).cls) (ref := (T k).1) (ty := ty0 k) (v := .ref (zloc G y)) I.1 I.2.1 I.2.2.2.2.1 hin ty0 hty hnm I.2.2.2.1 Rp.1 Rp.2.1 (zws_D G σ) S (x - 16) hw hc k hk (I.2.2.2.2.1 _ hl) (fun _ q => q) hfn (hty k hk) (hnr _) (hft _) (by rw [zfs_len, hf]; exact hk) hd (fun H1 locs1 hP1 hD1 S1 => ?_)
  rw [hz] at hP1
  refine hk0 _ _ _ _ _ _ h.2.2 p e R s m args below meth c H1 locs1 la I FT (zRep_set (σ' := (σ.1, zupN σ.2.1 x k y, σ.2.2.1, σ.2.2.2)) (c := x) Rp S S1 h16 hlt hP1 rfl (fun c q k => rfl) (fun c q k => zupN_c q) (fun c q k => rfl) (zcell_o hs (zci hc)) ?_) S1 E V U1 U2 (zt1 (zt1 ok)) okl
  exact fun j hj => Rp.2.2.2.1 x j hj
