/-! The simple steps are sound. -/
theorem zc1 {v : zV} {st : List zV} (h : zok v) (t : ∀ w ∈ st, zok w) : ∀ w ∈ v :: st, zok w := List.forall_mem_cons.mpr ⟨h, t⟩
theorem zt1 {v : zV} {st : List zV} (h : ∀ w ∈ v :: st, zok w) : ∀ w ∈ st, zok w := (List.forall_mem_cons.mp h).2
theorem zh1 {v : zV} {st : List zV} (h : ∀ w ∈ v :: st, zok w) : zok v := (List.forall_mem_cons.mp h).1
theorem i_and (x y : Int) : Int32.ofInt (zand x y) = Int32.ofInt x &&& Int32.ofInt y := Int32.ofInt_toInt _
theorem zcmp_in (x y : Int) : in32 (zcmp x y) := by
  unfold zcmp in32
  split
  · omega
  · split <;> omega
theorem i_cmp {x y : Int} (hx : in64 x) (hy : in64 y) : Int32.ofInt (zcmp x y) = lg_cmp (Int64.ofInt x) (Int64.ofInt y) := by
  unfold zcmp lg_cmp
  by_cases h1 : x < y
  · simp [h1, j_lt hx hy, j_eq hx hy, j_lt hy hx]
    first | done | (split <;> first | rfl | omega | (split <;> first | rfl | omega))
  · by_cases h2 : x = y
    · subst h2
      simp
    · have h3 : y < x := by omega
      simp [h1, h2, h3, j_lt hx hy, j_eq hx hy, j_lt hy hx]
theorem w8_in (x : Int) : in32 (w8 x) := by unfold in32 w8; omega
theorem i_w8 {x : Int} (h : in32 x) : (Int32.ofInt x).toInt8.toInt32 = Int32.ofInt (w8 x) := by
  rw [← Int32.toInt_inj, i_ti (w8_in x), Int8.toInt_toInt32, Int32.toInt_toInt8, i_ti h]
  unfold w8
  simp only [Int.bmod]
  omega
theorem w16_in (x : Int) : in32 (w16 x) := by unfold in32 w16; omega
theorem i_w16 {x : Int} (h : in32 x) : ((Int32.ofInt x).toUInt32 % 65536).toInt32 = Int32.ofInt (w16 x) := by
  rw [pk_char, ← Int32.toInt_inj, i_ti (w16_in x)]
  have h1 : ((Int32.ofInt x).toBitVec.toNat : Int) % 65536 = x % 65536 := by
    have : (Int32.ofInt x).toBitVec = BitVec.ofInt 32 x := rfl
    rw [this, BitVec.toNat_ofInt]
    have h2 := h.1
    have h3 := h.2
    omega
  have h4 : (Int32.ofInt x).toBitVec.toNat % 65536 < 65536 := Nat.mod_lt _ (by decide)
  rw [nI_toInt (by omega)]
  unfold w16
  omega
theorem s_iadd {l : Launch} {G : zG} {mi pc nx : Nat} (hd : decode (zby mi) pc = .ok (.iadd, 1)) (hn : pc + 1 = nx) : zSnd l G mi pc (o_iadd nx) := by
  subst hn
  intro d uc us call k Q ls st σ h hc hk p e R s m args below meth c H locs la I FT Rp S E V U1 U2 ok okl
  obtain _ | ⟨y | y | y, _ | ⟨x | x | x, st⟩⟩ := st <;> try exact False.elim h
  have g := hk _ _ _ _ _ _ h p e R s m args below meth c H locs la I FT Rp S E V U1 U2 (zc1 (w32_in _) (zt1 (zt1 ok))) okl
  refine lv_iadd I.1 I.2.1 hd ?_
  have e : Int32.ofInt x + Int32.ofInt y = Int32.ofInt (w32 (x + y)) := by rw [i_w, Int32.ofInt_add]
  rw [e]
  exact g
theorem s_isub {l : Launch} {G : zG} {mi pc nx : Nat} (hd : decode (zby mi) pc = .ok (.isub, 1)) (hn : pc + 1 = nx) : zSnd l G mi pc (o_isub nx) := by
  subst hn
  intro d uc us call k Q ls st σ h hc hk p e R s m args below meth c H locs la I FT Rp S E V U1 U2 ok okl
  obtain _ | ⟨y | y | y, _ | ⟨x | x | x, st⟩⟩ := st <;> try exact False.elim h
  have g := hk _ _ _ _ _ _ h p e R s m args below meth c H locs la I FT Rp S E V U1 U2 (zc1 (w32_in _) (zt1 (zt1 ok))) okl
  refine lv_isub I.1 I.2.1 hd ?_
  have e : Int32.ofInt x - Int32.ofInt y = Int32.ofInt (w32 (x - y)) := by rw [i_w, Int32.ofInt_sub]
  rw [e]
  exact g
theorem s_imul {l : Launch} {G : zG} {mi pc nx : Nat} (hd : decode (zby mi) pc = .ok (.imul, 1)) (hn : pc + 1 = nx) : zSnd l G mi pc (o_imul nx) := by
  subst hn
  intro d uc us call k Q ls st σ h hc hk p e R s m args below meth c H locs la I FT Rp S E V U1 U2 ok okl
  obtain _ | ⟨y | y | y, _ | ⟨x | x | x, st⟩⟩ := st <;> try exact False.elim h
  have g := hk _ _ _ _ _ _ h p e R s m args below meth c H locs la I FT Rp S E V U1 U2 (zc1 (w32_in _) (zt1 (zt1 ok))) okl
  refine lv_imul I.1 I.2.1 hd ?_
  have e : Int32.ofInt x * Int32.ofInt y = Int32.ofInt (w32 (x * y)) := by rw [i_w, Int32.ofInt_mul]
  rw [e]
  exact g
theorem s_iand {l : Launch} {G : zG} {mi pc nx : Nat} (hd : decode (zby mi) pc = .ok (.iand, 1)) (hn : pc + 1 = nx) : zSnd l G mi pc (o_iand nx) := by
  subst hn
  intro d uc us call k Q ls st σ h hc hk p e R s m args below meth c H locs la I FT Rp S E V U1 U2 ok okl
  obtain _ | ⟨y | y | y, _ | ⟨x | x | x, st⟩⟩ := st <;> try exact False.elim h
  have g := hk _ _ _ _ _ _ h p e R s m args below meth c H locs la I FT Rp S E V U1 U2 (zc1 (i_in _) (zt1 (zt1 ok))) okl
  refine lv_iand I.1 I.2.1 hd ?_
  have e : Int32.ofInt x &&& Int32.ofInt y = Int32.ofInt (zand x y) := (Int32.ofInt_toInt _).symm
  rw [e]
  exact g
theorem s_ior {l : Launch} {G : zG} {mi pc nx : Nat} (hd : decode (zby mi) pc = .ok (.ior, 1)) (hn : pc + 1 = nx) : zSnd l G mi pc (o_ior nx) := by
  subst hn
  intro d uc us call k Q ls st σ h hc hk p e R s m args below meth c H locs la I FT Rp S E V U1 U2 ok okl
  obtain _ | ⟨y | y | y, _ | ⟨x | x | x, st⟩⟩ := st <;> try exact False.elim h
  have g := hk _ _ _ _ _ _ h p e R s m args below meth c H locs la I FT Rp S E V U1 U2 (zc1 (i_in _) (zt1 (zt1 ok))) okl
  refine lv_ior I.1 I.2.1 hd ?_
  have e : Int32.ofInt x ||| Int32.ofInt y = Int32.ofInt (zor x y) := (Int32.ofInt_toInt _).symm
  rw [e]
  exact g
theorem s_ishl {l : Launch} {G : zG} {mi pc nx : Nat} (hd : decode (zby mi) pc = .ok (.ishl, 1)) (hn : pc + 1 = nx) : zSnd l G mi pc (o_ishl nx) := by
  subst hn
  intro d uc us call k Q ls st σ h hc hk p e R s m args below meth c H locs la I FT Rp S E V U1 U2 ok okl
  obtain _ | ⟨y | y | y, _ | ⟨x | x | x, st⟩⟩ := st <;> try exact False.elim h
  have g := hk _ _ _ _ _ _ h p e R s m args below meth c H locs la I FT Rp S E V U1 U2 (zc1 (i_in _) (zt1 (zt1 ok))) okl
  refine lv_ishl I.1 I.2.1 hd ?_
  have e : Int32.ofInt x <<< (Int32.ofInt y &&& 31) = Int32.ofInt (zshl x y) := (Int32.ofInt_toInt _).symm
  rw [e]
  exact g
theorem s_ishr {l : Launch} {G : zG} {mi pc nx : Nat} (hd : decode (zby mi) pc = .ok (.ishr, 1)) (hn : pc + 1 = nx) : zSnd l G mi pc (o_ishr nx) := by
  subst hn
  intro d uc us call k Q ls st σ h hc hk p e R s m args below meth c H locs la I FT Rp S E V U1 U2 ok okl
  obtain _ | ⟨y | y | y, _ | ⟨x | x | x, st⟩⟩ := st <;> try exact False.elim h
  have g := hk _ _ _ _ _ _ h p e R s m args below meth c H locs la I FT Rp S E V U1 U2 (zc1 (i_in _) (zt1 (zt1 ok))) okl
  refine lv_ishr I.1 I.2.1 hd ?_
  have e : Int32.ofInt x >>> (Int32.ofInt y &&& 31) = Int32.ofInt (zshr x y) := (Int32.ofInt_toInt _).symm
  rw [e]
  exact g
theorem s_iushr {l : Launch} {G : zG} {mi pc nx : Nat} (hd : decode (zby mi) pc = .ok (.iushr, 1)) (hn : pc + 1 = nx) : zSnd l G mi pc (o_iushr nx) := by
  subst hn
  intro d uc us call k Q ls st σ h hc hk p e R s m args below meth c H locs la I FT Rp S E V U1 U2 ok okl
  obtain _ | ⟨y | y | y, _ | ⟨x | x | x, st⟩⟩ := st <;> try exact False.elim h
  exact lv_iushr (v := Int32.ofInt (zushr x y)) I.1 I.2.1 hd (Int32.ofInt_toInt _).symm (hk _ _ _ _ _ _ h p e R s m args below meth c H locs la I FT Rp S E V U1 U2 (zc1 (i_in _) (zt1 (zt1 ok))) okl)
theorem s_ladd {l : Launch} {G : zG} {mi pc nx : Nat} (hd : decode (zby mi) pc = .ok (.ladd, 1)) (hn : pc + 1 = nx) : zSnd l G mi pc (o_ladd nx) := by
  subst hn
  intro d uc us call k Q ls st σ h hc hk p e R s m args below meth c H locs la I FT Rp S E V U1 U2 ok okl
  obtain _ | ⟨y | y | y, _ | ⟨x | x | x, st⟩⟩ := st <;> try exact False.elim h
  have g := hk _ _ _ _ _ _ h p e R s m args below meth c H locs la I FT Rp S E V U1 U2 (zc1 (w64_in _) (zt1 (zt1 ok))) okl
  refine lv_ladd I.1 I.2.1 hd ?_
  have e : Int64.ofInt x + Int64.ofInt y = Int64.ofInt (w64 (x + y)) := by rw [j_w, Int64.ofInt_add]
  rw [e]
  exact g
theorem s_lsub {l : Launch} {G : zG} {mi pc nx : Nat} (hd : decode (zby mi) pc = .ok (.lsub, 1)) (hn : pc + 1 = nx) : zSnd l G mi pc (o_lsub nx) := by
  subst hn
  intro d uc us call k Q ls st σ h hc hk p e R s m args below meth c H locs la I FT Rp S E V U1 U2 ok okl
  obtain _ | ⟨y | y | y, _ | ⟨x | x | x, st⟩⟩ := st <;> try exact False.elim h
  have g := hk _ _ _ _ _ _ h p e R s m args below meth c H locs la I FT Rp S E V U1 U2 (zc1 (w64_in _) (zt1 (zt1 ok))) okl
  refine lv_lsub I.1 I.2.1 hd ?_
  have e : Int64.ofInt x - Int64.ofInt y = Int64.ofInt (w64 (x - y)) := by rw [j_w, Int64.ofInt_sub]
  rw [e]
  exact g
theorem s_lmul {l : Launch} {G : zG} {mi pc nx : Nat} (hd : decode (zby mi) pc = .ok (.lmul, 1)) (hn : pc + 1 = nx) : zSnd l G mi pc (o_lmul nx) := by
  subst hn
  intro d uc us call k Q ls st σ h hc hk p e R s m args below meth c H locs la I FT Rp S E V U1 U2 ok okl
  obtain _ | ⟨y | y | y, _ | ⟨x | x | x, st⟩⟩ := st <;> try exact False.elim h
  have g := hk _ _ _ _ _ _ h p e R s m args below meth c H locs la I FT Rp S E V U1 U2 (zc1 (w64_in _) (zt1 (zt1 ok))) okl
  refine lv_lmul I.1 I.2.1 hd ?_
  have e : Int64.ofInt x * Int64.ofInt y = Int64.ofInt (w64 (x * y)) := by rw [j_w, Int64.ofInt_mul]
  rw [e]
  exact g
theorem s_land {l : Launch} {G : zG} {mi pc nx : Nat} (hd : decode (zby mi) pc = .ok (.land, 1)) (hn : pc + 1 = nx) : zSnd l G mi pc (o_land nx) := by
  subst hn
  intro d uc us call k Q ls st σ h hc hk p e R s m args below meth c H locs la I FT Rp S E V U1 U2 ok okl
  obtain _ | ⟨y | y | y, _ | ⟨x | x | x, st⟩⟩ := st <;> try exact False.elim h
  have g := hk _ _ _ _ _ _ h p e R s m args below meth c H locs la I FT Rp S E V U1 U2 (zc1 (j_in _) (zt1 (zt1 ok))) okl
  refine lv_land I.1 I.2.1 hd ?_
  have e : Int64.ofInt x &&& Int64.ofInt y = Int64.ofInt (zandL x y) := (Int64.ofInt_toInt _).symm
  rw [e]
  exact g
theorem s_ldiv {l : Launch} {G : zG} {mi pc nx : Nat} (hd : decode (zby mi) pc = .ok (.ldiv, 1)) (hn : pc + 1 = nx) : zSnd l G mi pc (o_ldiv nx) := by
  subst hn
  intro d uc us call k Q ls st σ h hc hk p e R s m args below meth c H locs la I FT Rp S E V U1 U2 ok okl
  obtain _ | ⟨y | y | y, _ | ⟨x | x | x, st⟩⟩ := st <;> try exact False.elim h
  have g := hk _ _ _ _ _ _ h.2 p e R s m args below meth c H locs la I FT Rp S E V U1 U2 (zc1 (j_in _) (zt1 (zt1 ok))) okl
  have hy : in64 y := zh1 ok
  refine lv_ldiv I.1 I.2.1 hd (fun q => h.1 ((j_eq hy (show in64 0 by unfold in64; omega)).mp q)) ?_
  have e : Int64.ofInt x / Int64.ofInt y = Int64.ofInt (zdivL x y) := (Int64.ofInt_toInt _).symm
  rw [e]
  exact g
theorem s_lshr {l : Launch} {G : zG} {mi pc nx : Nat} (hd : decode (zby mi) pc = .ok (.lshr, 1)) (hn : pc + 1 = nx) : zSnd l G mi pc (o_lshr nx) := by
  subst hn
  intro d uc us call k Q ls st σ h hc hk p e R s m args below meth c H locs la I FT Rp S E V U1 U2 ok okl
  obtain _ | ⟨y | y | y, _ | ⟨x | x | x, st⟩⟩ := st <;> try exact False.elim h
  exact lv_lshr (v := Int64.ofInt (zshrL x y)) I.1 I.2.1 hd (Int64.ofInt_toInt _).symm (hk _ _ _ _ _ _ h p e R s m args below meth c H locs la I FT Rp S E V U1 U2 (zc1 (j_in _) (zt1 (zt1 ok))) okl)
theorem s_lcmp {l : Launch} {G : zG} {mi pc nx : Nat} (hd : decode (zby mi) pc = .ok (.lcmp, 1)) (hn : pc + 1 = nx) : zSnd l G mi pc (o_lcmp nx) := by
  subst hn
  intro d uc us call k Q ls st σ h hc hk p e R s m args below meth c H locs la I FT Rp S E V U1 U2 ok okl
  obtain _ | ⟨y | y | y, _ | ⟨x | x | x, st⟩⟩ := st <;> try exact False.elim h
  have g := hk _ _ _ _ _ _ h p e R s m args below meth c H locs la I FT Rp S E V U1 U2 (zc1 (zcmp_in _ _) (zt1 (zt1 ok))) okl
  refine W.lcmp I.1 I.2.1 hd ?_
  rw [← i_cmp (zh1 (zt1 ok)) (zh1 ok)]
  exact g
theorem s_i2l {l : Launch} {G : zG} {mi pc nx : Nat} (hd : decode (zby mi) pc = .ok (.i2l, 1)) (hn : pc + 1 = nx) : zSnd l G mi pc (o_i2l nx) := by
  subst hn
  intro d uc us call k Q ls st σ h hc hk p e R s m args below meth c H locs la I FT Rp S E V U1 U2 ok okl
  obtain _ | ⟨x | x | x, st⟩ := st <;> try exact False.elim h
  have hx : in32 x := zh1 ok
  have hx2 : in64 x := by unfold in32 at hx; unfold in64; omega
  exact lv_i2l (v := Int64.ofInt x) I.1 I.2.1 hd (by rw [← Int64.toInt_inj, Int32.toInt_toInt64, i_ti hx, j_ti hx2]) (hk _ _ _ _ _ _ h p e R s m args below meth c H locs la I FT Rp S E V U1 U2 (zc1 hx2 (zt1 ok)) okl)
theorem s_l2i {l : Launch} {G : zG} {mi pc nx : Nat} (hd : decode (zby mi) pc = .ok (.l2i, 1)) (hn : pc + 1 = nx) : zSnd l G mi pc (o_l2i nx) := by
  subst hn
  intro d uc us call k Q ls st σ h hc hk p e R s m args below meth c H locs la I FT Rp S E V U1 U2 ok okl
  obtain _ | ⟨x | x | x, st⟩ := st <;> try exact False.elim h
  have hx : in64 x := zh1 ok
  exact lv_l2i (v := Int32.ofInt (w32 x)) I.1 I.2.1 hd (by
    rw [← Int32.toInt_inj, Int64.toInt_toInt32, j_ti hx, i_ti (w32_in x)]
    unfold w32
    simp only [Int.bmod]
    omega) (hk _ _ _ _ _ _ h p e R s m args below meth c H locs la I FT Rp S E V U1 U2 (zc1 (w32_in _) (zt1 ok)) okl)
theorem s_i2b {l : Launch} {G : zG} {mi pc nx : Nat} (hd : decode (zby mi) pc = .ok (.i2b, 1)) (hn : pc + 1 = nx) : zSnd l G mi pc (o_i2b nx) := by
  subst hn
  intro d uc us call k Q ls st σ h hc hk p e R s m args below meth c H locs la I FT Rp S E V U1 U2 ok okl
  obtain _ | ⟨x | x | x, st⟩ := st <;> try exact False.elim h
  exact lv_i2b (v := Int32.ofInt (w8 x)) I.1 I.2.1 hd (i_w8 (zh1 ok)) (hk _ _ _ _ _ _ h p e R s m args below meth c H locs la I FT Rp S E V U1 U2 (zc1 (w8_in _) (zt1 ok)) okl)
theorem s_i2c {l : Launch} {G : zG} {mi pc nx : Nat} (hd : decode (zby mi) pc = .ok (.i2c, 1)) (hn : pc + 1 = nx) : zSnd l G mi pc (o_i2c nx) := by
  subst hn
  intro d uc us call k Q ls st σ h hc hk p e R s m args below meth c H locs la I FT Rp S E V U1 U2 ok okl
  obtain _ | ⟨x | x | x, st⟩ := st <;> try exact False.elim h
  exact lv_i2c (v := Int32.ofInt (w16 x)) I.1 I.2.1 hd (i_w16 (zh1 ok)) (hk _ _ _ _ _ _ h p e R s m args below meth c H locs la I FT Rp S E V U1 U2 (zc1 (w16_in _) (zt1 ok)) okl)
theorem s_pop {l : Launch} {G : zG} {mi pc nx : Nat} (hd : decode (zby mi) pc = .ok (.pop, 1)) (hn : pc + 1 = nx) : zSnd l G mi pc (o_pop nx) := by
  subst hn
  intro d uc us call k Q ls st σ h hc hk p e R s m args below meth c H locs la I FT Rp S E V U1 U2 ok okl
  obtain _ | ⟨x | x | x, st⟩ := st <;> try exact False.elim h
  exact lv_pop I.1 I.2.1 hd rfl (hk _ _ _ _ _ _ h p e R s m args below meth c H locs la I FT Rp S E V U1 U2 (zt1 ok) okl)
theorem zcv_cat (G : zG) (hv : G.2.2.1 = .null ∨ ∃ t, G.2.2.1 = .ref t) (r : Nat) : (zcv G (vR r)).category = 1 := by
  show (if r = 15 then G.2.2.1 else Value.ref (zloc G r)).category = 1
  split
  · rcases hv with h | ⟨t, h⟩ <;> rw [h] <;> rfl
  · rfl
theorem s_dup {l : Launch} {G : zG} {mi pc nx : Nat} (hd : decode (zby mi) pc = .ok (.dup, 1)) (hn : pc + 1 = nx) : zSnd l G mi pc (o_dup nx) := by
  subst hn
  intro d uc us call k Q ls st σ h hc hk p e R s m args below meth c H locs la I FT Rp S E V U1 U2 ok okl
  obtain _ | ⟨x | x | x, st⟩ := st
  · exact False.elim h
  · exact lv_dup I.1 I.2.1 hd rfl (hk _ _ _ _ _ _ h p e R s m args below meth c H locs la I FT Rp S E V U1 U2 (zc1 (zh1 ok) ok) okl)
  · exact False.elim h
  · exact lv_dup I.1 I.2.1 hd (zcv_cat G Rp.2.2.2.2.2.1.2.2.2.2.2.2.2.2.2.1 x) (hk _ _ _ _ _ _ h p e R s m args below meth c H locs la I FT Rp S E V U1 U2 (zc1 (zh1 ok) ok) okl)
theorem s_dup2 {l : Launch} {G : zG} {mi pc nx : Nat} (hd : decode (zby mi) pc = .ok (.dup2, 1)) (hn : pc + 1 = nx) : zSnd l G mi pc (o_dup2 nx) := by
  subst hn
  intro d uc us call k Q ls st σ h hc hk p e R s m args below meth c H locs la I FT Rp S E V U1 U2 ok okl
  obtain _ | ⟨y | y | y, _ | ⟨x | x | x, st⟩⟩ := st <;> try exact False.elim h
  exact lv_dup2_11 I.1 I.2.1 hd rfl (zcv_cat G Rp.2.2.2.2.2.1.2.2.2.2.2.2.2.2.2.1 x) (hk _ _ _ _ _ _ h p e R s m args below meth c H locs la I FT Rp S E V U1 U2 (zc1 (zh1 ok) (zc1 trivial ok)) okl)
theorem s_iconst {l : Launch} {G : zG} {mi pc nx : Nat} {n : Int} (hd : decode (zby mi) pc = .ok (.iconst n, 1)) (hn : pc + 1 = nx) (hr : -2147483648 ≤ n ∧ n < 2147483648) : zSnd l G mi pc (o_con nx (vI n)) := by
  subst hn
  intro d uc us call k Q ls st σ h hc hk p e R s m args below meth c H locs la I FT Rp S E V U1 U2 ok okl
  exact lv_iconst (v := Int32.ofInt n) I.1 I.2.1 hd rfl (hk _ _ _ _ _ _ h p e R s m args below meth c H locs la I FT Rp S E V U1 U2 (zc1 hr ok) okl)
theorem s_bipush {l : Launch} {G : zG} {mi pc nx : Nat} {n : Int} (hd : decode (zby mi) pc = .ok (.bipush n, 2)) (hn : pc + 2 = nx) (hr : -128 ≤ n ∧ n < 128) : zSnd l G mi pc (o_con nx (vI n)) := by
  subst hn
  intro d uc us call k Q ls st σ h hc hk p e R s m args below meth c H locs la I FT Rp S E V U1 U2 ok okl
  exact lv_bipush (v := Int32.ofInt n) I.1 I.2.1 hd (by rw [← Int32.toInt_inj, Int8.toInt_toInt32, i_ti (show in32 n by unfold in32; omega), Int8.toInt_ofInt_of_le (by omega) (by omega)]) (hk _ _ _ _ _ _ h p e R s m args below meth c H locs la I FT Rp S E V U1 U2 (zc1 (show in32 n by unfold in32; omega) ok) okl)
theorem s_sipush {l : Launch} {G : zG} {mi pc nx : Nat} {n : Int} (hd : decode (zby mi) pc = .ok (.sipush n, 3)) (hn : pc + 3 = nx) (hr : -32768 ≤ n ∧ n < 32768) : zSnd l G mi pc (o_con nx (vI n)) := by
  subst hn
  intro d uc us call k Q ls st σ h hc hk p e R s m args below meth c H locs la I FT Rp S E V U1 U2 ok okl
  exact lv_sipush (v := Int32.ofInt n) I.1 I.2.1 hd (by rw [← Int32.toInt_inj, Int16.toInt_toInt32, i_ti (show in32 n by unfold in32; omega), Int16.toInt_ofInt_of_le (by omega) (by omega)]) (hk _ _ _ _ _ _ h p e R s m args below meth c H locs la I FT Rp S E V U1 U2 (zc1 (show in32 n by unfold in32; omega) ok) okl)
theorem s_lconst0 {l : Launch} {G : zG} {mi pc nx : Nat} (hd : decode (zby mi) pc = .ok (.lconst 0, 1)) (hn : pc + 1 = nx) : zSnd l G mi pc (o_con nx (vJ 0)) := by
  subst hn
  intro d uc us call k Q ls st σ h hc hk p e R s m args below meth c H locs la I FT Rp S E V U1 U2 ok okl
  exact lv_lconst (v := Int64.ofInt 0) I.1 I.2.1 hd rfl (hk _ _ _ _ _ _ h p e R s m args below meth c H locs la I FT Rp S E V U1 U2 (zc1 (show in64 0 by unfold in64; omega) ok) okl)
theorem s_lconst1 {l : Launch} {G : zG} {mi pc nx : Nat} (hd : decode (zby mi) pc = .ok (.lconst 1, 1)) (hn : pc + 1 = nx) : zSnd l G mi pc (o_con nx (vJ 1)) := by
  subst hn
  intro d uc us call k Q ls st σ h hc hk p e R s m args below meth c H locs la I FT Rp S E V U1 U2 ok okl
  exact lv_lconst (v := Int64.ofInt 1) I.1 I.2.1 hd rfl (hk _ _ _ _ _ _ h p e R s m args below meth c H locs la I FT Rp S E V U1 U2 (zc1 (show in64 1 by unfold in64; omega) ok) okl)
theorem s_ldc {l : Launch} {G : zG} {mi pc nx idx : Nat} {n : Int} (hw : Cond.constant (zyn mi).cls idx (Int32.ofInt n) ∈ zwd) (hd : decode (zby mi) pc = .ok (.ldc idx, 2)) (hn : pc + 2 = nx) (hr : -2147483648 ≤ n ∧ n < 2147483648) : zSnd l G mi pc (o_con nx (vI n)) := by
  subst hn
  intro d uc us call k Q ls st σ h hc hk p e R s m args below meth c H locs la I FT Rp S E V U1 U2 ok okl
  exact lv_ldc (v := Int32.ofInt n) I.1 I.2.1 I.2.2.2.1 (I.2.2.2.2.1 _ hw) hd (hk _ _ _ _ _ _ h p e R s m args below meth c H locs la I FT Rp S E V U1 U2 (zc1 hr ok) okl)
theorem s_ldcw {l : Launch} {G : zG} {mi pc nx idx : Nat} {n : Int} (hw : Cond.constant (zyn mi).cls idx (Int32.ofInt n) ∈ zwd) (hd : decode (zby mi) pc = .ok (.ldc_w idx, 3)) (hn : pc + 3 = nx) (hr : -2147483648 ≤ n ∧ n < 2147483648) : zSnd l G mi pc (o_con nx (vI n)) := by
  subst hn
  intro d uc us call k Q ls st σ h hc hk p e R s m args below meth c H locs la I FT Rp S E V U1 U2 ok okl
  exact lv_ldcw (v := Int32.ofInt n) I.1 I.2.1 I.2.2.2.1 (I.2.2.2.2.1 _ hw) hd (hk _ _ _ _ _ _ h p e R s m args below meth c H locs la I FT Rp S E V U1 U2 (zc1 hr ok) okl)
theorem s_ldc2 {l : Launch} {G : zG} {mi pc nx idx : Nat} {n : Int} (hw : Cond.constantLong (zyn mi).cls idx (Int64.ofInt n) ∈ zwd) (hd : decode (zby mi) pc = .ok (.ldc2_w idx, 3)) (hn : pc + 3 = nx) (hr : -9223372036854775808 ≤ n ∧ n < 9223372036854775808) : zSnd l G mi pc (o_con nx (vJ n)) := by
  subst hn
  intro d uc us call k Q ls st σ h hc hk p e R s m args below meth c H locs la I FT Rp S E V U1 U2 ok okl
  exact lv_ldc2 (v := Int64.ofInt n) I.1 I.2.1 I.2.2.2.1 (I.2.2.2.2.1 _ hw) hd (hk _ _ _ _ _ _ h p e R s m args below meth c H locs la I FT Rp S E V U1 U2 (zc1 hr ok) okl)
theorem s_ifeq {l : Launch} {G : zG} {mi pc nx tg : Nat} {off : Int} (hd : decode (zby mi) pc = .ok (.ifCond .eq off, 3)) (hn : pc + 3 = nx) (ht : (pc : Int) + off = (tg : Int)) : zSnd l G mi pc (o_ifeq nx tg) := by
  subst hn
  intro d uc us call k Q ls st σ h hc hk p e R s m args below meth c H locs la I FT Rp S E V U1 U2 ok okl
  obtain _ | ⟨x | x | x, st⟩ := st <;> try exact False.elim h
  have hx : in32 x := zh1 ok
  have e0 : (Int32.ofInt 0 : Int32) = 0 := rfl
  refine lv_if_eq (tgt := tg) I.1 I.2.1 hd ht (fun q => ?_) (fun q => ?_)
  · exact hk _ _ _ _ _ _ (h.1 ((by rw [← e0]; exact i_eq hx i_0 : Int32.ofInt x = 0 ↔ x = 0).mp q)) p e R s m args below meth c H locs la I FT Rp S E V U1 U2 (zt1 ok) okl
  · exact hk _ _ _ _ _ _ (h.2 (fun z => q ((by rw [← e0]; exact i_eq hx i_0 : Int32.ofInt x = 0 ↔ x = 0).mpr z))) p e R s m args below meth c H locs la I FT Rp S E V U1 U2 (zt1 ok) okl
theorem s_ifne {l : Launch} {G : zG} {mi pc nx tg : Nat} {off : Int} (hd : decode (zby mi) pc = .ok (.ifCond .ne off, 3)) (hn : pc + 3 = nx) (ht : (pc : Int) + off = (tg : Int)) : zSnd l G mi pc (o_ifne nx tg) := by
  subst hn
  intro d uc us call k Q ls st σ h hc hk p e R s m args below meth c H locs la I FT Rp S E V U1 U2 ok okl
  obtain _ | ⟨x | x | x, st⟩ := st <;> try exact False.elim h
  have hx : in32 x := zh1 ok
  have e0 : (Int32.ofInt 0 : Int32) = 0 := rfl
  refine lv_if_ne (tgt := tg) I.1 I.2.1 hd ht (fun q => ?_) (fun q => ?_)
  · exact hk _ _ _ _ _ _ (h.1 ((not_congr (by rw [← e0]; exact i_eq hx i_0 : Int32.ofInt x = 0 ↔ x = 0)).mp q)) p e R s m args below meth c H locs la I FT Rp S E V U1 U2 (zt1 ok) okl
  · exact hk _ _ _ _ _ _ (h.2 (fun z => z ((by rw [← e0]; exact i_eq hx i_0 : Int32.ofInt x = 0 ↔ x = 0).mp q))) p e R s m args below meth c H locs la I FT Rp S E V U1 U2 (zt1 ok) okl
theorem s_iflt {l : Launch} {G : zG} {mi pc nx tg : Nat} {off : Int} (hd : decode (zby mi) pc = .ok (.ifCond .lt off, 3)) (hn : pc + 3 = nx) (ht : (pc : Int) + off = (tg : Int)) : zSnd l G mi pc (o_iflt nx tg) := by
  subst hn
  intro d uc us call k Q ls st σ h hc hk p e R s m args below meth c H locs la I FT Rp S E V U1 U2 ok okl
  obtain _ | ⟨x | x | x, st⟩ := st <;> try exact False.elim h
  have hx : in32 x := zh1 ok
  have e0 : (Int32.ofInt 0 : Int32) = 0 := rfl
  refine lv_if_lt (tgt := tg) I.1 I.2.1 hd ht (fun q => ?_) (fun q => ?_)
  · exact hk _ _ _ _ _ _ (h.1 ((by rw [← e0]; exact i_lt hx i_0 : Int32.ofInt x < 0 ↔ x < 0).mp q)) p e R s m args below meth c H locs la I FT Rp S E V U1 U2 (zt1 ok) okl
  · exact hk _ _ _ _ _ _ (h.2 (fun z => q ((by rw [← e0]; exact i_lt hx i_0 : Int32.ofInt x < 0 ↔ x < 0).mpr z))) p e R s m args below meth c H locs la I FT Rp S E V U1 U2 (zt1 ok) okl
theorem s_ifge {l : Launch} {G : zG} {mi pc nx tg : Nat} {off : Int} (hd : decode (zby mi) pc = .ok (.ifCond .ge off, 3)) (hn : pc + 3 = nx) (ht : (pc : Int) + off = (tg : Int)) : zSnd l G mi pc (o_ifge nx tg) := by
  subst hn
  intro d uc us call k Q ls st σ h hc hk p e R s m args below meth c H locs la I FT Rp S E V U1 U2 ok okl
  obtain _ | ⟨x | x | x, st⟩ := st <;> try exact False.elim h
  have hx : in32 x := zh1 ok
  have e0 : (Int32.ofInt 0 : Int32) = 0 := rfl
  refine lv_if_ge (tgt := tg) I.1 I.2.1 hd ht (fun q => ?_) (fun q => ?_)
  · exact hk _ _ _ _ _ _ (h.1 ((by rw [← e0]; exact i_le i_0 hx : 0 ≤ Int32.ofInt x ↔ 0 ≤ x).mp q)) p e R s m args below meth c H locs la I FT Rp S E V U1 U2 (zt1 ok) okl
  · exact hk _ _ _ _ _ _ (h.2 (fun z => q ((by rw [← e0]; exact i_le i_0 hx : 0 ≤ Int32.ofInt x ↔ 0 ≤ x).mpr z))) p e R s m args below meth c H locs la I FT Rp S E V U1 U2 (zt1 ok) okl
theorem s_ifgt {l : Launch} {G : zG} {mi pc nx tg : Nat} {off : Int} (hd : decode (zby mi) pc = .ok (.ifCond .gt off, 3)) (hn : pc + 3 = nx) (ht : (pc : Int) + off = (tg : Int)) : zSnd l G mi pc (o_ifgt nx tg) := by
  subst hn
  intro d uc us call k Q ls st σ h hc hk p e R s m args below meth c H locs la I FT Rp S E V U1 U2 ok okl
  obtain _ | ⟨x | x | x, st⟩ := st <;> try exact False.elim h
  have hx : in32 x := zh1 ok
  have e0 : (Int32.ofInt 0 : Int32) = 0 := rfl
  refine lv_if_gt (tgt := tg) I.1 I.2.1 hd ht (fun q => ?_) (fun q => ?_)
  · exact hk _ _ _ _ _ _ (h.1 ((by rw [← e0]; exact i_lt i_0 hx : 0 < Int32.ofInt x ↔ 0 < x).mp q)) p e R s m args below meth c H locs la I FT Rp S E V U1 U2 (zt1 ok) okl
  · exact hk _ _ _ _ _ _ (h.2 (fun z => q ((by rw [← e0]; exact i_lt i_0 hx : 0 < Int32.ofInt x ↔ 0 < x).mpr z))) p e R s m args below meth c H locs la I FT Rp S E V U1 U2 (zt1 ok) okl
theorem s_ifle {l : Launch} {G : zG} {mi pc nx tg : Nat} {off : Int} (hd : decode (zby mi) pc = .ok (.ifCond .le off, 3)) (hn : pc + 3 = nx) (ht : (pc : Int) + off = (tg : Int)) : zSnd l G mi pc (o_ifle nx tg) := by
  subst hn
  intro d uc us call k Q ls st σ h hc hk p e R s m args below meth c H locs la I FT Rp S E V U1 U2 ok okl
  obtain _ | ⟨x | x | x, st⟩ := st <;> try exact False.elim h
  have hx : in32 x := zh1 ok
  have e0 : (Int32.ofInt 0 : Int32) = 0 := rfl
  refine lv_if_le (tgt := tg) I.1 I.2.1 hd ht (fun q => ?_) (fun q => ?_)
  · exact hk _ _ _ _ _ _ (h.1 ((by rw [← e0]; exact i_le hx i_0 : Int32.ofInt x ≤ 0 ↔ x ≤ 0).mp q)) p e R s m args below meth c H locs la I FT Rp S E V U1 U2 (zt1 ok) okl
  · exact hk _ _ _ _ _ _ (h.2 (fun z => q ((by rw [← e0]; exact i_le hx i_0 : Int32.ofInt x ≤ 0 ↔ x ≤ 0).mpr z))) p e R s m args below meth c H locs la I FT Rp S E V U1 U2 (zt1 ok) okl
theorem s_icmpeq {l : Launch} {G : zG} {mi pc nx tg : Nat} {off : Int} (hd : decode (zby mi) pc = .ok (.if_icmp .eq off, 3)) (hn : pc + 3 = nx) (ht : (pc : Int) + off = (tg : Int)) : zSnd l G mi pc (o_icmpeq nx tg) := by
  subst hn
  intro d uc us call k Q ls st σ h hc hk p e R s m args below meth c H locs la I FT Rp S E V U1 U2 ok okl
  obtain _ | ⟨y | y | y, _ | ⟨x | x | x, st⟩⟩ := st <;> try exact False.elim h
  have hy : in32 y := zh1 ok
  have hx : in32 x := zh1 (zt1 ok)
  refine lv_icmp_eq (tgt := tg) I.1 I.2.1 hd ht (fun q => ?_) (fun q => ?_)
  · exact hk _ _ _ _ _ _ (h.1 ((i_eq hx hy).mp q)) p e R s m args below meth c H locs la I FT Rp S E V U1 U2 (zt1 (zt1 ok)) okl
  · exact hk _ _ _ _ _ _ (h.2 (fun z => q ((i_eq hx hy).mpr z))) p e R s m args below meth c H locs la I FT Rp S E V U1 U2 (zt1 (zt1 ok)) okl
theorem s_icmpne {l : Launch} {G : zG} {mi pc nx tg : Nat} {off : Int} (hd : decode (zby mi) pc = .ok (.if_icmp .ne off, 3)) (hn : pc + 3 = nx) (ht : (pc : Int) + off = (tg : Int)) : zSnd l G mi pc (o_icmpne nx tg) := by
  subst hn
  intro d uc us call k Q ls st σ h hc hk p e R s m args below meth c H locs la I FT Rp S E V U1 U2 ok okl
  obtain _ | ⟨y | y | y, _ | ⟨x | x | x, st⟩⟩ := st <;> try exact False.elim h
  have hy : in32 y := zh1 ok
  have hx : in32 x := zh1 (zt1 ok)
  refine lv_icmp_ne (tgt := tg) I.1 I.2.1 hd ht (fun q => ?_) (fun q => ?_)
  · exact hk _ _ _ _ _ _ (h.1 ((not_congr (i_eq hx hy)).mp q)) p e R s m args below meth c H locs la I FT Rp S E V U1 U2 (zt1 (zt1 ok)) okl
  · exact hk _ _ _ _ _ _ (h.2 (fun z => z ((i_eq hx hy).mp q))) p e R s m args below meth c H locs la I FT Rp S E V U1 U2 (zt1 (zt1 ok)) okl
theorem s_icmplt {l : Launch} {G : zG} {mi pc nx tg : Nat} {off : Int} (hd : decode (zby mi) pc = .ok (.if_icmp .lt off, 3)) (hn : pc + 3 = nx) (ht : (pc : Int) + off = (tg : Int)) : zSnd l G mi pc (o_icmplt nx tg) := by
  subst hn
  intro d uc us call k Q ls st σ h hc hk p e R s m args below meth c H locs la I FT Rp S E V U1 U2 ok okl
  obtain _ | ⟨y | y | y, _ | ⟨x | x | x, st⟩⟩ := st <;> try exact False.elim h
  have hy : in32 y := zh1 ok
  have hx : in32 x := zh1 (zt1 ok)
  refine lv_icmp_lt (tgt := tg) I.1 I.2.1 hd ht (fun q => ?_) (fun q => ?_)
  · exact hk _ _ _ _ _ _ (h.1 ((i_lt hx hy).mp q)) p e R s m args below meth c H locs la I FT Rp S E V U1 U2 (zt1 (zt1 ok)) okl
  · exact hk _ _ _ _ _ _ (h.2 (fun z => q ((i_lt hx hy).mpr z))) p e R s m args below meth c H locs la I FT Rp S E V U1 U2 (zt1 (zt1 ok)) okl
theorem s_icmpge {l : Launch} {G : zG} {mi pc nx tg : Nat} {off : Int} (hd : decode (zby mi) pc = .ok (.if_icmp .ge off, 3)) (hn : pc + 3 = nx) (ht : (pc : Int) + off = (tg : Int)) : zSnd l G mi pc (o_icmpge nx tg) := by
  subst hn
  intro d uc us call k Q ls st σ h hc hk p e R s m args below meth c H locs la I FT Rp S E V U1 U2 ok okl
  obtain _ | ⟨y | y | y, _ | ⟨x | x | x, st⟩⟩ := st <;> try exact False.elim h
  have hy : in32 y := zh1 ok
  have hx : in32 x := zh1 (zt1 ok)
  refine lv_icmp_ge (tgt := tg) I.1 I.2.1 hd ht (fun q => ?_) (fun q => ?_)
  · exact hk _ _ _ _ _ _ (h.1 ((i_le hy hx).mp q)) p e R s m args below meth c H locs la I FT Rp S E V U1 U2 (zt1 (zt1 ok)) okl
  · exact hk _ _ _ _ _ _ (h.2 (fun z => q ((i_le hy hx).mpr z))) p e R s m args below meth c H locs la I FT Rp S E V U1 U2 (zt1 (zt1 ok)) okl
theorem s_icmpgt {l : Launch} {G : zG} {mi pc nx tg : Nat} {off : Int} (hd : decode (zby mi) pc = .ok (.if_icmp .gt off, 3)) (hn : pc + 3 = nx) (ht : (pc : Int) + off = (tg : Int)) : zSnd l G mi pc (o_icmpgt nx tg) := by
  subst hn
  intro d uc us call k Q ls st σ h hc hk p e R s m args below meth c H locs la I FT Rp S E V U1 U2 ok okl
  obtain _ | ⟨y | y | y, _ | ⟨x | x | x, st⟩⟩ := st <;> try exact False.elim h
  have hy : in32 y := zh1 ok
  have hx : in32 x := zh1 (zt1 ok)
  refine lv_icmp_gt (tgt := tg) I.1 I.2.1 hd ht (fun q => ?_) (fun q => ?_)
  · exact hk _ _ _ _ _ _ (h.1 ((i_lt hy hx).mp q)) p e R s m args below meth c H locs la I FT Rp S E V U1 U2 (zt1 (zt1 ok)) okl
  · exact hk _ _ _ _ _ _ (h.2 (fun z => q ((i_lt hy hx).mpr z))) p e R s m args below meth c H locs la I FT Rp S E V U1 U2 (zt1 (zt1 ok)) okl
theorem s_icmple {l : Launch} {G : zG} {mi pc nx tg : Nat} {off : Int} (hd : decode (zby mi) pc = .ok (.if_icmp .le off, 3)) (hn : pc + 3 = nx) (ht : (pc : Int) + off = (tg : Int)) : zSnd l G mi pc (o_icmple nx tg) := by
  subst hn
  intro d uc us call k Q ls st σ h hc hk p e R s m args below meth c H locs la I FT Rp S E V U1 U2 ok okl
  obtain _ | ⟨y | y | y, _ | ⟨x | x | x, st⟩⟩ := st <;> try exact False.elim h
  have hy : in32 y := zh1 ok
  have hx : in32 x := zh1 (zt1 ok)
  refine lv_icmp_le (tgt := tg) I.1 I.2.1 hd ht (fun q => ?_) (fun q => ?_)
  · exact hk _ _ _ _ _ _ (h.1 ((i_le hx hy).mp q)) p e R s m args below meth c H locs la I FT Rp S E V U1 U2 (zt1 (zt1 ok)) okl
  · exact hk _ _ _ _ _ _ (h.2 (fun z => q ((i_le hx hy).mpr z))) p e R s m args below meth c H locs la I FT Rp S E V U1 U2 (zt1 (zt1 ok)) okl
theorem s_goto {l : Launch} {G : zG} {mi pc tg : Nat} {off : Int} (hd : decode (zby mi) pc = .ok (.goto off, 3)) (ht : (pc : Int) + off = (tg : Int)) : zSnd l G mi pc (o_goto tg) := by
  intro d uc us call k Q ls st σ h hc hk p e R s m args below meth c H locs la I FT Rp S E V U1 U2 ok okl
  exact lv_goto (tgt := tg) I.1 I.2.1 hd ht (hk _ _ _ _ _ _ h p e R s m args below meth c H locs la I FT Rp S E V U1 U2 ok okl)
theorem s_bad {l : Launch} {G : zG} {mi pc : Nat} : zSnd l G mi pc o_bad := fun _ _ _ _ _ _ _ _ _ h => False.elim h
