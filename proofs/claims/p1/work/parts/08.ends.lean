/-! Loads, stores, switches, ends of methods. -/
theorem s_iload_n {l : Launch} {G : zG} {mi pc nx i : Nat} {j : Fin 4} (hd : decode (zby mi) pc = .ok (.iload_n j, 1)) (hj : (j : Nat) = i) (hn : pc + 1 = nx) : zSnd l G mi pc (o_iload nx i) := by
  subst hn
  intro d uc us call k Q ls st σ h hc hk p e R s m args below meth c H locs la I FT Rp S E V U1 U2 ok okl
  unfold o_iload at h
  split at h
  · rename_i x hg
    exact lv_iload_n I.1 I.2.1 hd hj (V.2.2.2 i _ (zgd hg)) (hk _ _ _ _ _ _ h p e R s m args below meth c H locs la I FT Rp S E V U1 U2 (zc1 (zgd_ok hg okl) ok) okl)
  · exact False.elim h
theorem s_iload {l : Launch} {G : zG} {mi pc nx i : Nat} (hd : decode (zby mi) pc = .ok (.iload i, 2)) (hn : pc + 2 = nx) : zSnd l G mi pc (o_iload nx i) := by
  subst hn
  intro d uc us call k Q ls st σ h hc hk p e R s m args below meth c H locs la I FT Rp S E V U1 U2 ok okl
  unfold o_iload at h
  split at h
  · rename_i x hg
    exact lv_iload I.1 I.2.1 hd (V.2.2.2 i _ (zgd hg)) (hk _ _ _ _ _ _ h p e R s m args below meth c H locs la I FT Rp S E V U1 U2 (zc1 (zgd_ok hg okl) ok) okl)
  · exact False.elim h
theorem s_lload_n {l : Launch} {G : zG} {mi pc nx i : Nat} {j : Fin 4} (hd : decode (zby mi) pc = .ok (.lload_n j, 1)) (hj : (j : Nat) = i) (hn : pc + 1 = nx) : zSnd l G mi pc (o_lload nx i) := by
  subst hn
  intro d uc us call k Q ls st σ h hc hk p e R s m args below meth c H locs la I FT Rp S E V U1 U2 ok okl
  unfold o_lload at h
  split at h
  · rename_i x hg
    exact lv_lload_n I.1 I.2.1 hd hj (V.2.2.2 i _ (zgd hg)) (hk _ _ _ _ _ _ h p e R s m args below meth c H locs la I FT Rp S E V U1 U2 (zc1 (zgd_ok hg okl) ok) okl)
  · exact False.elim h
theorem s_lload {l : Launch} {G : zG} {mi pc nx i : Nat} (hd : decode (zby mi) pc = .ok (.lload i, 2)) (hn : pc + 2 = nx) : zSnd l G mi pc (o_lload nx i) := by
  subst hn
  intro d uc us call k Q ls st σ h hc hk p e R s m args below meth c H locs la I FT Rp S E V U1 U2 ok okl
  unfold o_lload at h
  split at h
  · rename_i x hg
    exact lv_lload I.1 I.2.1 hd (V.2.2.2 i _ (zgd hg)) (hk _ _ _ _ _ _ h p e R s m args below meth c H locs la I FT Rp S E V U1 U2 (zc1 (zgd_ok hg okl) ok) okl)
  · exact False.elim h
theorem s_aload_n {l : Launch} {G : zG} {mi pc nx i : Nat} {j : Fin 4} (hd : decode (zby mi) pc = .ok (.aload_n j, 1)) (hj : (j : Nat) = i) (hn : pc + 1 = nx) : zSnd l G mi pc (o_aload nx i) := by
  subst hn
  intro d uc us call k Q ls st σ h hc hk p e R s m args below meth c H locs la I FT Rp S E V U1 U2 ok okl
  unfold o_aload at h
  split at h
  · rename_i x hg
    have hx : ¬ x = 15 := by
      intro q
      rw [q] at h
      exact absurd h.1 (by decide)
    have hl : la[i]? = some (.val (.ref (zloc G x))) := by
      rw [V.2.2.2 i _ (zgd hg)]
      show some (Slot.val (if x = 15 then G.2.2.1 else Value.ref (zloc G x))) = _
      rw [if_neg hx]
    have g := hk _ _ _ _ _ _ h.2 p e R s m args below meth c H locs la I FT Rp S E V U1 U2 (zc1 trivial ok) okl
    have e0 : zcv G (vR x) = .ref (zloc G x) := by
      show (if x = 15 then G.2.2.1 else Value.ref (zloc G x)) = _
      rw [if_neg hx]
    rw [List.map_cons, e0] at g
    exact lv_aload_n I.1 I.2.1 hd hj hl g
  · exact False.elim h
theorem s_aload {l : Launch} {G : zG} {mi pc nx i : Nat} (hd : decode (zby mi) pc = .ok (.aload i, 2)) (hn : pc + 2 = nx) : zSnd l G mi pc (o_aload nx i) := by
  subst hn
  intro d uc us call k Q ls st σ h hc hk p e R s m args below meth c H locs la I FT Rp S E V U1 U2 ok okl
  unfold o_aload at h
  split at h
  · rename_i x hg
    have hx : ¬ x = 15 := by
      intro q
      rw [q] at h
      exact absurd h.1 (by decide)
    have hl : la[i]? = some (.val (.ref (zloc G x))) := by
      rw [V.2.2.2 i _ (zgd hg)]
      show some (Slot.val (if x = 15 then G.2.2.1 else Value.ref (zloc G x))) = _
      rw [if_neg hx]
    have g := hk _ _ _ _ _ _ h.2 p e R s m args below meth c H locs la I FT Rp S E V U1 U2 (zc1 trivial ok) okl
    have e0 : zcv G (vR x) = .ref (zloc G x) := by
      show (if x = 15 then G.2.2.1 else Value.ref (zloc G x)) = _
      rw [if_neg hx]
    rw [List.map_cons, e0] at g
    exact lv_aload I.1 I.2.1 hd hl g
  · exact False.elim h
theorem s_istore_n {l : Launch} {G : zG} {mi pc nx i : Nat} {j : Fin 4} (hd : decode (zby mi) pc = .ok (.istore_n j, 1)) (hj : (j : Nat) = i) (hn : pc + 1 = nx) (hi : i < zmx mi) : zSnd l G mi pc (o_istore nx i) := by
  subst hn
  intro d uc us call k Q ls st σ h hc hk p e R s m args below meth c H locs la I FT Rp S E V U1 U2 ok okl
  obtain _ | ⟨x | x | x, st⟩ := st <;> try exact False.elim h
  refine lv_istore_n (nL := zmx mi) I.1 I.2.1 hd hj (zlv_has V) hi rfl (fun la' hl => ?_)
  exact hk _ _ _ _ _ _ h p e R s m args below meth c H locs la' I FT Rp S E (zlv_st1 (zrep_vf Rp) V.2.1 hi hl) U1 U2 (zt1 ok) (zst1_ok okl (zh1 ok))
theorem s_istore {l : Launch} {G : zG} {mi pc nx i : Nat} (hd : decode (zby mi) pc = .ok (.istore i, 2)) (hn : pc + 2 = nx) (hi : i < zmx mi) : zSnd l G mi pc (o_istore nx i) := by
  subst hn
  intro d uc us call k Q ls st σ h hc hk p e R s m args below meth c H locs la I FT Rp S E V U1 U2 ok okl
  obtain _ | ⟨x | x | x, st⟩ := st <;> try exact False.elim h
  refine lv_istore (nL := zmx mi) I.1 I.2.1 hd (zlv_has V) hi rfl (fun la' hl => ?_)
  exact hk _ _ _ _ _ _ h p e R s m args below meth c H locs la' I FT Rp S E (zlv_st1 (zrep_vf Rp) V.2.1 hi hl) U1 U2 (zt1 ok) (zst1_ok okl (zh1 ok))
theorem s_lstore_n {l : Launch} {G : zG} {mi pc nx i : Nat} {j : Fin 4} (hd : decode (zby mi) pc = .ok (.lstore_n j, 1)) (hj : (j : Nat) = i) (hn : pc + 1 = nx) (hi : i + 1 < zmx mi) : zSnd l G mi pc (o_lstore nx i) := by
  subst hn
  intro d uc us call k Q ls st σ h hc hk p e R s m args below meth c H locs la I FT Rp S E V U1 U2 ok okl
  obtain _ | ⟨x | x | x, st⟩ := st <;> try exact False.elim h
  refine lv_lstore_n (nL := zmx mi) I.1 I.2.1 hd hj (zlv_has V) hi rfl (fun la' hl => ?_)
  exact hk _ _ _ _ _ _ h p e R s m args below meth c H locs la' I FT Rp S E (zlv_st2 (zrep_vf Rp) V.2.1 (by omega) hl) U1 U2 (zt1 ok) (zst2_ok okl (zh1 ok))
theorem s_lstore {l : Launch} {G : zG} {mi pc nx i : Nat} (hd : decode (zby mi) pc = .ok (.lstore i, 2)) (hn : pc + 2 = nx) (hi : i + 1 < zmx mi) : zSnd l G mi pc (o_lstore nx i) := by
  subst hn
  intro d uc us call k Q ls st σ h hc hk p e R s m args below meth c H locs la I FT Rp S E V U1 U2 ok okl
  obtain _ | ⟨x | x | x, st⟩ := st <;> try exact False.elim h
  refine lv_lstore (nL := zmx mi) I.1 I.2.1 hd (zlv_has V) hi rfl (fun la' hl => ?_)
  exact hk _ _ _ _ _ _ h p e R s m args below meth c H locs la' I FT Rp S E (zlv_st2 (zrep_vf Rp) V.2.1 (by omega) hl) U1 U2 (zt1 ok) (zst2_ok okl (zh1 ok))
theorem s_astore_n {l : Launch} {G : zG} {mi pc nx i : Nat} {j : Fin 4} (hd : decode (zby mi) pc = .ok (.astore_n j, 1)) (hj : (j : Nat) = i) (hn : pc + 1 = nx) (hi : i < zmx mi) : zSnd l G mi pc (o_astore nx i) := by
  subst hn
  intro d uc us call k Q ls st σ h hc hk p e R s m args below meth c H locs la I FT Rp S E V U1 U2 ok okl
  obtain _ | ⟨x | x | x, st⟩ := st <;> try exact False.elim h
  have hx : ¬ x = 15 := by
    intro q
    rw [q] at h
    exact absurd h.1 (by decide)
  have e0 : zcv G (vR x) = .ref (zloc G x) := by
    show (if x = 15 then G.2.2.1 else Value.ref (zloc G x)) = _
    rw [if_neg hx]
  rw [List.map_cons, show zcv G (Sum.inr (Sum.inr x)) = .ref (zloc G x) from e0]
  refine lv_astore_n (nL := zmx mi) I.1 I.2.1 hd hj (zlv_has V) hi rfl (fun la' hl => ?_)
  exact hk _ _ _ _ _ _ h.2 p e R s m args below meth c H locs la' I FT Rp S E (zlv_st1 (zrep_vf Rp) V.2.1 hi (by rw [e0]; exact hl)) U1 U2 (zt1 ok) (zst1_ok okl trivial)
theorem s_astore {l : Launch} {G : zG} {mi pc nx i : Nat} (hd : decode (zby mi) pc = .ok (.astore i, 2)) (hn : pc + 2 = nx) (hi : i < zmx mi) : zSnd l G mi pc (o_astore nx i) := by
  subst hn
  intro d uc us call k Q ls st σ h hc hk p e R s m args below meth c H locs la I FT Rp S E V U1 U2 ok okl
  obtain _ | ⟨x | x | x, st⟩ := st <;> try exact False.elim h
  have hx : ¬ x = 15 := by
    intro q
    rw [q] at h
    exact absurd h.1 (by decide)
  have e0 : zcv G (vR x) = .ref (zloc G x) := by
    show (if x = 15 then G.2.2.1 else Value.ref (zloc G x)) = _
    rw [if_neg hx]
  rw [List.map_cons, show zcv G (Sum.inr (Sum.inr x)) = .ref (zloc G x) from e0]
  refine lv_astore (nL := zmx mi) I.1 I.2.1 hd (zlv_has V) hi rfl (fun la' hl => ?_)
  exact hk _ _ _ _ _ _ h.2 p e R s m args below meth c H locs la' I FT Rp S E (zlv_st1 (zrep_vf Rp) V.2.1 hi (by rw [e0]; exact hl)) U1 U2 (zt1 ok) (zst1_ok okl trivial)
theorem s_iinc {l : Launch} {G : zG} {mi pc nx i : Nat} {n : Int} (hd : decode (zby mi) pc = .ok (.iinc i n, 3)) (hn : pc + 3 = nx) (hi : i < zmx mi) : zSnd l G mi pc (o_iinc nx i n) := by
  subst hn
  intro d uc us call k Q ls st σ h hc hk p e R s m args below meth c H locs la I FT Rp S E V U1 U2 ok okl
  unfold o_iinc at h
  split at h
  · rename_i x hg
    obtain ⟨q, hq⟩ := List.getElem?_of_mem (zas_mem (G := G) (zgd hg))
    refine lv_iinc (v := Int32.ofInt (w32 (x + n))) (nL := zmx mi) I.1 I.2.1 hd (zlv_has V) hq (by rw [i_w, Int32.ofInt_add]) hi rfl (fun la' hl => ?_)
    exact hk _ _ _ _ _ _ h p e R s m args below meth c H locs la' I FT Rp S E (zlv_st1 (v := vI (w32 (x + n))) (zrep_vf Rp) V.2.1 hi hl) U1 U2 ok (zst1_ok okl (w32_in _))
  · exact False.elim h
theorem zsw_at {x : Int} {k : Nat → Prop} : ∀ {ps : List (Int × Nat)}, zsw x k ps → ∀ q ∈ ps, x = q.1 → k q.2
  | [], _, q, hq, _ => absurd hq List.not_mem_nil
  | a :: r, h, q, hq, e => by
    rcases List.mem_cons.mp hq with hq | hq
    · rw [hq] at e ⊢; exact h.1 e
    · exact zsw_at h.2 q hq e
theorem zsn_of {x : Int} : ∀ {ps : List (Int × Nat)}, (∀ q ∈ ps, ¬ x = q.1) → zsn x ps
  | [], _ => trivial
  | a :: r, h => ⟨h a List.mem_cons_self, zsn_of fun q hq => h q (List.mem_cons_of_mem _ hq)⟩
theorem s_tsw {l : Launch} {G : zG} {mi pc df len : Nat} {ps : List (Int × Nat)} {dflt lo hi : Int} {offs : Array Int} (hd : decode (zby mi) pc = .ok (.tableswitch dflt lo hi offs, len)) (hp : ps.map (fun q => q.1) = (List.range ps.length).map (fun (j : Nat) => lo + (j : Int))) (ho : offs.toList = ps.map (fun q => (q.2 : Int) - pc)) (hh : hi = lo + ps.length - 1) (ht : (pc : Int) + dflt = (df : Int)) : zSnd l G mi pc (o_sw ps df) := by
  intro d uc us call k Q ls st σ h hc hk p e R s m args below meth c H locs la I FT Rp S E V U1 U2 ok okl
  obtain _ | ⟨x | x | x, st⟩ := st <;> try exact False.elim h
  have hx : in32 x := zh1 ok
  have key : ∀ (j : Nat) (q : Int × Nat), ps[j]? = some q → q.1 = lo + j := fun j q hq => by
    have h1 : (ps.map (fun q => q.1))[j]? = some q.1 := by rw [List.getElem?_map, hq]; rfl
    rw [hp, List.getElem?_map, List.getElem?_range (List.getElem?_eq_some_iff.mp hq).1] at h1
    exact (Option.some.inj h1).symm
  by_cases hr : x < lo ∨ hi < x
  · refine lv_tableOut (tgt := df) I.1 I.2.1 hd (by rw [i_ti hx]; exact hr) ht (hk _ _ _ _ _ _ (h.2 (zsn_of fun q hq z => ?_)) p e R s m args below meth c H locs la I FT Rp S E V U1 U2 (zt1 ok) okl)
    obtain ⟨j, hj⟩ := List.getElem?_of_mem hq
    have h1 := key j q hj
    have h2 := (List.getElem?_eq_some_iff.mp hj).1
    omega
  · have hj : (x - lo).toNat < ps.length := by omega
    obtain ⟨q, hq⟩ : ∃ q, ps[(x - lo).toNat]? = some q := ⟨_, List.getElem?_eq_getElem hj⟩
    have h1 := key _ q hq
    refine lv_tableIn (tgt := q.2) (off := (q.2 : Int) - pc) I.1 I.2.1 hd (by rw [i_ti hx]; omega) (by rw [i_ti hx]; omega) ?_ (by omega) (hk _ _ _ _ _ _ (zsw_at h.1 q (List.mem_of_getElem? hq) (by omega)) p e R s m args below meth c H locs la I FT Rp S E V U1 U2 (zt1 ok) okl)
    rw [i_ti hx, ← Array.getElem?_toList, ho, List.getElem?_map, hq]
    rfl
theorem zlk {pc : Nat} {d x : Int} : ∀ (ps : List (Int × Nat)), (∃ q ∈ ps, x = q.1 ∧ Op.lookupswitch.offset (ps.map (fun q => (q.1, (q.2 : Int) - pc))) d x = (q.2 : Int) - pc) ∨ ((∀ q ∈ ps, ¬ x = q.1) ∧ Op.lookupswitch.offset (ps.map (fun q => (q.1, (q.2 : Int) - pc))) d x = d) := by
  intro ps
  induction ps with
  | nil => exact Or.inr ⟨fun q h => absurd h List.not_mem_nil, by simp [Op.lookupswitch.offset]⟩
  | cons a r ih =>
    by_cases ha : x = a.1
    · exact Or.inl ⟨a, List.mem_cons_self, ha, by simp [Op.lookupswitch.offset, ha]⟩
    · have e : Op.lookupswitch.offset ((a :: r).map (fun q => (q.1, (q.2 : Int) - pc))) d x = Op.lookupswitch.offset (r.map (fun q => (q.1, (q.2 : Int) - pc))) d x := by
        simp [Op.lookupswitch.offset]
        exact fun z => absurd z.symm ha
      rw [e]
      rcases ih with ⟨q, h1, h2, h3⟩ | ⟨h1, h2⟩
      · exact Or.inl ⟨q, List.mem_cons_of_mem _ h1, h2, h3⟩
      · exact Or.inr ⟨fun q hq => (List.mem_cons.mp hq).elim (fun z => by rw [z]; exact ha) (h1 q), h2⟩
theorem s_lsw {l : Launch} {G : zG} {mi pc df len : Nat} {ps : List (Int × Nat)} {dflt : Int} {offs : Array (Int × Int)} (hd : decode (zby mi) pc = .ok (.lookupswitch dflt offs, len)) (hp : (offs.toList.zip (offs.toList.drop 1)).all (fun (a, next) => a.1 < next.1) = true) (ho : offs.toList = ps.map (fun q => (q.1, (q.2 : Int) - pc))) (ht : (pc : Int) + dflt = (df : Int)) : zSnd l G mi pc (o_sw ps df) := by
  intro d uc us call k Q ls st σ h hc hk p e R s m args below meth c H locs la I FT Rp S E V U1 U2 ok okl
  obtain _ | ⟨x | x | x, st⟩ := st <;> try exact False.elim h
  have hx : in32 x := zh1 ok
  rcases zlk (pc := pc) (d := dflt) (x := x) ps with ⟨q, h1, h2, h3⟩ | ⟨h1, h2⟩
  · exact lv_lookup (tgt := q.2) (off := (q.2 : Int) - pc) I.1 I.2.1 hd hp (by rw [i_ti hx, ho]; exact h3) (by omega) (hk _ _ _ _ _ _ (zsw_at h.1 q h1 h2) p e R s m args below meth c H locs la I FT Rp S E V U1 U2 (zt1 ok) okl)
  · exact lv_lookup (tgt := df) (off := dflt) I.1 I.2.1 hd hp (by rw [i_ti hx, ho]; exact h2) ht (hk _ _ _ _ _ _ (h.2 (zsn_of h1)) p e R s m args below meth c H locs la I FT Rp S E V U1 U2 (zt1 ok) okl)
theorem zNest_warm {s U : State} (hW : s.WarmedH U.vm) (h : zNest s) : zNest U := ⟨fun q hq => (h.1 q hq).warmF hW, fun q hq => (h.2.1 q hq).warmM hW, h.2.2.1.warmC hW, h.2.2.2.moved hW.alike⟩
theorem zRO_warm {G : zG} {s U : State} {H : Heap} (hW : s.WarmedH U.vm) (h : zRO G s H) : zRO G U H := by
  obtain ⟨h1, h2, h3, h4, h5, h6, h7, h8, h9, h10, h11, h12, h13, h14⟩ := h
  exact ⟨h1, h2.moved hW.alike, h3, fun c a b => (h4 c a b).moved hW.alike, h5.moved hW.alike, h6.moved hW.alike, h7.moved hW.alike, h8.moved hW.alike, h9.moved hW.alike, h10, h11.moved hW.alike, fun i hi => (h12 i hi).warm hW, zNest_warm hW h13, h14⟩
theorem zRep_warm {G : zG} {s U : State} {H : Heap} {σ : zM} (hW : s.WarmedH U.vm) (hB : G.1.1 ≤ U.heap.size) (h : zRep G s H σ) : zRep G U H σ := by
  obtain ⟨h1, h2, h3, h4, h5, h6, h7, h8⟩ := h
  exact ⟨va_K.moved hW.alike h1, h2, h3, h4, h5, zRO_warm hW h6, h7, hB⟩
theorem zws_at {G : zG} {σ : zM} {c : Nat} (h1 : 16 ≤ c) (h2 : c < σ.2.2.2) : (zws G σ)[c - 16]? = some (zloc G c, zcell G σ c) := by
  unfold zws
  rw [List.getElem?_map, List.getElem?_range (by omega)]
  unfold zloc
  rw [if_neg (by omega)]
  show some (G.1.1 + (c - 16), zcell G σ (16 + (c - 16))) = _
  rw [show 16 + (c - 16) = c by omega]
/-- the heap is just as large as the cells that are made ask for -/
theorem zsz {p : Program} {l : Launch} {e : Env} {R : Room} {s : State} {m : MethodId} {args : Array Value} {below : List Frame} {meth : Method} {c : Code} {H : Heap} {locs : List Loc} {uc us : Nat} {Q : State → Prop} {g : JFrame} {G : zG} {σ : zM} (Rp : zRep G s H σ) (S : va_S (zA G) s.heap H locs) (E : s.heap.size + uc + 16 = G.1.1 + σ.2.2.2)
    (k : H.size + 16 = G.1.1 + σ.2.2.2 → H.size = s.heap.size + uc → W p l e R s m args below meth c H locs uc us Q g) : W p l e R s m args below meth c H locs uc us Q g := by
  intro T hT X
  have h1 : T.heap.size ≤ s.heap.size + uc := X.same.2.2.1
  rw [hT] at h1
  have h16 := Rp.2.2.1
  have hB := Rp.2.2.2.2.2.2.2
  have hS := S.1
  have h2 : G.1.1 + σ.2.2.2 ≤ H.size + 16 := by
    by_cases hn : σ.2.2.2 = 16
    · omega
    · have h3 := (Rp.2.1 _ _ (zws_at (G := G) (σ := σ) (c := σ.2.2.2 - 1) (by omega) (by omega))).lt
      unfold zloc at h3
      rw [if_neg (by omega)] at h3
      have h3 : G.1.1 + (σ.2.2.2 - 1 - 16) < H.size := h3
      omega
  exact k (by omega) (by omega) T hT X
theorem zend {G : zG} {mi uc : Nat} {Q : zQ} {s t : State} {H : Heap} {locs : List Loc} {σ : zM} {r : Option zV} {args : Array Value} (Rp : zRep G s H σ) (S : va_S (zA G) s.heap H locs) (hz : H.size + 16 = G.1.1 + σ.2.2.2) (hz2 : H.size = s.heap.size + uc) (hu : uc = (zmc mi).1) (hq : Q σ r) (hr : ∀ v, r = some v → zok v) (ht : t.heap = H) (hW : s.WarmedH t.vm) : zQc G mi Q args s (.returned (r.map (zcv G))) t := by
  have h8 := Rp.2.2.2.2.2.2.2
  have hs := S.1
  refine ⟨⟨r, σ, rfl, hq, hr, ?_, by rw [ht]; exact hz, by rw [ht, hz2, hu]⟩, S.F ht⟩
  rw [ht]
  exact zRep_warm hW (by rw [ht]; omega) Rp
theorem s_iret {l : Launch} {G : zG} {mi pc : Nat} (hm : (zmc mi).1 = 0) (hd : decode (zby mi) pc = .ok (.ireturn, 1)) (hr : zrt mi = some .int) : zSnd l G mi pc (o_iret) := by
  intro d uc us call k Q ls st σ h hc hk p e R s m args below meth c H locs la I FT Rp S E V U1 U2 ok okl
  obtain _ | ⟨x | x | x, _ | ⟨y, st⟩⟩ := st <;> try exact False.elim h
  have ok0 : in32 x := zh1 ok
  refine zsz Rp S E fun hz hz2 => ?_
  have hu : uc = (zmc mi).1 := (by omega)
  refine W.widen (k := (zmc mi).1) (n := (zmc mi).2) U1 U2 ?_
  exact W.iret I.1 I.2.1 (I.2.2.2.2.2.1.trans hr) (fun t ht hW => zend (r := some (vI x)) Rp S hz hz2 hu h (fun v hv => by cases hv; exact ok0) ht hW) S.2.2 hd I.2.2.2.2.2.2.1
theorem s_lret {l : Launch} {G : zG} {mi pc : Nat} (hm : (zmc mi).1 = 0) (hd : decode (zby mi) pc = .ok (.lreturn, 1)) (hr : zrt mi = some .long) : zSnd l G mi pc (o_lret) := by
  intro d uc us call k Q ls st σ h hc hk p e R s m args below meth c H locs la I FT Rp S E V U1 U2 ok okl
  obtain _ | ⟨x | x | x, _ | ⟨y, st⟩⟩ := st <;> try exact False.elim h
  have ok0 : in64 x := zh1 ok
  refine zsz Rp S E fun hz hz2 => ?_
  have hu : uc = (zmc mi).1 := (by omega)
  refine W.widen (k := (zmc mi).1) (n := (zmc mi).2) U1 U2 ?_
  exact W.lret I.1 I.2.1 (I.2.2.2.2.2.1.trans hr) (fun t ht hW => zend (r := some (vJ x)) Rp S hz hz2 hu h (fun v hv => by cases hv; exact ok0) ht hW) S.2.2 hd I.2.2.2.2.2.2.1
theorem s_zret {l : Launch} {G : zG} {mi pc : Nat} (hm : (zmc mi).1 = 0) (hd : decode (zby mi) pc = .ok (.ireturn, 1)) (hr : zrt mi = some .boolean) : zSnd l G mi pc (o_zret) := by
  intro d uc us call k Q ls st σ h hc hk p e R s m args below meth c H locs la I FT Rp S E V U1 U2 ok okl
  obtain _ | ⟨x | x | x, _ | ⟨y, st⟩⟩ := st <;> try exact False.elim h
  have ok0 : in32 x := zh1 ok
  refine zsz Rp S E fun hz hz2 => ?_
  have hu : uc = (zmc mi).1 := (by omega)
  have hv : narrow .boolean (.int (Int32.ofInt x)) = .int (Int32.ofInt x) := by
    rcases h.1 with q | q <;> subst q <;> rfl
  refine W.widen (k := (zmc mi).1) (n := (zmc mi).2) U1 U2 ?_
  exact W.zret I.1 I.2.1 (I.2.2.2.2.2.1.trans hr) hv (fun t ht hW => zend (r := some (vI x)) Rp S hz hz2 hu h.2 (fun v hv => by cases hv; exact ok0) ht hW) S.2.2 hd I.2.2.2.2.2.2.1
theorem s_zretm {l : Launch} {G : zG} {mi pc : Nat} {mc : Nat} (hm : (zmc mi).1 = mc) (hd : decode (zby mi) pc = .ok (.ireturn, 1)) (hr : zrt mi = some .boolean) : zSnd l G mi pc (o_zretm mc) := by
  intro d uc us call k Q ls st σ h hc hk p e R s m args below meth c H locs la I FT Rp S E V U1 U2 ok okl
  obtain _ | ⟨x | x | x, _ | ⟨y, st⟩⟩ := st <;> try exact False.elim h.2
  have ok0 : in32 x := zh1 ok
  refine zsz Rp S E fun hz hz2 => ?_
  have hu : uc = (zmc mi).1 := (by rw [hm]; exact Nat.eq_of_beq_eq_true h.1)
  have hv : narrow .boolean (.int (Int32.ofInt x)) = .int (Int32.ofInt x) := by
    rcases h.2.1 with q | q <;> subst q <;> rfl
  refine W.widen (k := (zmc mi).1) (n := (zmc mi).2) U1 U2 ?_
  exact W.zret I.1 I.2.1 (I.2.2.2.2.2.1.trans hr) hv (fun t ht hW => zend (r := some (vI x)) Rp S hz hz2 hu h.2.2 (fun v hv => by cases hv; exact ok0) ht hW) S.2.2 hd I.2.2.2.2.2.2.1
theorem s_bret {l : Launch} {G : zG} {mi pc : Nat} (hm : (zmc mi).1 = 0) (hd : decode (zby mi) pc = .ok (.ireturn, 1)) (hr : zrt mi = some .byte) : zSnd l G mi pc (o_bret) := by
  intro d uc us call k Q ls st σ h hc hk p e R s m args below meth c H locs la I FT Rp S E V U1 U2 ok okl
  obtain _ | ⟨x | x | x, _ | ⟨y, st⟩⟩ := st <;> try exact False.elim h
  have ok0 : in32 x := zh1 ok
  refine zsz Rp S E fun hz hz2 => ?_
  have hu : uc = (zmc mi).1 := (by omega)
  have hv : narrow .byte (.int (Int32.ofInt x)) = .int (Int32.ofInt x) := by
    have h2 : (Int32.ofInt x).toInt8.toInt32 = Int32.ofInt x := by
      rw [i_w8 ok0]
      congr 1
      have := h.1
      unfold w8
      omega
    have h3 := pk_nb (Int32.ofInt x)
    rw [h2] at h3
    exact h3
  refine W.widen (k := (zmc mi).1) (n := (zmc mi).2) U1 U2 ?_
  exact W.zret I.1 I.2.1 (I.2.2.2.2.2.1.trans hr) hv (fun t ht hW => zend (r := some (vI x)) Rp S hz hz2 hu h.2 (fun v hv => by cases hv; exact ok0) ht hW) S.2.2 hd I.2.2.2.2.2.2.1
theorem s_cret {l : Launch} {G : zG} {mi pc : Nat} (hm : (zmc mi).1 = 0) (hd : decode (zby mi) pc = .ok (.ireturn, 1)) (hr : zrt mi = some .char) : zSnd l G mi pc (o_cret) := by
  intro d uc us call k Q ls st σ h hc hk p e R s m args below meth c H locs la I FT Rp S E V U1 U2 ok okl
  obtain _ | ⟨x | x | x, _ | ⟨y, st⟩⟩ := st <;> try exact False.elim h
  have ok0 : in32 x := zh1 ok
  refine zsz Rp S E fun hz hz2 => ?_
  have hu : uc = (zmc mi).1 := (by omega)
  have hv : narrow .char (.int (Int32.ofInt x)) = .int (Int32.ofInt x) := by
    have h2 : ((Int32.ofInt x).toUInt32 % 65536).toInt32 = Int32.ofInt x := by
      rw [i_w16 ok0]
      congr 1
      have := h.1
      unfold w16
      omega
    have h3 := pk_nc (Int32.ofInt x)
    rw [h2] at h3
    exact h3
  refine W.widen (k := (zmc mi).1) (n := (zmc mi).2) U1 U2 ?_
  exact W.zret I.1 I.2.1 (I.2.2.2.2.2.1.trans hr) hv (fun t ht hW => zend (r := some (vI x)) Rp S hz hz2 hu h.2 (fun v hv => by cases hv; exact ok0) ht hW) S.2.2 hd I.2.2.2.2.2.2.1
theorem s_ret {l : Launch} {G : zG} {mi pc : Nat} (hm : (zmc mi).1 = 0) (hd : decode (zby mi) pc = .ok (.return_, 1)) (hr : zrt mi = none) : zSnd l G mi pc (o_ret) := by
  intro d uc us call k Q ls st σ h hc hk p e R s m args below meth c H locs la I FT Rp S E V U1 U2 ok okl
  obtain _ | ⟨x, st⟩ := st <;> try exact False.elim h
  refine zsz Rp S E fun hz hz2 => ?_
  have hu : uc = (zmc mi).1 := (by omega)
  refine W.widen (k := (zmc mi).1) (n := (zmc mi).2) U1 U2 ?_
  exact W.vret I.1 I.2.1 (I.2.2.2.2.2.1.trans hr) (fun t ht hW => zend (r := none) Rp S hz hz2 hu h (fun v hv => by cases hv) ht hW) S.2.2 hd I.2.2.2.2.2.2.1
theorem s_retm {l : Launch} {G : zG} {mi pc : Nat} {mc : Nat} (hm : (zmc mi).1 = mc) (hd : decode (zby mi) pc = .ok (.return_, 1)) (hr : zrt mi = none) : zSnd l G mi pc (o_retm mc) := by
  intro d uc us call k Q ls st σ h hc hk p e R s m args below meth c H locs la I FT Rp S E V U1 U2 ok okl
  obtain _ | ⟨x, st⟩ := st <;> try exact False.elim h.2
  refine zsz Rp S E fun hz hz2 => ?_
  have hu : uc = (zmc mi).1 := (by rw [hm]; exact Nat.eq_of_beq_eq_true h.1)
  refine W.widen (k := (zmc mi).1) (n := (zmc mi).2) U1 U2 ?_
  exact W.vret I.1 I.2.1 (I.2.2.2.2.2.1.trans hr) (fun t ht hW => zend (r := none) Rp S hz hz2 hu h.2 (fun v hv => by cases hv) ht hW) S.2.2 hd I.2.2.2.2.2.2.1
