/-! clone of the constant row of four ints: sound. -/
theorem s_clone {l : Launch} {G : zG} {mi pc nx idx mc ms : Nat} (hm : zmc mi = (mc, ms)) (hw1 : Cond.methodLink (zyn mi).cls idx ⟨"[I", "clone", "()Ljava/lang/Object;"⟩ ∈ zwd) (hw2 : Cond.sameMethod "[I" "java/lang/Object" "clone" "()Ljava/lang/Object;" ∈ zwd) (hw3 : Cond.native ⟨"java/lang/Object", "clone", "()Ljava/lang/Object;"⟩ ∈ zwd) (hw4 : Cond.instanceMethod ⟨"java/lang/Object", "clone", "()Ljava/lang/Object;"⟩ ∈ zwd) (hw5 : Cond.selects "[I" ⟨"[I", "clone", "()Ljava/lang/Object;"⟩ ⟨"java/lang/Object", "clone", "()Ljava/lang/Object;"⟩ ∈ zwd) (hd : decode (zby mi) pc = .ok (.invokevirtual idx, 3)) (hn : pc + 3 = nx) : zSnd l G mi pc (o_clone zshp nx mc ms) := by
  subst hn
  intro d uc us call k0 Q ls st σ h hcl hk0 p e R s m args below meth c H locs la I FT Rp S E V U1 U2 ok okl
  obtain _ | ⟨x | x | x, st⟩ := st <;> try exact False.elim h
  obtain ⟨h0, h1, h2, h3, h4, h5⟩ := h
  have h0 := Nat.le_of_ble_eq_true h0
  have h1 := Nat.eq_of_beq_eq_true h1
  rw [Bool.and_eq_true] at h2
  have h2a := Nat.eq_of_beq_eq_true h2.1
  have h2b := Nat.eq_of_beq_eq_true h2.2
  have h3 := Nat.le_of_ble_eq_true h3
  have h4 := Nat.le_of_ble_eq_true h4
  subst h1
  rw [hm] at U1 U2
  have hfc := FT.1
  have hfs := FT.2.1
  rw [hm] at hfc hfs
  dsimp only at hfc hfs
  have hz := Rp.2.2.2.2.1 σ.2.2.2 (Nat.le_refl _)
  have h16 := Rp.2.2.1
  obtain ⟨scr, a1, a2, a3, a4, a5⟩ := Rp.2.2.2.2.2.1.2.2.2.1 4 (by omega) (by omega)
  obtain ⟨scr', b1, b2⟩ := Rp.2.2.2.2.2.1.2.2.2.2.2.2.2.2.2.2.2.2.2
  rw [a1] at b1
  have b1 := Option.some.inj b1
  subst b1
  have hnm := va_nm_int (Rp.1.2 1 _ rfl).2
  obtain ⟨c0, t0', f1, f2, f3⟩ := Cond.castable_spec (va_Nw.use (A := args) rfl Rp.2.2.2.2.2.1.2.2.2.2.2.2.2.2.2.2.2.2.1.2.2.1)
  rw [List.map_cons, show zcv G (Sum.inr (Sum.inr 4)) = .ref (G.2.1 4) from zlow_cv (by omega) (by omega)]
  refine zsz Rp S E fun hz1 hz2 => ?_
  intro T hT X
  have hcellT : T.heap[G.2.1 4]? = some scr := by rw [hT]; exact a1
  obtain ⟨ho1, kA, hkA, comp, hkind⟩ := State.isArrayOf_alike X.warmed.alike a2
  obtain ⟨-, kS, hkS, compS, hkindS⟩ := a2
  have hcls : s.vm.findClass "[I" = some scr.cls := by rw [b2]; exact hnm
  have hc0 : c0 = scr.cls := Option.some.inj (f1.symm.trans hcls)
  have hroom : 2 * (F0 m pc la (Value.ref (G.2.1 4) :: st.map (zcv G))).monitorRoom = 0 := rfl
  have hsum := zsum (zrep_vf Rp) st
  have hlo := FT.2.2.2
  obtain ⟨vm', X', hst⟩ := X.cloneArray I.1 I.2.2.2.1 (I.2.2.2.2.1 _ hw1) (I.2.2.2.2.1 _ hw2) (I.2.2.2.2.1 _ hw3) (I.2.2.2.2.1 _ hw4) (I.2.2.2.2.1 _ hw5) (a := G.2.1 4) (cell := scr) hcellT ho1 a3 hcls f2 (by rw [← hc0]; exact f3)
    (fun i v hv => by
      have hi : i < 4 := by rw [← a4]; exact (Array.getElem?_eq_some_iff.mp hv).1
      rw [a5 i hi] at hv
      cases hv
      have hk' : T.vm.classes[scr.cls]? = some kA := hkA
      have hf : fits .int (.int (Int32.ofInt (zM0 G 4 (i : Int)))) = true := rfl
      simpa [State.fitsSlot, State.slotType?, hk', hkind] using hf)
    (g := F0 m pc la (Value.ref (G.2.1 4) :: st.map (zcv G))) rfl (V.1.trans I.2.2.1.symm) rfl (by rw [I.2.1]; exact hd) (by have := FT.2.2.1; omega) (by rw [hroom]; omega) (by omega) (by rw [a4]; omega) (hloader := Vm.clonesLoader_of_array hkS hkindS)
  have hcell : ({ cls := scr.cls, slots := scr.slots } : Cell) = vp_cell (G.2.2.2.2 14) (4, .inl (fun j : Nat => Int32.ofInt (zM0 G 4 (j : Int)))) := by
    show ({ cls := scr.cls, slots := scr.slots } : Cell) = arrV (G.2.2.2.2 14) 4 (fun j => .int (Int32.ofInt (zM0 G 4 (j : Int))))
    have hsl : scr.slots = (arrV (G.2.2.2.2 14) 4 (fun j => Value.int (Int32.ofInt (zM0 G 4 (j : Int))))).slots := by
      refine Array.ext_getElem? fun i => ?_
      by_cases hi : i < 4
      · rw [a5 i hi, arrV_read _ _ hi]
      · rw [Array.getElem?_eq_none (by omega), Array.getElem?_eq_none (by rw [arrV_size]; omega)]
    rw [hsl, b2]
    rfl
  rw [hcell, a4] at X'
  rw [hT] at hst
  have hst := hst
  generalize hH1 : H.push (vp_cell (G.2.2.2.2 14) (4, .inl (fun j : Nat => Int32.ofInt (zM0 G 4 (j : Int))))) = H1
  have z1 : H1.size = H.size + 1 := by rw [← hH1, Array.size_push]
  have e1 : H1[H.size]? = some (vp_cell (G.2.2.2.2 14) (4, .inl (fun j : Nat => Int32.ofInt (zM0 G 4 (j : Int))))) := by rw [← hH1, Array.getElem?_push_size]
  have o1 : ∀ q : Nat, q < H.size → H1[q]? = H[q]? := fun q hq => by rw [← hH1, Array.getElem?_push, if_neg (Nat.ne_of_lt hq)]
  have S1 : va_S (zA G) s.heap H1 locs := ⟨Nat.le_trans S.1 (by omega), fun q q1 q2 => by rw [o1 q (Nat.lt_of_lt_of_le q1 S.1)]; exact S.2.1 q q1 q2, S.2.2⟩
  have hP1 : va_P G.2.2.2.1 zcls (zws G σ ++ [(G.1.1 + (σ.2.2.2 - 16), .inl (G.2.2.2.2 14, 4, .inl (fun j : Nat => Int32.ofInt (zM0 G 4 (j : Int)))))]) H1 := by
    refine (Rp.2.1.kept fun k y hy => o1 y.1 ((Rp.2.1 k y hy).lt)).app (fun k y hy => ?_)
    have hz : k < 1 := (List.getElem?_eq_some_iff.mp hy).1
    rw [show k = 0 by omega] at hy
    cases hy
    show H1[G.1.1 + (σ.2.2.2 - 16)]? = _
    rw [show G.1.1 + (σ.2.2.2 - 16) = H.size by omega]
    exact e1
  have Rp1 : zRep G s H1 (σ.1, σ.2.1, zcp σ.2.2.1 σ.2.2.2 4 0 0 4, σ.2.2.2 + 1) := by
    refine zRep_new (M := zcp σ.2.2.1 σ.2.2.2 4 0 0 4) Rp S S1 hP1 (fun c w k => ?_) ?_ (fun k hk => ?_)
    · unfold zcp
      rw [if_neg (fun z => w z.1)]
    · rw [zcell_i h2a (Or.inr (Or.inl rfl)), h2b]
      refine congrArg (fun z => (Sum.inl (G.2.2.2.2 14, 4, Sum.inl z) : va_E)) ?_
      funext j
      show Int32.ofInt (zcp σ.2.2.1 σ.2.2.2 4 0 0 4 σ.2.2.2 (j : Int)) = Int32.ofInt (zM0 G 4 (j : Int))
      unfold zcp
      by_cases hj : (j : Int) < 4
      · rw [if_pos ⟨rfl, by omega, by omega⟩, Rp.2.2.2.2.2.2.1 4 (by omega), show (0 : Int) + ((j : Int) - 0) = j by omega]
      · rw [if_neg (by omega), hz.2.2]
        show _ = Int32.ofInt (if (j : Int) = -1 then 4 else if (j : Int) = 0 then 100 else if (j : Int) = 1 then 10 else if (j : Int) = 2 then 1 else if (j : Int) = 3 then 100 else 0)
        rw [if_neg (by omega), if_neg (by omega), if_neg (by omega), if_neg (by omega), if_neg (by omega)]
    · rw [zty_a h2a (Or.inr (Or.inl ⟨rfl, rfl⟩))]
      show in32 (zcp σ.2.2.1 σ.2.2.2 4 0 0 4 σ.2.2.2 k)
      unfold zcp
      by_cases hj : 0 ≤ k ∧ k < 0 + 4
      · rw [if_pos ⟨rfl, hj⟩]
        exact zin_32 (by rw [zty_a (kd := 14) (t := 0) (by decide +kernel) (Or.inr (Or.inl ⟨rfl, rfl⟩))]; omega) (Rp.2.2.2.1 4 (0 + (k - 0)) (by omega))
      · rw [if_neg (fun z => hj z.2), hz.2.2]
        exact i_0
  have g := hk0 _ _ _ _ _ _ h5 p e R s m args below meth c H1 locs la I FT Rp1 S1 (by show s.heap.size + (uc + 1) + 16 = G.1.1 + (σ.2.2.2 + 1); omega) V (by rw [hm]; exact h3) (by rw [hm]; exact h4) (zc1 trivial (zt1 ok)) okl
  have hloc : zloc G σ.2.2.2 = H.size := by
    unfold zloc
    rw [if_neg (by omega)]
    omega
  rw [List.map_cons, zloc_cv (c := σ.2.2.2) (by omega), hloc] at g
  have hheap : ((T.setVm vm').pushCell (vp_cell (G.2.2.2.2 14) (4, .inl (fun j : Nat => Int32.ofInt (zM0 G 4 (j : Int)))))).heap = H1 := by
    rw [← hH1, ← hT]
    rfl
  obtain ⟨t, c1, c2⟩ := g _ hheap X'
  refine ⟨t, hst t ?_, c2⟩
  rw [hcell]
  exact c1
