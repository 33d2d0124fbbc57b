/-! Calls: sound. -/
theorem zsl_len {G : zG} (hv : G.2.2.1 = .null ∨ ∃ t, G.2.2.1 = .ref t) : ∀ a : List zV, (lg_sl (a.map (zcv G))).length = (zslots a).length := by
  intro a
  induction a with
  | nil => rfl
  | cons v r ih =>
    have e : lg_sl ((v :: r).map (zcv G)) = (if (zcv G v).category = 2 then [.val (zcv G v), .second] else [.val (zcv G v)]) ++ lg_sl (r.map (zcv G)) := rfl
    rw [e, zcv_cat2 hv]
    obtain x | x | x := v
    · show (([_] : List Slot) ++ _).length = (zslots r).length + 1
      rw [List.length_append, ih]
      simp
      omega
    · show (([_, _] : List Slot) ++ _).length = (zslots r).length + 1 + 1
      rw [List.length_append, ih]
      simp
      omega
    · show (([_] : List Slot) ++ _).length = (zslots r).length + 1
      rw [List.length_append, ih]
      simp
      omega
theorem zsl_at {G : zG} (hv : G.2.2.1 = .null ∨ ∃ t, G.2.2.1 = .ref t) : ∀ (a : List zV) (k i : Nat) (v : zV), (zslots a)[i]? = some (some v) → (k + i, zcv G v) ∈ lv_args k (a.map (zcv G)) := by
  intro a
  induction a with
  | nil => intro k i v h; cases h
  | cons w r ih =>
    intro k i v h
    have e : lv_args k ((w :: r).map (zcv G)) = (k, zcv G w) :: lv_args (if (zcv G w).category = 2 then k + 2 else k + 1) (r.map (zcv G)) := rfl
    rw [e, zcv_cat2 hv]
    obtain x | x | x := w
    · have h : (some (Sum.inl x : zV) :: zslots r)[i]? = some (some v) := h
      cases i with
      | zero => cases h; exact List.mem_cons_self
      | succ i =>
        rw [List.getElem?_cons_succ] at h
        have q := ih (k + 1) i v h
        rw [show k + 1 + i = k + (i + 1) by omega] at q
        exact List.mem_cons_of_mem _ q
    · have h : (some (Sum.inr (Sum.inl x) : zV) :: none :: zslots r)[i]? = some (some v) := h
      cases i with
      | zero => cases h; exact List.mem_cons_self
      | succ i =>
        rw [List.getElem?_cons_succ] at h
        cases i with
        | zero => cases h
        | succ i =>
          rw [List.getElem?_cons_succ] at h
          have q := ih (k + 2) i v h
          rw [show k + 2 + i = k + (i + 1 + 1) by omega] at q
          exact List.mem_cons_of_mem _ q
    · have h : (some (Sum.inr (Sum.inr x) : zV) :: zslots r)[i]? = some (some v) := h
      cases i with
      | zero => cases h; exact List.mem_cons_self
      | succ i =>
        rw [List.getElem?_cons_succ] at h
        have q := ih (k + 1) i v h
        rw [show k + 1 + i = k + (i + 1) by omega] at q
        exact List.mem_cons_of_mem _ q
theorem zent_at {n i : Nat} {a : List zV} {v : zV} (h : (zent n a)[i]? = some (some v)) : (zslots a)[i]? = some (some v) := by
  unfold zent at h
  by_cases hi : i < (zslots a).length
  · rw [List.getElem?_append_left hi] at h
    exact h
  · rw [List.getElem?_append_right (by omega), List.getElem?_replicate] at h
    split at h <;> cases h
theorem zlv_entry {G : zG} (hv : G.2.2.1 = .null ∨ ∃ t, G.2.2.1 = .ref t) {n : Nat} {a : List zV} (h : (zslots a).length ≤ n) : zlv G ((lg_sl (a.map (zcv G)) ++ List.replicate (n - (lg_sl (a.map (zcv G))).length) Slot.unset).toArray) n (zent n a) := by
  have hl := lv_entry (a.map (zcv G)) (n := n) (by rw [zsl_len hv]; exact h)
  refine ⟨hl.1, ?_, hl.2.1, fun i v hi => ?_⟩
  · unfold zent
    rw [List.length_append, List.length_replicate]
    omega
  · have q := zsl_at hv a 0 i v (zent_at hi)
    rw [Nat.zero_add] at q
    exact hl.2.2 _ q
theorem zsl_ok : ∀ (a : List zV), (∀ v ∈ a, zok v) → ∀ v, some v ∈ zslots a → zok v := by
  intro a
  induction a with
  | nil => intro _ v h; cases h
  | cons w r ih =>
    intro h v hv
    obtain x | x | x := w
    · rcases List.mem_cons.mp (show some v ∈ some (Sum.inl x : zV) :: zslots r from hv) with q | q
      · cases q; exact zh1 h
      · exact ih (zt1 h) v q
    · rcases List.mem_cons.mp (show some v ∈ some (Sum.inr (Sum.inl x) : zV) :: none :: zslots r from hv) with q | q
      · cases q; exact zh1 h
      · rcases List.mem_cons.mp q with q | q
        · cases q
        · exact ih (zt1 h) v q
    · rcases List.mem_cons.mp (show some v ∈ some (Sum.inr (Sum.inr x) : zV) :: zslots r from hv) with q | q
      · cases q; exact zh1 h
      · exact ih (zt1 h) v q
theorem zent_ok {n : Nat} {a : List zV} (h : ∀ v ∈ a, zok v) : ∀ v, some v ∈ zent n a → zok v := by
  intro v hv
  obtain ⟨i, hi⟩ := List.getElem?_of_mem hv
  exact zsl_ok a h v (List.mem_of_getElem? (zent_at hi))
def zroom (d mj : Nat) : Room := { frames := d + 1, cells := (zmc mj).1, slots := (zmc mj).2, locals := 64 + 64 * d }
def zPc (G : zG) (a : List zV) (σ : zM) : Array Value → State → Prop := va_Pc (a.map (zcv G)) (fun U => zRep G U U.heap σ ∧ U.heap.size + 16 = G.1.1 + σ.2.2.2)
/-- what the small machine does of a method is a contract of it -/
theorem zMet {l : Launch} {G : zG} {d mj : Nat} {a : List zV} {σ : zM} {Q : zQ} (h : zGo l G d mj 0 0 0 (zen mj a) [] σ Q) (hy : plainFor (zyn mj) = true) (hl : (zslots a).length ≤ zmx mj) (ha : ∀ v ∈ a, zok v) : Met l (zyn mj) (zwm mj) (zroom d mj) (zPc G a σ) (zQc G mj Q) (zmc mj).1 (zmc mj).2 (zA G) := by
  refine va_MetF (cc := zby mj) (maxL := zmx mj) (ret := zrt mj) hy rfl ?_
  intro p e s m args below meth c s₁ B hml hv
  obtain ⟨rfl, hR, hE⟩ := hv
  have hts := atoms_spec (ws := zwm mj) B.pre
  have g := h p e (headSpec (zwm mj) (zroom d mj)).room s m (a.map (zcv G)).toArray below meth c s.heap [] _ ⟨B.exec, B.bytes, hml, findClass_of_methodNamed B.named, fun w hw => hts w (List.mem_cons_of_mem _ hw), B.returns, B.notSynchronized, fun q => by rw [(name_of_methodNamed B.named B.method).1]; exact q⟩ ⟨Nat.le_refl _, Nat.le_refl _, Nat.le_refl _, Nat.le_refl _⟩ hR va_S.rf hE (zlv_entry (zrep_vf hR) hl) (Nat.zero_le _) (Nat.zero_le _) (fun v hv => by cases hv) (zent_ok ha)
  rw [lg_entry_eq]
  exact g
theorem zPc_blind {G : zG} {a : List zV} {σ : zM} : FrameBlind (zPc G a σ) := by
  intro v U g mk h
  obtain ⟨h1, h2, h3⟩ := h
  exact ⟨h1, zRep_warm (s := U) (U := U.calling g mk v) (State.WarmedH.refl U) h2.2.2.2.2.2.2.2 h2, h3⟩
/-- a call of mj at a place of mi goes as its contract says -/
def zCallOK (l : Launch) (G : zG) (mi pc mj n kd : Nat) : Prop := ∀ (d : Nat) (p : Program) (e : Env) (R : Room) (s : State) (m : MethodId) (args : Array Value) (below : List Frame) (meth : Method) (c : Code) (H : Heap) (locs : List Loc) (la : Array Slot) (uc us : Nat) (a : List zV) (rest : List Value) (σ : zM) (Q : zQ),
  zIn mi p s m args meth c → zfit R (d + 1) mi → zRep G s H σ → H.size + 16 = G.1.1 + σ.2.2.2 → la.size = zmx mi → a.length = n → zrecv zshp σ.2.2.2 kd a = true → (rest.map fun v => v.category).sum ≤ 8 → uc + (zmc mj).1 ≤ R.cells → us + (zmc mj).2 ≤ R.slots →
  Met l (zyn mj) (zwm mj) (zroom d mj) (zPc G a σ) (zQc G mj Q) (zmc mj).1 (zmc mj).2 (zA G) →
  va_Run p l e R s m args below meth c H locs uc us (zmc mj).1 (zmc mj).2 (F0 m pc la ((a.map (zcv G)).reverse ++ rest)) rest (zQc G mj Q (a.map (zcv G)).toArray) (zA G)
theorem zPre {G : zG} {s : State} {H : Heap} {σ : zM} {a : List zV} (Rp : zRep G s H σ) (hz : H.size + 16 = G.1.1 + σ.2.2.2) : ∀ U : State, U.heap = H → s.WarmedH U.vm → zPc G a σ (a.map (zcv G)).toArray U := fun U hU hW => ⟨rfl, by rw [hU]; exact zRep_warm hW (by rw [hU]; have := Rp.2.2.1; omega) Rp, by rw [hU]; exact hz⟩
theorem zGood (mj : Nat) (h : Cond.code (zyn mj) (zby mj) (zmx mj) (zrt mj) ∈ zwd) : GoodIn zwd (zwm mj) := fun w hw => (List.mem_cons.mp hw).elim (fun q => by rw [q]; exact ⟨h, zwd_good _ h⟩) (fun q => ⟨q, zwd_good w q⟩)
theorem zR {R : Room} {d mi mj : Nat} (FT : zfit R (d + 1) mi) (hx : zmx mj ≤ 45) : (zroom d mj).frames + 1 ≤ R.frames ∧ 8 + (zmx mj + 11) + (zroom d mj).locals ≤ R.locals := by
  obtain ⟨-, -, h1, h2⟩ := FT
  unfold zroom
  dsimp only
  omega
theorem c_V {l : Launch} {G : zG} {mi pc mj n kd idx np : Nat} {q : vw_C} (hkd : kd < 13) (hq : zcls[kd]? = some q) (hqn : q.1 = (zyn mj).cls) (hnp : n = np + 1) (hx : zmx mj ≤ 45) (hw0 : Cond.code (zyn mj) (zby mj) (zmx mj) (zrt mj) ∈ zwd) (hw1 : Cond.methodLink (zyn mi).cls idx (zyn mj) ∈ zwd) (hw2 : Cond.instanceMethod (zyn mj) ∈ zwd) (hw3 : Cond.selects (zyn mj).cls (zyn mj) (zyn mj) ∈ zwd) (hw4 : Cond.initialized (zyn mj).cls ∈ zwd)
    (hdn : (zyn mj).cls ≠ "java/lang/invoke/MethodHandle" ∧ (zyn mj).cls ≠ "java/lang/invoke/VarHandle" ∧ (parseMethodDescriptor (zyn mj).desc).map (fun d => d.parameters.length) = some np) (hd : decode (zby mi) pc = .ok (.invokevirtual idx, 3)) : zCallOK l G mi pc mj n kd := by
  intro d p e R s m args below meth c H locs la uc us a rest σ Q I FT Rp hz hla han hrv hrest hc1 hc2 hM
  have hG := zGood mj hw0
  obtain _ | ⟨v, As⟩ := a
  · rw [hnp] at han; cases han
  obtain x | x | x := v
  · unfold zrecv at hrv
    have : Nat.beq kd 99 = false := by
      cases hb : Nat.beq kd 99 with
      | false => rfl
      | true => have := Nat.eq_of_beq_eq_true hb; omega
    rw [this] at hrv
    cases hrv
  · unfold zrecv at hrv
    have : Nat.beq kd 99 = false := by
      cases hb : Nat.beq kd 99 with
      | false => rfl
      | true => have := Nat.eq_of_beq_eq_true hb; omega
    rw [this] at hrv
    cases hrv
  · unfold zrecv at hrv
    have : Nat.beq kd 99 = false := by
      cases hb : Nat.beq kd 99 with
      | false => rfl
      | true => have := Nat.eq_of_beq_eq_true hb; omega
    rw [this] at hrv
    have hrv : zis zshp σ.2.2.2 x kd = true := hrv
    obtain ⟨h16, hlt, hw, hs⟩ := zobj_at (G := G) hrv hkd
    have e0 : zcv G (Sum.inr (Sum.inr x)) = .ref (zloc G x) := zloc_cv (by omega)
    have hpre := zPre (a := Sum.inr (Sum.inr x) :: As) Rp hz
    rw [List.map_cons, e0] at hpre ⊢
    have hgood : GoodIn zwd (wsV (zyn mi).cls idx (zyn mj).cls (zyn mj) (zwm mj)) := fun w hw => by
      unfold wsV at hw
      rcases List.mem_append.mp hw with z | z
      · rcases List.mem_cons.mp z with z | z
        · rw [z]; exact ⟨hw1, zwd_good _ hw1⟩
        · rcases List.mem_cons.mp z with z | z
          · rw [z]; exact ⟨hw2, zwd_good _ hw2⟩
          · rcases List.mem_cons.mp z with z | z
            · rw [z]; exact ⟨hw3, zwd_good _ hw3⟩
            · rcases List.mem_cons.mp z with z | z
              · rw [z]; exact ⟨hw4, zwd_good _ hw4⟩
              · cases z
      · exact hG w z
    have hr := va_recv Rp.1 Rp.2.1 hq hw
    rw [hqn] at hr
    exact va_runV (g := F0 m pc la ((Value.ref (zloc G x) :: As.map (zcv G)).reverse ++ rest)) (As := As.map (zcv G)) (rest := rest) (b := zloc G x) (nL := zmx mi) ⟨I.1, I.2.1, I.2.2.1, I.2.2.2.1, I.2.2.2.2.1⟩ hM (cwV np I.2.2.2.2.1 hgood rfl rfl rfl ⟨rfl, hdn⟩ (zR FT hx)) ⟨zPc_blind, hr, hpre⟩ rfl (by rw [List.length_map]; have : As.length + 1 = n := han; omega) hla (by rw [List.reverse_cons, List.append_assoc]; rfl) (lv_room (m := m) (pc := pc) (ls := la) (rest := rest) hrest) hd ⟨hc1, hc2⟩
theorem zshp_s : ∀ c, c < 16 → (zshp c).1 = 18 → 5 ≤ c ∧ c < 10 := by decide +kernel
theorem zshp_18 : zshpL.all (fun r => r.all (fun q => decide (q.1 < 18))) = false ∧ (zshpL.drop 1).all (fun r => r.all (fun q => decide (q.1 < 18))) = true ∧ ((zshpL.getD 0 []).drop 16).all (fun q => decide (q.1 < 18)) = true := by decide +kernel
theorem zshp_s2 (c : Nat) (h : (zshp c).1 = 18) : 5 ≤ c ∧ c < 10 := by
  rcases Nat.lt_or_ge c 16 with q | q
  · exact zshp_s c q h
  · exfalso
    unfold zshp at h
    rw [List.getD_eq_getElem?_getD, List.getD_eq_getElem?_getD] at h
    by_cases hd : c / 32 = 0
    · have hm : c % 32 = c := by omega
      rw [hd, hm] at h
      cases hc : (zshpL[0]?.getD [])[c]? with
      | none => rw [hc] at h; cases h
      | some w =>
        rw [hc] at h
        have hmem : w ∈ (zshpL.getD 0 []).drop 16 := by
          rw [List.getD_eq_getElem?_getD]
          refine List.mem_of_getElem? (i := c - 16) ?_
          rw [List.getElem?_drop, show 16 + (c - 16) = c by omega]
          exact hc
        have := List.all_eq_true.mp zshp_18.2.2 w hmem
        simp at this
        have h : w.1 = 18 := h
        omega
    · cases hr : zshpL[c / 32]? with
      | none => rw [hr] at h; simp at h
      | some r =>
        rw [hr] at h
        cases hc : r[c % 32]? with
        | none => simp [hc] at h
        | some w =>
          have h : w.1 = 18 := by simpa [hc] using h
          have hmem : r ∈ zshpL.drop 1 := by
            refine List.mem_of_getElem? (i := c / 32 - 1) ?_
            rw [List.getElem?_drop, show 1 + (c / 32 - 1) = c / 32 by omega]
            exact hr
          have h1 := List.all_eq_true.mp (List.all_eq_true.mp zshp_18.2.1 r hmem) w (List.mem_of_getElem? hc)
          simp at h1
          omega
theorem c_VS {l : Launch} {G : zG} {mi pc mj n idx np : Nat} (hqn : (zyn mj).cls = "java/lang/String") (hnp : n = np + 1) (hx : zmx mj ≤ 45) (hw0 : Cond.code (zyn mj) (zby mj) (zmx mj) (zrt mj) ∈ zwd) (hw1 : Cond.methodLink (zyn mi).cls idx (zyn mj) ∈ zwd) (hw2 : Cond.instanceMethod (zyn mj) ∈ zwd) (hw3 : Cond.selects (zyn mj).cls (zyn mj) (zyn mj) ∈ zwd) (hw4 : Cond.initialized (zyn mj).cls ∈ zwd)
    (hdn : (zyn mj).cls ≠ "java/lang/invoke/MethodHandle" ∧ (zyn mj).cls ≠ "java/lang/invoke/VarHandle" ∧ (parseMethodDescriptor (zyn mj).desc).map (fun d => d.parameters.length) = some np) (hd : decode (zby mi) pc = .ok (.invokevirtual idx, 3)) : zCallOK l G mi pc mj n 18 := by
  intro d p e R s m args below meth c H locs la uc us a rest σ Q I FT Rp hz hla han hrv hrest hc1 hc2 hM
  have hG := zGood mj hw0
  obtain _ | ⟨v, As⟩ := a
  · rw [hnp] at han; cases han
  obtain x | x | x := v
  · cases hrv
  · cases hrv
  · have hrv : zis zshp σ.2.2.2 x 18 = true := hrv
    obtain ⟨hs, -⟩ := zis_of hrv
    obtain ⟨h5, h10⟩ := zshp_s2 x hs
    have e0 : zcv G (Sum.inr (Sum.inr x)) = .ref (G.2.1 x) := zlow_cv (by omega) (by omega)
    have hpre := zPre (a := Sum.inr (Sum.inr x) :: As) Rp hz
    rw [List.map_cons, e0] at hpre ⊢
    have hgood : GoodIn zwd (wsV (zyn mi).cls idx (zyn mj).cls (zyn mj) (zwm mj)) := fun w hw => by
      unfold wsV at hw
      rcases List.mem_append.mp hw with z | z
      · rcases List.mem_cons.mp z with z | z
        · rw [z]; exact ⟨hw1, zwd_good _ hw1⟩
        · rcases List.mem_cons.mp z with z | z
          · rw [z]; exact ⟨hw2, zwd_good _ hw2⟩
          · rcases List.mem_cons.mp z with z | z
            · rw [z]; exact ⟨hw3, zwd_good _ hw3⟩
            · rcases List.mem_cons.mp z with z | z
              · rw [z]; exact ⟨hw4, zwd_good _ hw4⟩
              · cases z
      · exact hG w z
    have hr : ∃ cell : Cell, H[G.2.1 x]? = some cell ∧ cell.vm.isStatics = false ∧ s.vm.findClass (zyn mj).cls = some cell.cls := by
      obtain ⟨⟨cell, q1, q2, q3, -⟩, -⟩ := (Rp.2.2.2.2.2.1.2.2.2.2.2.2.2.2.2.2.1).1 (x - 5) (by omega)
      dsimp only at q1
      rw [show 5 + (x - 5) = x by omega] at q1
      exact ⟨cell, q1, q2, by rw [hqn]; exact q3⟩
    exact va_runV (g := F0 m pc la ((Value.ref (G.2.1 x) :: As.map (zcv G)).reverse ++ rest)) (As := As.map (zcv G)) (rest := rest) (b := G.2.1 x) (nL := zmx mi) ⟨I.1, I.2.1, I.2.2.1, I.2.2.2.1, I.2.2.2.2.1⟩ hM (cwV np I.2.2.2.2.1 hgood rfl rfl rfl ⟨rfl, hdn⟩ (zR FT hx)) ⟨zPc_blind, hr, hpre⟩ rfl (by rw [List.length_map]; have : As.length + 1 = n := han; omega) hla (by rw [List.reverse_cons, List.append_assoc]; rfl) (lv_room (m := m) (pc := pc) (ls := la) (rest := rest) hrest) hd ⟨hc1, hc2⟩
theorem c_S {l : Launch} {G : zG} {mi pc mj n idx : Nat} (hx : zmx mj ≤ 45) (hw0 : Cond.code (zyn mj) (zby mj) (zmx mj) (zrt mj) ∈ zwd) (hw1 : Cond.methodLink (zyn mi).cls idx (zyn mj) ∈ zwd) (hw2 : Cond.static (zyn mj) ∈ zwd) (hw4 : Cond.initialized (zyn mj).cls ∈ zwd)
    (hdn : (zyn mj).cls ≠ "java/lang/invoke/MethodHandle" ∧ (zyn mj).cls ≠ "java/lang/invoke/VarHandle" ∧ (parseMethodDescriptor (zyn mj).desc).map (fun d => d.parameters.length) = some n) (hd : decode (zby mi) pc = .ok (.invokestatic idx, 3)) : zCallOK l G mi pc mj n 99 := by
  intro d p e R s m args below meth c H locs la uc us a rest σ Q I FT Rp hz hla han hrv hrest hc1 hc2 hM
  have hG := zGood mj hw0
  have hgood : GoodIn zwd (va_wsS (zyn mi).cls idx (zyn mj) (zwm mj)) := fun w hw => by
    unfold va_wsS at hw
    rcases List.mem_append.mp hw with z | z
    · rcases List.mem_cons.mp z with z | z
      · rw [z]; exact ⟨hw1, zwd_good _ hw1⟩
      · rcases List.mem_cons.mp z with z | z
        · rw [z]; exact ⟨hw2, zwd_good _ hw2⟩
        · rcases List.mem_cons.mp z with z | z
          · rw [z]; exact ⟨hw4, zwd_good _ hw4⟩
          · cases z
    · exact hG w z
  exact va_runS (g := F0 m pc la ((a.map (zcv G)).reverse ++ rest)) (As := a.map (zcv G)) (rest := rest) (nL := zmx mi) ⟨I.1, I.2.1, I.2.2.1, I.2.2.2.1, I.2.2.2.2.1⟩ hM (va_cwS n I.2.2.2.2.1 hgood rfl rfl rfl hdn (zR FT hx)) ⟨zPc_blind, zPre Rp hz⟩ rfl (by rw [List.length_map]; exact han) hla rfl (lv_room (m := m) (pc := pc) (ls := la) (rest := rest) hrest) hd ⟨hc1, hc2⟩
theorem c_SN {l : Launch} {G : zG} {mi pc mj n idx : Nat} (hx : zmx mj ≤ 45) (hw0 : Cond.code (zyn mj) (zby mj) (zmx mj) (zrt mj) ∈ zwd) (hw1 : ((zyn mi).cls, idx, zyn mj, "CallOpener") ∈ znM) (hw2 : Cond.static (zyn mj) ∈ zwd) (hw4 : Cond.initialized (zyn mj).cls ∈ zwd)
    (hdn : (zyn mj).cls ≠ "java/lang/invoke/MethodHandle" ∧ (zyn mj).cls ≠ "java/lang/invoke/VarHandle" ∧ (parseMethodDescriptor (zyn mj).desc).map (fun d => d.parameters.length) = some n) (hd : decode (zby mi) pc = .ok (.invokestatic idx, 3)) : zCallOK l G mi pc mj n 99 := by
  intro d p e R s m args below meth c H locs la uc us a rest σ Q I FT Rp hz hla han hrv hrest hc1 hc2 hM
  exact va_runSN (g := F0 m pc la ((a.map (zcv G)).reverse ++ rest)) (As := a.map (zcv G)) (rest := rest) (nL := zmx mi) ⟨I.1, I.2.1, I.2.2.1, I.2.2.2.1, I.2.2.2.2.1⟩ hM ⟨va_cnB n I.2.2.2.2.1 (zGood mj hw0) rfl rfl rfl (Rp.2.2.2.2.2.1.2.2.2.2.2.2.2.2.2.2.2.2.1.2.1 _ hw1) (I.2.2.2.2.1 _ hw4) hdn (zR FT hx), I.2.2.2.2.1 _ hw2, trivial⟩ ⟨zPc_blind, zPre Rp hz⟩ rfl (by rw [List.length_map]; exact han) hla rfl (lv_room (m := m) (pc := pc) (ls := la) (rest := rest) hrest) hd ⟨hc1, hc2⟩
def zCallOKc (l : Launch) (G : zG) (mi pc mj n : Nat) : Prop := ∀ (d : Nat) (p : Program) (e : Env) (R : Room) (s : State) (m : MethodId) (args : Array Value) (below : List Frame) (meth : Method) (c : Code) (H : Heap) (locs : List Loc) (la : Array Slot) (uc us : Nat) (a : List zV) (rest : List Value) (σ : zM) (Q : zQ) (x : Nat) (As : List zV), a = Sum.inr (Sum.inr x) :: As → ¬ x = 15 →
  zIn mi p s m args meth c → zfit R (d + 1) mi → zRep G s H σ → H.size + 16 = G.1.1 + σ.2.2.2 → la.size = zmx mi → a.length = n → (rest.map fun v => v.category).sum ≤ 8 → uc + (zmc mj).1 ≤ R.cells → us + (zmc mj).2 ≤ R.slots →
  Met l (zyn mj) (zwm mj) (zroom d mj) (zPc G a σ) (zQc G mj Q) (zmc mj).1 (zmc mj).2 (zA G) →
  va_Run p l e R s m args below meth c H locs uc us (zmc mj).1 (zmc mj).2 (F0 m pc la ((a.map (zcv G)).reverse ++ rest)) rest (zQc G mj Q (a.map (zcv G)).toArray) (zA G)
theorem c_I {l : Launch} {G : zG} {mi pc mj n idx np : Nat} (hnp : n = np + 1) (hini : (zyn mj).name = "<init>") (hrt : zrt mj = none) (hx : zmx mj ≤ 45) (hw0 : Cond.code (zyn mj) (zby mj) (zmx mj) (zrt mj) ∈ zwd) (hw1 : Cond.methodLink (zyn mi).cls idx (zyn mj) ∈ zwd) (hw2 : Cond.instanceMethod (zyn mj) ∈ zwd) (hw4 : Cond.initialized (zyn mj).cls ∈ zwd)
    (hdn : (zyn mj).cls ≠ "java/lang/invoke/MethodHandle" ∧ (zyn mj).cls ≠ "java/lang/invoke/VarHandle" ∧ (parseMethodDescriptor (zyn mj).desc).map (fun d => d.parameters.length) = some np) (hd : decode (zby mi) pc = .ok (.invokespecial idx, 3)) : zCallOKc l G mi pc mj n := by
  intro d p e R s m args below meth c H locs la uc us a rest σ Q x As hax h15 I FT Rp hz hla han hrest hc1 hc2 hM
  have e0 : zcv G (Sum.inr (Sum.inr x)) = .ref (zloc G x) := zloc_cv h15
  have hpre := zPre (a := a) Rp hz
  subst hax
  rw [List.map_cons, e0] at hpre ⊢
  have hwm : zwm mj = Cond.code (zyn mj) (zby mj) (zmx mj) none :: zwd := by unfold zwm; rw [hrt]
  exact va_runI (g := F0 m pc la ((Value.ref (zloc G x) :: As.map (zcv G)).reverse ++ rest)) (As := As.map (zcv G)) (rest := rest) (b := zloc G x) (nL := zmx mi) ⟨I.1, I.2.1, I.2.2.1, I.2.2.2.1, I.2.2.2.2.1⟩ hM (cwI np I.2.2.2.2.1 (zGood mj hw0) hwm rfl rfl (I.2.2.2.2.1 _ hw4) (I.2.2.2.2.1 _ hw1) (I.2.2.2.2.1 _ hw2) hini hdn (zR FT hx)) ⟨zPc_blind, hpre⟩ rfl (by rw [List.length_map]; have : As.length + 1 = n := han; omega) hla (by rw [List.reverse_cons, List.append_assoc]; rfl) (lv_room (m := m) (pc := pc) (ls := la) (rest := rest) hrest) hd ⟨hc1, hc2⟩
theorem c_IN {l : Launch} {G : zG} {mi pc mj n idx np : Nat} (hnp : n = np + 1) (hini : (zyn mj).name = "<init>") (hrt : zrt mj = none) (hx : zmx mj ≤ 45) (hw0 : Cond.code (zyn mj) (zby mj) (zmx mj) (zrt mj) ∈ zwd) (hw1 : ((zyn mi).cls, idx, zyn mj, "CallOpener") ∈ znM) (hw2 : Cond.instanceMethod (zyn mj) ∈ zwd) (hw4 : Cond.initialized (zyn mj).cls ∈ zwd)
    (hdn : (zyn mj).cls ≠ "java/lang/invoke/MethodHandle" ∧ (zyn mj).cls ≠ "java/lang/invoke/VarHandle" ∧ (parseMethodDescriptor (zyn mj).desc).map (fun d => d.parameters.length) = some np) (hd : decode (zby mi) pc = .ok (.invokespecial idx, 3)) : zCallOKc l G mi pc mj n := by
  intro d p e R s m args below meth c H locs la uc us a rest σ Q x As hax h15 I FT Rp hz hla han hrest hc1 hc2 hM
  have e0 : zcv G (Sum.inr (Sum.inr x)) = .ref (zloc G x) := zloc_cv h15
  have hpre := zPre (a := a) Rp hz
  subst hax
  rw [List.map_cons, e0] at hpre ⊢
  have hwm : zwm mj = Cond.code (zyn mj) (zby mj) (zmx mj) none :: zwd := by unfold zwm; rw [hrt]
  exact va_runIN (g := F0 m pc la ((Value.ref (zloc G x) :: As.map (zcv G)).reverse ++ rest)) (As := As.map (zcv G)) (rest := rest) (b := zloc G x) (nL := zmx mi) ⟨I.1, I.2.1, I.2.2.1, I.2.2.2.1, I.2.2.2.2.1⟩ hM ⟨va_cnB np I.2.2.2.2.1 (zGood mj hw0) hwm rfl rfl (Rp.2.2.2.2.2.1.2.2.2.2.2.2.2.2.2.2.2.2.1.2.1 _ hw1) (I.2.2.2.2.1 _ hw4) hdn (zR FT hx), hini, I.2.2.2.2.1 _ hw2⟩ ⟨zPc_blind, hpre⟩ rfl (by rw [List.length_map]; have : As.length + 1 = n := han; omega) hla (by rw [List.reverse_cons, List.append_assoc]; rfl) (lv_room (m := m) (pc := pc) (ls := la) (rest := rest) hrest) hd ⟨hc1, hc2⟩
