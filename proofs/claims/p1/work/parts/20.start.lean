/-! The start: the small machine's memory in the heap that the Statement allows. -/
theorem zt_tbl1 : ∀ w ∈ tables_1, w ∈ lw_tbl := fun w h => List.mem_append_right _ h
theorem sk_int {L : Nat} {xs : Nat → Int32} : zrg (zMs L xs) := by
  intro c k hk
  have sm : ∀ (t : Nat) (x : Int), ¬ t = 1 → 0 ≤ x → x < 128 → zin t x := fun t x h1 h2 h3 => by
    unfold zin
    split
    · exact absurd rfl h1
    · unfold in64; omega
    · omega
    · unfold in32; omega
  have ls : ∀ (l : List Int), (∀ y ∈ l, 0 ≤ y ∧ y < 128) → 0 ≤ l.getD k.toNat 0 ∧ l.getD k.toNat 0 < 128 := fun l h => by
    rw [List.getD_eq_getElem?_getD]
    cases hc : l[k.toNat]? with
    | none => exact ⟨by decide, by decide⟩
    | some y => exact h y (List.mem_of_getElem? hc)
  have k1 : ¬ k = -1 := by omega
  by_cases h : c < 16
  · have tyn : ∀ c, c < 16 → ((zshp c).1 = 14 ∨ (zshp c).1 = 13 ∨ (zshp c).1 = 18 ∨ (zshp c).1 = 99) := by decide +kernel
    have ht := tyn c h
    have hz : zty c k = 0 ∨ zty c k = 3 := by
      unfold zty
      rcases ht with q | q | q | q <;> rw [q]
      · exact Or.inl rfl
      · exact Or.inr rfl
      · exact Or.inl rfl
      · exact Or.inl rfl
    unfold zMs
    split
    · rw [if_neg k1]
      have h14 : zty 1 k = 0 := by unfold zty; rw [show (zshp 1).1 = 14 by decide +kernel]; rfl
      rw [h14]
      split
      · exact i_in _
      · exact i_0
    · rw [if_neg k1]
      have h14 : zty 2 k = 0 := by unfold zty; rw [show (zshp 2).1 = 14 by decide +kernel]; rfl
      rw [h14]
      show in32 _
      unfold in32
      split <;> omega
    · rw [if_neg k1]
      have h14 : zty 3 k = 0 := by unfold zty; rw [show (zshp 3).1 = 14 by decide +kernel]; rfl
      rw [h14]
      show in32 _
      unfold in32
      split
      · omega
      · split
        · omega
        · split
          · omega
          · split <;> omega
    · rw [if_neg k1]
      have h14 : zty 4 k = 0 := by unfold zty; rw [show (zshp 4).1 = 14 by decide +kernel]; rfl
      rw [h14]
      show in32 _
      unfold in32
      split
      · omega
      · split
        · omega
        · split
          · omega
          · split <;> omega
    · rw [if_neg k1]
      obtain ⟨a, b⟩ := ls [102, 117, 110] (by decide)
      exact sm _ _ (by omega) a b
    · rw [if_neg k1]
      obtain ⟨a, b⟩ := ls [105, 102] (by decide)
      exact sm _ _ (by omega) a b
    · rw [if_neg k1]
      obtain ⟨a, b⟩ := ls [101, 108, 115, 101] (by decide)
      exact sm _ _ (by omega) a b
    · rw [if_neg k1]
      obtain ⟨a, b⟩ := ls [108, 111, 111, 112] (by decide)
      exact sm _ _ (by omega) a b
    · rw [if_neg k1]
      obtain ⟨a, b⟩ := ls [103, 105, 118, 101] (by decide)
      exact sm _ _ (by omega) a b
    · exact zin_0 _
  · have e : zMs L xs c k = 0 := by
      unfold zMs
      split <;> first | omega | rfl
    rw [e]
    exact zin_0 _
theorem sk_z {L : Nat} {xs : Nat → Int32} : zz (zσ0 L xs) := by
  intro c hc
  have hc : 16 ≤ c := hc
  refine ⟨fun _ => rfl, fun _ => rfl, fun k => ?_⟩
  show zMs L xs c k = 0
  unfold zMs
  split <;> first | omega | rfl
/-- a constant row of four ints -/
theorem sk_row {args : Array Value} {s : State} {tm : Term} {f : Nat → Int32} (h1 : (Cond.arrayOf tm .int).before args s = true) (h2 : (Cond.eq (.length tm) (.int 4)).before args s = true) (h3 : ∀ j : Nat, j < 4 → (Cond.eq (.elem tm (.int (Int32.ofNat j))) (.int (f j))).before args s = true) (h4 : (Cond.exactly tm "[I").before args s = true) :
    ∃ t : Nat, tm.eval args s none [] s = some (.ref t) ∧ t < s.heap.size ∧ va_X t 4 f s s.heap ∧ ∃ scr : Cell, s.heap[t]? = some scr ∧ s.vm.findClass "[I" = some scr.cls := by
  have hv := va_eqt h2
  obtain ⟨b, cell, ht, harr, -⟩ := Term.length_spec hv
  obtain ⟨hcell, hkn, -, -⟩ := State.arrayAt?_spec harr
  have hsz : cell.slots.size = 4 := by
    simp only [Term.eval, ht, harr, Option.bind_eq_bind, Option.bind_some] at hv
    by_cases hlt : cell.slots.size < 2147483648
    · simp [hlt] at hv
      have h5 : (Int32.ofNat cell.slots.size).toInt = (4 : Int32).toInt := by
        first
        | exact congrArg Int32.toInt hv
        | (rw [show Int32.ofNat cell.slots.size = cell.slots.size.toInt32 from rfl, hv])
      rw [Int32.toInt_ofNat_small (by omega)] at h5
      have h6 : (4 : Int32).toInt = 4 := by decide
      omega
    · simp [hlt] at hv
  have hof := (Cond.arrayOf_spec h1 ht hcell).1
  obtain ⟨a, c, cA, kA, q1, q2, q3, q4, q5, q6, -⟩ := Cond.exactly_spec (args := args) (first := s) (o := none) (s := s) (idx := []) (t := tm) (cls := "[I") h4
  have hab : a = b := by
    have := q1.symm.trans ht
    cases this
    rfl
  subst hab
  have hcc : cA = cell := Option.some.inj (q3.symm.trans hcell)
  subst hcc
  refine ⟨a, ht, (Array.getElem?_eq_some_iff.mp hcell).1, ⟨cA, hcell, hof, hkn, hsz, fun j hj => ?_⟩, cA, hcell, by rw [q6]; exact q2⟩
  have he := va_eqt (h3 j hj)
  have hneg : ¬ ((Int32.ofNat j) < 0) := Int32.ofNat_not_neg (by omega)
  have hnat : (Int32.ofNat j).toNatClampNeg = j := nI_clamp (by omega)
  simp [Term.eval, ht, harr, hneg, hnat] at he
  exact he
def R_law : String := "CallOpenerLaw"
def lw_P (b : Addr) (xs : List Int32) (args : Array Value) (s : State) : Prop := args = #[.ref b] ∧ s.IntsAt b xs ∧ xs.length ≤ 6 ∧ (Jvm.Cond.and given_1 narrow_1).before args s = true
def lw_Q (_ : Array Value) (s : State) (o : Outcome) (t : State) : Prop := o = .returned (some (.int 1)) ∧ Framed s o t [] 600000 7302250
def lw_Z (below : List Frame) (a : Array Value) (s : State) : State → Prop := fun t => ∃ o, t.status = .running ∧ Ended t below o ∧ lw_Q a s o t
/-- the law's own end, with 1 on the stack, nothing written that was there before, its room as the claim has it -/
theorem lw_ret {p : Program} {l : Launch} {e : Env} {s : State} {m : MethodId} {below : List Frame} {meth : Method} {c : Code} {b : Nat} (hx : p.tables.exec = Jvm.exec) (hb : c.code = code) (hr : meth.sig.returnType = ret) (hlocks : meth.locks = false) {pc : Nat} {H : Heap} {ls : Array Slot} (hdg : decode code pc = .ok (.ireturn, 1)) : W p l e room_1 s m #[Value.ref b] below meth c H [] 600000 7302250 (lw_Z below #[Value.ref b] s) (F0 m pc ls [.int 1]) := by
  intro T hT X
  obtain ⟨fs, hret, hrun, hended, hW, hframe⟩ := X.leave (v := some (.int 1)) (hlocks := hlocks) (fun h => by rw [hr] at h; cases h)
  have hmeth' : T.vm.method? m = some meth := X.method'
  refine ⟨T.setFrames fs, ?_, .returned (some (.int 1)), hrun, hended, rfl, ⟨_, rfl⟩, hW, hframe⟩
  jvm_step X.here [X.here.top, hx, hb, hdg, hmeth', hr, ret, narrow_b1]
  (try refine ⟨rfl, ?_⟩); (try refine ⟨rfl, ?_⟩)
  first | (intro acts; rw [hret _ acts rfl rfl rfl]) | rw [hret _ _ rfl rfl rfl]
  exact Steps.refl _
/-- what holds at the law's entry: the machine, the code, the tables' words (any of lw_tbl by 'hts w (by decide +kernel)'), the script of L ints xs at the cell b, what the Statement gives of the start (any of its parts by flat_of_before) -/
def lw_At (p : Program) (s : State) (m : MethodId) (meth : Method) (c : Code) (b L : Nat) (xs : Nat → Int32) : Prop :=
  p.tables.exec = Jvm.exec ∧ c.code = code ∧ meth.sig.returnType = ret ∧ c.maxLocals = 4 ∧ s.vm.findClass R_law = some m.cls ∧ (∀ w ∈ lw_tbl, w.before #[Value.ref b] s = true) ∧ va_X b L xs s s.heap ∧ b < s.heap.size ∧ meth.locks = false ∧ (Jvm.Cond.and given_1 narrow_1).before #[Value.ref b] s = true
theorem va_X_congr {t n : Nat} {f g : Nat → Int32} {s : State} {H : Heap} (h : va_X t n f s H) (e : ∀ j, j < n → f j = g j) : va_X t n g s H := by
  obtain ⟨scr, a1, a2, a3, a4, a5⟩ := h
  exact ⟨scr, a1, a2, a3, a4, fun j hj => by rw [a5 j hj, e j hj]⟩
def sk2 (j : Nat) : Int32 := if j = 1 then 1 else 0
def sk3 (j : Nat) : Int32 := if j = 0 then 300 else if j = 1 then 50 else if j = 2 then 3 else 500
def sk4 (j : Nat) : Int32 := if j = 0 then 100 else if j = 1 then 10 else if j = 2 then 1 else 100
theorem sk_eq {L : Nat} {xs : Nat → Int32} : ∀ j : Nat, j < 4 → sk2 j = Int32.ofInt (zMs L xs 2 j) ∧ sk3 j = Int32.ofInt (zMs L xs 3 j) ∧ sk4 j = Int32.ofInt (zMs L xs 4 j) := by
  intro j hj
  obtain rfl | rfl | rfl | rfl : j = 0 ∨ j = 1 ∨ j = 2 ∨ j = 3 := by omega
  all_goals exact ⟨rfl, rfl, rfl⟩
theorem sk_words {args : Array Value} {s : State} (hgv : (Jvm.Cond.and given_1 narrow_1).before args s = true) :
    (∃ t : Nat, (Term.static "CallOpener" "SETTING_LEAST" "[I").eval args s none [] s = some (.ref t) ∧ t < s.heap.size ∧ va_X t 4 sk2 s s.heap ∧ ∃ scr : Cell, s.heap[t]? = some scr ∧ s.vm.findClass "[I" = some scr.cls) ∧
    (∃ t : Nat, (Term.static "CallOpener" "SETTING_MOST" "[I").eval args s none [] s = some (.ref t) ∧ t < s.heap.size ∧ va_X t 4 sk3 s s.heap ∧ ∃ scr : Cell, s.heap[t]? = some scr ∧ s.vm.findClass "[I" = some scr.cls) ∧
    (∃ t : Nat, (Term.static "CallOpener" "SETTING_FIRST" "[I").eval args s none [] s = some (.ref t) ∧ t < s.heap.size ∧ va_X t 4 sk4 s s.heap ∧ ∃ scr : Cell, s.heap[t]? = some scr ∧ s.vm.findClass "[I" = some scr.cls) ∧
    (Term.static "java/lang/String" "COMPACT_STRINGS" "Z").eval args s none [] s = some (.int 1) ∧
    (Cond.isRef (.static "jdk/internal/util/Preconditions" "SIOOBE_FORMATTER" "Ljava/util/function/BiFunction;")).before args s = true ∧
    (∃ adK adV : Nat → Nat, vk_S 5 [3, 2, 4, 4, 4] zstrs adK adV (fun q => s.heap.size ≤ q) s s.heap ∧ ∀ i : Nat, i < 5 → (Term.string "CallOpener$Reader" (ztx.getD i (0, "")).1).eval args s none [] s = some (.ref (adK i))) := by
  have hs := flat_of_before _ hgv
  have row : ∀ (tm : Term) (f : Nat → Int32), _ → _ → _ → _ → ∃ t : Nat, tm.eval args s none [] s = some (.ref t) ∧ t < s.heap.size ∧ va_X t 4 f s s.heap ∧ ∃ scr : Cell, s.heap[t]? = some scr ∧ s.vm.findClass "[I" = some scr.cls := fun tm f h1 h2 h3 h4 => sk_row (tm := tm) (f := f) h1 h2 h3 h4
  refine ⟨row _ sk2 (hs _ (by decide +kernel)) (hs _ (by decide +kernel)) (fun j hj => ?_) (hs _ (by decide +kernel)), row _ sk3 (hs _ (by decide +kernel)) (hs _ (by decide +kernel)) (fun j hj => ?_) (hs _ (by decide +kernel)), row _ sk4 (hs _ (by decide +kernel)) (hs _ (by decide +kernel)) (fun j hj => ?_) (hs _ (by decide +kernel)), va_eqi (hs _ (by decide +kernel)), hs _ (by decide +kernel), ?_⟩
  · obtain rfl | rfl | rfl | rfl : j = 0 ∨ j = 1 ∨ j = 2 ∨ j = 3 := by omega
    all_goals exact hs _ (by decide +kernel)
  · obtain rfl | rfl | rfl | rfl : j = 0 ∨ j = 1 ∨ j = 2 ∨ j = 3 := by omega
    all_goals exact hs _ (by decide +kernel)
  · obtain rfl | rfl | rfl | rfl : j = 0 ∨ j = 1 ∨ j = 2 ∨ j = 3 := by omega
    all_goals exact hs _ (by decide +kernel)
  · have five : ∀ {P : Nat → Prop}, P 0 → P 1 → P 2 → P 3 → P 4 → ∀ i, i < 5 → P i := fun h0 h1 h2 h3 h4 i hi => by
      obtain rfl | rfl | rfl | rfl | rfl : i = 0 ∨ i = 1 ∨ i = 2 ∨ i = 3 ∨ i = 4 := by omega
      · exact h0
      · exact h1
      · exact h2
      · exact h3
      · exact h4
    refine vk_Sof (tm := fun i => Term.string "CallOpener$Reader" (ztx.getD i (0, "")).1) (five (by decide) (by decide) (by decide) (by decide) (by decide)) (five (hs _ (by decide +kernel)) (hs _ (by decide +kernel)) (hs _ (by decide +kernel)) (hs _ (by decide +kernel)) (hs _ (by decide +kernel))) (five (hs _ (by decide +kernel)) (hs _ (by decide +kernel)) (hs _ (by decide +kernel)) (hs _ (by decide +kernel)) (hs _ (by decide +kernel))) (five (hs _ (by decide +kernel)) (hs _ (by decide +kernel)) (hs _ (by decide +kernel)) (hs _ (by decide +kernel)) (hs _ (by decide +kernel))) (five (hs _ (by decide +kernel)) (hs _ (by decide +kernel)) (hs _ (by decide +kernel)) (hs _ (by decide +kernel)) (hs _ (by decide +kernel))) ?_ ?_ (fun a h => Nat.not_le.mpr h)
    · intro i hi j hj
      obtain rfl | rfl | rfl | rfl | rfl : i = 0 ∨ i = 1 ∨ i = 2 ∨ i = 3 ∨ i = 4 := by omega
      · have hj : j < 3 := hj
        obtain rfl | rfl | rfl : j = 0 ∨ j = 1 ∨ j = 2 := by omega
        all_goals exact hs _ (by decide +kernel)
      · have hj : j < 2 := hj
        obtain rfl | rfl : j = 0 ∨ j = 1 := by omega
        all_goals exact hs _ (by decide +kernel)
      all_goals
        have hj : j < 4 := hj
        obtain rfl | rfl | rfl | rfl : j = 0 ∨ j = 1 ∨ j = 2 ∨ j = 3 := by omega
        all_goals exact hs _ (by decide +kernel)
    · intro i j hi hj hij
      obtain rfl | rfl | rfl | rfl | rfl : i = 0 ∨ i = 1 ∨ i = 2 ∨ i = 3 ∨ i = 4 := by omega
      all_goals
        obtain rfl | rfl | rfl | rfl | rfl : j = 0 ∨ j = 1 ∨ j = 2 ∨ j = 3 ∨ j = 4 := by omega
        all_goals first | (exact absurd rfl hij) | (exact Or.inl (hs _ (by decide +kernel))) | (exact Or.inr (hs _ (by decide +kernel)))
set_option maxHeartbeats 2000000 in
/-- the claim's walk out of the small machine's -/
theorem whole_of {N : Nat} (hO : zOwed N) (hN : N ≤ 3072) {p : Program} {e : Env} {s : State} {m : MethodId} {below : List Frame} {meth : Method} {c : Code} (l : Launch) {b L : Nat} {xs : Nat → Int32} (hL : L ≤ N) (C0 : lw_At p s m meth c b L xs) : W p l e room_1 s m #[Value.ref b] below meth c s.heap [] 0 0 (lw_Z below #[Value.ref b] s) (entryFrame m ([Value.ref b] : List Value).toArray 4) := by
  obtain ⟨hx, hb, hr, hml, hown, hts, hX, hbl, hlocks, hgv⟩ := id C0
  have hzw : ∀ w ∈ zwd, w.before #[Value.ref b] s = true := fun w hw => hts w (zwd_tbl hw)
  obtain ⟨⟨t2, e2, l2, x2, -⟩, ⟨t3, e3, l3, x3, -⟩, ⟨t4, e4, l4, x4, scr4, s4a, s4b⟩, eC, eF, adK, adV, hS, hK⟩ := sk_words hgv
  obtain ⟨c0, i0, hk0⟩ := u_known (C := RX0) (T := TX0) (N := 13) (n := 13) hzw inX0 (hzw _ q_759)
  obtain ⟨c1, i1, hk1⟩ := u_known (C := RX1) (T := TX1) (N := 15) (n := 15) hzw inX1 (hzw _ q_612)
  obtain ⟨c2, i2, hk2⟩ := u_known (C := RX2) (T := TX2) (N := 7) (n := 7) hzw inX2 (hzw _ q_222)
  obtain ⟨c3, i3, hk3⟩ := u_known (C := RX3) (T := TX3) (N := 14) (n := 14) hzw inX3 (hzw _ q_289)
  obtain ⟨c4, i4, hk4⟩ := u_known (C := RX4) (T := TX4) (N := 16) (n := 16) hzw inX4 (hzw _ q_544)
  obtain ⟨c5, i5, hk5⟩ := u_known (C := RX5) (T := TX5) (N := 5) (n := 5) hzw inX5 (hzw _ q_228)
  obtain ⟨c6, i6, hk6⟩ := u_known (C := RX6) (T := TX6) (N := 2) (n := 2) hzw inX6 (hzw _ q_204)
  obtain ⟨c7, i7, hk7⟩ := u_known (C := RX7) (T := TX7) (N := 17) (n := 17) hzw inX7 (hzw _ q_283)
  obtain ⟨c8, i8, hk8⟩ := u_known (C := RX8) (T := TX8) (N := 17) (n := 17) hzw inX8 (hzw _ q_486)
  obtain ⟨c9, i9, hk9⟩ := u_known (C := RX9) (T := TX9) (N := 4) (n := 4) hzw inX9 (hzw _ q_732)
  obtain ⟨c10, i10, hk10⟩ := u_known (C := RX10) (T := TX10) (N := 14) (n := 14) hzw inX10 (hzw _ q_604)
  obtain ⟨c11, i11, hk11⟩ := u_known (C := RX11) (T := TX11) (N := 16) (n := 16) hzw inX11 (hzw _ q_187)
  obtain ⟨c12, i12, hk12⟩ := u_known (C := RX12) (T := TX12) (N := 139) (n := 139) hzw inX12 (hzw _ q_1533)
  have hex : ∀ ci : Nat, ∃ q : ClassId × (Nat → Nat), ∀ w : vw_C, zcls[ci]? = some w → u_Kn s w.1 w.2.1 w.2.2 q.1 q.2 := by
    intro ci
    match ci with
    | 0 => exact ⟨(c0, i0), fun w hw => by cases hw; exact hk0⟩
    | 1 => exact ⟨(c1, i1), fun w hw => by cases hw; exact hk1⟩
    | 2 => exact ⟨(c2, i2), fun w hw => by cases hw; exact hk2⟩
    | 3 => exact ⟨(c3, i3), fun w hw => by cases hw; exact hk3⟩
    | 4 => exact ⟨(c4, i4), fun w hw => by cases hw; exact hk4⟩
    | 5 => exact ⟨(c5, i5), fun w hw => by cases hw; exact hk5⟩
    | 6 => exact ⟨(c6, i6), fun w hw => by cases hw; exact hk6⟩
    | 7 => exact ⟨(c7, i7), fun w hw => by cases hw; exact hk7⟩
    | 8 => exact ⟨(c8, i8), fun w hw => by cases hw; exact hk8⟩
    | 9 => exact ⟨(c9, i9), fun w hw => by cases hw; exact hk9⟩
    | 10 => exact ⟨(c10, i10), fun w hw => by cases hw; exact hk10⟩
    | 11 => exact ⟨(c11, i11), fun w hw => by cases hw; exact hk11⟩
    | 12 => exact ⟨(c12, i12), fun w hw => by cases hw; exact hk12⟩
    | n + 13 => exact ⟨(c0, i0), fun w hw => by simp [zcls] at hw⟩
  obtain ⟨f, hf⟩ := Classical.skolem.mp hex
  obtain ⟨cI, kI, pI, rI1, rI2, rI3⟩ := Cond.arrayClass_spec (hzw _ q_220)
  obtain ⟨cJ, kJ, pJ, rJ1, rJ2, rJ3⟩ := Cond.arrayClass_spec (hzw _ q_258)
  obtain ⟨cB, kB, pB, rB1, rB2, rB3⟩ := Cond.arrayClass_spec (hzw _ q_1087)
  obtain ⟨cZ, kZ, pZ, rZ1, rZ2, rZ3⟩ := Cond.arrayClass_spec (hzw _ q_1960)
  obtain ⟨pQ, cQ, kQ, rQ1, -, rQ2, rQ3, rQ4⟩ := Cond.arrayOver_spec (hts _ (zt_tbl1 _ (List.mem_append_right _ (List.mem_append_left _ (List.mem_of_getElem? (i := 205) rfl)))))
  have hA : ∀ a : Nat, a < s.heap.size → ¬ s.heap.size ≤ a := fun a h => Nat.not_le.mpr h
  obtain ⟨vf, hvf, hZF⟩ : ∃ vf : Value, (vf = .null ∨ ∃ t, vf = .ref t) ∧ va_Z "jdk/internal/util/Preconditions" "SIOOBE_FORMATTER" "Ljava/util/function/BiFunction;" vf (fun q => s.heap.size ≤ q) s s.heap := by
    rcases va_Zqof (A := fun q => s.heap.size ≤ q) (hts _ (zt_tbl1 _ (List.mem_append_right _ (List.mem_append_right _ (List.mem_append_right _ (List.mem_append_left _ (List.mem_of_getElem? (i := 39) rfl))))))) (hzw _ q_182) eF hA with h | ⟨t, h⟩
    · exact ⟨.null, Or.inl rfl, h⟩
    · exact ⟨.ref t, Or.inr ⟨t, rfl⟩, h⟩
  obtain ⟨ro, hro⟩ : ∃ ro : Nat → Nat, ro = fun c => if c = 1 then b else if c = 2 then t2 else if c = 3 then t3 else if c = 4 then t4 else if c < 10 then adK (c - 5) else if c < 15 then adV (c - 10) else b := ⟨_, rfl⟩
  have r1 : ro 1 = b := by rw [hro]; rfl
  have r2 : ro 2 = t2 := by rw [hro]; rfl
  have r3 : ro 3 = t3 := by rw [hro]; rfl
  have r4 : ro 4 = t4 := by rw [hro]; rfl
  have r5 : ∀ i, i < 5 → ro (5 + i) = adK i := fun i hi => by
    rw [hro]
    dsimp only
    rw [if_neg (by omega), if_neg (by omega), if_neg (by omega), if_neg (by omega), if_pos (by omega), show 5 + i - 5 = i by omega]
  have r10 : ∀ i, i < 5 → ro (10 + i) = adV i := fun i hi => by
    rw [hro]
    dsimp only
    rw [if_neg (by omega), if_neg (by omega), if_neg (by omega), if_neg (by omega), if_neg (by omega), if_pos (by omega), show 10 + i - 10 = i by omega]
  have aK : ∀ i, i < 5 → adK i < s.heap.size := fun i hi => by
    obtain ⟨⟨cell, q1, -⟩, -⟩ := hS.1 i hi
    exact (Array.getElem?_eq_some_iff.mp q1).1
  have aV : ∀ i, i < 5 → adV i < s.heap.size := fun i hi => by
    obtain ⟨-, -, -, cell, q1, -⟩ := hS.1 i hi
    exact (Array.getElem?_eq_some_iff.mp q1).1
  have rlt : ∀ c, c < 16 → ro c < s.heap.size := fun c hc => by
    rw [hro]
    dsimp only
    split
    · exact hbl
    · split
      · exact l2
      · split
        · exact l3
        · split
          · exact l4
          · split
            · exact aK _ (by omega)
            · split
              · exact aV _ (by omega)
              · exact hbl
  obtain ⟨G, hG⟩ : ∃ G : zG, G = ((s.heap.size, L, xs), ro, vf, (fun c => (f c).1, fun c => (f c).2), fun k => if k = 13 then cB else if k = 14 then cI else if k = 15 then cJ else if k = 16 then cZ else cQ) := ⟨_, rfl⟩
  have hR : zRep G s s.heap (zσ0 L xs) := by
    subst hG
    have hA2 : ∀ a : Nat, a < s.heap.size → ¬ zA ((s.heap.size, L, xs), ro, vf, (fun c => (f c).1, fun c => (f c).2), fun k => if k = 13 then cB else if k = 14 then cI else if k = 15 then cJ else if k = 16 then cZ else cQ) a := hA
    refine ⟨⟨fun ci w hw => hf ci w hw, fun k q hq => ?_⟩, (by intro k q hq; simp [zws, zσ0] at hq), Nat.le_refl _, sk_int, sk_z, ?_, fun c hc k => rfl, Nat.le_refl _⟩
    · have hk5 : k < 5 := (List.getElem?_eq_some_iff.mp hq).1
      obtain rfl | rfl | rfl | rfl | rfl : k = 0 ∨ k = 1 ∨ k = 2 ∨ k = 3 ∨ k = 4 := by omega
      · cases hq
        exact ⟨fun n z => ⟨(fun k h => by cases h), kB, rB2, pB, rB3⟩, rB1⟩
      · cases hq
        exact ⟨fun n z => ⟨(fun k h => by cases h), kI, rI2, pI, rI3⟩, rI1⟩
      · cases hq
        exact ⟨fun n z => ⟨(fun k h => by cases h), kJ, rJ2, pJ, rJ3⟩, rJ1⟩
      · cases hq
        exact ⟨fun n z => ⟨(fun k h => by cases h), kZ, rZ2, pZ, rZ3⟩, rZ1⟩
      · cases hq
        exact ⟨fun n z => ⟨(fun k h => by cases h), kQ, rQ2, pQ, rQ3⟩, kQ, pQ, rQ2, rQ3, rQ1, rQ4⟩
    · refine ⟨rlt, by show va_X (ro 1) L xs s s.heap; rw [r1]; exact hX, Nat.le_trans hL hN, fun c h2 h5 => ?_, by show va_Z _ _ _ (.ref (ro 2)) _ s s.heap; rw [r2]; exact va_Zref (hts _ (zt_tbl1 _ (List.mem_append_right _ (List.mem_append_right _ (List.mem_append_right _ (List.mem_append_right _ (List.mem_append_left _ (List.mem_of_getElem? (i := 118) rfl)))))))) (hzw _ q_166) e2 hA2, by show va_Z _ _ _ (.ref (ro 3)) _ s s.heap; rw [r3]; exact va_Zref (hts _ (zt_tbl1 _ (List.mem_append_right _ (List.mem_append_right _ (List.mem_append_right _ (List.mem_append_right _ (List.mem_append_left _ (List.mem_of_getElem? (i := 116) rfl)))))))) (hzw _ q_166) e3 hA2, by show va_Z _ _ _ (.ref (ro 4)) _ s s.heap; rw [r4]; exact va_Zref (hts _ (zt_tbl1 _ (List.mem_append_left _ (List.mem_of_getElem? (i := 30) rfl)))) (hzw _ q_166) e4 hA2, va_Zof (hts _ (zt_tbl1 _ (List.mem_append_right _ (List.mem_append_right _ (List.mem_append_right _ (List.mem_append_left _ (List.mem_of_getElem? (i := 23) rfl))))))) (hzw _ q_180) eC hA2, hZF, hvf, ?_, fun i hi => ?_, ⟨List.forall_mem_cons.mpr ⟨va_Nw.of rfl (hts _ (zt_tbl1 _ (List.mem_append_right _ (List.mem_append_left _ (List.mem_of_getElem? (i := 206) rfl))))), List.forall_mem_cons.mpr ⟨va_Nw.of rfl (hts _ (zt_tbl1 _ (List.mem_append_right _ (List.mem_append_right _ (List.mem_append_left _ (List.mem_of_getElem? (i := 119) rfl)))))), fun _ h => absurd h List.not_mem_nil⟩⟩, List.forall_mem_cons.mpr ⟨va_Nw.of rfl (hts _ (zt_tbl1 _ (List.mem_append_left _ (List.mem_of_getElem? (i := 40) rfl)))), List.forall_mem_cons.mpr ⟨va_Nw.of rfl (hts _ (zt_tbl1 _ (List.mem_append_left _ (List.mem_of_getElem? (i := 58) rfl)))), List.forall_mem_cons.mpr ⟨va_Nw.of rfl (hts _ (zt_tbl1 _ (List.mem_append_left _ (List.mem_of_getElem? (i := 119) rfl)))), List.forall_mem_cons.mpr ⟨va_Nw.of rfl (hts _ (zt_tbl1 _ (List.mem_append_right _ (List.mem_append_left _ (List.mem_of_getElem? (i := 208) rfl))))), List.forall_mem_cons.mpr ⟨va_Nw.of rfl (hts _ (zt_tbl1 _ (List.mem_append_right _ (List.mem_append_right _ (List.mem_append_right _ (List.mem_append_right _ (List.mem_append_left _ (List.mem_of_getElem? (i := 58) rfl)))))))), List.forall_mem_cons.mpr ⟨va_Nw.of rfl (hts _ (zt_tbl1 _ (List.mem_append_right _ (List.mem_append_right _ (List.mem_append_right _ (List.mem_append_right _ (List.mem_append_left _ (List.mem_of_getElem? (i := 89) rfl)))))))), List.forall_mem_cons.mpr ⟨va_Nw.of rfl (hts _ (zt_tbl1 _ (List.mem_append_right _ (List.mem_append_right _ (List.mem_append_right _ (List.mem_append_right _ (List.mem_append_right _ (List.mem_append_left _ (List.mem_of_getElem? (i := 2) rfl))))))))), List.forall_mem_cons.mpr ⟨va_Nw.of rfl (hts _ (zt_tbl1 _ (List.mem_append_right _ (List.mem_append_right _ (List.mem_append_right _ (List.mem_append_right _ (List.mem_append_right _ (List.mem_append_left _ (List.mem_of_getElem? (i := 74) rfl))))))))), List.forall_mem_cons.mpr ⟨va_Nw.of rfl (hts _ (zt_tbl1 _ (List.mem_append_right _ (List.mem_append_right _ (List.mem_append_right _ (List.mem_append_right _ (List.mem_append_right _ (List.mem_append_left _ (List.mem_of_getElem? (i := 97) rfl))))))))), List.forall_mem_cons.mpr ⟨va_Nw.of rfl (hts _ (zt_tbl1 _ (List.mem_append_right _ (List.mem_append_right _ (List.mem_append_right _ (List.mem_append_right _ (List.mem_append_right _ (List.mem_append_left _ (List.mem_of_getElem? (i := 160) rfl))))))))), fun _ h => absurd h List.not_mem_nil⟩⟩⟩⟩⟩⟩⟩⟩⟩⟩, va_Nw.of rfl (hts _ (zt_tbl1 _ (List.mem_append_left _ (List.mem_of_getElem? (i := 36) rfl)))), va_AO.of (hts _ (zt_tbl1 _ (List.mem_append_right _ (List.mem_append_left _ (List.mem_of_getElem? (i := 205) rfl)))))⟩, scr4, ?_, ?_⟩
      · obtain rfl | rfl | rfl : c = 2 ∨ c = 3 ∨ c = 4 := by omega
        · show va_X (ro 2) 4 _ s s.heap
          rw [r2]
          exact va_X_congr x2 (fun j hj => (sk_eq (L := L) (xs := xs) j hj).1)
        · show va_X (ro 3) 4 _ s s.heap
          rw [r3]
          exact va_X_congr x3 (fun j hj => (sk_eq (L := L) (xs := xs) j hj).2.1)
        · show va_X (ro 4) 4 _ s s.heap
          rw [r4]
          exact va_X_congr x4 (fun j hj => (sk_eq (L := L) (xs := xs) j hj).2.2)
      · refine ⟨fun i hi => ?_, fun i j hi hj q => hS.2 i j hi hj ?_⟩
        · show va_O _ (ro (5 + i)) _ s s.heap ∧ va_OF _ _ _ _ (ro (5 + i)) _ s s.heap ∧ va_OF _ _ _ (.ref (ro (10 + i))) (ro (5 + i)) _ s s.heap ∧ va_T _ (ro (10 + i)) _ _ _ s s.heap
          rw [r5 i hi, r10 i hi]
          exact hS.1 i hi
        · have q : ro (5 + i) = ro (5 + j) := q
          rw [r5 i hi, r5 j hj] at q
          exact q
      · show vk_R _ _ _ (ro (5 + i)) s
        rw [r5 i hi]
        have hk := hK i hi
        obtain rfl | rfl | rfl | rfl | rfl : i = 0 ∨ i = 1 ∨ i = 2 ∨ i = 3 ∨ i = 4 := by omega
        · exact vk_R.of (hts _ (zt_tbl1 _ (List.mem_append_right _ (List.mem_append_right _ (List.mem_append_right _ (List.mem_append_left _ (List.mem_of_getElem? (i := 10) rfl))))))) hk
        · exact vk_R.of (hts _ (zt_tbl1 _ (List.mem_append_right _ (List.mem_append_right _ (List.mem_append_right _ (List.mem_append_left _ (List.mem_of_getElem? (i := 62) rfl))))))) hk
        · exact vk_R.of (hts _ (zt_tbl1 _ (List.mem_append_right _ (List.mem_append_right _ (List.mem_append_right _ (List.mem_append_left _ (List.mem_of_getElem? (i := 63) rfl))))))) hk
        · exact vk_R.of (hts _ (zt_tbl1 _ (List.mem_append_right _ (List.mem_append_right _ (List.mem_append_right _ (List.mem_append_left _ (List.mem_of_getElem? (i := 64) rfl))))))) hk
        · exact vk_R.of (hts _ (zt_tbl1 _ (List.mem_append_right _ (List.mem_append_right _ (List.mem_append_right _ (List.mem_append_left _ (List.mem_of_getElem? (i := 65) rfl))))))) hk
      · show s.heap[ro 4]? = some scr4
        rw [r4]
        exact s4a
      · show scr4.cls = cI
        have e1 : "[" ++ FieldType.int.toString = "[I" := by decide +kernel
        rw [e1] at rI1
        exact Option.some.inj (s4b.symm.trans rI1)
  have hcv : zcv G (vR 1) = .ref b := by
    rw [zlow_cv (by omega) (by omega), hG]
    exact congrArg Value.ref r1
  have hbase : G.1.1 = s.heap.size := by rw [hG]
  have g := zsound (l := l) (G := G) (hO L xs hL) p e room_1 s m #[Value.ref b] below meth c s.heap [] _ ⟨hx, hb, hml, hown, hzw, hr, hlocks, fun q => absurd q (by decide +kernel)⟩ ⟨by decide +kernel, by decide +kernel, by decide +kernel, by decide +kernel⟩ hR va_S.rf (by rw [hbase]; rfl) (zlv_entry (n := 4) (a := [vR 1]) (zrep_vf hR) (by decide)) (Nat.zero_le _) (Nat.zero_le _) (fun v hv => by cases hv) (zent_ok (fun v hv => by cases hv with | head => trivial | tail _ h => cases h))
  rw [show ([vR 1] : List zV).map (zcv G) = [Value.ref b] by rw [List.map_cons, hcv]; rfl] at g
  rw [lg_entry_eq]
  intro T hT X
  obtain ⟨t, a1, oc, b1, b2, ⟨⟨r, σ', ho, hq, -⟩, -⟩, L', hF, hL'⟩ := g T hT X
  refine ⟨t, a1, oc, b1, b2, ?_, ?_⟩
  · rw [ho, hq]
    rfl
  · obtain ⟨f1, f2, g1, g2, g3, g4, g5, g6⟩ := hF
    refine ⟨f1, f2, g1, g2, Nat.le_trans g3 (by have h0 : (zmc 0).1 = 550 := (by decide +kernel); omega), g4, Nat.le_trans g5 (by have h0 : (zmc 0).2 = 400000 := (by decide +kernel); omega), fun a c hc => ?_⟩
    obtain ⟨c', q1, q2, q3, q4⟩ := g6 a c hc
    refine ⟨c', q1, q2, q3, fun i _ => q4 i (fun hm => ?_)⟩
    have w : G.1.1 ≤ a := hL' _ hm
    have w2 := (Array.getElem?_eq_some_iff.mp hc).1
    omega
