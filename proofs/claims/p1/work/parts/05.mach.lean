/-! The small machine's cells in the JVM's heap. -/
-- numbers
def in32 (x : Int) : Prop := -2147483648 ≤ x ∧ x < 2147483648
def in64 (x : Int) : Prop := -9223372036854775808 ≤ x ∧ x < 9223372036854775808
theorem w32_in (x : Int) : in32 (w32 x) := by unfold in32 w32; omega
theorem w64_in (x : Int) : in64 (w64 x) := by unfold in64 w64; omega
theorem w32_id {x : Int} (h : in32 x) : w32 x = x := by unfold in32 at h; unfold w32; omega
theorem w64_id {x : Int} (h : in64 x) : w64 x = x := by unfold in64 at h; unfold w64; omega
theorem i_ti {x : Int} (h : in32 x) : (Int32.ofInt x).toInt = x := Int32.toInt_ofInt_of_le h.1 h.2
theorem j_ti {x : Int} (h : in64 x) : (Int64.ofInt x).toInt = x := Int64.toInt_ofInt_of_le h.1 h.2
theorem i_in (x : Int32) : in32 x.toInt := ⟨Int32.le_toInt x, Int32.toInt_lt x⟩
theorem j_in (x : Int64) : in64 x.toInt := ⟨Int64.le_toInt x, Int64.toInt_lt x⟩
theorem i_w (x : Int) : Int32.ofInt (w32 x) = Int32.ofInt x := by
  rw [Int32.ofInt_eq_iff_bmod_eq_toInt, Int32.toInt_ofInt]
  unfold w32
  simp only [Int32.size]
  simp only [Int.bmod]
  omega
theorem j_w (x : Int) : Int64.ofInt (w64 x) = Int64.ofInt x := by
  rw [Int64.ofInt_eq_iff_bmod_eq_toInt, Int64.toInt_ofInt]
  unfold w64
  simp only [Int64.size]
  simp only [Int.bmod]
  omega
theorem i_lt {x y : Int} (hx : in32 x) (hy : in32 y) : Int32.ofInt x < Int32.ofInt y ↔ x < y := by rw [Int32.lt_iff_toInt_lt, i_ti hx, i_ti hy]
theorem i_le {x y : Int} (hx : in32 x) (hy : in32 y) : Int32.ofInt x ≤ Int32.ofInt y ↔ x ≤ y := by rw [Int32.le_iff_toInt_le, i_ti hx, i_ti hy]
theorem i_eq {x y : Int} (hx : in32 x) (hy : in32 y) : Int32.ofInt x = Int32.ofInt y ↔ x = y := by rw [← Int32.toInt_inj, i_ti hx, i_ti hy]
theorem j_lt {x y : Int} (hx : in64 x) (hy : in64 y) : Int64.ofInt x < Int64.ofInt y ↔ x < y := by rw [Int64.lt_iff_toInt_lt, j_ti hx, j_ti hy]
theorem j_eq {x y : Int} (hx : in64 x) (hy : in64 y) : Int64.ofInt x = Int64.ofInt y ↔ x = y := by rw [← Int64.toInt_inj, j_ti hx, j_ti hy]
theorem i_0 : in32 0 := by unfold in32; omega
theorem i_z (x : Int) : (Int32.ofInt 0 : Int32) = 0 := rfl
/-- base, length of the script, the script; where the cells below 16 lie; what stands for cell 15; classes; rows' classes by their kinds -/
abbrev zG : Type := (Nat × Nat × (Nat → Int32)) × (Nat → Nat) × Value × va_G × (Nat → ClassId)
def zloc (G : zG) (c : Nat) : Nat := if c < 16 then G.2.1 c else G.1.1 + (c - 16)
def zcv (G : zG) (v : zV) : Value := match v with
  | .inl x => .int (Int32.ofInt x)
  | .inr (.inl x) => .long (Int64.ofInt x)
  | .inr (.inr r) => if r = 15 then G.2.2.1 else .ref (zloc G r)
def zok (v : zV) : Prop := match v with
  | .inl x => in32 x
  | .inr (.inl x) => in64 x
  | .inr (.inr _) => True
def zrf (G : zG) (r : Nat) : Option Nat := if r = 0 then none else some (zloc G r)
def zfv (G : zG) (σ : zM) (c t k : Nat) : Value := match t with
  | 2 => .long (Int64.ofInt (σ.2.2.1 c k))
  | 8 => va_rf (zrf G (σ.1 c k))
  | 9 => va_rf (zrf G (σ.2.1 c k))
  | _ => .int (Int32.ofInt (σ.2.2.1 c k))
def zfs (G : zG) (σ : zM) (c ci : Nat) : List Value := (List.range (zfn ci)).map (fun k => zfv G σ c (zfty ci k) k)
def zcell (G : zG) (σ : zM) (c : Nat) : va_E :=
  if (zshp c).1 < 13 then .inr ((zshp c).1, zfs G σ c (zshp c).1)
  else if (zshp c).1 = 15 then .inl (G.2.2.2.2 15, (zshp c).2, .inr (.inl (fun j => Int64.ofInt (σ.2.2.1 c j))))
  else if (zshp c).1 = 17 then .inl (G.2.2.2.2 17, (zshp c).2, .inr (.inr (.inr (.inr (fun j => zrf G (σ.1 c j))))))
  else .inl (G.2.2.2.2 (zshp c).1, (zshp c).2, .inl (fun j => Int32.ofInt (σ.2.2.1 c j)))
def zws (G : zG) (σ : zM) : va_W := (List.range (σ.2.2.2 - 16)).map (fun j => (G.1.1 + j, zcell G σ (16 + j)))
def ztys (G : zG) : List (ClassId × FieldType) := [(G.2.2.2.2 13, .byte), (G.2.2.2.2 14, .int), (G.2.2.2.2 15, .long), (G.2.2.2.2 16, .boolean), (G.2.2.2.2 17, .object "CallOpener$Call")]
def zA (G : zG) : Nat → Prop := fun q => G.1.1 ≤ q
/-- what kind of number a place holds: 0 an int, 1 a boolean, 2 a long, 3 a byte -/
def zty (c : Nat) (k : Int) : Nat :=
  if (zshp c).1 < 13 then zfty (zshp c).1 k.toNat else if (zshp c).1 = 13 then 3 else if (zshp c).1 = 15 then 2 else if (zshp c).1 = 16 then 1 else 0
def zin (t : Nat) (x : Int) : Prop := match t with
  | 1 => x = 0 ∨ x = 1
  | 2 => in64 x
  | 3 => -128 ≤ x ∧ x < 128
  | _ => in32 x
theorem zin_32 {t : Nat} {x : Int} (ht : ¬ t = 2) (h : zin t x) : in32 x := by
  unfold zin at h
  split at h
  · unfold in32; omega
  · exact absurd rfl ht
  · unfold in32; omega
  · exact h
theorem zin_0 (t : Nat) : zin t 0 := by
  unfold zin
  split
  · exact Or.inl rfl
  · unfold in64; omega
  · omega
  · unfold in32; omega
def zrg (M : Nat → Int → Int) : Prop := ∀ (c : Nat) (k : Int), 0 ≤ k → zin (zty c k) (M c k)
/-- nothing stands in cells that are not made -/
def zz (σ : zM) : Prop := ∀ c : Nat, σ.2.2.2 ≤ c → (∀ k, σ.1 c k = 0) ∧ (∀ k, σ.2.1 c k = 0) ∧ ∀ k, σ.2.2.1 c k = 0
/-- the constant cells -/
def zM0 (G : zG) (c : Nat) (k : Int) : Int := match c with
  | 1 => if k = -1 then (G.1.2.1 : Int) else if 0 ≤ k ∧ k < G.1.2.1 then (G.1.2.2 k.toNat).toInt else 0
  | 2 => if k = -1 then 4 else if k = 1 then 1 else 0
  | 3 => if k = -1 then 4 else if k = 0 then 300 else if k = 1 then 50 else if k = 2 then 3 else if k = 3 then 500 else 0
  | 4 => if k = -1 then 4 else if k = 0 then 100 else if k = 1 then 10 else if k = 2 then 1 else if k = 3 then 100 else 0
  | 10 => if k = -1 then 3 else ([102, 117, 110] : List Int).getD k.toNat 0
  | 11 => if k = -1 then 2 else ([105, 102] : List Int).getD k.toNat 0
  | 12 => if k = -1 then 4 else ([101, 108, 115, 101] : List Int).getD k.toNat 0
  | 13 => if k = -1 then 4 else ([108, 111, 111, 112] : List Int).getD k.toNat 0
  | 14 => if k = -1 then 4 else ([103, 105, 118, 101] : List Int).getD k.toNat 0
  | _ => 0
def zstrs : List (List Int32) := [[102, 117, 110], [105, 102], [101, 108, 115, 101], [108, 111, 111, 112], [103, 105, 118, 101]]
def ztx : List (Nat × String) := [(101, "fun"), (107, "if"), (109, "else"), (111, "loop"), (113, "give")]
/-- links among nest mates -/
def znF : List (String × Nat × String × String × String × String) := [("CallOpener$Tree", 24, "CallOpener", "SETTING_FIRST", "[I", "CallOpener"), ("CallOpener$Best", 40, "CallOpener", "SETTING_FIRST", "[I", "CallOpener")]
def znM : List (String × Nat × MethodName × String) := [("CallOpener", 36, ⟨"CallOpener$Profile", "<init>", "()V"⟩, "CallOpener"), ("CallOpener", 43, ⟨"CallOpener$Known", "<init>", "()V"⟩, "CallOpener"), ("CallOpener", 57, ⟨"CallOpener$Program", "<init>", "()V"⟩, "CallOpener"), ("CallOpener$Tree", 34, ⟨"CallOpener$Call", "<init>", "()V"⟩, "CallOpener"), ("CallOpener$Machine", 165, ⟨"CallOpener", "isVariable", "(I)Z"⟩, "CallOpener"), ("CallOpener$Machine", 158, ⟨"CallOpener", "workOut", "(III)I"⟩, "CallOpener"), ("CallOpener$Result", 131, ⟨"CallOpener", "isVariable", "(I)Z"⟩, "CallOpener"), ("CallOpener$Known", 103, ⟨"CallOpener", "isVariable", "(I)Z"⟩, "CallOpener"), ("CallOpener$Known", 110, ⟨"CallOpener", "workOut", "(III)I"⟩, "CallOpener"), ("CallOpener$Program", 77, ⟨"CallOpener", "exchange", "([III)V"⟩, "CallOpener")]
def zNest (s : State) : Prop := (∀ q ∈ znF, va_Nw (.fieldLinkNest q.1 q.2.1 q.2.2.1 q.2.2.2.1 q.2.2.2.2.1 q.2.2.2.2.2) s) ∧ (∀ q ∈ znM, va_Nw (.methodLinkNest q.1 q.2.1 q.2.2.1 q.2.2.2) s) ∧ va_Nw (.castable "[I" "java/lang/Cloneable") s ∧ va_AO "CallOpener$Call" s
def zRO (G : zG) (s : State) (H : Heap) : Prop :=
  (∀ c, c < 16 → G.2.1 c < G.1.1) ∧ va_X (G.2.1 1) G.1.2.1 G.1.2.2 s H ∧ G.1.2.1 ≤ 3072 ∧
  (∀ c, 2 ≤ c → c < 5 → va_X (G.2.1 c) 4 (fun j => Int32.ofInt (zM0 G c j)) s H) ∧
  va_Z "CallOpener" "SETTING_LEAST" "[I" (.ref (G.2.1 2)) (zA G) s H ∧ va_Z "CallOpener" "SETTING_MOST" "[I" (.ref (G.2.1 3)) (zA G) s H ∧ va_Z "CallOpener" "SETTING_FIRST" "[I" (.ref (G.2.1 4)) (zA G) s H ∧
  va_Z "java/lang/String" "COMPACT_STRINGS" "Z" (.int 1) (zA G) s H ∧ va_Z "jdk/internal/util/Preconditions" "SIOOBE_FORMATTER" "Ljava/util/function/BiFunction;" G.2.2.1 (zA G) s H ∧ (G.2.2.1 = .null ∨ ∃ t, G.2.2.1 = .ref t) ∧
  vk_S 5 [3, 2, 4, 4, 4] zstrs (fun i => G.2.1 (5 + i)) (fun i => G.2.1 (10 + i)) (zA G) s H ∧
  (∀ i, i < 5 → vk_R "CallOpener$Reader" (ztx.getD i (0, "")).1 (ztx.getD i (0, "")).2 (G.2.1 (5 + i)) s) ∧ zNest s ∧ (∃ scr : Cell, H[G.2.1 4]? = some scr ∧ scr.cls = G.2.2.2.2 14)
def zRep (G : zG) (s : State) (H : Heap) (σ : zM) : Prop :=
  va_K G.2.2.2.1 zcls (ztys G) s ∧ va_P G.2.2.2.1 zcls (zws G σ) H ∧ 16 ≤ σ.2.2.2 ∧ zrg σ.2.2.1 ∧ zz σ ∧ zRO G s H ∧ (∀ c, c < 16 → ∀ k, σ.2.2.1 c k = zM0 G c k) ∧ G.1.1 ≤ s.heap.size
/-- a method's activation -/
def zIn (mi : Nat) (p : Program) (s : State) (m : MethodId) (args : Array Value) (meth : Method) (c : Code) : Prop :=
  p.tables.exec = Jvm.exec ∧ c.code = zby mi ∧ c.maxLocals = zmx mi ∧ s.vm.findClass (zyn mi).cls = some m.cls ∧ (∀ w ∈ zwd, w.before args s = true) ∧ meth.sig.returnType = zrt mi ∧ meth.locks = false ∧ ((zyn mi).name = "<init>" → meth.name = "<init>")
def zfit (R : Room) (d mi : Nat) : Prop := (zmc mi).1 ≤ R.cells ∧ (zmc mi).2 ≤ R.slots ∧ d + 1 ≤ R.frames ∧ 64 + 64 * d ≤ R.locals
def zlv (G : zG) (la : Array Slot) (n : Nat) (ls : zL) : Prop := la.size = n ∧ ls.length = n ∧ lv_wf la ∧ ∀ (i : Nat) (v : zV), ls[i]? = some (some v) → la[i]? = some (.val (zcv G v))
def zQc (G : zG) (mi : Nat) (Q : zQ) : Array Value → State → Outcome → State → Prop := fun _ st oc t =>
  (∃ (r : Option zV) (σ : zM), oc = .returned (r.map (zcv G)) ∧ Q σ r ∧ (∀ v, r = some v → zok v) ∧ zRep G t t.heap σ ∧ t.heap.size + 16 = G.1.1 + σ.2.2.2 ∧ t.heap.size = st.heap.size + (zmc mi).1) ∧ va_F (zA G) st t
def zGo (l : Launch) (G : zG) (d mi uc us pc : Nat) (ls : zL) (st : List zV) (σ : zM) (Q : zQ) : Prop :=
  ∀ (p : Program) (e : Env) (R : Room) (s : State) (m : MethodId) (args : Array Value) (below : List Frame) (meth : Method) (c : Code) (H : Heap) (locs : List Loc) (la : Array Slot),
    zIn mi p s m args meth c → zfit R d mi → zRep G s H σ → va_S (zA G) s.heap H locs → s.heap.size + uc + 16 = G.1.1 + σ.2.2.2 → zlv G la (zmx mi) ls → uc ≤ (zmc mi).1 → us ≤ (zmc mi).2 → (∀ v ∈ st, zok v) → (∀ v, some v ∈ ls → zok v) →
    W p l e R s m args below meth c H locs uc us (MQ below (zQc G mi Q) args s (zmc mi).1 (zmc mi).2 (zA G)) (F0 m pc la (st.map (zcv G)))
/-- a step is sound at a place of a method -/
def zSnd (l : Launch) (G : zG) (mi pc : Nat) (op : zO) : Prop :=
  ∀ (d uc us : Nat) (call : zC) (k : zK) (Q : zQ) (ls : zL) (st : List zV) (σ : zM), op call k Q uc us ls st σ →
    (∀ mj a σ' Q', call mj a σ' Q' → ∃ d', d = d' + 1 ∧ zGo l G d' mj 0 0 0 (zen mj a) [] σ' Q') →
    (∀ uc' us' pc' ls' st' σ', k uc' us' pc' ls' st' σ' → zGo l G d mi uc' us' pc' ls' st' σ' Q) → zGo l G d mi uc us pc ls st σ Q
