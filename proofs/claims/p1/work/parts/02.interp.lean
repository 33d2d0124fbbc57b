/-! A small machine of my own: its memory is numbered cells of numbers and references, the methods' code is lists of steps. What it does, the JVM does: shown in a later part. -/
abbrev zV : Type := Int ⊕ (Int ⊕ Nat)
abbrev zL : Type := List (Option zV)
/-- final references and rows of references; other references; numbers; the next new cell -/
abbrev zM : Type := (Nat → Nat → Nat) × (Nat → Nat → Nat) × (Nat → Int → Int) × Nat
abbrev zQ : Type := zM → Option zV → Prop
abbrev zC : Type := Nat → List zV → zM → zQ → Prop
abbrev zK : Type := Nat → Nat → Nat → zL → List zV → zM → Prop
abbrev zO : Type := zC → zK → zQ → Nat → Nat → zL → List zV → zM → Prop
abbrev vI (x : Int) : zV := .inl x
abbrev vJ (x : Int) : zV := .inr (.inl x)
abbrev vR (r : Nat) : zV := .inr (.inr r)
def w32 (x : Int) : Int := (x + 2147483648) % 4294967296 - 2147483648
def w64 (x : Int) : Int := (x + 9223372036854775808) % 18446744073709551616 - 9223372036854775808
def w8 (x : Int) : Int := (x + 128) % 256 - 128
def w16 (x : Int) : Int := x % 65536
def zand (x y : Int) : Int := (Int32.ofInt x &&& Int32.ofInt y).toInt
def zor (x y : Int) : Int := (Int32.ofInt x ||| Int32.ofInt y).toInt
def zshl (x y : Int) : Int := (Int32.ofInt x <<< (Int32.ofInt y &&& 31)).toInt
def zshr (x y : Int) : Int := (Int32.ofInt x >>> (Int32.ofInt y &&& 31)).toInt
def zushr (x y : Int) : Int := ((Int32.ofInt x).toUInt32 >>> ((Int32.ofInt y).toUInt32 &&& Int32.toUInt32 31)).toInt32.toInt
def zandL (x y : Int) : Int := (Int64.ofInt x &&& Int64.ofInt y).toInt
def zshrL (x y : Int) : Int := (Int64.ofInt x >>> ((Int32.ofInt y).toInt64 &&& 63)).toInt
def zdivL (x y : Int) : Int := (Int64.ofInt x / Int64.ofInt y).toInt
def zcmp (x y : Int) : Int := if x < y then -1 else if x = y then 0 else 1
def zup (M : Nat → Int → Int) (c : Nat) (k : Int) (v : Int) : Nat → Int → Int := fun c' k' => if c' = c ∧ k' = k then v else M c' k'
def zupN (M : Nat → Nat → Nat) (c k v : Nat) : Nat → Nat → Nat := fun c' k' => if c' = c ∧ k' = k then v else M c' k'
/-- cells a, from place p on so many, as cells b from place q on -/
def zcp (M : Nat → Int → Int) (a b : Nat) (p q n : Int) : Nat → Int → Int := fun c k => if c = a ∧ p ≤ k ∧ k < p + n then M b (q + (k - p)) else M c k
def zget (code : List (List zO)) (pc : Nat) (bad : zO) : zO := (code.getD (pc / 16) []).getD (pc % 16) bad
/-- locals: a value of one word, of two words -/
def zclr (ls : zL) (i : Nat) : zL := match i with
  | 0 => ls
  | j + 1 => match ls.getD j none with
    | some (.inr (.inl _)) => ls.set j none
    | _ => ls
def zst1 (ls : zL) (i : Nat) (v : zV) : zL := (zclr ls i).set i (some v)
def zst2 (ls : zL) (i : Nat) (v : zV) : zL := ((zclr ls i).set i (some v)).set (i + 1) none
def zslots : List zV → zL
  | [] => []
  | .inr (.inl x) :: r => some (.inr (.inl x)) :: none :: zslots r
  | v :: r => some v :: zslots r
def zent (n : Nat) (a : List zV) : zL := zslots a ++ List.replicate (n - (zslots a).length) none
def zcat (v : zV) : Nat := match v with
  | .inr (.inl _) => 2
  | _ => 1
def zwords (st : List zV) : Nat := (st.map zcat).sum
section Ops
-- the cells: their kinds and lengths
variable (shp : Nat → Nat × Nat)
def zis (nx c kd : Nat) : Bool := Nat.beq (shp c).1 kd && Nat.blt c nx
def zlen (M : Nat → Int → Int) (c : Nat) : Int := bif Nat.blt c 16 then M c (-1) else Int.ofNat (shp c).2
def o_getI (nx ci : Nat) (kk : Int) : zO := fun _ k _ uc us ls st (F, P, M, nn) => match st with
  | .inr (.inr c) :: st => zis shp nn c ci = true ∧ k uc us nx ls (vI (M c kk) :: st) (F, P, M, nn)
  | _ => False
def o_getJ (nx ci : Nat) (kk : Int) : zO := fun _ k _ uc us ls st (F, P, M, nn) => match st with
  | .inr (.inr c) :: st => zis shp nn c ci = true ∧ k uc us nx ls (vJ (M c kk) :: st) (F, P, M, nn)
  | _ => False
def o_getF (nx ci kk : Nat) : zO := fun _ k _ uc us ls st (F, P, M, nn) => match st with
  | .inr (.inr c) :: st => zis shp nn c ci = true ∧ Nat.blt 15 (F c kk) = true ∧ k uc us nx ls (vR (F c kk) :: st) (F, P, M, nn)
  | _ => False
def o_getP (nx ci kk : Nat) : zO := fun _ k _ uc us ls st (F, P, M, nn) => match st with
  | .inr (.inr c) :: st => zis shp nn c ci = true ∧ 15 < P c kk ∧ k uc us nx ls (vR (P c kk) :: st) (F, P, M, nn)
  | _ => False
def o_putI (nx ci : Nat) (kk : Int) : zO := fun _ k _ uc us ls st (F, P, M, nn) => match st with
  | .inl v :: .inr (.inr c) :: st => zis shp nn c ci = true ∧ k uc us nx ls st (F, P, zup M c kk v, nn)
  | _ => False
def o_putZ (nx ci : Nat) (kk : Int) : zO := fun _ k _ uc us ls st (F, P, M, nn) => match st with
  | .inl v :: .inr (.inr c) :: st => zis shp nn c ci = true ∧ (v = 0 ∨ v = 1) ∧ k uc us nx ls st (F, P, zup M c kk v, nn)
  | _ => False
def o_putJ (nx ci : Nat) (kk : Int) : zO := fun _ k _ uc us ls st (F, P, M, nn) => match st with
  | .inr (.inl v) :: .inr (.inr c) :: st => zis shp nn c ci = true ∧ k uc us nx ls st (F, P, zup M c kk v, nn)
  | _ => False
def o_putF (nx ci kk : Nat) : zO := fun _ k _ uc us ls st (F, P, M, nn) => match st with
  | .inr (.inr v) :: .inr (.inr c) :: st => zis shp nn c ci = true ∧ Nat.blt 15 v = true ∧ k uc us nx ls st (zupN F c kk v, P, M, nn)
  | _ => False
def o_putP (nx ci kk : Nat) : zO := fun _ k _ uc us ls st (F, P, M, nn) => match st with
  | .inr (.inr v) :: .inr (.inr c) :: st => zis shp nn c ci = true ∧ 15 < v ∧ k uc us nx ls st (F, zupN P c kk v, M, nn)
  | _ => False
/-- rows: kinds 13 bytes, 14 ints, 15 longs, 16 booleans, 17 references -/
def o_ald (nx kd : Nat) : zO := fun _ k _ uc us ls st (F, P, M, nn) => match st with
  | .inl i :: .inr (.inr c) :: st => zis shp nn c kd = true ∧ (0 ≤ i ∧ i < zlen shp M c) ∧ k uc us nx ls (vI (M c i) :: st) (F, P, M, nn)
  | _ => False
def o_lald (nx : Nat) : zO := fun _ k _ uc us ls st (F, P, M, nn) => match st with
  | .inl i :: .inr (.inr c) :: st => zis shp nn c 15 = true ∧ (0 ≤ i ∧ i < zlen shp M c) ∧ k uc us nx ls (vJ (M c i) :: st) (F, P, M, nn)
  | _ => False
def o_aald (nx : Nat) : zO := fun _ k _ uc us ls st (F, P, M, nn) => match st with
  | .inl i :: .inr (.inr c) :: st => zis shp nn c 17 = true ∧ (0 ≤ i ∧ i < zlen shp M c) ∧ 15 < F c i.toNat ∧ k uc us nx ls (vR (F c i.toNat) :: st) (F, P, M, nn)
  | _ => False
def o_iast (nx : Nat) : zO := fun _ k _ uc us ls st (F, P, M, nn) => match st with
  | .inl v :: .inl i :: .inr (.inr c) :: st => (zis shp nn c 14 && Nat.ble 16 c) = true ∧ (0 ≤ i ∧ i < zlen shp M c) ∧ k uc us nx ls st (F, P, zup M c i v, nn)
  | _ => False
def o_bast (nx : Nat) : zO := fun _ k _ uc us ls st (F, P, M, nn) => match st with
  | .inl v :: .inl i :: .inr (.inr c) :: st => (zis shp nn c 13 && Nat.ble 16 c) = true ∧ (0 ≤ i ∧ i < zlen shp M c) ∧ k uc us nx ls st (F, P, zup M c i (w8 v), nn)
  | _ => False
def o_zast (nx : Nat) : zO := fun _ k _ uc us ls st (F, P, M, nn) => match st with
  | .inl v :: .inl i :: .inr (.inr c) :: st => (zis shp nn c 16 && Nat.ble 16 c) = true ∧ (0 ≤ i ∧ i < zlen shp M c) ∧ (v = 0 ∨ v = 1) ∧ k uc us nx ls st (F, P, zup M c i v, nn)
  | _ => False
def o_last (nx : Nat) : zO := fun _ k _ uc us ls st (F, P, M, nn) => match st with
  | .inr (.inl v) :: .inl i :: .inr (.inr c) :: st => (zis shp nn c 15 && Nat.ble 16 c) = true ∧ (0 ≤ i ∧ i < zlen shp M c) ∧ k uc us nx ls st (F, P, zup M c i v, nn)
  | _ => False
def o_aast (nx : Nat) : zO := fun _ k _ uc us ls st (F, P, M, nn) => match st with
  | .inr (.inr v) :: .inl i :: .inr (.inr c) :: st => zis shp nn c 17 = true ∧ (0 ≤ i ∧ i < zlen shp M c) ∧ zis shp nn v 1 = true ∧ k uc us nx ls st (zupN F c i.toNat v, P, M, nn)
  | _ => False
def o_alen (nx kd : Nat) : zO := fun _ k _ uc us ls st (F, P, M, nn) => match st with
  | .inr (.inr c) :: st => zis shp nn c kd = true ∧ k uc us nx ls (vI (zlen shp M c) :: st) (F, P, M, nn)
  | _ => False
/-- new: its class, its fields; room of the method -/
def o_new (nx ci n mc ms : Nat) : zO := fun _ k _ uc us ls st (F, P, M, nn) => Nat.beq (shp nn).1 ci = true ∧ Nat.ble (uc + 1) mc = true ∧ Nat.ble (us + n) ms = true ∧ k (uc + 1) (us + n) nx ls (vR nn :: st) (F, P, M, nn + 1)
def o_newa (nx kd mc ms : Nat) : zO := fun _ k _ uc us ls st (F, P, M, nn) => match st with
  | .inl n :: st => Nat.beq (shp nn).1 kd = true ∧ n = Int.ofNat (shp nn).2 ∧ Nat.ble (uc + 1) mc = true ∧ us + (shp nn).2 ≤ ms ∧ k (uc + 1) (us + (shp nn).2) nx ls (vR nn :: st) (F, P, M, nn + 1)
  | _ => False
/-- clone of the constant row of four ints at cell 4 -/
def o_clone (nx mc ms : Nat) : zO := fun _ k _ uc us ls st (F, P, M, nn) => match st with
  | .inr (.inr c) :: st => Nat.ble (zwords st) 16 = true ∧ Nat.beq c 4 = true ∧ (Nat.beq (shp nn).1 14 && Nat.beq (shp nn).2 4) = true ∧ Nat.ble (uc + 1) mc = true ∧ Nat.ble (us + 4) ms = true ∧ k (uc + 1) (us + 4) nx ls (vR nn :: st) (F, P, zcp M nn 4 0 0 4, nn + 1)
  | _ => False
/-- System.arraycopy of ints (14), of longs (15) -/
def o_acp (nx kd : Nat) : zO := fun _ k _ uc us ls st (F, P, M, nn) => match st with
  | .inl n :: .inl q :: .inr (.inr b) :: .inl p :: .inr (.inr a) :: st => (zis shp nn a kd && Nat.ble 16 a) = true ∧ (zis shp nn b kd && Nat.ble 16 b) = true ∧ (0 ≤ n ∧ 0 ≤ p ∧ 0 ≤ q ∧ p + n ≤ zlen shp M a ∧ q + n ≤ zlen shp M b) ∧ k uc us nx ls st (F, P, zcp M b a q p n, nn)
  | _ => False
/-- checkcast of a row of ints -/
def o_castk (nx : Nat) : zO := fun _ k _ uc us ls st (F, P, M, nn) => match st with
  | .inr (.inr r) :: st => (zis shp nn r 14 && Nat.ble 16 r) = true ∧ k uc us nx ls (vR r :: st) (F, P, M, nn)
  | _ => False
def o_acpw (nx kd : Nat) : zO := fun call k Q uc us ls st σ => Nat.ble (zwords st) 16 = true ∧ o_acp shp nx kd call k Q uc us ls st σ
/-- a call: the method, how many values it takes, the kind of its first one (99: it has none), what it gives back (0 nothing, 1 an int, 2 a long), what it makes, room of the caller -/
def zback (rt : Nat) (k : List zV → zM → Prop) (rest : List zV) : zQ := fun σ r => match rt, r with
  | 0, none => k rest σ
  | 1, some (.inl x) => k (vI x :: rest) σ
  | 2, some (.inr (.inl x)) => k (vJ x :: rest) σ
  | _, _ => False
def zrecv (nx kd : Nat) (a : List zV) : Bool := bif Nat.beq kd 99 then true else match a with
  | .inr (.inr c) :: _ => zis shp nx c kd
  | _ => false
def zchk (nx n kd mx : Nat) (st : List zV) : Bool := Nat.ble n st.length && (Nat.ble (zwords (st.drop n)) 8 && (zrecv shp nx kd (st.take n).reverse && Nat.ble (zslots (st.take n).reverse).length mx))
def o_inv (nx mj n kd rt mx : Nat) : zO := fun call k _ uc us ls st (F, P, M, nn) => zchk shp nn n kd mx st = true ∧ call mj (st.take n).reverse (F, P, M, nn) (zback rt (fun st' σ' => k uc us nx ls st' σ') (st.drop n))
def o_inw (nx mj n kd rt mx mcj msj mc ms : Nat) : zO := fun call k _ uc us ls st (F, P, M, nn) => zchk shp nn n kd mx st = true ∧ Nat.ble (uc + mcj) mc = true ∧ Nat.ble (us + msj) ms = true ∧ call mj (st.take n).reverse (F, P, M, nn) (zback rt (fun st' σ' => k (uc + mcj) (us + msj) nx ls st' σ') (st.drop n))
end Ops
def o_bad : zO := fun _ _ _ _ _ _ _ _ => False
/-- Object's constructor -/
def o_obj (nx : Nat) : zO := fun _ k _ uc us ls st σ => match st with
  | .inr (.inr c) :: st => Nat.ble 16 c = true ∧ Nat.ble (zwords st) 8 = true ∧ k uc us nx ls st σ
  | _ => False
/-- a String's row of bytes, its coder -/
def o_strv (nx : Nat) : zO := fun _ k _ uc us ls st σ => match st with
  | .inr (.inr c) :: st => (Nat.ble 5 c && Nat.blt c 10) = true ∧ k uc us nx ls (vR (c + 5) :: st) σ
  | _ => False
def o_strc (nx : Nat) : zO := fun _ k _ uc us ls st σ => match st with
  | .inr (.inr c) :: st => (Nat.ble 5 c && Nat.blt c 10) = true ∧ k uc us nx ls (vI 0 :: st) σ
  | _ => False
def o_con (nx : Nat) (v : zV) : zO := fun _ k _ uc us ls st σ => k uc us nx ls (v :: st) σ
def o_iload (nx i : Nat) : zO := fun _ k _ uc us ls st σ => match ls.getD i none with
  | some (.inl x) => k uc us nx ls (vI x :: st) σ
  | _ => False
def o_lload (nx i : Nat) : zO := fun _ k _ uc us ls st σ => match ls.getD i none with
  | some (.inr (.inl x)) => k uc us nx ls (vJ x :: st) σ
  | _ => False
def o_aload (nx i : Nat) : zO := fun _ k _ uc us ls st σ => match ls.getD i none with
  | some (.inr (.inr x)) => Nat.beq x 15 = false ∧ k uc us nx ls (vR x :: st) σ
  | _ => False
def o_istore (nx i : Nat) : zO := fun _ k _ uc us ls st σ => match st with
  | .inl x :: st => k uc us nx (zst1 ls i (vI x)) st σ
  | _ => False
def o_lstore (nx i : Nat) : zO := fun _ k _ uc us ls st σ => match st with
  | .inr (.inl x) :: st => k uc us nx (zst2 ls i (vJ x)) st σ
  | _ => False
def o_astore (nx i : Nat) : zO := fun _ k _ uc us ls st σ => match st with
  | .inr (.inr x) :: st => Nat.beq x 15 = false ∧ k uc us nx (zst1 ls i (vR x)) st σ
  | _ => False
def o_iinc (nx i : Nat) (n : Int) : zO := fun _ k _ uc us ls st σ => match ls.getD i none with
  | some (.inl x) => k uc us nx (zst1 ls i (vI (w32 (x + n)))) st σ
  | _ => False
def o_dup (nx : Nat) : zO := fun _ k _ uc us ls st σ => match st with
  | .inl x :: st => k uc us nx ls (vI x :: vI x :: st) σ
  | .inr (.inr r) :: st => k uc us nx ls (vR r :: vR r :: st) σ
  | _ => False
/-- dup2 of a row and a place -/
def o_dup2 (nx : Nat) : zO := fun _ k _ uc us ls st σ => match st with
  | .inl x :: .inr (.inr r) :: st => k uc us nx ls (vI x :: vR r :: vI x :: vR r :: st) σ
  | _ => False
def o_pop (nx : Nat) : zO := fun _ k _ uc us ls st σ => match st with
  | .inl _ :: st => k uc us nx ls st σ
  | _ => False
def o_ii (f : Int → Int → Int) (nx : Nat) : zO := fun _ k _ uc us ls st σ => match st with
  | .inl y :: .inl x :: st => k uc us nx ls (vI (f x y) :: st) σ
  | _ => False
def o_jj (f : Int → Int → Int) (nx : Nat) : zO := fun _ k _ uc us ls st σ => match st with
  | .inr (.inl y) :: .inr (.inl x) :: st => k uc us nx ls (vJ (f x y) :: st) σ
  | _ => False
def o_iadd : Nat → zO := o_ii fun x y => w32 (x + y)
def o_isub : Nat → zO := o_ii fun x y => w32 (x - y)
def o_imul : Nat → zO := o_ii fun x y => w32 (x * y)
def o_iand : Nat → zO := o_ii zand
def o_ior : Nat → zO := o_ii zor
def o_ishl : Nat → zO := o_ii zshl
def o_ishr : Nat → zO := o_ii zshr
def o_iushr : Nat → zO := o_ii zushr
def o_ladd : Nat → zO := o_jj fun x y => w64 (x + y)
def o_lsub : Nat → zO := o_jj fun x y => w64 (x - y)
def o_lmul : Nat → zO := o_jj fun x y => w64 (x * y)
def o_land : Nat → zO := o_jj zandL
def o_ldiv (nx : Nat) : zO := fun _ k _ uc us ls st σ => match st with
  | .inr (.inl y) :: .inr (.inl x) :: st => ¬ y = 0 ∧ k uc us nx ls (vJ (zdivL x y) :: st) σ
  | _ => False
def o_lshr (nx : Nat) : zO := fun _ k _ uc us ls st σ => match st with
  | .inl y :: .inr (.inl x) :: st => k uc us nx ls (vJ (zshrL x y) :: st) σ
  | _ => False
def o_lcmp (nx : Nat) : zO := fun _ k _ uc us ls st σ => match st with
  | .inr (.inl y) :: .inr (.inl x) :: st => k uc us nx ls (vI (zcmp x y) :: st) σ
  | _ => False
def o_i2l (nx : Nat) : zO := fun _ k _ uc us ls st σ => match st with
  | .inl x :: st => k uc us nx ls (vJ x :: st) σ
  | _ => False
def o_l2i (nx : Nat) : zO := fun _ k _ uc us ls st σ => match st with
  | .inr (.inl x) :: st => k uc us nx ls (vI (w32 x) :: st) σ
  | _ => False
def o_i2b (nx : Nat) : zO := fun _ k _ uc us ls st σ => match st with
  | .inl x :: st => k uc us nx ls (vI (w8 x) :: st) σ
  | _ => False
def o_i2c (nx : Nat) : zO := fun _ k _ uc us ls st σ => match st with
  | .inl x :: st => k uc us nx ls (vI (w16 x) :: st) σ
  | _ => False
def o_if1 (p : Int → Prop) (nx tg : Nat) : zO := fun _ k _ uc us ls st σ => match st with
  | .inl x :: st => (p x → k uc us tg ls st σ) ∧ (¬ p x → k uc us nx ls st σ)
  | _ => False
def o_if2 (p : Int → Int → Prop) (nx tg : Nat) : zO := fun _ k _ uc us ls st σ => match st with
  | .inl y :: .inl x :: st => (p x y → k uc us tg ls st σ) ∧ (¬ p x y → k uc us nx ls st σ)
  | _ => False
def o_ifeq : Nat → Nat → zO := o_if1 fun x => x = 0
def o_ifne : Nat → Nat → zO := o_if1 fun x => ¬ x = 0
def o_iflt : Nat → Nat → zO := o_if1 fun x => x < 0
def o_ifge : Nat → Nat → zO := o_if1 fun x => 0 ≤ x
def o_ifgt : Nat → Nat → zO := o_if1 fun x => 0 < x
def o_ifle : Nat → Nat → zO := o_if1 fun x => x ≤ 0
def o_icmpeq : Nat → Nat → zO := o_if2 fun x y => x = y
def o_icmpne : Nat → Nat → zO := o_if2 fun x y => ¬ x = y
def o_icmplt : Nat → Nat → zO := o_if2 fun x y => x < y
def o_icmpge : Nat → Nat → zO := o_if2 fun x y => y ≤ x
def o_icmpgt : Nat → Nat → zO := o_if2 fun x y => y < x
def o_icmple : Nat → Nat → zO := o_if2 fun x y => x ≤ y
def o_goto (tg : Nat) : zO := fun _ k _ uc us ls st σ => k uc us tg ls st σ
def zsw (x : Int) (k : Nat → Prop) : List (Int × Nat) → Prop
  | [] => True
  | q :: r => (x = q.1 → k q.2) ∧ zsw x k r
def zsn (x : Int) : List (Int × Nat) → Prop
  | [] => True
  | q :: r => ¬ x = q.1 ∧ zsn x r
def o_sw (ps : List (Int × Nat)) (df : Nat) : zO := fun _ k _ uc us ls st σ => match st with
  | .inl x :: st => zsw x (fun t => k uc us t ls st σ) ps ∧ (zsn x ps → k uc us df ls st σ)
  | _ => False
def o_iret : zO := fun _ _ Q _ _ _ st σ => match st with
  | [.inl x] => Q σ (some (vI x))
  | _ => False
/-- of a boolean, a byte, a char -/
def o_zret : zO := fun _ _ Q _ _ _ st σ => match st with
  | [.inl x] => (x = 0 ∨ x = 1) ∧ Q σ (some (vI x))
  | _ => False
def o_bret : zO := fun _ _ Q _ _ _ st σ => match st with
  | [.inl x] => (-128 ≤ x ∧ x < 128) ∧ Q σ (some (vI x))
  | _ => False
def o_cret : zO := fun _ _ Q _ _ _ st σ => match st with
  | [.inl x] => (0 ≤ x ∧ x < 65536) ∧ Q σ (some (vI x))
  | _ => False
def o_lret : zO := fun _ _ Q _ _ _ st σ => match st with
  | [.inr (.inl x)] => Q σ (some (vJ x))
  | _ => False
def o_ret : zO := fun _ _ Q _ _ _ st σ => match st with
  | [] => Q σ none
  | _ => False
/-- ends of methods that make cells: so many -/
def o_zretm (mc : Nat) : zO := fun call k Q uc us ls st σ => Nat.beq uc mc = true ∧ o_zret call k Q uc us ls st σ
def o_retm (mc : Nat) : zO := fun call k Q uc us ls st σ => Nat.beq uc mc = true ∧ o_ret call k Q uc us ls st σ
section Fix
variable (mt : Nat → List (List zO)) (ent : Nat → List zV → zL)
abbrev zX : Type := Nat → Nat → Nat → Nat → Nat → zL → List zV → zM → zQ → Prop
def zT (X : zX) : zX := fun d mi uc us pc ls st σ Q => ∃ (call : zC) (k : zK), (∀ mj a σ' Q', call mj a σ' Q' → ∃ d', d = d' + 1 ∧ X d' mj 0 0 0 (ent mj a) [] σ' Q') ∧ (∀ uc' us' pc' ls' st' σ', k uc' us' pc' ls' st' σ' → X d mi uc' us' pc' ls' st' σ' Q) ∧ zget (mt mi) pc o_bad call k Q uc us ls st σ
/-- from that place the method comes to its end, and Q holds there -/
def zW : zX := fun d mi uc us pc ls st σ Q => ∀ X : zX, (∀ d mi uc us pc ls st σ Q, zT mt ent X d mi uc us pc ls st σ Q → X d mi uc us pc ls st σ Q) → X d mi uc us pc ls st σ Q
def zWc (d mj : Nat) (a : List zV) (σ : zM) (Q : zQ) : Prop := ∃ d', d = d' + 1 ∧ zW mt ent d' mj 0 0 0 (ent mj a) [] σ Q
theorem zW_step {d mi uc us pc : Nat} {ls : zL} {st : List zV} {σ : zM} {Q : zQ} (h : zT mt ent (zW mt ent) d mi uc us pc ls st σ Q) : zW mt ent d mi uc us pc ls st σ Q := by
  intro X hX
  obtain ⟨call, k, h1, h2, h3⟩ := h
  refine hX _ _ _ _ _ _ _ _ _ ⟨call, k, fun mj a σ' Q' hc => ?_, fun uc' us' pc' ls' st' σ' hk => h2 _ _ _ _ _ _ hk X hX, h3⟩
  obtain ⟨d', e, h⟩ := h1 mj a σ' Q' hc
  exact ⟨d', e, h X hX⟩
/-- so many steps at once, up to places to stop at -/
def zB (stops : List Nat) (code : List (List zO)) (d mi : Nat) (Q : zQ) : Nat → Nat → Nat → Nat → zL → List zV → zM → Prop := fun j => Nat.rec (motive := fun _ => Nat → Nat → Nat → zL → List zV → zM → Prop)
  (fun uc us pc ls st σ => zW mt ent d mi uc us pc ls st σ Q)
  (fun _ ih uc us pc ls st σ => zget code pc o_bad (zWc mt ent d) (fun uc us pc ls st σ => bif stops.elem pc then zW mt ent d mi uc us pc ls st σ Q else ih uc us pc ls st σ) Q uc us ls st σ) j
theorem zB_ok {stops : List Nat} {code : List (List zO)} {d mi : Nat} {Q : zQ} (hc : mt mi = code) (j : Nat) : ∀ {uc us pc : Nat} {ls : zL} {st : List zV} {σ : zM}, zB mt ent stops code d mi Q j uc us pc ls st σ → zW mt ent d mi uc us pc ls st σ Q := by
  induction j with
  | zero => intro uc us pc ls st σ h; exact h
  | succ j ih =>
    intro uc us pc ls st σ h
    refine zW_step mt ent ⟨zWc mt ent d, fun uc us pc ls st σ => bif stops.elem pc then zW mt ent d mi uc us pc ls st σ Q else zB mt ent stops code d mi Q j uc us pc ls st σ, fun mj a σ' Q' hc => hc, fun uc' us' pc' ls' st' σ' hk => ?_, by rw [hc]; exact h⟩
    dsimp only at hk
    cases hs : stops.elem pc' with
    | true => rw [hs] at hk; exact hk
    | false => rw [hs] at hk; exact ih hk
end Fix
