/-! The nodes of a tree in order, and the calls that are left (no machine in it) -/
/-- a list written into a row from a on -/
def zlst (f : Int → Int) (a : Int) : List Int → Int → Int
  | [] => f
  | x :: l => zlst (zs f a x) (a + 1) l
/-- the places of a list's members, from a on -/
def znum (f : Int → Int) (a : Int) : List Int → Int → Int
  | [] => f
  | x :: l => znum (zs f x a) (a + 1) l
def lmax (dp : Int → Int) (m : Int) : List Int → Int
  | [] => m
  | x :: l => lmax dp (if m < dp x then dp x else m) l
theorem zlst_app (l m : List Int) : ∀ (f : Int → Int) (a : Int), zlst f a (l ++ m) = zlst (zlst f a l) (a + l.length) m := by
  induction l with
  | nil => intro f a; show zlst f a m = zlst f (a + ((0 : Nat) : Int)) m; rw [show a + ((0 : Nat) : Int) = a by omega]
  | cons x l ih => intro f a; show zlst (zs f a x) (a + 1) (l ++ m) = zlst (zlst (zs f a x) (a + 1) l) (a + ((l.length + 1 : Nat) : Int)) m; rw [ih, show a + 1 + (l.length : Int) = a + ((l.length + 1 : Nat) : Int) by omega]
theorem znum_app (l m : List Int) : ∀ (f : Int → Int) (a : Int), znum f a (l ++ m) = znum (znum f a l) (a + l.length) m := by
  induction l with
  | nil => intro f a; show znum f a m = znum f (a + ((0 : Nat) : Int)) m; rw [show a + ((0 : Nat) : Int) = a by omega]
  | cons x l ih => intro f a; show znum (zs f x a) (a + 1) (l ++ m) = znum (znum (zs f x a) (a + 1) l) (a + ((l.length + 1 : Nat) : Int)) m; rw [ih, show a + 1 + (l.length : Int) = a + ((l.length + 1 : Nat) : Int) by omega]
theorem lmax_app (dp : Int → Int) (l m : List Int) : ∀ (x : Int), lmax dp x (l ++ m) = lmax dp (lmax dp x l) m := by
  induction l with
  | nil => intro x; rfl
  | cons y l ih => intro x; exact ih _
theorem zlst_out (l : List Int) : ∀ (f : Int → Int) (a k : Int), (k < a ∨ a + l.length ≤ k) → zlst f a l k = f k := by
  induction l with
  | nil => intro f a k _; rfl
  | cons x l ih =>
    intro f a k h
    have h : k < a ∨ a + ((l.length + 1 : Nat) : Int) ≤ k := h
    show zlst (zs f a x) (a + 1) l k = f k
    rw [ih (zs f a x) (a + 1) k (by omega), zs_neg (by omega)]
theorem zlst_in (l : List Int) : ∀ (f : Int → Int) (a : Int) (i : Nat), i < l.length → zlst f a l (a + i) = l.getD i 0 := by
  induction l with
  | nil => intro f a i h; exact absurd h (Nat.not_lt_zero i)
  | cons x l ih =>
    intro f a i h
    show zlst (zs f a x) (a + 1) l (a + i) = (x :: l).getD i 0
    cases i with
    | zero => rw [zlst_out l _ _ _ (by omega), zs_pos (by omega)]; rfl
    | succ i =>
      rw [show a + ((i + 1 : Nat) : Int) = a + 1 + (i : Int) by omega, ih (zs f a x) (a + 1) i (by exact Nat.lt_of_succ_lt_succ h)]
      rfl
def tkids (K : Int → Int) (R N : Int → List Int) (a : Int) : Nat → List Int
  | 0 => []
  | m + 1 => tkids K R N a m ++ (if K (a + m) = 0 then N (a + m) else R (a + m))
def tpre (A T : Nat → Int → Int) (K : Int → Int) : Nat → Int → List Int
  | 0, _ => []
  | n + 1, c => c :: tkids K (tpre A T K n) (fun _ => []) (T 5 c) (A 1 (T 2 c)).toNat
def tlft (A T : Nat → Int → Int) (K : Int → Int) : Nat → Int → List Int
  | 0, _ => []
  | n + 1, c => tkids K (tlft A T K n) (fun e => [e]) (T 5 c) (A 1 (T 2 c)).toNat
/-- a node and all nodes below it, in order -/
def tPre (A T : Nat → Int → Int) (c : Int) : List Int := tpre A T (tkp A T) (33 - T 3 c).toNat c
/-- calls left at a node and below it, in order -/
def tLft (A T : Nat → Int → Int) (c : Int) : List Int := tlft A T (tkp A T) (33 - T 3 c).toNat c
theorem tkids_congr {K : Int → Int} {R R' N : Int → List Int} {a : Int} : ∀ (m : Nat), (∀ j : Int, 0 ≤ j → j < m → R (a + j) = R' (a + j)) → tkids K R N a m = tkids K R' N a m := by
  intro m
  induction m with
  | zero => intro _; rfl
  | succ m ih =>
    intro h
    show tkids K R N a m ++ (if K (a + m) = 0 then N (a + m) else R (a + m)) = tkids K R' N a m ++ (if K (a + m) = 0 then N (a + m) else R' (a + m))
    rw [ih (fun j p q => h j p (by omega)), h m (by omega) (by omega)]
theorem tPre_eq {A T : Nat → Int → Int} {nF nS c : Int} (h : tInv A T nF nS) (c0 : 0 ≤ c) (c1 : c < T 8 0) (ci : T 6 c = 1) : tPre A T c = c :: tkids (tkp A T) (tPre A T) (fun _ => []) (T 5 c) (A 1 (T 2 c)).toNat := by
  obtain ⟨⟨⟨p1, p2⟩, p3⟩, _, p4⟩ := h.2.2.2.2.2.1 c c0 c1 ci
  have d := tWT_d h.1 c0 c1
  unfold tPre
  obtain ⟨n, hn⟩ : ∃ n : Nat, (33 - T 3 c).toNat = n + 1 := ⟨(32 - T 3 c).toNat, by omega⟩
  rw [hn]
  show c :: tkids (tkp A T) (tpre A T (tkp A T) n) (fun _ => []) (T 5 c) (A 1 (T 2 c)).toNat = _
  congr 1
  refine tkids_congr _ (fun j a b => ?_)
  have q := p3 j a (by omega)
  have w := h.1.2 (T 5 c + j) (by omega) (by omega)
  rw [q.1] at w
  show tpre A T (tkp A T) n (T 5 c + j) = tpre A T (tkp A T) (33 - T 3 (T 5 c + j)).toNat (T 5 c + j)
  rw [show (33 - T 3 (T 5 c + j)).toNat = n by omega]
theorem tLft_eq {A T : Nat → Int → Int} {nF nS c : Int} (h : tInv A T nF nS) (c0 : 0 ≤ c) (c1 : c < T 8 0) (ci : T 6 c = 1) : tLft A T c = tkids (tkp A T) (tLft A T) (fun e => [e]) (T 5 c) (A 1 (T 2 c)).toNat := by
  obtain ⟨⟨⟨p1, p2⟩, p3⟩, _, p4⟩ := h.2.2.2.2.2.1 c c0 c1 ci
  have d := tWT_d h.1 c0 c1
  unfold tLft
  obtain ⟨n, hn⟩ : ∃ n : Nat, (33 - T 3 c).toNat = n + 1 := ⟨(32 - T 3 c).toNat, by omega⟩
  rw [hn]
  show tkids (tkp A T) (tlft A T (tkp A T) n) (fun e => [e]) (T 5 c) (A 1 (T 2 c)).toNat = _
  refine tkids_congr _ (fun j a b => ?_)
  have q := p3 j a (by omega)
  have w := h.1.2 (T 5 c + j) (by omega) (by omega)
  rw [q.1] at w
  show tlft A T (tkp A T) n (T 5 c + j) = tlft A T (tkp A T) (33 - T 3 (T 5 c + j)).toNat (T 5 c + j)
  rw [show (33 - T 3 (T 5 c + j)).toNat = n by omega]
theorem tkids_suc {K : Int → Int} {R N : Int → List Int} {a k : Int} (h : a ≤ k) : tkids K R N a (k + 1 - a).toNat = tkids K R N a (k - a).toNat ++ (if K k = 0 then N k else R k) := by
  obtain ⟨m, hm⟩ : ∃ m : Nat, k = a + m := ⟨(k - a).toNat, by omega⟩
  rw [show (k + 1 - a).toNat = m + 1 by omega, show (k - a).toNat = m by omega, hm]
  rfl
theorem tkids_len {K : Int → Int} {R N : Int → List Int} {a : Int} (n : Nat) : ∀ (m : Nat), (tkids K R N a n).length ≤ (tkids K R N a (n + m)).length := by
  intro m
  induction m with
  | zero => exact Nat.le_refl _
  | succ m ih =>
    show _ ≤ (tkids K R N a (n + m) ++ (if K (a + (n + m : Nat)) = 0 then N (a + (n + m : Nat)) else R (a + (n + m : Nat)))).length
    rw [List.length_append]
    omega
theorem tkids_le {K : Int → Int} {R N : Int → List Int} {a k n : Int} (h : a ≤ k) (hk : k < a + n) : (tkids K R N a (k - a).toNat).length + (if K k = 0 then N k else R k).length ≤ (tkids K R N a n.toNat).length := by
  have e := tkids_suc (K := K) (R := R) (N := N) h
  have l := tkids_len (K := K) (R := R) (N := N) (a := a) (k + 1 - a).toNat (n.toNat - (k + 1 - a).toNat)
  rw [show (k + 1 - a).toNat + (n.toNat - (k + 1 - a).toNat) = n.toNat by omega, e, List.length_append] at l
  exact l
theorem tkids_nsum {K : Int → Int} {R N : Int → List Int} {a : Int} : ∀ (m : Nat), ((tkids K R N a m).length : Int) = nsum (fun i => ((if K (a + i) = 0 then N (a + i) else R (a + i)).length : Int)) m := by
  intro m
  induction m with
  | zero => rfl
  | succ m ih =>
    show ((tkids K R N a m ++ (if K (a + m) = 0 then N (a + m) else R (a + m))).length : Int) = nsum (fun i => ((if K (a + i) = 0 then N (a + i) else R (a + i)).length : Int)) m + ((if K (a + m) = 0 then N (a + m) else R (a + m)).length : Int)
    rw [List.length_append, ← ih]
    omega
theorem tkp_op {A T : Nat → Int → Int} {nF nS x : Int} (h : tInv A T nF nS) (x0 : 0 ≤ x) (x1 : x < T 8 0) (hk : ¬ tkp A T x = 0) : T 6 x = 1 := by
  by_cases e : x = 0
  · rw [e]; exact h.2.2.2.1.1
  · unfold tkp at hk
    rw [if_neg e] at hk
    by_cases y : T 6 x = 1
    · exact y
    · rw [if_neg y] at hk; exact absurd rfl hk
theorem tst_kp {A T : Nat → Int → Int} {nF nS x : Int} (h : tInv A T nF nS) (x0 : 0 ≤ x) (x1 : x < T 8 0) (hs : tst A T x = 1) : ¬ tkp A T x = 0 := by
  by_cases e : x = 0
  · rw [e]; unfold tkp; rw [if_pos rfl]; decide
  · rw [tst_up h (by omega) x1] at hs
    intro z
    rw [if_pos z] at hs
    exact absurd hs (by decide)
theorem tst_par {A T : Nat → Int → Int} {nF nS x : Int} (h : tInv A T nF nS) (x0 : 1 ≤ x) (x1 : x < T 8 0) (hs : tst A T x = 1) : tst A T (T 0 x) = 1 := by
  have k := tst_kp h (by omega) x1 hs
  rw [tst_up h x0 x1, if_neg k] at hs
  exact hs
theorem tst_kid {A T : Nat → Int → Int} {nF nS x c : Int} (h : tInv A T nF nS) (x0 : 1 ≤ x) (x1 : x < T 8 0) (hx : T 0 x = c) (hc : tst A T c = 1) : tst A T x = tkp A T x := by
  rw [tst_up h x0 x1, hx, hc]
  rcases tkp_01 A T x with z | z
  · rw [if_pos z, z]
  · rw [z]; rfl
/-- how many nodes -/
theorem tPre_len {A T : Nat → Int → Int} {nF nS : Int} (hg : tPg A nF nS) (h : tInv A T nF nS) : ((tPre A T 0).length : Int) = 1 + tsum (fun x => if tst A T x = 1 then 1 else 0) (T 8 0 - 1).toNat := by
  refine tForest (q := tst A T) (F := fun c => ((tPre A T c).length : Int)) (own := fun _ => 1) h (fun x a b s => tst_par h a b s) (fun c a b s => ?_) (tst_0 h)
  have ci := tkp_op h a b (tst_kp h a b s)
  obtain ⟨r1, _⟩ := h.2.2.1 c a b
  obtain ⟨⟨g1, g2, g3⟩, _, _⟩ := hg.2.1 (T 2 c) r1.1 r1.2
  show ((tPre A T c).length : Int) = 1 + _
  rw [tPre_eq h a b ci, List.length_cons, tsum_kids (q := tst A T) (f := fun e => ((tPre A T e).length : Int)) hg h a b ci]
  have e : ((tkids (tkp A T) (tPre A T) (fun _ => []) (T 5 c) (A 1 (T 2 c)).toNat).length : Int) = nsum (fun i => if tst A T (T 5 c + i) = 1 then ((tPre A T (T 5 c + i)).length : Int) else 0) (A 1 (T 2 c)).toNat := by
    rw [tkids_nsum]
    refine nsum_congr _ (fun i i0 i1 => ?_)
    have kd := tkid (k := T 5 c + i) h a b ci (by omega) (by omega)
    have sk := tst_kid h kd.1 kd.2.1 kd.2.2.2.1 s
    show ((if tkp A T (T 5 c + i) = 0 then ([] : List Int) else tPre A T (T 5 c + i)).length : Int) = _
    rw [sk]
    rcases tkp_01 A T (T 5 c + i) with z | z
    · rw [if_pos z, if_neg (by rw [z]; decide)]; rfl
    · rw [if_neg (by rw [z]; decide), if_pos z]
  omega
theorem tPre_few {A T : Nat → Int → Int} {nF nS : Int} (hg : tPg A nF nS) (h : tInv A T nF nS) : ((tPre A T 0).length : Int) ≤ T 8 0 := by
  rw [tPre_len hg h]
  have b1 := h.2.1.1
  have t := tsum_le (f := fun x => if tst A T x = 1 then 1 else 0) (T 8 0 - 1).toNat (fun k _ _ => by show 0 ≤ (if tst A T k = 1 then (1 : Int) else 0) ∧ (if tst A T k = 1 then (1 : Int) else 0) ≤ 1; split <;> omega)
  omega
theorem tsum_swap {f : Int → Int → Int} (m : Nat) : ∀ (n : Nat), tsum (fun c => tsum (fun e => f c e) m) n = tsum (fun e => tsum (fun c => f c e) n) m := by
  intro n
  induction n with
  | zero => exact (tsum_nil m (fun _ _ _ => rfl)).symm
  | succ n ih =>
    show tsum (fun c => tsum (fun e => f c e) m) n + tsum (fun e => f (n + 1) e) m = tsum (fun e => tsum (fun c => f c e) n + f (n + 1) e) m
    rw [ih, tsum_add]
theorem tsum_one {f : Int → Int} {a v : Int} (n : Nat) (h : ∀ k : Int, 1 ≤ k → k ≤ n → f k = if k = a then v else 0) : tsum f n = if 1 ≤ a ∧ a ≤ n then v else 0 := by
  by_cases y : 1 ≤ a ∧ a ≤ n
  · rw [if_pos y, tsum_congr (g := zs (fun _ => 0) a v) n (fun k k1 k2 => by rw [h k k1 k2]; unfold zs; rfl), tsum_zs n y.1 y.2, tsum_nil n (fun _ _ _ => rfl)]; omega
  · rw [if_neg y]
    exact tsum_nil n (fun k k1 k2 => by rw [h k k1 k2, if_neg (by omega)])
/-- how many calls are left -/
theorem tLft_len {A T : Nat → Int → Int} {nF nS : Int} (hg : tPg A nF nS) (h : tInv A T nF nS) : ((tLft A T 0).length : Int) = tsum (fun x => if tst A T x = 0 ∧ tst A T (T 0 x) = 1 then 1 else 0) (T 8 0 - 1).toNat := by
  have b1 := h.2.1.1
  have z := tForest (q := tst A T) (F := fun c => ((tLft A T c).length : Int)) (own := fun c => tsum (fun e => if tst A T e = 0 ∧ T 0 e = c then 1 else 0) (T 8 0 - 1).toNat) h (fun x a b s => tst_par h a b s) (fun c a b s => ?_) (tst_0 h)
  · have z : ((tLft A T 0).length : Int) = tsum (fun e => if tst A T e = 0 ∧ T 0 e = 0 then 1 else 0) (T 8 0 - 1).toNat + tsum (fun x => if tst A T x = 1 then tsum (fun e => if tst A T e = 0 ∧ T 0 e = x then 1 else 0) (T 8 0 - 1).toNat else 0) (T 8 0 - 1).toNat := z
    have e1 : tsum (fun x => if tst A T x = 1 then tsum (fun e => if tst A T e = 0 ∧ T 0 e = x then 1 else 0) (T 8 0 - 1).toNat else 0) (T 8 0 - 1).toNat = tsum (fun x => tsum (fun e => if tst A T x = 1 ∧ tst A T e = 0 ∧ T 0 e = x then 1 else 0) (T 8 0 - 1).toNat) (T 8 0 - 1).toNat := by
      refine tsum_congr _ (fun x _ _ => ?_)
      show (if tst A T x = 1 then tsum (fun e => if tst A T e = 0 ∧ T 0 e = x then 1 else 0) (T 8 0 - 1).toNat else 0) = tsum (fun e => if tst A T x = 1 ∧ tst A T e = 0 ∧ T 0 e = x then 1 else 0) (T 8 0 - 1).toNat
      by_cases y : tst A T x = 1
      · rw [if_pos y]
        exact tsum_congr _ (fun e _ _ => by
          show (if tst A T e = 0 ∧ T 0 e = x then (1 : Int) else 0) = if tst A T x = 1 ∧ tst A T e = 0 ∧ T 0 e = x then 1 else 0
          by_cases w : tst A T e = 0 ∧ T 0 e = x
          · rw [if_pos w, if_pos ⟨y, w⟩]
          · rw [if_neg w, if_neg (fun q => by exact w q.2)])
      · rw [if_neg y]
        exact (tsum_nil _ (fun e _ _ => if_neg (fun q => by exact y q.1))).symm
    rw [z, e1, tsum_swap, ← tsum_add]
    refine tsum_congr _ (fun e e1 e2 => ?_)
    have w := h.1.2 e e1 (by omega)
    show (if tst A T e = 0 ∧ T 0 e = 0 then (1 : Int) else 0) + tsum (fun c => if tst A T c = 1 ∧ tst A T e = 0 ∧ T 0 e = c then 1 else 0) (T 8 0 - 1).toNat = _
    rw [tsum_one (a := T 0 e) (v := if tst A T e = 0 ∧ tst A T (T 0 e) = 1 then 1 else 0) _ (fun k k1 k2 => by
      show (if tst A T k = 1 ∧ tst A T e = 0 ∧ T 0 e = k then (1 : Int) else 0) = _
      by_cases q : k = T 0 e
      · rw [if_pos q, q]
        by_cases y : tst A T e = 0 ∧ tst A T (T 0 e) = 1
        · rw [if_pos ⟨y.2, y.1, rfl⟩, if_pos y]
        · rw [if_neg (fun u => by exact y ⟨u.2.1, u.1⟩), if_neg y]
      · rw [if_neg q, if_neg (fun u => by exact q u.2.2.symm)])]
    by_cases q : T 0 e = 0
    · rw [q, tst_0 h, if_neg (show ¬ ((1 : Int) ≤ 0 ∧ (0 : Int) ≤ (((T 8 0 - 1).toNat : Nat) : Int)) by omega)]
      by_cases y : tst A T e = 0
      · rw [if_pos ⟨y, rfl⟩, if_pos ⟨y, rfl⟩]; rfl
      · rw [if_neg (fun u => by exact y u.1), if_neg (fun u => by exact y u.1)]; rfl
    · rw [if_neg (fun u => by exact q u.2), if_pos (by omega)]; omega
  · have ci := tkp_op h a b (tst_kp h a b s)
    obtain ⟨r1, _⟩ := h.2.2.1 c a b
    obtain ⟨⟨g1, g2, g3⟩, _, _⟩ := hg.2.1 (T 2 c) r1.1 r1.2
    show ((tLft A T c).length : Int) = tsum (fun e => if tst A T e = 0 ∧ T 0 e = c then 1 else 0) (T 8 0 - 1).toNat + _
    have e0 : tsum (fun e => if tst A T e = 0 ∧ T 0 e = c then (1 : Int) else 0) (T 8 0 - 1).toNat = tsum (fun e => if (1 - tst A T e) = 1 ∧ T 0 e = c then (fun _ => (1 : Int)) e else 0) (T 8 0 - 1).toNat := tsum_congr _ (fun e _ _ => by
      show (if tst A T e = 0 ∧ T 0 e = c then (1 : Int) else 0) = if (1 - tst A T e) = 1 ∧ T 0 e = c then 1 else 0
      by_cases y : tst A T e = 0 ∧ T 0 e = c
      · rw [if_pos y, if_pos ⟨by omega, y.2⟩]
      · rw [if_neg y, if_neg (fun u => by exact y ⟨by omega, u.2⟩)])
    rw [tLft_eq h a b ci, e0, tsum_kids (q := fun e => 1 - tst A T e) (f := fun _ => 1) hg h a b ci, tsum_kids (q := tst A T) (f := fun e => ((tLft A T e).length : Int)) hg h a b ci, tkids_nsum]
    have nadd : ∀ (f g : Int → Int) (n : Nat), nsum f n + nsum g n = nsum (fun i => f i + g i) n := by
      intro f g n
      induction n with
      | zero => rfl
      | succ n ih => show nsum f n + f n + (nsum g n + g n) = nsum (fun i => f i + g i) n + (f n + g n); rw [← ih]; omega
    rw [nadd]
    refine nsum_congr _ (fun i i0 i1 => ?_)
    have kd := tkid (k := T 5 c + i) h a b ci (by omega) (by omega)
    have sk := tst_kid h kd.1 kd.2.1 kd.2.2.2.1 s
    show ((if tkp A T (T 5 c + i) = 0 then [T 5 c + i] else tLft A T (T 5 c + i)).length : Int) = (if (1 - tst A T (T 5 c + i)) = 1 then (1 : Int) else 0) + (if tst A T (T 5 c + i) = 1 then ((tLft A T (T 5 c + i)).length : Int) else 0)
    rw [sk]
    rcases tkp_01 A T (T 5 c + i) with z | z
    · rw [if_pos z, z]; rfl
    · rw [if_neg (by rw [z]; decide), z]; show _ = 0 + _; rw [if_pos rfl]; omega
theorem tLft_few {A T : Nat → Int → Int} {nF nS : Int} (hg : tPg A nF nS) (h : tInv A T nF nS) : ((tLft A T 0).length : Int) ≤ T 8 0 := by
  rw [tLft_len hg h]
  have b1 := h.2.1.1
  have t := tsum_le (f := fun x => if tst A T x = 0 ∧ tst A T (T 0 x) = 1 then 1 else 0) (T 8 0 - 1).toNat (fun k _ _ => by show 0 ≤ (if tst A T k = 0 ∧ tst A T (T 0 k) = 1 then (1 : Int) else 0) ∧ (if tst A T k = 0 ∧ tst A T (T 0 k) = 1 then (1 : Int) else 0) ≤ 1; split <;> omega)
  omega
