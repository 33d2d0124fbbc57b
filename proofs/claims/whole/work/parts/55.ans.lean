/-! What is asked of a tree -/
theorem ltake_suc : ∀ (L : List Int) (i : Nat), i < L.length → L.take (i + 1) = L.take i ++ [L.getD i 0] := by
  intro L
  induction L with
  | nil => intro i h; exact absurd h (Nat.not_lt_zero i)
  | cons x L ih =>
    intro i h
    cases i with
    | zero => rfl
    | succ i =>
      show x :: L.take (i + 1) = x :: (L.take i ++ [L.getD i 0])
      rw [ih i (Nat.lt_of_succ_lt_succ h)]
theorem ltake_all (L : List Int) (n : Nat) (h : L.length ≤ n) : L.take n = L := List.take_of_length_le h
theorem lmax_congr {f g : Int → Int} : ∀ (L : List Int) (m : Int), (∀ x : Int, x ∈ L → f x = g x) → lmax f m L = lmax g m L := by
  intro L
  induction L with
  | nil => intro m _; rfl
  | cons x L ih =>
    intro m h
    show lmax f (if m < f x then f x else m) L = lmax g (if m < g x then g x else m) L
    rw [h x List.mem_cons_self, ih _ (fun y hy => h y (List.mem_cons_of_mem x hy))]
theorem znum_congr : ∀ (L : List Int) (f g : Int → Int) (a x : Int), x ∈ L ∨ f x = g x → znum f a L x = znum g a L x := by
  intro L
  induction L with
  | nil => intro f g a x h; rcases h with h | h; exact absurd h (List.not_mem_nil); exact h
  | cons y L ih =>
    intro f g a x h
    show znum (zs f y a) (a + 1) L x = znum (zs g y a) (a + 1) L x
    refine ih _ _ _ _ ?_
    by_cases e : x = y
    · right; rw [zs_pos e, zs_pos e]
    · rcases h with h | h
      · rcases List.mem_cons.mp h with h | h
        · exact absurd h e
        · exact Or.inl h
      · right; rw [zs_neg e, zs_neg e]; exact h
theorem tkids_mem {K : Int → Int} {R N : Int → List Int} {a x : Int} : ∀ (m : Nat), x ∈ tkids K R N a m ↔ ∃ j : Int, 0 ≤ j ∧ j < m ∧ x ∈ (if K (a + j) = 0 then N (a + j) else R (a + j)) := by
  intro m
  induction m with
  | zero => constructor
            · intro h; exact absurd h (List.not_mem_nil)
            · rintro ⟨j, j0, j1, _⟩; omega
  | succ m ih =>
    show x ∈ tkids K R N a m ++ (if K (a + m) = 0 then N (a + m) else R (a + m)) ↔ _
    rw [List.mem_append, ih]
    constructor
    · rintro (⟨j, j0, j1, h⟩ | h)
      · exact ⟨j, j0, by omega, h⟩
      · exact ⟨m, by omega, by omega, h⟩
    · rintro ⟨j, j0, j1, h⟩
      by_cases e : j = m
      · subst e; exact Or.inr h
      · exact Or.inl ⟨j, j0, by omega, h⟩
section
variable {A T : Nat → Int → Int} {nF nS : Int}
theorem tPre_st (hg : tPg A nF nS) (h : tInv A T nF nS) : ∀ (n : Nat) (c x : Int), 0 ≤ c → c < T 8 0 → tst A T c = 1 → x ∈ tpre A T (tkp A T) n c → 0 ≤ x ∧ x < T 8 0 ∧ tst A T x = 1 := by
  intro n
  induction n with
  | zero => intro c x _ _ _ hx; exact absurd hx (List.not_mem_nil)
  | succ n ih =>
    intro c x c0 c1 cs hx
    have hx : x ∈ c :: tkids (tkp A T) (tpre A T (tkp A T) n) (fun _ => []) (T 5 c) (A 1 (T 2 c)).toNat := hx
    rcases List.mem_cons.mp hx with e | e
    · rw [e]; exact ⟨c0, c1, cs⟩
    · obtain ⟨j, j0, j1, hj⟩ := (tkids_mem _).mp e
      have ci := tkp_op h c0 c1 (tst_kp h c0 c1 cs)
      have kd := tkid (k := T 5 c + j) h c0 c1 ci (by omega) (by omega)
      by_cases q : tkp A T (T 5 c + j) = 0
      · rw [if_pos q] at hj; exact absurd hj (List.not_mem_nil)
      · rw [if_neg q] at hj
        have s : tst A T (T 5 c + j) = 1 := by
          rw [tst_kid h kd.1 kd.2.1 kd.2.2.2.1 cs]
          rcases tkp_01 A T (T 5 c + j) with z | z
          · exact absurd z q
          · exact z
        exact ih (T 5 c + j) x (by omega) kd.2.1 s hj
theorem tPre_in (hg : tPg A nF nS) (h : tInv A T nF nS) {x : Int} (hx : x ∈ tPre A T 0) : 0 ≤ x ∧ x < T 8 0 ∧ tst A T x = 1 := by
  have b1 := h.2.1.1
  exact tPre_st hg h _ 0 x (by decide) (by omega) (tst_0 h) hx
theorem tPre_all (hg : tPg A nF nS) (h : tInv A T nF nS) : ∀ (n : Nat) (x : Int), 0 ≤ x → x < T 8 0 → x < n → tst A T x = 1 → x ∈ tPre A T 0 := by
  have b1 := h.2.1.1
  have i0 := h.2.2.2.1.1
  -- below a node that is in the list, all nodes
  have sub : ∀ (m : Nat) (c x : Int), 0 ≤ c → c < T 8 0 → tst A T c = 1 → 0 ≤ x → x < T 8 0 → tst A T x = 1 → tdes (T 0) (T 3) c x → (T 3 x - T 3 c).toNat ≤ m → x ∈ tPre A T c := by
    intro m
    induction m with
    | zero =>
      intro c x c0 c1 cs x0 x1 xs hd hm
      have e := hd.2
      rw [show (T 3 x - T 3 c).toNat = 0 by omega] at e
      have e : x = c := e
      rw [e, tPre_eq h c0 c1 (tkp_op h c0 c1 (tst_kp h c0 c1 cs))]
      exact List.mem_cons_self
    | succ m ih =>
      intro c x c0 c1 cs x0 x1 xs hd hm
      have ci := tkp_op h c0 c1 (tst_kp h c0 c1 cs)
      rw [tPre_eq h c0 c1 ci]
      by_cases e : x = c
      · rw [e]; exact List.mem_cons_self
      · obtain ⟨y, y0, y1, yu, yd⟩ := tdes_kid h.1 c0 c1 x0 x1 hd e
        have q := h.2.2.2.2.1 y y0 y1
        rw [yu] at q
        have q2 := q.2.1
        have q3 := q.2.2.1
        have w := h.1.2 y y0 y1
        rw [yu] at w
        have dd := yd.1
        -- y is a node: it is on the path of x
        have ys : tst A T y = 1 := by
          have up : ∀ (k : Nat) (z : Int), 0 ≤ z → z < T 8 0 → (k : Int) ≤ T 3 z → tst A T z = 1 → tst A T (tanc (T 0) k z) = 1 := by
            intro k
            induction k with
            | zero => intro z _ _ _ hz; exact hz
            | succ k ik =>
              intro z z0 z1 zk hz
              have dz := tWT_d h.1 z0 z1
              have wz := h.1.2 z (by omega) z1
              exact ik (T 0 z) wz.1 (by omega) (by omega) (tst_par h (by omega) z1 hz)
          have dy := tWT_d h.1 (k := y) (by omega) y1
          have u := up (T 3 x - T 3 y).toNat x x0 x1 (by omega) xs
          rw [yd.2] at u
          exact u
        refine List.mem_cons_of_mem c ((tkids_mem _).mpr ⟨y - T 5 c, by omega, by omega, ?_⟩)
        rw [show T 5 c + (y - T 5 c) = y by omega, if_neg (tst_kp h (by omega) y1 ys)]
        exact ih y x (by omega) y1 ys x0 x1 xs yd (by omega)
  intro n x x0 x1 _ xs
  exact sub _ 0 x (by decide) (by omega) (tst_0 h) x0 x1 xs (tdes_0 h.1 x0 x1) (Nat.le_refl _)
end
def tAns (A T : Nat → Int → Int) (w : Int) : Int := if w = 0 then ((tPre A T 0).length : Int) else if w = 1 then T 8 2 else if w = 2 then w32 (tV A T 0 4) else if w = 3 then w32 (tV A T 0 3) else if w = 4 then w32 (T 8 1 - tV A T 0 5) else if w = 5 then lmax (T 3) 0 (tPre A T 0) else if w = 6 then ((tLft A T 0).length : Int) else -1
theorem tRel_ans {ρ : Int → Int} {A B T U : Nat → Int → Int} {nF nS : Int} (hg : tPg B nF nS) (hd : dRel ρ A B nF nS) (hI : tInv B U nF nS) (hr : tRel ρ T U) (w : Int) : tAns A T w = tAns B U w := by
  have b1 := hI.2.1.1
  have e := tRel_Pre hg hd hI hr
  have v := tRel_V hg hd hI hr (c := 0) (by decide) (by omega) hI.2.2.2.1.1
  unfold tAns
  rw [e.1, e.2, v, hr.1.2.1, hr.1.2.2, lmax_congr (f := T 3) (g := U 3) (tPre B U 0) 0 (fun x hx => (hr.2 x (tPre_in hg hI hx).1 (by rw [hr.1.1]; exact (tPre_in hg hI hx).2.1)).2.2.2.1)]
set_option maxRecDepth 1000000 in
set_option maxHeartbeats 4000000 in
theorem deepest_m_L4 {d : Nat} {P : Nat → Nat → Nat} {M : Nat → Int → Int} {Q : zQ} (L : List Int) (n0 : Int → Int) (hn : (M 532) = zlst n0 0 L) (hc : (M 467 94) = (L.length : Int)) (hb : ∀ xj : Nat, xj < L.length → 0 ≤ L.getD xj 0 ∧ L.getD xj 0 < 420) (hx : (L.length : Int) ≤ 420) (hQ0 : Q (zS P M) (some (vI (lmax (M 524) 0 L)))) : ∀ (n4 : Nat), ∀ (n : Int) (i : Int), (0 ≤ i ∧ i ≤ (M 467 94)) → (n = lmax (M 524) 0 (L.take (i : Int).toNat)) → (M 467 94) - i < (n4 : Int) → WP (d + 1) 106 0 0 4 [some (vR 467), some (vI n), some (vI i)] [] (zS P M) Q := by
  intro n4
  induction n4 with
  | zero => intro n i i1 i2 hm; exfalso; omega
  | succ n4 ih4 =>
    intro n i i1 i2 hm
    exact zB_ok zmt zen (stops := [4, 23, 24, 31]) e_106 100000 (⟨rfl, ⟨rfl, ⟨fun (c1 : (M 467 94) ≤ i) => (eqR (show n = (lmax (M 524) 0 L) from by (rw [i2, ltake_all L i.toNat (by omega)])) (hQ0  )), fun (c1 : ¬ ((M 467 94) ≤ i)) => ⟨rfl, ⟨rfl, ⟨rfl, ⟨rfl, ⟨rfl, ⟨rfl, ⟨rfl, ⟨(show 0 ≤ i ∧ i < 420 from by first | omega | (have na : M 532 i = L.getD i.toNat 0 := (by rw [hn]; have z := zlst_in L n0 0 i.toNat (by omega); rwa [show (0 : Int) + (i.toNat : Int) = i by omega] at z); have nb := hb i.toNat (by omega); omega)), (zB_ok zmt zen (stops := [4, 23, 24, 31]) e_106 100000 ⟨rfl, ⟨(show 0 ≤ (M 532 i) ∧ (M 532 i) < 420 from by first | omega | (have na : M 532 i = L.getD i.toNat 0 := (by rw [hn]; have z := zlst_in L n0 0 i.toNat (by omega); rwa [show (0 : Int) + (i.toNat : Int) = i by omega] at z); have nb := hb i.toNat (by omega); omega)), (zB_ok zmt zen (stops := [4, 23, 24, 31]) e_106 100000 ⟨rfl, (max_m n (M 524 (M 532 i))  ((zcast (fun z => WP (d + 1) 106 0 0 31 [some (vR 467), some (vI (max n (M 524 (M 532 i)))), some (vI z)] [] (zFq, P, M, 566) Q) (w32_eq (x := i + 1) (y := (i + 1)) (show i + 1 = (i + 1) ∧ -2147483648 ≤ i + 1 ∧ i + 1 < 2147483648 from by first | omega | (have na : M 532 i = L.getD i.toNat 0 := (by rw [hn]; have z := zlst_in L n0 0 i.toNat (by omega); rwa [show (0 : Int) + (i.toNat : Int) = i by omega] at z); have nb := hb i.toNat (by omega); omega))) (zB_ok zmt zen (stops := [4, 23, 24, 31]) e_106 100000 (ih4 (max n (M 524 (M 532 i))) (i + 1) (show 0 ≤ (i + 1) ∧ (i + 1) ≤ (M 467 94) from by first | assumption | omega) (show (max n (M 524 (M 532 i))) = lmax (M 524) 0 (L.take ((i + 1) : Int).toNat) from by (have na : M 532 i = L.getD i.toNat 0 := (by rw [hn]; have z := zlst_in L n0 0 i.toNat (by omega); rwa [show (0 : Int) + (i.toNat : Int) = i by omega] at z); have nb := hb i.toNat (by omega); rw [show (i + 1).toNat = i.toNat + 1 by omega, ltake_suc L i.toNat (by omega), lmax_app, ← i2, ← na]; show _ = (if n < M 524 (M 532 i) then M 524 (M 532 i) else n); first | rw [if_pos (by omega)] | rw [if_neg (by omega)] | (split <;> omega))) (show (M 467 94) - (i + 1) < (n4 : Int) from by first | assumption | omega))))))⟩)⟩⟩)⟩⟩⟩⟩⟩⟩⟩⟩⟩⟩⟩)
set_option maxRecDepth 1000000 in
set_option maxHeartbeats 4000000 in
theorem deepest_m {d : Nat} {P : Nat → Nat → Nat} {M : Nat → Int → Int} {Q : zQ} (L : List Int) (n0 : Int → Int) (hn : (M 532) = zlst n0 0 L) (hc : (M 467 94) = (L.length : Int)) (hb : ∀ xj : Nat, xj < L.length → 0 ≤ L.getD xj 0 ∧ L.getD xj 0 < 420) (hx : (L.length : Int) ≤ 420) (hQ0 : Q (zS P M) (some (vI (lmax (M 524) 0 L)))) : WC (d + 2) 106 [vR 467] (zS P M) Q :=
  ⟨_, rfl, zB_ok zmt zen (stops := [4, 23, 24, 31]) e_106 100000 ((deepest_m_L4 L n0 hn hc hb hx hQ0 (((M 467 94) - 0).toNat + 1) 0 0 (show 0 ≤ 0 ∧ 0 ≤ (M 467 94) from by first | assumption | omega) (show 0 = lmax (M 524) 0 (L.take (0 : Int).toNat) from by rfl) (show (M 467 94) - 0 < ((((M 467 94) - 0).toNat + 1 : Nat) : Int) from by omega)))⟩
set_option maxRecDepth 1000000 in
set_option maxHeartbeats 4000000 in
theorem callsLeft_m_L4 {d : Nat} {P : Nat → Nat → Nat} {M : Nat → Int → Int} {Q : zQ} (hx : 1 ≤ (M 467 86) ∧ (M 467 86) ≤ 400) (hu : ∀ xk : Int, 1 ≤ xk → xk < (M 467 86) → 0 ≤ (M 521) xk ∧ (M 521) xk < (M 467 86)) (hQ0 : Q (zS P M) (some (vI (tsum (fun xk => if (M 531) xk = 0 ∧ ¬ (M 531) ((M 521) xk) = 0 then 1 else 0) ((M 467 86) - 1).toNat)))) : ∀ (n4 : Nat), ∀ (n : Int) (k : Int), (1 ≤ k ∧ k ≤ (M 467 86)) → (n = tsum (fun xk => if (M 531) xk = 0 ∧ ¬ (M 531) ((M 521) xk) = 0 then 1 else 0) ((k : Int) - 1).toNat) → ((0 : Int) ≤ n ∧ n ≤ k) → (M 467 86) - k < (n4 : Int) → WP (d + 0) 107 0 0 4 [some (vR 467), some (vI n), some (vI k)] [] (zS P M) Q := by
  intro n4
  induction n4 with
  | zero => intro n k i1 i2 i3 hm; exfalso; omega
  | succ n4 ih4 =>
    intro n k i1 i2 i3 hm
    exact zB_ok zmt zen (stops := [4, 19, 32, 33, 42, 46]) e_107 100000 (⟨rfl, ⟨rfl, ⟨fun (c1 : (M 467 86) ≤ k) => (eqR (show n = (tsum (fun xk => if (M 531) xk = 0 ∧ ¬ (M 531) ((M 521) xk) = 0 then 1 else 0) ((M 467 86) - 1).toNat) from by (rw [i2, show k = M 467 86 by omega])) (hQ0  )), fun (c1 : ¬ ((M 467 86) ≤ k)) => ⟨rfl, ⟨rfl, ⟨rfl, ⟨rfl, ⟨(show 0 ≤ k ∧ k < 420 from by first | omega | (have u := hu k (by omega) (by omega); omega)), (zB_ok zmt zen (stops := [4, 19, 32, 33, 42, 46]) e_107 100000 ⟨fun (c2 : ¬ (M 531 k) = 0) => (zcast (fun z => WP d 107 0 0 42 [some (vR 467), some (vI n), some (vI k)] [vI z] (zFq, P, M, 566) Q) (w32_eq (x := n + 0) (y := n) (show n + 0 = n ∧ -2147483648 ≤ n + 0 ∧ n + 0 < 2147483648 from by first | omega | (have u := hu k (by omega) (by omega); omega))) (zB_ok zmt zen (stops := [4, 19, 32, 33, 42, 46]) e_107 100000 (zcast (fun z => WP d 107 0 0 46 [some (vR 467), some (vI n), some (vI z)] [] (zFq, P, M, 566) Q) (w32_eq (x := k + 1) (y := (k + 1)) (show k + 1 = (k + 1) ∧ -2147483648 ≤ k + 1 ∧ k + 1 < 2147483648 from by first | omega | (have u := hu k (by omega) (by omega); omega))) (zB_ok zmt zen (stops := [4, 19, 32, 33, 42, 46]) e_107 100000 (ih4 n (k + 1) (show 1 ≤ (k + 1) ∧ (k + 1) ≤ (M 467 86) from by first | assumption | omega) (show n = tsum (fun xk => if (M 531) xk = 0 ∧ ¬ (M 531) ((M 521) xk) = 0 then 1 else 0) (((k + 1) : Int) - 1).toNat from by (rw [show (k + 1 - 1).toNat = (k - 1).toNat + 1 by omega]; show _ = tsum _ (k - 1).toNat + (if M 531 (((k - 1).toNat : Int) + 1) = 0 ∧ ¬ M 531 (M 521 (((k - 1).toNat : Int) + 1)) = 0 then 1 else 0); rw [show (((k - 1).toNat : Int) + 1) = k by omega, ← i2]; first | rw [if_pos ⟨by omega, by omega⟩] | (rw [if_neg (fun z => by omega)]; omega))) (show (0 : Int) ≤ n ∧ n ≤ (k + 1) from by first | assumption | omega) (show (M 467 86) - (k + 1) < (n4 : Int) from by first | assumption | omega)))))), fun (c2 : ¬ (¬ (M 531 k) = 0)) => ⟨rfl, ⟨rfl, ⟨rfl, ⟨rfl, ⟨rfl, ⟨rfl, ⟨rfl, ⟨(show 0 ≤ k ∧ k < 420 from by first | omega | (have u := hu k (by omega) (by omega); omega)), (zB_ok zmt zen (stops := [4, 19, 32, 33, 42, 46]) e_107 100000 ⟨rfl, ⟨(show 0 ≤ (M 521 k) ∧ (M 521 k) < 420 from by first | omega | (have u := hu k (by omega) (by omega); omega)), (zB_ok zmt zen (stops := [4, 19, 32, 33, 42, 46]) e_107 100000 ⟨fun (c3 : (M 531 (M 521 k)) = 0) => (zcast (fun z => WP d 107 0 0 42 [some (vR 467), some (vI n), some (vI k)] [vI z] (zFq, P, M, 566) Q) (w32_eq (x := n + 0) (y := n) (show n + 0 = n ∧ -2147483648 ≤ n + 0 ∧ n + 0 < 2147483648 from by first | omega | (have u := hu k (by omega) (by omega); omega))) (zB_ok zmt zen (stops := [4, 19, 32, 33, 42, 46]) e_107 100000 (zcast (fun z => WP d 107 0 0 46 [some (vR 467), some (vI n), some (vI z)] [] (zFq, P, M, 566) Q) (w32_eq (x := k + 1) (y := (k + 1)) (show k + 1 = (k + 1) ∧ -2147483648 ≤ k + 1 ∧ k + 1 < 2147483648 from by first | omega | (have u := hu k (by omega) (by omega); omega))) (zB_ok zmt zen (stops := [4, 19, 32, 33, 42, 46]) e_107 100000 (ih4 n (k + 1) (show 1 ≤ (k + 1) ∧ (k + 1) ≤ (M 467 86) from by first | assumption | omega) (show n = tsum (fun xk => if (M 531) xk = 0 ∧ ¬ (M 531) ((M 521) xk) = 0 then 1 else 0) (((k + 1) : Int) - 1).toNat from by (rw [show (k + 1 - 1).toNat = (k - 1).toNat + 1 by omega]; show _ = tsum _ (k - 1).toNat + (if M 531 (((k - 1).toNat : Int) + 1) = 0 ∧ ¬ M 531 (M 521 (((k - 1).toNat : Int) + 1)) = 0 then 1 else 0); rw [show (((k - 1).toNat : Int) + 1) = k by omega, ← i2]; first | rw [if_pos ⟨by omega, by omega⟩] | (rw [if_neg (fun z => by omega)]; omega))) (show (0 : Int) ≤ n ∧ n ≤ (k + 1) from by first | assumption | omega) (show (M 467 86) - (k + 1) < (n4 : Int) from by first | assumption | omega)))))), fun (c3 : ¬ ((M 531 (M 521 k)) = 0)) => (zcast (fun z => WP d 107 0 0 42 [some (vR 467), some (vI n), some (vI k)] [vI z] (zFq, P, M, 566) Q) (w32_eq (x := n + 1) (y := (n + 1)) (show n + 1 = (n + 1) ∧ -2147483648 ≤ n + 1 ∧ n + 1 < 2147483648 from by first | omega | (have u := hu k (by omega) (by omega); omega))) (zB_ok zmt zen (stops := [4, 19, 32, 33, 42, 46]) e_107 100000 (zcast (fun z => WP d 107 0 0 46 [some (vR 467), some (vI (n + 1)), some (vI z)] [] (zFq, P, M, 566) Q) (w32_eq (x := k + 1) (y := (k + 1)) (show k + 1 = (k + 1) ∧ -2147483648 ≤ k + 1 ∧ k + 1 < 2147483648 from by first | omega | (have u := hu k (by omega) (by omega); omega))) (zB_ok zmt zen (stops := [4, 19, 32, 33, 42, 46]) e_107 100000 (ih4 (n + 1) (k + 1) (show 1 ≤ (k + 1) ∧ (k + 1) ≤ (M 467 86) from by first | assumption | omega) (show (n + 1) = tsum (fun xk => if (M 531) xk = 0 ∧ ¬ (M 531) ((M 521) xk) = 0 then 1 else 0) (((k + 1) : Int) - 1).toNat from by (rw [show (k + 1 - 1).toNat = (k - 1).toNat + 1 by omega]; show _ = tsum _ (k - 1).toNat + (if M 531 (((k - 1).toNat : Int) + 1) = 0 ∧ ¬ M 531 (M 521 (((k - 1).toNat : Int) + 1)) = 0 then 1 else 0); rw [show (((k - 1).toNat : Int) + 1) = k by omega, ← i2]; first | rw [if_pos ⟨by omega, by omega⟩] | (rw [if_neg (fun z => by omega)]; omega))) (show (0 : Int) ≤ (n + 1) ∧ (n + 1) ≤ (k + 1) from by first | assumption | omega) (show (M 467 86) - (k + 1) < (n4 : Int) from by first | assumption | omega))))))⟩)⟩⟩)⟩⟩⟩⟩⟩⟩⟩⟩⟩)⟩⟩⟩⟩⟩⟩⟩⟩)
set_option maxRecDepth 1000000 in
set_option maxHeartbeats 4000000 in
theorem callsLeft_m {d : Nat} {P : Nat → Nat → Nat} {M : Nat → Int → Int} {Q : zQ} (hx : 1 ≤ (M 467 86) ∧ (M 467 86) ≤ 400) (hu : ∀ xk : Int, 1 ≤ xk → xk < (M 467 86) → 0 ≤ (M 521) xk ∧ (M 521) xk < (M 467 86)) (hQ0 : Q (zS P M) (some (vI (tsum (fun xk => if (M 531) xk = 0 ∧ ¬ (M 531) ((M 521) xk) = 0 then 1 else 0) ((M 467 86) - 1).toNat)))) : WC (d + 1) 107 [vR 467] (zS P M) Q :=
  ⟨_, rfl, zB_ok zmt zen (stops := [4, 19, 32, 33, 42, 46]) e_107 100000 ((callsLeft_m_L4 hx hu hQ0 (((M 467 86) - 1).toNat + 1) 0 1 (show 1 ≤ 1 ∧ 1 ≤ (M 467 86) from by first | assumption | omega) (show 0 = tsum (fun xk => if (M 531) xk = 0 ∧ ¬ (M 531) ((M 521) xk) = 0 then 1 else 0) ((1 : Int) - 1).toNat from by rfl) (show (0 : Int) ≤ 0 ∧ 0 ≤ 1 from by first | assumption | omega) (show (M 467 86) - 1 < ((((M 467 86) - 1).toNat + 1 : Nat) : Int) from by omega)))⟩
