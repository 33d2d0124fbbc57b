/-! Both readers at one place of the text: lines, operands, sites alike -/
/-! Lines in their blocks while they are read: what is complete, by level -/
def okS (dp br th el : Int → Int) (o lv b a : Int) : Prop := (dp (a - o) = lv ∧ (0 < lv → br (a - o) = b)) ∧ 0 ≤ th a ∧ 0 ≤ el a
def thL (th el : Int → Int) : Nat → Int → Int := fun c => if c = 488 then th else el
def yE (dp br th el : Int → Int) (o lv b x y : Int) : Prop := ySegE (thL th el) (okS dp br th el o) lv b x y
section
variable {dp br th el dp' br' th' el' : Int → Int} {o lv b x y : Int}
theorem yE_nil : yE dp br th el o lv b x x := ySegE_nil
theorem yE_le (h : yE dp br th el o lv b x y) : x ≤ y := ySegE_le h
theorem yE_line (h : yE dp br th el o lv b x y) (hd : dp (y - o) = lv) (hb : 0 < lv → br (y - o) = b) (ht : 0 ≤ th y) (he : 0 ≤ el y) (h1 : yE dp br th el o (lv + 1) 0 (y + 1) (y + 1 + th y)) (h2 : yE dp br th el o (lv + 1) 1 (y + 1 + th y) (y + 1 + th y + el y)) {z : Int} (hz : z = y + 1 + th y + el y) : yE dp br th el o lv b x z := by
  subst hz
  exact ySegE_cat h (ySegE_cons (by omega) ⟨⟨hd, hb⟩, ht, he⟩ h1 h2 ySegE_nil)
theorem yE_cg (h : yE dp br th el o lv b x y) (hr : ∀ r : Int, x ≤ r → r < y → (dp' (r - o) = dp (r - o) ∧ br' (r - o) = br (r - o)) ∧ th' r = th r ∧ el' r = el r) : yE dp' br' th' el' o lv b x y := by
  refine ySegE_rng h (fun r r0 r1 => (hr r r0 r1).2) (fun lv b r r0 r1 q => ?_) (fun lv b r q => q.2)
  have z := hr r r0 r1
  unfold okS at q ⊢
  rw [z.1.1, z.1.2, z.2.1, z.2.2]
  exact q
theorem yE_dpb : ∀ (n : Nat) (lv b x y : Int), ySeg (thL th el) (okS dp br th el o) n lv b x y → ∀ j : Int, x ≤ j → j < y → lv ≤ dp (j - o) ∧ (dp (j - o) = lv → 0 < lv → br (j - o) = b) := by
  intro n
  induction n with
  | zero => intro lv b x y q j h0 h1; have e : x = y := q; omega
  | succ n ih =>
    intro lv b x y q j h0 h1
    rcases q with q | ⟨q1, q2, q3, q4, q5⟩
    · omega
    · have o1 := q2.1
      by_cases e : j = x
      · rw [e]; exact ⟨by omega, fun _ z => o1.2 z⟩
      · by_cases e1 : j < x + 1 + thL th el 488 x
        · have z := (ih _ _ _ _ q3 j (by omega) e1).1
          exact ⟨by omega, fun y => by omega⟩
        · by_cases e2 : j < x + 1 + thL th el 488 x + thL th el 489 x
          · have z := (ih _ _ _ _ q4 j (by omega) e2).1
            exact ⟨by omega, fun y => by omega⟩
          · exact ih _ _ _ _ q5 j (by omega) h1
theorem yE_dp (h : yE dp br th el o lv b x y) {j : Int} (h0 : x ≤ j) (h1 : j < y) : lv ≤ dp (j - o) ∧ (dp (j - o) = lv → 0 < lv → br (j - o) = b) := by
  obtain ⟨n, h⟩ := h
  exact yE_dpb n lv b x y h j h0 h1
/-- without its last line, which stands alone -/
theorem yE_undo : ∀ (n : Nat) (lv b x y : Int), ySeg (thL th el) (okS dp br th el o) n lv b x y → x < y → dp (y - 1 - o) = lv → yE dp br th el o lv b x (y - 1) := by
  intro n
  induction n with
  | zero => intro lv b x y q h1; have e : x = y := q; omega
  | succ n ih =>
    intro lv b x y q h1 hd
    rcases q with q | ⟨q1, q2, q3, q4, q5⟩
    · omega
    · have l5 := ySegE_le ⟨n, q5⟩
      have l3 := ySegE_le ⟨n, q3⟩
      have l4 := ySegE_le ⟨n, q4⟩
      have t3 : 0 ≤ thL th el 488 x := q2.2.1
      have t4 : 0 ≤ thL th el 489 x := q2.2.2
      by_cases e : x + 1 + thL th el 488 x + thL th el 489 x = y
      · by_cases c : y - 1 = x
        · rw [c]; exact ySegE_nil
        · by_cases e1 : y - 1 < x + 1 + thL th el 488 x
          · have z := (yE_dpb n _ _ _ _ q3 (y - 1) (by omega) e1).1; omega
          · have z := (yE_dpb n _ _ _ _ q4 (y - 1) (by omega) (by omega)).1; omega
      · exact ySegE_cons (by omega) q2 ⟨n, q3⟩ ⟨n, q4⟩ (ih _ _ _ _ q5 (by omega) hd)
theorem yE_last (h : yE dp br th el o lv b x y) (hx : x < y) (hd : dp (y - 1 - o) = lv) : yE dp br th el o lv b x (y - 1) := by
  obtain ⟨n, h⟩ := h
  exact yE_undo n lv b x y h hx hd
end
/-- where the lines of a level that is open begin, and end -/
def stL (F : Int) (op br th : Int → Int) (o j : Int) : Int := if j = 0 then F else if br j = 0 then op j + 1 else op j + 1 + th (o + op j)
def enL (dep nl : Int) (op : Int → Int) (j : Int) : Int := if j = dep then nl else op (j + 1)
def opnL (K WE DP BR op br : Int → Int) (F nl o : Int) (th el : Int → Int) (j : Int) : Prop :=
  (F ≤ op j ∧ op j < nl) ∧ (DP (op j) = j - 1 ∧ (1 < j → BR (op j) = br (j - 1))) ∧ (br j = 0 ∨ br j = 1) ∧ (K (op j) = 7 ∨ K (op j) = 8) ∧ (br j = 0 → WE (op j) = 0 ∧ th (o + op j) = 0) ∧
  (br j = 1 → K (op j) = 7 ∧ WE (op j) = 1 ∧ 0 ≤ th (o + op j) ∧ yE DP BR th el o j 0 (o + op j + 1) (o + op j + 1 + th (o + op j))) ∧ el (o + op j) = 0
def gST (K WE DP BR op br : Int → Int) (dep F nl o : Int) (th el : Int → Int) : Prop :=
  (0 ≤ dep ∧ 0 ≤ F ∧ F ≤ nl) ∧ (∀ j : Int, 1 ≤ j → j ≤ dep → opnL K WE DP BR op br F nl o th el j) ∧
  (∀ j : Int, 0 ≤ j → j ≤ dep → yE DP BR th el o j (brv j br) (o + stL F op br th o j) (o + enL dep nl op j))
section
variable {K WE DP BR op br K' WE' th el : Int → Int} {dep F nl o : Int}
theorem stL_0 : stL F op br th o 0 = F := rfl
theorem brv_0 : brv 0 br = 0 := rfl
theorem enL_dep : enL dep nl op dep = nl := if_pos rfl
theorem gST_0 (hF : 0 ≤ F) : gST K WE DP BR op br 0 F F o th el := by
  refine ⟨⟨Int.le_refl _, hF, Int.le_refl _⟩, fun j a b => by omega, fun j a b => ?_⟩
  have e : j = 0 := by omega
  subst e
  exact yE_nil
/-- bounds of the levels that are open -/
theorem gST_in (h : gST K WE DP BR op br dep F nl o th el) {j : Int} (h0 : 0 ≤ j) (h1 : j ≤ dep) : F ≤ stL F op br th o j ∧ stL F op br th o j ≤ enL dep nl op j ∧ enL dep nl op j ≤ nl := by
  have l := yE_le (h.2.2 j h0 h1)
  refine ⟨?_, by omega, ?_⟩
  · by_cases e : j = 0
    · subst e; exact Int.le_refl _
    · have z := h.2.1 j (by omega) h1
      unfold stL
      rw [if_neg e]
      rcases z.2.2.1 with q | q
      · rw [if_pos q]; have := z.1.1; omega
      · rw [if_neg (by omega)]; have := z.1.1; have := (z.2.2.2.2.2.1 q).2.2.1; omega
  · by_cases e : j = dep
    · rw [e, enL_dep]; exact Int.le_refl _
    · have z := h.2.1 (j + 1) (by omega) (by omega)
      unfold enL
      rw [if_neg e]
      have := z.1.2; omega
theorem gST_st (h : gST K WE DP BR op br dep F nl o th el) {j : Int} (h0 : 1 ≤ j) (h1 : j ≤ dep) : op j < stL F op br th o j := by
  have z := h.2.1 j h0 h1
  unfold stL
  rw [if_neg (by omega)]
  rcases z.2.2.1 with q | q
  · rw [if_pos q]; omega
  · rw [if_neg (by omega)]; have := (z.2.2.2.2.2.1 q).2.2.1; omega
theorem gST_op (h : gST K WE DP BR op br dep F nl o th el) : ∀ (k : Nat) (j : Int), 1 ≤ j → j + k ≤ dep → op j ≤ op (j + k) := by
  intro k
  induction k with
  | zero => intro j _ _; rw [show j + ((0 : Nat) : Int) = j by omega]; exact Int.le_refl _
  | succ k ih =>
    intro j h0 h1
    have a := ih j h0 (by omega)
    have b := gST_st h (j := j + k) (by omega) (by omega)
    have c := gST_in h (j := j + k) (by omega) (by omega)
    have e : enL dep nl op (j + k) = op (j + k + 1) := if_neg (by omega)
    rw [e] at c
    rw [show j + ((k + 1 : Nat) : Int) = j + k + 1 by omega]
    omega
theorem gST_opl (h : gST K WE DP BR op br dep F nl o th el) {j : Int} (h0 : 1 ≤ j) (h1 : j ≤ dep) : op j ≤ op dep := by
  have z := gST_op h (dep - j).toNat j h0 (by omega)
  rw [show j + ((dep - j).toNat : Int) = dep by omega] at z
  exact z
/-- how deep the last line stands -/
theorem gST_deep (h : gST K WE DP BR op br dep F nl o th el) (hd : 0 < dep) {j : Int} (h0 : op dep < j) (h1 : j < nl) : dep ≤ DP j := by
  have z := h.2.1 dep (by omega) (Int.le_refl _)
  have y := h.2.2 dep (by omega) (Int.le_refl _)
  rw [enL_dep] at y
  by_cases c : stL F op br th o dep ≤ j
  · have w := (yE_dp y (j := o + j) (by omega) (by omega)).1
    rw [show o + j - o = j by omega] at w
    exact w
  · rcases z.2.2.1 with q | q
    · have e : stL F op br th o dep = op dep + 1 := (if_neg (by omega)).trans (if_pos q)
      omega
    · have e : stL F op br th o dep = op dep + 1 + th (o + op dep) := (if_neg (by omega)).trans (if_neg (by omega))
      have w := (yE_dp (z.2.2.2.2.2.1 q).2.2.2 (j := o + j) (by omega) (by omega)).1
      rw [show o + j - o = j by omega] at w
      exact w
theorem gST_path (h : gST K WE DP BR op br dep F nl o th el) {MI EN AR LA : Int → Int} (hL : cL DP BR MI EN AR LA nl) (hla : ∀ j : Int, 1 ≤ j → j ≤ dep → LA (j - 1) = op j) : cP DP MI LA nl dep (brv dep br) := by
  refine ⟨⟨h.1.1, ?_⟩, fun d0 => ?_⟩
  · unfold brv
    split
    · left; rfl
    · exact (h.2.1 dep (by have := h.1.1; omega) (Int.le_refl _)).2.2.1
  · have z := h.2.1 dep (by omega) (Int.le_refl _)
    have e : brv dep br = br dep := if_neg (by omega)
    refine ⟨by have := h.1; have := z.1; omega, ?_, fun b0 => ?_⟩
    · by_cases c : nl - 1 = op dep
      · rw [c, z.2.1.1]; omega
      · have := gST_deep h d0 (j := nl - 1) (by have := z.1; omega) (by omega)
        omega
    · rw [e] at b0
      rw [hla dep (by omega) (Int.le_refl _)]
      have m := (hL.2.1 (op dep) (by have := h.1; have := z.1; omega) z.1.2).2.2.1
      obtain ⟨m1, m2, m3⟩ := m
      rcases m3 with q | q
      · exact q
      · by_cases c : MI (op dep) = nl
        · exact c
        · exfalso
          have dd := gST_deep h d0 (j := MI (op dep)) m1.1 (by omega)
          rcases q with q | q
          · rw [z.2.1.1] at q; omega
          · have y := h.2.2 dep (by omega) (Int.le_refl _)
            have es : stL F op br th o dep = op dep + 1 := (if_neg (by omega)).trans (if_pos b0)
            rw [enL_dep, es] at y
            have w := (yE_dp y (j := o + MI (op dep)) (by omega) (by omega)).2
            rw [show o + MI (op dep) - o = MI (op dep) by omega] at w
            have w2 := w (by rw [q.1, z.2.1.1]; omega) d0
            rw [e] at w2
            omega
/-- a line more, which is complete -/
theorem gST_add (h : gST K WE DP BR op br dep F nl o th el) (hK : ∀ l : Int, l < nl → K' l = K l) (hW : ∀ l : Int, l < nl → WE' l = WE l) : gST K' WE' (zs DP nl dep) (zs BR nl (brv dep br)) op br dep F (nl + 1) o (zs th (o + nl) 0) (zs el (o + nl) 0) := by
  have dz : ∀ l : Int, l < nl → zs DP nl dep l = DP l := fun l z => zs_neg (by omega)
  have bz : ∀ l : Int, l < nl → zs BR nl (brv dep br) l = BR l := fun l z => zs_neg (by omega)
  have tz : ∀ l : Int, l < o + nl → zs th (o + nl) 0 l = th l := fun l z => zs_neg (by omega)
  have ez : ∀ l : Int, l < o + nl → zs el (o + nl) 0 l = el l := fun l z => zs_neg (by omega)
  have cg : ∀ (lv b x y : Int), y ≤ o + nl → yE DP BR th el o lv b x y → yE (zs DP nl dep) (zs BR nl (brv dep br)) (zs th (o + nl) 0) (zs el (o + nl) 0) o lv b x y := fun lv b x y hy q => yE_cg q (fun r r0 r1 => ⟨⟨dz _ (by omega), bz _ (by omega)⟩, tz _ (by omega), ez _ (by omega)⟩)
  have hs : ∀ j : Int, 0 ≤ j → j ≤ dep → stL F op br (zs th (o + nl) 0) o j = stL F op br th o j := fun j j0 j1 => by
    unfold stL
    by_cases e : j = 0
    · rw [if_pos e, if_pos e]
    · rw [if_neg e, if_neg e, tz _ (by have := (h.2.1 j (by omega) j1).1; omega)]
  refine ⟨⟨h.1.1, h.1.2.1, by have := h.1; omega⟩, fun j j0 j1 => ?_, fun j j0 j1 => ?_⟩
  · obtain ⟨z1, z2, z3, z4, z5, z6, z7⟩ := h.2.1 j j0 j1
    unfold opnL
    rw [hK _ z1.2, hW _ z1.2, dz _ z1.2, bz _ z1.2, tz _ (by omega), ez _ (by omega)]
    refine ⟨⟨z1.1, by omega⟩, z2, z3, z4, z5, fun q => ?_, z7⟩
    obtain ⟨a, b, c, d⟩ := z6 q
    refine ⟨a, b, c, cg _ _ _ _ ?_ d⟩
    have i1 := gST_in h (j := j) (by omega) j1
    have e1 : stL F op br th o j = op j + 1 + th (o + op j) := (if_neg (by omega)).trans (if_neg (by omega))
    omega
  · rw [hs j j0 j1]
    have y := h.2.2 j j0 j1
    have i := gST_in h (j := j) j0 j1
    by_cases e : j = dep
    · subst e
      rw [enL_dep] at y ⊢
      have tn : zs th (o + nl) 0 (o + nl) = 0 := zs_pos rfl
      have en : zs el (o + nl) 0 (o + nl) = 0 := zs_pos rfl
      refine yE_line (cg _ _ _ _ (Int.le_refl _) y) ?_ (fun q => ?_) (by omega) (by omega) ?_ ?_ (by omega)
      · rw [show o + nl - o = nl by omega]; exact zs_pos rfl
      · rw [show o + nl - o = nl by omega]; exact zs_pos rfl
      · rw [tn, show o + nl + 1 + 0 = o + nl + 1 by omega]; exact yE_nil
      · rw [tn, en, show o + nl + 1 + 0 + 0 = o + nl + 1 + 0 by omega]; exact yE_nil
    · have e2 : enL dep (nl + 1) op j = enL dep nl op j := (if_neg e).trans (if_neg e).symm
      rw [e2]
      exact cg _ _ _ _ (by omega) y
/-- what stands in a line is changed, not in one that is open -/
theorem gST_set (h : gST K WE DP BR op br dep F nl o th el) (hK : ∀ j : Int, 1 ≤ j → j ≤ dep → K' (op j) = K (op j)) : gST K' WE DP BR op br dep F nl o th el := by
  refine ⟨h.1, fun j j0 j1 => ?_, h.2.2⟩
  have z := h.2.1 j j0 j1
  unfold opnL at z ⊢
  rw [hK j j0 j1]
  exact z
/-- the last line's block is opened -/
theorem gST_open (h : gST K WE DP BR op br dep F (nl + 1) o th el) (hn : F ≤ nl) (hd : DP nl = dep) (hb : 0 < dep → BR nl = br dep) (hk : K nl = 7 ∨ K nl = 8) (hw : WE nl = 0) (ht : th (o + nl) = 0) (he : el (o + nl) = 0) : gST K WE DP BR (zs op (dep + 1) nl) (zs br (dep + 1) 0) (dep + 1) F (nl + 1) o th el := by
  have oz : ∀ j : Int, j ≤ dep → zs op (dep + 1) nl j = op j := fun j z => zs_neg (by omega)
  have bz : ∀ j : Int, j ≤ dep → zs br (dep + 1) 0 j = br j := fun j z => zs_neg (by omega)
  have on : zs op (dep + 1) nl (dep + 1) = nl := zs_pos rfl
  have bn : zs br (dep + 1) 0 (dep + 1) = 0 := zs_pos rfl
  have hs : ∀ j : Int, 0 ≤ j → j ≤ dep → stL F (zs op (dep + 1) nl) (zs br (dep + 1) 0) th o j = stL F op br th o j := fun j j0 j1 => by
    unfold stL
    rw [oz j j1, bz j j1]
  refine ⟨⟨by have := h.1; omega, h.1.2⟩, fun j j0 j1 => ?_, fun j j0 j1 => ?_⟩
  · by_cases e : j = dep + 1
    · subst e
      unfold opnL
      rw [on, bn]
      refine ⟨⟨hn, by omega⟩, ⟨by omega, fun q => ?_⟩, Or.inl rfl, hk, fun _ => ⟨hw, ht⟩, fun q => by omega, he⟩
      rw [show dep + 1 - 1 = dep by omega, bz _ (Int.le_refl _)]
      exact hb (by omega)
    · have z := h.2.1 j j0 (by omega)
      unfold opnL at z ⊢
      rw [oz j (by omega), bz j (by omega), bz (j - 1) (by omega)]
      exact z
  · by_cases e : j = dep + 1
    · subst e
      have e1 : stL F (zs op (dep + 1) nl) (zs br (dep + 1) 0) th o (dep + 1) = nl + 1 := by
        unfold stL
        rw [if_neg (by have := h.1; omega), bn, if_pos rfl, on]
      have e2 : brv (dep + 1) (zs br (dep + 1) 0) = 0 := (if_neg (by have := h.1; omega)).trans bn
      rw [e1, enL_dep]
      exact yE_nil
    · have y := h.2.2 j j0 (by omega)
      have e3 : brv j (zs br (dep + 1) 0) = brv j br := by unfold brv; rw [bz j (by omega)]
      rw [hs j j0 (by omega), e3]
      by_cases c : j = dep
      · subst c
        have e2 : enL (j + 1) (nl + 1) (zs op (j + 1) nl) j = nl := (if_neg (by omega)).trans on
        rw [e2]
        rw [enL_dep] at y
        have i := gST_in h (j := j) j0 (Int.le_refl _)
        rw [enL_dep] at i
        have lt : stL F op br th o j < nl + 1 := by
          by_cases c2 : stL F op br th o j = nl + 1
          · exfalso
            by_cases c3 : j = 0
            · subst c3; rw [stL_0] at c2; omega
            · have z := h.2.1 j (by omega) (Int.le_refl _)
              have z1 := z.1
              have z2 := z.2.1.1
              by_cases c4 : nl = op j
              · rw [c4] at hd; omega
              · rcases z.2.2.1 with q | q
                · have es : stL F op br th o j = op j + 1 := (if_neg c3).trans (if_pos q)
                  omega
                · have es : stL F op br th o j = op j + 1 + th (o + op j) := (if_neg c3).trans (if_neg (by omega))
                  have w := (yE_dp (z.2.2.2.2.2.1 q).2.2.2 (j := o + nl) (by omega) (by omega)).2
                  rw [show o + nl - o = nl by omega] at w
                  have w2 := w hd (by omega)
                  have w3 := hb (by omega)
                  omega
          · omega
        have r := yE_last y (by omega) (by rw [show o + (nl + 1) - 1 - o = nl by omega]; exact hd)
        rw [show o + (nl + 1) - 1 = o + nl by omega] at r
        exact r
      · have e2 : enL (dep + 1) (nl + 1) (zs op (dep + 1) nl) j = enL dep (nl + 1) op j := by
          unfold enL
          rw [if_neg e, if_neg c, oz _ (by omega)]
        rw [e2]; exact y
/-- a block that is closed, and nothing of its line behind it -/
theorem gST_close (h : gST K WE DP BR op br dep F nl o th el) (hd : 1 ≤ dep) {th' el' : Int → Int} (ht : br dep = 0 → th' = zs th (o + op dep) (o + nl - (o + op dep) - 1) ∧ el' = el) (he : ¬ br dep = 0 → th' = th ∧ el' = zs el (o + op dep) (o + nl - (o + op dep) - th (o + op dep) - 1)) : gST K WE DP BR op br (dep - 1) F nl o th' el' := by
  have z := h.2.1 dep hd (Int.le_refl _)
  have z1 := z.1
  have y := h.2.2 dep (by omega) (Int.le_refl _)
  have i := gST_in h (j := dep) (by omega) (Int.le_refl _)
  rw [enL_dep] at y i
  have eb : brv dep br = br dep := if_neg (by omega)
  rw [eb] at y
  have tz : ∀ r : Int, ¬ r = o + op dep → th' r = th r := fun r q => by
    by_cases c : br dep = 0
    · rw [(ht c).1]; exact zs_neg q
    · rw [(he c).1]
  have ez : ∀ r : Int, ¬ r = o + op dep → el' r = el r := fun r q => by
    by_cases c : br dep = 0
    · rw [(ht c).2]
    · rw [(he c).2]; exact zs_neg q
  have cg : ∀ (lv b x u : Int), (u ≤ o + op dep ∨ o + op dep < x) → yE DP BR th el o lv b x u → yE DP BR th' el' o lv b x u := fun lv b x u hy q => yE_cg q (fun r r0 r1 => ⟨⟨rfl, rfl⟩, tz _ (by omega), ez _ (by omega)⟩)
  have lt : ∀ j : Int, 1 ≤ j → j ≤ dep - 1 → op j < op dep := fun j j0 j1 => by
    have a := gST_st h (j := j) j0 (by omega)
    have b := gST_in h (j := j) (by omega) (by omega)
    have e : enL dep nl op j = op (j + 1) := if_neg (by omega)
    have c := gST_opl h (j := j + 1) (by omega) (by omega)
    omega
  have hs : ∀ j : Int, 0 ≤ j → j ≤ dep - 1 → stL F op br th' o j = stL F op br th o j := fun j j0 j1 => by
    unfold stL
    by_cases e : j = 0
    · rw [if_pos e, if_pos e]
    · rw [if_neg e, if_neg e, tz _ (by have := lt j (by omega) j1; omega)]
  refine ⟨⟨by omega, h.1.2⟩, fun j j0 j1 => ?_, fun j j0 j1 => ?_⟩
  · obtain ⟨a1, a2, a3, a4, a5, a6, a7⟩ := h.2.1 j j0 (by omega)
    have l := lt j j0 j1
    unfold opnL
    rw [tz _ (by omega), ez _ (by omega)]
    refine ⟨a1, a2, a3, a4, a5, fun q => ?_, a7⟩
    obtain ⟨a, b, c, d⟩ := a6 q
    refine ⟨a, b, c, cg _ _ _ _ (Or.inl ?_) d⟩
    have i1 := gST_in h (j := j) (by omega) (by omega)
    have e1 : stL F op br th o j = op j + 1 + th (o + op j) := (if_neg (by omega)).trans (if_neg (by omega))
    have e : enL dep nl op j = op (j + 1) := if_neg (by omega)
    have c := gST_opl h (j := j + 1) (by omega) (by omega)
    omega
  · rw [hs j j0 j1]
    have u := h.2.2 j j0 (by omega)
    have i1 := gST_in h (j := j) j0 (by omega)
    have e : enL dep nl op j = op (j + 1) := if_neg (by omega)
    rw [e] at u i1
    by_cases c : j = dep - 1
    · have ej : j + 1 = dep := by omega
      rw [ej] at u i1
      have e2 : enL (dep - 1) nl op j = nl := if_pos c
      rw [e2]
      have bj : 0 < j → BR (op dep) = brv j br := fun q => by
        rw [z.2.1.2 (by omega), show dep - 1 = j by omega]
        exact (if_neg (by omega)).symm
      have db : DP (op dep) = j := by rw [z.2.1.1]; omega
      have u2 := cg _ _ _ _ (Or.inl (Int.le_refl _)) u
      by_cases c0 : br dep = 0
      · have es : stL F op br th o dep = op dep + 1 := (if_neg (by omega)).trans (if_pos c0)
        rw [es, c0] at y
        have t1 : th' (o + op dep) = nl - op dep - 1 := by rw [(ht c0).1, zs_pos rfl]; omega
        have e1 : el' (o + op dep) = 0 := by rw [(ht c0).2]; exact z.2.2.2.2.2.2
        refine yE_line u2 (by rw [show o + op dep - o = op dep by omega]; exact db) (fun q => by rw [show o + op dep - o = op dep by omega]; exact bj q) (by omega) (by omega) ?_ ?_ (by omega)
        · rw [t1, show o + op dep + 1 + (nl - op dep - 1) = o + nl by omega, ej]
          have w := cg _ _ _ _ (Or.inr (by omega)) y
          rw [show o + (op dep + 1) = o + op dep + 1 by omega] at w
          exact w
        · rw [e1, show o + op dep + 1 + th' (o + op dep) + 0 = o + op dep + 1 + th' (o + op dep) by omega]; exact yE_nil
      · have c1 : br dep = 1 := by have := z.2.2.1; omega
        have z6 := z.2.2.2.2.2.1 c1
        have es : stL F op br th o dep = op dep + 1 + th (o + op dep) := (if_neg (by omega)).trans (if_neg c0)
        rw [es, c1] at y
        have t1 : th' (o + op dep) = th (o + op dep) := by rw [(he c0).1]
        have e1 : el' (o + op dep) = nl - op dep - 1 - th (o + op dep) := by rw [(he c0).2, zs_pos rfl]; omega
        refine yE_line u2 (by rw [show o + op dep - o = op dep by omega]; exact db) (fun q => by rw [show o + op dep - o = op dep by omega]; exact bj q) (by omega) (by omega) ?_ ?_ (by omega)
        · rw [t1, ej]
          exact cg _ _ _ _ (Or.inr (by omega)) z6.2.2.2
        · rw [t1, e1, show o + op dep + 1 + th (o + op dep) + (nl - op dep - 1 - th (o + op dep)) = o + nl by omega, ej]
          have w := cg _ _ _ _ (Or.inr (by omega)) y
          rw [show o + (op dep + 1 + th (o + op dep)) = o + op dep + 1 + th (o + op dep) by omega] at w
          exact w
    · have e2 : enL (dep - 1) nl op j = op (j + 1) := if_neg (by omega)
      rw [e2]
      have c := gST_opl h (j := j + 1) (by omega) (by omega)
      exact cg _ _ _ _ (Or.inl (by omega)) u
/-- a block that is closed, and another one behind else -/
theorem gST_else (h : gST K WE DP BR op br dep F nl o th el) (hd : 1 ≤ dep) (h0 : br dep = 0) (h7 : K (op dep) = 7) : gST K (zs WE (op dep) 1) DP BR (zs op (dep - 1 + 1) (op dep)) (zs br (dep - 1 + 1) 1) (dep - 1 + 1) F nl o (zs th (o + op dep) (o + nl - (o + op dep) - 1)) el := by
  have z := h.2.1 dep hd (Int.le_refl _)
  have z1 := z.1
  have y := h.2.2 dep (by omega) (Int.le_refl _)
  have i := gST_in h (j := dep) (by omega) (Int.le_refl _)
  rw [enL_dep] at y i
  have eb : brv dep br = br dep := if_neg (by omega)
  have es : stL F op br th o dep = op dep + 1 := (if_neg (by omega)).trans (if_pos h0)
  rw [eb, es, h0] at y
  rw [show dep - 1 + 1 = dep by omega]
  have oz : ∀ j : Int, zs op dep (op dep) j = op j := fun j => by unfold zs; split; (rename_i e; rw [e]); rfl
  have tz : ∀ r : Int, ¬ r = o + op dep → zs th (o + op dep) (o + nl - (o + op dep) - 1) r = th r := fun r q => zs_neg q
  have tp : zs th (o + op dep) (o + nl - (o + op dep) - 1) (o + op dep) = nl - op dep - 1 := by rw [zs_pos rfl]; omega
  have lt : ∀ j : Int, 1 ≤ j → j ≤ dep - 1 → op j < op dep := fun j j0 j1 => by
    have a := gST_st h (j := j) j0 (by omega)
    have b := gST_in h (j := j) (by omega) (by omega)
    have e : enL dep nl op j = op (j + 1) := if_neg (by omega)
    have c := gST_opl h (j := j + 1) (by omega) (by omega)
    omega
  have cg : ∀ (lv b x u : Int), (u ≤ o + op dep ∨ o + op dep < x) → yE DP BR th el o lv b x u → yE DP BR (zs th (o + op dep) (o + nl - (o + op dep) - 1)) el o lv b x u := fun lv b x u hy q => yE_cg q (fun r r0 r1 => ⟨⟨rfl, rfl⟩, tz _ (by omega), rfl⟩)
  have bz : ∀ j : Int, ¬ j = dep → zs br dep 1 j = br j := fun j q => zs_neg q
  refine ⟨h.1, fun j j0 j1 => ?_, fun j j0 j1 => ?_⟩
  · unfold opnL
    rw [oz j]
    by_cases c : j = dep
    · subst c
      rw [zs_pos rfl, bz _ (by omega), zs_pos rfl, tp]
      refine ⟨z1, z.2.1, Or.inr rfl, z.2.2.2.1, fun q => by omega, fun _ => ⟨h7, rfl, by omega, ?_⟩, z.2.2.2.2.2.2⟩
      rw [show o + op j + 1 + (nl - op j - 1) = o + nl by omega, show o + op j + 1 = o + (op j + 1) by omega]
      exact cg _ _ _ _ (Or.inr (by omega)) y
    · obtain ⟨a1, a2, a3, a4, a5, a6, a7⟩ := h.2.1 j j0 j1
      have l := lt j j0 (by omega)
      rw [bz j c, bz (j - 1) (by omega), tz _ (by omega), zs_neg (by omega : ¬ op j = op dep)]
      refine ⟨a1, a2, a3, a4, a5, fun q => ?_, a7⟩
      obtain ⟨a, b, c', d⟩ := a6 q
      refine ⟨a, b, c', cg _ _ _ _ (Or.inl ?_) d⟩
      have i1 := gST_in h (j := j) (by omega) (by omega)
      have e1 : stL F op br th o j = op j + 1 + th (o + op j) := (if_neg (by omega)).trans (if_neg (by omega))
      have e : enL dep nl op j = op (j + 1) := if_neg (by omega)
      have c'' := gST_opl h (j := j + 1) (by omega) (by omega)
      omega
  · by_cases c : j = dep
    · subst c
      have e1 : stL F (zs op j (op j)) (zs br j 1) (zs th (o + op j) (o + nl - (o + op j) - 1)) o j = nl := by
        unfold stL
        rw [if_neg (by omega), zs_pos rfl, if_neg (by decide), oz j, tp]; omega
      rw [e1, enL_dep]
      exact yE_nil
    · have u := h.2.2 j j0 j1
      have i1 := gST_in h (j := j) j0 j1
      have e3 : enL dep nl (zs op dep (op dep)) j = enL dep nl op j := by unfold enL; rw [oz]
      have e4 : brv j (zs br dep 1) = brv j br := by unfold brv; rw [bz j c]
      have e5 : stL F (zs op dep (op dep)) (zs br dep 1) (zs th (o + op dep) (o + nl - (o + op dep) - 1)) o j = stL F op br th o j := by
        unfold stL
        by_cases e : j = 0
        · rw [if_pos e, if_pos e]
        · rw [if_neg e, if_neg e, oz j, bz j c, tz _ (by have := lt j (by omega) (by omega); omega)]
      rw [e3, e4, e5]
      have e : enL dep nl op j = op (j + 1) := if_neg c
      have c2 := gST_opl h (j := j + 1) (by omega) (by omega)
      exact cg _ _ _ _ (Or.inl (by omega)) u
/-- all lines of a function whose blocks are closed -/
theorem gST_end (h : gST K WE DP BR op br 0 F nl o th el) : yE DP BR th el o 0 0 (o + F) (o + nl) := h.2.2 0 (Int.le_refl _) (Int.le_refl _)
end
/-! Rows alike, operands, lines and sites while they are read -/
def al (r r' : Int → Int) (o n : Int) : Prop := ∀ l : Int, 0 ≤ l → l < n → r l = r' (o + l)
section
variable {r r' : Int → Int} {o n x : Int}
theorem al_add (h : al r r' o n) : al (zs r n x) (zs r' (o + n) x) o (n + 1) := fun l l0 l1 => by
  by_cases e : l = n
  · subst e; rw [zs_pos rfl, zs_pos rfl]
  · rw [zs_neg e, zs_neg (by omega)]; exact h l l0 (by omega)
theorem al_set (h : al r r' o n) {k : Int} : al (zs r k x) (zs r' (o + k) x) o n := fun l l0 l1 => by
  by_cases e : l = k
  · subst e; rw [zs_pos rfl, zs_pos rfl]
  · rw [zs_neg e, zs_neg (by omega)]; exact h l l0 l1
theorem al_put (h : al r r' o n) {k j i : Int} : al (pO j i r k x) (pO j i r' (o + k) x) o n := by
  unfold pO
  split
  · exact al_set h
  · exact h
end
def opk (v x : Int) : Prop := (0 ≤ x ∧ x < 1000) ∨ (-10 - v < x ∧ x ≤ -10)
def opn (v x : Int) : Prop := x = -2 ∨ opk v x
theorem opk_up {v w x : Int} (h : v ≤ w) (q : opk v x) : opk w x := by unfold opk at q ⊢; omega
theorem opn_up {v w x : Int} (h : v ≤ w) (q : opn v x) : opn w x := by unfold opn opk at q ⊢; omega
def gVA (v : Int) (nm r5 : Int → Int) (x : Int) : Prop := (0 ≤ v ∧ v ≤ 8) ∧ x = v ∧ ∀ j : Int, 0 ≤ j → j < v → nm j = r5 j
section
variable {v x : Int} {nm r5 : Int → Int}
theorem gVA_fnd (h : gVA v nm r5 x) (w : Int) : fnd r5 w x = fnd nm w v := by
  rw [h.2.1]
  exact (fnd_cg h.1.1 h.2.2).symm
theorem gVA_o (h : gVA v nm r5 x) (s w : Int) : (oOK s w r5 x ↔ oOK s w nm v) ∧ oV s w r5 x = oV s w nm v := by
  have e := gVA_fnd h w
  have e2 := h.2.1
  unfold oOK oV
  rw [e, e2]
  exact ⟨Iff.rfl, rfl⟩
theorem gVA_on (h : gVA v nm r5 x) {s w : Int} (ok : oOK s w nm v) : gVA (oN s w nm v) (oR s w nm v) (oR s w r5 x) (oN s w r5 x) := by
  have e := gVA_fnd h w
  have b := oN_in (s := s) (v := w) (r := nm) (m := v) h.1 ok
  refine ⟨⟨b.1, b.2.1⟩, ?_, fun j j0 j1 => ?_⟩
  · unfold oN; rw [e, h.2.1]
  · unfold oN at j1
    unfold oR
    rw [e]
    split
    · rename_i c; rw [if_pos c] at j1; exact h.2.2 j j0 j1
    · rename_i c; rw [if_neg c] at j1
      rw [h.2.1]
      by_cases q : j = v
      · rw [zs_pos q, zs_pos q]
      · rw [zs_neg q, zs_neg q]; exact h.2.2 j j0 (by omega)
theorem oV_opk {s w : Int} (h : 0 ≤ v ∧ v ≤ 8) (ok : oOK s w nm v) (hw : s = -4 → 0 ≤ w) : opk (oN s w nm v) (oV s w nm v) ∧ v ≤ oN s w nm v := by
  have f := fnd_in (r := nm) (w := w) (m := v) h.1
  unfold oOK at ok
  unfold opk oN oV
  by_cases c : s = -4
  · rw [if_pos (Or.inl c), if_pos c]; have := hw c; omega
  · by_cases c2 : 0 ≤ fnd nm w v
    · rw [if_pos (Or.inr c2), if_neg c, if_pos c2]; omega
    · rw [if_neg (show ¬ (s = -4 ∨ 0 ≤ fnd nm w v) by omega), if_neg c, if_neg c2]; omega
theorem gVA_v (h : gVA v nm r5 x) (w : Int) : (vOK r5 w x ↔ vOK nm w v) ∧ vV r5 w x = vV nm w v := by
  have e := gVA_fnd h w
  have e2 := h.2.1
  unfold vOK vV
  rw [e, e2]
  exact ⟨Iff.rfl, rfl⟩
theorem gVA_vn (h : gVA v nm r5 x) {w : Int} (ok : vOK nm w v) : gVA (vN nm w v) (vRw nm w v) (vRw r5 w x) (vN r5 w x) := by
  have e := gVA_fnd h w
  have hb := h.1
  unfold vOK at ok
  refine ⟨?_, ?_, fun j j0 j1 => ?_⟩
  · unfold vN; split <;> omega
  · unfold vN; rw [e, h.2.1]
  · unfold vN at j1
    unfold vRw
    rw [e]
    split
    · rename_i c; rw [if_pos c] at j1; exact h.2.2 j j0 j1
    · rename_i c; rw [if_neg c] at j1
      rw [h.2.1]
      by_cases q : j = v
      · rw [zs_pos q, zs_pos q]
      · rw [zs_neg q, zs_neg q]; exact h.2.2 j j0 (by omega)
theorem vV_in {w : Int} (h : 0 ≤ v ∧ v ≤ 8) : (0 ≤ vV nm w v ∧ vV nm w v < vN nm w v) ∧ v ≤ vN nm w v := by
  have f := fnd_in (r := nm) (w := w) (m := v) h.1
  unfold vV vN
  by_cases c : 0 ≤ fnd nm w v
  · rw [if_pos c, if_pos c]; omega
  · rw [if_neg c, if_neg c]; omega
end
/-- what is told of a line that is complete; v: how many variables there are -/
def lk (v : Int) (K TG FI SE TH SI cO : Int → Int) (l : Int) : Prop :=
  (0 ≤ K l ∧ K l ≤ 9) ∧ (¬ K l = 6 → opk v (FI l)) ∧ ((1 ≤ K l ∧ K l ≤ 5) → opk v (SE l)) ∧ (K l ≤ 6 → 0 ≤ TG l ∧ TG l < v) ∧ (K l = 0 → SE l = -2) ∧ (7 ≤ K l → TG l = -2) ∧
  (K l = 6 → (0 < cO (SI l) → opk v (FI l)) ∧ (1 < cO (SI l) → opk v (SE l)) ∧ (2 < cO (SI l) → opk v (TH l))) ∧ (opn v (FI l) ∧ opn v (SE l) ∧ opn v (TH l))
theorem lk_up {v w : Int} (hv : v ≤ w) {K TG FI SE TH SI cO : Int → Int} {l : Int} (h : lk v K TG FI SE TH SI cO l) : lk w K TG FI SE TH SI cO l := by
  obtain ⟨a, b, c, d, e, f, g, i⟩ := h
  exact ⟨a, fun q => opk_up hv (b q), fun q => opk_up hv (c q), fun q => by have := d q; omega, e, f, fun q => ⟨fun z => opk_up hv ((g q).1 z), fun z => opk_up hv ((g q).2.1 z), fun z => opk_up hv ((g q).2.2 z)⟩, opn_up hv i.1, opn_up hv i.2.1, opn_up hv i.2.2⟩
theorem lk_cg {v : Int} {K TG FI SE TH SI cO K' TG' FI' SE' TH' SI' cO' : Int → Int} {l : Int} (h : lk v K TG FI SE TH SI cO l) (e : K' l = K l ∧ TG' l = TG l ∧ FI' l = FI l ∧ SE' l = SE l ∧ TH' l = TH l ∧ SI' l = SI l) (c : K l = 6 → cO' (SI l) = cO (SI l)) : lk v K' TG' FI' SE' TH' SI' cO' l := by
  unfold lk at h ⊢
  obtain ⟨e1, e2, e3, e4, e5, e6⟩ := e
  rw [e1, e2, e3, e4, e5, e6]
  obtain ⟨a, b, c', d, e, f, g, i⟩ := h
  exact ⟨a, b, c', d, e, f, fun q => by rw [c q]; exact g q, i⟩
def fx (g nl : Int) (K WE DP th el : Int → Int) (o l : Int) : Prop := (WE l = 0 ∨ WE l = 1) ∧ (WE l = 1 → K l = 7) ∧ (WE l = 0 → el (o + l) = 0) ∧ (¬ (K l = 7 ∨ K l = 8) → th (o + l) = 0 ∧ el (o + l) = 0) ∧ (0 ≤ DP l ∧ DP l ≤ 4) ∧ (K l = 9 → g = 1 ∧ l = nl - 1 ∧ DP l = 0)
/-- how many calls stand ahead of a line -/
def cn6 (K : Int → Int) : Nat → Int
  | 0 => 0
  | n + 1 => cn6 K n + (if K n = 6 then 1 else 0)
theorem cn6_cg {K K' : Int → Int} : ∀ n : Nat, (∀ l : Int, 0 ≤ l → l < (n : Int) → K' l = K l) → cn6 K' n = cn6 K n
  | 0, _ => rfl
  | n + 1, h => by
    show cn6 K' n + (if K' n = 6 then 1 else 0) = cn6 K n + (if K n = 6 then 1 else 0)
    rw [cn6_cg n (fun l a b => h l a (by omega)), h n (by omega) (by omega)]
theorem cn6_suc {K : Int → Int} {n : Int} (h : 0 ≤ n) : cn6 K (n + 1).toNat = cn6 K n.toNat + (if K n = 6 then 1 else 0) := by
  rw [show (n + 1).toNat = n.toNat + 1 by omega]
  show cn6 K n.toNat + (if K (n.toNat : Int) = 6 then 1 else 0) = _
  rw [show (n.toNat : Int) = n by omega]
theorem cn6_le {K : Int → Int} (a : Nat) : ∀ b : Nat, a ≤ b → cn6 K a ≤ cn6 K b := by
  intro b
  induction b with
  | zero => intro h; rw [show a = 0 by omega]; exact Int.le_refl _
  | succ b ih =>
    intro h
    by_cases e : a = b + 1
    · rw [e]; exact Int.le_refl _
    · have z := ih (by omega)
      show cn6 K a ≤ cn6 K b + (if K b = 6 then 1 else 0)
      split <;> omega
theorem cn6_0 {K : Int → Int} : ∀ n : Nat, 0 ≤ cn6 K n := fun n => cn6_le 0 n (by omega)
theorem hma_cg {kd ar kd' ar' dp : Int → Int} {w : Int} : ∀ (k : Nat) (l : Int), dp l = (k : Int) → (∀ i : Int, 0 ≤ i → i < l → kd' i = kd i) → (∀ i : Int, 0 ≤ i → i ≤ l → ar' i = ar i) → (∀ i : Int, 0 ≤ i → i ≤ l → 0 < dp i → 0 ≤ ar i ∧ ar i < i ∧ dp (ar i) = dp i - 1) → 0 ≤ l → hma kd' ar' w k l = hma kd ar w k l
  | 0, _, _, _, _, _, _ => rfl
  | k + 1, l, hd, h1, h2, h3, h0 => by
    have z := h3 l h0 (Int.le_refl _) (by omega)
    have e := h2 l h0 (Int.le_refl _)
    show (if kd' (ar' l) = w then 1 else 0) + hma kd' ar' w k (ar' l) = (if kd (ar l) = w then 1 else 0) + hma kd ar w k (ar l)
    rw [e, h1 _ z.1 z.2.1, hma_cg (dp := dp) k (ar l) (by omega) (fun i a b => h1 i a (by omega)) (fun i a b => h2 i a (by omega)) (fun i a b c => h3 i a (by omega) c) z.1]
def st1 (K SI DP AR : Int → Int) (nl nf o b : Int) (fS sI sL sM cN cP cO r2 r3 r4 r5 r6 r7 r8 r9 : Int → Int) (s : Int) : Prop :=
  ((0 ≤ sL s ∧ sL s < nl) ∧ K (sL s) = 6 ∧ SI (sL s) = s) ∧ ((0 ≤ sI s ∧ sI s < nf) ∧ ∀ g : Int, 0 ≤ g → g < nf → (fS g ≤ s ↔ g ≤ sI s)) ∧ ((0 ≤ sM s ∧ sM s ≤ cO s) ∧ (0 ≤ cP s ∧ cP s ≤ 400) ∧ 0 ≤ cO s ∧ cO s ≤ 400) ∧
  r2 (b + s) = o + sL s ∧ r3 (b + s) = hma K AR 8 (DP (sL s)).toNat (sL s) ∧ r4 (b + s) = hma K AR 7 (DP (sL s)).toNat (sL s) ∧ r5 (b + s) = cO s ∧ r6 (b + s) = cP s ∧ r7 (b + s) = sM s ∧ r8 (b + s) = sI s ∧ r9 (b + s) = cN s
def gSI (K SI DP AR : Int → Int) (nl ns nf o b : Int) (fS sI sL sM cN cP cO r2 r3 r4 r5 r6 r7 r8 r9 : Int → Int) : Prop :=
  ns = cn6 K nl.toNat ∧ (∀ l : Int, 0 ≤ l → l < nl → (K l = 6 → SI l = cn6 K l.toNat ∧ 0 ≤ SI l ∧ SI l < ns) ∧ (¬ K l = 6 → SI l = -2)) ∧ (∀ s : Int, 0 ≤ s → s < ns → st1 K SI DP AR nl nf o b fS sI sL sM cN cP cO r2 r3 r4 r5 r6 r7 r8 r9 s) ∧ ∀ g : Int, 0 ≤ g → g < nf → fS g ≤ ns
section
variable {K SI DP AR fS sI sL sM cN cP cO r2 r3 r4 r5 r6 r7 r8 r9 : Int → Int} {nl ns nf o b : Int}
/-- a line more, which is no call -/
theorem gSI_line (h : gSI K SI DP AR nl ns nf o b fS sI sL sM cN cP cO r2 r3 r4 r5 r6 r7 r8 r9) (hn : 0 ≤ nl) (hc : ∀ i : Int, 0 ≤ i → i < nl → 0 ≤ DP i ∧ (0 < DP i → 0 ≤ AR i ∧ AR i < i ∧ DP (AR i) = DP i - 1)) {k d a : Int} (hk : ¬ k = 6) : gSI (zs K nl k) (zs SI nl (-2)) (zs DP nl d) (zs AR nl a) (nl + 1) ns nf o b fS sI sL sM cN cP cO r2 r3 r4 r5 r6 r7 r8 r9 := by
  obtain ⟨h1, h2, h3, h4⟩ := h
  have kz : ∀ l : Int, l < nl → zs K nl k l = K l := fun l z => zs_neg (by omega)
  have cz : ∀ l : Int, l ≤ nl → cn6 (zs K nl k) l.toNat = cn6 K l.toNat := fun l z => cn6_cg _ (fun j a b => kz j (by omega))
  refine ⟨?_, fun l l0 l1 => ?_, fun s s0 s1 => ?_, h4⟩
  · rw [cn6_suc hn, cz nl (Int.le_refl _), zs_pos rfl, if_neg hk, h1]; omega
  · by_cases e : l = nl
    · subst e
      rw [zs_pos rfl, zs_pos rfl]
      exact ⟨fun q => absurd q hk, fun _ => rfl⟩
    · rw [kz l (by omega), zs_neg e, cz l (by omega)]
      exact h2 l l0 (by omega)
  · obtain ⟨⟨a1, a2, a3⟩, a4, a5, a6, a7, a8, a9⟩ := h3 s s0 s1
    have hm : ∀ w : Int, hma (zs K nl k) (zs AR nl a) w (DP (sL s)).toNat (sL s) = hma K AR w (DP (sL s)).toNat (sL s) := fun w => hma_cg (dp := DP) _ _ (by have := (hc _ a1.1 a1.2).1; omega) (fun i _ i1 => kz i (by omega)) (fun i _ i1 => zs_neg (by omega)) (fun i i0 i1 q => (hc i i0 (by omega)).2 q) a1.1
    unfold st1
    rw [kz _ a1.2, zs_neg (show ¬ sL s = nl by omega), zs_neg (show ¬ sL s = nl by omega), hm, hm]
    exact ⟨⟨⟨a1.1, by omega⟩, a2, a3⟩, a4, a5, a6, a7, a8, a9⟩
/-- the last line, which is no call, becomes another one -/
theorem gSI_kind (h : gSI K SI DP AR (nl + 1) ns nf o b fS sI sL sM cN cP cO r2 r3 r4 r5 r6 r7 r8 r9) (hn : 0 ≤ nl) (hc : ∀ i : Int, 0 ≤ i → i < nl + 1 → 0 ≤ DP i ∧ (0 < DP i → 0 ≤ AR i ∧ AR i < i ∧ DP (AR i) = DP i - 1)) {k : Int} (h0 : ¬ K nl = 6) (hk : ¬ k = 6) : gSI (zs K nl k) SI DP AR (nl + 1) ns nf o b fS sI sL sM cN cP cO r2 r3 r4 r5 r6 r7 r8 r9 := by
  obtain ⟨h1, h2, h3, h4⟩ := h
  have kz : ∀ l : Int, ¬ l = nl → zs K nl k l = K l := fun l z => zs_neg z
  have cz : ∀ l : Int, l ≤ nl → cn6 (zs K nl k) l.toNat = cn6 K l.toNat := fun l z => cn6_cg _ (fun j a b => kz j (by omega))
  refine ⟨?_, fun l l0 l1 => ?_, fun s s0 s1 => ?_, h4⟩
  · rw [cn6_suc hn, cz nl (Int.le_refl _), zs_pos rfl, if_neg hk]
    rw [cn6_suc hn, if_neg h0] at h1
    exact h1
  · by_cases e : l = nl
    · subst e
      rw [zs_pos rfl]
      exact ⟨fun q => absurd q hk, fun _ => (h2 l l0 l1).2 h0⟩
    · rw [kz l e, cz l (by omega)]
      exact h2 l l0 (by omega)
  · obtain ⟨⟨a1, a2, a3⟩, a4, a5, a6, a7, a8, a9⟩ := h3 s s0 s1
    have ne : ¬ sL s = nl := fun z => h0 (z ▸ a2)
    have hm : ∀ w : Int, hma (zs K nl k) AR w (DP (sL s)).toNat (sL s) = hma K AR w (DP (sL s)).toNat (sL s) := fun w => hma_cg (dp := DP) _ _ (by have := (hc _ a1.1 a1.2).1; omega) (fun i _ i1 => kz i (by omega)) (fun i _ i1 => rfl) (fun i i0 i1 q => (hc i i0 (by omega)).2 q) a1.1
    unfold st1
    rw [kz _ ne, hm, hm]
    exact ⟨⟨a1, a2, a3⟩, a4, a5, a6, a7, a8, a9⟩
/-- the last line becomes a call -/
theorem gSI_call (h : gSI K SI DP AR (nl + 1) ns nf o b fS sI sL sM cN cP cO r2 r3 r4 r5 r6 r7 r8 r9) (hn : 0 ≤ nl) (hc : ∀ i : Int, 0 ≤ i → i < nl + 1 → 0 ≤ DP i ∧ (0 < DP i → 0 ≤ AR i ∧ AR i < i ∧ DP (AR i) = DP i - 1)) (h0 : ¬ K nl = 6) (hs : 0 ≤ ns) {x w p : Int} (hx : 0 ≤ x ∧ x = nf - 1) (hp : 0 ≤ p ∧ p ≤ 400) {u8 u7 : Int} (e8 : u8 = hma K AR 8 (DP nl).toNat nl) (e7 : u7 = hma K AR 7 (DP nl).toNat nl) :
    gSI (zs K nl 6) (zs SI nl ns) DP AR (nl + 1) (ns + 1) nf o b fS (zs sI ns x) (zs sL ns nl) (zs sM ns 0) (zs cN ns w) (zs cP ns p) (zs cO ns 0) (zs r2 (b + ns) (o + nl)) (zs r3 (b + ns) u8) (zs r4 (b + ns) u7) (zs r5 (b + ns) 0) (zs r6 (b + ns) p) (zs r7 (b + ns) 0) (zs r8 (b + ns) x) (zs r9 (b + ns) w) := by
  obtain ⟨h1, h2, h3, h4⟩ := h
  have kz : ∀ l : Int, ¬ l = nl → zs K nl 6 l = K l := fun l z => zs_neg z
  have cz : ∀ l : Int, l ≤ nl → cn6 (zs K nl 6) l.toNat = cn6 K l.toNat := fun l z => cn6_cg _ (fun j a b => kz j (by omega))
  have c1 : ns = cn6 K nl.toNat := by rw [cn6_suc hn, if_neg h0] at h1; omega
  have hm : ∀ (w l : Int), 0 ≤ l → l < nl + 1 → hma (zs K nl 6) AR w (DP l).toNat l = hma K AR w (DP l).toNat l := fun w l l0 l1 => hma_cg (dp := DP) _ _ (by have := (hc _ l0 l1).1; omega) (fun i _ i1 => kz i (by omega)) (fun i _ i1 => rfl) (fun i i0 i1 q => (hc i i0 (by omega)).2 q) l0
  refine ⟨?_, fun l l0 l1 => ?_, fun s s0 s1 => ?_, fun g g0 g1 => by have := h4 g g0 g1; omega⟩
  · rw [cn6_suc hn, cz nl (Int.le_refl _), zs_pos rfl, if_pos rfl]; omega
  · by_cases e : l = nl
    · subst e
      rw [zs_pos rfl, zs_pos rfl, cz l (Int.le_refl _)]
      exact ⟨fun _ => ⟨c1, by omega, by omega⟩, fun q => absurd rfl q⟩
    · rw [kz l e, cz l (by omega), zs_neg e]
      have z := h2 l l0 (by omega)
      exact ⟨fun q => by have := z.1 q; omega, z.2⟩
  · by_cases e : s = ns
    · subst e
      unfold st1
      repeat rw [zs_pos (f := sI) rfl]
      rw [zs_pos (f := sL) rfl, zs_pos (f := sM) rfl, zs_pos (f := cP) rfl, zs_pos (f := cO) rfl, zs_pos (f := cN) rfl, zs_pos (f := r2) rfl, zs_pos (f := r3) rfl, zs_pos (f := r4) rfl, zs_pos (f := r5) rfl, zs_pos (f := r6) rfl, zs_pos (f := r7) rfl, zs_pos (f := r8) rfl, zs_pos (f := r9) rfl, zs_pos (f := K) rfl, zs_pos (f := SI) rfl, hm _ _ hn (by omega), hm _ _ hn (by omega)]
      exact ⟨⟨⟨hn, by omega⟩, rfl, rfl⟩, ⟨⟨hx.1, by omega⟩, fun g g0 g1 => by have := h4 g g0 g1; omega⟩, ⟨⟨by omega, by omega⟩, hp, by omega, by omega⟩, rfl, e8, e7, rfl, rfl, rfl, rfl, rfl⟩
    · obtain ⟨⟨a1, a2, a3⟩, a4, a5, a6, a7, a8, a9⟩ := h3 s s0 (by omega)
      have ne : ¬ sL s = nl := fun z => h0 (z ▸ a2)
      have eb : ¬ b + s = b + ns := by omega
      unfold st1
      rw [zs_neg (f := sL) e, zs_neg (f := sI) e, zs_neg (f := sM) e, zs_neg (f := cP) e, zs_neg (f := cO) e, zs_neg (f := cN) e, zs_neg (f := r2) eb, zs_neg (f := r3) eb, zs_neg (f := r4) eb, zs_neg (f := r5) eb, zs_neg (f := r6) eb, zs_neg (f := r7) eb, zs_neg (f := r8) eb, zs_neg (f := r9) eb, kz _ ne, zs_neg (f := SI) ne, hm _ _ a1.1 a1.2, hm _ _ a1.1 a1.2]
      exact ⟨⟨a1, a2, a3⟩, a4, a5, a6, a7, a8, a9⟩
/-- an operand of the last call -/
theorem gSI_arg (h : gSI K SI DP AR nl (ns + 1) nf o b fS sI sL sM cN cP cO r2 r3 r4 r5 r6 r7 r8 r9) (hs : 0 ≤ ns) {k m : Int} (hk : cO ns ≤ k ∧ k ≤ 400) (hm : 0 ≤ m ∧ m ≤ k) : gSI K SI DP AR nl (ns + 1) nf o b fS sI sL (zs sM ns m) cN cP (zs cO ns k) r2 r3 r4 (zs r5 (b + ns) k) r6 (zs r7 (b + ns) m) r8 r9 := by
  obtain ⟨h1, h2, h3, h4⟩ := h
  refine ⟨h1, h2, fun s s0 s1 => ?_, h4⟩
  obtain ⟨a1, a2, a3, a4, a5, a6, a7, a8, a9⟩ := h3 s s0 s1
  unfold st1
  by_cases e : s = ns
  · subst e
    rw [zs_pos (f := sM) rfl, zs_pos (f := cO) rfl, zs_pos (f := r5) rfl, zs_pos (f := r7) rfl]
    exact ⟨a1, a2, ⟨hm, a3.2.1, by omega, hk.2⟩, a4, a5, a6, rfl, a8, rfl, a9.2⟩
  · have eb : ¬ b + s = b + ns := by omega
    rw [zs_neg (f := sM) e, zs_neg (f := cO) e, zs_neg (f := r5) eb, zs_neg (f := r7) eb]
    exact ⟨a1, a2, a3, a4, a5, a6, a7, a8, a9⟩
end
section
variable {g nl o : Int} {K WE DP th el : Int → Int}
theorem fx_add {F : Int} (h : ∀ l : Int, F ≤ l → l < nl → fx 0 nl K WE DP th el o l) {k d : Int} (hk : k = 9 → g = 1 ∧ d = 0) (hd : 0 ≤ d ∧ d ≤ 4) : ∀ l : Int, F ≤ l → l < nl + 1 → fx g (nl + 1) (zs K nl k) (zs WE nl 0) (zs DP nl d) (zs th (o + nl) 0) (zs el (o + nl) 0) o l := fun l l0 l1 => by
  unfold fx
  by_cases e : l = nl
  · subst e
    rw [zs_pos (f := K) rfl, zs_pos (f := WE) rfl, zs_pos (f := DP) rfl, zs_pos (f := th) rfl, zs_pos (f := el) rfl]
    exact ⟨Or.inl rfl, fun q => absurd q (by decide), fun _ => rfl, fun _ => ⟨rfl, rfl⟩, hd, fun q => ⟨(hk q).1, by omega, (hk q).2⟩⟩
  · have z := h l l0 (by omega)
    unfold fx at z
    have eo : ¬ o + l = o + nl := by omega
    rw [zs_neg (f := K) e, zs_neg (f := WE) e, zs_neg (f := DP) e, zs_neg (f := th) eo, zs_neg (f := el) eo]
    obtain ⟨z1, z2, z3, z4, z5, z6⟩ := z
    exact ⟨z1, z2, z3, z4, z5, fun q => absurd (z6 q).1 (by decide)⟩
end
theorem cL_ex {dp br mi en ar la : Int → Int} {n d b : Int} (h : cL dp br mi en ar la n) (p : cP dp mi la n d b) : ∃ mi' en' : Int → Int, cL (zs dp n d) (zs br n b) mi' en' (zs ar n (arv d la)) (zs la d n) (n + 1) := ⟨_, _, cL_add h p (a := arv d la) (fun z => if_neg (by omega))⟩
def gTK (tx so st va : Int → Int) (N i : Int) (ty : Int → Int) (n q k5 k6 k7 k8 k9 k10 : Int) : Prop := tkC tx ty n N so st va ∧ (0 ≤ i ∧ i ≤ N) ∧ q = psT (cB tx n) n (i + 1) ∧ tkR (so i) (st i) (va i) k6 k5 k7 k8 k9 k10
def gCU (b now nf ns nl v g : Int) (fN fL fP fF fS fG : Int → Int) (y11 y12 y69 y70 y71 y72 y73 y75 y76 y77 y78 y79 : Int) : Prop :=
  (y11 = b ∧ y12 = now) ∧ ((0 ≤ b ∧ b ≤ 1) ∧ 0 ≤ now ∧ now ≤ 7) ∧ (nf = now + 1 ∧ y69 = nf) ∧ (y70 = nl ∧ 0 ≤ nl ∧ nl ≤ 60) ∧ (y71 = ns ∧ 0 ≤ ns ∧ ns ≤ 16) ∧
  (y75 = fF now ∧ 0 ≤ fF now ∧ fF now ≤ nl ∧ y76 = nl - fF now) ∧ (y77 = fS now ∧ 0 ≤ fS now ∧ fS now ≤ ns ∧ y78 = ns - fS now) ∧ (y73 = fP now ∧ 0 ≤ fP now ∧ fP now ≤ 3 ∧ fP now ≤ v) ∧
  (y72 = fN now ∧ 0 < fN now ∧ fN now < 1073741824 ∧ fL now = nlet (fN now)) ∧ (y79 = g ∧ (g = 0 ∨ g = 1) ∧ (g = 0 → fG now = -2))
def gLI (nl o : Int) (K TG FI SE TH SI DP WE r0 r1 r2 r3 r4 r5 r6 r7 r11 : Int → Int) : Prop :=
  al K r0 o nl ∧ al TG r1 o nl ∧ al FI r2 o nl ∧ al SE r3 o nl ∧ al TH r4 o nl ∧ (∀ l : Int, 0 ≤ l → l < nl → r5 (o + l) = -2) ∧ al SI r6 o nl ∧ al DP r7 o nl ∧ al WE r11 o nl
def gCL (DP BR MI EN AR LA : Int → Int) (nl : Int) (op br : Int → Int) (dep o y47 : Int) (w1 w2 : Int → Int) : Prop :=
  cL DP BR MI EN AR LA nl ∧ (0 ≤ dep ∧ dep ≤ 4 ∧ y47 = dep + 1) ∧ w1 0 = -1 ∧ ∀ j : Int, 1 ≤ j → j ≤ dep → LA (j - 1) = op j ∧ w1 j = o + op j ∧ w2 j = br j
def gFA (v : Int) (K TG FI SE TH SI cO : Int → Int) (F c nl : Int) : Prop := c ≤ nl ∧ ∀ l : Int, F ≤ l → l < c → lk v K TG FI SE TH SI cO l
/-- both readers are at one place of the text, and alike; c: lines up to there are complete, gg: give was begun -/
def RL (b : Int) (now : Int) (tx : Int → Int) (N : Int) (so : Int → Int) (st : Int → Int) (va : Int → Int) (i : Int) (v : Int) (nm : Int → Int) (nf : Int) (ns : Int) (nl : Int) (dep : Int) (op : Int → Int) (br : Int → Int) (cN : Int → Int) (cP : Int → Int) (cO : Int → Int) (sI : Int → Int) (sL : Int → Int) (sM : Int → Int) (fN : Int → Int) (fL : Int → Int) (fP : Int → Int) (fF : Int → Int) (fS : Int → Int) (fG : Int → Int) (K : Int → Int) (TG : Int → Int) (FI : Int → Int) (SE : Int → Int) (TH : Int → Int) (SI : Int → Int) (DP : Int → Int) (BR : Int → Int) (WE : Int → Int) (MI : Int → Int) (EN : Int → Int) (AR : Int → Int) (LA : Int → Int) (g : Int) (gg : Int) (c : Int) (τ : Nat → Int → Int) : Prop :=
  gTK tx so st va N i (τ 468) (τ 467 3) (τ 467 2) (τ 467 5) (τ 467 6) (τ 467 7) (τ 467 8) (τ 467 9) (τ 467 10) ∧
  gCU b now nf ns nl v g fN fL fP fF fS fG (τ 467 11) (τ 467 12) (τ 469 b) (τ 470 b) (τ 471 b) (τ 472 (8 * b + now)) (τ 473 (8 * b + now)) (τ 475 (8 * b + now)) (τ 476 (8 * b + now)) (τ 477 (8 * b + now)) (τ 478 (8 * b + now)) (τ 479 (8 * b + now)) ∧
  gVA v nm (τ 500) (τ 474 (8 * b + now)) ∧
  gLI nl (60 * b) K TG FI SE TH SI DP WE (τ 480) (τ 481) (τ 482) (τ 483) (τ 484) (τ 485) (τ 486) (τ 487) (τ 491) ∧
  gST K WE DP BR op br dep (fF now) nl (60 * b) (τ 488) (τ 489) ∧
  gCL DP BR MI EN AR LA nl op br dep (60 * b) (τ 467 47) (τ 501) (τ 502) ∧
  gFA v K TG FI SE TH SI cO (fF now) c nl ∧
  (∀ l : Int, fF now ≤ l → l < nl → fx gg nl K WE DP (τ 488) (τ 489) (60 * b) l) ∧
  (fF now < nl → τ 488 (60 * b + (nl - 1)) = 0 ∧ τ 489 (60 * b + (nl - 1)) = 0) ∧
  gSI K SI DP AR nl ns nf (60 * b) (16 * b) fS sI sL sM cN cP cO (τ 492) (τ 493) (τ 494) (τ 495) (τ 496) (τ 497) (τ 498) (τ 499)
