/-! best: places in order, each ahead of those below it -/
section
variable {up a g bs pos : Int → Int} {n : Int} {Z : Int → Int → Int → Prop}
theorem Z_join {j : Int} (hn : 0 ≤ n) (j0 : 0 ≤ j) (jn : j ≤ n)
    (hp : ∀ c : Int, 1 ≤ c → c ≤ n → up c = j → pos c = pos j + 1 + tsum (fun i => if up i = j then bs i else 0) (c - 1).toNat)
    (hb : bs j = 1 + tsum (fun i => if up i = j then bs i else 0) n.toNat)
    (hZ : ∀ c : Int, j < c → c ≤ n → up c = j → rEq (Z (pos c)) (rAdd (rOpt (pP up a g n (n - c).toNat c)) (Z (pos c + bs c)))) :
    ∀ (t : Nat), (t : Int) ≤ n - j → rEq (rAdd (rOne (a j) (g j)) (Z (pos j + 1 + tsum (fun i => if up i = j then bs i else 0) (n - t).toNat))) (rAdd (pP up a g n t j) (Z (pos j + bs j))) := by
  intro t
  induction t with
  | zero =>
    intro _
    have e : pos j + 1 + tsum (fun i => if up i = j then bs i else 0) (n - ((0 : Nat) : Int)).toNat = pos j + bs j := by
      rw [show (n - ((0 : Nat) : Int)).toNat = n.toNat by omega]; omega
    rw [e]
    exact rEq_refl _
  | succ t ih =>
    intro ht
    have i := ih (by omega)
    have e : tsum (fun i => if up i = j then bs i else 0) (n - t).toNat = tsum (fun i => if up i = j then bs i else 0) (n - ((t + 1 : Nat) : Int)).toNat + (if up (n - t) = j then bs (n - t) else 0) := by
      rw [show (n - (t : Int)).toNat = (n - ((t + 1 : Nat) : Int)).toNat + 1 by omega]
      show _ + (if up (((n - ((t + 1 : Nat) : Int)).toNat : Int) + 1) = j then bs (((n - ((t + 1 : Nat) : Int)).toNat : Int) + 1) else 0) = _
      rw [show (((n - ((t + 1 : Nat) : Int)).toNat : Int) + 1) = n - t by omega]
    show rEq _ (rAdd (if up (n - t) = j then rAdd (pP up a g n t j) (rOpt (pP up a g n t (n - t))) else pP up a g n t j) (Z (pos j + bs j)))
    by_cases c : up (n - t) = j
    · rw [if_pos c]
      rw [if_pos c] at e
      have q := hp (n - t) (by omega) (by omega) c
      rw [show (n - (t : Int) - 1).toNat = (n - ((t + 1 : Nat) : Int)).toNat by omega] at q
      have z := hZ (n - t) (by omega) (by omega) c
      rw [show (n - (n - (t : Int))).toNat = t by omega] at z
      rw [← q]
      have e2 : pos (n - t) + bs (n - t) = pos j + 1 + tsum (fun i => if up i = j then bs i else 0) (n - t).toNat := by rw [e, q]; omega
      rw [e2] at z
      refine rEq_trans (rAdd_congr (rEq_refl _) z) ?_
      refine rEq_trans (rEq_symm (rAdd_assoc _ _ _)) ?_
      refine rEq_trans (rAdd_congr (rAdd_comm _ _) (rEq_refl _)) ?_
      refine rEq_trans (rAdd_assoc _ _ _) ?_
      refine rEq_trans (rAdd_congr (rEq_refl _) i) ?_
      refine rEq_trans (rEq_symm (rAdd_assoc _ _ _)) ?_
      exact rAdd_congr (rAdd_comm _ _) (rEq_refl _)
    · rw [if_neg c]
      rw [if_neg c] at e
      rw [show tsum (fun i => if up i = j then bs i else 0) (n - ((t + 1 : Nat) : Int)).toNat = tsum (fun i => if up i = j then bs i else 0) (n - t).toNat by omega]
      exact i
theorem Z_all {j : Int} (hn : 0 ≤ n) (j0 : 0 ≤ j) (jn : j ≤ n) (hu : ∀ c : Int, 1 ≤ c → c ≤ n → 0 ≤ up c ∧ up c < c)
    (hp : ∀ c : Int, 1 ≤ c → c ≤ n → up c = j → pos c = pos j + 1 + tsum (fun i => if up i = j then bs i else 0) (c - 1).toNat)
    (hb : bs j = 1 + tsum (fun i => if up i = j then bs i else 0) n.toNat)
    (hZ : ∀ c : Int, j < c → c ≤ n → up c = j → rEq (Z (pos c)) (rAdd (rOpt (pP up a g n (n - c).toNat c)) (Z (pos c + bs c)))) :
    rEq (rAdd (rOne (a j) (g j)) (Z (pos j + 1))) (rAdd (pP up a g n (n - j).toNat j) (Z (pos j + bs j))) := by
  have z := Z_join hn j0 jn hp hb hZ (n - j).toNat (by omega)
  rw [show (n - ((n - j).toNat : Int)).toNat = j.toNat by omega, tsum_nil j.toNat (fun k k1 k2 => if_neg (by have := hu k k1 (by omega); omega)), show pos j + 1 + 0 = pos j + 1 by omega] at z
  exact z
/-- a branch's own place: with it, or without it and all below it -/
theorem Z_own {j : Int} (hn : 0 ≤ n) (j0 : 0 ≤ j) (jn : j ≤ n) (hu : ∀ c : Int, 1 ≤ c → c ≤ n → 0 ≤ up c ∧ up c < c)
    (hp : ∀ c : Int, 1 ≤ c → c ≤ n → up c = j → pos c = pos j + 1 + tsum (fun i => if up i = j then bs i else 0) (c - 1).toNat)
    (hb : bs j = 1 + tsum (fun i => if up i = j then bs i else 0) n.toNat)
    (hZ : ∀ c : Int, j < c → c ≤ n → up c = j → rEq (Z (pos c)) (rAdd (rOpt (pP up a g n (n - c).toNat c)) (Z (pos c + bs c)))) :
    rEq (fun w u => Z (pos j + bs j) w u ∨ rAdd (rOne (a j) (g j)) (Z (pos j + 1)) w u) (rAdd (rOpt (pP up a g n (n - j).toNat j)) (Z (pos j + bs j))) := fun w u => by
  show (Z (pos j + bs j) w u ∨ rAdd (rOne (a j) (g j)) (Z (pos j + 1)) w u) ↔ _
  rw [rOpt_add, Z_all hn j0 jn hu hp hb hZ w u]
end
/-- the roots' branches are all -/
theorem bs_all {up bs : Int → Int} {n : Int} (hn : 0 ≤ n) (hu : ∀ c : Int, 1 ≤ c → c ≤ n → 0 ≤ up c ∧ up c < c) (hb : ∀ j : Int, 1 ≤ j → j ≤ n → bs j = 1 + tsum (fun i => if up i = j then bs i else 0) n.toNat) : tsum (fun i => if up i = 0 then bs i else 0) n.toNat = n := by
  have s1 : tsum bs n.toNat = tsum (fun _ => 1) n.toNat + tsum (fun j => tsum (fun i => if up i = j then bs i else 0) n.toNat) n.toNat := by
    rw [← tsum_add]
    exact tsum_congr _ (fun k k1 k2 => hb k k1 (by omega))
  have one : ∀ m : Nat, tsum (fun _ => 1) m = m := by
    intro m
    induction m with
    | zero => rfl
    | succ m ih => show tsum (fun _ => 1) m + 1 = _; rw [ih]; omega
  rw [tsum_swap, one] at s1
  have s2 : tsum (fun e => tsum (fun c => if up e = c then bs e else 0) n.toNat) n.toNat = tsum (fun e => if up e = 0 then 0 else bs e) n.toNat := by
    refine tsum_congr _ (fun e e1 e2 => ?_)
    have u := hu e e1 (by omega)
    show tsum (fun c => if up e = c then bs e else 0) n.toNat = if up e = 0 then 0 else bs e
    rw [tsum_one (a := up e) (v := bs e) n.toNat (fun k k1 k2 => by
      show (if up e = k then bs e else 0) = if k = up e then bs e else 0
      by_cases y : up e = k
      · rw [if_pos y, if_pos y.symm]
      · rw [if_neg y, if_neg (fun z => y z.symm)])]
    by_cases y : up e = 0
    · rw [if_pos y, if_neg (by omega)]
    · rw [if_neg y, if_pos (by omega)]
  rw [s2] at s1
  have s3 : tsum bs n.toNat = tsum (fun e => if up e = 0 then 0 else bs e) n.toNat + tsum (fun i => if up i = 0 then bs i else 0) n.toNat := by
    rw [← tsum_add]
    refine tsum_congr _ (fun k k1 k2 => ?_)
    show bs k = (if up k = 0 then 0 else bs k) + (if up k = 0 then bs k else 0)
    split <;> omega
  omega
