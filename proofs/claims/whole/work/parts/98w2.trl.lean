/-! Known numbers: a trail of changes, and taking them back -/
theorem nsum_zs {f : Int → Int} {c v : Int} : ∀ (n : Nat), 0 ≤ c → c < n → nsum (zs f c v) n = nsum f n - f c + v := by
  have out : ∀ (n : Nat), (n : Int) ≤ c → nsum (zs f c v) n = nsum f n := fun n h => nsum_congr n (fun k k0 k1 => zs_neg (by omega))
  intro n
  induction n with
  | zero => intro a b; exfalso; omega
  | succ n ih =>
    intro a b
    show nsum (zs f c v) n + zs f c v n = nsum f n + f n - f c + v
    by_cases e : c = n
    · rw [out n (by omega), zs_pos e.symm, ← e]; omega
    · rw [ih a (by omega), zs_neg (by omega)]; omega
/-- a row with the changes of a trail from a place on taken back -/
def und (tv ts : Int → Int) (t : Int) : Nat → (Int → Int) → Int → Int
  | 0, K => K
  | n + 1, K => und tv ts t n (zs K (tv (t + n)) (ts (t + n)))
section
variable {tv ts : Int → Int}
theorem und_congr {tv' ts' : Int → Int} {t : Int} : ∀ (n : Nat) (K : Int → Int), (∀ j : Int, t ≤ j → j < t + n → tv' j = tv j ∧ ts' j = ts j) → und tv' ts' t n K = und tv ts t n K := by
  intro n
  induction n with
  | zero => intro K _; rfl
  | succ n ih =>
    intro K h
    show und tv' ts' t n (zs K (tv' (t + n)) (ts' (t + n))) = und tv ts t n (zs K (tv (t + n)) (ts (t + n)))
    have z := h (t + n) (by omega) (by omega)
    rw [z.1, z.2]
    exact ih _ (fun j a b => h j a (by omega))
theorem und_app {t : Int} {n : Nat} : ∀ (m : Nat) (K : Int → Int), und tv ts t (n + m) K = und tv ts t n (und tv ts (t + n) m K) := by
  intro m
  induction m with
  | zero => intro K; rfl
  | succ m ih =>
    intro K
    show und tv ts t (n + m) (zs K (tv (t + ((n + m : Nat) : Int))) (ts (t + ((n + m : Nat) : Int)))) = und tv ts t n (und tv ts (t + n) m (zs K (tv (t + n + m)) (ts (t + n + m))))
    rw [ih, show t + ((n + m : Nat) : Int) = t + n + m by omega]
theorem und_out {t v : Int} : ∀ (n : Nat) (K : Int → Int), (∀ j : Int, t ≤ j → j < t + n → ¬ tv j = v) → und tv ts t n K v = K v := by
  intro n
  induction n with
  | zero => intro K _; rfl
  | succ n ih =>
    intro K h
    show und tv ts t n (zs K (tv (t + n)) (ts (t + n))) v = K v
    rw [ih _ (fun j a b => h j a (by omega))]
    exact zs_neg (fun e => h (t + n) (by omega) (by omega) e.symm)
theorem und_first {t v i : Int} : ∀ (n : Nat) (K : Int → Int), t ≤ i → i < t + n → tv i = v → (∀ j : Int, t ≤ j → j < i → ¬ tv j = v) → und tv ts t n K v = ts i := by
  intro n
  induction n with
  | zero => intro K a b; exfalso; omega
  | succ n ih =>
    intro K a b c h
    show und tv ts t n (zs K (tv (t + n)) (ts (t + n))) v = ts i
    by_cases e : i = t + n
    · rw [und_out n _ (fun j a b => h j a (by omega)), zs_pos (by rw [← e]; exact c.symm), e]
    · exact ih _ a (by omega) c h
end
/-- changes told of on a trail: rows are as they were below, the rest takes them back; H holds of what is changed, and no more than B are more -/
def kTr (V T : Int) (K N tv tk tn : Int → Int) (T' : Int) (K' N' tv' tk' tn' : Int → Int) (B : Int) (H : Int → Prop) : Prop :=
  T ≤ T' ∧ (∀ j : Int, j < T → tv' j = tv j ∧ tk' j = tk j ∧ tn' j = tn j) ∧ und tv' tk' T (T' - T).toNat K' = K ∧ und tv' tn' T (T' - T).toNat N' = N ∧ (∀ j : Int, T ≤ j → j < T' → H (tv' j) ∧ (tk' j = 0 ∨ tk' j = 1)) ∧ T' + nsum K' V.toNat ≤ T + nsum K V.toNat + B
def kOK (V : Int) (K N : Int → Int) : Prop := ∀ i : Int, 0 ≤ i → i < V → (K i = 0 ∧ N i = 0) ∨ K i = 1
section
variable {V T T' T2 : Int} {K N tv tk tn K' N' tv' tk' tn' K2 N2 tv2 tk2 tn2 : Int → Int}
theorem kTr_refl {H : Int → Prop} : kTr V T K N tv tk tn T K N tv tk tn 0 H := by
  refine ⟨Int.le_refl _, fun _ _ => ⟨rfl, rfl, rfl⟩, ?_, ?_, fun j a b => by omega, by omega⟩
  · rw [show (T - T).toNat = 0 by omega]; rfl
  · rw [show (T - T).toNat = 0 by omega]; rfl
theorem kTr_trans {B B2 : Int} {H : Int → Prop} (h : kTr V T K N tv tk tn T' K' N' tv' tk' tn' B H) (k : kTr V T' K' N' tv' tk' tn' T2 K2 N2 tv2 tk2 tn2 B2 H) : kTr V T K N tv tk tn T2 K2 N2 tv2 tk2 tn2 (B + B2) H := by
  obtain ⟨a1, a2, a3, a4, a5, a6⟩ := h
  obtain ⟨b1, b2, b3, b4, b5, b6⟩ := k
  have e : (T2 - T).toNat = (T' - T).toNat + (T2 - T').toNat := by omega
  have e2 : T + ((T' - T).toNat : Int) = T' := by omega
  refine ⟨by omega, fun j q => ?_, ?_, ?_, fun j q1 q2 => ?_, by omega⟩
  · have x := a2 j q; have y := b2 j (by omega)
    exact ⟨y.1.trans x.1, y.2.1.trans x.2.1, y.2.2.trans x.2.2⟩
  · rw [e, und_app, e2, b3, und_congr _ _ (fun j q1 q2 => ⟨(b2 j (by omega)).1, (b2 j (by omega)).2.1⟩)]; exact a3
  · rw [e, und_app, e2, b4, und_congr _ _ (fun j q1 q2 => ⟨(b2 j (by omega)).1, (b2 j (by omega)).2.2⟩)]; exact a4
  · by_cases c : j < T'
    · rw [(b2 j c).1, (b2 j c).2.1]; exact a5 j q1 c
    · exact b5 j (by omega) q2
theorem kTr_mono {B B' : Int} {H H' : Int → Prop} (h : kTr V T K N tv tk tn T' K' N' tv' tk' tn' B H) (b : B ≤ B') (k : ∀ v : Int, H v → H' v) : kTr V T K N tv tk tn T' K' N' tv' tk' tn' B' H' :=
  ⟨h.1, h.2.1, h.2.2.1, h.2.2.2.1, fun j a c => ⟨k _ (h.2.2.2.2.1 j a c).1, (h.2.2.2.2.1 j a c).2⟩, by have := h.2.2.2.2.2; omega⟩
/-- what is not told of is as it was -/
theorem kTr_out {B v : Int} {H : Int → Prop} (h : kTr V T K N tv tk tn T' K' N' tv' tk' tn' B H) (q : ∀ j : Int, T ≤ j → j < T' → ¬ tv' j = v) : K' v = K v ∧ N' v = N v := by
  obtain ⟨a1, a2, a3, a4, a5, a6⟩ := h
  have e : ∀ j : Int, T ≤ j → j < T + ((T' - T).toNat : Int) → ¬ tv' j = v := fun j x y => q j x (by omega)
  exact ⟨by rw [← a3, und_out _ _ e], by rw [← a4, und_out _ _ e]⟩
theorem kTr_out' {B v : Int} {H : Int → Prop} (h : kTr V T K N tv tk tn T' K' N' tv' tk' tn' B H) (q : ¬ H v) : K' v = K v ∧ N' v = N v := kTr_out h (fun j a b e => q (e ▸ (h.2.2.2.2.1 j a b).1))
theorem kTr_first {B i : Int} {H : Int → Prop} (h : kTr V T K N tv tk tn T' K' N' tv' tk' tn' B H) (i0 : T ≤ i) (i1 : i < T') (q : ∀ j : Int, T ≤ j → j < i → ¬ tv' j = tv' i) : tk' i = K (tv' i) ∧ tn' i = N (tv' i) := by
  obtain ⟨a1, a2, a3, a4, a5, a6⟩ := h
  exact ⟨by rw [← a3, und_first _ _ i0 (by omega) rfl q], by rw [← a4, und_first _ _ i0 (by omega) rfl q]⟩
/-- one change -/
theorem kTr_one {v x y : Int} (v0 : 0 ≤ v) (v1 : v < V) (vb : K v = 0 ∨ K v = 1) : kTr V T K N tv tk tn (T + 1) (zs K v x) (zs N v y) (zs tv T v) (zs tk T (K v)) (zs tn T (N v)) (1 - K v + x) (fun w => w = v) := by
  refine ⟨by omega, fun j q => ⟨zs_neg (by omega), zs_neg (by omega), zs_neg (by omega)⟩, ?_, ?_, fun j a b => ⟨zs_pos (by omega), by rw [zs_pos (by omega)]; exact vb⟩, ?_⟩
  · rw [show (T + 1 - T).toNat = 1 by omega]
    show zs (zs K v x) (zs tv T v (T + ((0 : Nat) : Int))) (zs tk T (K v) (T + ((0 : Nat) : Int))) = K
    rw [zs_pos (by omega), zs_pos (by omega)]
    funext j
    by_cases e : j = v
    · rw [zs_pos e, e]
    · rw [zs_neg e, zs_neg e]
  · rw [show (T + 1 - T).toNat = 1 by omega]
    show zs (zs N v y) (zs tv T v (T + ((0 : Nat) : Int))) (zs tn T (N v) (T + ((0 : Nat) : Int))) = N
    rw [zs_pos (by omega), zs_pos (by omega)]
    funext j
    by_cases e : j = v
    · rw [zs_pos e, e]
    · rw [zs_neg e, zs_neg e]
  · rw [nsum_zs _ v0 (by omega)]; omega
theorem kOK_zs {v x y : Int} (h : kOK V K N) (q : (x = 0 ∧ y = 0) ∨ x = 1) : kOK V (zs K v x) (zs N v y) := by
  intro i i0 i1
  by_cases e : i = v
  · rw [zs_pos e, zs_pos e]; exact q
  · rw [zs_neg e, zs_neg e]; exact h i i0 i1
theorem kOK_fgt {L : Int → Int} {a : Int} (h : kOK V K N) : ∀ n : Nat, kOK V (fgt L K 0 a n) (fgt L N 0 a n) := by
  intro n
  induction n with
  | zero => exact h
  | succ n ih =>
    show kOK V (if 0 ≤ L (a + n) then zs (fgt L K 0 a n) (L (a + n)) 0 else fgt L K 0 a n) (if 0 ≤ L (a + n) then zs (fgt L N 0 a n) (L (a + n)) 0 else fgt L N 0 a n)
    split
    · exact kOK_zs ih (Or.inl ⟨rfl, rfl⟩)
    · exact ih
theorem zs_id {f : Int → Int} {k v : Int} (h : f k = v) : zs f k v = f := by
  funext j
  by_cases e : j = k
  · rw [zs_pos e, e, h]
  · rw [zs_neg e]
end
