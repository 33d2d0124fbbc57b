/-! best: the places of the class, in order -/
def bkid (up bs : Int → Int) (q : Int) : Int → Int := fun k => if up k = q then bs k else 0
theorem tsum_term {f : Int → Int} {n : Nat} {c : Int} (h : ∀ k : Int, 1 ≤ k → k ≤ n → 0 ≤ f k) (c1 : 1 ≤ c) (cn : c ≤ n) : f c ≤ tsum f n := by
  have e : tsum (fun k => if k = c then f c else 0) n = f c := by
    rw [tsum_one (a := c) (v := f c) n (fun k _ _ => rfl), if_pos ⟨c1, cn⟩]
  rw [← e]
  refine tsum_mono n (fun k k1 k2 => ?_)
  by_cases y : k = c
  · show (if k = c then f c else 0) ≤ f k; rw [if_pos y, y]; exact Int.le_refl _
  · show (if k = c then f c else 0) ≤ f k; rw [if_neg y]; exact h k k1 k2
theorem tsum_upto {f : Int → Int} : ∀ (t m : Nat), (∀ k : Int, 1 ≤ k → k ≤ ((m + t : Nat) : Int) → 0 ≤ f k) → tsum f m ≤ tsum f (m + t) := by
  intro t
  induction t with
  | zero => intro m _; exact Int.le_refl _
  | succ t ih =>
    intro m h
    have a := ih m (fun k k1 k2 => h k k1 (by omega))
    have b := h (((m + t : Nat) : Int) + 1) (by omega) (by omega)
    show tsum f m ≤ tsum f (m + t) + f (((m + t : Nat) : Int) + 1)
    omega
theorem tsum_ones : ∀ (t : Nat), tsum (fun _ => 1) t = t := by
  intro t
  induction t with
  | zero => rfl
  | succ t ih => show tsum (fun _ => 1) t + 1 = _; rw [ih]; omega
theorem tsum_find {f : Int → Int} {x : Int} (x0 : 0 ≤ x) : ∀ (t : Nat), x < tsum f t → ∃ c : Int, 1 ≤ c ∧ c ≤ t ∧ tsum f (c - 1).toNat ≤ x ∧ x < tsum f (c - 1).toNat + f c := by
  intro t
  induction t with
  | zero => intro h; have h : x < 0 := h; omega
  | succ t ih =>
    intro h
    by_cases e : x < tsum f t
    · obtain ⟨c, c1, c2, c3⟩ := ih e
      exact ⟨c, c1, by omega, c3⟩
    · refine ⟨(t : Int) + 1, by omega, by omega, ?_⟩
      rw [show ((t : Int) + 1 - 1).toNat = t by omega]
      exact ⟨by omega, h⟩
/-- as many places as are to be placed: each has one of its own -/
theorem pig {f : Int → Int} {n : Int} (hn : 0 ≤ n) (hr : ∀ q : Int, 1 ≤ q → q ≤ n → 0 ≤ f q ∧ f q < n) (hs : ∀ p : Int, 0 ≤ p → p < n → ∃ c : Int, 1 ≤ c ∧ c ≤ n ∧ f c = p) {a b : Int} (a1 : 1 ≤ a) (an : a ≤ n) (b1 : 1 ≤ b) (bn : b ≤ n) (e : f a = f b) : a = b := by
  by_cases ne : a = b
  · exact ne
  exfalso
  have s : tsum (fun p => tsum (fun q => if f q + 1 = p then 1 else 0) n.toNat) n.toNat = n := by
    rw [tsum_swap]
    have z : tsum (fun q => tsum (fun p => if f q + 1 = p then 1 else 0) n.toNat) n.toNat = tsum (fun _ => 1) n.toNat := by
      refine tsum_congr _ (fun q q1 q2 => ?_)
      have r := hr q q1 (by omega)
      show tsum (fun p => if f q + 1 = p then (1 : Int) else 0) n.toNat = 1
      rw [tsum_one (a := f q + 1) (v := 1) n.toNat (fun k _ _ => by
        show (if f q + 1 = k then (1 : Int) else 0) = if k = f q + 1 then 1 else 0
        by_cases y : f q + 1 = k
        · rw [if_pos y, if_pos y.symm]
        · rw [if_neg y, if_neg (fun z => y z.symm)]), if_pos (by omega)]
    rw [z, tsum_ones]; omega
  have ra := hr a a1 an
  have g : tsum (fun p => 1 + if p = f a + 1 then 1 else 0) n.toNat ≤ tsum (fun p => tsum (fun q => if f q + 1 = p then 1 else 0) n.toNat) n.toNat := by
    refine tsum_mono _ (fun p p1 p2 => ?_)
    show 1 + (if p = f a + 1 then 1 else 0) ≤ tsum (fun q => if f q + 1 = p then (1 : Int) else 0) n.toNat
    by_cases y : p = f a + 1
    · rw [if_pos y]
      have two : tsum (fun q => (if q = a then (1 : Int) else 0) + if q = b then 1 else 0) n.toNat = 2 := by
        rw [tsum_add, tsum_one (a := a) (v := 1) n.toNat (fun k _ _ => rfl), tsum_one (a := b) (v := 1) n.toNat (fun k _ _ => rfl), if_pos (by omega), if_pos (by omega)]; rfl
      refine Int.le_trans (Int.le_of_eq two.symm) ?_
      refine tsum_mono _ (fun q q1 q2 => ?_)
      show (if q = a then (1 : Int) else 0) + (if q = b then 1 else 0) ≤ if f q + 1 = p then 1 else 0
      by_cases qa : q = a
      · rw [if_pos qa, if_neg (by omega), if_pos (by rw [qa]; omega)]; decide
      · by_cases qb : q = b
        · rw [if_neg qa, if_pos qb, if_pos (by rw [qb]; omega)]; decide
        · rw [if_neg qa, if_neg qb]; split <;> decide
    · rw [if_neg y]
      obtain ⟨c, c1, c2, c3⟩ := hs (p - 1) (by omega) (by omega)
      have one : tsum (fun q => if q = c then (1 : Int) else 0) n.toNat = 1 := by
        rw [tsum_one (a := c) (v := 1) n.toNat (fun k _ _ => rfl), if_pos (by omega)]
      refine Int.le_trans (Int.le_of_eq one.symm) ?_
      refine tsum_mono _ (fun q q1 q2 => ?_)
      show (if q = c then (1 : Int) else 0) ≤ if f q + 1 = p then 1 else 0
      by_cases qc : q = c
      · rw [if_pos qc, if_pos (by rw [qc]; omega)]; decide
      · rw [if_neg qc]; split <;> decide
  rw [s, tsum_add, tsum_ones, tsum_one (a := f a + 1) (v := 1) n.toNat (fun k _ _ => rfl), if_pos (by omega)] at g
  omega
/-- branch sizes, summed up behind J -/
def bsJ (up bs : Int → Int) (n J : Int) : Prop := (∀ q : Int, 1 ≤ q → q ≤ n → bs q = 1 + tsum (fun k => if J < k ∧ up k = q then bs k else 0) n.toNat) ∧ tsum (fun k => if k ≤ J ∨ up k = 0 then bs k else 0) n.toNat = n ∧ ∀ q : Int, 1 ≤ q → q ≤ n → 1 ≤ bs q ∧ bs q ≤ n
section
variable {up bs : Int → Int} {n J : Int}
theorem bsJ_0 (hn : 0 ≤ n) (h : ∀ q : Int, 1 ≤ q → q ≤ n → bs q = 1) (e : J = n) : bsJ up bs n J := by
  subst e
  refine ⟨fun q q1 q2 => ?_, ?_, fun q q1 q2 => ?_⟩
  · rw [h q q1 q2, tsum_nil _ (fun k k1 k2 => if_neg (by omega))]; rfl
  · rw [tsum_congr (g := fun _ => 1) _ (fun k k1 k2 => by
      show (if k ≤ J ∨ up k = 0 then bs k else 0) = 1
      rw [if_pos (Or.inl (by omega)), h k k1 (by omega)]), tsum_ones]; omega
  · rw [h q q1 q2]; omega
theorem bsJ_yes (h : bsJ up bs n J) (hu : ∀ c : Int, 1 ≤ c → c ≤ n → 0 ≤ up c ∧ up c < c) (J1 : 1 ≤ J) (Jn : J ≤ n) (c : 1 ≤ up J) {v K : Int} (hv : v = bs (up J) + bs J) (e : K = J - 1) : bsJ up (zs bs (up J) v) n K := by
  subst e
  obtain ⟨h1, h2, h3⟩ := h
  have uJ := hu J J1 Jn
  have s2 : tsum (fun k => if k ≤ J - 1 ∨ up k = 0 then zs bs (up J) v k else 0) n.toNat = n := by
    have z : tsum (fun k => if k ≤ J - 1 ∨ up k = 0 then zs bs (up J) v k else 0) n.toNat = tsum (fun k => (fun k => (if k ≤ J ∨ up k = 0 then bs k else 0) + (if k = up J then bs J else 0)) k - (if k = J then bs J else 0)) n.toNat := by
      refine tsum_congr _ (fun k k1 k2 => ?_)
      show (if k ≤ J - 1 ∨ up k = 0 then zs bs (up J) v k else 0) = (if k ≤ J ∨ up k = 0 then bs k else 0) + (if k = up J then bs J else 0) - (if k = J then bs J else 0)
      by_cases a : k = J
      · subst a; rw [if_neg (by omega), if_pos (by omega), if_neg (by omega), if_pos rfl]; omega
      · rw [if_neg a]
        by_cases b : k = up J
        · rw [zs_pos b, if_pos (by omega), if_pos (by omega), if_pos b, hv, b]; omega
        · rw [zs_neg b, if_neg b]
          by_cases d : k ≤ J ∨ up k = 0
          · rw [if_pos d, if_pos (by omega)]; omega
          · rw [if_neg d, if_neg (by omega)]; omega
    rw [z, tsum_sub, tsum_add, h2, tsum_one (a := up J) (v := bs J) n.toNat (fun k _ _ => rfl), tsum_one (a := J) (v := bs J) n.toNat (fun k _ _ => rfl), if_pos (by omega), if_pos (by omega)]; omega
  have pos : ∀ q : Int, 1 ≤ q → q ≤ n → 1 ≤ zs bs (up J) v q := by
    intro q q1 q2
    by_cases b : q = up J
    · rw [zs_pos b, hv]; have := h3 (up J) c (by omega); have := h3 J J1 Jn; omega
    · rw [zs_neg b]; exact (h3 q q1 q2).1
  refine ⟨fun q q1 q2 => ?_, s2, fun q q1 q2 => ⟨pos q q1 q2, ?_⟩⟩
  · have z : tsum (fun k => if J - 1 < k ∧ up k = q then zs bs (up J) v k else 0) n.toNat = tsum (fun k => if J < k ∧ up k = q then bs k else 0) n.toNat + if up J = q then bs J else 0 := by
      have o : tsum (fun k => if k = J then (if up J = q then bs J else 0) else 0) n.toNat = if up J = q then bs J else 0 := by
        rw [tsum_one (a := J) (v := if up J = q then bs J else 0) n.toNat (fun k _ _ => rfl), if_pos (by omega)]
      rw [← o, ← tsum_add]
      refine tsum_congr _ (fun k k1 k2 => ?_)
      show (if J - 1 < k ∧ up k = q then zs bs (up J) v k else 0) = (if J < k ∧ up k = q then bs k else 0) + (if k = J then (if up J = q then bs J else 0) else 0)
      by_cases a : k = J
      · subst a
        rw [zs_neg (by omega), if_neg (show ¬ (k < k ∧ up k = q) by omega), if_pos rfl]
        by_cases d : up k = q
        · rw [if_pos (by omega), if_pos d]; omega
        · rw [if_neg (by omega), if_neg d]; omega
      · rw [if_neg a]
        by_cases d : J < k ∧ up k = q
        · rw [if_pos d, if_pos (by omega), zs_neg (by omega)]; omega
        · rw [if_neg d, if_neg (by omega)]; omega
    rw [z]
    have y := h1 q q1 q2
    by_cases b : q = up J
    · rw [zs_pos b, if_pos b.symm, hv, ← b]; omega
    · rw [zs_neg b, if_neg (fun x => b x.symm)]; omega
  · by_cases b : q = up J
    · have t := tsum_term (f := fun k => if k ≤ J - 1 ∨ up k = 0 then zs bs (up J) v k else 0) (n := n.toNat) (c := q) (fun k k1 k2 => by
        show 0 ≤ if k ≤ J - 1 ∨ up k = 0 then zs bs (up J) v k else 0
        split
        · have := pos k k1 (by omega); omega
        · omega) q1 (by omega)
      rw [s2] at t
      have t : (if q ≤ J - 1 ∨ up q = 0 then zs bs (up J) v q else 0) ≤ n := t
      rw [if_pos (by omega)] at t
      exact t
    · rw [zs_neg b]; exact (h3 q q1 q2).2
theorem bsJ_no (h : bsJ up bs n J) (J1 : 1 ≤ J) (Jn : J ≤ n) (c : up J = 0) {K : Int} (e : K = J - 1) : bsJ up bs n K := by
  subst e
  obtain ⟨h1, h2, h3⟩ := h
  refine ⟨fun q q1 q2 => ?_, ?_, h3⟩
  · rw [tsum_congr (g := fun k => if J < k ∧ up k = q then bs k else 0) _ (fun k k1 k2 => ?_)]
    · exact h1 q q1 q2
    · show (if J - 1 < k ∧ up k = q then bs k else 0) = if J < k ∧ up k = q then bs k else 0
      by_cases a : k = J
      · subst a; rw [if_neg (by omega), if_neg (by omega)]
      · by_cases d : J < k ∧ up k = q
        · rw [if_pos d, if_pos (by omega)]
        · rw [if_neg d, if_neg (by omega)]
  · rw [tsum_congr (g := fun k => if k ≤ J ∨ up k = 0 then bs k else 0) _ (fun k k1 k2 => ?_)]
    · exact h2
    · show (if k ≤ J - 1 ∨ up k = 0 then bs k else 0) = if k ≤ J ∨ up k = 0 then bs k else 0
      by_cases a : k = J
      · subst a; rw [if_pos (Or.inr c), if_pos (Or.inr c)]
      · by_cases d : k ≤ J ∨ up k = 0
        · rw [if_pos d, if_pos (by omega)]
        · rw [if_neg d, if_neg (by omega)]
/-- all summed up -/
def bsE (up bs : Int → Int) (n : Int) : Prop := (∀ q : Int, 1 ≤ q → q ≤ n → bs q = 1 + tsum (bkid up bs q) n.toNat) ∧ tsum (bkid up bs 0) n.toNat = n ∧ ∀ q : Int, 1 ≤ q → q ≤ n → 1 ≤ bs q ∧ bs q ≤ n
theorem bsJ_e (h : bsJ up bs n 0) : bsE up bs n := by
  obtain ⟨h1, h2, h3⟩ := h
  refine ⟨fun q q1 q2 => ?_, ?_, h3⟩
  · rw [h1 q q1 q2]
    congr 1
    refine tsum_congr _ (fun k k1 k2 => ?_)
    show (if 0 < k ∧ up k = q then bs k else 0) = if up k = q then bs k else 0
    by_cases d : up k = q
    · rw [if_pos d, if_pos ⟨by omega, d⟩]
    · rw [if_neg d, if_neg (fun x => d x.2)]
  · refine Eq.trans (tsum_congr _ (fun k k1 k2 => ?_)) h2
    show (if up k = 0 then bs k else 0) = if k ≤ 0 ∨ up k = 0 then bs k else 0
    by_cases d : up k = 0
    · rw [if_pos d, if_pos (Or.inr d)]
    · rw [if_neg d, if_neg (by omega)]
end
/-- the place of each -/
def bposF (up bs : Int → Int) : Nat → Int → Int
  | 0, _ => -1
  | t + 1, q => if q ≤ 0 then -1 else bposF up bs t (up q) + 1 + tsum (bkid up bs (up q)) (q - 1).toNat
def bpos (up bs : Int → Int) (q : Int) : Int := bposF up bs 33 q
theorem bposF_low {up bs : Int → Int} {t : Nat} {q : Int} (h : q ≤ 0) : bposF up bs t q = -1 := by
  cases t with
  | zero => rfl
  | succ t => exact if_pos h
section
variable {up bs : Int → Int} {n : Int}
theorem bposF_fuel (hu : ∀ c : Int, 1 ≤ c → c ≤ n → 0 ≤ up c ∧ up c < c) : ∀ (t : Nat) (q : Int), q ≤ n → q ≤ t → bposF up bs (t + 1) q = bposF up bs t q := by
  intro t
  induction t with
  | zero => intro q _ h; rw [bposF_low h, bposF_low h]
  | succ t ih =>
    intro q hN h
    by_cases e : q ≤ 0
    · rw [bposF_low e, bposF_low e]
    · have u := hu q (by omega) hN
      show (if q ≤ 0 then -1 else bposF up bs (t + 1) (up q) + 1 + tsum (bkid up bs (up q)) (q - 1).toNat) = if q ≤ 0 then -1 else bposF up bs t (up q) + 1 + tsum (bkid up bs (up q)) (q - 1).toNat
      rw [if_neg e, if_neg e, ih (up q) (by omega) (by omega)]
theorem bpos_0 : bpos up bs 0 = -1 := bposF_low (Int.le_refl _)
theorem bpos_step (hu : ∀ c : Int, 1 ≤ c → c ≤ n → 0 ≤ up c ∧ up c < c) (hn : n ≤ 32) {q : Int} (q1 : 1 ≤ q) (qn : q ≤ n) : bpos up bs q = bpos up bs (up q) + 1 + tsum (bkid up bs (up q)) (q - 1).toNat := by
  have u := hu q q1 qn
  unfold bpos
  rw [bposF_fuel hu 32 (up q) (by omega) (by omega)]
  show (if q ≤ 0 then -1 else bposF up bs 32 (up q) + 1 + tsum (bkid up bs (up q)) (q - 1).toNat) = _
  rw [if_neg (by omega)]
theorem bkid_pos (h : ∀ q : Int, 1 ≤ q → q ≤ n → 1 ≤ bs q ∧ bs q ≤ n) {j : Int} : ∀ k : Int, 1 ≤ k → k ≤ n → 0 ≤ bkid up bs j k := by
  intro k k1 k2
  unfold bkid
  split
  · have := h k k1 k2; omega
  · exact Int.le_refl _
def bsz (bs : Int → Int) (n q : Int) : Int := if q = 0 then n + 1 else bs q
theorem bsz_kids (h : bsE up bs n) {q : Int} (q0 : 0 ≤ q) (qn : q ≤ n) : bsz bs n q = 1 + tsum (bkid up bs q) n.toNat := by
  unfold bsz
  by_cases e : q = 0
  · rw [if_pos e, e, h.2.1]; omega
  · rw [if_neg e]; exact h.1 q (by omega) qn
theorem bpos_kid (h : bsE up bs n) (hu : ∀ c : Int, 1 ≤ c → c ≤ n → 0 ≤ up c ∧ up c < c) (hn : n ≤ 32) {q : Int} (q1 : 1 ≤ q) (qn : q ≤ n) : bpos up bs (up q) + 1 ≤ bpos up bs q ∧ bpos up bs q + bs q ≤ bpos up bs (up q) + bsz bs n (up q) := by
  have u := hu q q1 qn
  have z := bpos_step (bs := bs) hu hn q1 qn
  have s0 : (0 : Int) ≤ tsum (bkid up bs (up q)) (q - 1).toNat := by
    have y := tsum_upto (f := bkid up bs (up q)) (q - 1).toNat 0 (fun k k1 k2 => bkid_pos h.2.2 k k1 (by omega))
    rw [show 0 + (q - 1).toNat = (q - 1).toNat by omega] at y
    exact y
  have s1 := tsum_upto (f := bkid up bs (up q)) (n - q).toNat q.toNat (fun k k1 k2 => bkid_pos h.2.2 k k1 (by omega))
  rw [show q.toNat + (n - q).toNat = n.toNat by omega] at s1
  have s2 := tsum_step (F := bkid up bs (up q)) q1
  rw [show (q + 1 - 1).toNat = q.toNat by omega] at s2
  have s3 : bkid up bs (up q) q = bs q := if_pos rfl
  rw [s3] at s2
  have s4 := bsz_kids h u.1 (by omega)
  omega
theorem bpos_in (h : bsE up bs n) (hu : ∀ c : Int, 1 ≤ c → c ≤ n → 0 ≤ up c ∧ up c < c) (n0 : 0 ≤ n) (hn : n ≤ 32) : ∀ (t : Nat) (q : Int), 0 ≤ q → q ≤ n → q ≤ t → -1 ≤ bpos up bs q ∧ (1 ≤ q → 0 ≤ bpos up bs q) ∧ bpos up bs q + bsz bs n q ≤ n := by
  intro t
  induction t with
  | zero =>
    intro q q0 qn qt
    have e : q = 0 := by omega
    subst e
    rw [bpos_0]
    unfold bsz
    rw [if_pos rfl]
    omega
  | succ t ih =>
    intro q q0 qn qt
    by_cases e : q = 0
    · exact ih q q0 qn (by omega)
    · have u := hu q (by omega) qn
      have i := ih (up q) u.1 (by omega) (by omega)
      have k := bpos_kid h hu hn (q := q) (by omega) qn
      have z : bsz bs n q = bs q := if_neg e
      omega
theorem bpos_rng (h : bsE up bs n) (hu : ∀ c : Int, 1 ≤ c → c ≤ n → 0 ≤ up c ∧ up c < c) (hn : n ≤ 32) {q : Int} (q1 : 1 ≤ q) (qn : q ≤ n) : 0 ≤ bpos up bs q ∧ bpos up bs q + bs q ≤ n ∧ 1 ≤ bs q := by
  have i := bpos_in h hu (by omega) hn q.toNat q (by omega) qn (by omega)
  have z : bsz bs n q = bs q := if_neg (by omega)
  have b := h.2.2 q q1 qn
  omega
theorem bpos_sur (h : bsE up bs n) (hu : ∀ c : Int, 1 ≤ c → c ≤ n → 0 ≤ up c ∧ up c < c) (hn : n ≤ 32) {p : Int} (p0 : 0 ≤ p) : ∀ (t : Nat) (q : Int), 0 ≤ q → q ≤ n → n - q ≤ t → bpos up bs q ≤ p → p < bpos up bs q + bsz bs n q → ∃ c : Int, 1 ≤ c ∧ c ≤ n ∧ bpos up bs c = p := by
  intro t
  induction t with
  | zero =>
    intro q q0 qn qt a b
    have s := bsz_kids h q0 qn
    by_cases e : p = bpos up bs q
    · refine ⟨q, ?_, qn, e.symm⟩
      by_cases y : q = 0
      · subst y; rw [bpos_0] at e; omega
      · omega
    · obtain ⟨c, c1, c2, c3, c4⟩ := tsum_find (f := bkid up bs q) (x := p - bpos up bs q - 1) (by omega) n.toNat (by omega)
      have y : up c = q := by
        by_cases y : up c = q
        · exact y
        · have z : bkid up bs q c = 0 := if_neg y
          omega
      have u := hu c c1 (by omega)
      omega
  | succ t ih =>
    intro q q0 qn qt a b
    have s := bsz_kids h q0 qn
    by_cases e : p = bpos up bs q
    · refine ⟨q, ?_, qn, e.symm⟩
      by_cases y : q = 0
      · subst y; rw [bpos_0] at e; omega
      · omega
    · obtain ⟨c, c1, c2, c3, c4⟩ := tsum_find (f := bkid up bs q) (x := p - bpos up bs q - 1) (by omega) n.toNat (by omega)
      have y : up c = q := by
        by_cases y : up c = q
        · exact y
        · have z : bkid up bs q c = 0 := if_neg y
          omega
      have u := hu c c1 (by omega)
      have z := bpos_step (bs := bs) hu hn c1 (by omega)
      rw [y] at z
      have k : bkid up bs q c = bs c := if_pos y
      have w : bsz bs n c = bs c := if_neg (by omega)
      exact ih c (by omega) (by omega) (by omega) (by omega) (by omega)
theorem bpos_all (h : bsE up bs n) (hu : ∀ c : Int, 1 ≤ c → c ≤ n → 0 ≤ up c ∧ up c < c) (n0 : 0 ≤ n) (hn : n ≤ 32) {p : Int} (p0 : 0 ≤ p) (pn : p < n) : ∃ c : Int, 1 ≤ c ∧ c ≤ n ∧ bpos up bs c = p := by
  have z : bsz bs n 0 = n + 1 := if_pos rfl
  exact bpos_sur h hu hn p0 n.toNat 0 (by omega) n0 (by omega) (by rw [bpos_0]; omega) (by rw [bpos_0, z]; omega)
theorem bpos_inj (h : bsE up bs n) (hu : ∀ c : Int, 1 ≤ c → c ≤ n → 0 ≤ up c ∧ up c < c) (n0 : 0 ≤ n) (hn : n ≤ 32) {a b : Int} (a1 : 1 ≤ a) (an : a ≤ n) (b1 : 1 ≤ b) (bn : b ≤ n) (e : bpos up bs a = bpos up bs b) : a = b :=
  pig n0 (fun q q1 q2 => by have := bpos_rng h hu hn q1 q2; omega) (fun p p0 p1 => bpos_all h hu n0 hn p0 p1) a1 an b1 bn e
/-- J of them are placed -/
def bPl (up bs : Int → Int) (J : Int) (np od : Int → Int) : Prop := (∀ q : Int, 0 ≤ q → q ≤ J → np q = bpos up bs q + 1 + tsum (bkid up bs q) J.toNat) ∧ ∀ q : Int, 1 ≤ q → q ≤ J → od (bpos up bs q) = q - 1
theorem bPl_0 {np od : Int → Int} (h : np 0 = 0) : bPl up bs 0 np od := by
  refine ⟨fun q q0 q1 => ?_, fun q q0 q1 => by omega⟩
  have e : q = 0 := by omega
  subst e
  rw [h, bpos_0]; rfl
theorem bPl_at {np od : Int → Int} {J : Int} (hu : ∀ c : Int, 1 ≤ c → c ≤ n → 0 ≤ up c ∧ up c < c) (hn : n ≤ 32) (h : bPl up bs J np od) (J0 : 0 ≤ J) (Jn : J < n) : np (up (J + 1)) = bpos up bs (J + 1) := by
  have u := hu (J + 1) (by omega) (by omega)
  have z := bpos_step (bs := bs) hu hn (q := J + 1) (by omega) (by omega)
  rw [show (J + 1 - 1).toNat = J.toNat by omega] at z
  rw [h.1 (up (J + 1)) u.1 (by omega), z]
theorem bPl_step {np od : Int → Int} {J : Int} (hb : bsE up bs n) (hu : ∀ c : Int, 1 ≤ c → c ≤ n → 0 ≤ up c ∧ up c < c) (hn : n ≤ 32) (h : bPl up bs J np od) (J0 : 0 ≤ J) (Jn : J < n) : bPl up bs (J + 1) (zs (zs np (up (J + 1)) (np (up (J + 1)) + bs (J + 1))) (J + 1) (np (up (J + 1)) + 1)) (zs od (np (up (J + 1))) J) := by
  have u := hu (J + 1) (by omega) (by omega)
  have a := bPl_at hu hn h J0 Jn
  have st : ∀ q : Int, tsum (bkid up bs q) (J + 1).toNat = tsum (bkid up bs q) J.toNat + bkid up bs q (J + 1) := by
    intro q
    have s2 := tsum_step (F := bkid up bs q) (k := J + 1) (by omega)
    rw [show (J + 1 + 1 - 1).toNat = (J + 1).toNat by omega, show (J + 1 - 1).toNat = J.toNat by omega] at s2
    exact s2
  refine ⟨fun q q0 q1 => ?_, fun q q0 q1 => ?_⟩
  · by_cases e : q = J + 1
    · have tn : tsum (bkid up bs (J + 1)) (J + 1).toNat = 0 := tsum_nil _ (fun k k1 k2 => show (if up k = J + 1 then bs k else 0) = 0 from if_neg (by have := hu k k1 (by omega); omega))
      rw [zs_pos e, e, a, tn]; omega
    · rw [zs_neg e, st q]
      by_cases y : q = up (J + 1)
      · rw [zs_pos y]
        have z := h.1 q q0 (by omega)
        rw [← y]
        have k : bkid up bs q (J + 1) = bs (J + 1) := if_pos y.symm
        omega
      · rw [zs_neg y, h.1 q q0 (by omega)]
        have k : bkid up bs q (J + 1) = 0 := if_neg (fun z => y z.symm)
        omega
  · rw [a]
    by_cases e : q = J + 1
    · rw [e, zs_pos rfl]; omega
    · rw [zs_neg (fun z => e (bpos_inj hb hu (by omega) hn q0 (by omega) (by omega) (by omega) z))]
      exact h.2 q q0 (by omega)
end
