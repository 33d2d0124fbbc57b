/-! Chains, undone from below (no machine in it) -/
def tkeep (A : Nat → Int → Int) (S : Nat → Int) : Int := if w64 (S 2 * 100) < w64 (A 8 3 * w32 (S 1)) then 0 else 1
def tchild (A : Nat → Int → Int) (S V : Nat → Int) : Nat → Int := fun j => if j < 3 then (if tkeep A V = 1 then S j + V j else S j) else S j + V j
def tfin (A : Nat → Int → Int) (c : Int) (S : Nat → Int) : Nat → Int := fun j => if c = 0 ∨ tkeep A S = 1 then S j else if j = 3 then S 3 + 1 else if j = 4 then S 4 + S 0 else if j = 5 then S 5 + S 1 else S j
def tbase (A T : Nat → Int → Int) (c : Int) : Nat → Int := fun j => if j = 0 then 1 else if j = 1 then (if c = 0 then 0 else A 3 (T 2 c)) else if j = 2 then (if c = 0 then 0 else town A T c) else 0
def tfold (A T : Nat → Int → Int) (R : Int → Nat → Int) (c : Int) : Nat → Nat → Int
  | 0 => tbase A T c
  | m + 1 => if T 6 (T 5 c + m) = 1 then tchild A (tfold A T R c m) (R (T 5 c + m)) else tfold A T R c m
def tU (A T : Nat → Int → Int) : Nat → Int → Nat → Int
  | 0 => fun _ _ => 0
  | n + 1 => fun c => tfin A c (tfold A T (tU A T n) c (A 1 (T 2 c)).toNat)
def tV (A T : Nat → Int → Int) (c : Int) : Nat → Int := tU A T (33 - T 3 c).toNat c
theorem tkeep_01 (A : Nat → Int → Int) (S : Nat → Int) : tkeep A S = 0 ∨ tkeep A S = 1 := by unfold tkeep; split <;> simp
theorem tfold_congr {A T : Nat → Int → Int} {R R' : Int → Nat → Int} {c : Int} : ∀ (m : Nat), (∀ j : Int, 0 ≤ j → j < m → R (T 5 c + j) = R' (T 5 c + j)) → tfold A T R c m = tfold A T R' c m := by
  intro m
  induction m with
  | zero => intro _; rfl
  | succ m ih =>
    intro h
    show (if T 6 (T 5 c + m) = 1 then tchild A (tfold A T R c m) (R (T 5 c + m)) else tfold A T R c m) = (if T 6 (T 5 c + m) = 1 then tchild A (tfold A T R' c m) (R' (T 5 c + m)) else tfold A T R' c m)
    rw [ih (fun j a b => h j a (by omega)), h m (by omega) (by omega)]
theorem tV_eq {A T : Nat → Int → Int} {nF nS c : Int} (h : tInv A T nF nS) (c0 : 0 ≤ c) (c1 : c < T 8 0) (ci : T 6 c = 1) : tV A T c = tfin A c (tfold A T (tV A T) c (A 1 (T 2 c)).toNat) := by
  obtain ⟨⟨⟨p1, p2⟩, p3⟩, _, p4⟩ := h.2.2.2.2.2.1 c c0 c1 ci
  have d := tWT_d h.1 c0 c1
  unfold tV
  obtain ⟨n, hn⟩ : ∃ n : Nat, (33 - T 3 c).toNat = n + 1 := ⟨(32 - T 3 c).toNat, by omega⟩
  rw [hn]
  show tfin A c (tfold A T (tU A T n) c (A 1 (T 2 c)).toNat) = _
  congr 1
  refine tfold_congr _ (fun j a b => ?_)
  have q := p3 j a (by omega)
  have w := h.1.2 (T 5 c + j) (by omega) (by omega)
  rw [q.1] at w
  show tU A T n (T 5 c + j) = tU A T (33 - T 3 (T 5 c + j)).toNat (T 5 c + j)
  rw [show (33 - T 3 (T 5 c + j)).toNat = n by omega]
/-- the call n steps up -/
def tanc (up : Int → Int) : Nat → Int → Int
  | 0, x => x
  | n + 1, x => tanc up n (up x)
theorem tanc_up {up : Int → Int} : ∀ (n : Nat) (x : Int), tanc up (n + 1) x = up (tanc up n x) := by
  intro n
  induction n with
  | zero => intro x; rfl
  | succ n ih => intro x; exact ih (up x)
/-- e is on the path of x -/
def tdes (up deep : Int → Int) (e x : Int) : Prop := deep e ≤ deep x ∧ tanc up (deep x - deep e).toNat x = e
theorem tdes_self {up deep : Int → Int} {e : Int} : tdes up deep e e := ⟨Int.le_refl _, by rw [show (deep e - deep e).toNat = 0 by omega]; rfl⟩
theorem tdes_uniq {up deep : Int → Int} {e e' x : Int} (h : tdes up deep e x) (h' : tdes up deep e' x) (q : deep e = deep e') : e = e' := by
  rw [← h.2, ← h'.2, q]
theorem tanc_in {up deep : Int → Int} {m : Int} (h : tWT up deep m) : ∀ (n : Nat) (x : Int), 0 ≤ x → x < m → (n : Int) ≤ deep x → 0 ≤ tanc up n x ∧ tanc up n x ≤ x ∧ deep (tanc up n x) = deep x - n := by
  intro n
  induction n with
  | zero => intro x a b c; exact ⟨a, Int.le_refl _, by show deep x = _; omega⟩
  | succ n ih =>
    intro x a b c
    have d := tWT_d h a b
    have w := h.2 x (by omega) b
    have i := ih (up x) w.1 (by omega) (by omega)
    show 0 ≤ tanc up n (up x) ∧ tanc up n (up x) ≤ x ∧ deep (tanc up n (up x)) = _
    exact ⟨i.1, by omega, by omega⟩
theorem tdes_0 {up deep : Int → Int} {m x : Int} (h : tWT up deep m) (a : 0 ≤ x) (b : x < m) : tdes up deep 0 x := by
  have d := tWT_d h a b
  have z := h.1.2
  refine ⟨by omega, ?_⟩
  have i := tanc_in h (deep x - deep 0).toNat x a b (by omega)
  have d2 := tWT_d h i.1 (by omega)
  omega
/-- below c and not c itself: below one of its calls -/
theorem tdes_kid {up deep : Int → Int} {m c x : Int} (h : tWT up deep m) (c0 : 0 ≤ c) (c1 : c < m) (a : 0 ≤ x) (b : x < m) (hd : tdes up deep c x) (hc : ¬ x = c) : ∃ e : Int, 1 ≤ e ∧ e < m ∧ up e = c ∧ tdes up deep e x := by
  obtain ⟨d1, d2⟩ := hd
  have hlt : deep c < deep x := by
    by_cases q : deep x = deep c
    · rw [show (deep x - deep c).toNat = 0 by omega] at d2
      exact absurd d2 hc
    · omega
  have dx := tWT_d h a b
  have dc := tWT_d h c0 c1
  obtain ⟨n, hn⟩ : ∃ n : Nat, (deep x - deep c).toNat = n + 1 := ⟨(deep x - deep c - 1).toNat, by omega⟩
  have i := tanc_in h n x a b (by omega)
  have dd := tWT_d h i.1 (by omega)
  rw [hn, tanc_up] at d2
  refine ⟨tanc up n x, by omega, by omega, d2, by omega, ?_⟩
  rw [show (deep x - deep (tanc up n x)).toNat = n by omega]
theorem tdes_up {up deep : Int → Int} {m c e x : Int} (h : tWT up deep m) (e0 : 1 ≤ e) (e1 : e < m) (u : up e = c) (hd : tdes up deep e x) : tdes up deep c x := by
  have w := h.2 e e0 e1
  rw [u] at w
  refine ⟨by have := hd.1; omega, ?_⟩
  have d := hd.1
  rw [show (deep x - deep c).toNat = (deep x - deep e).toNat + 1 by omega, tanc_up, hd.2, u]
theorem tdes_not {up deep : Int → Int} {c e : Int} (h : deep c < deep e) : ¬ tdes up deep e c := fun q => by have := q.1; omega
def tGood (A T : Nat → Int → Int) (s n a g : Int → Int) (x : Int) : Prop := n x = w32 (tV A T x 0) ∧ a x = w32 (tV A T x 1) ∧ g x = w64 (tV A T x 2) ∧ s x = (if x = 0 then 1 else tkeep A (tV A T x))
/-- below one of the calls of c ahead of k -/
def tPrc (up deep : Int → Int) (c k x : Int) : Prop := ∃ e : Int, 1 ≤ e ∧ e < k ∧ up e = c ∧ tdes up deep e x
def tLoop (A T : Nat → Int → Int) (s0 n0 a0 g0 s n a g : Int → Int) (c k : Int) : Prop :=
  (n c = w32 (tfold A T (tV A T) c (k - T 5 c).toNat 0) ∧ a c = w32 (tfold A T (tV A T) c (k - T 5 c).toNat 1) ∧ g c = w64 (tfold A T (tV A T) c (k - T 5 c).toNat 2)) ∧ s c = s0 c ∧
  (∀ x : Int, 0 ≤ x → x < T 8 0 → ¬ x = c → (¬ tPrc (T 0) (T 3) c k x ∨ ¬ T 6 x = 1) → s x = s0 x ∧ n x = n0 x ∧ a x = a0 x ∧ g x = g0 x) ∧
  (∀ x : Int, 0 ≤ x → x < T 8 0 → T 6 x = 1 → tPrc (T 0) (T 3) c k x → tGood A T s n a g x)
def tAfter (A T : Nat → Int → Int) (s0 n0 a0 g0 s n a g : Int → Int) (c : Int) : Prop :=
  (∀ x : Int, 0 ≤ x → x < T 8 0 → (¬ tdes (T 0) (T 3) c x ∨ ¬ T 6 x = 1) → s x = s0 x ∧ n x = n0 x ∧ a x = a0 x ∧ g x = g0 x) ∧
  (∀ x : Int, 0 ≤ x → x < T 8 0 → T 6 x = 1 → tdes (T 0) (T 3) c x → tGood A T s n a g x)
theorem w32_add (x y : Int) : w32 (w32 x + w32 y) = w32 (x + y) := by unfold w32; omega
theorem w64_add2 (x y : Int) : w64 (w64 x + w64 y) = w64 (x + y) := by unfold w64; omega
theorem w32_small {x : Int} (h : -1000 ≤ x ∧ x ≤ 1000) : w32 x = x := by unfold w32; omega
theorem tLoop_init {A T : Nat → Int → Int} {nF nS c : Int} {s0 n0 a0 g0 n a g : Int → Int} (hg : tPg A nF nS) (h : tInv A T nF nS) (c0 : 0 ≤ c) (c1 : c < T 8 0) (ci : T 6 c = 1) (e1 : n = zs n0 c 1) (e2 : a = zs a0 c (if c = 0 then 0 else A 3 (T 2 c))) (e3 : g = zs g0 c (if c = 0 then 0 else town A T c)) : tLoop A T s0 n0 a0 g0 s0 n a g c (T 5 c) := by
  subst e1 e2 e3
  obtain ⟨⟨⟨p1, p2⟩, p3⟩, _, p4⟩ := h.2.2.2.2.2.1 c c0 c1 ci
  obtain ⟨r1, _⟩ := h.2.2.1 c c0 c1
  obtain ⟨_, ⟨g4, g5, _⟩, _⟩ := hg.2.1 (T 2 c) r1.1 r1.2
  have z : (T 5 c - T 5 c).toNat = 0 := by omega
  refine ⟨⟨?_, ?_, ?_⟩, rfl, fun x x0 x1 xc _ => ⟨rfl, zs_neg xc, zs_neg xc, zs_neg xc⟩, fun x x0 x1 xi ⟨e, e1, e2, e3, e4⟩ => ?_⟩
  · rw [z, zs_pos rfl]; rfl
  · rw [z, zs_pos rfl]
    show _ = w32 (if c = 0 then 0 else A 3 (T 2 c))
    split
    · rfl
    · exact (w32_small (by omega)).symm
  · rw [z, zs_pos rfl]
    show _ = w64 (if c = 0 then 0 else town A T c)
    split
    · rfl
    · exact (w64_w64 _).symm
  · exfalso
    have q := h.2.2.2.2.1 e e1 (by omega)
    rw [e3] at q
    have := q.2.1; have := q.2.2.1
    omega
theorem tkid {A T : Nat → Int → Int} {nF nS c k : Int} (h : tInv A T nF nS) (c0 : 0 ≤ c) (c1 : c < T 8 0) (ci : T 6 c = 1) (k0 : T 5 c ≤ k) (k1 : k < T 5 c + A 1 (T 2 c)) : 1 ≤ k ∧ k < T 8 0 ∧ c < k ∧ T 0 k = c ∧ T 3 k = T 3 c + 1 := by
  obtain ⟨⟨⟨p1, p2⟩, p3⟩, _, p4⟩ := h.2.2.2.2.2.1 c c0 c1 ci
  have q := p3 (k - T 5 c) (by omega) (by omega)
  rw [show T 5 c + (k - T 5 c) = k by omega] at q
  have w := h.1.2 k (by omega) (by omega)
  rw [q.1] at w
  exact ⟨by omega, by omega, by omega, q.1, by omega⟩
theorem tPrc_suc {A T : Nat → Int → Int} {nF nS c k x : Int} (h : tInv A T nF nS) (c0 : 0 ≤ c) (c1 : c < T 8 0) (ci : T 6 c = 1) (k0 : T 5 c ≤ k) (k1 : k < T 5 c + A 1 (T 2 c)) : tPrc (T 0) (T 3) c (k + 1) x ↔ (tPrc (T 0) (T 3) c k x ∨ tdes (T 0) (T 3) k x) := by
  have q := tkid h c0 c1 ci k0 k1
  constructor
  · rintro ⟨e, e1, e2, e3, e4⟩
    by_cases ek : e = k
    · exact Or.inr (ek ▸ e4)
    · exact Or.inl ⟨e, e1, by omega, e3, e4⟩
  · rintro (⟨e, e1, e2, e3, e4⟩ | e)
    · exact ⟨e, e1, by omega, e3, e4⟩
    · exact ⟨k, q.1, by omega, q.2.2.2.1, e⟩
theorem tPrc_not {A T : Nat → Int → Int} {nF nS c k x : Int} (h : tInv A T nF nS) (c0 : 0 ≤ c) (c1 : c < T 8 0) (ci : T 6 c = 1) (k0 : T 5 c ≤ k) (k1 : k < T 5 c + A 1 (T 2 c)) (hd : tdes (T 0) (T 3) k x) : ¬ tPrc (T 0) (T 3) c k x := by
  rintro ⟨e, e1, e2, e3, e4⟩
  have q := tkid h c0 c1 ci k0 k1
  have w := h.1.2 e e1 (by omega)
  rw [e3] at w
  have := tdes_uniq e4 hd (by omega)
  omega
theorem tPrc_c {A T : Nat → Int → Int} {nF nS c k : Int} (h : tInv A T nF nS) (k1 : k ≤ T 8 0) : ¬ tPrc (T 0) (T 3) c k c := by
  rintro ⟨e, e1, e2, e3, e4⟩
  have w := h.1.2 e e1 (by omega)
  rw [e3] at w
  have := e4.1
  omega
theorem tfold_suc {A T : Nat → Int → Int} {R : Int → Nat → Int} {c k : Int} (k0 : T 5 c ≤ k) : tfold A T R c (k + 1 - T 5 c).toNat = if T 6 k = 1 then tchild A (tfold A T R c (k - T 5 c).toNat) (R k) else tfold A T R c (k - T 5 c).toNat := by
  obtain ⟨m, hm⟩ : ∃ m : Nat, k = T 5 c + m := ⟨(k - T 5 c).toNat, by omega⟩
  rw [show (k + 1 - T 5 c).toNat = m + 1 by omega, show (k - T 5 c).toNat = m by omega, hm]
  rfl
theorem tLoop_skip {A T : Nat → Int → Int} {nF nS c k : Int} {s0 n0 a0 g0 s n a g : Int → Int} (h : tInv A T nF nS) (c0 : 0 ≤ c) (c1 : c < T 8 0) (ci : T 6 c = 1) (k0 : T 5 c ≤ k) (k1 : k < T 5 c + A 1 (T 2 c)) (L : tLoop A T s0 n0 a0 g0 s n a g c k) (hi : ¬ T 6 k = 1) : tLoop A T s0 n0 a0 g0 s n a g c (k + 1) := by
  obtain ⟨l1, l2, l3, l4⟩ := L
  have q := tkid h c0 c1 ci k0 k1
  have up1 : ∀ x : Int, 0 ≤ x → x < T 8 0 → T 6 x = 1 → tdes (T 0) (T 3) k x → False := fun x x0 x1 xi xd => by
    by_cases e : x = k
    · exact hi (e ▸ xi)
    · obtain ⟨y, y1, y2, y3, y4⟩ := tdes_kid h.1 (by omega) q.2.1 x0 x1 xd e
      have z := (h.2.2.2.2.1 y y1 y2).1
      rw [y3] at z
      exact hi z
  refine ⟨?_, l2, fun x x0 x1 xc xo => l3 x x0 x1 xc ?_, fun x x0 x1 xi xp => ?_⟩
  · rw [tfold_suc k0, if_neg hi]; exact l1
  · rcases xo with xo | xo
    · exact Or.inl (fun z => xo ((tPrc_suc h c0 c1 ci k0 k1).mpr (Or.inl z)))
    · exact Or.inr xo
  · rcases (tPrc_suc h c0 c1 ci k0 k1).mp xp with z | z
    · exact l4 x x0 x1 xi z
    · exact (up1 x x0 x1 xi z).elim
theorem tLoop_fresh {A T : Nat → Int → Int} {nF nS c k : Int} {s0 n0 a0 g0 s n a g : Int → Int} (h : tInv A T nF nS) (c0 : 0 ≤ c) (c1 : c < T 8 0) (ci : T 6 c = 1) (k0 : T 5 c ≤ k) (k1 : k < T 5 c + A 1 (T 2 c)) (L : tLoop A T s0 n0 a0 g0 s n a g c k) (hs : ∀ x : Int, 0 ≤ x → x < T 8 0 → tdes (T 0) (T 3) c x → s0 x = T 6 x) : ∀ x : Int, 0 ≤ x → x < T 8 0 → tdes (T 0) (T 3) k x → s x = T 6 x := by
  intro x x0 x1 xd
  have q := tkid h c0 c1 ci k0 k1
  rw [(L.2.2.1 x x0 x1 (fun e => by rw [e] at xd; exact tdes_not (by omega) xd) (Or.inl (tPrc_not h c0 c1 ci k0 k1 xd))).1]
  exact hs x x0 x1 (tdes_up h.1 q.1 q.2.1 q.2.2.2.1 xd)
theorem tchild_no {A : Nat → Int → Int} {S V : Nat → Int} (h : ¬ tkeep A V = 1) {j : Nat} (hj : j < 3) : tchild A S V j = S j := by
  unfold tchild; rw [if_pos hj, if_neg h]
theorem tchild_yes {A : Nat → Int → Int} {S V : Nat → Int} (h : tkeep A V = 1) {j : Nat} (hj : j < 3) : tchild A S V j = S j + V j := by
  unfold tchild; rw [if_pos hj, if_pos h]
theorem tLoop_kid {A T : Nat → Int → Int} {nF nS c k : Int} {s0 n0 a0 g0 s n a g s' n' a' g' : Int → Int} (h : tInv A T nF nS) (c0 : 0 ≤ c) (c1 : c < T 8 0) (ci : T 6 c = 1) (k0 : T 5 c ≤ k) (k1 : k < T 5 c + A 1 (T 2 c)) (L : tLoop A T s0 n0 a0 g0 s n a g c k) (ki : T 6 k = 1) (F : tAfter A T s n a g s' n' a' g' k) :
    (s' k = 0 → tLoop A T s0 n0 a0 g0 s' n' a' g' c (k + 1)) ∧ (¬ s' k = 0 → tLoop A T s0 n0 a0 g0 s' (zs n' c (w32 (n' c + n' k))) (zs a' c (w32 (a' c + a' k))) (zs g' c (w64 (g' c + g' k))) c (k + 1)) := by
  obtain ⟨l1, l2, l3, l4⟩ := L
  have q := tkid h c0 c1 ci k0 k1
  obtain ⟨u, gd⟩ := F
  have uc := u c c0 c1 (Or.inl (tdes_not (by omega)))
  have gk := gd k (by omega) q.2.1 ki tdes_self
  have sk : s' k = tkeep A (tV A T k) := by rw [gk.2.2.2, if_neg (by omega)]
  have sf := tfold_suc (A := A) (T := T) (R := tV A T) (c := c) k0
  rw [if_pos ki] at sf
  have p3 : ∀ x : Int, 0 ≤ x → x < T 8 0 → ¬ x = c → (¬ tPrc (T 0) (T 3) c (k + 1) x ∨ ¬ T 6 x = 1) → s' x = s0 x ∧ n' x = n0 x ∧ a' x = a0 x ∧ g' x = g0 x := fun x x0 x1 xc xo => by
    have y := l3 x x0 x1 xc (by
      rcases xo with xo | xo
      · exact Or.inl (fun z => xo ((tPrc_suc h c0 c1 ci k0 k1).mpr (Or.inl z)))
      · exact Or.inr xo)
    have v := u x x0 x1 (by
      rcases xo with xo | xo
      · exact Or.inl (fun z => xo ((tPrc_suc h c0 c1 ci k0 k1).mpr (Or.inr z)))
      · exact Or.inr xo)
    rw [v.1, v.2.1, v.2.2.1, v.2.2.2]; exact y
  have p4 : ∀ x : Int, 0 ≤ x → x < T 8 0 → T 6 x = 1 → tPrc (T 0) (T 3) c (k + 1) x → tGood A T s' n' a' g' x := fun x x0 x1 xi xp => by
    rcases (tPrc_suc h c0 c1 ci k0 k1).mp xp with z | z
    · have y := l4 x x0 x1 xi z
      have v := u x x0 x1 (Or.inl (fun zz => tPrc_not h c0 c1 ci k0 k1 zz z))
      unfold tGood
      rw [v.1, v.2.1, v.2.2.1, v.2.2.2]; exact y
    · exact gd x x0 x1 xi z
  have xne : ∀ x : Int, tPrc (T 0) (T 3) c (k + 1) x → ¬ x = c := fun x xp e => by
    rw [e] at xp
    exact tPrc_c h (by omega) xp
  constructor
  · intro hz
    have kz : ¬ tkeep A (tV A T k) = 1 := by rw [← sk, hz]; decide
    refine ⟨?_, by rw [uc.1]; exact l2, p3, p4⟩
    rw [sf, uc.2.1, uc.2.2.1, uc.2.2.2]
    rw [tchild_no kz (j := 0) (by decide), tchild_no kz (j := 1) (by decide), tchild_no kz (j := 2) (by decide)]
    exact l1
  · intro hz
    have kz : tkeep A (tV A T k) = 1 := by
      rcases tkeep_01 A (tV A T k) with z | z
      · rw [sk, z] at hz; exact absurd rfl hz
      · exact z
    refine ⟨?_, by rw [uc.1]; exact l2, fun x x0 x1 xc xo => ?_, fun x x0 x1 xi xp => ?_⟩
    · rw [sf, zs_pos rfl, zs_pos rfl, zs_pos rfl, uc.2.1, uc.2.2.1, uc.2.2.2, gk.1, gk.2.1, gk.2.2.1, l1.1, l1.2.1, l1.2.2, w32_add, w32_add, w64_add2]
      rw [tchild_yes kz (j := 0) (by decide), tchild_yes kz (j := 1) (by decide), tchild_yes kz (j := 2) (by decide)]
      exact ⟨rfl, rfl, rfl⟩
    · rw [zs_neg xc, zs_neg xc, zs_neg xc]; exact p3 x x0 x1 xc xo
    · have xc := xne x xp
      have y := p4 x x0 x1 xi xp
      unfold tGood
      rw [zs_neg xc, zs_neg xc, zs_neg xc]; exact y
theorem tLoop_end {A T : Nat → Int → Int} {nF nS c k : Int} {s0 n0 a0 g0 s n a g : Int → Int} (h : tInv A T nF nS) (c0 : 0 ≤ c) (c1 : c < T 8 0) (ci : T 6 c = 1) (kk : k = T 5 c + A 1 (T 2 c)) (L : tLoop A T s0 n0 a0 g0 s n a g c k) (hs : s0 c = 1) (hn : 0 ≤ A 1 (T 2 c)) :
    ((c = 0 ∨ tkeep A (tfold A T (tV A T) c (k - T 5 c).toNat) = 1) → tAfter A T s0 n0 a0 g0 s n a g c) ∧ (¬ c = 0 → ¬ tkeep A (tfold A T (tV A T) c (k - T 5 c).toNat) = 1 → tAfter A T s0 n0 a0 g0 (zs s c 0) n a g c) := by
  obtain ⟨⟨⟨p1, p2⟩, p3⟩, _, p4⟩ := h.2.2.2.2.2.1 c c0 c1 ci
  obtain ⟨l1, l2, l3, l4⟩ := L
  have ve := tV_eq h c0 c1 ci
  rw [show (A 1 (T 2 c)).toNat = (k - T 5 c).toNat by omega] at ve
  have inP : ∀ x : Int, 0 ≤ x → x < T 8 0 → tdes (T 0) (T 3) c x → ¬ x = c → tPrc (T 0) (T 3) c k x := fun x x0 x1 xd xc => by
    obtain ⟨e, e1, e2, e3, e4⟩ := tdes_kid h.1 c0 c1 x0 x1 xd xc
    have q := h.2.2.2.2.1 e e1 e2
    rw [e3] at q
    have := q.2.1; have := q.2.2.1
    exact ⟨e, e1, by omega, e3, e4⟩
  have outP : ∀ x : Int, tPrc (T 0) (T 3) c k x → tdes (T 0) (T 3) c x := fun x ⟨e, e1, e2, e3, e4⟩ => tdes_up h.1 e1 (by omega) e3 e4
  have k3 : ∀ S : Nat → Int, tfin A c S 0 = S 0 ∧ tfin A c S 1 = S 1 ∧ tfin A c S 2 = S 2 := fun S => by
    unfold tfin
    split
    · exact ⟨rfl, rfl, rfl⟩
    · exact ⟨rfl, rfl, rfl⟩
  have kp : tkeep A (tV A T c) = tkeep A (tfold A T (tV A T) c (k - T 5 c).toNat) := by
    rw [ve]; unfold tkeep; rw [(k3 _).2.1, (k3 _).2.2]
  have n1 : n c = w32 (tV A T c 0) ∧ a c = w32 (tV A T c 1) ∧ g c = w64 (tV A T c 2) := by
    rw [ve, (k3 _).1, (k3 _).2.1, (k3 _).2.2]; exact l1
  have xne : ∀ x : Int, tPrc (T 0) (T 3) c k x → ¬ x = c := fun x xp e => by
    rw [e] at xp
    exact tPrc_c h (by omega) xp
  constructor
  · intro hk
    refine ⟨fun x x0 x1 xo => ?_, fun x x0 x1 xi xd => ?_⟩
    · have xc : ¬ x = c := fun e => by
        rcases xo with xo | xo
        · rw [e] at xo; exact xo tdes_self
        · rw [e] at xo; exact xo ci
      exact l3 x x0 x1 xc (by
        rcases xo with xo | xo
        · exact Or.inl (fun z => xo (outP x z))
        · exact Or.inr xo)
    · by_cases xc : x = c
      · rw [xc]
        refine ⟨n1.1, n1.2.1, n1.2.2, ?_⟩
        rw [l2, hs]
        rcases hk with hk | hk
        · rw [if_pos hk]
        · rw [kp, hk]; split <;> rfl
      · exact l4 x x0 x1 xi (inP x x0 x1 xd xc)
  · intro hc hk
    refine ⟨fun x x0 x1 xo => ?_, fun x x0 x1 xi xd => ?_⟩
    · have xc : ¬ x = c := fun e => by
        rcases xo with xo | xo
        · rw [e] at xo; exact xo tdes_self
        · rw [e] at xo; exact xo ci
      rw [zs_neg xc]
      exact l3 x x0 x1 xc (by
        rcases xo with xo | xo
        · exact Or.inl (fun z => xo (outP x z))
        · exact Or.inr xo)
    · by_cases xc : x = c
      · rw [xc]
        refine ⟨n1.1, n1.2.1, n1.2.2, ?_⟩
        rw [zs_pos rfl, if_neg hc, kp]
        rcases tkeep_01 A (tfold A T (tV A T) c (k - T 5 c).toNat) with z | z
        · exact z.symm
        · exact absurd z hk
      · have y := l4 x x0 x1 xi (inP x x0 x1 xd xc)
        unfold tGood
        rw [zs_neg xc]; exact y
theorem w32_sub1 (x y : Int) : w32 (w32 x - y) = w32 (x - y) := by unfold w32; omega
theorem w32_add1 (x y : Int) : w32 (w32 x + y) = w32 (x + y) := by unfold w32; omega
theorem w32_sub2 (x y : Int) : w32 (w32 x - w32 y) = w32 (x - y) := by unfold w32; omega
theorem w64_mul (x y : Int) : w64 (w64 x * y) = w64 (x * y) := by
  unfold w64
  obtain ⟨q, hq⟩ : ∃ q : Int, (x + 9223372036854775808) % 18446744073709551616 - 9223372036854775808 = x - 18446744073709551616 * q := ⟨(x + 9223372036854775808) / 18446744073709551616, by omega⟩
  rw [hq, Int.sub_mul, Int.mul_assoc]
  omega
theorem tn5 {v w a s5 s1 v5 : Int} (h1 : v = w32 (a - s5)) (h2 : w = w32 s1) (h3 : v5 = s5 + s1) : w32 (v - w) = w32 (a - v5) := by
  subst h1 h2 h3; rw [w32_sub2]; congr 1; omega
theorem tn4 {v w a s4 s0 v4 : Int} (h1 : v = w32 (a + s4)) (h2 : w = w32 s0) (h3 : v4 = s4 + s0) : w32 (v + w) = w32 (a + v4) := by
  subst h1 h2 h3; rw [w32_add]; congr 1; omega
theorem tn3 {v a s3 v3 : Int} (h1 : v = w32 (a + s3)) (h3 : v3 = s3 + 1) : w32 (v + 1) = w32 (a + v3) := by
  subst h1 h3; rw [w32_add1]; congr 1; omega
theorem tsk3 {S S' : Nat → Int} (h : S' = S) {x y z a b c : Int} (i : x = w32 (a - S 5) ∧ y = w32 (b + S 4) ∧ z = w32 (c + S 3)) : x = w32 (a - S' 5) ∧ y = w32 (b + S' 4) ∧ z = w32 (c + S' 3) := h ▸ i
theorem tkd3 {A : Nat → Int → Int} {S S' V : Nat → Int} (h : S' = tchild A S V) {x y z a b c : Int} (i : x = w32 (a - S 5) ∧ y = w32 (b + S 4) ∧ z = w32 (c + S 3)) : w32 (x - V 5) = w32 (a - S' 5) ∧ w32 (y + V 4) = w32 (b + S' 4) ∧ w32 (z + V 3) = w32 (c + S' 3) := by
  obtain ⟨i1, i2, i3⟩ := i
  subst i1 i2 i3 h
  have e3 : tchild A S V 3 = S 3 + V 3 := rfl
  have e4 : tchild A S V 4 = S 4 + V 4 := rfl
  have e5 : tchild A S V 5 = S 5 + V 5 := rfl
  rw [w32_sub1, w32_add1, w32_add1, e3, e4, e5]
  exact ⟨by congr 1; omega, by congr 1; omega, by congr 1; omega⟩
theorem tkeep_c {A : Nat → Int → Int} {S : Nat → Int} {g a : Int} (hg : g = w64 (S 2)) (ha : a = w32 (S 1)) : tkeep A S = 1 ↔ ¬ zcmp (w64 (g * 100)) (w64 (A 8 3 * a)) < 0 := by
  subst hg ha
  unfold tkeep
  rw [w64_mul, zcmp_lt]
  constructor
  · intro h; split at h
    · exact absurd h (by decide)
    · assumption
  · intro h; rw [if_neg h]
theorem tchild_num (A : Nat → Int → Int) (S V : Nat → Int) : tchild A S V 3 = S 3 + V 3 ∧ tchild A S V 4 = S 4 + V 4 ∧ tchild A S V 5 = S 5 + V 5 := ⟨rfl, rfl, rfl⟩
theorem tV_num {A T : Nat → Int → Int} {nF nS c k : Int} (h : tInv A T nF nS) (c0 : 0 ≤ c) (c1 : c < T 8 0) (ci : T 6 c = 1) (kk : k = T 5 c + A 1 (T 2 c)) (hn : 0 ≤ A 1 (T 2 c)) :
    ((c = 0 ∨ tkeep A (tfold A T (tV A T) c (k - T 5 c).toNat) = 1) → tV A T c 3 = tfold A T (tV A T) c (k - T 5 c).toNat 3 ∧ tV A T c 4 = tfold A T (tV A T) c (k - T 5 c).toNat 4 ∧ tV A T c 5 = tfold A T (tV A T) c (k - T 5 c).toNat 5) ∧
    (¬ c = 0 → ¬ tkeep A (tfold A T (tV A T) c (k - T 5 c).toNat) = 1 → tV A T c 3 = tfold A T (tV A T) c (k - T 5 c).toNat 3 + 1 ∧ tV A T c 4 = tfold A T (tV A T) c (k - T 5 c).toNat 4 + tfold A T (tV A T) c (k - T 5 c).toNat 0 ∧ tV A T c 5 = tfold A T (tV A T) c (k - T 5 c).toNat 5 + tfold A T (tV A T) c (k - T 5 c).toNat 1) := by
  have ve := tV_eq h c0 c1 ci
  rw [show (A 1 (T 2 c)).toNat = (k - T 5 c).toNat by omega] at ve
  rw [ve]
  generalize tfold A T (tV A T) c (k - T 5 c).toNat = S
  unfold tfin
  constructor
  · intro q; rw [if_pos q, if_pos q, if_pos q]; exact ⟨rfl, rfl, rfl⟩
  · intro q1 q2
    have q : ¬ (c = 0 ∨ tkeep A S = 1) := fun z => z.elim q1 q2
    rw [if_neg q, if_neg q, if_neg q]
    exact ⟨rfl, rfl, rfl⟩
