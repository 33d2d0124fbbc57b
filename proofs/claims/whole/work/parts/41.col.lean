/-! The tree's calls as columns: call k of the class is cell 121 + k. -/
def zcall (k : Int) : Nat := 121 + k.toNat
theorem zcall_b (k : Int) : Nat.beq (zcall k) 15 = false := by
  cases h : Nat.beq (zcall k) 15 with
  | false => rfl
  | true => exact absurd (Nat.eq_of_beq_eq_true h) (by unfold zcall; omega)
theorem zcall_all : ∀ n : Nat, n < 320 → zis zshp 566 (121 + n) 1 = true ∧ zFq 117 n = 121 + n := by decide +kernel
theorem zcall_zis {k : Int} (h : 0 ≤ k ∧ k < 320) : zis zshp 566 (zcall k) 1 = true := (zcall_all k.toNat (by omega)).1
theorem zcall_F {k : Int} (h : 0 ≤ k ∧ k < 320) : zFq 117 k.toNat = zcall k := (zcall_all k.toNat (by omega)).2
theorem zcall_15 {k : Int} (h : 0 ≤ k ∧ k < 320) : 15 < zFq 117 k.toNat := by rw [zcall_F h]; unfold zcall; omega
/-- column j of the calls -/
def zcl (M : Nat → Int → Int) (j : Int) : Int → Int := fun k => M (zcall k) j
def zcol (M : Nat → Int → Int) (j : Int) (f : Int → Int) : Nat → Int → Int := fun c s => if (121 ≤ c ∧ c < 441) ∧ s = j then f ((c : Int) - 121) else M c s
theorem zcl_rfl (M : Nat → Int → Int) (k : Int) (j : Int) : M (zcall k) j = zcl M j k := rfl
theorem zcall_in {k : Int} (h : 0 ≤ k ∧ k < 320) : 121 ≤ zcall k ∧ zcall k < 441 ∧ ((zcall k : Nat) : Int) - 121 = k := by unfold zcall; omega
theorem zcol_pos {M : Nat → Int → Int} {f : Int → Int} {k j : Int} (h : 0 ≤ k ∧ k < 320) : zcol M j f (zcall k) j = f k := by
  obtain ⟨a, b, c⟩ := zcall_in h
  unfold zcol; rw [if_pos ⟨⟨a, b⟩, rfl⟩, c]
theorem zcol_neg {M : Nat → Int → Int} {f : Int → Int} {k j j' : Int} (h : ¬ j' = j) : zcol M j f (zcall k) j' = M (zcall k) j' := by
  unfold zcol; rw [if_neg (fun q => by exact h q.2)]
theorem zrow_call {M : Nat → Int → Int} {c : Nat} {f : Int → Int} {k j : Int} (h : ¬ (121 ≤ c ∧ c < 441)) (hk : 0 ≤ k ∧ k < 320) : zrow M c f (zcall k) j = M (zcall k) j := by
  obtain ⟨a, b, _⟩ := zcall_in hk
  unfold zrow; rw [if_neg (fun q => by exact h (q ▸ ⟨a, b⟩))]
theorem zup_call {M : Nat → Int → Int} {c : Nat} {s v k j : Int} (h : ¬ (121 ≤ c ∧ c < 441)) (hk : 0 ≤ k ∧ k < 320) : zup M c s v (zcall k) j = M (zcall k) j := by
  obtain ⟨a, b, _⟩ := zcall_in hk
  unfold zup; rw [if_neg (fun q => by exact h (q.1 ▸ ⟨a, b⟩))]
theorem zcol_out {M : Nat → Int → Int} {c : Nat} {f : Int → Int} {j : Int} (h : ¬ (121 ≤ c ∧ c < 441)) : zcol M j f c = M c := by
  funext s; unfold zcol; rw [if_neg (fun q => by exact h q.1)]
theorem zup_col {M : Nat → Int → Int} {f : Int → Int} {k j v : Int} (hk : 0 ≤ k ∧ k < 320) (h : ∀ i : Int, 0 ≤ i ∧ i < 320 → M (zcall i) j = f i) : zup M (zcall k) j v = zcol M j (zs f k v) := by
  funext c s
  obtain ⟨a, b, e⟩ := zcall_in hk
  unfold zup zcol zs
  by_cases hc : 121 ≤ c ∧ c < 441
  · by_cases hs : s = j
    · have q := h ((c : Int) - 121) (by omega)
      have hz : zcall ((c : Int) - 121) = c := by unfold zcall; omega
      rw [hz] at q
      subst hs
      by_cases hck : c = zcall k
      · rw [if_pos ⟨hck, rfl⟩, if_pos ⟨hc, rfl⟩, if_pos (by omega)]
      · rw [if_neg (fun z => by exact hck z.1), if_pos ⟨hc, rfl⟩, if_neg (fun z => by exact hck (by omega)), q]
    · rw [if_neg (fun z => by exact hs z.2), if_neg (fun z => by exact hs z.2)]
  · rw [if_neg (fun z => by exact hc (z.1 ▸ ⟨a, b⟩)), if_neg (fun z => by exact hc z.1)]
theorem zcol_zcol (M : Nat → Int → Int) (j : Int) (f g : Int → Int) : zcol (zcol M j f) j g = zcol M j g := by
  funext c s; unfold zcol; grind
theorem zcol_comm (M : Nat → Int → Int) {j j' : Int} {f g : Int → Int} (h : ¬ j = j') : zcol (zcol M j f) j' g = zcol (zcol M j' g) j f := by
  funext c s; unfold zcol; grind
theorem zrow_zcol (M : Nat → Int → Int) {c : Nat} {j : Int} {f g : Int → Int} (h : ¬ (121 ≤ c ∧ c < 441)) : zrow (zcol M j f) c g = zcol (zrow M c g) j f := by
  funext c' s; unfold zcol zrow; grind
theorem zup_zcol (M : Nat → Int → Int) {c : Nat} {j k v : Int} {f : Int → Int} (h : ¬ (121 ≤ c ∧ c < 441)) : zup (zcol M j f) c k v = zcol (zup M c k v) j f := by
  funext c' s; unfold zcol zup; grind
theorem zcol_zup (M : Nat → Int → Int) {c : Nat} {j k v : Int} {f : Int → Int} (h : ¬ (121 ≤ c ∧ c < 441)) : zcol (zup M c k v) j f = zup (zcol M j f) c k v := (zup_zcol M h).symm
theorem zcol_self {M : Nat → Int → Int} {f : Int → Int} {j : Int} (h : ∀ i : Int, 0 ≤ i ∧ i < 320 → M (zcall i) j = f i) : zcol M j f = M := by
  funext c s
  unfold zcol
  by_cases hc : (121 ≤ c ∧ c < 441) ∧ s = j
  · have q := h ((c : Int) - 121) (by omega)
    have hz : zcall ((c : Int) - 121) = c := by unfold zcall; omega
    rw [hz] at q
    rw [if_pos hc, ← q, hc.2]
  · rw [if_neg hc]
/-- a row as it is, but for n places from a on -/
def zfr (f : Int → Int) (a n : Int) (g : Int → Int) : Int → Int := fun k => if a ≤ k ∧ k < a + n then g (k - a) else f k
theorem zfr_0 (f : Int → Int) (a : Int) (g : Int → Int) : zfr f a 0 g = f := by
  funext k; unfold zfr; rw [if_neg (by omega)]
theorem zfr_succ (f : Int → Int) {a n : Int} (g : Int → Int) (h : 0 ≤ n) : zs (zfr f a n g) (a + n) (g n) = zfr f a (n + 1) g := by
  funext k; unfold zfr zs; grind
theorem zfr_in {f : Int → Int} {a n : Int} {g : Int → Int} {k : Int} (h : a ≤ k ∧ k < a + n) : zfr f a n g k = g (k - a) := if_pos h
theorem zfr_out {f : Int → Int} {a n : Int} {g : Int → Int} {k : Int} (h : k < a ∨ a + n ≤ k) : zfr f a n g k = f k := if_neg (by omega)
/-- how often g stands on the path from a call upwards -/
def tcnt (fn up : Int → Int) (g : Int) : Nat → Int → Int
  | 0, c => if fn c = g then 1 else 0
  | n + 1, c => (if fn c = g then 1 else 0) + tcnt fn up g n (up c)
def heatv (h t e : Int) : Int := if e = 0 then 0 else zdivL (w64 (h * t)) e
def worthv (h cost nums adds : Int) : Int := zdivL (w64 (w64 (h * (cost + 2 * nums)) * 64)) (if adds < 1 then 1 else adds)
theorem eqRJ {σ : zM} {x y : Int} {Q : zQ} (h : x = y) (q : Q σ (some (vJ y))) : Q σ (some (vJ x)) := h ▸ q
def tcn (fn up : Int → Int) (g l c : Int) : Int := if l < 0 then 0 else tcnt fn up g l.toNat c
theorem tcn_neg {fn up : Int → Int} {g l c : Int} (h : l < 0) : tcn fn up g l c = 0 := if_pos h
theorem tcn_step {fn up : Int → Int} {g l c : Int} (h : 0 ≤ l) : tcn fn up g l c = (if fn c = g then 1 else 0) + tcn fn up g (l - 1) (up c) := by
  unfold tcn
  rw [if_neg (show ¬ l < 0 by omega)]
  by_cases h0 : l = 0
  · subst h0
    rw [if_pos (show (0 : Int) - 1 < 0 by decide)]
    exact (Int.add_zero _).symm
  · rw [if_neg (show ¬ l - 1 < 0 by omega)]
    obtain ⟨n, hn⟩ : ∃ n : Nat, l.toNat = n + 1 := ⟨l.toNat - 1, by omega⟩
    rw [hn, show (l - 1).toNat = n by omega]
    rfl
/-- calls go upwards -/
def tWT (up deep : Int → Int) (m : Int) : Prop := (up 0 = -1 ∧ deep 0 = 0) ∧ ∀ k : Int, 1 ≤ k → k < m → 0 ≤ up k ∧ up k < k ∧ deep k = deep (up k) + 1
theorem tWT_deep {up deep : Int → Int} {m : Int} (h : tWT up deep m) : ∀ (n : Nat) (k : Int), 0 ≤ k → k < m → k < n → 0 ≤ deep k ∧ deep k ≤ k ∧ (k = 0 ∨ 1 ≤ deep k) := by
  intro n
  induction n with
  | zero => intro k a b c; omega
  | succ n ih =>
    intro k a b c
    by_cases h0 : k = 0
    · subst h0; have := h.1.2; omega
    · have q := h.2 k (by omega) b
      have r := ih (up k) (by omega) (by omega) (by omega)
      omega
theorem tWT_d {up deep : Int → Int} {m : Int} (h : tWT up deep m) {k : Int} (a : 0 ≤ k) (b : k < m) : 0 ≤ deep k ∧ deep k ≤ k ∧ (k = 0 ∨ 1 ≤ deep k) := tWT_deep h (k.toNat + 1) k a b (by omega)
theorem tcn_congr {fn up fn' up' deep : Int → Int} {m g : Int} (h : tWT up deep m) (e : ∀ k : Int, 0 ≤ k → k < m → fn' k = fn k ∧ up' k = up k) : ∀ (n : Nat) (l c : Int), l < n → 0 ≤ c → c < m → l ≤ deep c → tcn fn' up' g l c = tcn fn up g l c := by
  intro n
  induction n with
  | zero => intro l c a b c1 d; rw [tcn_neg (by omega), tcn_neg (by omega)]
  | succ n ih =>
    intro l c a b c1 d
    by_cases hl : l < 0
    · rw [tcn_neg hl, tcn_neg hl]
    · rw [tcn_step (fn := fn') (up := up') (l := l) (c := c) (by omega), tcn_step (fn := fn) (up := up) (l := l) (c := c) (by omega), (e c b c1).1, (e c b c1).2]
      by_cases h0 : c = 0
      · subst h0
        have := h.1.2
        rw [tcn_neg (fn := fn') (l := l - 1) (by omega), tcn_neg (fn := fn) (l := l - 1) (by omega)]
      · have q := h.2 c (by omega) c1
        rw [ih (l - 1) (up c) (by omega) (by omega) (by omega) (by omega)]
theorem tcn_bd {fn up : Int → Int} {g : Int} : ∀ (n : Nat) (l c : Int), l < n → 0 ≤ tcn fn up g l c ∧ (tcn fn up g l c ≤ l + 1 ∨ l < 0) := by
  intro n
  induction n with
  | zero => intro l c a; rw [tcn_neg (by omega)]; omega
  | succ n ih =>
    intro l c a
    by_cases hl : l < 0
    · rw [tcn_neg hl]; omega
    · rw [tcn_step (l := l) (c := c) (by omega)]
      have q := ih (l - 1) (up c) (by omega)
      by_cases h1 : l - 1 < 0
      · rw [tcn_neg h1]; split <;> omega
      · split <;> omega
theorem tWT_zs {up deep : Int → Int} {m y z : Int} (h : tWT up deep m) (hm : 1 ≤ m) (hy : 0 ≤ y ∧ y < m) (hz : z = deep y + 1) : tWT (zs up m y) (zs deep m z) (m + 1) := by
  refine ⟨⟨by rw [zs_neg (by omega)]; exact h.1.1, by rw [zs_neg (by omega)]; exact h.1.2⟩, fun k a b => ?_⟩
  by_cases e : k = m
  · subst e
    rw [zs_pos rfl, zs_pos rfl, zs_neg (by omega)]
    exact ⟨hy.1, hy.2, hz⟩
  · have q := h.2 k a (by omega)
    rw [zs_neg e, zs_neg e, zs_neg (by omega)]
    exact q
theorem tcn_zs {fn up deep : Int → Int} {m g x y o l : Int} (h : tWT up deep m) (a : 0 ≤ o) (b : o < m) (hl : l ≤ deep o) : tcn (zs fn m x) (zs up m y) g l o = tcn fn up g l o :=
  tcn_congr h (fun k _ k1 => ⟨zs_neg (by omega), zs_neg (by omega)⟩) (l.toNat + 1) l o (by omega) a b hl
theorem zfr_suc {f g : Int → Int} {a n i v n' : Int} (hn : 0 ≤ n) (hi : i = a + n) (hv : v = g n) (h' : n' = n + 1) : zs (zfr f a n g) i v = zfr f a n' g := by
  subst hi hv h'; exact zfr_succ f g hn
theorem tWT_zfr {up deep : Int → Int} {m n o : Int} (h : tWT up deep m) (hm : 1 ≤ m) (hn : 0 ≤ n) (ho : 0 ≤ o ∧ o < m) : tWT (zfr up m n (fun _ => o)) (zfr deep m n (fun _ => deep o + 1)) (m + n) := by
  refine ⟨⟨by rw [zfr_out (by omega)]; exact h.1.1, by rw [zfr_out (by omega)]; exact h.1.2⟩, fun k a b => ?_⟩
  by_cases e : k < m
  · have q := h.2 k a e
    rw [zfr_out (by omega), zfr_out (by omega), zfr_out (by omega)]
    exact q
  · rw [zfr_in (by omega), zfr_in (by omega), zfr_out (by omega)]
    exact ⟨ho.1, by omega, rfl⟩
theorem tcn_zfr {fn up deep : Int → Int} {m n g o l : Int} {x y : Int → Int} (h : tWT up deep m) (a : 0 ≤ o) (b : o < m) (hl : l ≤ deep o) : tcn (zfr fn m n x) (zfr up m n y) g l o = tcn fn up g l o :=
  tcn_congr h (fun k _ k1 => ⟨zfr_out (by omega), zfr_out (by omega)⟩) (l.toNat + 1) l o (by omega) a b hl
theorem zcmp_lt {x y : Int} : zcmp x y < 0 ↔ x < y := by unfold zcmp; split <;> (try split) <;> omega
theorem zcmp_eq {x y : Int} : zcmp x y = 0 ↔ x = y := by unfold zcmp; split <;> (try split) <;> omega
theorem zcmp_gt {x y : Int} : 0 < zcmp x y ↔ y < x := by unfold zcmp; split <;> (try split) <;> omega
/-- a program's rows as the tree takes them: first site, sites, called, adds, variables, numbers; entries, counts; settings -/
def tD (a b c d e f g h i : Int → Int) : Nat → Int → Int := fun j k => if j = 0 then a k else if j = 1 then b k else if j = 2 then c k else if j = 3 then d k else if j = 4 then e k else if j = 5 then f k else if j = 6 then g k else if j = 7 then h k else i k
/-- a tree: up, site, function, depth, order, first call, whether it is one, heat; how many, size, opened -/
def tT (a b c d e f g h : Int → Int) (m s o : Int) : Nat → Int → Int := fun j k => if j = 0 then a k else if j = 1 then b k else if j = 2 then c k else if j = 3 then d k else if j = 4 then e k else if j = 5 then f k else if j = 6 then g k else if j = 7 then h k else if k = 0 then m else if k = 1 then s else o
def tlay (A T : Nat → Int → Int) (c : Int) : Nat → Int → Int :=
  tT (zfr (T 0) (T 8 0) (A 1 (T 2 c)) (fun _ => c)) (zfr (T 1) (T 8 0) (A 1 (T 2 c)) (fun j => A 0 (T 2 c) + j)) (zfr (T 2) (T 8 0) (A 1 (T 2 c)) (fun j => A 2 (A 0 (T 2 c) + j))) (zfr (T 3) (T 8 0) (A 1 (T 2 c)) (fun _ => T 3 c + 1)) (zfr (T 4) (T 8 0) (A 1 (T 2 c)) (fun _ => 0)) (zs (T 5) c (T 8 0)) (zfr (T 6) (T 8 0) (A 1 (T 2 c)) (fun _ => 0)) (zfr (T 7) (T 8 0) (A 1 (T 2 c)) (fun j => heatv (T 7 c) (A 7 (A 0 (T 2 c) + j)) (A 6 (T 2 c)))) (T 8 0 + A 1 (T 2 c)) (T 8 1) (T 8 2)
def topen (A T : Nat → Int → Int) (c : Int) : Nat → Int → Int := tlay A (tT (T 0) (T 1) (T 2) (T 3) (zs (T 4) c (T 8 2 + 1)) (T 5) (zs (T 6) c 1) (T 7) (T 8 0) (T 8 1 + A 3 (T 2 c)) (T 8 2 + 1)) c
def trec (A T : Nat → Int → Int) (k : Int) : Int := if A 8 2 < tcn (T 2) (T 0) (T 2 k) (T 3 k - 1) (T 0 k) then 1 else 0
def tmayC (a b c s t : Int) : Int := if a = 0 ∧ 1 ≤ b ∧ c = 0 ∧ s ≤ t then 1 else 0
def tmay (A T : Nat → Int → Int) (k : Int) : Int := tmayC (T 6 k) (T 7 k) (trec A T k) (T 8 1 + A 3 (T 2 k)) (A 8 0)
def tworth (A T : Nat → Int → Int) (k : Int) : Int := worthv (T 7 k) (A 8 1) (A 5 (T 1 k)) (A 3 (T 2 k))
def town (A T : Nat → Int → Int) (k : Int) : Int := w64 (T 7 k * (A 8 1 - A 4 (T 2 k)))
def tleft (up : Int → Int) : Nat → Int → Int → Int
  | 0, a, b => if a < b then 1 else 0
  | n + 1, a, b => if up a = up b then (if a < b then 1 else 0) else tleft up n (up a) (up b)
def taheadC (w w' d d' l : Int) : Int := if w = w' then (if d = d' then l else if d < d' then 1 else 0) else if w' < w then 1 else 0
def tahead (A T : Nat → Int → Int) (a b : Int) : Int := taheadC (tworth A T a) (tworth A T b) (T 3 a) (T 3 b) (tleft (T 0) (T 3 a - 1).toNat a b)
def tpick (A T : Nat → Int → Int) : Nat → Int
  | 0 => -1
  | n + 1 => if tmay A T (n + 1) = 0 then tpick A T n else if tpick A T n = -1 then n + 1 else if tahead A T (n + 1) (tpick A T n) = 0 then tpick A T n else n + 1
def tw (A T : Nat → Int → Int) : Int := tpick A T (T 8 0 - 1).toNat
theorem tpick_suc {A T : Nat → Int → Int} {k k' : Int} (h : 1 ≤ k) (e : k' = k + 1) : tpick A T (k' - 1).toNat = if tmay A T k = 0 then tpick A T (k - 1).toNat else if tpick A T (k - 1).toNat = -1 then k else if tahead A T k (tpick A T (k - 1).toNat) = 0 then tpick A T (k - 1).toNat else k := by
  subst e
  obtain ⟨n, hn⟩ : ∃ n : Nat, (k - 1).toNat = n ∧ k = n + 1 := ⟨(k - 1).toNat, rfl, by omega⟩
  rw [show (k + 1 - 1).toNat = n + 1 by omega, hn.1, hn.2]
  rfl
theorem tleft_eq {up : Int → Int} {n : Nat} {a b : Int} (h : up a = up b) : tleft up n a b = if a < b then 1 else 0 := by
  cases n with
  | zero => rfl
  | succ n => exact if_pos h
theorem tleft_low {up : Int → Int} {l a b : Int} (h : l ≤ 1) : tleft up (l - 1).toNat a b = if a < b then 1 else 0 := by
  rw [show (l - 1).toNat = 0 by omega]; rfl
theorem tleft_step {up : Int → Int} {l a b : Int} (h : 1 < l) (e : ¬ up a = up b) : tleft up (l - 1).toNat a b = tleft up (l - 1 - 1).toNat (up a) (up b) := by
  rw [show (l - 1).toNat = (l - 1 - 1).toNat + 1 by omega]; exact if_neg e
theorem tleft_01 {up : Int → Int} : ∀ (n : Nat) (a b : Int), tleft up n a b = 0 ∨ tleft up n a b = 1 := by
  intro n
  induction n with
  | zero => intro a b; show (if a < b then (1 : Int) else 0) = 0 ∨ (if a < b then (1 : Int) else 0) = 1; split <;> simp
  | succ n ih => intro a b; show (if up a = up b then (if a < b then (1 : Int) else 0) else tleft up n (up a) (up b)) = 0 ∨ (if up a = up b then (if a < b then (1 : Int) else 0) else tleft up n (up a) (up b)) = 1; split; (split <;> simp); exact ih _ _
theorem tmayC_01 (a b c s t : Int) : tmayC a b c s t = 0 ∨ tmayC a b c s t = 1 := by unfold tmayC; split <;> simp
theorem taheadC_01 {w w' d d' l : Int} (h : l = 0 ∨ l = 1) : taheadC w w' d d' l = 0 ∨ taheadC w w' d d' l = 1 := by unfold taheadC; split; (split; exact h; split <;> simp); split <;> simp
/-- what the class keeps beside: too often, worth, gain -/
def tCX (A T : Nat → Int → Int) (often worth gain : Int → Int) : Prop := ∀ k : Int, 1 ≤ k → k < T 8 0 → often k = trec A T k ∧ worth k = tworth A T k ∧ gain k = town A T k
def tOpens (A : Nat → Int → Int) : Nat → (Nat → Int → Int) → (Nat → Int → Int) → Prop
  | 0, T, T' => T = T'
  | n + 1, T, T' => ¬ tw A T = -1 ∧ tOpens A n (topen A T (tw A T)) T' 
