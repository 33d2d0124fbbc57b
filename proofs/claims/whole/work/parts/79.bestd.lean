/-! best: sets of calls by weight and gain, as relations -/
def rAdd (R S : Int → Int → Prop) (w g : Int) : Prop := ∃ w1 g1 w2 g2 : Int, R w1 g1 ∧ S w2 g2 ∧ w = w1 + w2 ∧ g = g1 + g2
def rOne (a b w g : Int) : Prop := w = a ∧ g = b
def rOpt (R : Int → Int → Prop) (w g : Int) : Prop := (w = 0 ∧ g = 0) ∨ R w g
def rEq (R S : Int → Int → Prop) : Prop := ∀ w g : Int, R w g ↔ S w g
theorem rEq_refl (R : Int → Int → Prop) : rEq R R := fun _ _ => Iff.rfl
theorem rEq_symm {R S : Int → Int → Prop} (h : rEq R S) : rEq S R := fun w g => (h w g).symm
theorem rEq_trans {R S T : Int → Int → Prop} (h : rEq R S) (k : rEq S T) : rEq R T := fun w g => (h w g).trans (k w g)
theorem rAdd_congr {R R2 S S2 : Int → Int → Prop} (h : rEq R R2) (k : rEq S S2) : rEq (rAdd R S) (rAdd R2 S2) := fun w g =>
  ⟨fun ⟨w1, g1, w2, g2, a, b, c⟩ => ⟨w1, g1, w2, g2, (h _ _).mp a, (k _ _).mp b, c⟩, fun ⟨w1, g1, w2, g2, a, b, c⟩ => ⟨w1, g1, w2, g2, (h _ _).mpr a, (k _ _).mpr b, c⟩⟩
theorem rAdd_comm (R S : Int → Int → Prop) : rEq (rAdd R S) (rAdd S R) := fun w g =>
  ⟨fun ⟨w1, g1, w2, g2, a, b, c, d⟩ => ⟨w2, g2, w1, g1, b, a, by omega, by omega⟩, fun ⟨w1, g1, w2, g2, a, b, c, d⟩ => ⟨w2, g2, w1, g1, b, a, by omega, by omega⟩⟩
theorem rAdd_assoc (R S T : Int → Int → Prop) : rEq (rAdd (rAdd R S) T) (rAdd R (rAdd S T)) := fun w g => by
  constructor
  · rintro ⟨w1, g1, w2, g2, ⟨u1, v1, u2, v2, a, b, c, d⟩, e, f, k⟩
    exact ⟨u1, v1, u2 + w2, v2 + g2, a, ⟨u2, v2, w2, g2, b, e, rfl, rfl⟩, by omega, by omega⟩
  · rintro ⟨w1, g1, w2, g2, e, ⟨u1, v1, u2, v2, a, b, c, d⟩, f, k⟩
    exact ⟨w1 + u1, g1 + v1, u2, v2, ⟨w1, g1, u1, v1, e, a, rfl, rfl⟩, b, by omega, by omega⟩
theorem rAdd_zero (R : Int → Int → Prop) : rEq (rAdd R (rOne 0 0)) R := fun w g => by
  constructor
  · rintro ⟨w1, g1, w2, g2, a, ⟨b, c⟩, d, e⟩
    rw [show w = w1 by omega, show g = g1 by omega]; exact a
  · intro a; exact ⟨w, g, 0, 0, a, ⟨rfl, rfl⟩, by omega, by omega⟩
theorem rAdd_zero' (R : Int → Int → Prop) : rEq (rAdd (rOne 0 0) R) R := rEq_trans (rAdd_comm _ _) (rAdd_zero R)
theorem rOpt_add (R Z : Int → Int → Prop) (w g : Int) : rAdd (rOpt R) Z w g ↔ Z w g ∨ rAdd R Z w g := by
  constructor
  · rintro ⟨w1, g1, w2, g2, (⟨a, b⟩ | a), c, d, e⟩
    · left; rw [show w = w2 by omega, show g = g2 by omega]; exact c
    · right; exact ⟨w1, g1, w2, g2, a, c, d, e⟩
  · rintro (a | ⟨w1, g1, w2, g2, a, c, d, e⟩)
    · exact ⟨0, 0, w, g, Or.inl ⟨rfl, rfl⟩, a, by omega, by omega⟩
    · exact ⟨w1, g1, w2, g2, Or.inr a, c, d, e⟩
theorem rOpt_congr {R S : Int → Int → Prop} (h : rEq R S) : rEq (rOpt R) (rOpt S) := fun w g => by
  unfold rOpt; rw [h w g]
/-- a row holds the greatest gain of each weight; none: the least number -/
def rep (F : Int → Int) (R : Int → Int → Prop) (K : Int) : Prop := (∀ w g : Int, R w g → 0 ≤ w ∧ -K ≤ g ∧ g ≤ K) ∧ ∀ w : Int, 0 ≤ w → w ≤ 300 → (∀ g : Int, R w g → g ≤ F w) ∧ (F w = -4611686018427387904 ∨ R w (F w))
/-- what joins() makes of two rows -/
def jnd (U O J : Int → Int) (w : Int) : Prop := U w ≤ J w ∧ (∀ v : Int, 0 ≤ v → v ≤ w → -4611686018427387904 < U (w - v) → -4611686018427387904 < O v → U (w - v) + O v ≤ J w) ∧ (J w = U w ∨ ∃ v : Int, 0 ≤ v ∧ v ≤ w ∧ -4611686018427387904 < U (w - v) ∧ -4611686018427387904 < O v ∧ J w = U (w - v) + O v)
theorem rep_join {U O J : Int → Int} {R S : Int → Int → Prop} {K : Int} (h : rep U R K) (k : rep O S K) (hK : 0 ≤ K ∧ K < 2305843009213693952) (hj : ∀ w : Int, 0 ≤ w → w ≤ 300 → jnd U O J w) : rep J (rAdd R (rOpt S)) (2 * K) := by
  refine ⟨?_, fun w w0 w3 => ⟨?_, ?_⟩⟩
  · rintro w g ⟨w1, g1, w2, g2, a, b, c, d⟩
    have x := h.1 _ _ a
    rcases b with b | b
    · omega
    · have y := k.1 _ _ b
      omega
  · rintro g ⟨w1, g1, w2, g2, a, b, c, d⟩
    obtain ⟨j1, j2, j3⟩ := hj w w0 w3
    have x := h.1 _ _ a
    rcases b with b | b
    · have z := (h.2 w w0 w3).1 g1 (by rw [show w = w1 by omega]; exact a)
      omega
    · have y := k.1 _ _ b
      have z1 := (h.2 w1 (by omega) (by omega)).1 g1 a
      have z2 := (k.2 w2 (by omega) (by omega)).1 g2 b
      have z := j2 w2 (by omega) (by omega) (by rw [show w - w2 = w1 by omega]; omega) (by omega)
      rw [show w - w2 = w1 by omega] at z
      omega
  · obtain ⟨j1, j2, j3⟩ := hj w w0 w3
    rcases j3 with e | ⟨v, v0, v1, c1, c2, e⟩
    · rcases (h.2 w w0 w3).2 with z | z
      · left; omega
      · right; rw [e]; exact ⟨w, U w, 0, 0, z, Or.inl ⟨rfl, rfl⟩, by omega, by omega⟩
    · right
      have z1 := ((h.2 (w - v) (by omega) (by omega)).2).resolve_left (by omega)
      have z2 := ((k.2 v v0 (by omega)).2).resolve_left (by omega)
      exact ⟨w - v, U (w - v), v, O v, z1, Or.inr z2, by omega, e⟩
theorem rep_up {F : Int → Int} {R : Int → Int → Prop} {K L : Int} (h : rep F R K) (hL : K ≤ L) : rep F R L := ⟨fun w g q => by have := h.1 w g q; omega, h.2⟩
theorem rep_one {F : Int → Int} {a b K : Int} (ha : 0 ≤ a) (hb : -K ≤ b ∧ b ≤ K) (h : ∀ w : Int, 0 ≤ w → w ≤ 300 → F w = if w = a then b else -4611686018427387904) : rep F (rOne a b) K := by
  refine ⟨fun w g q => by obtain ⟨q1, q2⟩ := q; omega, fun w w0 w3 => ?_⟩
  rw [h w w0 w3]
  by_cases e : w = a
  · rw [if_pos e]; exact ⟨fun g q => by have := q.2; omega, Or.inr ⟨e, rfl⟩⟩
  · rw [if_neg e]; exact ⟨fun g q => absurd q.1 e, Or.inl rfl⟩
/-- a row holds the greatest gain of each room -/
def repV (V : Int → Int) (T : Int → Int → Prop) : Prop := ∀ r : Int, 0 ≤ r → r ≤ 300 → (∀ w g : Int, T w g → w ≤ r → g ≤ V r) ∧ ∃ w : Int, w ≤ r ∧ T w (V r)
theorem repV_eq {V : Int → Int} {T S : Int → Int → Prop} (h : repV V T) (e : rEq T S) : repV V S := fun r r0 r1 => by
  obtain ⟨a, w, b, c⟩ := h r r0 r1
  exact ⟨fun w g q => a w g ((e w g).mpr q), w, b, (e _ _).mp c⟩
theorem repV_row {V V0 V1 : Int → Int} {T T1 : Int → Int → Prop} {a g : Int} (h0 : repV V0 T) (h1 : repV V1 T1) (hw : ∀ w u : Int, T1 w u → 0 ≤ w) (ha : 0 ≤ a) (h : ∀ r : Int, 0 ≤ r → r ≤ 300 → V r = if a ≤ r then (if V0 r < g + V1 (r - a) then g + V1 (r - a) else V0 r) else V0 r) : repV V (fun w u => T w u ∨ rAdd (rOne a g) T1 w u) := by
  intro r r0 r1
  obtain ⟨a1, w1, a2, a3⟩ := h0 r r0 r1
  rw [h r r0 r1]
  by_cases e : a ≤ r
  · rw [if_pos e]
    obtain ⟨b1, w2, b2, b3⟩ := h1 (r - a) (by omega) (by omega)
    refine ⟨?_, ?_⟩
    · rintro w u (q | ⟨x1, y1, x2, y2, ⟨q1, q2⟩, q3, q4, q5⟩) q6
      · have z := a1 w u q q6
        split <;> omega
      · have z := b1 x2 y2 q3 (by omega)
        split <;> omega
    · split
      · exact ⟨a + w2, by omega, Or.inr ⟨a, g, w2, _, ⟨rfl, rfl⟩, b3, rfl, rfl⟩⟩
      · exact ⟨w1, a2, Or.inl a3⟩
  · rw [if_neg e]
    refine ⟨?_, w1, a2, Or.inl a3⟩
    rintro w u (q | ⟨x1, y1, x2, y2, ⟨q1, q2⟩, q3, q4, q5⟩) q6
    · exact a1 w u q q6
    · have z := hw x2 y2 q3
      omega
/-- the best of a room, and the least that it takes -/
theorem best_val {F V : Int → Int} {R : Int → Int → Prop} {K room b : Int} (h : rep F R K) (hK : K < 2305843009213693952) (hv : repV V R) (h0 : R 0 0) (r0 : 0 ≤ room) (r1 : room ≤ 300) (b0 : 0 ≤ b) (b1 : b ≤ room) (hb : ∀ w : Int, 0 ≤ w → w ≤ room → F w ≤ F b) : V room = F b := by
  obtain ⟨a, w, c, d⟩ := hv room r0 r1
  have z0 := (h.2 0 (by decide) (by decide)).1 0 h0
  have z1 := hb 0 (by decide) r0
  have z2 := ((h.2 b b0 (by omega)).2).resolve_left (by omega)
  have z3 := a b (F b) z2 b1
  have z4 := (h.1 _ _ d).1
  have z5 := (h.2 w z4 (by omega)).1 _ d
  have z6 := hb w z4 c
  omega
theorem best_less {F V : Int → Int} {R : Int → Int → Prop} {K r b : Int} (h : rep F R K) (hv : repV V R) (r0 : 0 ≤ r) (r1 : r ≤ 300) (hr : ∀ w : Int, 0 ≤ w → w ≤ r → F w < F b) : V r < F b := by
  obtain ⟨a, w, c, d⟩ := hv r r0 r1
  have z4 := (h.1 _ _ d).1
  have z5 := (h.2 w z4 (by omega)).1 _ d
  have z6 := hr w z4 c
  omega
/-- what stands at q and below, when t have joined those above them, from the last one on -/
def pP (up a g : Int → Int) (n : Int) : Nat → Int → Int → Int → Prop
  | 0, q => rOne (a q) (g q)
  | t + 1, q => if up (n - t) = q then rAdd (pP up a g n t q) (rOpt (pP up a g n t (n - t))) else pP up a g n t q
