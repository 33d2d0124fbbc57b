/-! function, site, on either side -/
def cClosed (E : Int → Int → Prop) (n : Int) : Prop := ∀ h g : Int, 0 ≤ h → mb n h → E h g → mb n g
def cO (E : Int → Int → Prop) (f n t : Int) : Prop := (0 ≤ n ∧ n < 256) ∧ (∀ g : Int, 0 ≤ g → mb n g → rch E f g) ∧ (∀ g : Int, E f g → mb n g) ∧ (cClosed E n ∨ t + 1 ≤ mcnt n 8)
def cI (E : Int → Int → Prop) (f n t k : Int) : Prop := ∃ n0 : Int, cO E f n0 t ∧ (0 ≤ n ∧ n < 256) ∧ (∀ g : Int, 0 ≤ g → mb n g → rch E f g) ∧ (∀ g : Int, mb n0 g → mb n g) ∧ (∀ h x : Int, 0 ≤ h → h < k → mb n0 h → E h x → mb n x) ∧ (cClosed E n0 → ∀ g : Int, 0 ≤ g → mb n g → mb n0 g)
/-- what a function calls, as bits -/
def cbits (to : Int → Int) (a e r : Int) : Prop := (0 ≤ r ∧ r < 256) ∧ ∀ g : Int, 0 ≤ g → (mb r g ↔ ∃ s : Int, a ≤ s ∧ s < e ∧ to s = g)
theorem cb_0 {to : Int → Int} {a : Int} : cbits to a a 0 := ⟨by decide, fun g _ => ⟨fun q => absurd q (m_zero g), fun ⟨s, h1, h2, _⟩ => by omega⟩⟩
theorem cb_step {to : Int → Int} {a k n : Int} (h : cbits to a k n) (ha : a ≤ k) (ht : 0 ≤ to k ∧ to k < 8) : cbits to a (k + 1) (zor n (zshl 1 (to k))) := by
  have o := m_one ht
  have u := m_or h.1 o.1
  refine ⟨u.1, fun g g0 => ?_⟩
  rw [u.2.2 g, h.2 g g0, o.2 g g0]
  constructor
  · rintro (⟨s, p, q, r⟩ | e)
    · exact ⟨s, p, by omega, r⟩
    · exact ⟨k, ha, by omega, e.symm⟩
  · rintro ⟨s, p, q, r⟩
    by_cases e : s = k
    · right; rw [← r, e]
    · left; exact ⟨s, p, by omega, r⟩
section
variable {E : Int → Int → Prop} {f n t k r : Int}
theorem cO_init (hr : 0 ≤ r ∧ r < 256) (h : ∀ g : Int, 0 ≤ g → (mb r g ↔ E f g)) (hE : ∀ a b : Int, E a b → 0 ≤ b ∧ b < 8) : cO E f r 0 := by
  refine ⟨hr, fun g g0 q => ⟨0, (h g g0).mp q⟩, fun g q => (h g (hE _ _ q).1).mpr q, ?_⟩
  by_cases e : ∃ g : Int, 0 ≤ g ∧ g < 8 ∧ mb r g
  · obtain ⟨g, g0, g1, q⟩ := e
    right
    have z := (mcnt_mono (a := 0) (b := r) (by decide) hr (fun g _ _ u => absurd u (m_zero g)) 8 (by decide)).2 ⟨g, g0, by omega, q, m_zero g⟩
    have y := mcnt_le (a := 0) (by decide) 8 (by decide)
    omega
  · left
    intro x g x0 q w
    exact absurd ((h x x0).mp q) (fun u => e ⟨x, x0, (hE _ _ u).2, q⟩)
theorem cI_start (h : cO E f n t) : cI E f n t 0 := ⟨n, h, h.1, h.2.1, fun _ q => q, fun x y a b => by omega, fun _ g _ q => q⟩
theorem cI_no (h : cI E f n t k) (hk : ¬ mb n k) : cI E f n t (k + 1) := by
  obtain ⟨n0, h1, h2, h3, h4, h5, h6⟩ := h
  refine ⟨n0, h1, h2, h3, h4, fun x y x0 x1 q e => ?_, h6⟩
  by_cases u : x = k
  · rw [u] at q; exact absurd (h4 k q) hk
  · exact h5 x y x0 (by omega) q e
theorem cI_yes (h : cI E f n t k) (k0 : 0 ≤ k) (hk : mb n k) (hr : 0 ≤ r ∧ r < 256) (hrE : ∀ g : Int, 0 ≤ g → (mb r g ↔ E k g)) (hE : ∀ a b : Int, E a b → 0 ≤ b ∧ b < 8) : cI E f (zor n r) t (k + 1) := by
  obtain ⟨n0, h1, h2, h3, h4, h5, h6⟩ := h
  have u := m_or h2 hr
  refine ⟨n0, h1, u.1, fun g g0 q => ?_, fun g q => (u.2.2 g).mpr (Or.inl (h4 g q)), fun x y x0 x1 q e => ?_, fun c g g0 q => ?_⟩
  · rcases (u.2.2 g).mp q with q | q
    · exact h3 g g0 q
    · exact rch_step (h3 k k0 hk) ((hrE g g0).mp q)
  · by_cases w : x = k
    · rw [w] at e; exact (u.2.2 y).mpr (Or.inr ((hrE y (hE _ _ e).1).mpr e))
    · exact (u.2.2 y).mpr (Or.inl (h5 x y x0 (by omega) q e))
  · rcases (u.2.2 g).mp q with q | q
    · exact h6 c g g0 q
    · exact c k g k0 (h6 c k k0 hk) ((hrE g g0).mp q)
theorem cI_end {nF : Int} (h : cI E f n t nF) (hE : ∀ a b : Int, E a b → 0 ≤ b ∧ b < 8) (hF : ∀ a b : Int, E a b → a < nF) : cO E f n (t + 1) := by
  obtain ⟨n0, h1, h2, h3, h4, h5, h6⟩ := h
  obtain ⟨a1, a2, a3, a4⟩ := h1
  refine ⟨h2, h3, fun g q => h4 g (a3 g q), ?_⟩
  have same : (∀ g : Int, 0 ≤ g → g < 8 → mb n g → mb n0 g) → n = n0 := fun q => m_ext h2 a1 (fun g g0 g1 => ⟨q g g0 g1, h4 g⟩)
  rcases a4 with c | c
  · left
    rw [same (fun g g0 _ q => h6 c g g0 q)]
    exact c
  · by_cases e : ∃ g : Int, 0 ≤ g ∧ g < 8 ∧ mb n g ∧ ¬ mb n0 g
    · right
      obtain ⟨g, g0, g1, q1, q2⟩ := e
      have z := (mcnt_mono a1 h2 (fun g _ _ u => h4 g u) 8 (by decide)).2 ⟨g, g0, by omega, q1, q2⟩
      omega
    · left
      have w := same (fun g g0 g1 q => Classical.byContradiction (fun v => e ⟨g, g0, g1, q, v⟩))
      intro x g x0 q u
      rw [w] at q
      exact h5 x g x0 (hF _ _ u) q u
theorem cO_end (h : cO E f n 8) (hE : ∀ a b : Int, E a b → 0 ≤ b ∧ b < 8) : ∀ g : Int, 0 ≤ g → (mb n g ↔ rch E f g) := by
  obtain ⟨h1, h2, h3, h4⟩ := h
  have c : cClosed E n := by
    rcases h4 with c | c
    · exact c
    · have y := mcnt_le h1 8 (by decide)
      omega
  refine fun g g0 => ⟨h2 g g0, fun ⟨j, q⟩ => ?_⟩
  exact (rch_closed (S := fun g => 0 ≤ g ∧ mb n g) (fun g q => ⟨(hE _ _ q).1, h3 g q⟩) (fun a b q e => ⟨(hE _ _ e).1, c a b q.1 q.2 e⟩) j g q).2
end
/-- the reference's pass over all sites -/
def dE (nS : Int) (si to : Int → Int) (h g : Int) : Prop := ∃ k : Int, 0 ≤ k ∧ k < nS ∧ si k = h ∧ to k = g
def dI (nS : Int) (si to : Int → Int) (f n w k : Int) : Prop := (0 ≤ w ∧ w ≤ n ∧ n < 256) ∧ (∀ g : Int, mb w g → mb n g) ∧ (∀ g : Int, 0 ≤ g → mb n g → rch (dE nS si to) f g) ∧ ∀ j : Int, 0 ≤ j → j < k → si j = f ∨ mb w (si j) → mb n (to j)
def dO (nS : Int) (si to : Int → Int) (f n w : Int) : Prop := (0 ≤ n ∧ n < 256) ∧ (w = -1 ∨ (0 ≤ w ∧ w ≤ n)) ∧ (∀ g : Int, 0 ≤ g → mb n g → rch (dE nS si to) f g) ∧ (w = n → ∀ j : Int, 0 ≤ j → j < nS → si j = f ∨ mb n (si j) → mb n (to j))
section
variable {nS f n w k : Int} {si to : Int → Int}
theorem dO_init : dO nS si to f 0 (-1) := ⟨by decide, Or.inl rfl, fun g _ q => absurd q (m_zero g), fun e => absurd e (by decide)⟩
theorem dI_start (h : dO nS si to f n w) : dI nS si to f n n 0 := ⟨⟨h.1.1, Int.le_refl _, h.1.2⟩, fun _ q => q, h.2.2.1, fun j a b => by omega⟩
theorem dI_no (h : dI nS si to f n w k) (k0 : 0 ≤ k) (h1 : ¬ si k = f) (h2 : ¬ mb n (si k)) : dI nS si to f n w (k + 1) := by
  refine ⟨h.1, h.2.1, h.2.2.1, fun j a b q => ?_⟩
  by_cases e : j = k
  · subst e
    rcases q with q | q
    · exact absurd q h1
    · exact absurd (h.2.1 _ q) h2
  · exact h.2.2.2 j a (by omega) q
theorem dI_yes (h : dI nS si to f n w k) (k0 : 0 ≤ k) (k1 : k < nS) (hs : 0 ≤ si k) (ht : 0 ≤ to k ∧ to k < 8) (hq : si k = f ∨ mb n (si k)) : dI nS si to f (zor n (zshl 1 (to k))) w (k + 1) := by
  obtain ⟨⟨a1, a2, a3⟩, b, c, d⟩ := h
  have o := m_one ht
  have u := m_or (a := n) ⟨by omega, a3⟩ o.1
  refine ⟨⟨a1, by omega, u.1.2⟩, fun g q => (u.2.2 g).mpr (Or.inl (b g q)), fun g g0 q => ?_, fun j x y q => ?_⟩
  · rcases (u.2.2 g).mp q with q | q
    · exact c g g0 q
    · have e := (o.2 g g0).mp q
      rcases hq with z | z
      · exact ⟨0, k, k0, k1, z, e.symm⟩
      · exact rch_step (c _ hs z) ⟨k, k0, k1, rfl, e.symm⟩
  · by_cases e : j = k
    · subst e
      exact (u.2.2 _).mpr (Or.inr ((o.2 _ ht.1).mpr rfl))
    · exact (u.2.2 _).mpr (Or.inl (d j x (by omega) q))
theorem dI_end (h : dI nS si to f n w nS) : dO nS si to f n w := ⟨⟨by omega, h.1.2.2⟩, Or.inr ⟨h.1.1, h.1.2.1⟩, h.2.2.1, fun e j a b q => h.2.2.2 j a b (by rw [e]; exact q)⟩
theorem dO_end (h : dO nS si to f n n) : ∀ g : Int, 0 ≤ g → (mb n g ↔ rch (dE nS si to) f g) := by
  obtain ⟨h1, h2, h3, h4⟩ := h
  refine fun g g0 => ⟨h3 g g0, fun ⟨j, q⟩ => ?_⟩
  refine rch_closed (S := fun g => mb n g) (fun g q => ?_) (fun a b q e => ?_) j g q
  · obtain ⟨k, k0, k1, e1, e2⟩ := q
    rw [← e2]; exact h4 rfl k k0 k1 (Or.inl e1)
  · obtain ⟨k, k0, k1, e1, e2⟩ := e
    rw [← e2]; exact h4 rfl k k0 k1 (Or.inr (by rw [e1]; exact q))
end
/-- what function() answers, but for 7 -/
def fnV (v0 v1 v2 v3 v4 v5 v6 nm w : Int) : Int := if w = 0 then v0 else if w = 1 then v1 else if w = 2 then v2 else if w = 3 then v3 else if w = 4 then v4 else if w = 5 then v5 else if w = 6 then v6 else if w = 8 then nlet nm else if 9 ≤ w ∧ w - 9 < nlet nm then nltr nm (nlet nm - 1 - (w - 9)) else -1
/-- what site() answers -/
def siV (v0 v1 v2 v3 v4 v5 v6 w : Int) : Int := if w = 0 then v0 else if w = 1 then v1 else if w = 2 then v2 else if w = 3 then v3 else if w = 4 then v4 else if w = 5 then v5 else if w = 6 then v6 else -1
theorem bool_if {a b : Prop} {x y : Int} [Decidable a] (h : a) : (if a then x else y) = x := if_pos h
set_option maxRecDepth 1000000 in
set_option maxHeartbeats 4000000 in
theorem calledBy_c_33_L9 {d : Nat} {P : Nat → Nat → Nat} {M : Nat → Int → Int} {Q : zQ} (f : Int) (hf : 0 ≤ f ∧ f < (M 33 0)) (hn : (M 33 0) ≤ 8 ∧ (M 33 1) ≤ 16) (hs : ∀ xf : Int, 0 ≤ xf → xf < (M 33 0) → 0 ≤ (M 40 xf) ∧ 0 ≤ (M 41 xf) ∧ (M 40 xf) + (M 41 xf) ≤ (M 33 1)) (ht : ∀ xs : Int, 0 ≤ xs → xs < (M 33 1) → 0 ≤ (M 45 xs) ∧ (M 45 xs) < (M 33 0)) (hQ0 : ∀ (r : Int), (cbits (M 45) (M 40 f) ((M 40 f) + (M 41 f)) r) → Q (zS P M) (some (vI r))) : ∀ (n9 : Nat), ∀ (n : Int) (k : Int), ((M 40 f) ≤ k ∧ k ≤ (M 40 f) + (M 41 f)) → (cbits (M 45) (M 40 f) k n) → (M 40 f) + (M 41 f) - k < (n9 : Int) → WP (d + 0) 217 0 0 9 [some (vR 33), some (vI f), some (vI n), some (vI k)] [] (zS P M) Q := by
  intro n9
  induction n9 with
  | zero => intro n k i1 i2 hm; exfalso; omega
  | succ n9 ih9 =>
    intro n k i1 i2 hm
    exact zB_ok zmt zen (stops := [8, 9, 16, 22, 23, 34, 40]) e_217 100000 (⟨rfl, ⟨rfl, ⟨rfl, ⟨rfl, ⟨(show 0 ≤ f ∧ f < 8 from by first | omega | (have y := hs f hf.1 hf.2; first | omega | (have t := ht k (by omega) (by omega); omega))), (zB_ok zmt zen (stops := [8, 9, 16, 22, 23, 34, 40]) e_217 100000 ⟨rfl, ⟨rfl, ⟨rfl, ⟨rfl, ⟨(show 0 ≤ f ∧ f < 8 from by first | omega | (have y := hs f hf.1 hf.2; first | omega | (have t := ht k (by omega) (by omega); omega))), (zB_ok zmt zen (stops := [8, 9, 16, 22, 23, 34, 40]) e_217 100000 (zcast (fun z => WP d 217 0 0 23 [some (vR 33), some (vI f), some (vI n), some (vI k)] [vI z, vI k] (zFq, P, M, 566) Q) (w32_eq (x := (M 40 f) + (M 41 f)) (y := ((M 40 f) + (M 41 f))) (show (M 40 f) + (M 41 f) = ((M 40 f) + (M 41 f)) ∧ -2147483648 ≤ (M 40 f) + (M 41 f) ∧ (M 40 f) + (M 41 f) < 2147483648 from by first | omega | (have y := hs f hf.1 hf.2; first | omega | (have t := ht k (by omega) (by omega); omega)))) (zB_ok zmt zen (stops := [8, 9, 16, 22, 23, 34, 40]) e_217 100000 ⟨fun (c1 : ((M 40 f) + (M 41 f)) ≤ k) => (hQ0 n (show cbits (M 45) (M 40 f) ((M 40 f) + (M 41 f)) n from by (have e : k = (M 40 f) + (M 41 f) := (by omega); rw [← e]; exact i2))), fun (c1 : ¬ (((M 40 f) + (M 41 f)) ≤ k)) => ⟨rfl, ⟨rfl, ⟨rfl, ⟨rfl, ⟨(show 0 ≤ k ∧ k < 16 from by first | omega | (have y := hs f hf.1 hf.2; first | omega | (have t := ht k (by omega) (by omega); omega))), (zB_ok zmt zen (stops := [8, 9, 16, 22, 23, 34, 40]) e_217 100000 (zcast (fun z => WP d 217 0 0 40 [some (vR 33), some (vI f), some (vI (zor n (zshl 1 (M 45 k)))), some (vI z)] [] (zFq, P, M, 566) Q) (w32_eq (x := k + 1) (y := (k + 1)) (show k + 1 = (k + 1) ∧ -2147483648 ≤ k + 1 ∧ k + 1 < 2147483648 from by first | omega | (have y := hs f hf.1 hf.2; first | omega | (have t := ht k (by omega) (by omega); omega)))) (zB_ok zmt zen (stops := [8, 9, 16, 22, 23, 34, 40]) e_217 100000 (ih9 (zor n (zshl 1 (M 45 k))) (k + 1) (show (M 40 f) ≤ (k + 1) ∧ (k + 1) ≤ (M 40 f) + (M 41 f) from by first | omega | (have y := hs f hf.1 hf.2; first | omega | (have t := ht k (by omega) (by omega); omega))) (show cbits (M 45) (M 40 f) (k + 1) (zor n (zshl 1 (M 45 k))) from by (have y := hs f hf.1 hf.2; have t := ht k (by omega) (by omega); exact cb_step i2 i1.1 ⟨t.1, by omega⟩)) (show (M 40 f) + (M 41 f) - (k + 1) < (n9 : Int) from by first | assumption | omega)))))⟩⟩⟩⟩⟩⟩)))⟩⟩⟩⟩⟩)⟩⟩⟩⟩⟩)
set_option maxRecDepth 1000000 in
set_option maxHeartbeats 4000000 in
theorem calledBy_c_33 {d : Nat} {P : Nat → Nat → Nat} {M : Nat → Int → Int} {Q : zQ} (f : Int) (hf : 0 ≤ f ∧ f < (M 33 0)) (hn : (M 33 0) ≤ 8 ∧ (M 33 1) ≤ 16) (hs : ∀ xf : Int, 0 ≤ xf → xf < (M 33 0) → 0 ≤ (M 40 xf) ∧ 0 ≤ (M 41 xf) ∧ (M 40 xf) + (M 41 xf) ≤ (M 33 1)) (ht : ∀ xs : Int, 0 ≤ xs → xs < (M 33 1) → 0 ≤ (M 45 xs) ∧ (M 45 xs) < (M 33 0)) (hQ0 : ∀ (r : Int), (cbits (M 45) (M 40 f) ((M 40 f) + (M 41 f)) r) → Q (zS P M) (some (vI r))) : WC (d + 1) 217 [vR 33, vI f] (zS P M) Q :=
  ⟨_, rfl, zB_ok zmt zen (stops := [8, 9, 16, 22, 23, 34, 40]) e_217 100000 (⟨rfl, ⟨rfl, ⟨rfl, ⟨rfl, ⟨(show 0 ≤ f ∧ f < 8 from by first | omega | (have y := hs f hf.1 hf.2; first | omega | (have t := ht k (by omega) (by omega); omega))), (zB_ok zmt zen (stops := [8, 9, 16, 22, 23, 34, 40]) e_217 100000 (calledBy_c_33_L9 f hf hn hs ht hQ0 (((M 40 f) + (M 41 f) - (M 40 f)).toNat + 1) 0 (M 40 f) (show (M 40 f) ≤ (M 40 f) ∧ (M 40 f) ≤ (M 40 f) + (M 41 f) from by first | omega | (have y := hs f hf.1 hf.2; first | omega | (have t := ht k (by omega) (by omega); omega))) (show cbits (M 45) (M 40 f) (M 40 f) 0 from by exact cb_0) (show (M 40 f) + (M 41 f) - (M 40 f) < ((((M 40 f) + (M 41 f) - (M 40 f)).toNat + 1 : Nat) : Int) from by omega)))⟩⟩⟩⟩⟩)⟩
set_option maxRecDepth 1000000 in
set_option maxHeartbeats 4000000 in
theorem comesTo_c_33_L17 {d : Nat} {P : Nat → Nat → Nat} {M : Nat → Int → Int} {Q : zQ} (f : Int) (hf : 0 ≤ f ∧ f < (M 33 0)) (hn : (M 33 0) ≤ 8 ∧ (M 33 1) ≤ 16) (hs : ∀ xf : Int, 0 ≤ xf → xf < (M 33 0) → 0 ≤ (M 40 xf) ∧ 0 ≤ (M 41 xf) ∧ (M 40 xf) + (M 41 xf) ≤ (M 33 1)) (ht : ∀ xs : Int, 0 ≤ xs → xs < (M 33 1) → 0 ≤ (M 45 xs) ∧ (M 45 xs) < (M 33 0)) (hQ0 : ∀ (r : Int), ((r = 0 ∨ r = 1) ∧ (r = 1 ↔ rch (fun xh xg => (0 ≤ xh ∧ xh < (M 33 0)) ∧ ∃ xs : Int, (M 40) xh ≤ xs ∧ xs < (M 40) xh + (M 41) xh ∧ (M 45) xs = xg) f f)) → Q (zS P M) (some (vI r))) (n8 : Nat) (ih8 : ∀ (n : Int) (t : Int) (x4 : Option zV), (0 ≤ t ∧ t ≤ 8) → (cO (fun xh xg => (0 ≤ xh ∧ xh < (M 33 0)) ∧ ∃ xs : Int, (M 40) xh ≤ xs ∧ xs < (M 40) xh + (M 41) xh ∧ (M 45) xs = xg) f n t) → 8 - t < (n8 : Int) → WP (d + 1) 216 0 0 8 [some (vR 33), some (vI f), some (vI n), some (vI t), x4] [] (zS P M) Q) : ∀ (n17 : Nat), ∀ (n : Int) (t : Int) (k : Int), (0 ≤ t ∧ t < 8 ∧ 0 ≤ k ∧ k ≤ (M 33 0)) → (cI (fun xh xg => (0 ≤ xh ∧ xh < (M 33 0)) ∧ ∃ xs : Int, (M 40) xh ≤ xs ∧ xs < (M 40) xh + (M 41) xh ∧ (M 45) xs = xg) f n t k) → ((8 : Int) - t ≤ (n8 : Int)) → (M 33 0) - k < (n17 : Int) → WP (d + 1) 216 0 0 17 [some (vR 33), some (vI f), some (vI n), some (vI t), some (vI k)] [] (zS P M) Q := by
  intro n17
  induction n17 with
  | zero => intro n t k j1 j2 j3 hm; exfalso; omega
  | succ n17 ih17 =>
    intro n t k j1 j2 j3 hm
    exact zB_ok zmt zen (stops := [8, 17, 47, 53]) e_216 100000 (⟨rfl, ⟨rfl, ⟨fun (c1 : (M 33 0) ≤ k) => (zcast (fun z => WP (d + 1) 216 0 0 53 [some (vR 33), some (vI f), some (vI n), some (vI z), some (vI k)] [] (zFq, P, M, 566) Q) (w32_eq (x := t + 1) (y := (t + 1)) (show t + 1 = (t + 1) ∧ -2147483648 ≤ t + 1 ∧ t + 1 < 2147483648 from by first | assumption | omega)) (zB_ok zmt zen (stops := [8, 17, 47, 53]) e_216 100000 (ih8 n (t + 1) (some (vI k)) (show 0 ≤ (t + 1) ∧ (t + 1) ≤ 8 from by first | assumption | omega) (show cO (fun xh xg => (0 ≤ xh ∧ xh < (M 33 0)) ∧ ∃ xs : Int, (M 40) xh ≤ xs ∧ xs < (M 40) xh + (M 41) xh ∧ (M 45) xs = xg) f n (t + 1) from by (have e : k = M 33 0 := (by omega); exact cI_end (nF := M 33 0) (e ▸ j2) (fun a b e => by obtain ⟨u, s, s1, s2, s3⟩ := e; have y := hs a u.1 u.2; have t := ht s (by omega) (by omega); omega) (fun a b e => e.1.2))) (show 8 - (t + 1) < (n8 : Int) from by first | assumption | omega)))), fun (c1 : ¬ ((M 33 0) ≤ k)) => ⟨fun (c2 : (zand (zshr n k) 1) = 0) => (zcast (fun z => WP (d + 1) 216 0 0 47 [some (vR 33), some (vI f), some (vI n), some (vI t), some (vI z)] [] (zFq, P, M, 566) Q) (w32_eq (x := k + 1) (y := (k + 1)) (show k + 1 = (k + 1) ∧ -2147483648 ≤ k + 1 ∧ k + 1 < 2147483648 from by first | assumption | omega)) (zB_ok zmt zen (stops := [8, 17, 47, 53]) e_216 100000 (ih17 n t (k + 1) (show 0 ≤ t ∧ t < 8 ∧ 0 ≤ (k + 1) ∧ (k + 1) ≤ (M 33 0) from by first | assumption | omega) (show cI (fun xh xg => (0 ≤ xh ∧ xh < (M 33 0)) ∧ ∃ xs : Int, (M 40) xh ≤ xs ∧ xs < (M 40) xh + (M 41) xh ∧ (M 45) xs = xg) f n t (k + 1) from by (have w1 : (0 ≤ n ∧ n < 256) := (by obtain ⟨_, _, w1, _⟩ := j2; exact w1); have w2 := m_test w1 (show 0 ≤ k ∧ k < 8 by omega); exact cI_no j2 (by rcases w2 with w2 | w2; exact absurd w2.1 (by omega); exact w2.2))) (show (8 : Int) - t ≤ (n8 : Int) from by first | assumption | omega) (show (M 33 0) - (k + 1) < (n17 : Int) from by first | assumption | omega)))), fun (c2 : ¬ ((zand (zshr n k) 1) = 0)) => ⟨rfl, ⟨rfl, (calledBy_c_33 k (show 0 ≤ k ∧ k < (M 33 0) from by first | assumption | omega) (show (M 33 0) ≤ 8 ∧ (M 33 1) ≤ 16 from by first | assumption | omega) (show ∀ xf : Int, 0 ≤ xf → xf < (M 33 0) → 0 ≤ (M 40 xf) ∧ 0 ≤ (M 41 xf) ∧ (M 40 xf) + (M 41 xf) ≤ (M 33 1) from by exact hs) (show ∀ xs : Int, 0 ≤ xs → xs < (M 33 1) → 0 ≤ (M 45 xs) ∧ (M 45 xs) < (M 33 0) from by exact ht) (fun (r_3 : Int) (q_3 : cbits (M 45) (M 40 k) ((M 40 k) + (M 41 k)) r_3) => (zcast (fun z => WP (d + 1) 216 0 0 47 [some (vR 33), some (vI f), some (vI (zor n r_3)), some (vI t), some (vI z)] [] (zFq, P, M, 566) Q) (w32_eq (x := k + 1) (y := (k + 1)) (show k + 1 = (k + 1) ∧ -2147483648 ≤ k + 1 ∧ k + 1 < 2147483648 from by first | assumption | omega)) (zB_ok zmt zen (stops := [8, 17, 47, 53]) e_216 100000 (ih17 (zor n r_3) t (k + 1) (show 0 ≤ t ∧ t < 8 ∧ 0 ≤ (k + 1) ∧ (k + 1) ≤ (M 33 0) from by first | assumption | omega) (show cI (fun xh xg => (0 ≤ xh ∧ xh < (M 33 0)) ∧ ∃ xs : Int, (M 40) xh ≤ xs ∧ xs < (M 40) xh + (M 41) xh ∧ (M 45) xs = xg) f (zor n r_3) t (k + 1) from by (have w1 : (0 ≤ n ∧ n < 256) := (by obtain ⟨_, _, w1, _⟩ := j2; exact w1); have w2 := m_test w1 (show 0 ≤ k ∧ k < 8 by omega); exact cI_yes j2 (by omega) (by rcases w2 with w2 | w2; exact w2.2; exact absurd w2.1 (by assumption)) q_3.1 (fun g g0 => by rw [q_3.2 g g0]; exact ⟨fun e => ⟨⟨by omega, by omega⟩, e⟩, fun e => e.2⟩) (fun a b e => by obtain ⟨u, s, s1, s2, s3⟩ := e; have y := hs a u.1 u.2; have t := ht s (by omega) (by omega); omega))) (show (8 : Int) - t ≤ (n8 : Int) from by first | assumption | omega) (show (M 33 0) - (k + 1) < (n17 : Int) from by first | assumption | omega))))))⟩⟩⟩⟩⟩⟩)
set_option maxRecDepth 1000000 in
set_option maxHeartbeats 4000000 in
theorem comesTo_c_33_L8 {d : Nat} {P : Nat → Nat → Nat} {M : Nat → Int → Int} {Q : zQ} (f : Int) (hf : 0 ≤ f ∧ f < (M 33 0)) (hn : (M 33 0) ≤ 8 ∧ (M 33 1) ≤ 16) (hs : ∀ xf : Int, 0 ≤ xf → xf < (M 33 0) → 0 ≤ (M 40 xf) ∧ 0 ≤ (M 41 xf) ∧ (M 40 xf) + (M 41 xf) ≤ (M 33 1)) (ht : ∀ xs : Int, 0 ≤ xs → xs < (M 33 1) → 0 ≤ (M 45 xs) ∧ (M 45 xs) < (M 33 0)) (hQ0 : ∀ (r : Int), ((r = 0 ∨ r = 1) ∧ (r = 1 ↔ rch (fun xh xg => (0 ≤ xh ∧ xh < (M 33 0)) ∧ ∃ xs : Int, (M 40) xh ≤ xs ∧ xs < (M 40) xh + (M 41) xh ∧ (M 45) xs = xg) f f)) → Q (zS P M) (some (vI r))) : ∀ (n8 : Nat), ∀ (n : Int) (t : Int) (x4 : Option zV), (0 ≤ t ∧ t ≤ 8) → (cO (fun xh xg => (0 ≤ xh ∧ xh < (M 33 0)) ∧ ∃ xs : Int, (M 40) xh ≤ xs ∧ xs < (M 40) xh + (M 41) xh ∧ (M 45) xs = xg) f n t) → 8 - t < (n8 : Int) → WP (d + 1) 216 0 0 8 [some (vR 33), some (vI f), some (vI n), some (vI t), x4] [] (zS P M) Q := by
  intro n8
  induction n8 with
  | zero => intro n t x4 i1 i2 hm; exfalso; omega
  | succ n8 ih8 =>
    intro n t x4 i1 i2 hm
    exact zB_ok zmt zen (stops := [8, 17, 47, 53]) e_216 100000 (⟨fun (c1 : 8 ≤ t) => ⟨fun (c2 : (zand (zshr n f) 1) = 0) => ⟨(of_decide_eq_true rfl), (hQ0 0 (show (0 = 0 ∨ 0 = 1) ∧ (0 = 1 ↔ rch (fun xh xg => (0 ≤ xh ∧ xh < (M 33 0)) ∧ ∃ xs : Int, (M 40) xh ≤ xs ∧ xs < (M 40) xh + (M 41) xh ∧ (M 45) xs = xg) f f) from by (have e8 : t = 8 := (by omega); rw [e8] at i2; have w2 := m_test i2.1 (show 0 ≤ f ∧ f < 8 by omega); refine ⟨Or.inl rfl, ⟨fun w => absurd w (by decide), fun w => absurd ((cO_end i2 (fun a b e => by obtain ⟨u, s, s1, s2, s3⟩ := e; have y := hs a u.1 u.2; have t := ht s (by omega) (by omega); omega) f hf.1).mpr w) (by rcases w2 with w2 | w2; exact absurd w2.1 (by omega); exact w2.2)⟩⟩)))⟩, fun (c2 : ¬ ((zand (zshr n f) 1) = 0)) => ⟨(of_decide_eq_true rfl), (hQ0 1 (show (1 = 0 ∨ 1 = 1) ∧ (1 = 1 ↔ rch (fun xh xg => (0 ≤ xh ∧ xh < (M 33 0)) ∧ ∃ xs : Int, (M 40) xh ≤ xs ∧ xs < (M 40) xh + (M 41) xh ∧ (M 45) xs = xg) f f) from by (have e8 : t = 8 := (by omega); rw [e8] at i2; have w2 := m_test i2.1 (show 0 ≤ f ∧ f < 8 by omega); refine ⟨Or.inr rfl, ⟨fun _ => (cO_end i2 (fun a b e => by obtain ⟨u, s, s1, s2, s3⟩ := e; have y := hs a u.1 u.2; have t := ht s (by omega) (by omega); omega) f hf.1).mp (by rcases w2 with w2 | w2; exact w2.2; exact absurd w2.1 (by assumption)), fun _ => rfl⟩⟩)))⟩⟩, fun (c1 : ¬ (8 ≤ t)) => (comesTo_c_33_L17 f hf hn hs ht hQ0 n8 ih8 (((M 33 0) - 0).toNat + 1) n t 0 (show 0 ≤ t ∧ t < 8 ∧ 0 ≤ 0 ∧ 0 ≤ (M 33 0) from by first | assumption | omega) (show cI (fun xh xg => (0 ≤ xh ∧ xh < (M 33 0)) ∧ ∃ xs : Int, (M 40) xh ≤ xs ∧ xs < (M 40) xh + (M 41) xh ∧ (M 45) xs = xg) f n t 0 from by exact cI_start i2) (show (8 : Int) - t ≤ (n8 : Int) from by first | assumption | omega) (show (M 33 0) - 0 < ((((M 33 0) - 0).toNat + 1 : Nat) : Int) from by omega))⟩)
set_option maxRecDepth 1000000 in
set_option maxHeartbeats 4000000 in
theorem comesTo_c_33 {d : Nat} {P : Nat → Nat → Nat} {M : Nat → Int → Int} {Q : zQ} (f : Int) (hf : 0 ≤ f ∧ f < (M 33 0)) (hn : (M 33 0) ≤ 8 ∧ (M 33 1) ≤ 16) (hs : ∀ xf : Int, 0 ≤ xf → xf < (M 33 0) → 0 ≤ (M 40 xf) ∧ 0 ≤ (M 41 xf) ∧ (M 40 xf) + (M 41 xf) ≤ (M 33 1)) (ht : ∀ xs : Int, 0 ≤ xs → xs < (M 33 1) → 0 ≤ (M 45 xs) ∧ (M 45 xs) < (M 33 0)) (hQ0 : ∀ (r : Int), ((r = 0 ∨ r = 1) ∧ (r = 1 ↔ rch (fun xh xg => (0 ≤ xh ∧ xh < (M 33 0)) ∧ ∃ xs : Int, (M 40) xh ≤ xs ∧ xs < (M 40) xh + (M 41) xh ∧ (M 45) xs = xg) f f)) → Q (zS P M) (some (vI r))) : WC (d + 2) 216 [vR 33, vI f] (zS P M) Q :=
  ⟨_, rfl, zB_ok zmt zen (stops := [8, 17, 47, 53]) e_216 100000 (⟨rfl, ⟨rfl, (calledBy_c_33 f (show 0 ≤ f ∧ f < (M 33 0) from by first | assumption | omega) (show (M 33 0) ≤ 8 ∧ (M 33 1) ≤ 16 from by first | assumption | omega) (show ∀ xf : Int, 0 ≤ xf → xf < (M 33 0) → 0 ≤ (M 40 xf) ∧ 0 ≤ (M 41 xf) ∧ (M 40 xf) + (M 41 xf) ≤ (M 33 1) from by exact hs) (show ∀ xs : Int, 0 ≤ xs → xs < (M 33 1) → 0 ≤ (M 45 xs) ∧ (M 45 xs) < (M 33 0) from by exact ht) (fun (r_1 : Int) (q_1 : cbits (M 45) (M 40 f) ((M 40 f) + (M 41 f)) r_1) => (comesTo_c_33_L8 f hf hn hs ht hQ0 ((8 - 0 : Int).toNat + 1) r_1 0 (none) (show 0 ≤ 0 ∧ 0 ≤ 8 from by first | assumption | omega) (show cO (fun xh xg => (0 ≤ xh ∧ xh < (M 33 0)) ∧ ∃ xs : Int, (M 40) xh ≤ xs ∧ xs < (M 40) xh + (M 41) xh ∧ (M 45) xs = xg) f r_1 0 from by exact cO_init q_1.1 (fun g g0 => by rw [q_1.2 g g0]; exact ⟨fun e => ⟨⟨by omega, by omega⟩, e⟩, fun e => e.2⟩) (fun a b e => by obtain ⟨u, s, s1, s2, s3⟩ := e; have y := hs a u.1 u.2; have t := ht s (by omega) (by omega); omega)) (show (8 - 0 : Int) < (((8 - 0 : Int).toNat + 1 : Nat) : Int) from by omega))))⟩⟩)⟩
set_option maxRecDepth 1000000 in
set_option maxHeartbeats 4000000 in
theorem calledBy_c_62_L9 {d : Nat} {P : Nat → Nat → Nat} {M : Nat → Int → Int} {Q : zQ} (f : Int) (hf : 0 ≤ f ∧ f < (M 62 0)) (hn : (M 62 0) ≤ 8 ∧ (M 62 1) ≤ 16) (hs : ∀ xf : Int, 0 ≤ xf → xf < (M 62 0) → 0 ≤ (M 69 xf) ∧ 0 ≤ (M 70 xf) ∧ (M 69 xf) + (M 70 xf) ≤ (M 62 1)) (ht : ∀ xs : Int, 0 ≤ xs → xs < (M 62 1) → 0 ≤ (M 74 xs) ∧ (M 74 xs) < (M 62 0)) (hQ0 : ∀ (r : Int), (cbits (M 74) (M 69 f) ((M 69 f) + (M 70 f)) r) → Q (zS P M) (some (vI r))) : ∀ (n9 : Nat), ∀ (n : Int) (k : Int), ((M 69 f) ≤ k ∧ k ≤ (M 69 f) + (M 70 f)) → (cbits (M 74) (M 69 f) k n) → (M 69 f) + (M 70 f) - k < (n9 : Int) → WP (d + 0) 217 0 0 9 [some (vR 62), some (vI f), some (vI n), some (vI k)] [] (zS P M) Q := by
  intro n9
  induction n9 with
  | zero => intro n k i1 i2 hm; exfalso; omega
  | succ n9 ih9 =>
    intro n k i1 i2 hm
    exact zB_ok zmt zen (stops := [8, 9, 16, 22, 23, 34, 40]) e_217 100000 (⟨rfl, ⟨rfl, ⟨rfl, ⟨rfl, ⟨(show 0 ≤ f ∧ f < 8 from by first | omega | (have y := hs f hf.1 hf.2; first | omega | (have t := ht k (by omega) (by omega); omega))), (zB_ok zmt zen (stops := [8, 9, 16, 22, 23, 34, 40]) e_217 100000 ⟨rfl, ⟨rfl, ⟨rfl, ⟨rfl, ⟨(show 0 ≤ f ∧ f < 8 from by first | omega | (have y := hs f hf.1 hf.2; first | omega | (have t := ht k (by omega) (by omega); omega))), (zB_ok zmt zen (stops := [8, 9, 16, 22, 23, 34, 40]) e_217 100000 (zcast (fun z => WP d 217 0 0 23 [some (vR 62), some (vI f), some (vI n), some (vI k)] [vI z, vI k] (zFq, P, M, 566) Q) (w32_eq (x := (M 69 f) + (M 70 f)) (y := ((M 69 f) + (M 70 f))) (show (M 69 f) + (M 70 f) = ((M 69 f) + (M 70 f)) ∧ -2147483648 ≤ (M 69 f) + (M 70 f) ∧ (M 69 f) + (M 70 f) < 2147483648 from by first | omega | (have y := hs f hf.1 hf.2; first | omega | (have t := ht k (by omega) (by omega); omega)))) (zB_ok zmt zen (stops := [8, 9, 16, 22, 23, 34, 40]) e_217 100000 ⟨fun (c1 : ((M 69 f) + (M 70 f)) ≤ k) => (hQ0 n (show cbits (M 74) (M 69 f) ((M 69 f) + (M 70 f)) n from by (have e : k = (M 69 f) + (M 70 f) := (by omega); rw [← e]; exact i2))), fun (c1 : ¬ (((M 69 f) + (M 70 f)) ≤ k)) => ⟨rfl, ⟨rfl, ⟨rfl, ⟨rfl, ⟨(show 0 ≤ k ∧ k < 16 from by first | omega | (have y := hs f hf.1 hf.2; first | omega | (have t := ht k (by omega) (by omega); omega))), (zB_ok zmt zen (stops := [8, 9, 16, 22, 23, 34, 40]) e_217 100000 (zcast (fun z => WP d 217 0 0 40 [some (vR 62), some (vI f), some (vI (zor n (zshl 1 (M 74 k)))), some (vI z)] [] (zFq, P, M, 566) Q) (w32_eq (x := k + 1) (y := (k + 1)) (show k + 1 = (k + 1) ∧ -2147483648 ≤ k + 1 ∧ k + 1 < 2147483648 from by first | omega | (have y := hs f hf.1 hf.2; first | omega | (have t := ht k (by omega) (by omega); omega)))) (zB_ok zmt zen (stops := [8, 9, 16, 22, 23, 34, 40]) e_217 100000 (ih9 (zor n (zshl 1 (M 74 k))) (k + 1) (show (M 69 f) ≤ (k + 1) ∧ (k + 1) ≤ (M 69 f) + (M 70 f) from by first | omega | (have y := hs f hf.1 hf.2; first | omega | (have t := ht k (by omega) (by omega); omega))) (show cbits (M 74) (M 69 f) (k + 1) (zor n (zshl 1 (M 74 k))) from by (have y := hs f hf.1 hf.2; have t := ht k (by omega) (by omega); exact cb_step i2 i1.1 ⟨t.1, by omega⟩)) (show (M 69 f) + (M 70 f) - (k + 1) < (n9 : Int) from by first | assumption | omega)))))⟩⟩⟩⟩⟩⟩)))⟩⟩⟩⟩⟩)⟩⟩⟩⟩⟩)
set_option maxRecDepth 1000000 in
set_option maxHeartbeats 4000000 in
theorem calledBy_c_62 {d : Nat} {P : Nat → Nat → Nat} {M : Nat → Int → Int} {Q : zQ} (f : Int) (hf : 0 ≤ f ∧ f < (M 62 0)) (hn : (M 62 0) ≤ 8 ∧ (M 62 1) ≤ 16) (hs : ∀ xf : Int, 0 ≤ xf → xf < (M 62 0) → 0 ≤ (M 69 xf) ∧ 0 ≤ (M 70 xf) ∧ (M 69 xf) + (M 70 xf) ≤ (M 62 1)) (ht : ∀ xs : Int, 0 ≤ xs → xs < (M 62 1) → 0 ≤ (M 74 xs) ∧ (M 74 xs) < (M 62 0)) (hQ0 : ∀ (r : Int), (cbits (M 74) (M 69 f) ((M 69 f) + (M 70 f)) r) → Q (zS P M) (some (vI r))) : WC (d + 1) 217 [vR 62, vI f] (zS P M) Q :=
  ⟨_, rfl, zB_ok zmt zen (stops := [8, 9, 16, 22, 23, 34, 40]) e_217 100000 (⟨rfl, ⟨rfl, ⟨rfl, ⟨rfl, ⟨(show 0 ≤ f ∧ f < 8 from by first | omega | (have y := hs f hf.1 hf.2; first | omega | (have t := ht k (by omega) (by omega); omega))), (zB_ok zmt zen (stops := [8, 9, 16, 22, 23, 34, 40]) e_217 100000 (calledBy_c_62_L9 f hf hn hs ht hQ0 (((M 69 f) + (M 70 f) - (M 69 f)).toNat + 1) 0 (M 69 f) (show (M 69 f) ≤ (M 69 f) ∧ (M 69 f) ≤ (M 69 f) + (M 70 f) from by first | omega | (have y := hs f hf.1 hf.2; first | omega | (have t := ht k (by omega) (by omega); omega))) (show cbits (M 74) (M 69 f) (M 69 f) 0 from by exact cb_0) (show (M 69 f) + (M 70 f) - (M 69 f) < ((((M 69 f) + (M 70 f) - (M 69 f)).toNat + 1 : Nat) : Int) from by omega)))⟩⟩⟩⟩⟩)⟩
set_option maxRecDepth 1000000 in
set_option maxHeartbeats 4000000 in
theorem comesTo_c_62_L17 {d : Nat} {P : Nat → Nat → Nat} {M : Nat → Int → Int} {Q : zQ} (f : Int) (hf : 0 ≤ f ∧ f < (M 62 0)) (hn : (M 62 0) ≤ 8 ∧ (M 62 1) ≤ 16) (hs : ∀ xf : Int, 0 ≤ xf → xf < (M 62 0) → 0 ≤ (M 69 xf) ∧ 0 ≤ (M 70 xf) ∧ (M 69 xf) + (M 70 xf) ≤ (M 62 1)) (ht : ∀ xs : Int, 0 ≤ xs → xs < (M 62 1) → 0 ≤ (M 74 xs) ∧ (M 74 xs) < (M 62 0)) (hQ0 : ∀ (r : Int), ((r = 0 ∨ r = 1) ∧ (r = 1 ↔ rch (fun xh xg => (0 ≤ xh ∧ xh < (M 62 0)) ∧ ∃ xs : Int, (M 69) xh ≤ xs ∧ xs < (M 69) xh + (M 70) xh ∧ (M 74) xs = xg) f f)) → Q (zS P M) (some (vI r))) (n8 : Nat) (ih8 : ∀ (n : Int) (t : Int) (x4 : Option zV), (0 ≤ t ∧ t ≤ 8) → (cO (fun xh xg => (0 ≤ xh ∧ xh < (M 62 0)) ∧ ∃ xs : Int, (M 69) xh ≤ xs ∧ xs < (M 69) xh + (M 70) xh ∧ (M 74) xs = xg) f n t) → 8 - t < (n8 : Int) → WP (d + 1) 216 0 0 8 [some (vR 62), some (vI f), some (vI n), some (vI t), x4] [] (zS P M) Q) : ∀ (n17 : Nat), ∀ (n : Int) (t : Int) (k : Int), (0 ≤ t ∧ t < 8 ∧ 0 ≤ k ∧ k ≤ (M 62 0)) → (cI (fun xh xg => (0 ≤ xh ∧ xh < (M 62 0)) ∧ ∃ xs : Int, (M 69) xh ≤ xs ∧ xs < (M 69) xh + (M 70) xh ∧ (M 74) xs = xg) f n t k) → ((8 : Int) - t ≤ (n8 : Int)) → (M 62 0) - k < (n17 : Int) → WP (d + 1) 216 0 0 17 [some (vR 62), some (vI f), some (vI n), some (vI t), some (vI k)] [] (zS P M) Q := by
  intro n17
  induction n17 with
  | zero => intro n t k j1 j2 j3 hm; exfalso; omega
  | succ n17 ih17 =>
    intro n t k j1 j2 j3 hm
    exact zB_ok zmt zen (stops := [8, 17, 47, 53]) e_216 100000 (⟨rfl, ⟨rfl, ⟨fun (c1 : (M 62 0) ≤ k) => (zcast (fun z => WP (d + 1) 216 0 0 53 [some (vR 62), some (vI f), some (vI n), some (vI z), some (vI k)] [] (zFq, P, M, 566) Q) (w32_eq (x := t + 1) (y := (t + 1)) (show t + 1 = (t + 1) ∧ -2147483648 ≤ t + 1 ∧ t + 1 < 2147483648 from by first | assumption | omega)) (zB_ok zmt zen (stops := [8, 17, 47, 53]) e_216 100000 (ih8 n (t + 1) (some (vI k)) (show 0 ≤ (t + 1) ∧ (t + 1) ≤ 8 from by first | assumption | omega) (show cO (fun xh xg => (0 ≤ xh ∧ xh < (M 62 0)) ∧ ∃ xs : Int, (M 69) xh ≤ xs ∧ xs < (M 69) xh + (M 70) xh ∧ (M 74) xs = xg) f n (t + 1) from by (have e : k = M 62 0 := (by omega); exact cI_end (nF := M 62 0) (e ▸ j2) (fun a b e => by obtain ⟨u, s, s1, s2, s3⟩ := e; have y := hs a u.1 u.2; have t := ht s (by omega) (by omega); omega) (fun a b e => e.1.2))) (show 8 - (t + 1) < (n8 : Int) from by first | assumption | omega)))), fun (c1 : ¬ ((M 62 0) ≤ k)) => ⟨fun (c2 : (zand (zshr n k) 1) = 0) => (zcast (fun z => WP (d + 1) 216 0 0 47 [some (vR 62), some (vI f), some (vI n), some (vI t), some (vI z)] [] (zFq, P, M, 566) Q) (w32_eq (x := k + 1) (y := (k + 1)) (show k + 1 = (k + 1) ∧ -2147483648 ≤ k + 1 ∧ k + 1 < 2147483648 from by first | assumption | omega)) (zB_ok zmt zen (stops := [8, 17, 47, 53]) e_216 100000 (ih17 n t (k + 1) (show 0 ≤ t ∧ t < 8 ∧ 0 ≤ (k + 1) ∧ (k + 1) ≤ (M 62 0) from by first | assumption | omega) (show cI (fun xh xg => (0 ≤ xh ∧ xh < (M 62 0)) ∧ ∃ xs : Int, (M 69) xh ≤ xs ∧ xs < (M 69) xh + (M 70) xh ∧ (M 74) xs = xg) f n t (k + 1) from by (have w1 : (0 ≤ n ∧ n < 256) := (by obtain ⟨_, _, w1, _⟩ := j2; exact w1); have w2 := m_test w1 (show 0 ≤ k ∧ k < 8 by omega); exact cI_no j2 (by rcases w2 with w2 | w2; exact absurd w2.1 (by omega); exact w2.2))) (show (8 : Int) - t ≤ (n8 : Int) from by first | assumption | omega) (show (M 62 0) - (k + 1) < (n17 : Int) from by first | assumption | omega)))), fun (c2 : ¬ ((zand (zshr n k) 1) = 0)) => ⟨rfl, ⟨rfl, (calledBy_c_62 k (show 0 ≤ k ∧ k < (M 62 0) from by first | assumption | omega) (show (M 62 0) ≤ 8 ∧ (M 62 1) ≤ 16 from by first | assumption | omega) (show ∀ xf : Int, 0 ≤ xf → xf < (M 62 0) → 0 ≤ (M 69 xf) ∧ 0 ≤ (M 70 xf) ∧ (M 69 xf) + (M 70 xf) ≤ (M 62 1) from by exact hs) (show ∀ xs : Int, 0 ≤ xs → xs < (M 62 1) → 0 ≤ (M 74 xs) ∧ (M 74 xs) < (M 62 0) from by exact ht) (fun (r_3 : Int) (q_3 : cbits (M 74) (M 69 k) ((M 69 k) + (M 70 k)) r_3) => (zcast (fun z => WP (d + 1) 216 0 0 47 [some (vR 62), some (vI f), some (vI (zor n r_3)), some (vI t), some (vI z)] [] (zFq, P, M, 566) Q) (w32_eq (x := k + 1) (y := (k + 1)) (show k + 1 = (k + 1) ∧ -2147483648 ≤ k + 1 ∧ k + 1 < 2147483648 from by first | assumption | omega)) (zB_ok zmt zen (stops := [8, 17, 47, 53]) e_216 100000 (ih17 (zor n r_3) t (k + 1) (show 0 ≤ t ∧ t < 8 ∧ 0 ≤ (k + 1) ∧ (k + 1) ≤ (M 62 0) from by first | assumption | omega) (show cI (fun xh xg => (0 ≤ xh ∧ xh < (M 62 0)) ∧ ∃ xs : Int, (M 69) xh ≤ xs ∧ xs < (M 69) xh + (M 70) xh ∧ (M 74) xs = xg) f (zor n r_3) t (k + 1) from by (have w1 : (0 ≤ n ∧ n < 256) := (by obtain ⟨_, _, w1, _⟩ := j2; exact w1); have w2 := m_test w1 (show 0 ≤ k ∧ k < 8 by omega); exact cI_yes j2 (by omega) (by rcases w2 with w2 | w2; exact w2.2; exact absurd w2.1 (by assumption)) q_3.1 (fun g g0 => by rw [q_3.2 g g0]; exact ⟨fun e => ⟨⟨by omega, by omega⟩, e⟩, fun e => e.2⟩) (fun a b e => by obtain ⟨u, s, s1, s2, s3⟩ := e; have y := hs a u.1 u.2; have t := ht s (by omega) (by omega); omega))) (show (8 : Int) - t ≤ (n8 : Int) from by first | assumption | omega) (show (M 62 0) - (k + 1) < (n17 : Int) from by first | assumption | omega))))))⟩⟩⟩⟩⟩⟩)
set_option maxRecDepth 1000000 in
set_option maxHeartbeats 4000000 in
theorem comesTo_c_62_L8 {d : Nat} {P : Nat → Nat → Nat} {M : Nat → Int → Int} {Q : zQ} (f : Int) (hf : 0 ≤ f ∧ f < (M 62 0)) (hn : (M 62 0) ≤ 8 ∧ (M 62 1) ≤ 16) (hs : ∀ xf : Int, 0 ≤ xf → xf < (M 62 0) → 0 ≤ (M 69 xf) ∧ 0 ≤ (M 70 xf) ∧ (M 69 xf) + (M 70 xf) ≤ (M 62 1)) (ht : ∀ xs : Int, 0 ≤ xs → xs < (M 62 1) → 0 ≤ (M 74 xs) ∧ (M 74 xs) < (M 62 0)) (hQ0 : ∀ (r : Int), ((r = 0 ∨ r = 1) ∧ (r = 1 ↔ rch (fun xh xg => (0 ≤ xh ∧ xh < (M 62 0)) ∧ ∃ xs : Int, (M 69) xh ≤ xs ∧ xs < (M 69) xh + (M 70) xh ∧ (M 74) xs = xg) f f)) → Q (zS P M) (some (vI r))) : ∀ (n8 : Nat), ∀ (n : Int) (t : Int) (x4 : Option zV), (0 ≤ t ∧ t ≤ 8) → (cO (fun xh xg => (0 ≤ xh ∧ xh < (M 62 0)) ∧ ∃ xs : Int, (M 69) xh ≤ xs ∧ xs < (M 69) xh + (M 70) xh ∧ (M 74) xs = xg) f n t) → 8 - t < (n8 : Int) → WP (d + 1) 216 0 0 8 [some (vR 62), some (vI f), some (vI n), some (vI t), x4] [] (zS P M) Q := by
  intro n8
  induction n8 with
  | zero => intro n t x4 i1 i2 hm; exfalso; omega
  | succ n8 ih8 =>
    intro n t x4 i1 i2 hm
    exact zB_ok zmt zen (stops := [8, 17, 47, 53]) e_216 100000 (⟨fun (c1 : 8 ≤ t) => ⟨fun (c2 : (zand (zshr n f) 1) = 0) => ⟨(of_decide_eq_true rfl), (hQ0 0 (show (0 = 0 ∨ 0 = 1) ∧ (0 = 1 ↔ rch (fun xh xg => (0 ≤ xh ∧ xh < (M 62 0)) ∧ ∃ xs : Int, (M 69) xh ≤ xs ∧ xs < (M 69) xh + (M 70) xh ∧ (M 74) xs = xg) f f) from by (have e8 : t = 8 := (by omega); rw [e8] at i2; have w2 := m_test i2.1 (show 0 ≤ f ∧ f < 8 by omega); refine ⟨Or.inl rfl, ⟨fun w => absurd w (by decide), fun w => absurd ((cO_end i2 (fun a b e => by obtain ⟨u, s, s1, s2, s3⟩ := e; have y := hs a u.1 u.2; have t := ht s (by omega) (by omega); omega) f hf.1).mpr w) (by rcases w2 with w2 | w2; exact absurd w2.1 (by omega); exact w2.2)⟩⟩)))⟩, fun (c2 : ¬ ((zand (zshr n f) 1) = 0)) => ⟨(of_decide_eq_true rfl), (hQ0 1 (show (1 = 0 ∨ 1 = 1) ∧ (1 = 1 ↔ rch (fun xh xg => (0 ≤ xh ∧ xh < (M 62 0)) ∧ ∃ xs : Int, (M 69) xh ≤ xs ∧ xs < (M 69) xh + (M 70) xh ∧ (M 74) xs = xg) f f) from by (have e8 : t = 8 := (by omega); rw [e8] at i2; have w2 := m_test i2.1 (show 0 ≤ f ∧ f < 8 by omega); refine ⟨Or.inr rfl, ⟨fun _ => (cO_end i2 (fun a b e => by obtain ⟨u, s, s1, s2, s3⟩ := e; have y := hs a u.1 u.2; have t := ht s (by omega) (by omega); omega) f hf.1).mp (by rcases w2 with w2 | w2; exact w2.2; exact absurd w2.1 (by assumption)), fun _ => rfl⟩⟩)))⟩⟩, fun (c1 : ¬ (8 ≤ t)) => (comesTo_c_62_L17 f hf hn hs ht hQ0 n8 ih8 (((M 62 0) - 0).toNat + 1) n t 0 (show 0 ≤ t ∧ t < 8 ∧ 0 ≤ 0 ∧ 0 ≤ (M 62 0) from by first | assumption | omega) (show cI (fun xh xg => (0 ≤ xh ∧ xh < (M 62 0)) ∧ ∃ xs : Int, (M 69) xh ≤ xs ∧ xs < (M 69) xh + (M 70) xh ∧ (M 74) xs = xg) f n t 0 from by exact cI_start i2) (show (8 : Int) - t ≤ (n8 : Int) from by first | assumption | omega) (show (M 62 0) - 0 < ((((M 62 0) - 0).toNat + 1 : Nat) : Int) from by omega))⟩)
set_option maxRecDepth 1000000 in
set_option maxHeartbeats 4000000 in
theorem comesTo_c_62 {d : Nat} {P : Nat → Nat → Nat} {M : Nat → Int → Int} {Q : zQ} (f : Int) (hf : 0 ≤ f ∧ f < (M 62 0)) (hn : (M 62 0) ≤ 8 ∧ (M 62 1) ≤ 16) (hs : ∀ xf : Int, 0 ≤ xf → xf < (M 62 0) → 0 ≤ (M 69 xf) ∧ 0 ≤ (M 70 xf) ∧ (M 69 xf) + (M 70 xf) ≤ (M 62 1)) (ht : ∀ xs : Int, 0 ≤ xs → xs < (M 62 1) → 0 ≤ (M 74 xs) ∧ (M 74 xs) < (M 62 0)) (hQ0 : ∀ (r : Int), ((r = 0 ∨ r = 1) ∧ (r = 1 ↔ rch (fun xh xg => (0 ≤ xh ∧ xh < (M 62 0)) ∧ ∃ xs : Int, (M 69) xh ≤ xs ∧ xs < (M 69) xh + (M 70) xh ∧ (M 74) xs = xg) f f)) → Q (zS P M) (some (vI r))) : WC (d + 2) 216 [vR 62, vI f] (zS P M) Q :=
  ⟨_, rfl, zB_ok zmt zen (stops := [8, 17, 47, 53]) e_216 100000 (⟨rfl, ⟨rfl, (calledBy_c_62 f (show 0 ≤ f ∧ f < (M 62 0) from by first | assumption | omega) (show (M 62 0) ≤ 8 ∧ (M 62 1) ≤ 16 from by first | assumption | omega) (show ∀ xf : Int, 0 ≤ xf → xf < (M 62 0) → 0 ≤ (M 69 xf) ∧ 0 ≤ (M 70 xf) ∧ (M 69 xf) + (M 70 xf) ≤ (M 62 1) from by exact hs) (show ∀ xs : Int, 0 ≤ xs → xs < (M 62 1) → 0 ≤ (M 74 xs) ∧ (M 74 xs) < (M 62 0) from by exact ht) (fun (r_1 : Int) (q_1 : cbits (M 74) (M 69 f) ((M 69 f) + (M 70 f)) r_1) => (comesTo_c_62_L8 f hf hn hs ht hQ0 ((8 - 0 : Int).toNat + 1) r_1 0 (none) (show 0 ≤ 0 ∧ 0 ≤ 8 from by first | assumption | omega) (show cO (fun xh xg => (0 ≤ xh ∧ xh < (M 62 0)) ∧ ∃ xs : Int, (M 69) xh ≤ xs ∧ xs < (M 69) xh + (M 70) xh ∧ (M 74) xs = xg) f r_1 0 from by exact cO_init q_1.1 (fun g g0 => by rw [q_1.2 g g0]; exact ⟨fun e => ⟨⟨by omega, by omega⟩, e⟩, fun e => e.2⟩) (fun a b e => by obtain ⟨u, s, s1, s2, s3⟩ := e; have y := hs a u.1 u.2; have t := ht s (by omega) (by omega); omega)) (show (8 - 0 : Int) < (((8 - 0 : Int).toNat + 1 : Nat) : Int) from by omega))))⟩⟩)⟩
