/-! Masks of eight bits; names -/
def mb (r g : Int) : Prop := r.toNat.testBit g.toNat = true
theorem nI_ofI {r : Int} (h : 0 ≤ r) : Int32.ofInt r = nI r.toNat := by
  obtain ⟨n, rfl⟩ := Int.eq_ofNat_of_zero_le h
  rfl
theorem m_test {r g : Int} (h : 0 ≤ r ∧ r < 256) (hg : 0 ≤ g ∧ g < 8) : zand (zshr r g) 1 = 1 ∧ mb r g ∨ zand (zshr r g) 1 = 0 ∧ ¬ mb r g := by
  have e : zand (zshr r g) 1 = r / 2 ^ g.toNat % 2 := by
    have a : zshr r g = r / 2 ^ g.toNat := zshr_div (by unfold in32; omega) _ (by rcases (by omega : g = 0 ∨ g = 1 ∨ g = 2 ∨ g = 3 ∨ g = 4 ∨ g = 5 ∨ g = 6 ∨ g = 7) with z | z | z | z | z | z | z | z <;> subst z <;> decide)
    have p : (0 : Int) < 2 ^ g.toNat := Int.pow_pos (by decide)
    have b0 : 0 ≤ r / 2 ^ g.toNat := Int.ediv_nonneg h.1 (Int.le_of_lt p)
    have b1 : r / 2 ^ g.toNat ≤ r := Int.ediv_le_self _ h.1
    rw [a]
    unfold zand
    rw [pk_and _ (m := Int32.ofInt 1) 1 (by decide), nI_toInt (by omega)]
    have q := ofInt_nat (r / 2 ^ g.toNat)
    omega
  rw [e]
  have t : r.toNat.testBit g.toNat = decide (r.toNat / 2 ^ g.toNat % 2 = 1) := Nat.testBit_eq_decide_div_mod_eq
  have c : ((r.toNat / 2 ^ g.toNat % 2 : Nat) : Int) = r / 2 ^ g.toNat % 2 := by
    obtain ⟨n, rfl⟩ := Int.eq_ofNat_of_zero_le h.1
    simp
  unfold mb
  rw [t, ← c]
  by_cases z : r.toNat / 2 ^ g.toNat % 2 = 1
  · left; rw [z]; simp
  · right
    have : r.toNat / 2 ^ g.toNat % 2 = 0 := by omega
    rw [this]; simp
theorem m_or {a b : Int} (ha : 0 ≤ a ∧ a < 256) (hb : 0 ≤ b ∧ b < 256) : (0 ≤ zor a b ∧ zor a b < 256) ∧ a ≤ zor a b ∧ ∀ g : Int, (mb (zor a b) g ↔ mb a g ∨ mb b g) := by
  have l : a.toNat ||| b.toNat < 2 ^ 8 := Nat.or_lt_two_pow (by omega) (by omega)
  have e : zor a b = ((a.toNat ||| b.toNat : Nat) : Int) := by
    unfold zor
    rw [nI_ofI ha.1, nI_ofI hb.1]
    have o : nI a.toNat ||| nI b.toNat = nI (a.toNat ||| b.toNat) := by
      apply Int32.toBitVec_inj.mp
      apply BitVec.eq_of_toNat_eq
      show ((nI a.toNat).toBitVec ||| (nI b.toNat).toBitVec).toNat = _
      rw [BitVec.toNat_or, pk_tn (by omega), pk_tn (by omega), pk_tn (by omega)]
    rw [o, nI_toInt (by omega)]
  rw [e]
  refine ⟨⟨by omega, by omega⟩, ?_, fun g => ?_⟩
  · have := Nat.left_le_or (n := a.toNat) (m := b.toNat)
    omega
  · unfold mb
    rw [show (((a.toNat ||| b.toNat : Nat) : Int)).toNat = a.toNat ||| b.toNat from rfl, Nat.testBit_or]
    simp
theorem m_one {t : Int} (ht : 0 ≤ t ∧ t < 8) : (0 ≤ zshl 1 t ∧ zshl 1 t < 256) ∧ ∀ g : Int, 0 ≤ g → (mb (zshl 1 t) g ↔ g = t) := by
  have e : zshl 1 t = ((2 ^ t.toNat : Nat) : Int) := by
    rcases (by omega : t = 0 ∨ t = 1 ∨ t = 2 ∨ t = 3 ∨ t = 4 ∨ t = 5 ∨ t = 6 ∨ t = 7) with z | z | z | z | z | z | z | z <;> subst z <;> decide
  have l : 2 ^ t.toNat < 2 ^ 8 := Nat.pow_lt_pow_right (by decide) (by omega)
  rw [e]
  refine ⟨⟨Int.natCast_nonneg _, (show ((2 ^ t.toNat : Nat) : Int) < ((256 : Nat) : Int) from Int.ofNat_lt.mpr l)⟩, fun g g0 => ?_⟩
  unfold mb
  rw [show (((2 ^ t.toNat : Nat) : Int)).toNat = 2 ^ t.toNat from rfl, Nat.testBit_two_pow]
  simp
  omega
theorem m_ext {a b : Int} (ha : 0 ≤ a ∧ a < 256) (hb : 0 ≤ b ∧ b < 256) (h : ∀ g : Int, 0 ≤ g → g < 8 → (mb a g ↔ mb b g)) : a = b := by
  have e : a.toNat = b.toNat := by
    apply Nat.eq_of_testBit_eq
    intro i
    by_cases q : i < 8
    · have z := h i (by omega) (by omega)
      unfold mb at z
      rw [show ((i : Int)).toNat = i from rfl] at z
      cases x : a.toNat.testBit i <;> cases y : b.toNat.testBit i <;> simp [x, y] at z <;> rfl
    · have p : 2 ^ 8 ≤ 2 ^ i := Nat.pow_le_pow_right (by decide) (by omega)
      rw [Nat.testBit_lt_two_pow (by omega), Nat.testBit_lt_two_pow (by omega)]
  omega
theorem m_zero (g : Int) : ¬ mb 0 g := by unfold mb; simp
/-- what comes to what, in n + 1 calls -/
def rchn (E : Int → Int → Prop) : Nat → Int → Int → Prop
  | 0, f, g => E f g
  | n + 1, f, g => ∃ h : Int, rchn E n f h ∧ E h g
def rch (E : Int → Int → Prop) (f g : Int) : Prop := ∃ n : Nat, rchn E n f g
theorem rch_step {E : Int → Int → Prop} {f h g : Int} (a : rch E f h) (b : E h g) : rch E f g := by
  obtain ⟨n, a⟩ := a
  exact ⟨n + 1, h, a, b⟩
/-- a set that holds all that f calls, and with each all that it calls, holds all that f comes to -/
theorem rch_closed {E : Int → Int → Prop} {S : Int → Prop} {f : Int} (h0 : ∀ g : Int, E f g → S g) (h1 : ∀ h g : Int, S h → E h g → S g) : ∀ (n : Nat) (g : Int), rchn E n f g → S g := by
  intro n
  induction n with
  | zero => intro g q; exact h0 g q
  | succ n ih => intro g q; obtain ⟨h, a, b⟩ := q; exact h1 h g (ih h a) b
theorem rch_map {E F : Int → Int → Prop} {ρ : Int → Int} (h : ∀ a b : Int, E a b → F (ρ a) (ρ b)) : ∀ (n : Nat) (f g : Int), rchn E n f g → rchn F n (ρ f) (ρ g) := by
  intro n
  induction n with
  | zero => intro f g q; exact h f g q
  | succ n ih => intro f g q; obtain ⟨x, a, b⟩ := q; exact ⟨ρ x, ih f x a, h x g b⟩
/-- how many bits -/
def mcnt (r : Int) : Nat → Int
  | 0 => 0
  | n + 1 => mcnt r n + (zand (zshr r n) 1)
theorem mcnt_mono {a b : Int} (ha : 0 ≤ a ∧ a < 256) (hb : 0 ≤ b ∧ b < 256) (h : ∀ g : Int, 0 ≤ g → g < 8 → mb a g → mb b g) : ∀ (n : Nat), n ≤ 8 → mcnt a n ≤ mcnt b n ∧ ((∃ g : Int, 0 ≤ g ∧ g < n ∧ mb b g ∧ ¬ mb a g) → mcnt a n + 1 ≤ mcnt b n) := by
  intro n
  induction n with
  | zero => intro _; exact ⟨Int.le_refl _, fun ⟨g, g0, g1, _⟩ => by omega⟩
  | succ n ih =>
    intro hn
    obtain ⟨i1, i2⟩ := ih (by omega)
    show mcnt a n + zand (zshr a n) 1 ≤ mcnt b n + zand (zshr b n) 1 ∧ ((∃ g : Int, 0 ≤ g ∧ g < ((n + 1 : Nat) : Int) ∧ mb b g ∧ ¬ mb a g) → mcnt a n + zand (zshr a n) 1 + 1 ≤ mcnt b n + zand (zshr b n) 1)
    have ta := m_test (g := n) ha (by omega)
    have tb := m_test (g := n) hb (by omega)
    have hm := h n (by omega) (by omega)
    refine ⟨?_, fun ⟨g, g0, g1, gb, ga⟩ => ?_⟩
    · rcases ta with ⟨ta, ua⟩ | ⟨ta, ua⟩ <;> rcases tb with ⟨tb, ub⟩ | ⟨tb, ub⟩
      · omega
      · exact absurd (hm ua) ub
      · omega
      · omega
    · by_cases e : g = n
      · subst e
        rcases ta with ⟨ta, ua⟩ | ⟨ta, ua⟩ <;> rcases tb with ⟨tb, ub⟩ | ⟨tb, ub⟩
        · exact absurd ua ga
        · exact absurd gb ub
        · omega
        · exact absurd gb ub
      · have z := i2 ⟨g, g0, by omega, gb, ga⟩
        rcases ta with ⟨ta, ua⟩ | ⟨ta, ua⟩ <;> rcases tb with ⟨tb, ub⟩ | ⟨tb, ub⟩
        · omega
        · exact absurd (hm ua) ub
        · omega
        · omega
theorem mcnt_le {a : Int} (ha : 0 ≤ a ∧ a < 256) : ∀ (n : Nat), n ≤ 8 → 0 ≤ mcnt a n ∧ mcnt a n ≤ n := by
  intro n
  induction n with
  | zero => intro _; exact ⟨Int.le_refl _, Int.le_refl _⟩
  | succ n ih =>
    intro hn
    have i := ih (by omega)
    show 0 ≤ mcnt a n + zand (zshr a n) 1 ∧ mcnt a n + zand (zshr a n) 1 ≤ ((n + 1 : Nat) : Int)
    have ta := m_test (g := n) ha (by omega)
    rcases ta with ⟨ta, ua⟩ | ⟨ta, ua⟩ <;> omega
theorem nl_in : ∀ (n : Nat) (w : Int), 0 ≤ nl n w ∧ nl n w ≤ n := by
  intro n
  induction n with
  | zero => intro w; exact ⟨Int.le_refl _, Int.le_refl _⟩
  | succ n ih =>
    intro w
    have i := ih (w / 32)
    show 0 ≤ (if 0 < w then nl n (w / 32) + 1 else 0) ∧ (if 0 < w then nl n (w / 32) + 1 else 0) ≤ ((n + 1 : Nat) : Int)
    split <;> omega
theorem nlet_in {w : Int} (h : 0 < w ∧ w < 1073741824) : 1 ≤ nlet w ∧ nlet w ≤ 6 := by
  unfold nlet nl nl nl nl nl nl nl nl
  split
  · split
    · split
      · split
        · split
          · split
            · split
              · omega
              · omega
            · omega
          · omega
        · omega
      · omega
    · omega
  · omega
theorem zshrL_div {x s : Int} (hx : 0 ≤ x ∧ x < 1073741824) (k : Nat) (hs : (((Int32.ofInt s).toInt64 &&& 63).toBitVec.smod 64).toNat = k) : zshrL x s = x / 2 ^ k := by
  unfold zshrL
  have q : (Int64.ofInt x >>> ((Int32.ofInt s).toInt64 &&& 63)).toInt = (Int64.ofInt x).toInt >>> k := by
    show ((Int64.ofInt x).toBitVec.sshiftRight (((Int32.ofInt s).toInt64 &&& 63).toBitVec.smod 64).toNat).toInt = _
    rw [hs, BitVec.toInt_sshiftRight]
    rfl
  rw [q, Int64.toInt_ofInt_of_le (by omega) (by omega), Int.shiftRight_eq_div_pow]
  simp
theorem zandL31 {x : Int} (hx : 0 ≤ x ∧ x < 1073741824) : zandL x 31 = x % 32 := by
  obtain ⟨a, rfl⟩ := Int.eq_ofNat_of_zero_le hx.1
  have o : lN a &&& lN 31 = lN (a % 32) := by
    apply Int64.toBitVec_inj.mp
    apply BitVec.eq_of_toNat_eq
    show ((lN a).toBitVec &&& (lN 31).toBitVec).toNat = _
    rw [BitVec.toNat_and]
    have t : ∀ n : Nat, n < 2 ^ 64 → (lN n).toBitVec.toNat = n := fun n h => Nat.mod_eq_of_lt h
    rw [t a (by omega), t 31 (by decide), t (a % 32) (by omega)]
    exact Nat.and_two_pow_sub_one_eq_mod a 5
  have e : zandL (a : Int) 31 = (lN a &&& lN 31).toInt := rfl
  rw [e, o, pk_lT (by omega)]
  rfl
theorem zand31m {x : Int} (hx : 0 ≤ x ∧ x < 1073741824) : zand x 31 = x % 32 := by
  unfold zand
  rw [pk_and _ (m := Int32.ofInt 31) 5 (by decide), nI_toInt (by omega)]
  have q := ofInt_nat x
  omega
/-- a letter of a name -/
def nltr (w k : Int) : Int := w / 2 ^ (5 * k).toNat % 32 + 96
theorem nltr_sh {w k : Int} (hw : 0 < w ∧ w < 1073741824) (hk : 0 ≤ k ∧ k ≤ 5) : zand (zshr w (k * 5)) 31 = nltr w k - 96 ∧ zandL (zshrL w (5 * k)) 31 = nltr w k - 96 ∧ 96 ≤ nltr w k ∧ nltr w k < 128 := by
  have p : (0 : Int) < 2 ^ (5 * k).toNat := Int.pow_pos (by decide)
  have b0 : 0 ≤ w / 2 ^ (5 * k).toNat := Int.ediv_nonneg (by omega) (Int.le_of_lt p)
  have b1 : w / 2 ^ (5 * k).toNat ≤ w := Int.ediv_le_self _ (by omega)
  have a : zshr w (k * 5) = w / 2 ^ (5 * k).toNat := zshr_div (by unfold in32; omega) _ (by rcases (by omega : k = 0 ∨ k = 1 ∨ k = 2 ∨ k = 3 ∨ k = 4 ∨ k = 5) with z | z | z | z | z | z <;> subst z <;> decide)
  have b : zshrL w (5 * k) = w / 2 ^ (5 * k).toNat := zshrL_div (by omega) _ (by rcases (by omega : k = 0 ∨ k = 1 ∨ k = 2 ∨ k = 3 ∨ k = 4 ∨ k = 5) with z | z | z | z | z | z <;> subst z <;> decide)
  rw [a, b, zand31m (by omega), zandL31 (by omega)]
  unfold nltr
  omega
