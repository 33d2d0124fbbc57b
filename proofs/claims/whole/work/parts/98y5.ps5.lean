/-! Tokens alike -/
def own (w : Int) : Prop := w = 6830 ∨ w = 294 ∨ w = 176741 ∨ w = 409072 ∨ w = 239301
/-- a token of the class (sort, start, value) and the reference's: begun, token, amount, sign, letters, word -/
def tkR (s a v b k am sg lt wd : Int) : Prop := b = a ∧ ((s = -1 ∧ k = 0) ∨ (s = -2 ∧ k = 1 ∧ wd = v ∧ lt ≤ 6 ∧ (0 < wd ∧ wd < 1073741824) ∧ ¬ own wd) ∨ (s = -3 ∧ k = 1 ∧ 6 < lt ∧ ¬ own wd) ∨
  (s = -4 ∧ k = 2 ∧ ((v ≤ 999 ∧ am = v ∧ 0 ≤ v) ∨ (999 < v ∧ 999 < am))) ∨ (s = -5 ∧ k = 1 ∧ wd = 6830) ∨ (s = -6 ∧ k = 1 ∧ wd = 294) ∨ (s = -7 ∧ k = 1 ∧ wd = 176741) ∨ (s = -8 ∧ k = 1 ∧ wd = 409072) ∨ (s = -9 ∧ k = 1 ∧ wd = 239301) ∨ (0 ≤ s ∧ s ≤ 255 ∧ sg = s ∧ k = sgn s))
/-- so many letters from a place on: the reference's number of them -/
theorem rwd_up {tx : Int → Int} {n s p : Int} {k m : Nat} (hm : m = k + 1) (hp : p = s + (k : Int)) (hd : 97 ≤ tx p ∧ tx p ≤ 122) (hn : p < n) (hk : k < 7) (h0 : 0 ≤ rwd (cB tx n) s k ∧ rwd (cB tx n) s k < 34359738368) : rwd (cB tx n) s m = 32 * rwd (cB tx n) s k + (tx p - 96) := by
  subst hm hp
  show (if (k : Int) < 7 then w64 (w64 (w64 (w64 (32 * rwd (cB tx n) s k) + cB tx n (s + k)) - 97) + 1) else -1) = _
  rw [if_pos (by omega), cB_in hn]
  have e1 : w64 (32 * rwd (cB tx n) s k) = 32 * rwd (cB tx n) s k := w64_id (by unfold in64; omega)
  rw [e1]
  have e2 : w64 (32 * rwd (cB tx n) s k + tx (s + k)) = 32 * rwd (cB tx n) s k + tx (s + k) := w64_id (by unfold in64; omega)
  rw [e2]
  have e3 : w64 (32 * rwd (cB tx n) s k + tx (s + k) - 97) = 32 * rwd (cB tx n) s k + tx (s + k) - 97 := w64_id (by unfold in64; omega)
  rw [e3]
  have e4 : w64 (32 * rwd (cB tx n) s k + tx (s + k) - 97 + 1) = 32 * rwd (cB tx n) s k + tx (s + k) - 97 + 1 := w64_id (by unfold in64; omega)
  rw [e4]; omega
theorem cwd_up {tx : Int → Int} {s p : Int} {k m : Nat} (hm : m = k + 1) (hp : p = s + (k : Int)) (hd : 97 ≤ tx p ∧ tx p ≤ 122) (h0 : 0 ≤ cwd tx s k ∧ cwd tx s k < 33554432) : cwd tx s m = 32 * cwd tx s k + (tx p - 96) := by
  subst hm hp
  exact zor5 h0 (by omega)
theorem wd_big {tx : Int → Int} {n s : Int} {k m : Nat} (hm : m = k + 1) (h : 7 ≤ k) : rwd (cB tx n) s m = -1 := by
  subst hm
  exact if_neg (by omega)
theorem rwd_z {tx : Int → Int} {n s : Int} : rwd (cB tx n) s 0 = 0 := rfl
theorem cwd_z {tx : Int → Int} {s : Int} : cwd tx s 0 = 0 := rfl
theorem wd_long {tx : Int → Int} {n s e : Int} (h : 6 < e - s) (he : e ≤ n) (hl : ∀ j : Int, s ≤ j → j < e → 97 ≤ tx j ∧ tx j ≤ 122) : ¬ own (rwd (cB tx n) s (e - s).toNat) := by
  by_cases c : e = s + 7
  · subst c
    rw [show (s + 7 - s).toNat = 7 by omega]
    have R0 := rwd_z (tx := tx) (n := n) (s := s)
    have C0 := cwd_z (tx := tx) (s := s)
    have d0 := hl (s) (by omega) (by omega)
    have R1 := rwd_up (tx := tx) (n := n) (s := s) (p := s) (k := 0) (m := 1) rfl (by omega) d0 (by omega) (by omega) (by omega)
    have d1 := hl (s + 1) (by omega) (by omega)
    have R2 := rwd_up (tx := tx) (n := n) (s := s) (p := s + 1) (k := 1) (m := 2) rfl (by omega) d1 (by omega) (by omega) (by omega)
    have d2 := hl (s + 2) (by omega) (by omega)
    have R3 := rwd_up (tx := tx) (n := n) (s := s) (p := s + 2) (k := 2) (m := 3) rfl (by omega) d2 (by omega) (by omega) (by omega)
    have d3 := hl (s + 3) (by omega) (by omega)
    have R4 := rwd_up (tx := tx) (n := n) (s := s) (p := s + 3) (k := 3) (m := 4) rfl (by omega) d3 (by omega) (by omega) (by omega)
    have d4 := hl (s + 4) (by omega) (by omega)
    have R5 := rwd_up (tx := tx) (n := n) (s := s) (p := s + 4) (k := 4) (m := 5) rfl (by omega) d4 (by omega) (by omega) (by omega)
    have d5 := hl (s + 5) (by omega) (by omega)
    have R6 := rwd_up (tx := tx) (n := n) (s := s) (p := s + 5) (k := 5) (m := 6) rfl (by omega) d5 (by omega) (by omega) (by omega)
    have d6 := hl (s + 6) (by omega) (by omega)
    have R7 := rwd_up (tx := tx) (n := n) (s := s) (p := s + 6) (k := 6) (m := 7) rfl (by omega) d6 (by omega) (by omega) (by omega)
    unfold own
    omega
  · rw [wd_big (k := (e - s).toNat - 1) (by omega) (by omega)]
    unfold own; omega
theorem wd_short {tx : Int → Int} {n s e : Int} (h : s < e) (h6 : e - s ≤ 6) (he : e ≤ n) (hl : ∀ j : Int, s ≤ j → j < e → 97 ≤ tx j ∧ tx j ≤ 122) :
    rwd (cB tx n) s (e - s).toNat = cwd tx s (e - s).toNat ∧ (0 < cwd tx s (e - s).toNat ∧ cwd tx s (e - s).toNat < 1073741824) ∧ ((kws tx s e = -2 ∧ ¬ own (cwd tx s (e - s).toNat)) ∨ (kws tx s e = -5 ∧ cwd tx s (e - s).toNat = 6830) ∨ (kws tx s e = -6 ∧ cwd tx s (e - s).toNat = 294) ∨ (kws tx s e = -7 ∧ cwd tx s (e - s).toNat = 176741) ∨ (kws tx s e = -8 ∧ cwd tx s (e - s).toNat = 409072) ∨ (kws tx s e = -9 ∧ cwd tx s (e - s).toNat = 239301)) := by
  rcases (by omega : e = s + 1 ∨ e = s + 2 ∨ e = s + 3 ∨ e = s + 4 ∨ e = s + 5 ∨ e = s + 6) with c | c | c | c | c | c
  · subst c
    rw [show (s + 1 - s).toNat = 1 by omega]
    have R0 := rwd_z (tx := tx) (n := n) (s := s)
    have C0 := cwd_z (tx := tx) (s := s)
    have d0 := hl (s) (by omega) (by omega)
    have R1 := rwd_up (tx := tx) (n := n) (s := s) (p := s) (k := 0) (m := 1) rfl (by omega) d0 (by omega) (by omega) (by omega)
    have C1 := cwd_up (tx := tx) (s := s) (p := s) (k := 0) (m := 1) rfl (by omega) d0 (by omega)
    refine ⟨by omega, by omega, ?_⟩
    have z5 : kw5 tx s (s + 1) = 0 := if_neg (by omega)
    have z6 : kw6 tx s (s + 1) = 0 := if_neg (by omega)
    have z7 : kw7 tx s (s + 1) = 0 := if_neg (by omega)
    have z8 : kw8 tx s (s + 1) = 0 := if_neg (by omega)
    have z9 : kw9 tx s (s + 1) = 0 := if_neg (by omega)
    have kq : kws tx s (s + 1) = -2 := by unfold kws; rw [z5, if_pos rfl, z6, if_pos rfl, z7, if_pos rfl, z8, if_pos rfl, z9, if_pos rfl]
    exact Or.inl ⟨kq, by unfold own; omega⟩
  · subst c
    rw [show (s + 2 - s).toNat = 2 by omega]
    have R0 := rwd_z (tx := tx) (n := n) (s := s)
    have C0 := cwd_z (tx := tx) (s := s)
    have d0 := hl (s) (by omega) (by omega)
    have R1 := rwd_up (tx := tx) (n := n) (s := s) (p := s) (k := 0) (m := 1) rfl (by omega) d0 (by omega) (by omega) (by omega)
    have C1 := cwd_up (tx := tx) (s := s) (p := s) (k := 0) (m := 1) rfl (by omega) d0 (by omega)
    have d1 := hl (s + 1) (by omega) (by omega)
    have R2 := rwd_up (tx := tx) (n := n) (s := s) (p := s + 1) (k := 1) (m := 2) rfl (by omega) d1 (by omega) (by omega) (by omega)
    have C2 := cwd_up (tx := tx) (s := s) (p := s + 1) (k := 1) (m := 2) rfl (by omega) d1 (by omega)
    refine ⟨by omega, by omega, ?_⟩
    by_cases b6 : tx (s) = 105 ∧ tx (s + 1) = 102
    · have z5 : kw5 tx s (s + 2) = 0 := if_neg (by omega)
      have z6 : kw6 tx s (s + 2) = 1 := if_pos (by omega)
      have z7 : kw7 tx s (s + 2) = 0 := if_neg (by omega)
      have z8 : kw8 tx s (s + 2) = 0 := if_neg (by omega)
      have z9 : kw9 tx s (s + 2) = 0 := if_neg (by omega)
      have kq : kws tx s (s + 2) = -6 := by unfold kws; rw [z5, if_pos rfl, z6, if_neg (by omega)]
      exact Or.inr (Or.inr (Or.inl ⟨kq, by omega⟩))
    · have z5 : kw5 tx s (s + 2) = 0 := if_neg (by omega)
      have z6 : kw6 tx s (s + 2) = 0 := if_neg (by omega)
      have z7 : kw7 tx s (s + 2) = 0 := if_neg (by omega)
      have z8 : kw8 tx s (s + 2) = 0 := if_neg (by omega)
      have z9 : kw9 tx s (s + 2) = 0 := if_neg (by omega)
      have kq : kws tx s (s + 2) = -2 := by unfold kws; rw [z5, if_pos rfl, z6, if_pos rfl, z7, if_pos rfl, z8, if_pos rfl, z9, if_pos rfl]
      exact Or.inl ⟨kq, by unfold own; omega⟩
  · subst c
    rw [show (s + 3 - s).toNat = 3 by omega]
    have R0 := rwd_z (tx := tx) (n := n) (s := s)
    have C0 := cwd_z (tx := tx) (s := s)
    have d0 := hl (s) (by omega) (by omega)
    have R1 := rwd_up (tx := tx) (n := n) (s := s) (p := s) (k := 0) (m := 1) rfl (by omega) d0 (by omega) (by omega) (by omega)
    have C1 := cwd_up (tx := tx) (s := s) (p := s) (k := 0) (m := 1) rfl (by omega) d0 (by omega)
    have d1 := hl (s + 1) (by omega) (by omega)
    have R2 := rwd_up (tx := tx) (n := n) (s := s) (p := s + 1) (k := 1) (m := 2) rfl (by omega) d1 (by omega) (by omega) (by omega)
    have C2 := cwd_up (tx := tx) (s := s) (p := s + 1) (k := 1) (m := 2) rfl (by omega) d1 (by omega)
    have d2 := hl (s + 2) (by omega) (by omega)
    have R3 := rwd_up (tx := tx) (n := n) (s := s) (p := s + 2) (k := 2) (m := 3) rfl (by omega) d2 (by omega) (by omega) (by omega)
    have C3 := cwd_up (tx := tx) (s := s) (p := s + 2) (k := 2) (m := 3) rfl (by omega) d2 (by omega)
    refine ⟨by omega, by omega, ?_⟩
    by_cases b5 : tx (s) = 102 ∧ tx (s + 1) = 117 ∧ tx (s + 2) = 110
    · have z5 : kw5 tx s (s + 3) = 1 := if_pos (by omega)
      have z6 : kw6 tx s (s + 3) = 0 := if_neg (by omega)
      have z7 : kw7 tx s (s + 3) = 0 := if_neg (by omega)
      have z8 : kw8 tx s (s + 3) = 0 := if_neg (by omega)
      have z9 : kw9 tx s (s + 3) = 0 := if_neg (by omega)
      have kq : kws tx s (s + 3) = -5 := by unfold kws; rw [z5, if_neg (by omega)]
      exact Or.inr (Or.inl ⟨kq, by omega⟩)
    · have z5 : kw5 tx s (s + 3) = 0 := if_neg (by omega)
      have z6 : kw6 tx s (s + 3) = 0 := if_neg (by omega)
      have z7 : kw7 tx s (s + 3) = 0 := if_neg (by omega)
      have z8 : kw8 tx s (s + 3) = 0 := if_neg (by omega)
      have z9 : kw9 tx s (s + 3) = 0 := if_neg (by omega)
      have kq : kws tx s (s + 3) = -2 := by unfold kws; rw [z5, if_pos rfl, z6, if_pos rfl, z7, if_pos rfl, z8, if_pos rfl, z9, if_pos rfl]
      exact Or.inl ⟨kq, by unfold own; omega⟩
  · subst c
    rw [show (s + 4 - s).toNat = 4 by omega]
    have R0 := rwd_z (tx := tx) (n := n) (s := s)
    have C0 := cwd_z (tx := tx) (s := s)
    have d0 := hl (s) (by omega) (by omega)
    have R1 := rwd_up (tx := tx) (n := n) (s := s) (p := s) (k := 0) (m := 1) rfl (by omega) d0 (by omega) (by omega) (by omega)
    have C1 := cwd_up (tx := tx) (s := s) (p := s) (k := 0) (m := 1) rfl (by omega) d0 (by omega)
    have d1 := hl (s + 1) (by omega) (by omega)
    have R2 := rwd_up (tx := tx) (n := n) (s := s) (p := s + 1) (k := 1) (m := 2) rfl (by omega) d1 (by omega) (by omega) (by omega)
    have C2 := cwd_up (tx := tx) (s := s) (p := s + 1) (k := 1) (m := 2) rfl (by omega) d1 (by omega)
    have d2 := hl (s + 2) (by omega) (by omega)
    have R3 := rwd_up (tx := tx) (n := n) (s := s) (p := s + 2) (k := 2) (m := 3) rfl (by omega) d2 (by omega) (by omega) (by omega)
    have C3 := cwd_up (tx := tx) (s := s) (p := s + 2) (k := 2) (m := 3) rfl (by omega) d2 (by omega)
    have d3 := hl (s + 3) (by omega) (by omega)
    have R4 := rwd_up (tx := tx) (n := n) (s := s) (p := s + 3) (k := 3) (m := 4) rfl (by omega) d3 (by omega) (by omega) (by omega)
    have C4 := cwd_up (tx := tx) (s := s) (p := s + 3) (k := 3) (m := 4) rfl (by omega) d3 (by omega)
    refine ⟨by omega, by omega, ?_⟩
    by_cases b7 : tx (s) = 101 ∧ tx (s + 1) = 108 ∧ tx (s + 2) = 115 ∧ tx (s + 3) = 101
    · have z5 : kw5 tx s (s + 4) = 0 := if_neg (by omega)
      have z6 : kw6 tx s (s + 4) = 0 := if_neg (by omega)
      have z7 : kw7 tx s (s + 4) = 1 := if_pos (by omega)
      have z8 : kw8 tx s (s + 4) = 0 := if_neg (by omega)
      have z9 : kw9 tx s (s + 4) = 0 := if_neg (by omega)
      have kq : kws tx s (s + 4) = -7 := by unfold kws; rw [z5, if_pos rfl, z6, if_pos rfl, z7, if_neg (by omega)]
      exact Or.inr (Or.inr (Or.inr (Or.inl ⟨kq, by omega⟩)))
    · by_cases b8 : tx (s) = 108 ∧ tx (s + 1) = 111 ∧ tx (s + 2) = 111 ∧ tx (s + 3) = 112
      · have z5 : kw5 tx s (s + 4) = 0 := if_neg (by omega)
        have z6 : kw6 tx s (s + 4) = 0 := if_neg (by omega)
        have z7 : kw7 tx s (s + 4) = 0 := if_neg (by omega)
        have z8 : kw8 tx s (s + 4) = 1 := if_pos (by omega)
        have z9 : kw9 tx s (s + 4) = 0 := if_neg (by omega)
        have kq : kws tx s (s + 4) = -8 := by unfold kws; rw [z5, if_pos rfl, z6, if_pos rfl, z7, if_pos rfl, z8, if_neg (by omega)]
        exact Or.inr (Or.inr (Or.inr (Or.inr (Or.inl ⟨kq, by omega⟩))))
      · by_cases b9 : tx (s) = 103 ∧ tx (s + 1) = 105 ∧ tx (s + 2) = 118 ∧ tx (s + 3) = 101
        · have z5 : kw5 tx s (s + 4) = 0 := if_neg (by omega)
          have z6 : kw6 tx s (s + 4) = 0 := if_neg (by omega)
          have z7 : kw7 tx s (s + 4) = 0 := if_neg (by omega)
          have z8 : kw8 tx s (s + 4) = 0 := if_neg (by omega)
          have z9 : kw9 tx s (s + 4) = 1 := if_pos (by omega)
          have kq : kws tx s (s + 4) = -9 := by unfold kws; rw [z5, if_pos rfl, z6, if_pos rfl, z7, if_pos rfl, z8, if_pos rfl, z9, if_neg (by omega)]
          exact Or.inr (Or.inr (Or.inr (Or.inr (Or.inr (⟨kq, by omega⟩)))))
        · have z5 : kw5 tx s (s + 4) = 0 := if_neg (by omega)
          have z6 : kw6 tx s (s + 4) = 0 := if_neg (by omega)
          have z7 : kw7 tx s (s + 4) = 0 := if_neg (by omega)
          have z8 : kw8 tx s (s + 4) = 0 := if_neg (by omega)
          have z9 : kw9 tx s (s + 4) = 0 := if_neg (by omega)
          have kq : kws tx s (s + 4) = -2 := by unfold kws; rw [z5, if_pos rfl, z6, if_pos rfl, z7, if_pos rfl, z8, if_pos rfl, z9, if_pos rfl]
          exact Or.inl ⟨kq, by unfold own; omega⟩
  · subst c
    rw [show (s + 5 - s).toNat = 5 by omega]
    have R0 := rwd_z (tx := tx) (n := n) (s := s)
    have C0 := cwd_z (tx := tx) (s := s)
    have d0 := hl (s) (by omega) (by omega)
    have R1 := rwd_up (tx := tx) (n := n) (s := s) (p := s) (k := 0) (m := 1) rfl (by omega) d0 (by omega) (by omega) (by omega)
    have C1 := cwd_up (tx := tx) (s := s) (p := s) (k := 0) (m := 1) rfl (by omega) d0 (by omega)
    have d1 := hl (s + 1) (by omega) (by omega)
    have R2 := rwd_up (tx := tx) (n := n) (s := s) (p := s + 1) (k := 1) (m := 2) rfl (by omega) d1 (by omega) (by omega) (by omega)
    have C2 := cwd_up (tx := tx) (s := s) (p := s + 1) (k := 1) (m := 2) rfl (by omega) d1 (by omega)
    have d2 := hl (s + 2) (by omega) (by omega)
    have R3 := rwd_up (tx := tx) (n := n) (s := s) (p := s + 2) (k := 2) (m := 3) rfl (by omega) d2 (by omega) (by omega) (by omega)
    have C3 := cwd_up (tx := tx) (s := s) (p := s + 2) (k := 2) (m := 3) rfl (by omega) d2 (by omega)
    have d3 := hl (s + 3) (by omega) (by omega)
    have R4 := rwd_up (tx := tx) (n := n) (s := s) (p := s + 3) (k := 3) (m := 4) rfl (by omega) d3 (by omega) (by omega) (by omega)
    have C4 := cwd_up (tx := tx) (s := s) (p := s + 3) (k := 3) (m := 4) rfl (by omega) d3 (by omega)
    have d4 := hl (s + 4) (by omega) (by omega)
    have R5 := rwd_up (tx := tx) (n := n) (s := s) (p := s + 4) (k := 4) (m := 5) rfl (by omega) d4 (by omega) (by omega) (by omega)
    have C5 := cwd_up (tx := tx) (s := s) (p := s + 4) (k := 4) (m := 5) rfl (by omega) d4 (by omega)
    refine ⟨by omega, by omega, ?_⟩
    have z5 : kw5 tx s (s + 5) = 0 := if_neg (by omega)
    have z6 : kw6 tx s (s + 5) = 0 := if_neg (by omega)
    have z7 : kw7 tx s (s + 5) = 0 := if_neg (by omega)
    have z8 : kw8 tx s (s + 5) = 0 := if_neg (by omega)
    have z9 : kw9 tx s (s + 5) = 0 := if_neg (by omega)
    have kq : kws tx s (s + 5) = -2 := by unfold kws; rw [z5, if_pos rfl, z6, if_pos rfl, z7, if_pos rfl, z8, if_pos rfl, z9, if_pos rfl]
    exact Or.inl ⟨kq, by unfold own; omega⟩
  · subst c
    rw [show (s + 6 - s).toNat = 6 by omega]
    have R0 := rwd_z (tx := tx) (n := n) (s := s)
    have C0 := cwd_z (tx := tx) (s := s)
    have d0 := hl (s) (by omega) (by omega)
    have R1 := rwd_up (tx := tx) (n := n) (s := s) (p := s) (k := 0) (m := 1) rfl (by omega) d0 (by omega) (by omega) (by omega)
    have C1 := cwd_up (tx := tx) (s := s) (p := s) (k := 0) (m := 1) rfl (by omega) d0 (by omega)
    have d1 := hl (s + 1) (by omega) (by omega)
    have R2 := rwd_up (tx := tx) (n := n) (s := s) (p := s + 1) (k := 1) (m := 2) rfl (by omega) d1 (by omega) (by omega) (by omega)
    have C2 := cwd_up (tx := tx) (s := s) (p := s + 1) (k := 1) (m := 2) rfl (by omega) d1 (by omega)
    have d2 := hl (s + 2) (by omega) (by omega)
    have R3 := rwd_up (tx := tx) (n := n) (s := s) (p := s + 2) (k := 2) (m := 3) rfl (by omega) d2 (by omega) (by omega) (by omega)
    have C3 := cwd_up (tx := tx) (s := s) (p := s + 2) (k := 2) (m := 3) rfl (by omega) d2 (by omega)
    have d3 := hl (s + 3) (by omega) (by omega)
    have R4 := rwd_up (tx := tx) (n := n) (s := s) (p := s + 3) (k := 3) (m := 4) rfl (by omega) d3 (by omega) (by omega) (by omega)
    have C4 := cwd_up (tx := tx) (s := s) (p := s + 3) (k := 3) (m := 4) rfl (by omega) d3 (by omega)
    have d4 := hl (s + 4) (by omega) (by omega)
    have R5 := rwd_up (tx := tx) (n := n) (s := s) (p := s + 4) (k := 4) (m := 5) rfl (by omega) d4 (by omega) (by omega) (by omega)
    have C5 := cwd_up (tx := tx) (s := s) (p := s + 4) (k := 4) (m := 5) rfl (by omega) d4 (by omega)
    have d5 := hl (s + 5) (by omega) (by omega)
    have R6 := rwd_up (tx := tx) (n := n) (s := s) (p := s + 5) (k := 5) (m := 6) rfl (by omega) d5 (by omega) (by omega) (by omega)
    have C6 := cwd_up (tx := tx) (s := s) (p := s + 5) (k := 5) (m := 6) rfl (by omega) d5 (by omega)
    refine ⟨by omega, by omega, ?_⟩
    have z5 : kw5 tx s (s + 6) = 0 := if_neg (by omega)
    have z6 : kw6 tx s (s + 6) = 0 := if_neg (by omega)
    have z7 : kw7 tx s (s + 6) = 0 := if_neg (by omega)
    have z8 : kw8 tx s (s + 6) = 0 := if_neg (by omega)
    have z9 : kw9 tx s (s + 6) = 0 := if_neg (by omega)
    have kq : kws tx s (s + 6) = -2 := by unfold kws; rw [z5, if_pos rfl, z6, if_pos rfl, z7, if_pos rfl, z8, if_pos rfl, z9, if_pos rfl]
    exact Or.inl ⟨kq, by unfold own; omega⟩
theorem am_all {tx : Int → Int} {n s : Int} : ∀ k : Nat, s + (k : Int) ≤ n → (∀ j : Int, s ≤ j → j < s + (k : Int) → 48 ≤ tx j ∧ tx j ≤ 57) → (0 ≤ cam tx s k ∧ cam tx s k ≤ 999 ∧ ram (cB tx n) s k = cam tx s k) ∨ (999 < cam tx s k ∧ cam tx s k = 1000 ∧ 999 < ram (cB tx n) s k ∧ ram (cB tx n) s k ≤ 100000)
  | 0, _, _ => Or.inl ⟨Int.le_refl _, (by show (0 : Int) ≤ 999; decide), rfl⟩
  | k + 1, h, hl => by
    have i := am_all (tx := tx) (n := n) (s := s) k (by omega) (fun j a b => hl j a (by omega))
    have d := hl (s + k) (by omega) (by omega)
    have e1 : cam tx s (k + 1) = if 10 * cam tx s k + tx (s + k) - 48 ≤ 1000 then 10 * cam tx s k + tx (s + k) - 48 else 1000 := rfl
    have e2 : ram (cB tx n) s (k + 1) = if 9999 < ram (cB tx n) s k then ram (cB tx n) s k else 10 * ram (cB tx n) s k + cB tx n (s + k) - 48 := rfl
    rw [cB_in (by omega)] at e2
    rw [e1, e2]
    split <;> split <;> omega
def tkC (tx ty : Int → Int) (n N : Int) (so st va : Int → Int) : Prop := (0 ≤ N ∧ N ≤ n ∧ n ≤ 400) ∧ tkAll tx n so st va N ∧ skp (cB tx n) n (psT (cB tx n) n N) = n ∧ so N = -1 ∧ st N = n ∧ ∀ j : Int, 0 ≤ j → j < n → zand (ty j) 255 = tx j ∧ 0 ≤ tx j ∧ tx j ≤ 255
theorem psN_in {tx : Int → Int} {n : Int} (hn : 0 ≤ n) : ∀ k : Nat, 0 ≤ psN (cB tx n) n k ∧ psN (cB tx n) n k ≤ n
  | 0 => ⟨Int.le_refl _, hn⟩
  | k + 1 => by
    have i := psN_in (tx := tx) hn k
    have z := nxt_in (bt := cB tx n) cB_end i.2
    show 0 ≤ nxt (cB tx n) n (psN (cB tx n) n k) ∧ nxt (cB tx n) n (psN (cB tx n) n k) ≤ n
    omega
theorem psT_in {tx : Int → Int} {n i : Int} (hn : 0 ≤ n) : 0 ≤ psT (cB tx n) n i ∧ psT (cB tx n) n i ≤ n := psN_in hn _
theorem tk_step {tx ty so st va : Int → Int} {n N i q o7 o8 o9 o10 : Int} (h : tkC tx ty n N so st va) (hi : 0 ≤ i) (hN : i ≤ N) (hq : q = psT (cB tx n) n i) :
    (0 ≤ q ∧ q ≤ n) ∧ x2 ty n q = psT (cB tx n) n (i + 1) ∧ tkR (so i) (st i) (va i) (x6 ty n q) (x5 ty n q) (x7 ty n q o7) (x8 ty n q o8) (x9 ty n q o9) (x10 ty n q o10) := by
  obtain ⟨h1, h2, h3, h4, h5, h6⟩ := h
  have hq2 : 0 ≤ q ∧ q ≤ n := by rw [hq]; exact psT_in (by omega)
  have E : ∀ x : Int, 0 ≤ x → hB ty n x = cB tx n x := fun x hx => by
    unfold hB cB
    split
    · exact (h6 x hx (by assumption)).1
    · rfl
  have es : skp (hB ty n) n q = skp (cB tx n) n q := skpN_cg _ _ (fun x hx => E x (by omega))
  have sb := skp_in (bt := cB tx n) (n := n) (q := q) cB_end hq2.2
  have e2 : x2 ty n q = psT (cB tx n) n (i + 1) := by
    rw [psT_suc hi, ← hq]; exact nxt_cg (fun x hx => E x (by omega))
  refine ⟨hq2, e2, ?_⟩
  obtain ⟨s, hs⟩ : ∃ s, s = skp (cB tx n) n q := ⟨_, rfl⟩
  rw [← hs] at es sb
  have e6 : x6 ty n q = s := es
  have eb : hB ty n s = cB tx n s := E s (by omega)
  have ew : wen (hB ty n) n s = wen (cB tx n) n s := wenN_cg _ _ (fun x hx => E x (by omega))
  have en : nen (hB ty n) n s = nen (cB tx n) n s := nenN_cg _ _ (fun x hx => E x (by omega))
  have er : ∀ k : Nat, rwd (hB ty n) s k = rwd (cB tx n) s k := rwd_cg (fun x hx => E x (by omega))
  have ea : ∀ k : Nat, ram (hB ty n) s k = ram (cB tx n) s k := ram_cg (fun x hx => E x (by omega))
  unfold x5 x7 x8 x9 x10
  rw [e6, es, eb, ew, en, er, ea]
  by_cases c : i = N
  · subst c
    have sn : s = n := by rw [hs, hq]; exact h3
    have bm : cB tx n s = -1 := cB_out (by omega)
    refine ⟨by rw [h5]; exact sn, Or.inl ⟨h4, ?_⟩⟩
    rw [if_pos bm]
  · obtain ⟨t1, t2, t3, t4, t5⟩ := h2 i hi (by omega)
    rw [← hq, ← hs] at t1 t2 t3 t4 t5
    have bs : cB tx n s = tx s := cB_in t1
    have bb := h6 s (by omega) t1
    rw [bs]
    refine ⟨t2.symm, ?_⟩
    by_cases c1 : 97 ≤ tx s ∧ tx s ≤ 122
    · have wb := wen_b (bt := cB tx n) cB_end _ s rfl (by omega)
      have wl := tk_wb (tx := tx) t1 c1.1 c1.2
      have hl : ∀ j : Int, s ≤ j → j < wen (cB tx n) n s → 97 ≤ tx j ∧ tx j ≤ 122 := fun j a b => by
        have z := wb.2.2.2 j a b
        rw [cB_in (by omega)] at z; exact z
      rw [if_neg (show ¬ tx s = -1 by omega), if_pos c1, if_pos c1, if_pos c1]
      rw [t4 c1]
      have s3 : so i = if 6 < wen (cB tx n) n s - s then -3 else kws tx s (wen (cB tx n) n s) := t3.trans (if_pos c1)
      by_cases c2 : 6 < wen (cB tx n) n s - s
      · rw [if_pos c2] at s3
        exact Or.inr (Or.inr (Or.inl ⟨s3, rfl, c2, wd_long c2 (by omega) hl⟩))
      · rw [if_neg c2] at s3
        have w := wd_short (tx := tx) (n := n) (s := s) (e := wen (cB tx n) n s) (by omega) (by omega) (by omega) hl
        rw [w.1]
        rcases w.2.2 with z | z | z | z | z | z
        · exact Or.inr (Or.inl ⟨by omega, rfl, rfl, by omega, w.2.1, z.2⟩)
        · exact Or.inr (Or.inr (Or.inr (Or.inr (Or.inl ⟨by omega, rfl, z.2⟩))))
        · exact Or.inr (Or.inr (Or.inr (Or.inr (Or.inr (Or.inl ⟨by omega, rfl, z.2⟩)))))
        · exact Or.inr (Or.inr (Or.inr (Or.inr (Or.inr (Or.inr (Or.inl ⟨by omega, rfl, z.2⟩))))))
        · exact Or.inr (Or.inr (Or.inr (Or.inr (Or.inr (Or.inr (Or.inr (Or.inl ⟨by omega, rfl, z.2⟩)))))))
        · exact Or.inr (Or.inr (Or.inr (Or.inr (Or.inr (Or.inr (Or.inr (Or.inr (Or.inl ⟨by omega, rfl, z.2⟩))))))))
    · by_cases c2 : 48 ≤ tx s ∧ tx s ≤ 57
      · have nb := nen_b (bt := cB tx n) cB_end _ s rfl (by omega)
        have nl_ := tk_nb (tx := tx) t1 c2.1 c2.2
        rw [if_neg (show ¬ tx s = -1 by omega), if_neg c1, if_pos c2, if_pos c2, t5 c2]
        have s3 : so i = -4 := t3.trans ((if_neg c1).trans (if_pos c2))
        have am := am_all (tx := tx) (n := n) (s := s) (nen (cB tx n) n s - s).toNat (by omega) (fun j a b => by
          have z := nb.2.2.2 j a (by omega)
          rw [cB_in (by omega)] at z; exact z)
        refine Or.inr (Or.inr (Or.inr (Or.inl ⟨s3, rfl, ?_⟩)))
        omega
      · have s3 : so i = tx s := t3.trans ((if_neg c1).trans (if_neg c2))
        rw [if_neg (show ¬ tx s = -1 by omega), if_neg c1, if_neg c2, if_neg (show ¬ (tx s = -1 ∨ (97 ≤ tx s ∧ tx s ≤ 122) ∨ 48 ≤ tx s ∧ tx s ≤ 57) by omega)]
        exact Or.inr (Or.inr (Or.inr (Or.inr (Or.inr (Or.inr (Or.inr (Or.inr (Or.inr ⟨by omega, by omega, s3.symm, by rw [s3]⟩))))))))
