/-! Tokens: what the reference has at hand, against what the class keeps -/
theorem skpN_cg {a b : Int → Int} : ∀ (k : Nat) (q : Int), (∀ x : Int, q ≤ x → a x = b x) → skpN a k q = skpN b k q
  | 0, _, _ => rfl
  | k + 1, q, h => by
    show (if a q = 32 ∨ a q = 10 then skpN a k (q + 1) else q) = (if b q = 32 ∨ b q = 10 then skpN b k (q + 1) else q)
    rw [h q (Int.le_refl _), skpN_cg k (q + 1) (fun x hx => h x (by omega))]
theorem wenN_cg {a b : Int → Int} : ∀ (k : Nat) (q : Int), (∀ x : Int, q ≤ x → a x = b x) → wenN a k q = wenN b k q
  | 0, _, _ => rfl
  | k + 1, q, h => by
    show (if 97 ≤ a q ∧ a q ≤ 122 then wenN a k (q + 1) else q) = (if 97 ≤ b q ∧ b q ≤ 122 then wenN b k (q + 1) else q)
    rw [h q (Int.le_refl _), wenN_cg k (q + 1) (fun x hx => h x (by omega))]
theorem nenN_cg {a b : Int → Int} : ∀ (k : Nat) (q : Int), (∀ x : Int, q ≤ x → a x = b x) → nenN a k q = nenN b k q
  | 0, _, _ => rfl
  | k + 1, q, h => by
    show (if 48 ≤ a q ∧ a q ≤ 57 then nenN a k (q + 1) else q) = (if 48 ≤ b q ∧ b q ≤ 57 then nenN b k (q + 1) else q)
    rw [h q (Int.le_refl _), nenN_cg k (q + 1) (fun x hx => h x (by omega))]
theorem rwd_cg {a b : Int → Int} {p : Int} (h : ∀ x : Int, p ≤ x → a x = b x) : ∀ k : Nat, rwd a p k = rwd b p k
  | 0 => rfl
  | k + 1 => by
    show (if (k : Int) < 7 then w64 (w64 (w64 (w64 (32 * rwd a p k) + a (p + k)) - 97) + 1) else -1) = (if (k : Int) < 7 then w64 (w64 (w64 (w64 (32 * rwd b p k) + b (p + k)) - 97) + 1) else -1)
    rw [rwd_cg h k, h (p + k) (by omega)]
theorem ram_cg {a b : Int → Int} {p : Int} (h : ∀ x : Int, p ≤ x → a x = b x) : ∀ k : Nat, ram a p k = ram b p k
  | 0 => rfl
  | k + 1 => by
    show (if 9999 < ram a p k then ram a p k else 10 * ram a p k + a (p + k) - 48) = (if 9999 < ram b p k then ram b p k else 10 * ram b p k + b (p + k) - 48)
    rw [ram_cg h k, h (p + k) (by omega)]
theorem skpN_le {a : Int → Int} : ∀ (k : Nat) (q : Int), q ≤ skpN a k q
  | 0, _ => Int.le_refl _
  | k + 1, q => by
    show q ≤ (if a q = 32 ∨ a q = 10 then skpN a k (q + 1) else q)
    have := skpN_le (a := a) k (q + 1)
    split <;> omega
theorem skp_le {a : Int → Int} {n q : Int} : q ≤ skp a n q := skpN_le _ _
theorem nxt_cg {a b : Int → Int} {n q : Int} (h : ∀ x : Int, q ≤ x → a x = b x) : nxt a n q = nxt b n q := by
  have e : skp a n q = skp b n q := skpN_cg _ _ h
  have l : q ≤ skp b n q := skp_le
  unfold nxt
  rw [e, h _ l, show wen a n (skp b n q) = wen b n (skp b n q) from wenN_cg _ _ (fun x hx => h x (by omega)), show nen a n (skp b n q) = nen b n (skp b n q) from nenN_cg _ _ (fun x hx => h x (by omega))]
theorem nxt_in {bt : Int → Int} {n q : Int} (hb : ∀ x : Int, n ≤ x → bt x = -1) (h : q ≤ n) : q ≤ nxt bt n q ∧ nxt bt n q ≤ n := by
  have s := skp_in hb h
  unfold nxt
  split
  · omega
  · split
    · have := wen_b hb _ (skp bt n q) rfl (by omega); omega
    · split
      · have := nen_b hb _ (skp bt n q) rfl (by omega); omega
      · omega
/-- a token of the reference, by the place ahead of it -/
def x5 (tx : Int → Int) (n q : Int) : Int := if hB tx n (skp (hB tx n) n q) = -1 then 0 else if 97 ≤ hB tx n (skp (hB tx n) n q) ∧ hB tx n (skp (hB tx n) n q) ≤ 122 then 1 else if 48 ≤ hB tx n (skp (hB tx n) n q) ∧ hB tx n (skp (hB tx n) n q) ≤ 57 then 2 else sgn (hB tx n (skp (hB tx n) n q))
def x7 (tx : Int → Int) (n q o : Int) : Int := if 48 ≤ hB tx n (skp (hB tx n) n q) ∧ hB tx n (skp (hB tx n) n q) ≤ 57 then ram (hB tx n) (skp (hB tx n) n q) (nen (hB tx n) n (skp (hB tx n) n q) - skp (hB tx n) n q).toNat else o
def x8 (tx : Int → Int) (n q o : Int) : Int := if hB tx n (skp (hB tx n) n q) = -1 ∨ (97 ≤ hB tx n (skp (hB tx n) n q) ∧ hB tx n (skp (hB tx n) n q) ≤ 122) ∨ (48 ≤ hB tx n (skp (hB tx n) n q) ∧ hB tx n (skp (hB tx n) n q) ≤ 57) then o else hB tx n (skp (hB tx n) n q)
def x9 (tx : Int → Int) (n q o : Int) : Int := if 97 ≤ hB tx n (skp (hB tx n) n q) ∧ hB tx n (skp (hB tx n) n q) ≤ 122 then wen (hB tx n) n (skp (hB tx n) n q) - skp (hB tx n) n q else o
def x10 (tx : Int → Int) (n q o : Int) : Int := if 97 ≤ hB tx n (skp (hB tx n) n q) ∧ hB tx n (skp (hB tx n) n q) ≤ 122 then rwd (hB tx n) (skp (hB tx n) n q) (wen (hB tx n) n (skp (hB tx n) n q) - skp (hB tx n) n q).toNat else o
def x2 (tx : Int → Int) (n q : Int) : Int := nxt (hB tx n) n q
def x6 (tx : Int → Int) (n q : Int) : Int := skp (hB tx n) n q
/-- the memory behind next() -/
def xnx (M : Nat → Int → Int) (a b c d e f g : Int) : Nat → Int → Int := zup (zup (zup (zup (zup (zup (zup M 467 2 a) 467 5 b) 467 6 c) 467 7 d) 467 8 e) 467 9 f) 467 10 g
theorem xnx_eq {M N : Nat → Int → Int} {a b c d e f g : Int} (h : ∀ (x : Nat) (k : Int), ¬ (x = 467 ∧ (k = 2 ∨ (5 ≤ k ∧ k ≤ 10))) → N x k = M x k) (h2 : N 467 2 = a) (h5 : N 467 5 = b) (h6 : N 467 6 = c) (h7 : N 467 7 = d) (h8 : N 467 8 = e) (h9 : N 467 9 = f) (h10 : N 467 10 = g) : N = xnx M a b c d e f g := by
  funext x k
  by_cases p : x = 467 ∧ (k = 2 ∨ (5 ≤ k ∧ k ≤ 10))
  · obtain ⟨p, q⟩ := p
    subst p
    have w : k = 2 ∨ k = 5 ∨ k = 6 ∨ k = 7 ∨ k = 8 ∨ k = 9 ∨ k = 10 := by omega
    rcases w with w | w | w | w | w | w | w <;> subst w
    · exact h2
    · exact h5
    · exact h6
    · exact h7
    · exact h8
    · exact h9
    · exact h10
  · rw [h x k p]
    unfold xnx zup
    rw [if_neg (fun z => p ⟨z.1, by omega⟩), if_neg (fun z => p ⟨z.1, by omega⟩), if_neg (fun z => p ⟨z.1, by omega⟩), if_neg (fun z => p ⟨z.1, by omega⟩), if_neg (fun z => p ⟨z.1, by omega⟩), if_neg (fun z => p ⟨z.1, by omega⟩), if_neg (fun z => p ⟨z.1, by omega⟩)]
theorem next_x {d : Nat} {P : Nat → Nat → Nat} {M : Nat → Int → Int} {Q : zQ} (hl : 0 ≤ (M 467 3) ∧ (M 467 3) ≤ 400) (hq : 0 ≤ (M 467 2) ∧ (M 467 2) ≤ (M 467 3)) (h8 : ∀ xi : Int, 0 ≤ xi → xi < (M 467 3) → 0 ≤ zand (M 468 xi) 255) (hQ0 : Q (zS P (zup (zup (zup (zup (zup (zup (zup M 467 2 (x2 (M 468) (M 467 3) (M 467 2))) 467 5 (x5 (M 468) (M 467 3) (M 467 2))) 467 6 (x6 (M 468) (M 467 3) (M 467 2))) 467 7 (x7 (M 468) (M 467 3) (M 467 2) (M 467 7))) 467 8 (x8 (M 468) (M 467 3) (M 467 2) (M 467 8))) 467 9 (x9 (M 468) (M 467 3) (M 467 2) (M 467 9))) 467 10 (x10 (M 468) (M 467 3) (M 467 2) (M 467 10)))) none) : WC (d + 2) 43 [vR 467] (zS P M) Q := by
  have e0 : (0 : Int) ≤ M 467 2 := hq.1
  have hs := skp_in (bt := hB (M 468) (M 467 3)) (n := M 467 3) (q := M 467 2) (fun _ z => hB_out z) hq.2
  have hb : ∀ x : Int, 0 ≤ x → x < M 467 3 → 0 ≤ hB (M 468) (M 467 3) x := fun x a b => by
    have := h8 x a b
    unfold hB; rw [if_pos b]; exact this
  have hout : ∀ x : Int, hB (M 468) (M 467 3) x = -1 → 0 ≤ x → M 467 3 ≤ x := fun x a b => by
    by_cases c : x < M 467 3
    · have := hb x b c; omega
    · omega
  have eqm : ∀ N : Nat → Int → Int, N = xnx M (x2 (M 468) (M 467 3) (M 467 2)) (x5 (M 468) (M 467 3) (M 467 2)) (x6 (M 468) (M 467 3) (M 467 2)) (x7 (M 468) (M 467 3) (M 467 2) (M 467 7)) (x8 (M 468) (M 467 3) (M 467 2) (M 467 8)) (x9 (M 468) (M 467 3) (M 467 2) (M 467 9)) (x10 (M 468) (M 467 3) (M 467 2) (M 467 10)) → Q (zS P N) none := fun N h => by
    rw [h]; exact hQ0
  refine next_m hl hq h8 (fun c1 => eqm _ ?_) (fun c1 => eqm _ ?_) (fun c1 => eqm _ ?_) (fun c1 c2 c3 => eqm _ ?_)
  · have l := hout _ c1 (by omega)
    refine xnx_eq (fun x k h => ?_) ?_ ?_ rfl ?_ ?_ ?_ ?_
    · unfold zup
      repeat rw [if_neg (fun z => h ⟨z.1, by omega⟩)]
    · exact (show skp (hB (M 468) (M 467 3)) (M 467 3) (M 467 2) = _ from (if_pos l).symm)
    · exact (show (0 : Int) = _ from (if_pos c1).symm)
    · exact (show M 467 7 = _ from (if_neg (by omega)).symm)
    · exact (show M 467 8 = _ from (if_pos (Or.inl c1)).symm)
    · exact (show M 467 9 = _ from (if_neg (by omega)).symm)
    · exact (show M 467 10 = _ from (if_neg (by omega)).symm)
  · have l : skp (hB (M 468) (M 467 3)) (M 467 3) (M 467 2) < M 467 3 := hB_lt (tx := M 468) (by omega)
    refine xnx_eq (fun x k h => ?_) ?_ ?_ rfl ?_ ?_ ?_ ?_
    · unfold zup
      repeat rw [if_neg (fun z => h ⟨z.1, by omega⟩)]
    · exact (show wen (hB (M 468) (M 467 3)) (M 467 3) (skp (hB (M 468) (M 467 3)) (M 467 3) (M 467 2)) = _ from ((if_neg (by omega)).trans (if_pos c1)).symm)
    · exact (show (1 : Int) = _ from ((if_neg (by omega)).trans (if_pos c1)).symm)
    · exact (show M 467 7 = _ from (if_neg (by omega)).symm)
    · exact (show M 467 8 = _ from (if_pos (Or.inr (Or.inl c1))).symm)
    · exact (show _ = _ from (if_pos c1).symm)
    · exact (show _ = _ from (if_pos c1).symm)
  · have l : skp (hB (M 468) (M 467 3)) (M 467 3) (M 467 2) < M 467 3 := hB_lt (tx := M 468) (by omega)
    refine xnx_eq (fun x k h => ?_) ?_ ?_ rfl ?_ ?_ ?_ ?_
    · unfold zup
      repeat rw [if_neg (fun z => h ⟨z.1, by omega⟩)]
    · exact (show nen (hB (M 468) (M 467 3)) (M 467 3) (skp (hB (M 468) (M 467 3)) (M 467 3) (M 467 2)) = _ from ((if_neg (by omega)).trans ((if_neg (by omega)).trans (if_pos c1))).symm)
    · exact (show (2 : Int) = _ from ((if_neg (by omega)).trans ((if_neg (by omega)).trans (if_pos c1))).symm)
    · exact (show _ = _ from (if_pos c1).symm)
    · exact (show M 467 8 = _ from (if_pos (Or.inr (Or.inr c1))).symm)
    · exact (show M 467 9 = _ from (if_neg (by omega)).symm)
    · exact (show M 467 10 = _ from (if_neg (by omega)).symm)
  · have l : skp (hB (M 468) (M 467 3)) (M 467 3) (M 467 2) < M 467 3 := hB_lt (tx := M 468) (by omega)
    refine xnx_eq (fun x k h => ?_) ?_ ?_ rfl ?_ ?_ ?_ ?_
    · unfold zup
      repeat rw [if_neg (fun z => h ⟨z.1, by omega⟩)]
    · exact (show skp (hB (M 468) (M 467 3)) (M 467 3) (M 467 2) + 1 = _ from ((if_neg (by omega)).trans ((if_neg c2).trans (if_neg c3))).symm)
    · exact (show _ = _ from ((if_neg c1).trans ((if_neg c2).trans (if_neg c3))).symm)
    · exact (show M 467 7 = _ from (if_neg c3).symm)
    · exact (show _ = _ from (if_neg (fun z => z.elim c1 (fun z => z.elim c2 c3))).symm)
    · exact (show M 467 9 = _ from (if_neg c2).symm)
    · exact (show M 467 10 = _ from (if_neg c2).symm)
theorem zor5 {c x : Int} (hc : 0 ≤ c ∧ c < 33554432) (hx : 0 ≤ x ∧ x < 32) : zor (zshl c 5) x = 32 * c + x := by
  obtain ⟨n, rfl⟩ := Int.eq_ofNat_of_zero_le hc.1
  obtain ⟨k, rfl⟩ := Int.eq_ofNat_of_zero_le hx.1
  have s : zshl (n : Int) 5 = ((32 * n : Nat) : Int) := by
    unfold zshl
    have o : Int32.ofInt (n : Int) <<< (Int32.ofInt 5 &&& 31) = nI (32 * n) := by
      apply Int32.toBitVec_inj.mp
      apply BitVec.eq_of_toNat_eq
      rw [Int32.toBitVec_shiftLeft, show ((Int32.ofInt 5 &&& 31).toBitVec.smod 32) = 5#32 from by decide, BitVec.shiftLeft_eq', BitVec.toNat_shiftLeft, pk_tn (by omega)]
      show (nI n).toBitVec.toNat <<< 5 % 2 ^ 32 = 32 * n
      rw [pk_tn (by omega), Nat.shiftLeft_eq]
      omega
    rw [o, nI_toInt (by omega)]
  rw [s]
  unfold zor
  rw [nI_ofI (by omega), nI_ofI (by omega)]
  have l : 32 * n ||| k = 32 * n + k := (Nat.two_pow_add_eq_or_of_lt (i := 5) (b := k) (by omega) n).symm
  have o : nI ((32 * n : Nat) : Int).toNat ||| nI ((k : Nat) : Int).toNat = nI (32 * n + k) := by
    apply Int32.toBitVec_inj.mp
    apply BitVec.eq_of_toNat_eq
    show ((nI (32 * n)).toBitVec ||| (nI k).toBitVec).toNat = _
    rw [BitVec.toNat_or, pk_tn (by omega), pk_tn (by omega), pk_tn (by omega), l]
  rw [o, nI_toInt (by omega)]
  omega
