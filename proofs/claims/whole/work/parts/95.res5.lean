/-! The result's lines: the reference's steps, told by what they change -/
def rTop (τ : Nat → Int → Int) (K x a E base deep lv : Int) : Prop := K = τ 467 107 - 1 ∧ x = τ 535 K ∧ a = τ 536 K ∧ E = τ 537 K ∧ base = τ 538 K ∧ deep = τ 539 K ∧ τ 541 K = deep ∧ τ 467 108 = deep + lv
theorem zup_f {m : Nat → Int → Int} {c : Nat} {k k' v : Int} (h : ¬ k' = k) : zup m c k v c k' = m c k' := by unfold zup; rw [if_neg (fun z => by exact h z.2)]
theorem zup_n {m : Nat → Int → Int} {c c' : Nat} {k k' v : Int} (h : ¬ c' = c) : zup m c k v c' k' = m c' k' := congrFun (zu_ne h) k'
theorem zrow_n {m : Nat → Int → Int} {c c' : Nat} {f : Int → Int} {k : Int} (h : ¬ c' = c) : zrow m c f c' k = m c' k := congrFun (zr_ne h) k
theorem zrow_y {m : Nat → Int → Int} {c : Nat} {f : Int → Int} {k : Int} : zrow m c f c k = f k := if_pos rfl
theorem c7 {c : Nat} (h : 535 ≤ c) (h' : c ≤ 541) : c = 535 ∨ c = 536 ∨ c = 537 ∨ c = 538 ∨ c = 539 ∨ c = 540 ∨ c = 541 := by omega
/-- what is as it was in the rows of blocks and of left calls -/
def rOp (τ τ' : Nat → Int → Int) : Prop := τ' 542 = τ 542 ∧ τ' 543 = τ 543 ∧ τ' 544 = τ 544 ∧ τ' 546 = τ 546
theorem rTop_b {τ : Nat → Int → Int} {K x a E base deep lv : Int} (h : rTop τ K x a E base deep lv) (k0 : 0 ≤ K) (k1 : K ≤ 50) (d0 : 0 ≤ deep ∧ 0 ≤ lv ∧ deep + lv ≤ 300) : (1 ≤ τ 467 107 ∧ τ 467 107 ≤ 60) ∧ (¬ τ 467 107 ≤ 0) ∧ 0 ≤ τ 467 108 ∧ τ 467 108 < 390 := by
  obtain ⟨h1, _, _, _, _, _, _, h8⟩ := h
  omega
theorem r_ln {τ : Nat → Int → Int} {K x a E base deep lv : Int} (h : rTop τ K x a E base deep lv) (k0 : 0 ≤ K) (k1 : K ≤ 50) (d0 : 0 ≤ deep ∧ 0 ≤ lv ∧ deep + lv ≤ 300) (nb : lv = 0 ∨ ¬ a = τ 544 (deep + lv - 1)) (en : ¬ a = E) (al : 0 ≤ a ∧ a < 120) (bs : 0 ≤ base ∧ base ≤ 1000) (dl : 0 ≤ τ 487 a ∧ τ 487 a ≤ 5) (op : (-2 ≤ τ 481 a ∧ τ 481 a ≤ 1000) ∧ (-100 ≤ τ 482 a ∧ τ 482 a ≤ 1000) ∧ (-100 ≤ τ 483 a ∧ τ 483 a ≤ 1000) ∧ -100 ≤ τ 484 a ∧ τ 484 a ≤ 1000) (ee : τ 491 a = 0 ∨ τ 491 a = 1) (ll : 120 ≤ τ 467 109 ∧ τ 467 109 < 520) (k9 : τ 480 a = 9 → K = 0) (k6 : ¬ τ 480 a = 6) (k7 : ¬ τ 480 a = 7) (k8 : ¬ τ 480 a = 8) : ∃ τ' : Nat → Int → Int, rTo τ τ' ∧ (rPut τ τ' (τ 480 a) (tgx (τ 481 a) base) (shf (τ 482 a) base) (shf (τ 483 a) base) (shf (τ 484 a) base) (τ 485 a) (τ 486 a) (deep + τ 487 a) (τ 491 a) (-1)) ∧ rTop τ' K x (a + 1) E base deep lv ∧ rPr τ τ' K (deep + lv) (τ 467 109) ∧ τ' 467 110 = τ 467 110 ∧ τ' 545 = τ 545 ∧ τ' 467 111 = τ 467 111 ∧ rOp τ τ' := by
  have B := rTop_b h k0 k1 d0
  obtain ⟨h1, h2, h3, h4, h5, h6, h7, h8⟩ := id h
  subst h1 h2 h3 h4 h5 h6
  have nb1 : τ 467 108 ≤ τ 541 (τ 467 107 - 1) ∨ ¬ τ 536 (τ 467 107 - 1) = τ 544 (τ 467 108 - 1) := by
    rcases nb with z | z
    · left; omega
    · right; rw [h8]; exact z
  have nb2 : τ 467 108 ≤ τ 541 (τ 467 107 - 1) ∨ 1 ≤ τ 467 108 := by omega
  refine ⟨_, fun A P d f Q q x2 => R_ln_r (d := d) f B.1 B.2.1 B.2.2 nb1 nb2 en al ⟨bs, by omega, dl⟩ op ee ll (fun z => by have := k9 z; omega) k6 k7 k8 (fun x2' => q x2'), ?_, ?_, ?_, rfl, rfl, rfl, rfl, rfl, rfl, rfl⟩
  · exact ⟨rfl, rfl, rfl, rfl, rfl, rfl, rfl, rfl, rfl, rfl, rfl, rfl, rfl⟩
  · refine ⟨rfl, rfl, (zs_pos rfl).symm, rfl, rfl, rfl, h7, ?_⟩
    exact h8
  · exact ⟨(fun c hc => by repeat (first | rw [zr_ne (fun z => by subst z; exact absurd hc (by decide))] | rw [zu_ne (fun z => by subst z; exact absurd hc (by decide))])), (fun k hk => by first | rfl | ((repeat (rw [zup_f (by omega)])); try rfl)), rPut_rows ⟨rfl, rfl, rfl, rfl, rfl, rfl, rfl, rfl, rfl, rfl, rfl, rfl, rfl⟩, (fun c j q1 q2 q3 => by
      rcases c7 q1 q2 with e | e | e | e | e | e | e <;> subst e
      · exact rfl
      · exact zs_neg (by omega)
      · exact rfl
      · exact rfl
      · exact rfl
      · exact rfl
      · exact rfl), (fun j hj => rfl), (fun c j q1 q2 => by
      rcases q1 with e | e | e | e <;> subst e
      · exact rfl
      · exact rfl
      · exact rfl
      · exact rfl)⟩
theorem r_lf {τ : Nat → Int → Int} {K x a E base deep lv : Int} (h : rTop τ K x a E base deep lv) (k0 : 0 ≤ K) (k1 : K ≤ 50) (d0 : 0 ≤ deep ∧ 0 ≤ lv ∧ deep + lv ≤ 300) (nb : lv = 0 ∨ ¬ a = τ 544 (deep + lv - 1)) (en : ¬ a = E) (al : 0 ≤ a ∧ a < 120) (bs : 0 ≤ base ∧ base ≤ 1000) (dl : 0 ≤ τ 487 a ∧ τ 487 a ≤ 5) (op : (-2 ≤ τ 481 a ∧ τ 481 a ≤ 1000) ∧ (-100 ≤ τ 482 a ∧ τ 482 a ≤ 1000) ∧ (-100 ≤ τ 483 a ∧ τ 483 a ≤ 1000) ∧ -100 ≤ τ 484 a ∧ τ 484 a ≤ 1000) (ee : τ 491 a = 0 ∨ τ 491 a = 1) (ll : 120 ≤ τ 467 109 ∧ τ 467 109 < 520) (k6 : τ 480 a = 6) (bk : 0 ≤ τ 467 11 ∧ τ 467 11 ≤ 1) (xx : 0 ≤ x ∧ x < 420) (fx : 0 ≤ τ 523 x ∧ τ 523 x < 8) (cf : (0 ≤ τ 526 x ∧ τ 526 x ≤ 420) ∧ (0 ≤ τ 486 a ∧ τ 486 a ≤ 16) ∧ 0 ≤ τ 477 (8 * τ 467 11 + τ 523 x) ∧ τ 477 (8 * τ 467 11 + τ 523 x) ≤ 16) (cc : 0 ≤ (τ 526 x + τ 486 a - τ 477 (8 * τ 467 11 + τ 523 x)) ∧ (τ 526 x + τ 486 a - τ 477 (8 * τ 467 11 + τ 523 x)) < 420) (hs : τ 531 (τ 526 x + τ 486 a - τ 477 (8 * τ 467 11 + τ 523 x)) = 0) (lm : 0 ≤ τ 467 111 ∧ τ 467 111 < 420) : ∃ τ' : Nat → Int → Int, rTo τ τ' ∧ (rPut τ τ' (τ 480 a) (tgx (τ 481 a) base) (shf (τ 482 a) base) (shf (τ 483 a) base) (shf (τ 484 a) base) (τ 485 a) (τ 486 a) (deep + τ 487 a) (τ 491 a) (τ 526 x + τ 486 a - τ 477 (8 * τ 467 11 + τ 523 x))) ∧ rTop τ' K x (a + 1) E base deep lv ∧ rPr τ τ' K (deep + lv) (τ 467 109) ∧ τ' 467 110 = τ 467 110 ∧ τ' 545 = zs (τ 545) (τ 467 111) (τ 526 x + τ 486 a - τ 477 (8 * τ 467 11 + τ 523 x)) ∧ τ' 467 111 = τ 467 111 + 1 ∧ rOp τ τ' := by
  have B := rTop_b h k0 k1 d0
  obtain ⟨h1, h2, h3, h4, h5, h6, h7, h8⟩ := id h
  subst h1 h2 h3 h4 h5 h6
  have nb1 : τ 467 108 ≤ τ 541 (τ 467 107 - 1) ∨ ¬ τ 536 (τ 467 107 - 1) = τ 544 (τ 467 108 - 1) := by
    rcases nb with z | z
    · left; omega
    · right; rw [h8]; exact z
  have nb2 : τ 467 108 ≤ τ 541 (τ 467 107 - 1) ∨ 1 ≤ τ 467 108 := by omega
  refine ⟨_, fun A P d f Q q x2 => R_lf_r (d := d) f B.1 B.2.1 B.2.2 nb1 nb2 en al ⟨bs, by omega, dl⟩ op ee ll bk xx fx cf cc k6 hs lm (fun x2' => q x2'), ?_, ?_, ?_, rfl, rfl, rfl, rfl, rfl, rfl, rfl⟩
  · exact ⟨rfl, rfl, rfl, rfl, rfl, rfl, rfl, rfl, rfl, rfl, rfl, rfl, rfl⟩
  · refine ⟨rfl, rfl, (zs_pos rfl).symm, rfl, rfl, rfl, h7, ?_⟩
    exact h8
  · exact ⟨(fun c hc => by repeat (first | rw [zr_ne (fun z => by subst z; exact absurd hc (by decide))] | rw [zu_ne (fun z => by subst z; exact absurd hc (by decide))])), (fun k hk => by first | rfl | ((repeat (rw [zup_f (by omega)])); try rfl)), rPut_rows ⟨rfl, rfl, rfl, rfl, rfl, rfl, rfl, rfl, rfl, rfl, rfl, rfl, rfl⟩, (fun c j q1 q2 q3 => by
      rcases c7 q1 q2 with e | e | e | e | e | e | e <;> subst e
      · exact rfl
      · exact zs_neg (by omega)
      · exact rfl
      · exact rfl
      · exact rfl
      · exact rfl
      · exact rfl), (fun j hj => rfl), (fun c j q1 q2 => by
      rcases q1 with e | e | e | e <;> subst e
      · exact rfl
      · exact rfl
      · exact rfl
      · exact rfl)⟩
theorem r_b7 {τ : Nat → Int → Int} {K x a E base deep lv : Int} (h : rTop τ K x a E base deep lv) (k0 : 0 ≤ K) (k1 : K ≤ 50) (d0 : 0 ≤ deep ∧ 0 ≤ lv ∧ deep + lv ≤ 300) (nb : lv = 0 ∨ ¬ a = τ 544 (deep + lv - 1)) (en : ¬ a = E) (al : 0 ≤ a ∧ a < 120) (bs : 0 ≤ base ∧ base ≤ 1000) (dl : 0 ≤ τ 487 a ∧ τ 487 a ≤ 5) (op : (-2 ≤ τ 481 a ∧ τ 481 a ≤ 1000) ∧ (-100 ≤ τ 482 a ∧ τ 482 a ≤ 1000) ∧ (-100 ≤ τ 483 a ∧ τ 483 a ≤ 1000) ∧ -100 ≤ τ 484 a ∧ τ 484 a ≤ 1000) (ee : τ 491 a = 0 ∨ τ 491 a = 1) (ll : 120 ≤ τ 467 109 ∧ τ 467 109 < 520) (k7 : τ 480 a = 7) (tb : 0 ≤ τ 488 a ∧ τ 488 a ≤ 120) : ∃ τ' : Nat → Int → Int, rTo τ τ' ∧ (rPut τ τ' (τ 480 a) (tgx (τ 481 a) base) (shf (τ 482 a) base) (shf (τ 483 a) base) (shf (τ 484 a) base) (τ 485 a) (τ 486 a) (deep + τ 487 a) (τ 491 a) (-1)) ∧ rTop τ' K x (a + 1) E base deep (lv + 1) ∧ rPr τ τ' K (deep + lv) (τ 467 109) ∧ τ' 467 110 = τ 467 110 ∧ τ' 545 = τ 545 ∧ τ' 467 111 = τ 467 111 ∧ τ' 542 = zs (τ 542) (deep + lv) (τ 467 109) ∧ τ' 543 = zs (τ 543) (deep + lv) a ∧ τ' 544 = zs (τ 544) (deep + lv) (a + τ 488 a + 1) ∧ τ' 546 = zs (τ 546) (deep + lv) 0 := by
  have B := rTop_b h k0 k1 d0
  obtain ⟨h1, h2, h3, h4, h5, h6, h7, h8⟩ := id h
  subst h1 h2 h3 h4 h5 h6
  have nb1 : τ 467 108 ≤ τ 541 (τ 467 107 - 1) ∨ ¬ τ 536 (τ 467 107 - 1) = τ 544 (τ 467 108 - 1) := by
    rcases nb with z | z
    · left; omega
    · right; rw [h8]; exact z
  have nb2 : τ 467 108 ≤ τ 541 (τ 467 107 - 1) ∨ 1 ≤ τ 467 108 := by omega
  refine ⟨_, fun A P d f Q q x2 => R_b7_r (d := d) f B.1 B.2.1 B.2.2 nb1 nb2 en al ⟨bs, by omega, dl⟩ op ee ll tb k7 (fun x2' => q x2'), ?_, ?_, ?_, rfl, rfl, rfl, by rw [← h8]; rfl, by rw [← h8]; rfl, by rw [← h8]; rfl, by rw [← h8]; rfl⟩
  · exact ⟨rfl, rfl, rfl, rfl, rfl, rfl, rfl, rfl, rfl, rfl, rfl, rfl, rfl⟩
  · refine ⟨rfl, rfl, (zs_pos rfl).symm, rfl, rfl, rfl, h7, ?_⟩
    show τ 467 108 + 1 = _; omega
  · exact ⟨(fun c hc => by repeat (first | rw [zr_ne (fun z => by subst z; exact absurd hc (by decide))] | rw [zu_ne (fun z => by subst z; exact absurd hc (by decide))])), (fun k hk => by first | rfl | ((repeat (rw [zup_f (by omega)])); try rfl)), rPut_rows ⟨rfl, rfl, rfl, rfl, rfl, rfl, rfl, rfl, rfl, rfl, rfl, rfl, rfl⟩, (fun c j q1 q2 q3 => by
      rcases c7 q1 q2 with e | e | e | e | e | e | e <;> subst e
      · exact rfl
      · exact zs_neg (by omega)
      · exact rfl
      · exact rfl
      · exact rfl
      · exact rfl
      · exact rfl), (fun j hj => rfl), (fun c j q1 q2 => by
      rcases q1 with e | e | e | e <;> subst e
      · exact zs_neg (by omega)
      · exact zs_neg (by omega)
      · exact zs_neg (by omega)
      · exact zs_neg (by omega))⟩
theorem r_b8 {τ : Nat → Int → Int} {K x a E base deep lv : Int} (h : rTop τ K x a E base deep lv) (k0 : 0 ≤ K) (k1 : K ≤ 50) (d0 : 0 ≤ deep ∧ 0 ≤ lv ∧ deep + lv ≤ 300) (nb : lv = 0 ∨ ¬ a = τ 544 (deep + lv - 1)) (en : ¬ a = E) (al : 0 ≤ a ∧ a < 120) (bs : 0 ≤ base ∧ base ≤ 1000) (dl : 0 ≤ τ 487 a ∧ τ 487 a ≤ 5) (op : (-2 ≤ τ 481 a ∧ τ 481 a ≤ 1000) ∧ (-100 ≤ τ 482 a ∧ τ 482 a ≤ 1000) ∧ (-100 ≤ τ 483 a ∧ τ 483 a ≤ 1000) ∧ -100 ≤ τ 484 a ∧ τ 484 a ≤ 1000) (ee : τ 491 a = 0 ∨ τ 491 a = 1) (ll : 120 ≤ τ 467 109 ∧ τ 467 109 < 520) (k7 : τ 480 a = 8) (tb : 0 ≤ τ 488 a ∧ τ 488 a ≤ 120) : ∃ τ' : Nat → Int → Int, rTo τ τ' ∧ (rPut τ τ' (τ 480 a) (tgx (τ 481 a) base) (shf (τ 482 a) base) (shf (τ 483 a) base) (shf (τ 484 a) base) (τ 485 a) (τ 486 a) (deep + τ 487 a) (τ 491 a) (-1)) ∧ rTop τ' K x (a + 1) E base deep (lv + 1) ∧ rPr τ τ' K (deep + lv) (τ 467 109) ∧ τ' 467 110 = τ 467 110 ∧ τ' 545 = τ 545 ∧ τ' 467 111 = τ 467 111 ∧ τ' 542 = zs (τ 542) (deep + lv) (τ 467 109) ∧ τ' 543 = zs (τ 543) (deep + lv) a ∧ τ' 544 = zs (τ 544) (deep + lv) (a + τ 488 a + 1) ∧ τ' 546 = zs (τ 546) (deep + lv) 0 := by
  have B := rTop_b h k0 k1 d0
  obtain ⟨h1, h2, h3, h4, h5, h6, h7, h8⟩ := id h
  subst h1 h2 h3 h4 h5 h6
  have nb1 : τ 467 108 ≤ τ 541 (τ 467 107 - 1) ∨ ¬ τ 536 (τ 467 107 - 1) = τ 544 (τ 467 108 - 1) := by
    rcases nb with z | z
    · left; omega
    · right; rw [h8]; exact z
  have nb2 : τ 467 108 ≤ τ 541 (τ 467 107 - 1) ∨ 1 ≤ τ 467 108 := by omega
  refine ⟨_, fun A P d f Q q x2 => R_b8_r (d := d) f B.1 B.2.1 B.2.2 nb1 nb2 en al ⟨bs, by omega, dl⟩ op ee ll tb k7 (fun x2' => q x2'), ?_, ?_, ?_, rfl, rfl, rfl, by rw [← h8]; rfl, by rw [← h8]; rfl, by rw [← h8]; rfl, by rw [← h8]; rfl⟩
  · exact ⟨rfl, rfl, rfl, rfl, rfl, rfl, rfl, rfl, rfl, rfl, rfl, rfl, rfl⟩
  · refine ⟨rfl, rfl, (zs_pos rfl).symm, rfl, rfl, rfl, h7, ?_⟩
    show τ 467 108 + 1 = _; omega
  · exact ⟨(fun c hc => by repeat (first | rw [zr_ne (fun z => by subst z; exact absurd hc (by decide))] | rw [zu_ne (fun z => by subst z; exact absurd hc (by decide))])), (fun k hk => by first | rfl | ((repeat (rw [zup_f (by omega)])); try rfl)), rPut_rows ⟨rfl, rfl, rfl, rfl, rfl, rfl, rfl, rfl, rfl, rfl, rfl, rfl, rfl⟩, (fun c j q1 q2 q3 => by
      rcases c7 q1 q2 with e | e | e | e | e | e | e <;> subst e
      · exact rfl
      · exact zs_neg (by omega)
      · exact rfl
      · exact rfl
      · exact rfl
      · exact rfl
      · exact rfl), (fun j hj => rfl), (fun c j q1 q2 => by
      rcases q1 with e | e | e | e <;> subst e
      · exact zs_neg (by omega)
      · exact zs_neg (by omega)
      · exact zs_neg (by omega)
      · exact zs_neg (by omega))⟩
theorem r_b2 {τ : Nat → Int → Int} {K x a E base deep lv : Int} (h : rTop τ K x a E base deep lv) (k0 : 0 ≤ K) (k1 : K ≤ 50) (d0 : 0 ≤ deep ∧ 0 ≤ lv ∧ deep + lv ≤ 300) (l0 : 0 < lv) (at' : a = τ 544 (deep + lv - 1)) (rr : 120 ≤ τ 542 (deep + lv - 1) ∧ τ 542 (deep + lv - 1) < τ 467 109) (ll : τ 467 109 < 520) (tt : 0 ≤ τ 488 (τ 542 (deep + lv - 1)) ∧ τ 488 (τ 542 (deep + lv - 1)) ≤ 520) (he : ¬ τ 546 (deep + lv - 1) = 0) : ∃ τ' : Nat → Int → Int, rTo τ τ' ∧ rTop τ' K x a E base deep (lv - 1) ∧ rPr τ τ' K (deep + lv - 1) (τ 542 (deep + lv - 1)) ∧ (τ' 467 109 = τ 467 109 ∧ τ' 467 110 = τ 467 110) ∧ (τ' 480 = τ 480 ∧ τ' 481 = τ 481 ∧ τ' 482 = τ 482 ∧ τ' 483 = τ 483 ∧ τ' 484 = τ 484 ∧ τ' 486 = τ 486 ∧ τ' 487 = τ 487 ∧ τ' 491 = τ 491) ∧ (τ' 545 = τ 545 ∧ τ' 467 111 = τ 467 111) ∧ τ' 485 = τ 485 ∧ τ' 489 = zs (τ 489) (τ 542 (deep + lv - 1)) (τ 467 109 - (τ 542 (deep + lv - 1)) - τ 488 (τ 542 (deep + lv - 1)) - 1) ∧ τ' 488 = τ 488 ∧ rOp τ τ' := by
  have B := rTop_b h k0 k1 d0
  obtain ⟨h1, h2, h3, h4, h5, h6, h7, h8⟩ := id h
  subst h1 h2 h3 h4 h5 h6
  have b1 : ¬ (τ 467 108 ≤ τ 541 (τ 467 107 - 1)) := by omega
  have b2 : τ 536 (τ 467 107 - 1) = τ 544 (τ 467 108 - 1) := by rw [h8]; exact at'
  have b3 : 1 ≤ τ 467 108 := by omega
  rw [← h8] at rr tt he
  refine ⟨_, fun A P d f Q q x2 => R_b2_r (d := d) f B.1 B.2.1 B.2.2 b1 b2 b3 rr ll tt he (fun x2' => q x2'), ⟨rfl, rfl, rfl, rfl, rfl, rfl, h7, ?_⟩, ?_, ⟨rfl, rfl⟩, ⟨rfl, rfl, rfl, rfl, rfl, rfl, rfl, rfl⟩, ⟨rfl, rfl⟩, rfl, by rw [← h8]; rfl, rfl, rfl, rfl, rfl, rfl⟩
  · show τ 467 108 - 1 = _; omega
  · refine ⟨(fun c hc => by repeat (first | rw [zr_ne (fun z => by subst z; exact absurd hc (by decide))] | rw [zu_ne (fun z => by subst z; exact absurd hc (by decide))])), (fun k hk => by first | rfl | ((repeat (rw [zup_f (by omega)])); try rfl)), fun c j q1 q2 q3 => ?_, (fun c j q1 q2 q3 => by
      rcases c7 q1 q2 with e | e | e | e | e | e | e <;> subst e
      · exact rfl
      · exact rfl
      · exact rfl
      · exact rfl
      · exact rfl
      · exact rfl
      · exact rfl), (fun j hj => rfl), (fun c j q1 q2 => by
      rcases q1 with e | e | e | e <;> subst e
      · exact rfl
      · exact rfl
      · exact rfl
      · exact rfl)⟩
    rcases c12 q1 q2 with e | e | e | e | e | e | e | e | e | e | e | e <;> subst e
    all_goals first | rfl | exact zs_neg (by rw [h8]; omega)
theorem r_b1 {τ : Nat → Int → Int} {K x a E base deep lv : Int} (h : rTop τ K x a E base deep lv) (k0 : 0 ≤ K) (k1 : K ≤ 50) (d0 : 0 ≤ deep ∧ 0 ≤ lv ∧ deep + lv ≤ 300) (l0 : 0 < lv) (at' : a = τ 544 (deep + lv - 1)) (rr : 120 ≤ τ 542 (deep + lv - 1) ∧ τ 542 (deep + lv - 1) < τ 467 109) (ll : τ 467 109 < 520) (tt : 0 ≤ τ 488 (τ 542 (deep + lv - 1)) ∧ τ 488 (τ 542 (deep + lv - 1)) ≤ 520) (he : τ 546 (deep + lv - 1) = 0) (he2 : τ 491 (τ 542 (deep + lv - 1)) = 0) : ∃ τ' : Nat → Int → Int, rTo τ τ' ∧ rTop τ' K x a E base deep (lv - 1) ∧ rPr τ τ' K (deep + lv - 1) (τ 542 (deep + lv - 1)) ∧ (τ' 467 109 = τ 467 109 ∧ τ' 467 110 = τ 467 110) ∧ (τ' 480 = τ 480 ∧ τ' 481 = τ 481 ∧ τ' 482 = τ 482 ∧ τ' 483 = τ 483 ∧ τ' 484 = τ 484 ∧ τ' 486 = τ 486 ∧ τ' 487 = τ 487 ∧ τ' 491 = τ 491) ∧ (τ' 545 = τ 545 ∧ τ' 467 111 = τ 467 111) ∧ τ' 485 = τ 485 ∧ τ' 488 = zs (τ 488) (τ 542 (deep + lv - 1)) (τ 467 109 - (τ 542 (deep + lv - 1)) - 1) ∧ τ' 489 = τ 489 ∧ rOp τ τ' := by
  have B := rTop_b h k0 k1 d0
  obtain ⟨h1, h2, h3, h4, h5, h6, h7, h8⟩ := id h
  subst h1 h2 h3 h4 h5 h6
  have b1 : ¬ (τ 467 108 ≤ τ 541 (τ 467 107 - 1)) := by omega
  have b2 : τ 536 (τ 467 107 - 1) = τ 544 (τ 467 108 - 1) := by rw [h8]; exact at'
  have b3 : 1 ≤ τ 467 108 := by omega
  rw [← h8] at rr tt he
  rw [← h8] at he2
  refine ⟨_, fun A P d f Q q x2 => R_b1_r (d := d) f B.1 B.2.1 B.2.2 b1 b2 b3 rr ll tt he he2 (fun x2' => q x2'), ⟨rfl, rfl, rfl, rfl, rfl, rfl, h7, ?_⟩, ?_, ⟨rfl, rfl⟩, ⟨rfl, rfl, rfl, rfl, rfl, rfl, rfl, rfl⟩, ⟨rfl, rfl⟩, rfl, by rw [← h8]; rfl, rfl, rfl, rfl, rfl, rfl⟩
  · show τ 467 108 - 1 = _; omega
  · refine ⟨(fun c hc => by repeat (first | rw [zr_ne (fun z => by subst z; exact absurd hc (by decide))] | rw [zu_ne (fun z => by subst z; exact absurd hc (by decide))])), (fun k hk => by first | rfl | ((repeat (rw [zup_f (by omega)])); try rfl)), fun c j q1 q2 q3 => ?_, (fun c j q1 q2 q3 => by
      rcases c7 q1 q2 with e | e | e | e | e | e | e <;> subst e
      · exact rfl
      · exact rfl
      · exact rfl
      · exact rfl
      · exact rfl
      · exact rfl
      · exact rfl), (fun j hj => rfl), (fun c j q1 q2 => by
      rcases q1 with e | e | e | e <;> subst e
      · exact rfl
      · exact rfl
      · exact rfl
      · exact rfl)⟩
    rcases c12 q1 q2 with e | e | e | e | e | e | e | e | e | e | e | e <;> subst e
    all_goals first | rfl | exact zs_neg (by rw [h8]; omega)
theorem r_b1e {τ : Nat → Int → Int} {K x a E base deep lv : Int} (h : rTop τ K x a E base deep lv) (k0 : 0 ≤ K) (k1 : K ≤ 50) (d0 : 0 ≤ deep ∧ 0 ≤ lv ∧ deep + lv ≤ 300) (l0 : 0 < lv) (at' : a = τ 544 (deep + lv - 1)) (rr : 120 ≤ τ 542 (deep + lv - 1) ∧ τ 542 (deep + lv - 1) < τ 467 109) (ll : τ 467 109 < 520) (tt : 0 ≤ τ 488 (τ 542 (deep + lv - 1)) ∧ τ 488 (τ 542 (deep + lv - 1)) ≤ 520) (he : τ 546 (deep + lv - 1) = 0) (he2 : ¬ τ 491 (τ 542 (deep + lv - 1)) = 0) (of : 0 ≤ τ 543 (deep + lv - 1) ∧ τ 543 (deep + lv - 1) < 520) (el : (0 ≤ τ 489 (τ 543 (deep + lv - 1)) ∧ τ 489 (τ 543 (deep + lv - 1)) ≤ 520) ∧ 0 ≤ τ 544 (deep + lv - 1) ∧ τ 544 (deep + lv - 1) ≤ 520) : ∃ τ' : Nat → Int → Int, rTo τ τ' ∧ rTop τ' K x a E base deep lv ∧ rPr τ τ' K (deep + lv - 1) (τ 542 (deep + lv - 1)) ∧ (τ' 467 109 = τ 467 109 ∧ τ' 467 110 = τ 467 110) ∧ (τ' 480 = τ 480 ∧ τ' 481 = τ 481 ∧ τ' 482 = τ 482 ∧ τ' 483 = τ 483 ∧ τ' 484 = τ 484 ∧ τ' 486 = τ 486 ∧ τ' 487 = τ 487 ∧ τ' 491 = τ 491) ∧ (τ' 545 = τ 545 ∧ τ' 467 111 = τ 467 111) ∧ τ' 485 = τ 485 ∧ τ' 488 = zs (τ 488) (τ 542 (deep + lv - 1)) (τ 467 109 - (τ 542 (deep + lv - 1)) - 1) ∧ τ' 489 = τ 489 ∧ τ' 542 = τ 542 ∧ τ' 543 = τ 543 ∧ τ' 544 = zs (τ 544) (deep + lv - 1) (τ 544 (deep + lv - 1) + τ 489 (τ 543 (deep + lv - 1))) ∧ τ' 546 = zs (τ 546) (deep + lv - 1) 1 := by
  have B := rTop_b h k0 k1 d0
  obtain ⟨h1, h2, h3, h4, h5, h6, h7, h8⟩ := id h
  subst h1 h2 h3 h4 h5 h6
  have b1 : ¬ (τ 467 108 ≤ τ 541 (τ 467 107 - 1)) := by omega
  have b2 : τ 536 (τ 467 107 - 1) = τ 544 (τ 467 108 - 1) := by rw [h8]; exact at'
  have b3 : 1 ≤ τ 467 108 := by omega
  rw [← h8] at rr tt he
  rw [← h8] at he2 of el
  refine ⟨_, fun A P d f Q q x2 => R_b1e_r (d := d) f B.1 B.2.1 B.2.2 b1 b2 b3 rr ll tt he he2 of el (fun x2' => q x2'), ⟨rfl, rfl, rfl, rfl, rfl, rfl, h7, ?_⟩, ?_, ⟨rfl, rfl⟩, ⟨rfl, rfl, rfl, rfl, rfl, rfl, rfl, rfl⟩, ⟨rfl, rfl⟩, rfl, by rw [← h8]; rfl, rfl, rfl, rfl, by rw [← h8]; rfl, by rw [← h8]; rfl⟩
  · exact h8
  · refine ⟨(fun c hc => by repeat (first | rw [zr_ne (fun z => by subst z; exact absurd hc (by decide))] | rw [zu_ne (fun z => by subst z; exact absurd hc (by decide))])), (fun k hk => by first | rfl | ((repeat (rw [zup_f (by omega)])); try rfl)), fun c j q1 q2 q3 => ?_, (fun c j q1 q2 q3 => by
      rcases c7 q1 q2 with e | e | e | e | e | e | e <;> subst e
      · exact rfl
      · exact rfl
      · exact rfl
      · exact rfl
      · exact rfl
      · exact rfl
      · exact rfl), (fun j hj => rfl), (fun c j q1 q2 => by
      rcases q1 with e | e | e | e <;> subst e
      · exact rfl
      · exact rfl
      · exact zs_neg (by omega)
      · exact zs_neg (by omega))⟩
    rcases c12 q1 q2 with e | e | e | e | e | e | e | e | e | e | e | e <;> subst e
    all_goals first | rfl | exact zs_neg (by rw [h8]; omega)
theorem r_n1 {τ : Nat → Int → Int} {K x a E base deep : Int} (h : rTop τ K x a E base deep 0) (k0 : 0 ≤ K) (k1 : K ≤ 50) (d0 : 0 ≤ deep ∧ deep ≤ 300) (k2 : 1 ≤ K) (cx : 0 ≤ τ 540 K ∧ τ 540 K < 520) (xx : (-2 ≤ τ 481 (τ 540 K) ∧ τ 481 (τ 540 K) ≤ 1000) ∧ 0 ≤ τ 538 (K - 1) ∧ τ 538 (K - 1) ≤ 1000) (ll : 120 ≤ τ 467 109 ∧ τ 467 109 < 520) (en : a = E) : ∃ τ' : Nat → Int → Int, rTo τ τ' ∧ rPut τ τ' 0 (τ 481 (τ 540 K) + τ 538 (K - 1)) 0 (-2) (-2) (-2) (-2) deep 0 (-1) ∧ (K - 1 = τ' 467 107 - 1 ∧ τ' 467 108 = τ 467 108) ∧ rPr τ τ' K (deep + 1) (τ 467 109) ∧ τ' 467 110 = τ 467 110 ∧ τ' 545 = τ 545 ∧ τ' 467 111 = τ 467 111 ∧ rOp τ τ' := by
  have B := rTop_b h k0 k1 (by omega)
  obtain ⟨h1, h2, h3, h4, h5, h6, h7, h8⟩ := id h
  subst h1 h2 h3 h4 h5 h6
  have nb1 : τ 467 108 ≤ τ 541 (τ 467 107 - 1) ∨ ¬ τ 536 (τ 467 107 - 1) = τ 544 (τ 467 108 - 1) := by left; omega
  have nb2 : τ 467 108 ≤ τ 541 (τ 467 107 - 1) ∨ 1 ≤ τ 467 108 := by omega
  have e2 : τ 467 107 - 1 - 1 = τ 467 107 - 2 := by omega
  rw [e2] at xx ⊢
  refine ⟨_, fun A P d f Q q x2 => R_n1_r (d := d) f B.1 B.2.1 B.2.2 nb1 nb2 en (by omega) cx xx ll  (fun x2' => q x2'), ?_, ⟨by show τ 467 107 - 2 = τ 467 107 - 1 - 1; omega, rfl⟩, ?_, rfl, rfl, rfl, rfl, rfl, rfl, rfl⟩
  · exact ⟨rfl, rfl, rfl, rfl, rfl, rfl, rfl, rfl, rfl, rfl, rfl, rfl, rfl⟩
  · exact ⟨(fun c hc => by repeat (first | rw [zr_ne (fun z => by subst z; exact absurd hc (by decide))] | rw [zu_ne (fun z => by subst z; exact absurd hc (by decide))])), (fun k hk => by first | rfl | ((repeat (rw [zup_f (by omega)])); try rfl)), rPut_rows ⟨rfl, rfl, rfl, rfl, rfl, rfl, rfl, rfl, rfl, rfl, rfl, rfl, rfl⟩, (fun c j q1 q2 q3 => by
      rcases c7 q1 q2 with e | e | e | e | e | e | e <;> subst e
      · exact rfl
      · exact rfl
      · exact rfl
      · exact rfl
      · exact rfl
      · exact rfl
      · exact rfl), (fun j hj => rfl), (fun c j q1 q2 => by
      rcases q1 with e | e | e | e <;> subst e
      · exact rfl
      · exact rfl
      · exact rfl
      · exact rfl)⟩
theorem r_gv {τ : Nat → Int → Int} {K x a E base deep : Int} (h : rTop τ K x a E base deep 0) (k0 : 0 ≤ K) (k1 : K ≤ 50) (d0 : 0 ≤ deep ∧ deep ≤ 300) (k2 : 1 ≤ K) (cx : 0 ≤ τ 540 K ∧ τ 540 K < 520) (xx : (-2 ≤ τ 481 (τ 540 K) ∧ τ 481 (τ 540 K) ≤ 1000) ∧ 0 ≤ τ 538 (K - 1) ∧ τ 538 (K - 1) ≤ 1000) (ll : 120 ≤ τ 467 109 ∧ τ 467 109 < 520) (en : ¬ a = E) (al : 0 ≤ a ∧ a < 120) (bs : 0 ≤ base ∧ base ≤ 1000) (dl : 0 ≤ τ 487 a ∧ τ 487 a ≤ 5) (op : (-2 ≤ τ 481 a ∧ τ 481 a ≤ 1000) ∧ (-100 ≤ τ 482 a ∧ τ 482 a ≤ 1000) ∧ (-100 ≤ τ 483 a ∧ τ 483 a ≤ 1000) ∧ -100 ≤ τ 484 a ∧ τ 484 a ≤ 1000) (ee : τ 491 a = 0 ∨ τ 491 a = 1) (k9 : τ 480 a = 9) : ∃ τ' : Nat → Int → Int, rTo τ τ' ∧ rPut τ τ' 0 (τ 481 (τ 540 K) + τ 538 (K - 1)) (shf (τ 482 a) base) (-2) (-2) (-2) (-2) deep 0 (-1) ∧ (K - 1 = τ' 467 107 - 1 ∧ τ' 467 108 = τ 467 108) ∧ rPr τ τ' K (deep + 1) (τ 467 109) ∧ τ' 467 110 = τ 467 110 ∧ τ' 545 = τ 545 ∧ τ' 467 111 = τ 467 111 ∧ rOp τ τ' := by
  have B := rTop_b h k0 k1 (by omega)
  obtain ⟨h1, h2, h3, h4, h5, h6, h7, h8⟩ := id h
  subst h1 h2 h3 h4 h5 h6
  have nb1 : τ 467 108 ≤ τ 541 (τ 467 107 - 1) ∨ ¬ τ 536 (τ 467 107 - 1) = τ 544 (τ 467 108 - 1) := by left; omega
  have nb2 : τ 467 108 ≤ τ 541 (τ 467 107 - 1) ∨ 1 ≤ τ 467 108 := by omega
  have e2 : τ 467 107 - 1 - 1 = τ 467 107 - 2 := by omega
  rw [e2] at xx ⊢
  refine ⟨_, fun A P d f Q q x2 => R_gv_r (d := d) f B.1 B.2.1 B.2.2 nb1 nb2 en al ⟨bs, by omega, dl⟩ op ee (by omega) cx xx ll k9 (fun x2' => q x2'), ?_, ⟨by show τ 467 107 - 2 = τ 467 107 - 1 - 1; omega, rfl⟩, ?_, rfl, rfl, rfl, rfl, rfl, rfl, rfl⟩
  · exact ⟨rfl, rfl, rfl, rfl, rfl, rfl, rfl, rfl, rfl, rfl, rfl, rfl, rfl⟩
  · exact ⟨(fun c hc => by repeat (first | rw [zr_ne (fun z => by subst z; exact absurd hc (by decide))] | rw [zu_ne (fun z => by subst z; exact absurd hc (by decide))])), (fun k hk => by first | rfl | ((repeat (rw [zup_f (by omega)])); try rfl)), rPut_rows ⟨rfl, rfl, rfl, rfl, rfl, rfl, rfl, rfl, rfl, rfl, rfl, rfl, rfl⟩, (fun c j q1 q2 q3 => by
      rcases c7 q1 q2 with e | e | e | e | e | e | e <;> subst e
      · exact rfl
      · exact zs_neg (by omega)
      · exact rfl
      · exact rfl
      · exact rfl
      · exact rfl
      · exact rfl), (fun j hj => rfl), (fun c j q1 q2 => by
      rcases q1 with e | e | e | e <;> subst e
      · exact rfl
      · exact rfl
      · exact rfl
      · exact rfl)⟩
theorem r_op {τ : Nat → Int → Int} {K x a E base deep lv : Int} (h : rTop τ K x a E base deep lv) (k0 : 0 ≤ K) (k1 : K ≤ 50) (d0 : 0 ≤ deep ∧ 0 ≤ lv ∧ deep + lv ≤ 300) (nb : lv = 0 ∨ ¬ a = τ 544 (deep + lv - 1)) (en : ¬ a = E) (al : 0 ≤ a ∧ a < 120) (bs : 0 ≤ base ∧ base ≤ 1000) (dl : τ 487 a = lv) (d5 : lv ≤ 5) (op : (-2 ≤ τ 481 a ∧ τ 481 a ≤ 1000) ∧ (-100 ≤ τ 482 a ∧ τ 482 a ≤ 1000) ∧ (-100 ≤ τ 483 a ∧ τ 483 a ≤ 1000) ∧ -100 ≤ τ 484 a ∧ τ 484 a ≤ 1000) (k6 : τ 480 a = 6) (bk : 0 ≤ τ 467 11 ∧ τ 467 11 ≤ 1) (xx : 0 ≤ x ∧ x < 420) (fx : 0 ≤ τ 523 x ∧ τ 523 x < 8) (cf : (0 ≤ τ 526 x ∧ τ 526 x ≤ 420) ∧ (0 ≤ τ 486 a ∧ τ 486 a ≤ 16) ∧ 0 ≤ τ 477 (8 * τ 467 11 + τ 523 x) ∧ τ 477 (8 * τ 467 11 + τ 523 x) ≤ 16) (cc : 0 ≤ (τ 526 x + τ 486 a - τ 477 (8 * τ 467 11 + τ 523 x)) ∧ (τ 526 x + τ 486 a - τ 477 (8 * τ 467 11 + τ 523 x)) < 420)
    (fc : 0 ≤ τ 523 (τ 526 x + τ 486 a - τ 477 (8 * τ 467 11 + τ 523 x)) ∧ τ 523 (τ 526 x + τ 486 a - τ 477 (8 * τ 467 11 + τ 523 x)) < 8) (vp : (0 ≤ (τ 474 (8 * τ 467 11 + τ 523 (τ 526 x + τ 486 a - τ 477 (8 * τ 467 11 + τ 523 x)))) ∧ (τ 474 (8 * τ 467 11 + τ 523 (τ 526 x + τ 486 a - τ 477 (8 * τ 467 11 + τ 523 x)))) ≤ 8) ∧ 0 ≤ τ 473 (8 * τ 467 11 + τ 523 (τ 526 x + τ 486 a - τ 477 (8 * τ 467 11 + τ 523 x))) ∧ τ 473 (8 * τ 467 11 + τ 523 (τ 526 x + τ 486 a - τ 477 (8 * τ 467 11 + τ 523 x))) ≤ 8) (ff : (0 ≤ τ 475 (8 * τ 467 11 + τ 523 (τ 526 x + τ 486 a - τ 477 (8 * τ 467 11 + τ 523 x))) ∧ τ 475 (8 * τ 467 11 + τ 523 (τ 526 x + τ 486 a - τ 477 (8 * τ 467 11 + τ 523 x))) ≤ 60) ∧ 0 ≤ τ 476 (8 * τ 467 11 + τ 523 (τ 526 x + τ 486 a - τ 477 (8 * τ 467 11 + τ 523 x))) ∧ τ 476 (8 * τ 467 11 + τ 523 (τ 526 x + τ 486 a - τ 477 (8 * τ 467 11 + τ 523 x))) ≤ 60) (rv : 0 ≤ τ 467 110 ∧ τ 467 110 ≤ 1000) (ll : 120 ≤ τ 467 109 ∧ τ 467 109 + (τ 474 (8 * τ 467 11 + τ 523 (τ 526 x + τ 486 a - τ 477 (8 * τ 467 11 + τ 523 x)))) < 520) (hs : ¬ τ 531 (τ 526 x + τ 486 a - τ 477 (8 * τ 467 11 + τ 523 x)) = 0) :
    ∃ τ' : Nat → Int → Int, rTo τ τ' ∧ rTop τ' (K + 1) (τ 526 x + τ 486 a - τ 477 (8 * τ 467 11 + τ 523 x)) (60 * τ 467 11 + τ 475 (8 * τ 467 11 + τ 523 (τ 526 x + τ 486 a - τ 477 (8 * τ 467 11 + τ 523 x)))) (60 * τ 467 11 + τ 475 (8 * τ 467 11 + τ 523 (τ 526 x + τ 486 a - τ 477 (8 * τ 467 11 + τ 523 x))) + τ 476 (8 * τ 467 11 + τ 523 (τ 526 x + τ 486 a - τ 477 (8 * τ 467 11 + τ 523 x)))) (τ 467 110) (deep + lv) 0 ∧ (τ' 535 K = x ∧ τ' 536 K = a + 1 ∧ τ' 537 K = E ∧ τ' 538 K = base ∧ τ' 539 K = deep ∧ τ' 541 K = deep ∧ τ' 540 (K + 1) = a) ∧ rPr τ τ' K (deep + lv) (τ 467 109) ∧ (τ' 467 109 = τ 467 109 + (τ 474 (8 * τ 467 11 + τ 523 (τ 526 x + τ 486 a - τ 477 (8 * τ 467 11 + τ 523 x)))) ∧ τ' 467 110 = τ 467 110 + (τ 474 (8 * τ 467 11 + τ 523 (τ 526 x + τ 486 a - τ 477 (8 * τ 467 11 + τ 523 x))))) ∧
      (τ' 480 = zfr (τ 480) (τ 467 109) (τ 474 (8 * τ 467 11 + τ 523 (τ 526 x + τ 486 a - τ 477 (8 * τ 467 11 + τ 523 x)))) (fun _ => 0) ∧ τ' 481 = zfr (τ 481) (τ 467 109) (τ 474 (8 * τ 467 11 + τ 523 (τ 526 x + τ 486 a - τ 477 (8 * τ 467 11 + τ 523 x)))) (fun xv => τ 467 110 + xv) ∧ τ' 482 = zfr (τ 482) (τ 467 109) (τ 474 (8 * τ 467 11 + τ 523 (τ 526 x + τ 486 a - τ 477 (8 * τ 467 11 + τ 523 x)))) (fun xv => if xv < τ 473 (8 * τ 467 11 + τ 523 (τ 526 x + τ 486 a - τ 477 (8 * τ 467 11 + τ 523 x))) then shf (opx (τ 482 a) (τ 483 a) (τ 484 a) xv) base else 0) ∧ τ' 483 = zfr (τ 483) (τ 467 109) (τ 474 (8 * τ 467 11 + τ 523 (τ 526 x + τ 486 a - τ 477 (8 * τ 467 11 + τ 523 x)))) (fun _ => -2) ∧ τ' 484 = zfr (τ 484) (τ 467 109) (τ 474 (8 * τ 467 11 + τ 523 (τ 526 x + τ 486 a - τ 477 (8 * τ 467 11 + τ 523 x)))) (fun _ => -2) ∧ τ' 486 = zfr (τ 486) (τ 467 109) (τ 474 (8 * τ 467 11 + τ 523 (τ 526 x + τ 486 a - τ 477 (8 * τ 467 11 + τ 523 x)))) (fun _ => -2) ∧ τ' 487 = zfr (τ 487) (τ 467 109) (τ 474 (8 * τ 467 11 + τ 523 (τ 526 x + τ 486 a - τ 477 (8 * τ 467 11 + τ 523 x)))) (fun _ => deep + lv) ∧ τ' 491 = zfr (τ 491) (τ 467 109) (τ 474 (8 * τ 467 11 + τ 523 (τ 526 x + τ 486 a - τ 477 (8 * τ 467 11 + τ 523 x)))) (fun _ => 0)) ∧
      (τ' 485 = zfr (τ 485) (τ 467 109) (τ 474 (8 * τ 467 11 + τ 523 (τ 526 x + τ 486 a - τ 477 (8 * τ 467 11 + τ 523 x)))) (fun _ => -2) ∧ τ' 488 = zfr (τ 488) (τ 467 109) (τ 474 (8 * τ 467 11 + τ 523 (τ 526 x + τ 486 a - τ 477 (8 * τ 467 11 + τ 523 x)))) (fun _ => 0) ∧ τ' 489 = zfr (τ 489) (τ 467 109) (τ 474 (8 * τ 467 11 + τ 523 (τ 526 x + τ 486 a - τ 477 (8 * τ 467 11 + τ 523 x)))) (fun _ => 0)) ∧ (τ' 545 = τ 545 ∧ τ' 467 111 = τ 467 111) ∧ rOp τ τ' := by
  have B := rTop_b h k0 k1 d0
  obtain ⟨h1, h2, h3, h4, h5, h6, h7, h8⟩ := id h
  subst h1 h2 h3 h4 h5 h6
  have nb1 : τ 467 108 ≤ τ 541 (τ 467 107 - 1) ∨ ¬ τ 536 (τ 467 107 - 1) = τ 544 (τ 467 108 - 1) := by
    rcases nb with z | z
    · left; omega
    · right; rw [h8]; exact z
  have nb2 : τ 467 108 ≤ τ 541 (τ 467 107 - 1) ∨ 1 ≤ τ 467 108 := by omega
  refine ⟨_, fun A P d f Q q x2 => R_op_r (d := d) f B.1 B.2.1 B.2.2 nb1 nb2 al ⟨bs, by omega, by omega⟩ op en bk xx fx cf cc k6 fc vp ff rv ll hs (fun x2' => q x2'), ?_, ?_, ?_, ⟨rfl, rfl⟩, ⟨rfl, rfl, rfl, rfl, rfl, rfl, ?_, rfl⟩, ⟨rfl, rfl, rfl⟩, ⟨rfl, rfl⟩, rfl, rfl, rfl, rfl⟩
  · have n1 : τ 467 107 - 1 + 1 = τ 467 107 := by omega
    rw [n1]
    refine ⟨by show τ 467 107 = τ 467 107 + 1 - 1; omega, (zs_pos rfl).symm, (zs_pos rfl).symm, (zs_pos rfl).symm, (zs_pos rfl).symm, ?_, ?_, ?_⟩
    · rw [← dl]; exact (zs_pos rfl).symm
    · refine (zs_pos rfl).trans ?_
      rw [← h8]
    · show τ 467 108 = _; rw [h8]; omega
  · have n1 : τ 467 107 - 1 + 1 = τ 467 107 := by omega
    rw [n1]
    exact ⟨zs_neg (by omega), (zs_neg (by omega)).trans (zs_pos rfl), zs_neg (by omega), zs_neg (by omega), zs_neg (by omega), (zs_neg (by omega)).trans h7, zs_pos rfl⟩
  · refine ⟨(fun c hc => by repeat (first | rw [zr_ne (fun z => by subst z; exact absurd hc (by decide))] | rw [zu_ne (fun z => by subst z; exact absurd hc (by decide))])), (fun k hk => by first | rfl | ((repeat (rw [zup_f (by omega)])); try rfl)), fun c j q1 q2 q3 => ?_, (fun c j q1 q2 q3 => by
      rcases c7 q1 q2 with e | e | e | e | e | e | e <;> subst e
      · exact zs_neg (by omega)
      · exact (zs_neg (by omega)).trans (zs_neg (by omega))
      · exact zs_neg (by omega)
      · exact zs_neg (by omega)
      · exact zs_neg (by omega)
      · exact zs_neg (by omega)
      · exact zs_neg (by omega)), (fun j hj => zs_neg (by omega)), (fun c j q1 q2 => by
      rcases q1 with e | e | e | e <;> subst e
      · exact rfl
      · exact rfl
      · exact rfl
      · exact rfl)⟩
    rcases c12 q1 q2 with e | e | e | e | e | e | e | e | e | e | e | e <;> subst e
    all_goals ((repeat (first | rw [zup_n (by omega)] | rw [zrow_n (by omega)])); rw [zrow_y]; exact zfr_out (Or.inl q3))
  · rw [← dl]; rfl
theorem r_n0 {τ : Nat → Int → Int} {x a E base deep : Int} (h : rTop τ 0 x a E base deep 0) (d0 : 0 ≤ deep ∧ deep ≤ 300) (en : a = E) : ∃ τ' : Nat → Int → Int, rTo τ τ' ∧ τ' 467 107 = 0 ∧ (∀ c : Nat, ¬ c = 467 → τ' c = τ c) ∧ ∀ k : Int, ¬ k = 107 → τ' 467 k = τ 467 k := by
  have B := rTop_b h (by omega) (by omega) (by omega)
  obtain ⟨h1, h2, h3, h4, h5, h6, h7, h8⟩ := id h
  have n1 : τ 467 107 = 1 := by omega
  have n0 : τ 467 107 - 1 = 0 := by omega
  refine ⟨_, fun A P d f Q q x2 => R_n0_r (d := d) f B.1 B.2.1 B.2.2 (by left; rw [n0]; omega) (by left; rw [n0]; omega) (by rw [n0, ← h3, ← h4]; exact en) n1 (fun x2' => q x2'), n0, fun c hc => zu_ne hc, fun k hk => zup_f hk⟩
