/-! Both readers together: rh -/
/-- as the reference's memory will be once the function's own block is begun -/
def hat (τ : Nat → Int → Int) : Nat → Int → Int := zrow (zup τ 467 47 1) 501 (zs (τ 501) 0 (-1))
/-- a function that is read, alike on both sides -/
def FdP (p : Nat) (b : Int) (M τ : Nat → Int → Int) (g : Int) : Prop :=
  ((0 < M (p + 1) g ∧ M (p + 1) g < 1073741824) ∧ M (p + 2) g = nlet (M (p + 1) g) ∧ τ 472 (8 * b + g) = M (p + 1) g) ∧
  ((0 ≤ M (p + 3) g ∧ M (p + 3) g ≤ 3 ∧ M (p + 3) g ≤ M (p + 4) g ∧ M (p + 4) g ≤ 8) ∧ τ 473 (8 * b + g) = M (p + 3) g ∧ τ 474 (8 * b + g) = M (p + 4) g) ∧
  ((0 ≤ M (p + 5) g ∧ 0 ≤ M (p + 6) g ∧ M (p + 5) g + M (p + 6) g ≤ M (p + 15) 13) ∧ τ 475 (8 * b + g) = M (p + 5) g ∧ τ 476 (8 * b + g) = M (p + 6) g) ∧
  ((0 ≤ M (p + 7) g ∧ 0 ≤ M (p + 8) g ∧ M (p + 7) g + M (p + 8) g ≤ M p 1) ∧ τ 477 (8 * b + g) = M (p + 7) g ∧ τ 478 (8 * b + g) = M (p + 8) g) ∧
  ((τ 479 (8 * b + g) = 0 ∨ τ 479 (8 * b + g) = 1) ∧ M (p + 10) g = M (p + 6) g - τ 479 (8 * b + g) + M (p + 4) g ∧ (τ 479 (8 * b + g) = 0 → M (p + 9) g = -2) ∧ (τ 479 (8 * b + g) = 1 → 0 < M (p + 6) g ∧ M (p + 16) (M (p + 5) g + M (p + 6) g - 1) = 9 ∧ M (p + 9) g = M (p + 18) (M (p + 5) g + M (p + 6) g - 1) ∧ ¬ M (p + 18) (M (p + 5) g + M (p + 6) g - 1) = -2)) ∧
  (∀ l : Int, M (p + 5) g ≤ l → l < M (p + 5) g + M (p + 6) g → lk (M (p + 4) g) (M (p + 16)) (M (p + 17)) (M (p + 18)) (M (p + 19)) (M (p + 20)) (M (p + 21)) (M 98) l ∧ fx (τ 479 (8 * b + g)) (M (p + 5) g + M (p + 6) g) (M (p + 16)) (M (p + 24)) (M (p + 22)) (τ 488) (τ 489) (60 * b) l) ∧
  yE (M (p + 22)) (M (p + 23)) (τ 488) (τ 489) (60 * b) 0 0 (60 * b + M (p + 5) g) (60 * b + (M (p + 5) g + M (p + 6) g)) ∧
  M (p + 7) g = cn6 (M (p + 16)) (M (p + 5) g).toNat
/-- both readers between two functions -/
def PR (p : Nat) (b : Int) (M τ : Nat → Int → Int) : Prop :=
  gTK (M 17) (M 92) (M 93) (M 94) (M 91 3) (M 91 4) (τ 468) (τ 467 3) (τ 467 2) (τ 467 5) (τ 467 6) (τ 467 7) (τ 467 8) (τ 467 9) (τ 467 10) ∧
  ((0 ≤ b ∧ b ≤ 1) ∧ τ 467 11 = b ∧ (τ 469 b = M p 0 ∧ 0 ≤ M p 0 ∧ M p 0 ≤ 8) ∧ (τ 470 b = M (p + 15) 13 ∧ 0 ≤ M (p + 15) 13 ∧ M (p + 15) 13 ≤ 60) ∧ (τ 471 b = M p 1 ∧ 0 ≤ M p 1 ∧ M p 1 ≤ 16)) ∧
  gLI (M (p + 15) 13) (60 * b) (M (p + 16)) (M (p + 17)) (M (p + 18)) (M (p + 19)) (M (p + 20)) (M (p + 21)) (M (p + 22)) (M (p + 24)) (τ 480) (τ 481) (τ 482) (τ 483) (τ 484) (τ 485) (τ 486) (τ 487) (τ 491) ∧
  cL (M (p + 22)) (M (p + 23)) (M (p + 25)) (M (p + 26)) (M (p + 27)) (M (p + 28)) (M (p + 15) 13) ∧
  gSI (M (p + 16)) (M (p + 21)) (M (p + 22)) (M (p + 27)) (M (p + 15) 13) (M p 1) (M p 0) (60 * b) (16 * b) (M (p + 7)) (M (p + 11)) (M (p + 13)) (M (p + 14)) (M 96) (M 97) (M 98) (τ 492) (τ 493) (τ 494) (τ 495) (τ 496) (τ 497) (τ 498) (τ 499) ∧
  (∀ g : Int, 0 ≤ g → g < M p 0 → FdP p b M τ g) ∧
  (∀ g h : Int, 0 ≤ g → g < h → h < M p 0 → ¬ M (p + 1) g = M (p + 1) h) ∧
  ((∀ g : Int, 0 ≤ g → g + 1 < M p 0 → M (p + 5) (g + 1) = M (p + 5) g + M (p + 6) g ∧ M (p + 7) (g + 1) = M (p + 7) g + M (p + 8) g) ∧ (0 < M p 0 → M (p + 5) 0 = 0 ∧ M (p + 7) 0 = 0 ∧ M (p + 5) (M p 0 - 1) + M (p + 6) (M p 0 - 1) = M (p + 15) 13 ∧ M (p + 7) (M p 0 - 1) + M (p + 8) (M p 0 - 1) = M p 1) ∧ (M p 0 = 0 → M (p + 15) 13 = 0 ∧ M p 1 = 0))
/-- the class's memory but for one function, lines from F on and sites from S on -/
def frF (p : Nat) (F S g : Int) (M M' : Nat → Int → Int) : Prop :=
  (∀ c : Nat, ¬ (p ≤ c ∧ c ≤ p + 28) → ¬ (91 ≤ c ∧ c ≤ 100) → M' c = M c) ∧ (M' 91 3 = M 91 3 ∧ M' 92 = M 92 ∧ M' 93 = M 93 ∧ M' 94 = M 94) ∧
  (∀ (c : Nat) (l : Int), p + 16 ≤ c → c ≤ p + 27 → ¬ c = p + 25 → ¬ c = p + 26 → l < F → M' c l = M c l) ∧
  (∀ (c : Nat) (x : Int), (p + 11 ≤ c ∧ c ≤ p + 14) ∨ (96 ≤ c ∧ c ≤ 98) → x < S → M' c x = M c x) ∧
  ∀ (c : Nat) (h : Int), p + 1 ≤ c → c ≤ p + 10 → ¬ h = g → M' c h = M c h
theorem frF_of {p : Nat} {F S g : Int} {M M' : Nat → Int → Int} (h : frC p F S g M M') : frF p F S g M M' := ⟨h.1, ⟨h.2.1.1, h.2.1.2.1, h.2.1.2.2.1, h.2.1.2.2.2.1⟩, h.2.2.1, h.2.2.2.1, fun c x a d e => h.2.2.2.2 c x a d (fun _ => e)⟩
theorem frF_tr {p : Nat} {F S g : Int} {M M' M'' : Nat → Int → Int} (h : frF p F S g M M') (k : frF p F S g M' M'') : frF p F S g M M'' := ⟨fun c a d => (k.1 c a d).trans (h.1 c a d), ⟨k.2.1.1.trans h.2.1.1, k.2.1.2.1.trans h.2.1.2.1, k.2.1.2.2.1.trans h.2.1.2.2.1, k.2.1.2.2.2.trans h.2.1.2.2.2⟩, fun c l a b d e f => (k.2.2.1 c l a b d e f).trans (h.2.2.1 c l a b d e f), fun c x a b => (k.2.2.2.1 c x a b).trans (h.2.2.2.1 c x a b), fun c y a b d => (k.2.2.2.2 c y a b d).trans (h.2.2.2.2 c y a b d)⟩
theorem FdP_cg {p : Nat} {b F S g now nl ns : Int} {M M' τ τ' : Nat → Int → Int} (hp : p + 28 < 91) (fm : frF p F S now M M') (ft : frX b F S now τ τ') (hg : 0 ≤ g ∧ g < 8) (hn : ¬ g = now) (hF : M (p + 5) g + M (p + 6) g ≤ F) (hF6 : F ≤ 60) (hS : M (p + 7) g + M (p + 8) g ≤ S) (hl : F ≤ M' (p + 15) 13) (hs : S ≤ M' p 1) (hsi : ∀ l : Int, 0 ≤ l → l < F → M (p + 16) l = 6 → M (p + 21) l < S) (h : FdP p b M τ g) : FdP p b M' τ' g := by
  have e : ∀ c : Nat, p + 1 ≤ c → c ≤ p + 10 → M' c g = M c g := fun c a d => fm.2.2.2.2 c g a d hn
  have t : ∀ c : Nat, 472 ≤ c → c ≤ 479 → τ' c (8 * b + g) = τ c (8 * b + g) := fun c a d => ft.2.2.2.1 c _ a d (by omega)
  have ll : ∀ (c : Nat) (l : Int), p + 16 ≤ c → c ≤ p + 24 → l < F → M' c l = M c l := fun c l a d q => fm.2.2.1 c l a (by omega) (by omega) (by omega) q
  obtain ⟨⟨a1, a2, a3⟩, ⟨b1, b2, b3⟩, ⟨c1, c2, c3⟩, ⟨d1, d2, d3⟩, ⟨e1, e2, e3, e4⟩, f1, f2, f3⟩ := h
  unfold FdP
  rw [e (p + 1) (by omega) (by omega), e (p + 2) (by omega) (by omega), e (p + 3) (by omega) (by omega), e (p + 4) (by omega) (by omega), e (p + 5) (by omega) (by omega), e (p + 6) (by omega) (by omega), e (p + 7) (by omega) (by omega), e (p + 8) (by omega) (by omega), e (p + 9) (by omega) (by omega), e (p + 10) (by omega) (by omega), t 472 (by decide) (by decide), t 473 (by decide) (by decide), t 474 (by decide) (by decide), t 475 (by decide) (by decide), t 476 (by decide) (by decide), t 477 (by decide) (by decide), t 478 (by decide) (by decide), t 479 (by decide) (by decide)]
  refine ⟨⟨a1, a2, a3⟩, ⟨b1, b2, b3⟩, ⟨⟨c1.1, c1.2.1, by omega⟩, c2, c3⟩, ⟨⟨d1.1, d1.2.1, by omega⟩, d2, d3⟩, ⟨e1, e2, e3, fun q => ?_⟩, fun l l0 l1 => ?_, ?_, ?_⟩
  · have z := e4 q
    rw [ll (p + 16) _ (by omega) (by omega) (by omega), ll (p + 18) _ (by omega) (by omega) (by omega)]
    exact z
  · obtain ⟨z1, z2⟩ := f1 l l0 l1
    refine ⟨lk_cg z1 ⟨ll _ _ (by omega) (by omega) (by omega), ll _ _ (by omega) (by omega) (by omega), ll _ _ (by omega) (by omega) (by omega), ll _ _ (by omega) (by omega) (by omega), ll _ _ (by omega) (by omega) (by omega), ll _ _ (by omega) (by omega) (by omega)⟩ (fun q => ?_), ?_⟩
    · exact fm.2.2.2.1 98 _ (Or.inr ⟨by decide, by decide⟩) (hsi l (by omega) (by omega) q)
    · unfold fx at z2 ⊢
      rw [ll (p + 24) l (by omega) (by omega) (by omega), ll (p + 16) l (by omega) (by omega) (by omega), ll (p + 22) l (by omega) (by omega) (by omega), ft.2.2.2.2.1 488 (60 * b + l) (by decide) (by decide) (by omega), ft.2.2.2.2.1 489 (60 * b + l) (by decide) (by decide) (by omega)]
      exact z2
  · exact yE_cg f2 (fun r r0 r1 => ⟨⟨ll _ _ (by omega) (by omega) (by omega), ll _ _ (by omega) (by omega) (by omega)⟩, ft.2.2.2.2.1 488 r (by decide) (by decide) (by omega), ft.2.2.2.2.1 489 r (by decide) (by decide) (by omega)⟩)
  · rw [f3]; exact (cn6_cg _ (fun l a d => ll (p + 16) l (by omega) (by omega) (by omega))).symm
theorem gvn_1 {x : Int} (h : ¬ x = -2) : gvn x = 1 := if_neg h
theorem gvn_0 {x : Int} (h : x = -2) : gvn x = 0 := if_pos h
theorem PRend_33 {b now g : Int} {M0 M2 τ0 τ2 : Nat → Int → Int} (h0 : PR 33 b M0 τ0) (hnow : now = M0 33 0) (h : (RL b now (M2 17) (M2 91 3) (M2 92) (M2 93) (M2 94) (M2 91 4 + 1) (M2 91 9) (M2 95) (M2 33 0) (M2 33 1) (M2 48 13) (M2 91 14) (M2 99) (M2 100) (M2 96) (M2 97) (M2 98) (M2 44) (M2 46) (M2 47) (M2 34) (M2 35) (M2 36) (M2 38) (M2 40) (M2 42) (M2 49) (M2 50) (M2 51) (M2 52) (M2 53) (M2 54) (M2 55) (M2 56) (M2 57) (M2 58) (M2 59) (M2 60) (M2 61) g g (M2 48 13) (zup τ2 467 47 1))) (hF : M2 38 now = M0 48 13) (hS : M2 40 now = M0 33 1) (fm : frF 33 (M0 48 13) (M0 33 1) now M0 M2) (ft : frX b (M0 48 13) (M0 33 1) now τ0 τ2) (hg : g = 1 → M2 38 now < M2 48 13 ∧ M2 49 (M2 48 13 - 1) = 9 ∧ M2 42 now = M2 51 (M2 48 13 - 1) ∧ ¬ M2 51 (M2 48 13 - 1) = -2) (hd : M2 91 14 = 0) (hnm : ∀ k : Int, 0 ≤ k → k < now → ¬ M0 34 k = M2 34 now) : PR 33 b (zup (zrow (zrow (zrow (zrow M2 37 (zs (M2 37) (M2 33 0 - 1) (M2 91 9))) 39 (zs (M2 39) (M2 33 0 - 1) (M2 48 13 - M2 38 (M2 33 0 - 1)))) 41 (zs (M2 41) (M2 33 0 - 1) (M2 33 1 - M2 40 (M2 33 0 - 1)))) 43 (zs (M2 43) (M2 33 0 - 1) (M2 48 13 - M2 38 (M2 33 0 - 1) - gvn (M2 42 (M2 33 0 - 1)) + M2 91 9))) 91 4 (M2 91 4 + 1)) τ2 := by
  obtain ⟨hT, hC, hV, hI, hSt, hB, hFa, hX, hZ, hN⟩ := h
  obtain ⟨⟨c11, c12⟩, ⟨d1, du⟩, ⟨d2, d2b⟩, ⟨d3, d3b⟩, ⟨d4, d4b⟩, ⟨d5, dv, dw, dx⟩, ⟨d6, d6b, d6c, d6d⟩, ⟨d7, d7b, d7c, d7d⟩, ⟨d8, d8b, d8c, d8d⟩, d9, d9b, d9c⟩ := hC
  have c11 : τ2 467 11 = b := c11
  have d2b : τ2 469 b = M2 33 0 := d2b
  have d3 : τ2 470 b = M2 48 13 := d3
  have d4 : τ2 471 b = M2 33 1 := d4
  have d5 : τ2 475 (8 * b + now) = M2 38 now := d5
  have dx : τ2 476 (8 * b + now) = M2 48 13 - M2 38 now := dx
  have d6 : τ2 477 (8 * b + now) = M2 40 now := d6
  have d6d : τ2 478 (8 * b + now) = M2 33 1 - M2 40 now := d6d
  have d7 : τ2 473 (8 * b + now) = M2 36 now := d7
  have d8 : τ2 472 (8 * b + now) = M2 34 now := d8
  have d9 : τ2 479 (8 * b + now) = g := d9
  have hV1 : (0 ≤ M2 91 9 ∧ M2 91 9 ≤ 8) ∧ τ2 474 (8 * b + now) = M2 91 9 := ⟨hV.1, hV.2.1⟩
  obtain ⟨p1, p2, p3, p4, p5, p6, p7, ⟨p8, p8b, p8c⟩⟩ := h0
  obtain ⟨q1, q2, q3, q4, q5⟩ := p2
  have en : M2 33 0 - 1 = now := by omega
  have gv : gvn (M2 42 now) = g := by
    rcases d9b with z | z
    · rw [z]; exact gvn_0 (d9c z)
    · rw [z, (hg z).2.2.1]; exact gvn_1 (hg z).2.2.2
  rw [en, hF, hS, gv]
  have hF' := hF
  have hS' := hS
  have zp : ∀ (r : Int → Int) (x : Int), zs r now x now = x := fun r x => zs_pos rfl
  have zn : ∀ (r : Int → Int) (x k : Int), ¬ k = now → zs r now x k = r k := fun r x k e => zs_neg e
  have fE : frF 33 (M0 48 13) (M0 33 1) now M0 (zup (zrow (zrow (zrow (zrow M2 37 (zs (M2 37) now (M2 91 9))) 39 (zs (M2 39) now (M2 48 13 - M0 48 13))) 41 (zs (M2 41) now (M2 33 1 - M0 33 1))) 43 (zs (M2 43) now (M2 48 13 - M0 48 13 - g + M2 91 9))) 91 4 (M2 91 4 + 1)) := by
    refine frF_tr fm ⟨fun c a d => ?_, ⟨rfl, rfl, rfl, rfl⟩, fun c l a d e f q => ?_, fun c x a q => ?_, fun c k a d q => ?_⟩
    · funext k
      unfold zup zrow
      rw [if_neg (by omega), if_neg (by omega), if_neg (by omega), if_neg (by omega), if_neg (by omega)]
    · unfold zup zrow
      rw [if_neg (by omega), if_neg (by omega), if_neg (by omega), if_neg (by omega), if_neg (by omega)]
    · unfold zup zrow
      rw [if_neg (by omega), if_neg (by omega), if_neg (by omega), if_neg (by omega), if_neg (by omega)]
    · unfold zup zrow
      rw [if_neg (by omega)]
      by_cases c1 : c = 43
      · rw [if_pos c1, zn _ _ _ q, c1]
      · rw [if_neg c1]
        by_cases c2 : c = 41
        · rw [if_pos c2, zn _ _ _ q, c2]
        · rw [if_neg c2]
          by_cases c3 : c = 39
          · rw [if_pos c3, zn _ _ _ q, c3]
          · rw [if_neg c3]
            by_cases c4 : c = 37
            · rw [if_pos c4, zn _ _ _ q, c4]
            · rw [if_neg c4]
  have mono : ∀ (n : Nat) (k : Int), 0 ≤ k → k + n + 1 = M0 33 0 → M0 38 k + M0 39 k ≤ M0 48 13 ∧ M0 40 k + M0 41 k ≤ M0 33 1 := fun n k k0 k1 => ⟨(p6 k k0 (by omega)).2.2.1.1.2.2, (p6 k k0 (by omega)).2.2.2.1.1.2.2⟩
  refine ⟨hT, ⟨⟨d1.1, d1.2⟩, c11, ⟨d2b, by show 0 ≤ M2 33 0; omega, by show M2 33 0 ≤ 8; omega⟩, ⟨d3, d3b⟩, ⟨d4, d4b⟩⟩, hI, hB.1, hN, fun k k0 k1 => ?_, fun k l k0 k1 l1 => ?_, ⟨fun k k0 k1 => ?_, fun _ => ?_, fun z => ?_⟩⟩
  · have k1 : k < M2 33 0 := k1
    by_cases e : k = now
    · subst e
      refine ⟨⟨⟨d8b, d8c⟩, d8d, d8⟩, ⟨⟨d7b, d7c, ?_, ?_⟩, d7, ?_⟩, ⟨⟨dv, ?_, ?_⟩, d5, ?_⟩, ⟨⟨d6b, ?_, ?_⟩, d6, ?_⟩, ⟨?_, ?_, ?_, ?_⟩, ?_, ?_, ?_⟩
      · show M2 36 k ≤ zs _ k (M2 91 9) k
        rw [zp]; exact d7d
      · show zs _ k (M2 91 9) k ≤ 8
        rw [zp]; exact hV1.1.2
      · show τ2 474 (8 * b + k) = zs _ k (M2 91 9) k
        rw [zp]; exact hV1.2
      · show 0 ≤ zs _ k _ k
        rw [zp]; omega
      · show M2 38 k + zs _ k _ k ≤ M2 48 13
        rw [zp]; omega
      · show τ2 476 (8 * b + k) = zs _ k _ k
        rw [zp, dx]; omega
      · show 0 ≤ zs _ k _ k
        rw [zp]; omega
      · show M2 40 k + zs _ k _ k ≤ M2 33 1
        rw [zp]; omega
      · show τ2 478 (8 * b + k) = zs _ k _ k
        rw [zp, d6d]; omega
      · rw [d9]; exact d9b
      · show zs _ k _ k = zs _ k _ k - τ2 479 (8 * b + k) + zs _ k _ k
        rw [zp, zp, zp, d9]
      · rw [d9]; exact d9c
      · rw [d9]
        intro z
        have y := hg z
        show 0 < zs _ k _ k ∧ M2 49 (M2 38 k + zs _ k _ k - 1) = 9 ∧ M2 42 k = M2 51 (M2 38 k + zs _ k _ k - 1) ∧ ¬ M2 51 (M2 38 k + zs _ k _ k - 1) = -2
        rw [zp, show M2 38 k + (M2 48 13 - M0 48 13) - 1 = M2 48 13 - 1 by omega]
        exact ⟨by omega, y.2⟩
      · intro l l0 l1
        have l0 : M2 38 k ≤ l := l0
        have l1 : l < M2 38 k + zs _ k _ k := l1
        rw [zp] at l1
        show lk (zs _ k _ k) _ _ _ _ _ _ _ l ∧ fx (τ2 479 (8 * b + k)) (M2 38 k + zs _ k _ k) _ _ _ _ _ _ l
        rw [zp, zp, d9, show M2 38 k + (M2 48 13 - M0 48 13) = M2 48 13 by omega]
        exact ⟨hFa.2 l l0 (by omega), hX l l0 (by omega)⟩
      · show yE _ _ _ _ _ 0 0 (60 * b + M2 38 k) (60 * b + (M2 38 k + zs _ k _ k))
        rw [zp, show M2 38 k + (M2 48 13 - M0 48 13) = M2 48 13 by omega]
        rw [hd] at hSt
        exact gST_end hSt
      · show M2 40 k = cn6 (M2 49) (M2 38 k).toNat
        rw [hF, hS, show M0 33 1 = cn6 (M0 49) (M0 48 13).toNat from p5.1]
        exact (cn6_cg _ (fun l a d => fm.2.2.1 49 l (by decide) (by decide) (by decide) (by decide) (by omega))).symm
    · have kn : k < M0 33 0 := by omega
      have m := mono (M0 33 0 - k - 1).toNat k k0 (by omega)
      refine FdP_cg (M := M0) (τ := τ0) (F := M0 48 13) (S := M0 33 1) (now := now) (nl := 0) (ns := 0) (by decide) fE ft ⟨k0, by omega⟩ e m.1 q4.2.2 m.2 ?_ ?_ (fun l l0 l1 q => ?_) (p6 k k0 kn)
      · show M0 48 13 ≤ M2 48 13
        omega
      · show M0 33 1 ≤ M2 33 1
        omega
      · exact ((p5.2.1 l l0 l1).1 q).2.2
  · have l1 : l < M2 33 0 := l1
    show ¬ M2 34 k = M2 34 l
    have ek : M2 34 k = M0 34 k := fm.2.2.2.2 34 k (by decide) (by decide) (by omega)
    rw [ek]
    by_cases e : l = now
    · rw [e]; exact hnm k k0 (by omega)
    · rw [show M2 34 l = M0 34 l from fm.2.2.2.2 34 l (by decide) (by decide) e]
      exact p7 k l k0 k1 (by omega)
  · have k1 : k + 1 < M2 33 0 := k1
    have r5 : ∀ j : Int, ¬ j = now → M2 38 j = M0 38 j := fun j e => fm.2.2.2.2 38 j (by decide) (by decide) e
    have r6 : ∀ j : Int, ¬ j = now → M2 39 j = M0 39 j := fun j e => fm.2.2.2.2 39 j (by decide) (by decide) e
    have r7 : ∀ j : Int, ¬ j = now → M2 40 j = M0 40 j := fun j e => fm.2.2.2.2 40 j (by decide) (by decide) e
    have r8 : ∀ j : Int, ¬ j = now → M2 41 j = M0 41 j := fun j e => fm.2.2.2.2 41 j (by decide) (by decide) e
    show M2 38 (k + 1) = M2 38 k + zs (M2 39) now _ k ∧ M2 40 (k + 1) = M2 40 k + zs (M2 41) now _ k
    rw [zn _ _ _ (by omega), zn _ _ _ (by omega), r5 k (by omega), r6 k (by omega), r7 k (by omega), r8 k (by omega)]
    by_cases e : k + 1 = now
    · have z := p8b (by omega)
      rw [e, hF', hS', show k = M0 33 0 - 1 by omega]
      exact ⟨z.2.2.1.symm, z.2.2.2.symm⟩
    · rw [r5 (k + 1) e, r7 (k + 1) e]
      exact p8 k k0 (by omega)
  · show M2 38 0 = 0 ∧ M2 40 0 = 0 ∧ M2 38 (M2 33 0 - 1) + zs (M2 39) now _ (M2 33 0 - 1) = M2 48 13 ∧ M2 40 (M2 33 0 - 1) + zs (M2 41) now _ (M2 33 0 - 1) = M2 33 1
    rw [en, zp, zp, hF', hS']
    refine ⟨?_, ?_, by omega, by omega⟩
    · by_cases e : (0 : Int) = now
      · rw [← e] at hF'; rw [hF']; exact (p8c (by omega)).1
      · rw [fm.2.2.2.2 38 0 (by decide) (by decide) e]; exact (p8b (by omega)).1
    · by_cases e : (0 : Int) = now
      · rw [← e] at hS'; rw [hS']; exact (p8c (by omega)).2
      · rw [fm.2.2.2.2 40 0 (by decide) (by decide) e]; exact (p8b (by omega)).2.1
  · have z : M2 33 0 = 0 := z
    omega

theorem PRend_62 {b now g : Int} {M0 M2 τ0 τ2 : Nat → Int → Int} (h0 : PR 62 b M0 τ0) (hnow : now = M0 62 0) (h : (RL b now (M2 17) (M2 91 3) (M2 92) (M2 93) (M2 94) (M2 91 4 + 1) (M2 91 9) (M2 95) (M2 62 0) (M2 62 1) (M2 77 13) (M2 91 14) (M2 99) (M2 100) (M2 96) (M2 97) (M2 98) (M2 73) (M2 75) (M2 76) (M2 63) (M2 64) (M2 65) (M2 67) (M2 69) (M2 71) (M2 78) (M2 79) (M2 80) (M2 81) (M2 82) (M2 83) (M2 84) (M2 85) (M2 86) (M2 87) (M2 88) (M2 89) (M2 90) g g (M2 77 13) (zup τ2 467 47 1))) (hF : M2 67 now = M0 77 13) (hS : M2 69 now = M0 62 1) (fm : frF 62 (M0 77 13) (M0 62 1) now M0 M2) (ft : frX b (M0 77 13) (M0 62 1) now τ0 τ2) (hg : g = 1 → M2 67 now < M2 77 13 ∧ M2 78 (M2 77 13 - 1) = 9 ∧ M2 71 now = M2 80 (M2 77 13 - 1) ∧ ¬ M2 80 (M2 77 13 - 1) = -2) (hd : M2 91 14 = 0) (hnm : ∀ k : Int, 0 ≤ k → k < now → ¬ M0 63 k = M2 63 now) : PR 62 b (zup (zrow (zrow (zrow (zrow M2 66 (zs (M2 66) (M2 62 0 - 1) (M2 91 9))) 68 (zs (M2 68) (M2 62 0 - 1) (M2 77 13 - M2 67 (M2 62 0 - 1)))) 70 (zs (M2 70) (M2 62 0 - 1) (M2 62 1 - M2 69 (M2 62 0 - 1)))) 72 (zs (M2 72) (M2 62 0 - 1) (M2 77 13 - M2 67 (M2 62 0 - 1) - gvn (M2 71 (M2 62 0 - 1)) + M2 91 9))) 91 4 (M2 91 4 + 1)) τ2 := by
  obtain ⟨hT, hC, hV, hI, hSt, hB, hFa, hX, hZ, hN⟩ := h
  obtain ⟨⟨c11, c12⟩, ⟨d1, du⟩, ⟨d2, d2b⟩, ⟨d3, d3b⟩, ⟨d4, d4b⟩, ⟨d5, dv, dw, dx⟩, ⟨d6, d6b, d6c, d6d⟩, ⟨d7, d7b, d7c, d7d⟩, ⟨d8, d8b, d8c, d8d⟩, d9, d9b, d9c⟩ := hC
  have c11 : τ2 467 11 = b := c11
  have d2b : τ2 469 b = M2 62 0 := d2b
  have d3 : τ2 470 b = M2 77 13 := d3
  have d4 : τ2 471 b = M2 62 1 := d4
  have d5 : τ2 475 (8 * b + now) = M2 67 now := d5
  have dx : τ2 476 (8 * b + now) = M2 77 13 - M2 67 now := dx
  have d6 : τ2 477 (8 * b + now) = M2 69 now := d6
  have d6d : τ2 478 (8 * b + now) = M2 62 1 - M2 69 now := d6d
  have d7 : τ2 473 (8 * b + now) = M2 65 now := d7
  have d8 : τ2 472 (8 * b + now) = M2 63 now := d8
  have d9 : τ2 479 (8 * b + now) = g := d9
  have hV1 : (0 ≤ M2 91 9 ∧ M2 91 9 ≤ 8) ∧ τ2 474 (8 * b + now) = M2 91 9 := ⟨hV.1, hV.2.1⟩
  obtain ⟨p1, p2, p3, p4, p5, p6, p7, ⟨p8, p8b, p8c⟩⟩ := h0
  obtain ⟨q1, q2, q3, q4, q5⟩ := p2
  have en : M2 62 0 - 1 = now := by omega
  have gv : gvn (M2 71 now) = g := by
    rcases d9b with z | z
    · rw [z]; exact gvn_0 (d9c z)
    · rw [z, (hg z).2.2.1]; exact gvn_1 (hg z).2.2.2
  rw [en, hF, hS, gv]
  have hF' := hF
  have hS' := hS
  have zp : ∀ (r : Int → Int) (x : Int), zs r now x now = x := fun r x => zs_pos rfl
  have zn : ∀ (r : Int → Int) (x k : Int), ¬ k = now → zs r now x k = r k := fun r x k e => zs_neg e
  have fE : frF 62 (M0 77 13) (M0 62 1) now M0 (zup (zrow (zrow (zrow (zrow M2 66 (zs (M2 66) now (M2 91 9))) 68 (zs (M2 68) now (M2 77 13 - M0 77 13))) 70 (zs (M2 70) now (M2 62 1 - M0 62 1))) 72 (zs (M2 72) now (M2 77 13 - M0 77 13 - g + M2 91 9))) 91 4 (M2 91 4 + 1)) := by
    refine frF_tr fm ⟨fun c a d => ?_, ⟨rfl, rfl, rfl, rfl⟩, fun c l a d e f q => ?_, fun c x a q => ?_, fun c k a d q => ?_⟩
    · funext k
      unfold zup zrow
      rw [if_neg (by omega), if_neg (by omega), if_neg (by omega), if_neg (by omega), if_neg (by omega)]
    · unfold zup zrow
      rw [if_neg (by omega), if_neg (by omega), if_neg (by omega), if_neg (by omega), if_neg (by omega)]
    · unfold zup zrow
      rw [if_neg (by omega), if_neg (by omega), if_neg (by omega), if_neg (by omega), if_neg (by omega)]
    · unfold zup zrow
      rw [if_neg (by omega)]
      by_cases c1 : c = 72
      · rw [if_pos c1, zn _ _ _ q, c1]
      · rw [if_neg c1]
        by_cases c2 : c = 70
        · rw [if_pos c2, zn _ _ _ q, c2]
        · rw [if_neg c2]
          by_cases c3 : c = 68
          · rw [if_pos c3, zn _ _ _ q, c3]
          · rw [if_neg c3]
            by_cases c4 : c = 66
            · rw [if_pos c4, zn _ _ _ q, c4]
            · rw [if_neg c4]
  have mono : ∀ (n : Nat) (k : Int), 0 ≤ k → k + n + 1 = M0 62 0 → M0 67 k + M0 68 k ≤ M0 77 13 ∧ M0 69 k + M0 70 k ≤ M0 62 1 := fun n k k0 k1 => ⟨(p6 k k0 (by omega)).2.2.1.1.2.2, (p6 k k0 (by omega)).2.2.2.1.1.2.2⟩
  refine ⟨hT, ⟨⟨d1.1, d1.2⟩, c11, ⟨d2b, by show 0 ≤ M2 62 0; omega, by show M2 62 0 ≤ 8; omega⟩, ⟨d3, d3b⟩, ⟨d4, d4b⟩⟩, hI, hB.1, hN, fun k k0 k1 => ?_, fun k l k0 k1 l1 => ?_, ⟨fun k k0 k1 => ?_, fun _ => ?_, fun z => ?_⟩⟩
  · have k1 : k < M2 62 0 := k1
    by_cases e : k = now
    · subst e
      refine ⟨⟨⟨d8b, d8c⟩, d8d, d8⟩, ⟨⟨d7b, d7c, ?_, ?_⟩, d7, ?_⟩, ⟨⟨dv, ?_, ?_⟩, d5, ?_⟩, ⟨⟨d6b, ?_, ?_⟩, d6, ?_⟩, ⟨?_, ?_, ?_, ?_⟩, ?_, ?_, ?_⟩
      · show M2 65 k ≤ zs _ k (M2 91 9) k
        rw [zp]; exact d7d
      · show zs _ k (M2 91 9) k ≤ 8
        rw [zp]; exact hV1.1.2
      · show τ2 474 (8 * b + k) = zs _ k (M2 91 9) k
        rw [zp]; exact hV1.2
      · show 0 ≤ zs _ k _ k
        rw [zp]; omega
      · show M2 67 k + zs _ k _ k ≤ M2 77 13
        rw [zp]; omega
      · show τ2 476 (8 * b + k) = zs _ k _ k
        rw [zp, dx]; omega
      · show 0 ≤ zs _ k _ k
        rw [zp]; omega
      · show M2 69 k + zs _ k _ k ≤ M2 62 1
        rw [zp]; omega
      · show τ2 478 (8 * b + k) = zs _ k _ k
        rw [zp, d6d]; omega
      · rw [d9]; exact d9b
      · show zs _ k _ k = zs _ k _ k - τ2 479 (8 * b + k) + zs _ k _ k
        rw [zp, zp, zp, d9]
      · rw [d9]; exact d9c
      · rw [d9]
        intro z
        have y := hg z
        show 0 < zs _ k _ k ∧ M2 78 (M2 67 k + zs _ k _ k - 1) = 9 ∧ M2 71 k = M2 80 (M2 67 k + zs _ k _ k - 1) ∧ ¬ M2 80 (M2 67 k + zs _ k _ k - 1) = -2
        rw [zp, show M2 67 k + (M2 77 13 - M0 77 13) - 1 = M2 77 13 - 1 by omega]
        exact ⟨by omega, y.2⟩
      · intro l l0 l1
        have l0 : M2 67 k ≤ l := l0
        have l1 : l < M2 67 k + zs _ k _ k := l1
        rw [zp] at l1
        show lk (zs _ k _ k) _ _ _ _ _ _ _ l ∧ fx (τ2 479 (8 * b + k)) (M2 67 k + zs _ k _ k) _ _ _ _ _ _ l
        rw [zp, zp, d9, show M2 67 k + (M2 77 13 - M0 77 13) = M2 77 13 by omega]
        exact ⟨hFa.2 l l0 (by omega), hX l l0 (by omega)⟩
      · show yE _ _ _ _ _ 0 0 (60 * b + M2 67 k) (60 * b + (M2 67 k + zs _ k _ k))
        rw [zp, show M2 67 k + (M2 77 13 - M0 77 13) = M2 77 13 by omega]
        rw [hd] at hSt
        exact gST_end hSt
      · show M2 69 k = cn6 (M2 78) (M2 67 k).toNat
        rw [hF, hS, show M0 62 1 = cn6 (M0 78) (M0 77 13).toNat from p5.1]
        exact (cn6_cg _ (fun l a d => fm.2.2.1 78 l (by decide) (by decide) (by decide) (by decide) (by omega))).symm
    · have kn : k < M0 62 0 := by omega
      have m := mono (M0 62 0 - k - 1).toNat k k0 (by omega)
      refine FdP_cg (M := M0) (τ := τ0) (F := M0 77 13) (S := M0 62 1) (now := now) (nl := 0) (ns := 0) (by decide) fE ft ⟨k0, by omega⟩ e m.1 q4.2.2 m.2 ?_ ?_ (fun l l0 l1 q => ?_) (p6 k k0 kn)
      · show M0 77 13 ≤ M2 77 13
        omega
      · show M0 62 1 ≤ M2 62 1
        omega
      · exact ((p5.2.1 l l0 l1).1 q).2.2
  · have l1 : l < M2 62 0 := l1
    show ¬ M2 63 k = M2 63 l
    have ek : M2 63 k = M0 63 k := fm.2.2.2.2 63 k (by decide) (by decide) (by omega)
    rw [ek]
    by_cases e : l = now
    · rw [e]; exact hnm k k0 (by omega)
    · rw [show M2 63 l = M0 63 l from fm.2.2.2.2 63 l (by decide) (by decide) e]
      exact p7 k l k0 k1 (by omega)
  · have k1 : k + 1 < M2 62 0 := k1
    have r5 : ∀ j : Int, ¬ j = now → M2 67 j = M0 67 j := fun j e => fm.2.2.2.2 67 j (by decide) (by decide) e
    have r6 : ∀ j : Int, ¬ j = now → M2 68 j = M0 68 j := fun j e => fm.2.2.2.2 68 j (by decide) (by decide) e
    have r7 : ∀ j : Int, ¬ j = now → M2 69 j = M0 69 j := fun j e => fm.2.2.2.2 69 j (by decide) (by decide) e
    have r8 : ∀ j : Int, ¬ j = now → M2 70 j = M0 70 j := fun j e => fm.2.2.2.2 70 j (by decide) (by decide) e
    show M2 67 (k + 1) = M2 67 k + zs (M2 68) now _ k ∧ M2 69 (k + 1) = M2 69 k + zs (M2 70) now _ k
    rw [zn _ _ _ (by omega), zn _ _ _ (by omega), r5 k (by omega), r6 k (by omega), r7 k (by omega), r8 k (by omega)]
    by_cases e : k + 1 = now
    · have z := p8b (by omega)
      rw [e, hF', hS', show k = M0 62 0 - 1 by omega]
      exact ⟨z.2.2.1.symm, z.2.2.2.symm⟩
    · rw [r5 (k + 1) e, r7 (k + 1) e]
      exact p8 k k0 (by omega)
  · show M2 67 0 = 0 ∧ M2 69 0 = 0 ∧ M2 67 (M2 62 0 - 1) + zs (M2 68) now _ (M2 62 0 - 1) = M2 77 13 ∧ M2 69 (M2 62 0 - 1) + zs (M2 70) now _ (M2 62 0 - 1) = M2 62 1
    rw [en, zp, zp, hF', hS']
    refine ⟨?_, ?_, by omega, by omega⟩
    · by_cases e : (0 : Int) = now
      · rw [← e] at hF'; rw [hF']; exact (p8c (by omega)).1
      · rw [fm.2.2.2.2 67 0 (by decide) (by decide) e]; exact (p8b (by omega)).1
    · by_cases e : (0 : Int) = now
      · rw [← e] at hS'; rw [hS']; exact (p8c (by omega)).2
      · rw [fm.2.2.2.2 69 0 (by decide) (by decide) e]; exact (p8b (by omega)).2.1
  · have z : M2 62 0 = 0 := z
    omega
theorem hat_0 {τ : Nat → Int → Int} : hat τ 501 0 = -1 := by
  show zs (τ 501) 0 (-1) 0 = -1
  exact zs_pos rfl
theorem gTK_hat {tx so st va : Int → Int} {N i : Int} {τ : Nat → Int → Int} (h : gTK tx so st va N i (τ 468) (τ 467 3) (τ 467 2) (τ 467 5) (τ 467 6) (τ 467 7) (τ 467 8) (τ 467 9) (τ 467 10)) : gTK tx so st va N i (hat τ 468) (hat τ 467 3) (hat τ 467 2) (hat τ 467 5) (hat τ 467 6) (hat τ 467 7) (hat τ 467 8) (hat τ 467 9) (hat τ 467 10) := h
theorem gTK_adv {tx so st va : Int → Int} {N i : Int} {τ : Nat → Int → Int} (hT : gTK tx so st va N i (τ 468) (τ 467 3) (τ 467 2) (τ 467 5) (τ 467 6) (τ 467 7) (τ 467 8) (τ 467 9) (τ 467 10)) (hi : ¬ so i = -1) : gTK tx so st va N (i + 1) (adv τ 468) (adv τ 467 3) (adv τ 467 2) (adv τ 467 5) (adv τ 467 6) (adv τ 467 7) (adv τ 467 8) (adv τ 467 9) (adv τ 467 10) := by
  obtain ⟨t1, t2, t3, t4⟩ := hT
  have lt := nE0 (so := so) (i := i) (N := N) ⟨by have := t1.1; omega, t1.2.2.2.1⟩ t2 hi
  have s := tk_step (o7 := τ 467 7) (o8 := τ 467 8) (o9 := τ 467 9) (o10 := τ 467 10) t1 (show 0 ≤ i + 1 by omega) lt t3
  exact ⟨t1, ⟨by omega, lt⟩, s.2.1, s.2.2⟩
theorem gSI_fun {K SI DP AR fS sI sL sM cN cP cO r2 r3 r4 r5 r6 r7 r8 r9 : Int → Int} {nl ns nf o b : Int} (h : gSI K SI DP AR nl ns nf o b fS sI sL sM cN cP cO r2 r3 r4 r5 r6 r7 r8 r9) : gSI K SI DP AR nl ns (nf + 1) o b (zs fS nf ns) sI sL sM cN cP cO r2 r3 r4 r5 r6 r7 r8 r9 := by
  obtain ⟨h1, h2, h3, h4⟩ := h
  refine ⟨h1, h2, fun s s0 s1 => ?_, fun g g0 g1 => ?_⟩
  · obtain ⟨a1, ⟨a2, a3⟩, a4⟩ := h3 s s0 s1
    refine ⟨a1, ⟨by omega, fun g g0 g1 => ?_⟩, a4⟩
    by_cases e : g = nf
    · subst e; rw [zs_pos rfl]; omega
    · rw [zs_neg e]; exact a3 g g0 (by omega)
  · by_cases e : g = nf
    · subst e; rw [zs_pos rfl]; exact Int.le_refl _
    · rw [zs_neg e]; exact h4 g g0 (by omega)
theorem PRhead_33 {b : Int} {M τ : Nat → Int → Int} (h : PR 33 b M τ) (hs : M 92 (M 91 4) = -5) (hn8 : M 33 0 < 8) (hs1 : M 92 (M 91 4 + 1) = -2) (hs2 : M 92 (M 91 4 + 1 + 1) = 40) : (RL b (M 33 0) (M 17) (M 91 3) (M 92) (M 93) (M 94) (M 91 4 + 1 + 1 + 1) 0 (M 95) (M 33 0 + 1) (M 33 1) (M 48 13) 0 (M 99) (M 100) (M 96) (M 97) (M 98) (M 44) (M 46) (M 47) (zs (M 34) (M 33 0) (M 94 (M 91 4 + 1))) (zs (M 35) (M 33 0) (nlet (M 94 (M 91 4 + 1)))) (zs (M 36) (M 33 0) 0) (zs (M 38) (M 33 0) (M 48 13)) (zs (M 40) (M 33 0) (M 33 1)) (zs (M 42) (M 33 0) (-2)) (M 49) (M 50) (M 51) (M 52) (M 53) (M 54) (M 55) (M 56) (M 57) (M 58) (M 59) (M 60) (M 61) 0 0 (M 48 13) (hat (adv (adv (zrow (zrow (zup (zrow (zrow (zrow (zrow (zrow (zrow (zrow (adv (zup τ 467 47 0)) 473 (zs (τ 473) (8 * τ 467 11 + τ 469 (τ 467 11)) 0)) 474 (zs (τ 474) (8 * τ 467 11 + τ 469 (τ 467 11)) 0)) 475 (zs (τ 475) (8 * τ 467 11 + τ 469 (τ 467 11)) (τ 470 (τ 467 11)))) 476 (zs (τ 476) (8 * τ 467 11 + τ 469 (τ 467 11)) 0)) 477 (zs (τ 477) (8 * τ 467 11 + τ 469 (τ 467 11)) (τ 471 (τ 467 11)))) 478 (zs (τ 478) (8 * τ 467 11 + τ 469 (τ 467 11)) 0)) 479 (zs (τ 479) (8 * τ 467 11 + τ 469 (τ 467 11)) 0)) 467 12 (τ 469 (τ 467 11))) 469 (zs (τ 469) (τ 467 11) (τ 469 (τ 467 11) + 1))) 472 (zs (τ 472) (8 * τ 467 11 + τ 469 (τ 467 11)) (adv (zup τ 467 47 0) 467 10))))))) ∧ frX b (M 48 13) (M 33 1) (M 33 0) τ (adv (adv (zrow (zrow (zup (zrow (zrow (zrow (zrow (zrow (zrow (zrow (adv (zup τ 467 47 0)) 473 (zs (τ 473) (8 * τ 467 11 + τ 469 (τ 467 11)) 0)) 474 (zs (τ 474) (8 * τ 467 11 + τ 469 (τ 467 11)) 0)) 475 (zs (τ 475) (8 * τ 467 11 + τ 469 (τ 467 11)) (τ 470 (τ 467 11)))) 476 (zs (τ 476) (8 * τ 467 11 + τ 469 (τ 467 11)) 0)) 477 (zs (τ 477) (8 * τ 467 11 + τ 469 (τ 467 11)) (τ 471 (τ 467 11)))) 478 (zs (τ 478) (8 * τ 467 11 + τ 469 (τ 467 11)) 0)) 479 (zs (τ 479) (8 * τ 467 11 + τ 469 (τ 467 11)) 0)) 467 12 (τ 469 (τ 467 11))) 469 (zs (τ 469) (τ 467 11) (τ 469 (τ 467 11) + 1))) 472 (zs (τ 472) (8 * τ 467 11 + τ 469 (τ 467 11)) (adv (zup τ 467 47 0) 467 10))))) := by
  obtain ⟨p1, ⟨q1, q2, ⟨q3, q3b, q3c⟩, ⟨q4, q4b, q4c⟩, ⟨q5, q5b, q5c⟩⟩, p3, p4, p5, p6, p7, p8⟩ := h
  subst q2
  have t1 := gTK_adv (τ := zup τ 467 47 0) p1 (by omega)
  have t2 := gTK_adv (τ := (zrow (zrow (zup (zrow (zrow (zrow (zrow (zrow (zrow (zrow (adv (zup τ 467 47 0)) 473 (zs (τ 473) (8 * τ 467 11 + τ 469 (τ 467 11)) 0)) 474 (zs (τ 474) (8 * τ 467 11 + τ 469 (τ 467 11)) 0)) 475 (zs (τ 475) (8 * τ 467 11 + τ 469 (τ 467 11)) (τ 470 (τ 467 11)))) 476 (zs (τ 476) (8 * τ 467 11 + τ 469 (τ 467 11)) 0)) 477 (zs (τ 477) (8 * τ 467 11 + τ 469 (τ 467 11)) (τ 471 (τ 467 11)))) 478 (zs (τ 478) (8 * τ 467 11 + τ 469 (τ 467 11)) 0)) 479 (zs (τ 479) (8 * τ 467 11 + τ 469 (τ 467 11)) 0)) 467 12 (τ 469 (τ 467 11))) 469 (zs (τ 469) (τ 467 11) (τ 469 (τ 467 11) + 1))) 472 (zs (τ 472) (8 * τ 467 11 + τ 469 (τ 467 11)) (adv (zup τ 467 47 0) 467 10)))) t1 (by omega)
  have t3 := gTK_adv (τ := adv (zrow (zrow (zup (zrow (zrow (zrow (zrow (zrow (zrow (zrow (adv (zup τ 467 47 0)) 473 (zs (τ 473) (8 * τ 467 11 + τ 469 (τ 467 11)) 0)) 474 (zs (τ 474) (8 * τ 467 11 + τ 469 (τ 467 11)) 0)) 475 (zs (τ 475) (8 * τ 467 11 + τ 469 (τ 467 11)) (τ 470 (τ 467 11)))) 476 (zs (τ 476) (8 * τ 467 11 + τ 469 (τ 467 11)) 0)) 477 (zs (τ 477) (8 * τ 467 11 + τ 469 (τ 467 11)) (τ 471 (τ 467 11)))) 478 (zs (τ 478) (8 * τ 467 11 + τ 469 (τ 467 11)) 0)) 479 (zs (τ 479) (8 * τ 467 11 + τ 469 (τ 467 11)) 0)) 467 12 (τ 469 (τ 467 11))) 469 (zs (τ 469) (τ 467 11) (τ 469 (τ 467 11) + 1))) 472 (zs (τ 472) (8 * τ 467 11 + τ 469 (τ 467 11)) (adv (zup τ 467 47 0) 467 10)))) t2 (by omega)
  have nm := (tk_name t1.2.2.2).2 hs1
  have zp : ∀ (r : Int → Int) (k x : Int), zs r k x k = x := fun r k x => zs_pos rfl
  rw [q3, q4, q5, nm.1] at t2 t3 ⊢
  refine ⟨⟨gTK_hat t3, ⟨⟨rfl, rfl⟩, ⟨q1, q3b, by omega⟩, ⟨rfl, zp _ _ _⟩, ⟨q4, q4b, q4c⟩, ⟨q5, q5b, q5c⟩, ⟨?_, ?_, ?_, ?_⟩, ⟨?_, ?_, ?_, ?_⟩, ⟨?_, ?_, ?_, ?_⟩, ⟨?_, ?_, ?_, ?_⟩, ⟨zp _ _ _, Or.inl rfl, fun _ => zp _ _ _⟩⟩, ⟨by decide, zp _ _ _, fun j a c => by omega⟩, p3, ?_, ⟨p4, ⟨by decide, by decide, rfl⟩, hat_0, fun j a c => by omega⟩, ⟨Int.le_refl _, fun l a c => ?_⟩, fun l a c => ?_, fun c => ?_, gSI_fun p5⟩, ?_⟩
  · exact (zp _ _ _).trans (zp _ _ _).symm
  · rw [zp]; exact q4b
  · rw [zp]; exact Int.le_refl _
  · exact (zp _ _ _).trans (by rw [zp]; omega)
  · exact (zp _ _ _).trans (zp _ _ _).symm
  · rw [zp]; exact q5b
  · rw [zp]; exact Int.le_refl _
  · exact (zp _ _ _).trans (by rw [zp]; omega)
  · exact (zp _ _ _).trans (zp _ _ _).symm
  · rw [zp]; decide
  · rw [zp]; decide
  · rw [zp]; decide
  · exact (zp _ _ _).trans (zp _ _ _).symm
  · rw [zp]; exact nm.2.1
  · rw [zp]; exact nm.2.2
  · rw [zp, zp]
  · rw [zp]; exact gST_0 q4b
  · rw [zp] at a; omega
  · rw [zp] at a; omega
  · rw [zp] at c; omega
  · refine frX_adv (frX_adv (frX_fn (by decide) (fun j e => zs_neg e) (frX_bk (by decide) (fun j e => zs_neg e) (frX_up (by decide) (frX_fn (by decide) (fun j e => zs_neg e) (frX_fn (by decide) (fun j e => zs_neg e) (frX_fn (by decide) (fun j e => zs_neg e) (frX_fn (by decide) (fun j e => zs_neg e) (frX_fn (by decide) (fun j e => zs_neg e) (frX_fn (by decide) (fun j e => zs_neg e) (frX_fn (by decide) (fun j e => zs_neg e) (frX_adv (frX_up (by decide) frX_refl)))))))))))))
theorem PRhead_62 {b : Int} {M τ : Nat → Int → Int} (h : PR 62 b M τ) (hs : M 92 (M 91 4) = -5) (hn8 : M 62 0 < 8) (hs1 : M 92 (M 91 4 + 1) = -2) (hs2 : M 92 (M 91 4 + 1 + 1) = 40) : (RL b (M 62 0) (M 17) (M 91 3) (M 92) (M 93) (M 94) (M 91 4 + 1 + 1 + 1) 0 (M 95) (M 62 0 + 1) (M 62 1) (M 77 13) 0 (M 99) (M 100) (M 96) (M 97) (M 98) (M 73) (M 75) (M 76) (zs (M 63) (M 62 0) (M 94 (M 91 4 + 1))) (zs (M 64) (M 62 0) (nlet (M 94 (M 91 4 + 1)))) (zs (M 65) (M 62 0) 0) (zs (M 67) (M 62 0) (M 77 13)) (zs (M 69) (M 62 0) (M 62 1)) (zs (M 71) (M 62 0) (-2)) (M 78) (M 79) (M 80) (M 81) (M 82) (M 83) (M 84) (M 85) (M 86) (M 87) (M 88) (M 89) (M 90) 0 0 (M 77 13) (hat (adv (adv (zrow (zrow (zup (zrow (zrow (zrow (zrow (zrow (zrow (zrow (adv (zup τ 467 47 0)) 473 (zs (τ 473) (8 * τ 467 11 + τ 469 (τ 467 11)) 0)) 474 (zs (τ 474) (8 * τ 467 11 + τ 469 (τ 467 11)) 0)) 475 (zs (τ 475) (8 * τ 467 11 + τ 469 (τ 467 11)) (τ 470 (τ 467 11)))) 476 (zs (τ 476) (8 * τ 467 11 + τ 469 (τ 467 11)) 0)) 477 (zs (τ 477) (8 * τ 467 11 + τ 469 (τ 467 11)) (τ 471 (τ 467 11)))) 478 (zs (τ 478) (8 * τ 467 11 + τ 469 (τ 467 11)) 0)) 479 (zs (τ 479) (8 * τ 467 11 + τ 469 (τ 467 11)) 0)) 467 12 (τ 469 (τ 467 11))) 469 (zs (τ 469) (τ 467 11) (τ 469 (τ 467 11) + 1))) 472 (zs (τ 472) (8 * τ 467 11 + τ 469 (τ 467 11)) (adv (zup τ 467 47 0) 467 10))))))) ∧ frX b (M 77 13) (M 62 1) (M 62 0) τ (adv (adv (zrow (zrow (zup (zrow (zrow (zrow (zrow (zrow (zrow (zrow (adv (zup τ 467 47 0)) 473 (zs (τ 473) (8 * τ 467 11 + τ 469 (τ 467 11)) 0)) 474 (zs (τ 474) (8 * τ 467 11 + τ 469 (τ 467 11)) 0)) 475 (zs (τ 475) (8 * τ 467 11 + τ 469 (τ 467 11)) (τ 470 (τ 467 11)))) 476 (zs (τ 476) (8 * τ 467 11 + τ 469 (τ 467 11)) 0)) 477 (zs (τ 477) (8 * τ 467 11 + τ 469 (τ 467 11)) (τ 471 (τ 467 11)))) 478 (zs (τ 478) (8 * τ 467 11 + τ 469 (τ 467 11)) 0)) 479 (zs (τ 479) (8 * τ 467 11 + τ 469 (τ 467 11)) 0)) 467 12 (τ 469 (τ 467 11))) 469 (zs (τ 469) (τ 467 11) (τ 469 (τ 467 11) + 1))) 472 (zs (τ 472) (8 * τ 467 11 + τ 469 (τ 467 11)) (adv (zup τ 467 47 0) 467 10))))) := by
  obtain ⟨p1, ⟨q1, q2, ⟨q3, q3b, q3c⟩, ⟨q4, q4b, q4c⟩, ⟨q5, q5b, q5c⟩⟩, p3, p4, p5, p6, p7, p8⟩ := h
  subst q2
  have t1 := gTK_adv (τ := zup τ 467 47 0) p1 (by omega)
  have t2 := gTK_adv (τ := (zrow (zrow (zup (zrow (zrow (zrow (zrow (zrow (zrow (zrow (adv (zup τ 467 47 0)) 473 (zs (τ 473) (8 * τ 467 11 + τ 469 (τ 467 11)) 0)) 474 (zs (τ 474) (8 * τ 467 11 + τ 469 (τ 467 11)) 0)) 475 (zs (τ 475) (8 * τ 467 11 + τ 469 (τ 467 11)) (τ 470 (τ 467 11)))) 476 (zs (τ 476) (8 * τ 467 11 + τ 469 (τ 467 11)) 0)) 477 (zs (τ 477) (8 * τ 467 11 + τ 469 (τ 467 11)) (τ 471 (τ 467 11)))) 478 (zs (τ 478) (8 * τ 467 11 + τ 469 (τ 467 11)) 0)) 479 (zs (τ 479) (8 * τ 467 11 + τ 469 (τ 467 11)) 0)) 467 12 (τ 469 (τ 467 11))) 469 (zs (τ 469) (τ 467 11) (τ 469 (τ 467 11) + 1))) 472 (zs (τ 472) (8 * τ 467 11 + τ 469 (τ 467 11)) (adv (zup τ 467 47 0) 467 10)))) t1 (by omega)
  have t3 := gTK_adv (τ := adv (zrow (zrow (zup (zrow (zrow (zrow (zrow (zrow (zrow (zrow (adv (zup τ 467 47 0)) 473 (zs (τ 473) (8 * τ 467 11 + τ 469 (τ 467 11)) 0)) 474 (zs (τ 474) (8 * τ 467 11 + τ 469 (τ 467 11)) 0)) 475 (zs (τ 475) (8 * τ 467 11 + τ 469 (τ 467 11)) (τ 470 (τ 467 11)))) 476 (zs (τ 476) (8 * τ 467 11 + τ 469 (τ 467 11)) 0)) 477 (zs (τ 477) (8 * τ 467 11 + τ 469 (τ 467 11)) (τ 471 (τ 467 11)))) 478 (zs (τ 478) (8 * τ 467 11 + τ 469 (τ 467 11)) 0)) 479 (zs (τ 479) (8 * τ 467 11 + τ 469 (τ 467 11)) 0)) 467 12 (τ 469 (τ 467 11))) 469 (zs (τ 469) (τ 467 11) (τ 469 (τ 467 11) + 1))) 472 (zs (τ 472) (8 * τ 467 11 + τ 469 (τ 467 11)) (adv (zup τ 467 47 0) 467 10)))) t2 (by omega)
  have nm := (tk_name t1.2.2.2).2 hs1
  have zp : ∀ (r : Int → Int) (k x : Int), zs r k x k = x := fun r k x => zs_pos rfl
  rw [q3, q4, q5, nm.1] at t2 t3 ⊢
  refine ⟨⟨gTK_hat t3, ⟨⟨rfl, rfl⟩, ⟨q1, q3b, by omega⟩, ⟨rfl, zp _ _ _⟩, ⟨q4, q4b, q4c⟩, ⟨q5, q5b, q5c⟩, ⟨?_, ?_, ?_, ?_⟩, ⟨?_, ?_, ?_, ?_⟩, ⟨?_, ?_, ?_, ?_⟩, ⟨?_, ?_, ?_, ?_⟩, ⟨zp _ _ _, Or.inl rfl, fun _ => zp _ _ _⟩⟩, ⟨by decide, zp _ _ _, fun j a c => by omega⟩, p3, ?_, ⟨p4, ⟨by decide, by decide, rfl⟩, hat_0, fun j a c => by omega⟩, ⟨Int.le_refl _, fun l a c => ?_⟩, fun l a c => ?_, fun c => ?_, gSI_fun p5⟩, ?_⟩
  · exact (zp _ _ _).trans (zp _ _ _).symm
  · rw [zp]; exact q4b
  · rw [zp]; exact Int.le_refl _
  · exact (zp _ _ _).trans (by rw [zp]; omega)
  · exact (zp _ _ _).trans (zp _ _ _).symm
  · rw [zp]; exact q5b
  · rw [zp]; exact Int.le_refl _
  · exact (zp _ _ _).trans (by rw [zp]; omega)
  · exact (zp _ _ _).trans (zp _ _ _).symm
  · rw [zp]; decide
  · rw [zp]; decide
  · rw [zp]; decide
  · exact (zp _ _ _).trans (zp _ _ _).symm
  · rw [zp]; exact nm.2.1
  · rw [zp]; exact nm.2.2
  · rw [zp, zp]
  · rw [zp]; exact gST_0 q4b
  · rw [zp] at a; omega
  · rw [zp] at a; omega
  · rw [zp] at c; omega
  · refine frX_adv (frX_adv (frX_fn (by decide) (fun j e => zs_neg e) (frX_bk (by decide) (fun j e => zs_neg e) (frX_up (by decide) (frX_fn (by decide) (fun j e => zs_neg e) (frX_fn (by decide) (fun j e => zs_neg e) (frX_fn (by decide) (fun j e => zs_neg e) (frX_fn (by decide) (fun j e => zs_neg e) (frX_fn (by decide) (fun j e => zs_neg e) (frX_fn (by decide) (fun j e => zs_neg e) (frX_fn (by decide) (fun j e => zs_neg e) (frX_adv (frX_up (by decide) frX_refl)))))))))))))
