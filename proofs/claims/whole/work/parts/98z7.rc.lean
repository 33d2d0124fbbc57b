/-! Both readers together: rc -/
def FLT (M' τ' : Nat → Int → Int) : Prop := (1 ≤ M' 91 6 ∧ M' 91 6 ≤ 6) ∧ (0 ≤ M' 91 7 ∧ M' 91 7 ≤ 400) ∧ τ' 467 4 = -1000 * M' 91 6 - M' 91 7
/-- both readers are at token i, whatever else -/
def RX (b now F S : Int) (tx : Int → Int) (N : Int) (so st va : Int → Int) (i : Int) (τ : Nat → Int → Int) : Prop := ∃ (v : Int) (nm : Int → Int) (nf : Int) (ns : Int) (nl : Int) (dep : Int) (op : Int → Int) (br : Int → Int) (cN : Int → Int) (cP : Int → Int) (cO : Int → Int) (sI : Int → Int) (sL : Int → Int) (sM : Int → Int) (fN : Int → Int) (fL : Int → Int) (fP : Int → Int) (fF : Int → Int) (fS : Int → Int) (fG : Int → Int) (K : Int → Int) (TG : Int → Int) (FI : Int → Int) (SE : Int → Int) (TH : Int → Int) (SI : Int → Int) (DP : Int → Int) (BR : Int → Int) (WE : Int → Int) (MI : Int → Int) (EN : Int → Int) (AR : Int → Int) (LA : Int → Int) (g : Int) (gg : Int) (c : Int), (RL b now tx N so st va i v nm nf ns nl dep op br cN cP cO sI sL sM fN fL fP fF fS fG K TG FI SE TH SI DP BR WE MI EN AR LA g gg c τ) ∧ fF now = F ∧ fS now = S
theorem tkC_st {tx ty : Int → Int} {n N : Int} {so st va : Int → Int} (h : tkC tx ty n N so st va) {j : Int} (j0 : 0 ≤ j) (j1 : j ≤ N) : 0 ≤ st j ∧ st j ≤ 400 := by
  obtain ⟨t1, t2, t3, t4, t5, t6⟩ := h
  by_cases e : j = N
  · rw [e, t5]; omega
  · obtain ⟨u1, u2, _⟩ := t2 j j0 (by omega)
    have pi := psT_in (tx := tx) (n := n) (i := j) (by omega)
    have sl := skp_le (a := cB tx n) (n := n) (q := psT (cB tx n) n j)
    rw [u2]; omega
theorem oF_b {s : Int} : 1 ≤ oF s ∧ oF s ≤ 4 := by
  unfold oF
  by_cases a : s = -4
  · rw [if_pos a]; decide
  · rw [if_neg a]
    by_cases c : s = -2
    · rw [if_pos c]; decide
    · rw [if_neg c]
      by_cases e : s = -3
      · rw [if_pos e]; decide
      · rw [if_neg e]; decide
theorem nF_b {s : Int} : 1 ≤ nF s ∧ nF s ≤ 2 := by
  unfold nF
  by_cases a : s = -3
  · rw [if_pos a]; decide
  · rw [if_neg a]; decide
def OC_33 (b now F S : Int) (l w pl s16 : Int) (τ M M' : Nat → Int → Int) (r : Int) : Prop :=
  (r = 1 ∧ frC 33 F S now M M' ∧ M 91 4 < M' 91 4 ∧ M' 92 (M' 91 4 - 1) = 59 ∧ ∃ τ' : Nat → Int → Int, (RL b now (M' 17) (M' 91 3) (M' 92) (M' 93) (M' 94) (M' 91 4 - 1) (M' 91 9) (M' 95) (M' 33 0) (M' 33 1) (M' 48 13) (M' 91 14) (M' 99) (M' 100) (M' 96) (M' 97) (M' 98) (M' 44) (M' 46) (M' 47) (M' 34) (M' 35) (M' 36) (M' 38) (M' 40) (M' 42) (M' 49) (M' 50) (M' 51) (M' 52) (M' 53) (M' 54) (M' 55) (M' 56) (M' 57) (M' 58) (M' 59) (M' 60) (M' 61) 0 0 (M' 48 13) τ') ∧ frX b F S now τ τ' ∧ rQc l w pl s16 τ τ' 1) ∨
   (r = 0 ∧ frO 33 M M' ∧ ∃ (i' : Int) (τ' : Nat → Int → Int), RX b now F S (M 17) (M 91 3) (M 92) (M 93) (M 94) i' τ' ∧ ¬ M 92 i' = 59 ∧ M' 91 6 = 1 ∧ M' 91 7 = M 93 i' ∧ frX b F S now τ τ' ∧ rQc l w pl s16 τ τ' 1) ∨
   (r = 0 ∧ frO 33 M M' ∧ ∃ τ' : Nat → Int → Int, FLT M' τ' ∧ frX b F S now τ τ' ∧ rQc l w pl s16 τ τ' 0)
def OV_33 (b now F S : Int) (l : Int) (τ M M' : Nat → Int → Int) (r : Int) : Prop :=
  (r = 1 ∧ frC 33 F S now M M' ∧ M 91 4 < M' 91 4 ∧ M' 92 (M' 91 4 - 1) = 59 ∧ ∃ τ' : Nat → Int → Int, (RL b now (M' 17) (M' 91 3) (M' 92) (M' 93) (M' 94) (M' 91 4 - 1) (M' 91 9) (M' 95) (M' 33 0) (M' 33 1) (M' 48 13) (M' 91 14) (M' 99) (M' 100) (M' 96) (M' 97) (M' 98) (M' 44) (M' 46) (M' 47) (M' 34) (M' 35) (M' 36) (M' 38) (M' 40) (M' 42) (M' 49) (M' 50) (M' 51) (M' 52) (M' 53) (M' 54) (M' 55) (M' 56) (M' 57) (M' 58) (M' 59) (M' 60) (M' 61) 0 0 (M' 48 13) τ') ∧ frX b F S now τ τ' ∧ rVc l τ τ' 1) ∨
   (r = 0 ∧ frO 33 M M' ∧ ∃ (i' : Int) (τ' : Nat → Int → Int), RX b now F S (M 17) (M 91 3) (M 92) (M 93) (M 94) i' τ' ∧ ¬ M 92 i' = 59 ∧ M' 91 6 = 1 ∧ M' 91 7 = M 93 i' ∧ frX b F S now τ τ' ∧ rVc l τ τ' 1) ∨
   (r = 0 ∧ frO 33 M M' ∧ ∃ τ' : Nat → Int → Int, FLT M' τ' ∧ frX b F S now τ τ' ∧ rVc l τ τ' 0)
theorem frCx_33 {F S g : Int} {M M' : Nat → Int → Int} (h : M' = M) : frC 33 F S g M M' := by rw [h]; exact frC_refl
theorem CK_33 {b now F S l w pl s16 n s : Int} (hl : l = 60 * b + n) (hs16 : s16 = 16 * b + s) : ∀ (m : Nat) (M τ : Nat → Int → Int) (k : Int), (RL b now (M 17) (M 91 3) (M 92) (M 93) (M 94) (M 91 4) (M 91 9) (M 95) (M 33 0) (M 33 1) (M 48 13) (M 91 14) (M 99) (M 100) (M 96) (M 97) (M 98) (M 44) (M 46) (M 47) (M 34) (M 35) (M 36) (M 38) (M 40) (M 42) (M 49) (M 50) (M 51) (M 52) (M 53) (M 54) (M 55) (M 56) (M 57) (M 58) (M 59) (M 60) (M 61) 0 0 (M 48 13) τ) → M 38 now = F → M 40 now = S → M 48 13 = n + 1 → F ≤ n → M 33 1 = s + 1 → S ≤ s → M 49 n = 6 ∧ M 54 n = s → M 98 s = k → (1 ≤ k ∧ k ≤ M 91 4) → M 91 3 - M 91 4 < m → ∀ (d : Nat) (P : Nat → Nat → Nat) (Q : zQ), (∀ (M' : Nat → Int → Int) (r : Int), OC_33 b now F S l w pl s16 τ M M' r → Q (zS (zupN P 91 8 33) M') (some (vI r))) → WP (d + 19) 246 0 0 39 [some (vR 91), some (vI n), some (vI s), some (vI k)] [] (zS (zupN P 91 8 33) M) Q := by
  intro m
  induction m with
  | zero =>
    intro M τ k h _ _ _ _ _ _ _ _ _ hm
    have := (RL_f h).2.2.2.2.2.2.2.2.2.2
    omega
  | succ m ih =>
    intro M τ k h hF hS hn hFn hs hSs hK hk hk1 hm d P Q hQ
    subst hk
    have f := RL_f h
    obtain ⟨fbk, fnv, ⟨f70, n0, n60⟩, ⟨f71, s0, s16'⟩, ⟨f76, F0, Fn⟩, ⟨f78, S0, Sn⟩, ⟨f47, d0, d4⟩, ⟨f11, f12⟩, f74, hNN, hin⟩ := f
    have tkc := h.1.1
    have hv := h.2.2.1.1
    have hst := h.2.2.2.2.2.2.2.2.2.2.2.1 s (by omega) (by omega)
    obtain ⟨_, _, ⟨⟨m0, m1⟩, _, _, o1⟩, _⟩ := hst
    by_cases c41 : M 92 (M 91 4) = 41
    · obtain ⟨τ1, h1, g1, r1⟩ := R_pc_d1 (l := l) (w := w) (p := pl) (s := s16) h (by omega)
      obtain ⟨τ2, h2, g2, r2⟩ := R_pc_z (l := l) (w := w) (p := pl) (s := s16) h1 c41
      rw [hF, hS] at g1 g2
      have rr : rQc l w pl s16 τ τ2 1 := fun d P A Q q => r1 _ _ _ _ (r2 _ _ _ _ q)
      have i1 := nE0 hNN hin (by omega)
      refine readCall_z_33 n s (M 98 s) hin hNN (by omega) c41 (fun e => hQ _ _ (Or.inl ⟨rfl, ?_, (by show M 91 4 < M 91 4 + 2; omega), ?_, τ2, ?_, frX_tr g1 g2, rr⟩)) (fun a1 a2 a3 e y => hQ _ _ (Or.inr (Or.inl ⟨rfl, (by repeat first | exact frO_refl | refine frO_up (by decide) ?_ | refine frO_row (by decide) ?_), M 91 4 + 1, τ2, ?_, e, y.1, y.2, frX_tr g1 g2, rr⟩)))
      · exact frC_up (by decide) (by decide) frC_refl
      · show M 92 (M 91 4 + 2 - 1) = 59
        rw [show M 91 4 + 2 - 1 = M 91 4 + 1 by omega]; exact e
      · rw [show M 91 4 + 1 = M 91 4 + 2 - 1 by omega] at h2; exact h2
      · exact ⟨_, _, _, _, _, _, _, _, _, _, _, _, _, _, _, _, _, _, _, _, _, _, _, _, _, _, _, _, _, _, _, _, _, _, _, _, h2, hF, hS⟩
    · refine readCall_k_33 n s (M 98 s) hin hNN hv (by omega) (by omega) hk1.1 (by omega) c41 ⟨m0, by omega⟩ (fun e ok => ?_) (fun w1 w2 w3 w4 w5 a1 a2 a3 w6 a4 a5 e y => hQ _ _ (Or.inr (Or.inr ⟨rfl, (by repeat first | exact frO_refl | refine frO_up (by decide) ?_ | refine frO_row (by decide) ?_), ?_⟩))) (fun w1 w2 w3 w4 w5 a1 a2 a3 w6 a4 a5 e no y => hQ _ _ (Or.inr (Or.inr ⟨rfl, (by repeat first | exact frO_refl | refine frO_up (by decide) ?_ | refine frO_row (by decide) ?_), ?_⟩)))
      · have i1 := nE0 hNN hin (by omega)
        obtain ⟨τ1, h1, g1, r1⟩ := R_pc_d0 (l := l) (w := w) (p := pl) (s := s16) h e
        obtain ⟨τ2, h2, g2, e2, r2⟩ := R_pc_b (l := l) (w := w) (p := pl) (s := s16) h1 ok
        have i2 := nE1 hNN hin (by omega) (oOK_ne ok)
        have vv := oV_opk hv ok (fun q => (tkq_num h1.1.2.2.2).2 q)
        obtain ⟨τ3, h3, g3, r3⟩ := R_pc_c (l := l) (w := w) (p := pl) (s := s16) h2 hn hn (by omega) hl hs hs16 (by omega) hK vv.1 (by omega) e2
        rw [hF, hS] at g1 g2 g3
        rw [show M 91 4 + 1 + 1 = M 91 4 + 2 by omega, show ∀ x : Int, pO 0 (M 98 s) (M 51) n x = M 51 from fun x => if_neg (by omega)] at h3
        refine ih _ τ3 (M 98 s + 1) ?_ ?_ ?_ ?_ hFn ?_ hSs ?_ ?_ ⟨by omega, ?_⟩ ?_ d P Q (fun M' r oc => hQ M' r ?_)
        · exact h3
        · exact hF
        · exact hS
        · exact hn
        · exact hs
        · exact hK
        · exact zs_pos rfl
        · show M 98 s + 1 ≤ M 91 4 + 2
          omega
        · show M 91 3 - (M 91 4 + 2) < (m : Int)
          omega
        · have gg := frX_tr g1 (frX_tr g2 g3)
          have rt : ∀ (τ' : Nat → Int → Int) (r : Int), rQc l w pl s16 τ3 τ' r → rQc l w pl s16 τ τ' r := fun τ' r q d P A Q k => r1 _ _ _ _ (r2 _ _ _ _ (r3 _ _ _ _ (q _ _ _ _ k)))
          rcases oc with ⟨z1, z0, zi, z2, τ', z3, z4, z5⟩ | ⟨z1, z0, i', τ', z3, z4, z5, z6, z7, z8⟩ | ⟨z1, z0, τ', z3, z4, z5⟩
          · exact Or.inl ⟨z1, frC_tr (frC_up (by decide) (by decide) (frC_up (by decide) (by decide) (frC_up (by decide) (by decide) (frC_st (by decide) (by decide) (fun j q => zs_neg (by omega)) (frC_free (by decide) (by decide) (frC_ln (by decide) (by decide) (fun j q => pO_neg (by omega)) (frC_ln (by decide) (by decide) (fun j q => pO_neg (by omega)) (frC_st (by decide) (by decide) (fun j q => zs_neg (by omega)) frC_refl)))))))) z0, (Int.lt_trans (show M 91 4 < M 91 4 + 2 by omega) zi), z2, τ', z3, frX_tr gg z4, rt _ _ z5⟩
          · exact Or.inr (Or.inl ⟨z1, frO_tr (by repeat first | exact frO_refl | refine frO_up (by decide) ?_ | refine frO_row (by decide) ?_) z0, i', τ', z3, z4, z5, z6, frX_tr gg z7, rt _ _ z8⟩)
          · exact Or.inr (Or.inr ⟨z1, frO_tr (by repeat first | exact frO_refl | refine frO_up (by decide) ?_ | refine frO_row (by decide) ?_) z0, τ', z3, frX_tr gg z4, rt _ _ z5⟩)
      · obtain ⟨τ1, h1, g1, r1⟩ := R_pc_d1 (l := l) (w := w) (p := pl) (s := s16) h e
        obtain ⟨τ2, g2, e2, r2⟩ := R_pc_z_f (l := l) (w := w) (p := pl) (s := s16) h1 c41
        rw [hF, hS] at g1 g2
        refine ⟨τ2, ⟨by show 1 ≤ a4 ∧ a4 ≤ 6; omega, by show 0 ≤ a5 ∧ a5 ≤ 400; rw [y.2]; exact tkC_st tkc hin.1 hin.2, ?_⟩, frX_tr g1 g2, fun d P A Q q => r1 _ _ _ _ (r2 _ _ _ _ q)⟩
        show τ2 467 4 = -1000 * a4 - a5
        rw [e2, y.1, y.2]; rfl
      · have i1 := nE0 hNN hin (by omega)
        obtain ⟨τ1, h1, g1, r1⟩ := R_pc_d0 (l := l) (w := w) (p := pl) (s := s16) h e
        obtain ⟨τ2, g2, e2, r2⟩ := R_pc_b_f (l := l) (w := w) (p := pl) (s := s16) h1 no
        rw [hF, hS] at g1 g2
        have ob := oF_b (s := M 92 (M 91 4 + 1))
        refine ⟨τ2, ⟨by show 1 ≤ a4 ∧ a4 ≤ 6; omega, by show 0 ≤ a5 ∧ a5 ≤ 400; rw [y.2]; exact tkC_st tkc (by omega) i1, ?_⟩, frX_tr g1 g2, fun d P A Q q => r1 _ _ _ _ (r2 _ _ _ _ q)⟩
        show τ2 467 4 = -1000 * a4 - a5
        rw [e2, y.1, y.2]
def OC_62 (b now F S : Int) (l w pl s16 : Int) (τ M M' : Nat → Int → Int) (r : Int) : Prop :=
  (r = 1 ∧ frC 62 F S now M M' ∧ M 91 4 < M' 91 4 ∧ M' 92 (M' 91 4 - 1) = 59 ∧ ∃ τ' : Nat → Int → Int, (RL b now (M' 17) (M' 91 3) (M' 92) (M' 93) (M' 94) (M' 91 4 - 1) (M' 91 9) (M' 95) (M' 62 0) (M' 62 1) (M' 77 13) (M' 91 14) (M' 99) (M' 100) (M' 96) (M' 97) (M' 98) (M' 73) (M' 75) (M' 76) (M' 63) (M' 64) (M' 65) (M' 67) (M' 69) (M' 71) (M' 78) (M' 79) (M' 80) (M' 81) (M' 82) (M' 83) (M' 84) (M' 85) (M' 86) (M' 87) (M' 88) (M' 89) (M' 90) 0 0 (M' 77 13) τ') ∧ frX b F S now τ τ' ∧ rQc l w pl s16 τ τ' 1) ∨
   (r = 0 ∧ frO 62 M M' ∧ ∃ (i' : Int) (τ' : Nat → Int → Int), RX b now F S (M 17) (M 91 3) (M 92) (M 93) (M 94) i' τ' ∧ ¬ M 92 i' = 59 ∧ M' 91 6 = 1 ∧ M' 91 7 = M 93 i' ∧ frX b F S now τ τ' ∧ rQc l w pl s16 τ τ' 1) ∨
   (r = 0 ∧ frO 62 M M' ∧ ∃ τ' : Nat → Int → Int, FLT M' τ' ∧ frX b F S now τ τ' ∧ rQc l w pl s16 τ τ' 0)
def OV_62 (b now F S : Int) (l : Int) (τ M M' : Nat → Int → Int) (r : Int) : Prop :=
  (r = 1 ∧ frC 62 F S now M M' ∧ M 91 4 < M' 91 4 ∧ M' 92 (M' 91 4 - 1) = 59 ∧ ∃ τ' : Nat → Int → Int, (RL b now (M' 17) (M' 91 3) (M' 92) (M' 93) (M' 94) (M' 91 4 - 1) (M' 91 9) (M' 95) (M' 62 0) (M' 62 1) (M' 77 13) (M' 91 14) (M' 99) (M' 100) (M' 96) (M' 97) (M' 98) (M' 73) (M' 75) (M' 76) (M' 63) (M' 64) (M' 65) (M' 67) (M' 69) (M' 71) (M' 78) (M' 79) (M' 80) (M' 81) (M' 82) (M' 83) (M' 84) (M' 85) (M' 86) (M' 87) (M' 88) (M' 89) (M' 90) 0 0 (M' 77 13) τ') ∧ frX b F S now τ τ' ∧ rVc l τ τ' 1) ∨
   (r = 0 ∧ frO 62 M M' ∧ ∃ (i' : Int) (τ' : Nat → Int → Int), RX b now F S (M 17) (M 91 3) (M 92) (M 93) (M 94) i' τ' ∧ ¬ M 92 i' = 59 ∧ M' 91 6 = 1 ∧ M' 91 7 = M 93 i' ∧ frX b F S now τ τ' ∧ rVc l τ τ' 1) ∨
   (r = 0 ∧ frO 62 M M' ∧ ∃ τ' : Nat → Int → Int, FLT M' τ' ∧ frX b F S now τ τ' ∧ rVc l τ τ' 0)
theorem frCx_62 {F S g : Int} {M M' : Nat → Int → Int} (h : M' = M) : frC 62 F S g M M' := by rw [h]; exact frC_refl
theorem CK_62 {b now F S l w pl s16 n s : Int} (hl : l = 60 * b + n) (hs16 : s16 = 16 * b + s) : ∀ (m : Nat) (M τ : Nat → Int → Int) (k : Int), (RL b now (M 17) (M 91 3) (M 92) (M 93) (M 94) (M 91 4) (M 91 9) (M 95) (M 62 0) (M 62 1) (M 77 13) (M 91 14) (M 99) (M 100) (M 96) (M 97) (M 98) (M 73) (M 75) (M 76) (M 63) (M 64) (M 65) (M 67) (M 69) (M 71) (M 78) (M 79) (M 80) (M 81) (M 82) (M 83) (M 84) (M 85) (M 86) (M 87) (M 88) (M 89) (M 90) 0 0 (M 77 13) τ) → M 67 now = F → M 69 now = S → M 77 13 = n + 1 → F ≤ n → M 62 1 = s + 1 → S ≤ s → M 78 n = 6 ∧ M 83 n = s → M 98 s = k → (1 ≤ k ∧ k ≤ M 91 4) → M 91 3 - M 91 4 < m → ∀ (d : Nat) (P : Nat → Nat → Nat) (Q : zQ), (∀ (M' : Nat → Int → Int) (r : Int), OC_62 b now F S l w pl s16 τ M M' r → Q (zS (zupN P 91 8 62) M') (some (vI r))) → WP (d + 19) 246 0 0 39 [some (vR 91), some (vI n), some (vI s), some (vI k)] [] (zS (zupN P 91 8 62) M) Q := by
  intro m
  induction m with
  | zero =>
    intro M τ k h _ _ _ _ _ _ _ _ _ hm
    have := (RL_f h).2.2.2.2.2.2.2.2.2.2
    omega
  | succ m ih =>
    intro M τ k h hF hS hn hFn hs hSs hK hk hk1 hm d P Q hQ
    subst hk
    have f := RL_f h
    obtain ⟨fbk, fnv, ⟨f70, n0, n60⟩, ⟨f71, s0, s16'⟩, ⟨f76, F0, Fn⟩, ⟨f78, S0, Sn⟩, ⟨f47, d0, d4⟩, ⟨f11, f12⟩, f74, hNN, hin⟩ := f
    have tkc := h.1.1
    have hv := h.2.2.1.1
    have hst := h.2.2.2.2.2.2.2.2.2.2.2.1 s (by omega) (by omega)
    obtain ⟨_, _, ⟨⟨m0, m1⟩, _, _, o1⟩, _⟩ := hst
    by_cases c41 : M 92 (M 91 4) = 41
    · obtain ⟨τ1, h1, g1, r1⟩ := R_pc_d1 (l := l) (w := w) (p := pl) (s := s16) h (by omega)
      obtain ⟨τ2, h2, g2, r2⟩ := R_pc_z (l := l) (w := w) (p := pl) (s := s16) h1 c41
      rw [hF, hS] at g1 g2
      have rr : rQc l w pl s16 τ τ2 1 := fun d P A Q q => r1 _ _ _ _ (r2 _ _ _ _ q)
      have i1 := nE0 hNN hin (by omega)
      refine readCall_z_62 n s (M 98 s) hin hNN (by omega) c41 (fun e => hQ _ _ (Or.inl ⟨rfl, ?_, (by show M 91 4 < M 91 4 + 2; omega), ?_, τ2, ?_, frX_tr g1 g2, rr⟩)) (fun a1 a2 a3 e y => hQ _ _ (Or.inr (Or.inl ⟨rfl, (by repeat first | exact frO_refl | refine frO_up (by decide) ?_ | refine frO_row (by decide) ?_), M 91 4 + 1, τ2, ?_, e, y.1, y.2, frX_tr g1 g2, rr⟩)))
      · exact frC_up (by decide) (by decide) frC_refl
      · show M 92 (M 91 4 + 2 - 1) = 59
        rw [show M 91 4 + 2 - 1 = M 91 4 + 1 by omega]; exact e
      · rw [show M 91 4 + 1 = M 91 4 + 2 - 1 by omega] at h2; exact h2
      · exact ⟨_, _, _, _, _, _, _, _, _, _, _, _, _, _, _, _, _, _, _, _, _, _, _, _, _, _, _, _, _, _, _, _, _, _, _, _, h2, hF, hS⟩
    · refine readCall_k_62 n s (M 98 s) hin hNN hv (by omega) (by omega) hk1.1 (by omega) c41 ⟨m0, by omega⟩ (fun e ok => ?_) (fun w1 w2 w3 w4 w5 a1 a2 a3 w6 a4 a5 e y => hQ _ _ (Or.inr (Or.inr ⟨rfl, (by repeat first | exact frO_refl | refine frO_up (by decide) ?_ | refine frO_row (by decide) ?_), ?_⟩))) (fun w1 w2 w3 w4 w5 a1 a2 a3 w6 a4 a5 e no y => hQ _ _ (Or.inr (Or.inr ⟨rfl, (by repeat first | exact frO_refl | refine frO_up (by decide) ?_ | refine frO_row (by decide) ?_), ?_⟩)))
      · have i1 := nE0 hNN hin (by omega)
        obtain ⟨τ1, h1, g1, r1⟩ := R_pc_d0 (l := l) (w := w) (p := pl) (s := s16) h e
        obtain ⟨τ2, h2, g2, e2, r2⟩ := R_pc_b (l := l) (w := w) (p := pl) (s := s16) h1 ok
        have i2 := nE1 hNN hin (by omega) (oOK_ne ok)
        have vv := oV_opk hv ok (fun q => (tkq_num h1.1.2.2.2).2 q)
        obtain ⟨τ3, h3, g3, r3⟩ := R_pc_c (l := l) (w := w) (p := pl) (s := s16) h2 hn hn (by omega) hl hs hs16 (by omega) hK vv.1 (by omega) e2
        rw [hF, hS] at g1 g2 g3
        rw [show M 91 4 + 1 + 1 = M 91 4 + 2 by omega, show ∀ x : Int, pO 0 (M 98 s) (M 80) n x = M 80 from fun x => if_neg (by omega)] at h3
        refine ih _ τ3 (M 98 s + 1) ?_ ?_ ?_ ?_ hFn ?_ hSs ?_ ?_ ⟨by omega, ?_⟩ ?_ d P Q (fun M' r oc => hQ M' r ?_)
        · exact h3
        · exact hF
        · exact hS
        · exact hn
        · exact hs
        · exact hK
        · exact zs_pos rfl
        · show M 98 s + 1 ≤ M 91 4 + 2
          omega
        · show M 91 3 - (M 91 4 + 2) < (m : Int)
          omega
        · have gg := frX_tr g1 (frX_tr g2 g3)
          have rt : ∀ (τ' : Nat → Int → Int) (r : Int), rQc l w pl s16 τ3 τ' r → rQc l w pl s16 τ τ' r := fun τ' r q d P A Q k => r1 _ _ _ _ (r2 _ _ _ _ (r3 _ _ _ _ (q _ _ _ _ k)))
          rcases oc with ⟨z1, z0, zi, z2, τ', z3, z4, z5⟩ | ⟨z1, z0, i', τ', z3, z4, z5, z6, z7, z8⟩ | ⟨z1, z0, τ', z3, z4, z5⟩
          · exact Or.inl ⟨z1, frC_tr (frC_up (by decide) (by decide) (frC_up (by decide) (by decide) (frC_up (by decide) (by decide) (frC_st (by decide) (by decide) (fun j q => zs_neg (by omega)) (frC_free (by decide) (by decide) (frC_ln (by decide) (by decide) (fun j q => pO_neg (by omega)) (frC_ln (by decide) (by decide) (fun j q => pO_neg (by omega)) (frC_st (by decide) (by decide) (fun j q => zs_neg (by omega)) frC_refl)))))))) z0, (Int.lt_trans (show M 91 4 < M 91 4 + 2 by omega) zi), z2, τ', z3, frX_tr gg z4, rt _ _ z5⟩
          · exact Or.inr (Or.inl ⟨z1, frO_tr (by repeat first | exact frO_refl | refine frO_up (by decide) ?_ | refine frO_row (by decide) ?_) z0, i', τ', z3, z4, z5, z6, frX_tr gg z7, rt _ _ z8⟩)
          · exact Or.inr (Or.inr ⟨z1, frO_tr (by repeat first | exact frO_refl | refine frO_up (by decide) ?_ | refine frO_row (by decide) ?_) z0, τ', z3, frX_tr gg z4, rt _ _ z5⟩)
      · obtain ⟨τ1, h1, g1, r1⟩ := R_pc_d1 (l := l) (w := w) (p := pl) (s := s16) h e
        obtain ⟨τ2, g2, e2, r2⟩ := R_pc_z_f (l := l) (w := w) (p := pl) (s := s16) h1 c41
        rw [hF, hS] at g1 g2
        refine ⟨τ2, ⟨by show 1 ≤ a4 ∧ a4 ≤ 6; omega, by show 0 ≤ a5 ∧ a5 ≤ 400; rw [y.2]; exact tkC_st tkc hin.1 hin.2, ?_⟩, frX_tr g1 g2, fun d P A Q q => r1 _ _ _ _ (r2 _ _ _ _ q)⟩
        show τ2 467 4 = -1000 * a4 - a5
        rw [e2, y.1, y.2]; rfl
      · have i1 := nE0 hNN hin (by omega)
        obtain ⟨τ1, h1, g1, r1⟩ := R_pc_d0 (l := l) (w := w) (p := pl) (s := s16) h e
        obtain ⟨τ2, g2, e2, r2⟩ := R_pc_b_f (l := l) (w := w) (p := pl) (s := s16) h1 no
        rw [hF, hS] at g1 g2
        have ob := oF_b (s := M 92 (M 91 4 + 1))
        refine ⟨τ2, ⟨by show 1 ≤ a4 ∧ a4 ≤ 6; omega, by show 0 ≤ a5 ∧ a5 ≤ 400; rw [y.2]; exact tkC_st tkc (by omega) i1, ?_⟩, frX_tr g1 g2, fun d P A Q q => r1 _ _ _ _ (r2 _ _ _ _ q)⟩
        show τ2 467 4 = -1000 * a4 - a5
        rw [e2, y.1, y.2]
def OM_33 (b now F S : Int) (l w pl s16 : Int) (τ M M' : Nat → Int → Int) (r : Int) : Prop :=
  (r = 1 ∧ frC 33 F S now M M' ∧ M 91 4 < M' 91 4 ∧ M' 92 (M' 91 4 - 1) = 59 ∧ ∃ τ' : Nat → Int → Int, (RL b now (M' 17) (M' 91 3) (M' 92) (M' 93) (M' 94) (M' 91 4 - 1) (M' 91 9) (M' 95) (M' 33 0) (M' 33 1) (M' 48 13) (M' 91 14) (M' 99) (M' 100) (M' 96) (M' 97) (M' 98) (M' 44) (M' 46) (M' 47) (M' 34) (M' 35) (M' 36) (M' 38) (M' 40) (M' 42) (M' 49) (M' 50) (M' 51) (M' 52) (M' 53) (M' 54) (M' 55) (M' 56) (M' 57) (M' 58) (M' 59) (M' 60) (M' 61) 0 0 (M' 48 13) τ') ∧ frX b F S now τ τ' ∧ rMc l w pl s16 τ τ' 1) ∨
   (r = 0 ∧ frO 33 M M' ∧ ∃ (i' : Int) (τ' : Nat → Int → Int), RX b now F S (M 17) (M 91 3) (M 92) (M 93) (M 94) i' τ' ∧ ¬ M 92 i' = 59 ∧ M' 91 6 = 1 ∧ M' 91 7 = M 93 i' ∧ frX b F S now τ τ' ∧ rMc l w pl s16 τ τ' 1) ∨
   (r = 0 ∧ frO 33 M M' ∧ ∃ τ' : Nat → Int → Int, FLT M' τ' ∧ frX b F S now τ τ' ∧ rMc l w pl s16 τ τ' 0)
theorem C0_33 {b now F S l w pl s16 n s : Int} {M τ : Nat → Int → Int} (hl : l = 60 * b + n) (hs16 : s16 = 16 * b + s) (h : (RL b now (M 17) (M 91 3) (M 92) (M 93) (M 94) (M 91 4) (M 91 9) (M 95) (M 33 0) (M 33 1) (M 48 13) (M 91 14) (M 99) (M 100) (M 96) (M 97) (M 98) (M 44) (M 46) (M 47) (M 34) (M 35) (M 36) (M 38) (M 40) (M 42) (M 49) (M 50) (M 51) (M 52) (M 53) (M 54) (M 55) (M 56) (M 57) (M 58) (M 59) (M 60) (M 61) 0 0 (M 48 13) τ)) (hF : M 38 now = F) (hS : M 40 now = S) (hn : M 48 13 = n + 1) (hFn : F ≤ n) (hs : M 33 1 = s + 1) (hSs : S ≤ s) (hK : M 49 n = 6 ∧ M 54 n = s) (hk : M 98 s = 0) (hi : 1 ≤ M 91 4) (d : Nat) (P : Nat → Nat → Nat) (Q : zQ) (hQ : ∀ (M' : Nat → Int → Int) (r : Int), OM_33 b now F S l w pl s16 τ M M' r → Q (zS (zupN P 91 8 33) M') (some (vI r))) : WP (d + 19) 246 0 0 39 [some (vR 91), some (vI n), some (vI s), some (vI 0)] [] (zS (zupN P 91 8 33) M) Q := by
  have f := RL_f h
  obtain ⟨fbk, fnv, ⟨f70, n0, n60⟩, ⟨f71, s0, s16'⟩, ⟨f76, F0, Fn⟩, ⟨f78, S0, Sn⟩, ⟨f47, d0, d4⟩, ⟨f11, f12⟩, f74, hNN, hin⟩ := f
  have tkc := h.1.1
  have hv := h.2.2.1.1
  have hst := h.2.2.2.2.2.2.2.2.2.2.2.1 s (by omega) (by omega)
  obtain ⟨_, _, ⟨⟨m0, m1⟩, _, _, o1⟩, _⟩ := hst
  by_cases c41 : M 92 (M 91 4) = 41
  · obtain ⟨τ1, h1, g1, r1⟩ := R_pc_m0 (l := l) (w := w) (p := pl) (s := s16) h c41
    obtain ⟨τ2, h2, g2, r2⟩ := R_pc_z (l := l) (w := w) (p := pl) (s := s16) h1 c41
    rw [hF, hS] at g1 g2
    have rr : rMc l w pl s16 τ τ2 1 := fun d P A Q y q => r1 _ _ _ _ y (r2 _ _ _ _ q)
    have i1 := nE0 hNN hin (by omega)
    refine readCall_z_33 n s 0 hin hNN (by omega) c41 (fun e => hQ _ _ (Or.inl ⟨rfl, ?_, (by show M 91 4 < M 91 4 + 2; omega), ?_, τ2, ?_, frX_tr g1 g2, rr⟩)) (fun a1 a2 a3 e y => hQ _ _ (Or.inr (Or.inl ⟨rfl, (by repeat first | exact frO_refl | refine frO_up (by decide) ?_ | refine frO_row (by decide) ?_), M 91 4 + 1, τ2, ?_, e, y.1, y.2, frX_tr g1 g2, rr⟩)))
    · exact frC_up (by decide) (by decide) frC_refl
    · show M 92 (M 91 4 + 2 - 1) = 59
      rw [show M 91 4 + 2 - 1 = M 91 4 + 1 by omega]; exact e
    · rw [show M 91 4 + 1 = M 91 4 + 2 - 1 by omega] at h2; exact h2
    · exact ⟨_, _, _, _, _, _, _, _, _, _, _, _, _, _, _, _, _, _, _, _, _, _, _, _, _, _, _, _, _, _, _, _, _, _, _, _, h2, hF, hS⟩
  · obtain ⟨τ1, h1, g1, r1⟩ := R_pc_m1 (l := l) (w := w) (p := pl) (s := s16) h c41
    refine readCall_0_33 n s hin hNN hv (by omega) (by omega) c41 ⟨m0, by omega⟩ (fun ok => ?_) (fun w1 w2 w3 w4 w5 a1 a2 a3 w6 a4 a5 no y => hQ _ _ (Or.inr (Or.inr ⟨rfl, (by repeat first | exact frO_refl | refine frO_up (by decide) ?_ | refine frO_row (by decide) ?_), ?_⟩)))
    · obtain ⟨τ2, h2, g2, e2, r2⟩ := R_pc_b (l := l) (w := w) (p := pl) (s := s16) h1 ok
      have i1 := nE0 hNN hin (oOK_ne ok)
      have vv := oV_opk hv ok (fun q => (tkq_num h1.1.2.2.2).2 q)
      obtain ⟨τ3, h3, g3, r3⟩ := R_pc_c (l := l) (w := w) (p := pl) (s := s16) h2 hn hn (by omega) hl hs hs16 (by omega) hK vv.1 (by omega) e2
      rw [hF, hS] at g1 g2 g3
      rw [hk, show ∀ (r : Int → Int) (x : Int), pO 0 0 r n x = zs r n x from fun _ _ => if_pos rfl, show ∀ (r : Int → Int) (x : Int), pO 1 0 r n x = r from fun _ _ => if_neg (by decide), show ∀ (r : Int → Int) (x : Int), pO 2 0 r n x = r from fun _ _ => if_neg (by decide)] at h3
      refine CK_33 (now := now) (w := w) (pl := pl) hl hs16 ((M 91 3 - M 91 4).toNat + 1) _ τ3 1 ?_ ?_ ?_ ?_ hFn ?_ hSs ?_ ?_ ⟨by omega, ?_⟩ ?_ d P Q (fun M' r oc => hQ M' r ?_)
      · exact h3
      · exact hF
      · exact hS
      · exact hn
      · exact hs
      · exact hK
      · exact zs_pos rfl
      · show 1 ≤ M 91 4 + 1
        omega
      · show M 91 3 - (M 91 4 + 1) < (((M 91 3 - M 91 4).toNat + 1 : Nat) : Int)
        omega
      · have gg := frX_tr g1 (frX_tr g2 g3)
        have rt : ∀ (τ' : Nat → Int → Int) (r : Int), rQc l w pl s16 τ3 τ' r → rMc l w pl s16 τ τ' r := fun τ' r q d P A Q y k => r1 _ _ _ _ y (r2 _ _ _ _ (r3 _ _ _ _ (q _ _ _ _ k)))
        rcases oc with ⟨z1, z0, zi, z2, τ', z3, z4, z5⟩ | ⟨z1, z0, i', τ', z3, z4, z5, z6, z7, z8⟩ | ⟨z1, z0, τ', z3, z4, z5⟩
        · exact Or.inl ⟨z1, frC_tr (frC_up (by decide) (by decide) (frC_up (by decide) (by decide) (frC_up (by decide) (by decide) (frC_st (by decide) (by decide) (fun j q => zs_neg (by omega)) (frC_free (by decide) (by decide) (frC_ln (by decide) (by decide) (fun j q => zs_neg (by omega)) (frC_st (by decide) (by decide) (fun j q => zs_neg (by omega)) frC_refl))))))) z0, (Int.lt_trans (show M 91 4 < M 91 4 + 1 by omega) zi), z2, τ', z3, frX_tr gg z4, rt _ _ z5⟩
        · exact Or.inr (Or.inl ⟨z1, frO_tr (by repeat first | exact frO_refl | refine frO_up (by decide) ?_ | refine frO_row (by decide) ?_) z0, i', τ', z3, z4, z5, z6, frX_tr gg z7, rt _ _ z8⟩)
        · exact Or.inr (Or.inr ⟨z1, frO_tr (by repeat first | exact frO_refl | refine frO_up (by decide) ?_ | refine frO_row (by decide) ?_) z0, τ', z3, frX_tr gg z4, rt _ _ z5⟩)
    · obtain ⟨τ2, g2, e2, r2⟩ := R_pc_b_f (l := l) (w := w) (p := pl) (s := s16) h1 no
      rw [hF, hS] at g1 g2
      have ob := oF_b (s := M 92 (M 91 4))
      refine ⟨τ2, ⟨by show 1 ≤ a4 ∧ a4 ≤ 6; omega, by show 0 ≤ a5 ∧ a5 ≤ 400; rw [y.2]; exact tkC_st tkc hin.1 hin.2, ?_⟩, frX_tr g1 g2, fun d P A Q y' q => r1 _ _ _ _ y' (r2 _ _ _ _ q)⟩
      show τ2 467 4 = -1000 * a4 - a5
      rw [e2, y.1, y.2]
theorem wcc_246_33 {d : Nat} {P : Nat → Nat → Nat} {M : Nat → Int → Int} {Q : zQ} {n : Int} (h : WP (d + 19) 246 0 0 0 [some (vR 91), some (vI n), none, none] [] (zS P M) Q) : WC (d + 20) 246 [vR 91, vI n] (zS P M) Q := ⟨_, rfl, h⟩
theorem CB_33 {b now F S l n : Int} {M τ : Nat → Int → Int} (hl : l = 60 * b + n) (h : (RL b now (M 17) (M 91 3) (M 92) (M 93) (M 94) (M 91 4) (M 91 9) (M 95) (M 33 0) (M 33 1) (M 48 13) (M 91 14) (M 99) (M 100) (M 96) (M 97) (M 98) (M 44) (M 46) (M 47) (M 34) (M 35) (M 36) (M 38) (M 40) (M 42) (M 49) (M 50) (M 51) (M 52) (M 53) (M 54) (M 55) (M 56) (M 57) (M 58) (M 59) (M 60) (M 61) 0 0 n τ)) (hF : M 38 now = F) (hS : M 40 now = S) (hn : M 48 13 = n + 1) (hFn : F ≤ n) (hs : M 92 (M 91 4) = -2) (h40 : M 92 (M 91 4 + 1) = 40) (h0 : M 49 n = 0) (hd : M 55 n = M 91 14) (hx : (0 ≤ M 50 n ∧ M 50 n < M 91 9) ∧ M 51 n = -2 ∧ M 52 n = -2 ∧ M 53 n = -2) (d : Nat) (P : Nat → Nat → Nat) (Q : zQ) (hQ : ∀ (M' : Nat → Int → Int) (r : Int), OV_33 b now F S l τ M M' r → Q (zS (zupN P 91 8 33) M') (some (vI r))) : WC (d + 20) 246 [vR 91, vI n] (zS (zupN P 91 8 33) M) Q := by
  have f := RL_f h
  obtain ⟨fbk, fnv, ⟨f70, n0, n60⟩, ⟨f71, s0, s16'⟩, ⟨f76, F0, Fn⟩, ⟨f78, S0, Sn⟩, ⟨f47, d0, d4⟩, ⟨f11, f12⟩, f74, hNN, hin⟩ := f
  have tkc := h.1.1
  have hv := h.2.2.1.1
  have nf1 := h.2.1.2.2.1
  refine wcc_246_33 ?_
  have i1 := nE0 hNN hin (by omega)
  refine readCall_a_33 n hin hNN (by omega) (by omega) ⟨by omega, by omega⟩ (by omega) h40 (fun c16 => ?_) (fun a1 w1 w2 w3 w4 w5 w6 w7 w8 a2 a3 a4 c16 y => hQ _ _ (Or.inr (Or.inr ⟨rfl, (by repeat first | exact frO_refl | refine frO_up (by decide) ?_ | refine frO_row (by decide) ?_), ?_⟩)))
  · obtain ⟨τ1, h1, g1, r1⟩ := V_call h hs h40 rfl hn (by omega) hl h0 hd c16 hx
    rw [hF, hS] at g1
    rw [show M 91 4 + 1 + 1 = M 91 4 + 2 by omega, ← hn] at h1
    refine C0_33 (now := now) (τ := τ1) (w := M 94 (M 91 4)) (pl := M 93 (M 91 4)) (F := F) (S := S) hl (s16 := 16 * b + M 33 1) rfl ?_ ?_ ?_ ?_ hFn ?_ ?_ ?_ ?_ ?_ d P Q (fun M' r oc => hQ M' r ?_)
    · exact h1
    · exact hF
    · exact hS
    · exact hn
    · rfl
    · omega
    · exact ⟨zs_pos rfl, zs_pos rfl⟩
    · exact zs_pos rfl
    · show 1 ≤ M 91 4 + 2
      omega
    · rcases oc with ⟨z1, z0, zi, z2, τ', z3, z4, z5⟩ | ⟨z1, z0, i', τ', z3, z4, z5, z6, z7, z8⟩ | ⟨z1, z0, τ', z3, z4, z5⟩
      · exact Or.inl ⟨z1, frC_tr (frC_up (by decide) (by decide) (frC_up (by decide) (by decide) (frC_st (by decide) (by decide) (fun j q => zs_neg (by omega)) (frC_st (by decide) (by decide) (fun j q => zs_neg (by omega)) (frC_st (by decide) (by decide) (fun j q => zs_neg (by omega)) (frC_ln (by decide) (by decide) (fun j q => zs_neg (by omega)) (frC_ln (by decide) (by decide) (fun j q => zs_neg (by omega)) (frC_st (by decide) (by decide) (fun j q => zs_neg (by omega)) (frC_st (by decide) (by decide) (fun j q => zs_neg (by omega)) (frC_st (by decide) (by decide) (fun j q => zs_neg (by omega)) frC_refl)))))))))) z0, (Int.lt_trans (show M 91 4 < M 91 4 + 2 by omega) zi), z2, τ', z3, frX_tr g1 z4, r1 _ _ (Or.inr rfl) z5⟩
      · exact Or.inr (Or.inl ⟨z1, frO_tr (by repeat first | exact frO_refl | refine frO_up (by decide) ?_ | refine frO_row (by decide) ?_) z0, i', τ', z3, z4, z5, z6, frX_tr g1 z7, r1 _ _ (Or.inr rfl) z8⟩)
      · exact Or.inr (Or.inr ⟨z1, frO_tr (by repeat first | exact frO_refl | refine frO_up (by decide) ?_ | refine frO_row (by decide) ?_) z0, τ', z3, frX_tr g1 z4, r1 _ _ (Or.inl rfl) z5⟩)
  · obtain ⟨τ1, g1, e1, r1⟩ := V_call_f (l := l) h hs h40 (by omega) (by omega)
    rw [hF, hS] at g1
    refine ⟨τ1, ⟨by show 1 ≤ a3 ∧ a3 ≤ 6; omega, by show 0 ≤ a4 ∧ a4 ≤ 400; rw [y.2]; exact tkC_st tkc hin.1 hin.2, ?_⟩, g1, r1⟩
    show τ1 467 4 = -1000 * a3 - a4
    rw [e1, y.1, y.2]; omega
def OM_62 (b now F S : Int) (l w pl s16 : Int) (τ M M' : Nat → Int → Int) (r : Int) : Prop :=
  (r = 1 ∧ frC 62 F S now M M' ∧ M 91 4 < M' 91 4 ∧ M' 92 (M' 91 4 - 1) = 59 ∧ ∃ τ' : Nat → Int → Int, (RL b now (M' 17) (M' 91 3) (M' 92) (M' 93) (M' 94) (M' 91 4 - 1) (M' 91 9) (M' 95) (M' 62 0) (M' 62 1) (M' 77 13) (M' 91 14) (M' 99) (M' 100) (M' 96) (M' 97) (M' 98) (M' 73) (M' 75) (M' 76) (M' 63) (M' 64) (M' 65) (M' 67) (M' 69) (M' 71) (M' 78) (M' 79) (M' 80) (M' 81) (M' 82) (M' 83) (M' 84) (M' 85) (M' 86) (M' 87) (M' 88) (M' 89) (M' 90) 0 0 (M' 77 13) τ') ∧ frX b F S now τ τ' ∧ rMc l w pl s16 τ τ' 1) ∨
   (r = 0 ∧ frO 62 M M' ∧ ∃ (i' : Int) (τ' : Nat → Int → Int), RX b now F S (M 17) (M 91 3) (M 92) (M 93) (M 94) i' τ' ∧ ¬ M 92 i' = 59 ∧ M' 91 6 = 1 ∧ M' 91 7 = M 93 i' ∧ frX b F S now τ τ' ∧ rMc l w pl s16 τ τ' 1) ∨
   (r = 0 ∧ frO 62 M M' ∧ ∃ τ' : Nat → Int → Int, FLT M' τ' ∧ frX b F S now τ τ' ∧ rMc l w pl s16 τ τ' 0)
theorem C0_62 {b now F S l w pl s16 n s : Int} {M τ : Nat → Int → Int} (hl : l = 60 * b + n) (hs16 : s16 = 16 * b + s) (h : (RL b now (M 17) (M 91 3) (M 92) (M 93) (M 94) (M 91 4) (M 91 9) (M 95) (M 62 0) (M 62 1) (M 77 13) (M 91 14) (M 99) (M 100) (M 96) (M 97) (M 98) (M 73) (M 75) (M 76) (M 63) (M 64) (M 65) (M 67) (M 69) (M 71) (M 78) (M 79) (M 80) (M 81) (M 82) (M 83) (M 84) (M 85) (M 86) (M 87) (M 88) (M 89) (M 90) 0 0 (M 77 13) τ)) (hF : M 67 now = F) (hS : M 69 now = S) (hn : M 77 13 = n + 1) (hFn : F ≤ n) (hs : M 62 1 = s + 1) (hSs : S ≤ s) (hK : M 78 n = 6 ∧ M 83 n = s) (hk : M 98 s = 0) (hi : 1 ≤ M 91 4) (d : Nat) (P : Nat → Nat → Nat) (Q : zQ) (hQ : ∀ (M' : Nat → Int → Int) (r : Int), OM_62 b now F S l w pl s16 τ M M' r → Q (zS (zupN P 91 8 62) M') (some (vI r))) : WP (d + 19) 246 0 0 39 [some (vR 91), some (vI n), some (vI s), some (vI 0)] [] (zS (zupN P 91 8 62) M) Q := by
  have f := RL_f h
  obtain ⟨fbk, fnv, ⟨f70, n0, n60⟩, ⟨f71, s0, s16'⟩, ⟨f76, F0, Fn⟩, ⟨f78, S0, Sn⟩, ⟨f47, d0, d4⟩, ⟨f11, f12⟩, f74, hNN, hin⟩ := f
  have tkc := h.1.1
  have hv := h.2.2.1.1
  have hst := h.2.2.2.2.2.2.2.2.2.2.2.1 s (by omega) (by omega)
  obtain ⟨_, _, ⟨⟨m0, m1⟩, _, _, o1⟩, _⟩ := hst
  by_cases c41 : M 92 (M 91 4) = 41
  · obtain ⟨τ1, h1, g1, r1⟩ := R_pc_m0 (l := l) (w := w) (p := pl) (s := s16) h c41
    obtain ⟨τ2, h2, g2, r2⟩ := R_pc_z (l := l) (w := w) (p := pl) (s := s16) h1 c41
    rw [hF, hS] at g1 g2
    have rr : rMc l w pl s16 τ τ2 1 := fun d P A Q y q => r1 _ _ _ _ y (r2 _ _ _ _ q)
    have i1 := nE0 hNN hin (by omega)
    refine readCall_z_62 n s 0 hin hNN (by omega) c41 (fun e => hQ _ _ (Or.inl ⟨rfl, ?_, (by show M 91 4 < M 91 4 + 2; omega), ?_, τ2, ?_, frX_tr g1 g2, rr⟩)) (fun a1 a2 a3 e y => hQ _ _ (Or.inr (Or.inl ⟨rfl, (by repeat first | exact frO_refl | refine frO_up (by decide) ?_ | refine frO_row (by decide) ?_), M 91 4 + 1, τ2, ?_, e, y.1, y.2, frX_tr g1 g2, rr⟩)))
    · exact frC_up (by decide) (by decide) frC_refl
    · show M 92 (M 91 4 + 2 - 1) = 59
      rw [show M 91 4 + 2 - 1 = M 91 4 + 1 by omega]; exact e
    · rw [show M 91 4 + 1 = M 91 4 + 2 - 1 by omega] at h2; exact h2
    · exact ⟨_, _, _, _, _, _, _, _, _, _, _, _, _, _, _, _, _, _, _, _, _, _, _, _, _, _, _, _, _, _, _, _, _, _, _, _, h2, hF, hS⟩
  · obtain ⟨τ1, h1, g1, r1⟩ := R_pc_m1 (l := l) (w := w) (p := pl) (s := s16) h c41
    refine readCall_0_62 n s hin hNN hv (by omega) (by omega) c41 ⟨m0, by omega⟩ (fun ok => ?_) (fun w1 w2 w3 w4 w5 a1 a2 a3 w6 a4 a5 no y => hQ _ _ (Or.inr (Or.inr ⟨rfl, (by repeat first | exact frO_refl | refine frO_up (by decide) ?_ | refine frO_row (by decide) ?_), ?_⟩)))
    · obtain ⟨τ2, h2, g2, e2, r2⟩ := R_pc_b (l := l) (w := w) (p := pl) (s := s16) h1 ok
      have i1 := nE0 hNN hin (oOK_ne ok)
      have vv := oV_opk hv ok (fun q => (tkq_num h1.1.2.2.2).2 q)
      obtain ⟨τ3, h3, g3, r3⟩ := R_pc_c (l := l) (w := w) (p := pl) (s := s16) h2 hn hn (by omega) hl hs hs16 (by omega) hK vv.1 (by omega) e2
      rw [hF, hS] at g1 g2 g3
      rw [hk, show ∀ (r : Int → Int) (x : Int), pO 0 0 r n x = zs r n x from fun _ _ => if_pos rfl, show ∀ (r : Int → Int) (x : Int), pO 1 0 r n x = r from fun _ _ => if_neg (by decide), show ∀ (r : Int → Int) (x : Int), pO 2 0 r n x = r from fun _ _ => if_neg (by decide)] at h3
      refine CK_62 (now := now) (w := w) (pl := pl) hl hs16 ((M 91 3 - M 91 4).toNat + 1) _ τ3 1 ?_ ?_ ?_ ?_ hFn ?_ hSs ?_ ?_ ⟨by omega, ?_⟩ ?_ d P Q (fun M' r oc => hQ M' r ?_)
      · exact h3
      · exact hF
      · exact hS
      · exact hn
      · exact hs
      · exact hK
      · exact zs_pos rfl
      · show 1 ≤ M 91 4 + 1
        omega
      · show M 91 3 - (M 91 4 + 1) < (((M 91 3 - M 91 4).toNat + 1 : Nat) : Int)
        omega
      · have gg := frX_tr g1 (frX_tr g2 g3)
        have rt : ∀ (τ' : Nat → Int → Int) (r : Int), rQc l w pl s16 τ3 τ' r → rMc l w pl s16 τ τ' r := fun τ' r q d P A Q y k => r1 _ _ _ _ y (r2 _ _ _ _ (r3 _ _ _ _ (q _ _ _ _ k)))
        rcases oc with ⟨z1, z0, zi, z2, τ', z3, z4, z5⟩ | ⟨z1, z0, i', τ', z3, z4, z5, z6, z7, z8⟩ | ⟨z1, z0, τ', z3, z4, z5⟩
        · exact Or.inl ⟨z1, frC_tr (frC_up (by decide) (by decide) (frC_up (by decide) (by decide) (frC_up (by decide) (by decide) (frC_st (by decide) (by decide) (fun j q => zs_neg (by omega)) (frC_free (by decide) (by decide) (frC_ln (by decide) (by decide) (fun j q => zs_neg (by omega)) (frC_st (by decide) (by decide) (fun j q => zs_neg (by omega)) frC_refl))))))) z0, (Int.lt_trans (show M 91 4 < M 91 4 + 1 by omega) zi), z2, τ', z3, frX_tr gg z4, rt _ _ z5⟩
        · exact Or.inr (Or.inl ⟨z1, frO_tr (by repeat first | exact frO_refl | refine frO_up (by decide) ?_ | refine frO_row (by decide) ?_) z0, i', τ', z3, z4, z5, z6, frX_tr gg z7, rt _ _ z8⟩)
        · exact Or.inr (Or.inr ⟨z1, frO_tr (by repeat first | exact frO_refl | refine frO_up (by decide) ?_ | refine frO_row (by decide) ?_) z0, τ', z3, frX_tr gg z4, rt _ _ z5⟩)
    · obtain ⟨τ2, g2, e2, r2⟩ := R_pc_b_f (l := l) (w := w) (p := pl) (s := s16) h1 no
      rw [hF, hS] at g1 g2
      have ob := oF_b (s := M 92 (M 91 4))
      refine ⟨τ2, ⟨by show 1 ≤ a4 ∧ a4 ≤ 6; omega, by show 0 ≤ a5 ∧ a5 ≤ 400; rw [y.2]; exact tkC_st tkc hin.1 hin.2, ?_⟩, frX_tr g1 g2, fun d P A Q y' q => r1 _ _ _ _ y' (r2 _ _ _ _ q)⟩
      show τ2 467 4 = -1000 * a4 - a5
      rw [e2, y.1, y.2]
theorem wcc_246_62 {d : Nat} {P : Nat → Nat → Nat} {M : Nat → Int → Int} {Q : zQ} {n : Int} (h : WP (d + 19) 246 0 0 0 [some (vR 91), some (vI n), none, none] [] (zS P M) Q) : WC (d + 20) 246 [vR 91, vI n] (zS P M) Q := ⟨_, rfl, h⟩
theorem CB_62 {b now F S l n : Int} {M τ : Nat → Int → Int} (hl : l = 60 * b + n) (h : (RL b now (M 17) (M 91 3) (M 92) (M 93) (M 94) (M 91 4) (M 91 9) (M 95) (M 62 0) (M 62 1) (M 77 13) (M 91 14) (M 99) (M 100) (M 96) (M 97) (M 98) (M 73) (M 75) (M 76) (M 63) (M 64) (M 65) (M 67) (M 69) (M 71) (M 78) (M 79) (M 80) (M 81) (M 82) (M 83) (M 84) (M 85) (M 86) (M 87) (M 88) (M 89) (M 90) 0 0 n τ)) (hF : M 67 now = F) (hS : M 69 now = S) (hn : M 77 13 = n + 1) (hFn : F ≤ n) (hs : M 92 (M 91 4) = -2) (h40 : M 92 (M 91 4 + 1) = 40) (h0 : M 78 n = 0) (hd : M 84 n = M 91 14) (hx : (0 ≤ M 79 n ∧ M 79 n < M 91 9) ∧ M 80 n = -2 ∧ M 81 n = -2 ∧ M 82 n = -2) (d : Nat) (P : Nat → Nat → Nat) (Q : zQ) (hQ : ∀ (M' : Nat → Int → Int) (r : Int), OV_62 b now F S l τ M M' r → Q (zS (zupN P 91 8 62) M') (some (vI r))) : WC (d + 20) 246 [vR 91, vI n] (zS (zupN P 91 8 62) M) Q := by
  have f := RL_f h
  obtain ⟨fbk, fnv, ⟨f70, n0, n60⟩, ⟨f71, s0, s16'⟩, ⟨f76, F0, Fn⟩, ⟨f78, S0, Sn⟩, ⟨f47, d0, d4⟩, ⟨f11, f12⟩, f74, hNN, hin⟩ := f
  have tkc := h.1.1
  have hv := h.2.2.1.1
  have nf1 := h.2.1.2.2.1
  refine wcc_246_62 ?_
  have i1 := nE0 hNN hin (by omega)
  refine readCall_a_62 n hin hNN (by omega) (by omega) ⟨by omega, by omega⟩ (by omega) h40 (fun c16 => ?_) (fun a1 w1 w2 w3 w4 w5 w6 w7 w8 a2 a3 a4 c16 y => hQ _ _ (Or.inr (Or.inr ⟨rfl, (by repeat first | exact frO_refl | refine frO_up (by decide) ?_ | refine frO_row (by decide) ?_), ?_⟩)))
  · obtain ⟨τ1, h1, g1, r1⟩ := V_call h hs h40 rfl hn (by omega) hl h0 hd c16 hx
    rw [hF, hS] at g1
    rw [show M 91 4 + 1 + 1 = M 91 4 + 2 by omega, ← hn] at h1
    refine C0_62 (now := now) (τ := τ1) (w := M 94 (M 91 4)) (pl := M 93 (M 91 4)) (F := F) (S := S) hl (s16 := 16 * b + M 62 1) rfl ?_ ?_ ?_ ?_ hFn ?_ ?_ ?_ ?_ ?_ d P Q (fun M' r oc => hQ M' r ?_)
    · exact h1
    · exact hF
    · exact hS
    · exact hn
    · rfl
    · omega
    · exact ⟨zs_pos rfl, zs_pos rfl⟩
    · exact zs_pos rfl
    · show 1 ≤ M 91 4 + 2
      omega
    · rcases oc with ⟨z1, z0, zi, z2, τ', z3, z4, z5⟩ | ⟨z1, z0, i', τ', z3, z4, z5, z6, z7, z8⟩ | ⟨z1, z0, τ', z3, z4, z5⟩
      · exact Or.inl ⟨z1, frC_tr (frC_up (by decide) (by decide) (frC_up (by decide) (by decide) (frC_st (by decide) (by decide) (fun j q => zs_neg (by omega)) (frC_st (by decide) (by decide) (fun j q => zs_neg (by omega)) (frC_st (by decide) (by decide) (fun j q => zs_neg (by omega)) (frC_ln (by decide) (by decide) (fun j q => zs_neg (by omega)) (frC_ln (by decide) (by decide) (fun j q => zs_neg (by omega)) (frC_st (by decide) (by decide) (fun j q => zs_neg (by omega)) (frC_st (by decide) (by decide) (fun j q => zs_neg (by omega)) (frC_st (by decide) (by decide) (fun j q => zs_neg (by omega)) frC_refl)))))))))) z0, (Int.lt_trans (show M 91 4 < M 91 4 + 2 by omega) zi), z2, τ', z3, frX_tr g1 z4, r1 _ _ (Or.inr rfl) z5⟩
      · exact Or.inr (Or.inl ⟨z1, frO_tr (by repeat first | exact frO_refl | refine frO_up (by decide) ?_ | refine frO_row (by decide) ?_) z0, i', τ', z3, z4, z5, z6, frX_tr g1 z7, r1 _ _ (Or.inr rfl) z8⟩)
      · exact Or.inr (Or.inr ⟨z1, frO_tr (by repeat first | exact frO_refl | refine frO_up (by decide) ?_ | refine frO_row (by decide) ?_) z0, τ', z3, frX_tr g1 z4, r1 _ _ (Or.inl rfl) z5⟩)
  · obtain ⟨τ1, g1, e1, r1⟩ := V_call_f (l := l) h hs h40 (by omega) (by omega)
    rw [hF, hS] at g1
    refine ⟨τ1, ⟨by show 1 ≤ a3 ∧ a3 ≤ 6; omega, by show 0 ≤ a4 ∧ a4 ≤ 400; rw [y.2]; exact tkC_st tkc hin.1 hin.2, ?_⟩, g1, r1⟩
    show τ1 467 4 = -1000 * a3 - a4
    rw [e1, y.1, y.2]; omega
theorem lk_0 {v n x t : Int} {K TG FI SE TH SI cO : Int → Int} (h0 : K n = 0) (ht : 0 ≤ TG n ∧ TG n < v) (hx : opk v x) (hs : SE n = -2) (hh : TH n = -2) : lk v K TG (zs FI n x) SE TH SI cO n := by
  unfold lk
  rw [zs_pos rfl, h0, hs, hh]
  exact ⟨by omega, fun _ => hx, fun q => by omega, fun _ => ht, fun _ => rfl, fun q => by omega, fun q => by omega, Or.inr hx, Or.inl rfl, Or.inl rfl⟩
theorem lk_2 {v n x y k : Int} {K TG FI SE TH SI cO : Int → Int} (hk : 1 ≤ k ∧ k ≤ 5) (ht : 0 ≤ TG n ∧ TG n < v) (hx : opk v x) (hy : opk v y) (hh : TH n = -2) : lk v (zs K n k) TG (zs FI n x) (zs SE n y) TH SI cO n := by
  unfold lk
  rw [zs_pos rfl, zs_pos rfl, zs_pos rfl, hh]
  exact ⟨by omega, fun _ => hx, fun _ => hy, fun _ => ht, fun q => by omega, fun q => by omega, fun q => by omega, Or.inr hx, Or.inr hy, Or.inl rfl⟩
theorem VW_33 {b now F S l n : Int} {M τ : Nat → Int → Int} (hl : l = 60 * b + n) (h : (RL b now (M 17) (M 91 3) (M 92) (M 93) (M 94) (M 91 4) (M 91 9) (M 95) (M 33 0) (M 33 1) (M 48 13) (M 91 14) (M 99) (M 100) (M 96) (M 97) (M 98) (M 44) (M 46) (M 47) (M 34) (M 35) (M 36) (M 38) (M 40) (M 42) (M 49) (M 50) (M 51) (M 52) (M 53) (M 54) (M 55) (M 56) (M 57) (M 58) (M 59) (M 60) (M 61) 0 0 n τ)) (hF : M 38 now = F) (hS : M 40 now = S) (hn : M 48 13 = n + 1) (hFn : F ≤ n) (hnc : ¬ (M 92 (M 91 4) = -2 ∧ M 92 (M 91 4 + 1) = 40)) (h0 : M 49 n = 0) (hx : (0 ≤ M 50 n ∧ M 50 n < M 91 9) ∧ M 51 n = -2 ∧ M 52 n = -2 ∧ M 53 n = -2) (d : Nat) (P : Nat → Nat → Nat) (Q : zQ) (hQ : ∀ (M' : Nat → Int → Int) (r : Int), OV_33 b now F S l τ M M' r → Q (zS (zupN P 91 8 33) M') (some (vI r))) : WC (d + 3) 244 [vR 91, vI n] (zS (zupN P 91 8 33) M) Q := by
  have f := RL_f h
  obtain ⟨fbk, fnv, ⟨f70, n0, n60⟩, ⟨f71, s0, s16'⟩, ⟨f76, F0, Fn⟩, ⟨f78, S0, Sn⟩, ⟨f47, d0, d4⟩, ⟨f11, f12⟩, f74, hNN, hin⟩ := f
  have tkc := h.1.1
  have hv := h.2.2.1.1
  have LN : M 38 now ≤ n ∧ n < 60 := ⟨by omega, by omega⟩
  refine readWork_c_33 n hin hNN hv (by omega) (fun ok k0 e => hQ _ _ (Or.inl ⟨rfl, ?_, (by show M 91 4 < M 91 4 + 2; omega), ?_, ?_⟩)) (fun ok k0 ok2 e => hQ _ _ (Or.inl ⟨rfl, ?_, (by show M 91 4 < M 91 4 + 4; omega), ?_, ?_⟩)) (fun w1 w2 w3 a1 a2 a3 a4 a5 w4 no y => hQ _ _ (Or.inr (Or.inr ⟨rfl, (by repeat first | exact frO_refl | refine frO_up (by decide) ?_ | refine frO_row (by decide) ?_), ?_⟩))) (fun w1 w2 w3 a1 a2 a3 a4 a5 w4 ok k0 e y => hQ _ _ (Or.inr (Or.inl ⟨rfl, (by repeat first | exact frO_refl | refine frO_up (by decide) ?_ | refine frO_row (by decide) ?_), M 91 4 + 1, ?_⟩))) (fun w1 w2 w3 a1 a2 a3 a4 a5 w4 ok k0 no y => hQ _ _ (Or.inr (Or.inr ⟨rfl, (by repeat first | exact frO_refl | refine frO_up (by decide) ?_ | refine frO_row (by decide) ?_), ?_⟩))) (fun w1 w2 w3 a1 a2 a3 a4 a5 w4 ok k0 ok2 e y => hQ _ _ (Or.inr (Or.inl ⟨rfl, (by repeat first | exact frO_refl | refine frO_up (by decide) ?_ | refine frO_row (by decide) ?_), M 91 4 + 1 + 1 + 1, ?_⟩)))
  · exact (frC_up (by decide) (by decide) (frC_up (by decide) (by decide) (frC_up (by decide) (by decide) (frC_free (by decide) (by decide) (frC_ln (by decide) (by decide) (fun j q => zs_neg (by omega)) frC_refl)))))
  · show M 92 (M 91 4 + 2 - 1) = 59
    rw [show M 91 4 + 2 - 1 = M 91 4 + 1 by omega]; exact e
  · obtain ⟨τ1, h1, g1, r1⟩ := V_w0 h ok hnc k0 (Int.le_refl _) hl LN
    have vv := oV_opk hv ok (fun q => (tkq_num h.1.2.2.2).2 q)
    have h2 := E_c h1 hn (lk_0 h0 ⟨hx.1.1, by omega⟩ vv.1 hx.2.2.1 hx.2.2.2 (t := 0))
    rw [hF, hS] at g1
    rw [show M 91 4 + 1 = M 91 4 + 2 - 1 by omega, ← hn] at h2
    exact ⟨τ1, h2, g1, r1⟩
  · exact (frC_up (by decide) (by decide) (frC_up (by decide) (by decide) (frC_up (by decide) (by decide) (frC_free (by decide) (by decide) (frC_ln (by decide) (by decide) (fun j q => zs_neg (by omega)) (frC_ln (by decide) (by decide) (fun j q => zs_neg (by omega)) (frC_ln (by decide) (by decide) (fun j q => zs_neg (by omega)) frC_refl)))))))
  · show M 92 (M 91 4 + 4 - 1) = 59
    rw [show M 91 4 + 4 - 1 = M 91 4 + 3 by omega]; exact e
  · rw [show M 91 4 + 2 = M 91 4 + 1 + 1 by omega] at ok2
    obtain ⟨τ1, h1, g1, r1⟩ := V_w1 h ok hnc k0 (Int.le_refl _) hl LN hn h0 ok2
    have vv := oV_opk hv ok (fun q => (tkq_num h.1.2.2.2).2 q)
    have v1 := oN_in hv ok
    obtain ⟨τx, hx1, _⟩ := V_at (l := l) h ok hnc
    have i1 := nE0 hNN hin (oOK_ne ok)
    have hx2 := E_adv hx1 (fun z => k0 (by rw [z]; rfl))
    have v2 := oV_opk ⟨v1.1, v1.2.1⟩ ok2 (fun q => (tkq_num hx2.1.2.2.2).2 q)
    have kk := (tk_gS hx1.1.2.2.2).2 k0
    have h2 := E_c h1 hn (lk_2 ⟨kk.2.1, kk.2.2⟩ ⟨hx.1.1, by omega⟩ (opk_up v2.2 vv.1) v2.1 hx.2.2.2)
    rw [hF, hS] at g1
    rw [show M 91 4 + 1 + 1 + 1 = M 91 4 + 4 - 1 by omega, show M 91 4 + 1 + 1 = M 91 4 + 2 by omega, ← hn] at h2
    exact ⟨τ1, h2, g1, r1⟩
  · obtain ⟨τ1, g1, e1, r1⟩ := V_at_f (l := l) h no hnc
    rw [hF, hS] at g1
    have ob := oF_b (s := M 92 (M 91 4))
    refine ⟨τ1, ⟨by show 1 ≤ a3 ∧ a3 ≤ 6; omega, by show 0 ≤ a4 ∧ a4 ≤ 400; rw [y.2]; exact tkC_st tkc (by omega) (by omega), ?_⟩, g1, r1⟩
    show τ1 467 4 = -1000 * a3 - a4
    rw [e1, y.1, y.2]
  · obtain ⟨τ1, h1, g1, r1⟩ := V_w0 h ok hnc k0 (Int.le_refl _) hl LN
    rw [hF, hS] at g1
    exact ⟨τ1, ⟨_, _, _, _, _, _, _, _, _, _, _, _, _, _, _, _, _, _, _, _, _, _, _, _, _, _, _, _, _, _, _, _, _, _, _, _, h1, hF, hS⟩, e, y.1, y.2, g1, r1⟩
  · rw [show M 91 4 + 2 = M 91 4 + 1 + 1 by omega] at no
    obtain ⟨τ1, g1, e1, r1⟩ := V_w4 h ok hnc k0 (Int.le_refl _) hl LN hn h0 no
    rw [hF, hS] at g1
    have ob := oF_b (s := M 92 (M 91 4 + 2))
    have i1 := nE1 hNN hin (oOK_ne ok) (fun z => k0 (by rw [z]; rfl))
    refine ⟨τ1, ⟨by show 1 ≤ a3 ∧ a3 ≤ 6; omega, by show 0 ≤ a4 ∧ a4 ≤ 400; rw [y.2]; exact tkC_st tkc (by omega) (by omega), ?_⟩, g1, r1⟩
    show τ1 467 4 = -1000 * a3 - a4
    rw [e1, y.1, y.2, show M 91 4 + 2 = M 91 4 + 1 + 1 by omega]
  · rw [show M 91 4 + 2 = M 91 4 + 1 + 1 by omega] at ok2
    rw [show M 91 4 + 3 = M 91 4 + 1 + 1 + 1 by omega] at e y
    obtain ⟨τ1, h1, g1, r1⟩ := V_w1 h ok hnc k0 (Int.le_refl _) hl LN hn h0 ok2
    rw [hF, hS] at g1
    exact ⟨τ1, ⟨_, _, _, _, _, _, _, _, _, _, _, _, _, _, _, _, _, _, _, _, _, _, _, _, _, _, _, _, _, _, _, _, _, _, _, _, h1, hF, hS⟩, e, y.1, y.2, g1, r1⟩
theorem VW_62 {b now F S l n : Int} {M τ : Nat → Int → Int} (hl : l = 60 * b + n) (h : (RL b now (M 17) (M 91 3) (M 92) (M 93) (M 94) (M 91 4) (M 91 9) (M 95) (M 62 0) (M 62 1) (M 77 13) (M 91 14) (M 99) (M 100) (M 96) (M 97) (M 98) (M 73) (M 75) (M 76) (M 63) (M 64) (M 65) (M 67) (M 69) (M 71) (M 78) (M 79) (M 80) (M 81) (M 82) (M 83) (M 84) (M 85) (M 86) (M 87) (M 88) (M 89) (M 90) 0 0 n τ)) (hF : M 67 now = F) (hS : M 69 now = S) (hn : M 77 13 = n + 1) (hFn : F ≤ n) (hnc : ¬ (M 92 (M 91 4) = -2 ∧ M 92 (M 91 4 + 1) = 40)) (h0 : M 78 n = 0) (hx : (0 ≤ M 79 n ∧ M 79 n < M 91 9) ∧ M 80 n = -2 ∧ M 81 n = -2 ∧ M 82 n = -2) (d : Nat) (P : Nat → Nat → Nat) (Q : zQ) (hQ : ∀ (M' : Nat → Int → Int) (r : Int), OV_62 b now F S l τ M M' r → Q (zS (zupN P 91 8 62) M') (some (vI r))) : WC (d + 3) 244 [vR 91, vI n] (zS (zupN P 91 8 62) M) Q := by
  have f := RL_f h
  obtain ⟨fbk, fnv, ⟨f70, n0, n60⟩, ⟨f71, s0, s16'⟩, ⟨f76, F0, Fn⟩, ⟨f78, S0, Sn⟩, ⟨f47, d0, d4⟩, ⟨f11, f12⟩, f74, hNN, hin⟩ := f
  have tkc := h.1.1
  have hv := h.2.2.1.1
  have LN : M 67 now ≤ n ∧ n < 60 := ⟨by omega, by omega⟩
  refine readWork_c_62 n hin hNN hv (by omega) (fun ok k0 e => hQ _ _ (Or.inl ⟨rfl, ?_, (by show M 91 4 < M 91 4 + 2; omega), ?_, ?_⟩)) (fun ok k0 ok2 e => hQ _ _ (Or.inl ⟨rfl, ?_, (by show M 91 4 < M 91 4 + 4; omega), ?_, ?_⟩)) (fun w1 w2 w3 a1 a2 a3 a4 a5 w4 no y => hQ _ _ (Or.inr (Or.inr ⟨rfl, (by repeat first | exact frO_refl | refine frO_up (by decide) ?_ | refine frO_row (by decide) ?_), ?_⟩))) (fun w1 w2 w3 a1 a2 a3 a4 a5 w4 ok k0 e y => hQ _ _ (Or.inr (Or.inl ⟨rfl, (by repeat first | exact frO_refl | refine frO_up (by decide) ?_ | refine frO_row (by decide) ?_), M 91 4 + 1, ?_⟩))) (fun w1 w2 w3 a1 a2 a3 a4 a5 w4 ok k0 no y => hQ _ _ (Or.inr (Or.inr ⟨rfl, (by repeat first | exact frO_refl | refine frO_up (by decide) ?_ | refine frO_row (by decide) ?_), ?_⟩))) (fun w1 w2 w3 a1 a2 a3 a4 a5 w4 ok k0 ok2 e y => hQ _ _ (Or.inr (Or.inl ⟨rfl, (by repeat first | exact frO_refl | refine frO_up (by decide) ?_ | refine frO_row (by decide) ?_), M 91 4 + 1 + 1 + 1, ?_⟩)))
  · exact (frC_up (by decide) (by decide) (frC_up (by decide) (by decide) (frC_up (by decide) (by decide) (frC_free (by decide) (by decide) (frC_ln (by decide) (by decide) (fun j q => zs_neg (by omega)) frC_refl)))))
  · show M 92 (M 91 4 + 2 - 1) = 59
    rw [show M 91 4 + 2 - 1 = M 91 4 + 1 by omega]; exact e
  · obtain ⟨τ1, h1, g1, r1⟩ := V_w0 h ok hnc k0 (Int.le_refl _) hl LN
    have vv := oV_opk hv ok (fun q => (tkq_num h.1.2.2.2).2 q)
    have h2 := E_c h1 hn (lk_0 h0 ⟨hx.1.1, by omega⟩ vv.1 hx.2.2.1 hx.2.2.2 (t := 0))
    rw [hF, hS] at g1
    rw [show M 91 4 + 1 = M 91 4 + 2 - 1 by omega, ← hn] at h2
    exact ⟨τ1, h2, g1, r1⟩
  · exact (frC_up (by decide) (by decide) (frC_up (by decide) (by decide) (frC_up (by decide) (by decide) (frC_free (by decide) (by decide) (frC_ln (by decide) (by decide) (fun j q => zs_neg (by omega)) (frC_ln (by decide) (by decide) (fun j q => zs_neg (by omega)) (frC_ln (by decide) (by decide) (fun j q => zs_neg (by omega)) frC_refl)))))))
  · show M 92 (M 91 4 + 4 - 1) = 59
    rw [show M 91 4 + 4 - 1 = M 91 4 + 3 by omega]; exact e
  · rw [show M 91 4 + 2 = M 91 4 + 1 + 1 by omega] at ok2
    obtain ⟨τ1, h1, g1, r1⟩ := V_w1 h ok hnc k0 (Int.le_refl _) hl LN hn h0 ok2
    have vv := oV_opk hv ok (fun q => (tkq_num h.1.2.2.2).2 q)
    have v1 := oN_in hv ok
    obtain ⟨τx, hx1, _⟩ := V_at (l := l) h ok hnc
    have i1 := nE0 hNN hin (oOK_ne ok)
    have hx2 := E_adv hx1 (fun z => k0 (by rw [z]; rfl))
    have v2 := oV_opk ⟨v1.1, v1.2.1⟩ ok2 (fun q => (tkq_num hx2.1.2.2.2).2 q)
    have kk := (tk_gS hx1.1.2.2.2).2 k0
    have h2 := E_c h1 hn (lk_2 ⟨kk.2.1, kk.2.2⟩ ⟨hx.1.1, by omega⟩ (opk_up v2.2 vv.1) v2.1 hx.2.2.2)
    rw [hF, hS] at g1
    rw [show M 91 4 + 1 + 1 + 1 = M 91 4 + 4 - 1 by omega, show M 91 4 + 1 + 1 = M 91 4 + 2 by omega, ← hn] at h2
    exact ⟨τ1, h2, g1, r1⟩
  · obtain ⟨τ1, g1, e1, r1⟩ := V_at_f (l := l) h no hnc
    rw [hF, hS] at g1
    have ob := oF_b (s := M 92 (M 91 4))
    refine ⟨τ1, ⟨by show 1 ≤ a3 ∧ a3 ≤ 6; omega, by show 0 ≤ a4 ∧ a4 ≤ 400; rw [y.2]; exact tkC_st tkc (by omega) (by omega), ?_⟩, g1, r1⟩
    show τ1 467 4 = -1000 * a3 - a4
    rw [e1, y.1, y.2]
  · obtain ⟨τ1, h1, g1, r1⟩ := V_w0 h ok hnc k0 (Int.le_refl _) hl LN
    rw [hF, hS] at g1
    exact ⟨τ1, ⟨_, _, _, _, _, _, _, _, _, _, _, _, _, _, _, _, _, _, _, _, _, _, _, _, _, _, _, _, _, _, _, _, _, _, _, _, h1, hF, hS⟩, e, y.1, y.2, g1, r1⟩
  · rw [show M 91 4 + 2 = M 91 4 + 1 + 1 by omega] at no
    obtain ⟨τ1, g1, e1, r1⟩ := V_w4 h ok hnc k0 (Int.le_refl _) hl LN hn h0 no
    rw [hF, hS] at g1
    have ob := oF_b (s := M 92 (M 91 4 + 2))
    have i1 := nE1 hNN hin (oOK_ne ok) (fun z => k0 (by rw [z]; rfl))
    refine ⟨τ1, ⟨by show 1 ≤ a3 ∧ a3 ≤ 6; omega, by show 0 ≤ a4 ∧ a4 ≤ 400; rw [y.2]; exact tkC_st tkc (by omega) (by omega), ?_⟩, g1, r1⟩
    show τ1 467 4 = -1000 * a3 - a4
    rw [e1, y.1, y.2, show M 91 4 + 2 = M 91 4 + 1 + 1 by omega]
  · rw [show M 91 4 + 2 = M 91 4 + 1 + 1 by omega] at ok2
    rw [show M 91 4 + 3 = M 91 4 + 1 + 1 + 1 by omega] at e y
    obtain ⟨τ1, h1, g1, r1⟩ := V_w1 h ok hnc k0 (Int.le_refl _) hl LN hn h0 ok2
    rw [hF, hS] at g1
    exact ⟨τ1, ⟨_, _, _, _, _, _, _, _, _, _, _, _, _, _, _, _, _, _, _, _, _, _, _, _, _, _, _, _, _, _, _, _, _, _, _, _, h1, hF, hS⟩, e, y.1, y.2, g1, r1⟩
/-- a line of the class, done: the reference's too, or the same fault -/
def OL_33 (b now F S : Int) (rel : (Nat → Int → Int) → (Nat → Int → Int) → Int → Prop) (τ M M' : Nat → Int → Int) (r : Int) : Prop :=
  (r = 1 ∧ frC 33 F S now M M' ∧ M 91 4 < M' 91 4 ∧ ∃ τ' : Nat → Int → Int, ((RL b now (M' 17) (M' 91 3) (M' 92) (M' 93) (M' 94) (M' 91 4) (M' 91 9) (M' 95) (M' 33 0) (M' 33 1) (M' 48 13) (M' 91 14) (M' 99) (M' 100) (M' 96) (M' 97) (M' 98) (M' 44) (M' 46) (M' 47) (M' 34) (M' 35) (M' 36) (M' 38) (M' 40) (M' 42) (M' 49) (M' 50) (M' 51) (M' 52) (M' 53) (M' 54) (M' 55) (M' 56) (M' 57) (M' 58) (M' 59) (M' 60) (M' 61) 0 0 (M' 48 13) τ') ∨ ((RL b now (M' 17) (M' 91 3) (M' 92) (M' 93) (M' 94) (M' 91 4) (M' 91 9) (M' 95) (M' 33 0) (M' 33 1) (M' 48 13) (M' 91 14) (M' 99) (M' 100) (M' 96) (M' 97) (M' 98) (M' 44) (M' 46) (M' 47) (M' 34) (M' 35) (M' 36) (M' 38) (M' 40) (M' 42) (M' 49) (M' 50) (M' 51) (M' 52) (M' 53) (M' 54) (M' 55) (M' 56) (M' 57) (M' 58) (M' 59) (M' 60) (M' 61) 1 1 (M' 48 13) τ') ∧ M' 91 14 = 0 ∧ M' 92 (M' 91 4) = 125 ∧ M' 38 now < M' 48 13 ∧ M' 49 (M' 48 13 - 1) = 9 ∧ M' 42 now = M' 51 (M' 48 13 - 1) ∧ ¬ M' 51 (M' 48 13 - 1) = -2)) ∧ frX b F S now τ τ' ∧ rel τ τ' 1) ∨
  (r = 0 ∧ frO 33 M M' ∧ ∃ τ' : Nat → Int → Int, FLT M' τ' ∧ frX b F S now τ τ' ∧ rel τ τ' 0)
theorem wcc_242_33 {d : Nat} {P : Nat → Nat → Nat} {M : Nat → Int → Int} {Q : zQ} (h : WP (d + 19) 242 0 0 0 [some (vR 91), none, none] [] (zS P M) Q) : WC (d + 20) 242 [vR 91] (zS P M) Q := ⟨_, rfl, h⟩
theorem LP_33 {b now F S : Int} {M τ : Nat → Int → Int} (h : (RL b now (M 17) (M 91 3) (M 92) (M 93) (M 94) (M 91 4) (M 91 9) (M 95) (M 33 0) (M 33 1) (M 48 13) (M 91 14) (M 99) (M 100) (M 96) (M 97) (M 98) (M 44) (M 46) (M 47) (M 34) (M 35) (M 36) (M 38) (M 40) (M 42) (M 49) (M 50) (M 51) (M 52) (M 53) (M 54) (M 55) (M 56) (M 57) (M 58) (M 59) (M 60) (M 61) 0 0 (M 48 13) τ)) (hF : M 38 now = F) (hS : M 40 now = S) (hs : M 92 (M 91 4) = -2) (d : Nat) (P : Nat → Nat → Nat) (Q : zQ) (hQ : ∀ (M' : Nat → Int → Int) (r : Int), OL_33 b now F S rLc τ M M' r → Q (zS (zupN P 91 8 33) M') (some (vI r))) : WP (d + 109) 238 0 0 0 [some (vR 91)] [] (zS (zupN P 91 8 33) M) Q := by
  have f := RL_f h
  obtain ⟨fbk, fnv, ⟨f70, n0, n60⟩, ⟨f71, s0, s16'⟩, ⟨f76, F0, Fn⟩, ⟨f78, S0, Sn⟩, ⟨f47, d0, d4⟩, ⟨f11, f12⟩, f74, hNN, hin⟩ := f
  have tkc := h.1.1
  have hv := h.2.2.1.1
  have cl := h.2.2.2.2.2.1.1
  have cp := gST_path h.2.2.2.2.1 cl (fun j a c => (h.2.2.2.2.2.1.2.2.2 j a c).1)
  have cle := cP_le cl cp
  obtain ⟨me, ee, hLe⟩ := cL_ex cl cp
  have i1 := nE0 hNN hin (by omega)
  have h9 : (0 : Int) = 9 → (0 : Int) = 1 ∧ M 91 14 = 0 := fun z => absurd z (by decide)
  refine readLine_put_33 (HK := OL_33 b now F S rLc τ M) (fun Q' hQ' => ?_) (by omega) hs (fun M1 r1 z => by rcases z with z | z <;> omega) hQ
  refine wcc_242_33 (d := d + 89) ?_
  refine readPut_a_33 (d := d + 89) hin hNN (by omega) hv (by omega) (by omega) (by omega) cl cp (by omega) (fun w58 w59 q0 ok e hL => ?_) (fun w1 w2 w3 w4 w5 w6 w7 w8 w9 w10 w11 w12 w13 a1 a2 a3 w14 a4 a5 q y => hQ' _ _ (Or.inr ⟨rfl, (by repeat first | exact frO_refl | refine frO_up (by decide) ?_ | refine frO_row (by decide) ?_), ?_⟩)) (fun w1 w2 w3 w4 w5 w6 w7 w8 w9 w10 w11 w12 w13 a1 a2 a3 w14 a4 a5 q ok e y => hQ' _ _ (Or.inr ⟨rfl, (by repeat first | exact frO_refl | refine frO_up (by decide) ?_ | refine frO_row (by decide) ?_), ?_⟩))
  · obtain ⟨τ1, h1, g1, r1⟩ := R_pl_put (gg' := 0) h rfl rfl h9 (by omega) hL hs
    obtain ⟨τ2, h2, g2, e2, r2⟩ := R_pl_pv (l := 60 * τ 467 11 + τ 470 (τ 467 11)) h1 hs ok
    have LN : M 38 now ≤ M 48 13 ∧ M 48 13 < 60 := ⟨by omega, by omega⟩
    have hl : 60 * τ 467 11 + τ 470 (τ 467 11) = 60 * b + M 48 13 := by omega
    obtain ⟨τ3, h3, g3, r3⟩ := R_pl_px (l := 60 * τ 467 11 + τ 470 (τ 467 11)) (x := vV (M 95) (M 94 (M 91 4)) (M 91 9)) h2 (Int.le_refl _) hl LN (by omega)
    obtain ⟨τ4, h4, g4, r4⟩ := R_pl_ps (l := 60 * τ 467 11 + τ 470 (τ 467 11)) (x := vV (M 95) (M 94 (M 91 4)) (M 91 9)) h3 e
    rw [hF, hS] at g1 g2 g3 g4
    rw [e2] at r2
    rw [show M 91 4 + 1 + 1 = M 91 4 + 2 by omega] at h4
    have gg := frX_tr g1 (frX_tr g2 (frX_tr g3 g4))
    have vi := vV_in (nm := M 95) (w := M 94 (M 91 4)) hv
    have rl : ∀ (τ' τ'' : Nat → Int → Int) (x : Int), rVc (60 * τ 467 11 + τ 470 (τ 467 11)) τ4 τ' 1 → (∀ (d : Nat) (P : Nat → Nat → Nat) (A : Nat → Int → Int) (Q : zQ), Q (zS P (mix A τ'')) (some (vI x)) → WP (d + 31) 62 0 0 269 [some (vR 467), some (vI 0), some (vI 0), some (vI (60 * τ 467 11 + τ 470 (τ 467 11))), some (vI (vV (M 95) (M 94 (M 91 4)) (M 91 9)))] [] (zS P (mix A τ')) Q) → rLc τ τ'' x := fun τ' τ'' x q1 q2 d P A Q k => wc_62 (r1 _ _ _ _ (r2 _ _ _ _ none (r3 _ _ _ _ (r4 _ _ _ _ (pl_v1 (HK := fun M1 => M1 = mix A τ') _ _ (fun Q' k' => q1 (d + 1) P A Q' (k' _ rfl)) (fun M1 z => by rw [z]; exact q2 _ _ _ _ k))))))
    have rl0 : ∀ (τ' : Nat → Int → Int), rVc (60 * τ 467 11 + τ 470 (τ 467 11)) τ4 τ' 0 → rLc τ τ' 0 := fun τ' q1 d P A Q k => wc_62 (r1 _ _ _ _ (r2 _ _ _ _ none (r3 _ _ _ _ (r4 _ _ _ _ (pl_v0 (HK := fun M1 => M1 = mix A τ') _ _ (fun Q' k' => q1 (d + 1) P A Q' (k' _ rfl)) (fun M1 z => by rw [z]; exact k))))))
    have fin : ∀ (M1 M' : Nat → Int → Int) (r : Int), M1 92 = M 92 → M1 93 = M 93 → M1 94 = M 94 → M1 17 = M 17 → M1 91 3 = M 91 3 → M 91 4 < M1 91 4 → frC 33 F S now M M1 → frO 33 M M1 → OV_33 b now F S (60 * τ 467 11 + τ 470 (τ 467 11)) τ4 M1 M' r → OL_33 b now F S rLc τ M M' r := fun M1 M' r e92 e93 e94 e17 e3 e4 fc fo oc => by
      rcases oc with ⟨z1, z0, zi, z2, τ', z3, z4, z5⟩ | ⟨z1, z0, i', τ', z3, z4, z5, z6, z7, z8⟩ | ⟨z1, z0, τ', z3, z4, z5⟩
      · obtain ⟨τ6, h6, g6, r6⟩ := R_pl_pe (l := 60 * τ 467 11 + τ 470 (τ 467 11)) (x := vV (M 95) (M 94 (M 91 4)) (M 91 9)) z3 z2
        rw [show M' 91 4 - 1 + 1 = M' 91 4 by omega] at h6
        have f6 : M' 38 now = F ∧ M' 40 now = S := ⟨(z0.2.2.2.2 38 now (by decide) (by decide) (fun q => absurd q (by decide))).trans ((fc.2.2.2.2 38 now (by decide) (by decide) (fun q => absurd q (by decide))).trans hF), (z0.2.2.2.2 40 now (by decide) (by decide) (fun q => absurd q (by decide))).trans ((fc.2.2.2.2 40 now (by decide) (by decide) (fun q => absurd q (by decide))).trans hS)⟩
        rw [f6.1, f6.2] at g6
        exact Or.inl ⟨z1, frC_tr fc z0, Int.lt_trans e4 zi, τ6, Or.inl h6, frX_tr gg (frX_tr z4 g6), rl _ _ _ z5 r6⟩
      · obtain ⟨_, _, _, _, _, _, _, _, _, _, _, _, _, _, _, _, _, _, _, _, _, _, _, _, _, _, _, _, _, _, _, _, _, _, _, _, hX, hXF, hXS⟩ := z3
        have tk6 := gTK_b hX.1
        obtain ⟨τ6, g6, e6, r6⟩ := R_pl_pe_f (l := 60 * τ 467 11 + τ 470 (τ 467 11)) (x := vV (M 95) (M 94 (M 91 4)) (M 91 9)) hX z4
        rw [hXF, hXS] at g6
        refine Or.inr ⟨z1, frO_tr fo z0, τ6, ⟨by omega, by rw [z6, ← tk6.2.2.2.2]; exact tk6.2.2.2.1, ?_⟩, frX_tr gg (frX_tr z7 g6), rl _ _ _ z8 r6⟩
        rw [e6, z5, z6]
        omega
      · exact Or.inr ⟨z1, frO_tr fo z0, τ', z3, frX_tr gg z4, rl0 _ z5⟩
    have key : ∀ M1 : Nat → Int → Int, M1 92 = M 92 → M1 93 = M 93 → M1 94 = M 94 → M1 17 = M 17 → M1 91 3 = M 91 3 → M 91 4 < M1 91 4 → frC 33 F S now M M1 → frO 33 M M1 → (RL b now (M1 17) (M1 91 3) (M1 92) (M1 93) (M1 94) (M1 91 4) (M1 91 9) (M1 95) (M1 33 0) (M1 33 1) (M1 48 13) (M1 91 14) (M1 99) (M1 100) (M1 96) (M1 97) (M1 98) (M1 44) (M1 46) (M1 47) (M1 34) (M1 35) (M1 36) (M1 38) (M1 40) (M1 42) (M1 49) (M1 50) (M1 51) (M1 52) (M1 53) (M1 54) (M1 55) (M1 56) (M1 57) (M1 58) (M1 59) (M1 60) (M1 61) 0 0 (M 48 13) τ4) → M1 38 now = F → M1 40 now = S → M1 48 13 = M 48 13 + 1 → M1 49 (M 48 13) = 0 → M1 55 (M 48 13) = M1 91 14 → ((0 ≤ M1 50 (M 48 13) ∧ M1 50 (M 48 13) < M1 91 9) ∧ M1 51 (M 48 13) = -2 ∧ M1 52 (M 48 13) = -2 ∧ M1 53 (M 48 13) = -2) → WP (d + 89 + 19) 242 0 0 61 [some (vR 91), some (vI (M 48 13)), some (vI (vV (M 95) (M 94 (M 91 4)) (M 91 9)))] [] (zS (zupN P 91 8 33) M1) Q' := fun M1 e92 e93 e94 e17 e3 e4 fc fo k4 kF kS kn kK kD kT => by
      have in1 := k4.1.2.1
      have NN1 := (RL_f k4).2.2.2.2.2.2.2.2.2.1
      by_cases cc : M1 92 (M1 91 4) = -2
      · by_cases c40 : M1 92 (M1 91 4 + 1) = 40
        · exact readPut_c_33 (d := d + 89) (HK := OV_33 b now F S (60 * τ 467 11 + τ 470 (τ 467 11)) τ4 M1) _ _ (fun Q'' hQ'' => CB_33 (now := now) (τ := τ4) hl k4 kF kS kn (by omega) cc c40 kK kD kT _ P Q'' hQ'') in1 NN1 cc c40 (fun M1 r1 z => by rcases z with z | z | z <;> omega) (fun M2 r1 z => hQ' M2 r1 (fin M1 M2 r1 e92 e93 e94 e17 e3 e4 fc fo z))
        · exact readPut_w2_33 (d := d + 89) (HK := OV_33 b now F S (60 * τ 467 11 + τ 470 (τ 467 11)) τ4 M1) _ _ (fun Q'' hQ'' => VW_33 (d := d + 105) (now := now) (τ := τ4) hl k4 kF kS kn (by omega) (fun z => c40 z.2) kK kT P Q'' hQ'') in1 NN1 cc c40 (fun M1 r1 z => by rcases z with z | z | z <;> omega) (fun M2 r1 z => hQ' M2 r1 (fin M1 M2 r1 e92 e93 e94 e17 e3 e4 fc fo z))
      · exact readPut_w1_33 (d := d + 89) (HK := OV_33 b now F S (60 * τ 467 11 + τ 470 (τ 467 11)) τ4 M1) _ _ (fun Q'' hQ'' => VW_33 (d := d + 105) (now := now) (τ := τ4) hl k4 kF kS kn (by omega) (fun z => cc z.1) kK kT P Q'' hQ'') in1 NN1 cc (fun M1 r1 z => by rcases z with z | z | z <;> omega) (fun M2 r1 z => hQ' M2 r1 (fin M1 M2 r1 e92 e93 e94 e17 e3 e4 fc fo z))
    refine key _ ?_ ?_ ?_ ?_ ?_ ?_ ?_ ?_ ?_ ?_ ?_ ?_ ?_ ?_ ?_
    · rfl
    · rfl
    · rfl
    · rfl
    · rfl
    · show M 91 4 < M 91 4 + 2
      omega
    · exact (frC_up (by decide) (by decide) (frC_up (by decide) (by decide) (frC_up (by decide) (by decide) (frC_free (by decide) (by decide) (frC_free (by decide) (by decide) (frC_ln (by decide) (by decide) (fun j q => zs_neg (by omega)) (frC_free (by decide) (by decide) (frC_free (by decide) (by decide) (frC_ln (by decide) (by decide) (fun j q => zs_neg (by omega)) (frC_ln (by decide) (by decide) (fun j q => zs_neg (by omega)) (frC_ln (by decide) (by decide) (fun j q => zs_neg (by omega)) (frC_ln (by decide) (by decide) (fun j q => zs_neg (by omega)) (frC_ln (by decide) (by decide) (fun j q => zs_neg (by omega)) (frC_ln (by decide) (by decide) (fun j q => zs_neg (by omega)) (frC_ln (by decide) (by decide) (fun j q => zs_neg (by omega)) (frC_ln (by decide) (by decide) (fun j q => (zs_neg (by omega)).trans (zs_neg (by omega))) (frC_ln (by decide) (by decide) (fun j q => zs_neg (by omega)) frC_refl)))))))))))))))))
    · exact (by repeat first | exact frO_refl | refine frO_up (by decide) ?_ | refine frO_row (by decide) ?_)
    · exact h4
    · exact hF
    · exact hS
    · rfl
    · exact zs_pos rfl
    · exact zs_pos rfl
    · exact ⟨⟨(by show 0 ≤ zs (zs (M 50) (M 48 13) (-2)) (M 48 13) (vV (M 95) (M 94 (M 91 4)) (M 91 9)) (M 48 13); rw [zs_pos rfl]; exact vi.1.1), (by show zs (zs (M 50) (M 48 13) (-2)) (M 48 13) (vV (M 95) (M 94 (M 91 4)) (M 91 9)) (M 48 13) < vN (M 95) (M 94 (M 91 4)) (M 91 9); rw [zs_pos rfl]; exact vi.1.2)⟩, zs_pos rfl, zs_pos rfl, zs_pos rfl⟩
  · by_cases c60 : M 48 13 = 60
    · obtain ⟨τ1, g1, e1, r1⟩ := R_pl_put4 h c60 hs
      rw [hF, hS] at g1
      refine ⟨τ1, ⟨by show 1 ≤ a4 ∧ a4 ≤ 6; omega, by show 0 ≤ a5 ∧ a5 ≤ 400; rw [y.2]; exact tkC_st tkc hin.1 hin.2, ?_⟩, g1, fun d P A Q k => wc_62 (r1 _ _ _ _ k)⟩
      show τ1 467 4 = -1000 * a4 - a5
      rw [e1, y.1, y.2]; omega
    · obtain ⟨τ1, h1, g1, r1⟩ := R_pl_put (gg' := 0) h rfl rfl h9 (by omega) hLe hs
      obtain ⟨τ2, g2, e2, r2⟩ := R_pl_pv_f (l := 60 * τ 467 11 + τ 470 (τ 467 11)) h1 hs (fun z => q ⟨by omega, z⟩)
      rw [hF, hS] at g1 g2
      refine ⟨τ2, ⟨by show 1 ≤ a4 ∧ a4 ≤ 6; omega, by show 0 ≤ a5 ∧ a5 ≤ 400; rw [y.2]; exact tkC_st tkc hin.1 hin.2, ?_⟩, frX_tr g1 g2, fun d P A Q k => wc_62 (r1 _ _ _ _ (r2 _ _ _ _ none k))⟩
      show τ2 467 4 = -1000 * a4 - a5
      rw [e2, y.1, y.2]; omega
  · obtain ⟨τ1, h1, g1, r1⟩ := R_pl_put (gg' := 0) h rfl rfl h9 (by omega) hLe hs
    obtain ⟨τ2, h2, g2, e2, r2⟩ := R_pl_pv (l := 60 * τ 467 11 + τ 470 (τ 467 11)) h1 hs ok
    have LN : M 38 now ≤ M 48 13 ∧ M 48 13 < 60 := ⟨by omega, by omega⟩
    have hl : 60 * τ 467 11 + τ 470 (τ 467 11) = 60 * b + M 48 13 := by omega
    obtain ⟨τ3, h3, g3, r3⟩ := R_pl_px (l := 60 * τ 467 11 + τ 470 (τ 467 11)) (x := vV (M 95) (M 94 (M 91 4)) (M 91 9)) h2 (Int.le_refl _) hl LN (by omega)
    obtain ⟨τ4, g4, e4, r4⟩ := R_pl_ps_f (l := 60 * τ 467 11 + τ 470 (τ 467 11)) (x := vV (M 95) (M 94 (M 91 4)) (M 91 9)) h3 e
    rw [hF, hS] at g1 g2 g3 g4
    rw [e2] at r2
    refine ⟨τ4, ⟨by show 1 ≤ a4 ∧ a4 ≤ 6; omega, by show 0 ≤ a5 ∧ a5 ≤ 400; rw [y.2]; exact tkC_st tkc (by omega) i1, ?_⟩, frX_tr g1 (frX_tr g2 (frX_tr g3 g4)), fun d P A Q k => wc_62 (r1 _ _ _ _ (r2 _ _ _ _ none (r3 _ _ _ _ (r4 _ _ _ _ k))))⟩
    show τ4 467 4 = -1000 * a4 - a5
    rw [e4, y.1, y.2]; omega
/-- a line of the class, done: the reference's too, or the same fault -/
def OL_62 (b now F S : Int) (rel : (Nat → Int → Int) → (Nat → Int → Int) → Int → Prop) (τ M M' : Nat → Int → Int) (r : Int) : Prop :=
  (r = 1 ∧ frC 62 F S now M M' ∧ M 91 4 < M' 91 4 ∧ ∃ τ' : Nat → Int → Int, ((RL b now (M' 17) (M' 91 3) (M' 92) (M' 93) (M' 94) (M' 91 4) (M' 91 9) (M' 95) (M' 62 0) (M' 62 1) (M' 77 13) (M' 91 14) (M' 99) (M' 100) (M' 96) (M' 97) (M' 98) (M' 73) (M' 75) (M' 76) (M' 63) (M' 64) (M' 65) (M' 67) (M' 69) (M' 71) (M' 78) (M' 79) (M' 80) (M' 81) (M' 82) (M' 83) (M' 84) (M' 85) (M' 86) (M' 87) (M' 88) (M' 89) (M' 90) 0 0 (M' 77 13) τ') ∨ ((RL b now (M' 17) (M' 91 3) (M' 92) (M' 93) (M' 94) (M' 91 4) (M' 91 9) (M' 95) (M' 62 0) (M' 62 1) (M' 77 13) (M' 91 14) (M' 99) (M' 100) (M' 96) (M' 97) (M' 98) (M' 73) (M' 75) (M' 76) (M' 63) (M' 64) (M' 65) (M' 67) (M' 69) (M' 71) (M' 78) (M' 79) (M' 80) (M' 81) (M' 82) (M' 83) (M' 84) (M' 85) (M' 86) (M' 87) (M' 88) (M' 89) (M' 90) 1 1 (M' 77 13) τ') ∧ M' 91 14 = 0 ∧ M' 92 (M' 91 4) = 125 ∧ M' 67 now < M' 77 13 ∧ M' 78 (M' 77 13 - 1) = 9 ∧ M' 71 now = M' 80 (M' 77 13 - 1) ∧ ¬ M' 80 (M' 77 13 - 1) = -2)) ∧ frX b F S now τ τ' ∧ rel τ τ' 1) ∨
  (r = 0 ∧ frO 62 M M' ∧ ∃ τ' : Nat → Int → Int, FLT M' τ' ∧ frX b F S now τ τ' ∧ rel τ τ' 0)
theorem wcc_242_62 {d : Nat} {P : Nat → Nat → Nat} {M : Nat → Int → Int} {Q : zQ} (h : WP (d + 19) 242 0 0 0 [some (vR 91), none, none] [] (zS P M) Q) : WC (d + 20) 242 [vR 91] (zS P M) Q := ⟨_, rfl, h⟩
theorem LP_62 {b now F S : Int} {M τ : Nat → Int → Int} (h : (RL b now (M 17) (M 91 3) (M 92) (M 93) (M 94) (M 91 4) (M 91 9) (M 95) (M 62 0) (M 62 1) (M 77 13) (M 91 14) (M 99) (M 100) (M 96) (M 97) (M 98) (M 73) (M 75) (M 76) (M 63) (M 64) (M 65) (M 67) (M 69) (M 71) (M 78) (M 79) (M 80) (M 81) (M 82) (M 83) (M 84) (M 85) (M 86) (M 87) (M 88) (M 89) (M 90) 0 0 (M 77 13) τ)) (hF : M 67 now = F) (hS : M 69 now = S) (hs : M 92 (M 91 4) = -2) (d : Nat) (P : Nat → Nat → Nat) (Q : zQ) (hQ : ∀ (M' : Nat → Int → Int) (r : Int), OL_62 b now F S rLc τ M M' r → Q (zS (zupN P 91 8 62) M') (some (vI r))) : WP (d + 109) 238 0 0 0 [some (vR 91)] [] (zS (zupN P 91 8 62) M) Q := by
  have f := RL_f h
  obtain ⟨fbk, fnv, ⟨f70, n0, n60⟩, ⟨f71, s0, s16'⟩, ⟨f76, F0, Fn⟩, ⟨f78, S0, Sn⟩, ⟨f47, d0, d4⟩, ⟨f11, f12⟩, f74, hNN, hin⟩ := f
  have tkc := h.1.1
  have hv := h.2.2.1.1
  have cl := h.2.2.2.2.2.1.1
  have cp := gST_path h.2.2.2.2.1 cl (fun j a c => (h.2.2.2.2.2.1.2.2.2 j a c).1)
  have cle := cP_le cl cp
  obtain ⟨me, ee, hLe⟩ := cL_ex cl cp
  have i1 := nE0 hNN hin (by omega)
  have h9 : (0 : Int) = 9 → (0 : Int) = 1 ∧ M 91 14 = 0 := fun z => absurd z (by decide)
  refine readLine_put_62 (HK := OL_62 b now F S rLc τ M) (fun Q' hQ' => ?_) (by omega) hs (fun M1 r1 z => by rcases z with z | z <;> omega) hQ
  refine wcc_242_62 (d := d + 89) ?_
  refine readPut_a_62 (d := d + 89) hin hNN (by omega) hv (by omega) (by omega) (by omega) cl cp (by omega) (fun w58 w59 q0 ok e hL => ?_) (fun w1 w2 w3 w4 w5 w6 w7 w8 w9 w10 w11 w12 w13 a1 a2 a3 w14 a4 a5 q y => hQ' _ _ (Or.inr ⟨rfl, (by repeat first | exact frO_refl | refine frO_up (by decide) ?_ | refine frO_row (by decide) ?_), ?_⟩)) (fun w1 w2 w3 w4 w5 w6 w7 w8 w9 w10 w11 w12 w13 a1 a2 a3 w14 a4 a5 q ok e y => hQ' _ _ (Or.inr ⟨rfl, (by repeat first | exact frO_refl | refine frO_up (by decide) ?_ | refine frO_row (by decide) ?_), ?_⟩))
  · obtain ⟨τ1, h1, g1, r1⟩ := R_pl_put (gg' := 0) h rfl rfl h9 (by omega) hL hs
    obtain ⟨τ2, h2, g2, e2, r2⟩ := R_pl_pv (l := 60 * τ 467 11 + τ 470 (τ 467 11)) h1 hs ok
    have LN : M 67 now ≤ M 77 13 ∧ M 77 13 < 60 := ⟨by omega, by omega⟩
    have hl : 60 * τ 467 11 + τ 470 (τ 467 11) = 60 * b + M 77 13 := by omega
    obtain ⟨τ3, h3, g3, r3⟩ := R_pl_px (l := 60 * τ 467 11 + τ 470 (τ 467 11)) (x := vV (M 95) (M 94 (M 91 4)) (M 91 9)) h2 (Int.le_refl _) hl LN (by omega)
    obtain ⟨τ4, h4, g4, r4⟩ := R_pl_ps (l := 60 * τ 467 11 + τ 470 (τ 467 11)) (x := vV (M 95) (M 94 (M 91 4)) (M 91 9)) h3 e
    rw [hF, hS] at g1 g2 g3 g4
    rw [e2] at r2
    rw [show M 91 4 + 1 + 1 = M 91 4 + 2 by omega] at h4
    have gg := frX_tr g1 (frX_tr g2 (frX_tr g3 g4))
    have vi := vV_in (nm := M 95) (w := M 94 (M 91 4)) hv
    have rl : ∀ (τ' τ'' : Nat → Int → Int) (x : Int), rVc (60 * τ 467 11 + τ 470 (τ 467 11)) τ4 τ' 1 → (∀ (d : Nat) (P : Nat → Nat → Nat) (A : Nat → Int → Int) (Q : zQ), Q (zS P (mix A τ'')) (some (vI x)) → WP (d + 31) 62 0 0 269 [some (vR 467), some (vI 0), some (vI 0), some (vI (60 * τ 467 11 + τ 470 (τ 467 11))), some (vI (vV (M 95) (M 94 (M 91 4)) (M 91 9)))] [] (zS P (mix A τ')) Q) → rLc τ τ'' x := fun τ' τ'' x q1 q2 d P A Q k => wc_62 (r1 _ _ _ _ (r2 _ _ _ _ none (r3 _ _ _ _ (r4 _ _ _ _ (pl_v1 (HK := fun M1 => M1 = mix A τ') _ _ (fun Q' k' => q1 (d + 1) P A Q' (k' _ rfl)) (fun M1 z => by rw [z]; exact q2 _ _ _ _ k))))))
    have rl0 : ∀ (τ' : Nat → Int → Int), rVc (60 * τ 467 11 + τ 470 (τ 467 11)) τ4 τ' 0 → rLc τ τ' 0 := fun τ' q1 d P A Q k => wc_62 (r1 _ _ _ _ (r2 _ _ _ _ none (r3 _ _ _ _ (r4 _ _ _ _ (pl_v0 (HK := fun M1 => M1 = mix A τ') _ _ (fun Q' k' => q1 (d + 1) P A Q' (k' _ rfl)) (fun M1 z => by rw [z]; exact k))))))
    have fin : ∀ (M1 M' : Nat → Int → Int) (r : Int), M1 92 = M 92 → M1 93 = M 93 → M1 94 = M 94 → M1 17 = M 17 → M1 91 3 = M 91 3 → M 91 4 < M1 91 4 → frC 62 F S now M M1 → frO 62 M M1 → OV_62 b now F S (60 * τ 467 11 + τ 470 (τ 467 11)) τ4 M1 M' r → OL_62 b now F S rLc τ M M' r := fun M1 M' r e92 e93 e94 e17 e3 e4 fc fo oc => by
      rcases oc with ⟨z1, z0, zi, z2, τ', z3, z4, z5⟩ | ⟨z1, z0, i', τ', z3, z4, z5, z6, z7, z8⟩ | ⟨z1, z0, τ', z3, z4, z5⟩
      · obtain ⟨τ6, h6, g6, r6⟩ := R_pl_pe (l := 60 * τ 467 11 + τ 470 (τ 467 11)) (x := vV (M 95) (M 94 (M 91 4)) (M 91 9)) z3 z2
        rw [show M' 91 4 - 1 + 1 = M' 91 4 by omega] at h6
        have f6 : M' 67 now = F ∧ M' 69 now = S := ⟨(z0.2.2.2.2 67 now (by decide) (by decide) (fun q => absurd q (by decide))).trans ((fc.2.2.2.2 67 now (by decide) (by decide) (fun q => absurd q (by decide))).trans hF), (z0.2.2.2.2 69 now (by decide) (by decide) (fun q => absurd q (by decide))).trans ((fc.2.2.2.2 69 now (by decide) (by decide) (fun q => absurd q (by decide))).trans hS)⟩
        rw [f6.1, f6.2] at g6
        exact Or.inl ⟨z1, frC_tr fc z0, Int.lt_trans e4 zi, τ6, Or.inl h6, frX_tr gg (frX_tr z4 g6), rl _ _ _ z5 r6⟩
      · obtain ⟨_, _, _, _, _, _, _, _, _, _, _, _, _, _, _, _, _, _, _, _, _, _, _, _, _, _, _, _, _, _, _, _, _, _, _, _, hX, hXF, hXS⟩ := z3
        have tk6 := gTK_b hX.1
        obtain ⟨τ6, g6, e6, r6⟩ := R_pl_pe_f (l := 60 * τ 467 11 + τ 470 (τ 467 11)) (x := vV (M 95) (M 94 (M 91 4)) (M 91 9)) hX z4
        rw [hXF, hXS] at g6
        refine Or.inr ⟨z1, frO_tr fo z0, τ6, ⟨by omega, by rw [z6, ← tk6.2.2.2.2]; exact tk6.2.2.2.1, ?_⟩, frX_tr gg (frX_tr z7 g6), rl _ _ _ z8 r6⟩
        rw [e6, z5, z6]
        omega
      · exact Or.inr ⟨z1, frO_tr fo z0, τ', z3, frX_tr gg z4, rl0 _ z5⟩
    have key : ∀ M1 : Nat → Int → Int, M1 92 = M 92 → M1 93 = M 93 → M1 94 = M 94 → M1 17 = M 17 → M1 91 3 = M 91 3 → M 91 4 < M1 91 4 → frC 62 F S now M M1 → frO 62 M M1 → (RL b now (M1 17) (M1 91 3) (M1 92) (M1 93) (M1 94) (M1 91 4) (M1 91 9) (M1 95) (M1 62 0) (M1 62 1) (M1 77 13) (M1 91 14) (M1 99) (M1 100) (M1 96) (M1 97) (M1 98) (M1 73) (M1 75) (M1 76) (M1 63) (M1 64) (M1 65) (M1 67) (M1 69) (M1 71) (M1 78) (M1 79) (M1 80) (M1 81) (M1 82) (M1 83) (M1 84) (M1 85) (M1 86) (M1 87) (M1 88) (M1 89) (M1 90) 0 0 (M 77 13) τ4) → M1 67 now = F → M1 69 now = S → M1 77 13 = M 77 13 + 1 → M1 78 (M 77 13) = 0 → M1 84 (M 77 13) = M1 91 14 → ((0 ≤ M1 79 (M 77 13) ∧ M1 79 (M 77 13) < M1 91 9) ∧ M1 80 (M 77 13) = -2 ∧ M1 81 (M 77 13) = -2 ∧ M1 82 (M 77 13) = -2) → WP (d + 89 + 19) 242 0 0 61 [some (vR 91), some (vI (M 77 13)), some (vI (vV (M 95) (M 94 (M 91 4)) (M 91 9)))] [] (zS (zupN P 91 8 62) M1) Q' := fun M1 e92 e93 e94 e17 e3 e4 fc fo k4 kF kS kn kK kD kT => by
      have in1 := k4.1.2.1
      have NN1 := (RL_f k4).2.2.2.2.2.2.2.2.2.1
      by_cases cc : M1 92 (M1 91 4) = -2
      · by_cases c40 : M1 92 (M1 91 4 + 1) = 40
        · exact readPut_c_62 (d := d + 89) (HK := OV_62 b now F S (60 * τ 467 11 + τ 470 (τ 467 11)) τ4 M1) _ _ (fun Q'' hQ'' => CB_62 (now := now) (τ := τ4) hl k4 kF kS kn (by omega) cc c40 kK kD kT _ P Q'' hQ'') in1 NN1 cc c40 (fun M1 r1 z => by rcases z with z | z | z <;> omega) (fun M2 r1 z => hQ' M2 r1 (fin M1 M2 r1 e92 e93 e94 e17 e3 e4 fc fo z))
        · exact readPut_w2_62 (d := d + 89) (HK := OV_62 b now F S (60 * τ 467 11 + τ 470 (τ 467 11)) τ4 M1) _ _ (fun Q'' hQ'' => VW_62 (d := d + 105) (now := now) (τ := τ4) hl k4 kF kS kn (by omega) (fun z => c40 z.2) kK kT P Q'' hQ'') in1 NN1 cc c40 (fun M1 r1 z => by rcases z with z | z | z <;> omega) (fun M2 r1 z => hQ' M2 r1 (fin M1 M2 r1 e92 e93 e94 e17 e3 e4 fc fo z))
      · exact readPut_w1_62 (d := d + 89) (HK := OV_62 b now F S (60 * τ 467 11 + τ 470 (τ 467 11)) τ4 M1) _ _ (fun Q'' hQ'' => VW_62 (d := d + 105) (now := now) (τ := τ4) hl k4 kF kS kn (by omega) (fun z => cc z.1) kK kT P Q'' hQ'') in1 NN1 cc (fun M1 r1 z => by rcases z with z | z | z <;> omega) (fun M2 r1 z => hQ' M2 r1 (fin M1 M2 r1 e92 e93 e94 e17 e3 e4 fc fo z))
    refine key _ ?_ ?_ ?_ ?_ ?_ ?_ ?_ ?_ ?_ ?_ ?_ ?_ ?_ ?_ ?_
    · rfl
    · rfl
    · rfl
    · rfl
    · rfl
    · show M 91 4 < M 91 4 + 2
      omega
    · exact (frC_up (by decide) (by decide) (frC_up (by decide) (by decide) (frC_up (by decide) (by decide) (frC_free (by decide) (by decide) (frC_free (by decide) (by decide) (frC_ln (by decide) (by decide) (fun j q => zs_neg (by omega)) (frC_free (by decide) (by decide) (frC_free (by decide) (by decide) (frC_ln (by decide) (by decide) (fun j q => zs_neg (by omega)) (frC_ln (by decide) (by decide) (fun j q => zs_neg (by omega)) (frC_ln (by decide) (by decide) (fun j q => zs_neg (by omega)) (frC_ln (by decide) (by decide) (fun j q => zs_neg (by omega)) (frC_ln (by decide) (by decide) (fun j q => zs_neg (by omega)) (frC_ln (by decide) (by decide) (fun j q => zs_neg (by omega)) (frC_ln (by decide) (by decide) (fun j q => zs_neg (by omega)) (frC_ln (by decide) (by decide) (fun j q => (zs_neg (by omega)).trans (zs_neg (by omega))) (frC_ln (by decide) (by decide) (fun j q => zs_neg (by omega)) frC_refl)))))))))))))))))
    · exact (by repeat first | exact frO_refl | refine frO_up (by decide) ?_ | refine frO_row (by decide) ?_)
    · exact h4
    · exact hF
    · exact hS
    · rfl
    · exact zs_pos rfl
    · exact zs_pos rfl
    · exact ⟨⟨(by show 0 ≤ zs (zs (M 79) (M 77 13) (-2)) (M 77 13) (vV (M 95) (M 94 (M 91 4)) (M 91 9)) (M 77 13); rw [zs_pos rfl]; exact vi.1.1), (by show zs (zs (M 79) (M 77 13) (-2)) (M 77 13) (vV (M 95) (M 94 (M 91 4)) (M 91 9)) (M 77 13) < vN (M 95) (M 94 (M 91 4)) (M 91 9); rw [zs_pos rfl]; exact vi.1.2)⟩, zs_pos rfl, zs_pos rfl, zs_pos rfl⟩
  · by_cases c60 : M 77 13 = 60
    · obtain ⟨τ1, g1, e1, r1⟩ := R_pl_put4 h c60 hs
      rw [hF, hS] at g1
      refine ⟨τ1, ⟨by show 1 ≤ a4 ∧ a4 ≤ 6; omega, by show 0 ≤ a5 ∧ a5 ≤ 400; rw [y.2]; exact tkC_st tkc hin.1 hin.2, ?_⟩, g1, fun d P A Q k => wc_62 (r1 _ _ _ _ k)⟩
      show τ1 467 4 = -1000 * a4 - a5
      rw [e1, y.1, y.2]; omega
    · obtain ⟨τ1, h1, g1, r1⟩ := R_pl_put (gg' := 0) h rfl rfl h9 (by omega) hLe hs
      obtain ⟨τ2, g2, e2, r2⟩ := R_pl_pv_f (l := 60 * τ 467 11 + τ 470 (τ 467 11)) h1 hs (fun z => q ⟨by omega, z⟩)
      rw [hF, hS] at g1 g2
      refine ⟨τ2, ⟨by show 1 ≤ a4 ∧ a4 ≤ 6; omega, by show 0 ≤ a5 ∧ a5 ≤ 400; rw [y.2]; exact tkC_st tkc hin.1 hin.2, ?_⟩, frX_tr g1 g2, fun d P A Q k => wc_62 (r1 _ _ _ _ (r2 _ _ _ _ none k))⟩
      show τ2 467 4 = -1000 * a4 - a5
      rw [e2, y.1, y.2]; omega
  · obtain ⟨τ1, h1, g1, r1⟩ := R_pl_put (gg' := 0) h rfl rfl h9 (by omega) hLe hs
    obtain ⟨τ2, h2, g2, e2, r2⟩ := R_pl_pv (l := 60 * τ 467 11 + τ 470 (τ 467 11)) h1 hs ok
    have LN : M 67 now ≤ M 77 13 ∧ M 77 13 < 60 := ⟨by omega, by omega⟩
    have hl : 60 * τ 467 11 + τ 470 (τ 467 11) = 60 * b + M 77 13 := by omega
    obtain ⟨τ3, h3, g3, r3⟩ := R_pl_px (l := 60 * τ 467 11 + τ 470 (τ 467 11)) (x := vV (M 95) (M 94 (M 91 4)) (M 91 9)) h2 (Int.le_refl _) hl LN (by omega)
    obtain ⟨τ4, g4, e4, r4⟩ := R_pl_ps_f (l := 60 * τ 467 11 + τ 470 (τ 467 11)) (x := vV (M 95) (M 94 (M 91 4)) (M 91 9)) h3 e
    rw [hF, hS] at g1 g2 g3 g4
    rw [e2] at r2
    refine ⟨τ4, ⟨by show 1 ≤ a4 ∧ a4 ≤ 6; omega, by show 0 ≤ a5 ∧ a5 ≤ 400; rw [y.2]; exact tkC_st tkc (by omega) i1, ?_⟩, frX_tr g1 (frX_tr g2 (frX_tr g3 g4)), fun d P A Q k => wc_62 (r1 _ _ _ _ (r2 _ _ _ _ none (r3 _ _ _ _ (r4 _ _ _ _ k))))⟩
    show τ4 467 4 = -1000 * a4 - a5
    rw [e4, y.1, y.2]; omega
