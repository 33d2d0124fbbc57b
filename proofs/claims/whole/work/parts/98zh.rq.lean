/-! Both readers together: rq -/
/-- the class's words, as its constants -/
def wALL (M : Nat → Int → Int) : Prop := ((M 10 (-1)) = 3) ∧ ((zshr (M 10 (-1)) 0) = 3) ∧ ((w16 (zand (M 10 0) 255)) = 102) ∧ ((w16 (zand (M 10 1) 255)) = 117) ∧ ((w16 (zand (M 10 2) 255)) = 110) ∧ ((M 11 (-1)) = 2) ∧ ((zshr (M 11 (-1)) 0) = 2) ∧ ((w16 (zand (M 11 0) 255)) = 105) ∧ ((w16 (zand (M 11 1) 255)) = 102) ∧ ((M 12 (-1)) = 4) ∧ ((zshr (M 12 (-1)) 0) = 4) ∧ ((w16 (zand (M 12 0) 255)) = 101) ∧ ((w16 (zand (M 12 1) 255)) = 108) ∧ ((w16 (zand (M 12 2) 255)) = 115) ∧ ((w16 (zand (M 12 3) 255)) = 101) ∧ ((M 13 (-1)) = 4) ∧ ((zshr (M 13 (-1)) 0) = 4) ∧ ((w16 (zand (M 13 0) 255)) = 108) ∧ ((w16 (zand (M 13 1) 255)) = 111) ∧ ((w16 (zand (M 13 2) 255)) = 111) ∧ ((w16 (zand (M 13 3) 255)) = 112) ∧ ((M 14 (-1)) = 4) ∧ ((zshr (M 14 (-1)) 0) = 4) ∧ ((w16 (zand (M 14 0) 255)) = 103) ∧ ((w16 (zand (M 14 1) 255)) = 105) ∧ ((w16 (zand (M 14 2) 255)) = 118) ∧ ((w16 (zand (M 14 3) 255)) = 101)
/-- the reference's memory as its reads() comes to its loop -/
def TAU0 (n : Int) (τ : Nat → Int → Int) : Nat → Int → Int := (zrow (zrow (zrow (zup (adv (zup (zup (zup τ 467 1 0) 467 2 0) 467 3 n)) 467 11 (1 - τ 467 11)) 469 (zs (τ 469) (1 - τ 467 11) 0)) 470 (zs (τ 470) (1 - τ 467 11) 0)) 471 (zs (τ 471) (1 - τ 467 11) 0))
def frAx (b : Int) (τ τ' : Nat → Int → Int) : Prop :=
  (∀ c : Nat, 467 < c → ¬ (469 ≤ c ∧ c ≤ 502) → τ' c = τ c) ∧
  (∀ k : Int, ¬ ((1 ≤ k ∧ k ≤ 12) ∨ k = 47 ∨ k = 48) → τ' 467 k = τ 467 k) ∧
  (∀ (c : Nat) (j : Int), 469 ≤ c → c ≤ 471 → ¬ j = b → τ' c j = τ c j) ∧
  (∀ (c : Nat) (j : Int), 472 ≤ c → c ≤ 479 → ¬ (8 * b ≤ j ∧ j < 8 * b + 8) → τ' c j = τ c j) ∧
  (∀ (c : Nat) (j : Int), 480 ≤ c → c ≤ 491 → ¬ (60 * b ≤ j ∧ j < 60 * b + 60) → τ' c j = τ c j) ∧
  ∀ (c : Nat) (j : Int), 492 ≤ c → c ≤ 499 → ¬ (16 * b ≤ j ∧ j < 16 * b + 16) → τ' c j = τ c j
theorem frAx_0 {b n : Int} {τ τ' : Nat → Int → Int} (h11 : τ 467 11 = 1 - b) (h : frB b (TAU0 n τ) τ') : frAx b τ τ' ∧ τ' 467 1 = 0 ∧ τ' 467 11 = b := by
  have e0 : ∀ c : Nat, ¬ c = 467 → ¬ c = 469 → ¬ c = 470 → ¬ c = 471 → ∀ j : Int, TAU0 n τ c j = τ c j := fun c h1 h2 h3 h4 j => by
    unfold TAU0
    rw [show ∀ (N : Nat → Int → Int) (a : Nat) (r : Int → Int), ¬ c = a → zrow N a r c j = N c j from fun N a r z => if_neg z, show ∀ (N : Nat → Int → Int) (a : Nat) (r : Int → Int), ¬ c = a → zrow N a r c j = N c j from fun N a r z => if_neg z, show ∀ (N : Nat → Int → Int) (a : Nat) (r : Int → Int), ¬ c = a → zrow N a r c j = N c j from fun N a r z => if_neg z]
    · rw [show ∀ (N : Nat → Int → Int) (k v : Int), zup N 467 k v c j = N c j from fun N k v => if_neg (fun z => h1 z.1), adv_at (by omega), show ∀ (N : Nat → Int → Int) (k v : Int), zup N 467 k v c j = N c j from fun N k v => if_neg (fun z => h1 z.1), show ∀ (N : Nat → Int → Int) (k v : Int), zup N 467 k v c j = N c j from fun N k v => if_neg (fun z => h1 z.1), show ∀ (N : Nat → Int → Int) (k v : Int), zup N 467 k v c j = N c j from fun N k v => if_neg (fun z => h1 z.1)]
    · exact h2
    · exact h3
    · exact h4
  have e1 : ∀ k : Int, ¬ ((1 ≤ k ∧ k ≤ 11)) → TAU0 n τ 467 k = τ 467 k := fun k hk => by
    show zup (adv (zup (zup (zup τ 467 1 0) 467 2 0) 467 3 n)) 467 11 (1 - τ 467 11) 467 k = τ 467 k
    rw [show ∀ (N : Nat → Int → Int) (j v : Int), ¬ k = j → zup N 467 j v 467 k = N 467 k from fun N j v z => if_neg (fun y => z y.2), adv_at (by omega), show ∀ (N : Nat → Int → Int) (j v : Int), ¬ k = j → zup N 467 j v 467 k = N 467 k from fun N j v z => if_neg (fun y => z y.2), show ∀ (N : Nat → Int → Int) (j v : Int), ¬ k = j → zup N 467 j v 467 k = N 467 k from fun N j v z => if_neg (fun y => z y.2), show ∀ (N : Nat → Int → Int) (j v : Int), ¬ k = j → zup N 467 j v 467 k = N 467 k from fun N j v z => if_neg (fun y => z y.2)] <;> omega
  have b1 : 1 - τ 467 11 = b := by omega
  refine ⟨⟨fun c a d => ?_, fun k a => ?_, fun c j x y z => ?_, fun c j x y z => ?_, fun c j x y z => ?_, fun c j x y z => ?_⟩, ?_, ?_⟩
  · rw [h.1 c a d]; funext j; exact e0 c (by omega) (by omega) (by omega) (by omega) j
  · rw [h.2.1 k (by omega)]; exact e1 k (by omega)
  · rw [h.2.2.1 c j x y z]
    have w : c = 469 ∨ c = 470 ∨ c = 471 := by omega
    rcases w with w | w | w <;> subst w
    · show zs (τ 469) (1 - τ 467 11) 0 j = _
      exact zs_neg (by omega)
    · show zs (τ 470) (1 - τ 467 11) 0 j = _
      exact zs_neg (by omega)
    · show zs (τ 471) (1 - τ 467 11) 0 j = _
      exact zs_neg (by omega)
  · rw [h.2.2.2.1 c j x y z]; exact e0 c (by omega) (by omega) (by omega) (by omega) j
  · rw [h.2.2.2.2.1 c j x y z]; exact e0 c (by omega) (by omega) (by omega) (by omega) j
  · rw [h.2.2.2.2.2 c j x y z]; exact e0 c (by omega) (by omega) (by omega) (by omega) j
  · rw [h.2.1 1 (by decide)]
    show adv (zup (zup (zup τ 467 1 0) 467 2 0) 467 3 n) 467 1 = 0
    rw [adv_at (by decide)]; rfl
  · rw [h.2.1 11 (by decide)]
    show 1 - τ 467 11 = b
    exact b1
theorem gTK_0 {tx so st va : Int → Int} {N : Int} {σ : Nat → Int → Int} (t1 : tkC tx (σ 468) (σ 467 3) N so st va) (q0 : σ 467 2 = 0) : gTK tx so st va N 0 (adv σ 468) (adv σ 467 3) (adv σ 467 2) (adv σ 467 5) (adv σ 467 6) (adv σ 467 7) (adv σ 467 8) (adv σ 467 9) (adv σ 467 10) := by
  have s := tk_step (o7 := σ 467 7) (o8 := σ 467 8) (o9 := σ 467 9) (o10 := σ 467 10) (i := 0) (q := σ 467 2) t1 (Int.le_refl _) t1.1.1 q0
  exact ⟨t1, ⟨Int.le_refl _, t1.1.1⟩, s.2.1, s.2.2⟩
theorem cL_zz {dp br mi en ar la : Int → Int} : cL dp br mi en ar la 0 := ⟨Int.le_refl _, fun i a c => by omega, fun d a c => by omega⟩
theorem PR_0 {p : Nat} {b : Int} {M τ : Nat → Int → Int} (hb : 0 ≤ b ∧ b ≤ 1) (h11 : τ 467 11 = b) (hT : gTK (M 17) (M 92) (M 93) (M 94) (M 91 3) (M 91 4) (τ 468) (τ 467 3) (τ 467 2) (τ 467 5) (τ 467 6) (τ 467 7) (τ 467 8) (τ 467 9) (τ 467 10)) (h9 : τ 469 b = 0) (h0 : τ 470 b = 0) (h1 : τ 471 b = 0) (m0 : M p 0 = 0) (m1 : M p 1 = 0) (m13 : M (p + 15) 13 = 0) : PR p b M τ := by
  unfold PR
  rw [m0, m1, m13]
  refine ⟨hT, ⟨hb, h11, ⟨h9, by decide, by decide⟩, ⟨h0, by decide, by decide⟩, ⟨h1, by decide, by decide⟩⟩, ⟨fun l a c => by omega, fun l a c => by omega, fun l a c => by omega, fun l a c => by omega, fun l a c => by omega, fun l a c => by omega, fun l a c => by omega, fun l a c => by omega, fun l a c => by omega⟩, cL_zz, ⟨rfl, fun l a c => by omega, fun s a c => by omega, fun g a c => by omega⟩, fun g a c => by omega, fun g k a c e => by omega, ⟨fun g a c => by omega, fun z => by omega, fun _ => ⟨rfl, rfl⟩⟩⟩
theorem wc_64 {d : Nat} {P : Nat → Nat → Nat} {M : Nat → Int → Int} {Q : zQ} (h : WP (d + 33) 64 0 0 0 [some (vR 467)] [] (zS P M) Q) : WC (d + 34) 64 [vR 467] (zS P M) Q := ⟨_, rfl, h⟩
section
variable {b n : Int} {τ τ' : Nat → Int → Int}
/-- the reference: to its loop of reads(), by whatever comes then -/
theorem rP_1 (hn : 0 ≤ n ∧ n ≤ 400 ∧ n ≤ τ 467 1) (hb : 0 ≤ τ 467 11 ∧ τ 467 11 ≤ 1) (h8 : ∀ xi : Int, 0 ≤ xi → xi < n → 0 ≤ zand (τ 468 xi) 255) (r : rN (TAU0 n τ) τ') (he : τ' 467 5 = 0) (d : Nat) (P : Nat → Nat → Nat) (A : Nat → Int → Int) (Q : zQ) (k : WP (d + 34) 66 0 0 57 [some (vR 467), some (vI n)] [] (zS P (mix A τ')) Q) : WP (d + 34) 66 0 0 0 [some (vR 467), some (vI n)] [] (zS P (mix A τ)) Q := by
  refine pm_0_r n (fun _ => pm_1_r (τ := (zup (zup (zup τ 467 1 0) 467 2 0) 467 3 n)) n ⟨hn.1, hn.2.1⟩ ⟨Int.le_refl _, hn.1⟩ h8 hb (pm_r1 (HK := fun M1 => M1 = mix A τ') n (fun Q' k' => wc_64 (pd_0_r (τ := (zup (adv (zup (zup (zup τ 467 1 0) 467 2 0) 467 3 n)) 467 11 (1 - τ 467 11))) (show 0 ≤ 1 - τ 467 11 ∧ 1 - τ 467 11 ≤ 1 by omega) (r d P A Q' (pd_e_r he (k' _ rfl))))) (fun M1 z => by rw [z]; exact k))) (fun q => absurd hn q)
theorem rP_0 (hn : 0 ≤ n ∧ n ≤ 400 ∧ n ≤ τ 467 1) (hb : 0 ≤ τ 467 11 ∧ τ 467 11 ≤ 1) (h8 : ∀ xi : Int, 0 ≤ xi → xi < n → 0 ≤ zand (τ 468 xi) 255) (r : rOf (TAU0 n τ) τ') (hb' : 0 ≤ τ' 467 11 ∧ τ' 467 11 ≤ 1) (d : Nat) (P : Nat → Nat → Nat) (A : Nat → Int → Int) (Q : zQ) (k : Q (zS P (mix A (zup τ' 467 11 (1 - τ' 467 11)))) (some (vI (τ' 467 4)))) : WP (d + 34) 66 0 0 0 [some (vR 467), some (vI n)] [] (zS P (mix A τ)) Q := by
  refine pm_0_r n (fun _ => pm_1_r (τ := (zup (zup (zup τ 467 1 0) 467 2 0) 467 3 n)) n ⟨hn.1, hn.2.1⟩ ⟨Int.le_refl _, hn.1⟩ h8 hb (pm_r0 (HK := fun M1 => M1 = mix A τ') n (fun Q' k' => wc_64 (pd_0_r (τ := (zup (adv (zup (zup (zup τ 467 1 0) 467 2 0) 467 3 n)) 467 11 (1 - τ 467 11))) (show 0 ≤ 1 - τ 467 11 ∧ 1 - τ 467 11 ≤ 1 by omega) (r d P A Q' (k' _ rfl)))) (fun M1 z => by rw [z]; exact pm_x_r n hb' k))) (fun q => absurd hn q)
theorem frAx_11 {v : Int} (h : frAx b τ τ') : frAx b τ (zup τ' 467 11 v) := by
  refine ⟨fun c a d => ?_, fun k a => ?_, fun c j x y z => ?_, fun c j x y z => ?_, fun c j x y z => ?_, fun c j x y z => ?_⟩
  · rw [← h.1 c a d]; funext j; exact if_neg (fun z => by omega)
  · rw [← h.2.1 k a]; exact if_neg (fun z => by omega)
  · rw [← h.2.2.1 c j x y z]; exact if_neg (fun z => by omega)
  · rw [← h.2.2.2.1 c j x y z]; exact if_neg (fun z => by omega)
  · rw [← h.2.2.2.2.1 c j x y z]; exact if_neg (fun z => by omega)
  · rw [← h.2.2.2.2.2 c j x y z]; exact if_neg (fun z => by omega)
theorem frAx_4 {v : Int} (h : frAx b τ τ') : frAx b τ (zup τ' 467 4 v) := by
  refine ⟨fun c a d => ?_, fun k a => ?_, fun c j x y z => ?_, fun c j x y z => ?_, fun c j x y z => ?_, fun c j x y z => ?_⟩
  · rw [← h.1 c a d]; funext j; exact if_neg (fun z => by omega)
  · rw [← h.2.1 k a]; exact if_neg (fun z => by omega)
  · rw [← h.2.2.1 c j x y z]; exact if_neg (fun z => by omega)
  · rw [← h.2.2.2.1 c j x y z]; exact if_neg (fun z => by omega)
  · rw [← h.2.2.2.2.1 c j x y z]; exact if_neg (fun z => by omega)
  · rw [← h.2.2.2.2.2 c j x y z]; exact if_neg (fun z => by omega)
theorem frAx_485 {w : Int → Int} (hw : ∀ j : Int, ¬ (60 * b ≤ j ∧ j < 60 * b + 60) → w j = τ' 485 j) (h : frAx b τ τ') : frAx b τ (zrow τ' 485 w) := by
  refine ⟨fun c a d => ?_, fun k a => ?_, fun c j x y z => ?_, fun c j x y z => ?_, fun c j x y z => ?_, fun c j x y z => ?_⟩
  · rw [← h.1 c a d]; funext j; exact if_neg (by omega)
  · rw [← h.2.1 k a]; exact if_neg (by decide)
  · rw [← h.2.2.1 c j x y z]; exact if_neg (by omega)
  · rw [← h.2.2.2.1 c j x y z]; exact if_neg (by omega)
  · rw [← h.2.2.2.2.1 c j x y z]
    unfold zrow
    split
    · rename_i e; rw [e]; exact hw j z
    · rfl
  · rw [← h.2.2.2.2.2 c j x y z]; exact if_neg (by omega)
end
theorem wcc_221_33 {d : Nat} {P : Nat → Nat → Nat} {M : Nat → Int → Int} {Q : zQ} {n : Int} (h : WP (d + 129) 221 0 0 0 [some (vR 91), some (vR 17), some (vI n), some (vR 33), none, none] [] (zS P M) Q) : WC (d + 130) 221 [vR 91, vR 17, vI n, vR 33] (zS P M) Q := ⟨_, rfl, h⟩
theorem RD_33 {b n : Int} {M τ : Nat → Int → Int} (wa : wALL M) (hn : 0 ≤ n ∧ n ≤ 400 ∧ n ≤ τ 467 1) (ht : ∀ j : Int, 0 ≤ j → j < n → zand (τ 468 j) 255 = M 17 j ∧ 0 ≤ M 17 j ∧ M 17 j ≤ 255) (hb : 0 ≤ b ∧ b ≤ 1) (h11 : τ 467 11 = 1 - b) (d : Nat) (P : Nat → Nat → Nat) (Q : zQ)
    (hOK : ∀ (M' τ' : Nat → Int → Int) (w : Int → Int), PR 33 b M' τ' → frO 33 M M' → frAx b τ τ' → τ' 467 1 = 0 → (∀ s : Int, 0 ≤ s → s < M' 33 1 → GDc 33 M' s ∧ w s = fnd (M' (33 + 1)) (M' 96 s) (M' 33 0)) → (∀ (d : Nat) (P : Nat → Nat → Nat) (A : Nat → Int → Int) (Q : zQ), WP (d + 34) 66 0 0 57 [some (vR 467), some (vI n)] [] (zS P (mix A τ')) Q → WP (d + 34) 66 0 0 0 [some (vR 467), some (vI n)] [] (zS P (mix A τ)) Q) → Q (zS (zupN P 91 8 33) (zrow M' 45 w)) (some (vI 0)))
    (hBAD : ∀ (M' : Nat → Int → Int) (r : Int), r < 0 → frO 33 M M' → (∀ (d : Nat) (P : Nat → Nat → Nat) (A : Nat → Int → Int) (Q : zQ), (∀ τ' : Nat → Int → Int, frAx b τ τ' → τ' 467 11 = 1 - b → τ' 467 1 = 0 → Q (zS P (mix A τ')) (some (vI r))) → WP (d + 34) 66 0 0 0 [some (vR 467), some (vI n)] [] (zS P (mix A τ)) Q) → Q (zS (zupN P 91 8 33) M') (some (vI r))) :
    WC (d + 130) 221 [vR 91, vR 17, vI n, vR 33] (zS P M) Q := by
  refine wcc_221_33 ?_
  obtain ⟨w5l, w5s, w5c0, w5c1, w5c2, w6l, w6s, w6c0, w6c1, w7l, w7s, w7c0, w7c1, w7c2, w7c3, w8l, w8s, w8c0, w8c1, w8c2, w8c3, w9l, w9s, w9c0, w9c1, w9c2, w9c3⟩ := wa
  have h8 : ∀ xi : Int, 0 ≤ xi → xi < n → 0 ≤ zand (τ 468 xi) 255 := fun xi a c => by have z := ht xi a c; rw [z.1]; exact z.2.1
  have hb' : 0 ≤ τ 467 11 ∧ τ 467 11 ≤ 1 := by omega
  refine readProg_a_33 n hn.1 hn.2.1 w5l w5s w5c0 w5c1 w5c2 w6l w6s w6c0 w6c1 w7l w7s w7c0 w7c1 w7c2 w7c3 w8l w8s w8c0 w8c1 w8c2 w8c3 w9l w9s w9c0 w9c1 w9c2 w9c3 (fun v3 w92 w93 w94 o1 o2 o3 o4 o5 => ?_)
  have tk : tkC (M 17) (τ 468) n v3 w92 w93 w94 := ⟨⟨o1.1, o1.2, hn.2.1⟩, o2, o3, o4, o5, ht⟩
  have pr : PR 33 b (zup (zup (zup (zup (zup (zup (zup (zrow (zrow (zrow M 92 w92) 93 w93) 94 w94) 33 0 0) 33 1 0) 48 13 0) 91 3 v3) 91 4 0) 91 6 0) 91 7 0) (TAU0 n τ) := by
    refine PR_0 hb (show 1 - τ 467 11 = b by omega) ?_ ?_ ?_ ?_ rfl rfl rfl
    · exact gTK_0 (σ := (zup (zup (zup τ 467 1 0) 467 2 0) 467 3 n)) tk rfl
    · show zs (τ 469) (1 - τ 467 11) 0 b = 0
      exact zs_pos (by omega)
    · show zs (τ 470) (1 - τ 467 11) 0 b = 0
      exact zs_pos (by omega)
    · show zs (τ 471) (1 - τ 467 11) 0 b = 0
      exact zs_pos (by omega)
  have fO : frO 33 M (zup (zup (zup (zup (zup (zup (zup (zrow (zrow (zrow M 92 w92) 93 w93) 94 w94) 33 0 0) 33 1 0) 48 13 0) 91 3 v3) 91 4 0) 91 6 0) 91 7 0) := (by repeat first | exact frO_refl | refine frO_up (by decide) ?_ | refine frO_row (by decide) ?_)
  refine FL_33 (b := b) (n := n) 9 (zup (zup (zup (zup (zup (zup (zup (zrow (zrow (zrow M 92 w92) 93 w93) 94 w94) 33 0 0) 33 1 0) 48 13 0) 91 3 v3) 91 4 0) 91 6 0) 91 7 0) (TAU0 n τ) pr rfl (show 8 - (0 : Int) < ((9 : Nat) : Int) by decide) d P Q (fun M' τ' k1 k2 k3 k4 k5 k6 => ?_) (fun M' τ' k1 k2 k3 k4 => ?_)
  · have i := PR_in k1
    have tk0 : τ' 467 5 = 0 := (tk_end0 k1.1.2.2.2).mpr k2
    obtain ⟨fA, fA1, fA11⟩ := frAx_0 h11 k5
    have rr := fun d P A Q k => rP_1 (Q := Q) hn hb' h8 k6 tk0 d P A k
    refine readProg_z_33 n (M' 33 0) (by omega) i.2.1.1 i.2.1.2 k2 i.2.1 i.2.2.2.1 k3 (fun s s0 s1 => (PR_st k1 s0 s1).2.2.2.1) (fun w z => hOK M' τ' w k1 (frO_tr fO k4) fA fA1 (fun s s0 s1 => z s s0 s1) rr) (fun w v6 v7 x x0 x1 x2 => ?_)
    refine hBAD _ _ ?_ (frO_tr fO (frO_tr k4 (by repeat first | exact frO_refl | refine frO_up (by decide) ?_ | refine frO_row (by decide) ?_))) (fun d P A Q k => rr d P A Q ?_)
    · have := (PR_st k1 x0.1 x0.2).2.2.2.1
      show -6000 - M' 97 x < 0
      omega
    · refine pm_f0 (HK := fun M1 => ∃ w : Int → Int, (∀ j : Int, (∀ s : Int, 0 ≤ s → s < M' 33 1 → ¬ j = 60 * b + M' (33 + 13) s) → w j = τ' 485 j) ∧ M1 = mix A (zup (zrow τ' 485 w) 467 4 (-6000 - M' 97 x))) n (fun Q' k' => finds_no k1 x0 (fun s s0 s1 => x1 s s0 s1) x2 (d + 32) P A Q' (fun w hw => k' _ ⟨w, hw, rfl⟩)) (fun M1 z => ?_)
      obtain ⟨w, hw, e⟩ := z
      rw [e]
      refine pm_x_r n (show 0 ≤ τ' 467 11 ∧ τ' 467 11 ≤ 1 by rw [fA11]; exact hb) (k _ (frAx_11 (frAx_4 (frAx_485 (fun j hj => hw j (fun s s0 s1 q => hj ?_)) fA))) (show 1 - τ' 467 11 = 1 - b by rw [fA11]) fA1)
      have := (PR_st k1 s0 s1).2.1
      have := i.2.2.1
      have : M' (33 + 15) 13 ≤ 60 := this.2
      omega
  · obtain ⟨fA, fA1, fA11⟩ := frAx_0 h11 k3
    refine hBAD M' _ ?_ (frO_tr fO k2) (fun d P A Q k => rP_0 hn hb' h8 k4 (by rw [fA11]; exact hb) d P A Q ?_)
    · have a := k1.1
      have c := k1.2.1
      omega
    · rw [k1.2.2]
      exact k _ (frAx_11 fA) (show 1 - τ' 467 11 = 1 - b by rw [fA11]) fA1
theorem wcc_221_62 {d : Nat} {P : Nat → Nat → Nat} {M : Nat → Int → Int} {Q : zQ} {n : Int} (h : WP (d + 129) 221 0 0 0 [some (vR 91), some (vR 17), some (vI n), some (vR 62), none, none] [] (zS P M) Q) : WC (d + 130) 221 [vR 91, vR 17, vI n, vR 62] (zS P M) Q := ⟨_, rfl, h⟩
theorem RD_62 {b n : Int} {M τ : Nat → Int → Int} (wa : wALL M) (hn : 0 ≤ n ∧ n ≤ 400 ∧ n ≤ τ 467 1) (ht : ∀ j : Int, 0 ≤ j → j < n → zand (τ 468 j) 255 = M 17 j ∧ 0 ≤ M 17 j ∧ M 17 j ≤ 255) (hb : 0 ≤ b ∧ b ≤ 1) (h11 : τ 467 11 = 1 - b) (d : Nat) (P : Nat → Nat → Nat) (Q : zQ)
    (hOK : ∀ (M' τ' : Nat → Int → Int) (w : Int → Int), PR 62 b M' τ' → frO 62 M M' → frAx b τ τ' → τ' 467 1 = 0 → (∀ s : Int, 0 ≤ s → s < M' 62 1 → GDc 62 M' s ∧ w s = fnd (M' (62 + 1)) (M' 96 s) (M' 62 0)) → (∀ (d : Nat) (P : Nat → Nat → Nat) (A : Nat → Int → Int) (Q : zQ), WP (d + 34) 66 0 0 57 [some (vR 467), some (vI n)] [] (zS P (mix A τ')) Q → WP (d + 34) 66 0 0 0 [some (vR 467), some (vI n)] [] (zS P (mix A τ)) Q) → Q (zS (zupN P 91 8 62) (zrow M' 74 w)) (some (vI 0)))
    (hBAD : ∀ (M' : Nat → Int → Int) (r : Int), r < 0 → frO 62 M M' → (∀ (d : Nat) (P : Nat → Nat → Nat) (A : Nat → Int → Int) (Q : zQ), (∀ τ' : Nat → Int → Int, frAx b τ τ' → τ' 467 11 = 1 - b → τ' 467 1 = 0 → Q (zS P (mix A τ')) (some (vI r))) → WP (d + 34) 66 0 0 0 [some (vR 467), some (vI n)] [] (zS P (mix A τ)) Q) → Q (zS (zupN P 91 8 62) M') (some (vI r))) :
    WC (d + 130) 221 [vR 91, vR 17, vI n, vR 62] (zS P M) Q := by
  refine wcc_221_62 ?_
  obtain ⟨w5l, w5s, w5c0, w5c1, w5c2, w6l, w6s, w6c0, w6c1, w7l, w7s, w7c0, w7c1, w7c2, w7c3, w8l, w8s, w8c0, w8c1, w8c2, w8c3, w9l, w9s, w9c0, w9c1, w9c2, w9c3⟩ := wa
  have h8 : ∀ xi : Int, 0 ≤ xi → xi < n → 0 ≤ zand (τ 468 xi) 255 := fun xi a c => by have z := ht xi a c; rw [z.1]; exact z.2.1
  have hb' : 0 ≤ τ 467 11 ∧ τ 467 11 ≤ 1 := by omega
  refine readProg_a_62 n hn.1 hn.2.1 w5l w5s w5c0 w5c1 w5c2 w6l w6s w6c0 w6c1 w7l w7s w7c0 w7c1 w7c2 w7c3 w8l w8s w8c0 w8c1 w8c2 w8c3 w9l w9s w9c0 w9c1 w9c2 w9c3 (fun v3 w92 w93 w94 o1 o2 o3 o4 o5 => ?_)
  have tk : tkC (M 17) (τ 468) n v3 w92 w93 w94 := ⟨⟨o1.1, o1.2, hn.2.1⟩, o2, o3, o4, o5, ht⟩
  have pr : PR 62 b (zup (zup (zup (zup (zup (zup (zup (zrow (zrow (zrow M 92 w92) 93 w93) 94 w94) 62 0 0) 62 1 0) 77 13 0) 91 3 v3) 91 4 0) 91 6 0) 91 7 0) (TAU0 n τ) := by
    refine PR_0 hb (show 1 - τ 467 11 = b by omega) ?_ ?_ ?_ ?_ rfl rfl rfl
    · exact gTK_0 (σ := (zup (zup (zup τ 467 1 0) 467 2 0) 467 3 n)) tk rfl
    · show zs (τ 469) (1 - τ 467 11) 0 b = 0
      exact zs_pos (by omega)
    · show zs (τ 470) (1 - τ 467 11) 0 b = 0
      exact zs_pos (by omega)
    · show zs (τ 471) (1 - τ 467 11) 0 b = 0
      exact zs_pos (by omega)
  have fO : frO 62 M (zup (zup (zup (zup (zup (zup (zup (zrow (zrow (zrow M 92 w92) 93 w93) 94 w94) 62 0 0) 62 1 0) 77 13 0) 91 3 v3) 91 4 0) 91 6 0) 91 7 0) := (by repeat first | exact frO_refl | refine frO_up (by decide) ?_ | refine frO_row (by decide) ?_)
  refine FL_62 (b := b) (n := n) 9 (zup (zup (zup (zup (zup (zup (zup (zrow (zrow (zrow M 92 w92) 93 w93) 94 w94) 62 0 0) 62 1 0) 77 13 0) 91 3 v3) 91 4 0) 91 6 0) 91 7 0) (TAU0 n τ) pr rfl (show 8 - (0 : Int) < ((9 : Nat) : Int) by decide) d P Q (fun M' τ' k1 k2 k3 k4 k5 k6 => ?_) (fun M' τ' k1 k2 k3 k4 => ?_)
  · have i := PR_in k1
    have tk0 : τ' 467 5 = 0 := (tk_end0 k1.1.2.2.2).mpr k2
    obtain ⟨fA, fA1, fA11⟩ := frAx_0 h11 k5
    have rr := fun d P A Q k => rP_1 (Q := Q) hn hb' h8 k6 tk0 d P A k
    refine readProg_z_62 n (M' 62 0) (by omega) i.2.1.1 i.2.1.2 k2 i.2.1 i.2.2.2.1 k3 (fun s s0 s1 => (PR_st k1 s0 s1).2.2.2.1) (fun w z => hOK M' τ' w k1 (frO_tr fO k4) fA fA1 (fun s s0 s1 => z s s0 s1) rr) (fun w v6 v7 x x0 x1 x2 => ?_)
    refine hBAD _ _ ?_ (frO_tr fO (frO_tr k4 (by repeat first | exact frO_refl | refine frO_up (by decide) ?_ | refine frO_row (by decide) ?_))) (fun d P A Q k => rr d P A Q ?_)
    · have := (PR_st k1 x0.1 x0.2).2.2.2.1
      show -6000 - M' 97 x < 0
      omega
    · refine pm_f0 (HK := fun M1 => ∃ w : Int → Int, (∀ j : Int, (∀ s : Int, 0 ≤ s → s < M' 62 1 → ¬ j = 60 * b + M' (62 + 13) s) → w j = τ' 485 j) ∧ M1 = mix A (zup (zrow τ' 485 w) 467 4 (-6000 - M' 97 x))) n (fun Q' k' => finds_no k1 x0 (fun s s0 s1 => x1 s s0 s1) x2 (d + 32) P A Q' (fun w hw => k' _ ⟨w, hw, rfl⟩)) (fun M1 z => ?_)
      obtain ⟨w, hw, e⟩ := z
      rw [e]
      refine pm_x_r n (show 0 ≤ τ' 467 11 ∧ τ' 467 11 ≤ 1 by rw [fA11]; exact hb) (k _ (frAx_11 (frAx_4 (frAx_485 (fun j hj => hw j (fun s s0 s1 q => hj ?_)) fA))) (show 1 - τ' 467 11 = 1 - b by rw [fA11]) fA1)
      have := (PR_st k1 s0 s1).2.1
      have := i.2.2.1
      have : M' (62 + 15) 13 ≤ 60 := this.2
      omega
  · obtain ⟨fA, fA1, fA11⟩ := frAx_0 h11 k3
    refine hBAD M' _ ?_ (frO_tr fO k2) (fun d P A Q k => rP_0 hn hb' h8 k4 (by rw [fA11]; exact hb) d P A Q ?_)
    · have a := k1.1
      have c := k1.2.1
      omega
    · rw [k1.2.2]
      exact k _ (frAx_11 fA) (show 1 - τ' 467 11 = 1 - b by rw [fA11]) fA1
