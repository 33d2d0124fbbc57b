/-! The pair swap -/
/-- cells of a program that swap leaves as they are -/
def sCell (p c : Nat) : Bool := c == p || (p + 13 ≤ c && c ≤ p + 28) || (469 ≤ c && c ≤ 499)
def swR (p : Nat) (M A : Nat → Int → Int) (a0 a1 : Int) : Prop :=
  A (p + 1) = zx (M (p + 1)) a0 a1 ∧ A (p + 2) = zx (M (p + 2)) a0 a1 ∧ A (p + 3) = zx (M (p + 3)) a0 a1 ∧ A (p + 4) = zx (M (p + 4)) a0 a1 ∧ A (p + 5) = zx (M (p + 5)) a0 a1 ∧ A (p + 6) = zx (M (p + 6)) a0 a1 ∧ A (p + 7) = zx (M (p + 7)) a0 a1 ∧ A (p + 8) = zx (M (p + 8)) a0 a1 ∧ A (p + 9) = zx (M (p + 9)) a0 a1 ∧ A (p + 10) = zx (M (p + 10)) a0 a1 ∧ (A (p + 11) = xchr (M (p + 11)) a0 a1 (M p 1) ∧ A (p + 12) = xchr (M (p + 12)) a0 a1 (M p 1)) ∧ (A 503 = zx (M 503) a0 a1 ∧ A 467 = M 467) ∧ ∀ c : Nat, sCell p c = true → A c = M c
theorem zx_comp {r w : Int → Int} {F : Int → Int} {f g n : Int} (hf : 0 ≤ f ∧ f < n) (hg : 0 ≤ g ∧ g < n) (h : ∀ k : Int, 0 ≤ k → k < n → r k = F (w k)) : ∀ k : Int, 0 ≤ k → k < n → zx r f g k = F (zx w f g k) := by
  intro k k0 k1
  unfold zx zs
  by_cases e1 : k = g
  · rw [if_pos e1, if_pos e1]; exact h f hf.1 hf.2
  · rw [if_neg e1, if_neg e1]
    by_cases e2 : k = f
    · rw [if_pos e2, if_pos e2]; exact h g hg.1 hg.2
    · rw [if_neg e2, if_neg e2]; exact h k k0 k1
theorem zx_xch (w : Int → Int) (f g h : Int) : zx w f g (xch h f g) = w h := by
  unfold zx zs xch
  by_cases e1 : h = f
  · rw [if_pos e1, if_pos rfl, e1]
  · rw [if_neg e1]
    by_cases e2 : h = g
    · rw [if_pos e2]
      by_cases e3 : f = g
      · exact absurd (e2.trans e3.symm) e1
      · rw [if_neg e3, if_pos rfl, e2]
    · rw [if_neg e2, if_neg e2, if_neg e1]
theorem perm_swap {w v : Int → Int} (h : ∀ f : Int, 0 ≤ f → f < 8 → (0 ≤ w f ∧ w f < 8) ∧ (0 ≤ v f ∧ v f < 8) ∧ v (w f) = f ∧ w (v f) = f) {a b : Int} (ha : 0 ≤ a ∧ a < 8) (hb : 0 ≤ b ∧ b < 8) (hab : ¬ a = b) : ∀ f : Int, 0 ≤ f → f < 8 → (0 ≤ zx w a b f ∧ zx w a b f < 8) ∧ (0 ≤ zs (zs v (zx w a b a) a) (w a) b f ∧ zs (zs v (zx w a b a) a) (w a) b f < 8) ∧ zs (zs v (zx w a b a) a) (w a) b (zx w a b f) = f ∧ zx w a b (zs (zs v (zx w a b a) a) (w a) b f) = f := by
  have ea : zx w a b a = w b := (zs_neg hab).trans (zs_pos rfl)
  have eb : zx w a b b = w a := zs_pos rfl
  have eo : ∀ f : Int, ¬ f = a → ¬ f = b → zx w a b f = w f := fun f p q => (zs_neg q).trans (zs_neg p)
  have hne : ¬ w b = w a := fun z => hab (by have := congrArg v z; rw [(h b hb.1 hb.2).2.2.1, (h a ha.1 ha.2).2.2.1] at this; exact this.symm)
  intro f f0 f1
  obtain ⟨x1, x2, x3, x4⟩ := h f f0 f1
  rw [ea]
  refine ⟨?_, ?_, ?_, ?_⟩
  · by_cases p : f = a
    · rw [p, ea]; exact (h b hb.1 hb.2).1
    · by_cases q : f = b
      · rw [q, eb]; exact (h a ha.1 ha.2).1
      · rw [eo f p q]; exact x1
  · unfold zs; split
    · exact hb
    · split
      · exact ha
      · exact x2
  · by_cases p : f = a
    · rw [p, ea, zs_neg hne, zs_pos rfl]
    · by_cases q : f = b
      · rw [q, eb, zs_pos rfl]
      · rw [eo f p q, zs_neg (fun z => p (by have := congrArg v z; rw [x3, (h a ha.1 ha.2).2.2.1] at this; exact this)), zs_neg (fun z => q (by have := congrArg v z; rw [x3, (h b hb.1 hb.2).2.2.1] at this; exact this)), x3]
  · by_cases p : f = w a
    · rw [zs_pos p, eb, p]
    · rw [zs_neg p]
      by_cases q : f = w b
      · rw [zs_pos q, ea, q]
      · rw [zs_neg q, eo _ (fun z => p (by rw [← z, x4])) (fun z => q (by rw [← z, x4])), x4]
section
variable {K : (Nat → Nat → Nat) → (Nat → Int → Int) → Prop} {L0 : Nat} {xs : Nat → Int32} {m d : Nat}
theorem pair_23_33 (hKs : ∀ (P : Nat → Nat → Nat) (M A : Nat → Int → Int) (p : Nat) (a0 a1 : Int), (p = 33 ∨ p = 62) → P 16 11 = p → IB L0 xs m P M → K P M → (0 ≤ a0 ∧ a0 < M 469 (M 467 11)) → (0 ≤ a1 ∧ a1 < M 469 (M 467 11)) → ¬ a0 = a1 → swR p M A a0 a1 → A 16 14 = -1 → A 16 15 = -1 → K P A) {P : Nat → Nat → Nat} {M : Nat → Int → Int} {a0 a1 : Int} (hI : IB L0 xs m P M) (hK : K P M) (hp : P 16 11 = 33) (hq : P 16 12 = 62) (hip : iprog 33 M) {Q1 : zQ} (h1 : ∀ (P1 : Nat → Nat → Nat) (M1 : Nat → Int → Int) (x : Int), M1 1 = M 1 → (∀ (Q2 : zQ), (∀ (P2 : Nat → Nat → Nat) (M2 : Nat → Int → Int), M2 1 = M 1 → (IB L0 xs (m + 1) P2 M2 ∧ K P2 M2) → Q2 (zS P2 M2) (some (vI x))) → WC (d + 20) 70 [vR 467, vI a0, vI a1] (zS P1 M1) Q2) → Q1 (zS P1 M1) (some (vI x))) : WC (d + 20) 25 [vR 16, vI a0, vI a1] (zS P M) Q1 := by
  obtain ⟨c1, c2, c3, c4, c5, c6, c7⟩ := id hI
  obtain ⟨i1, ⟨i2, i2b, i2c⟩, i3, i4, i5, i6, i7, i8⟩ := id hip
  have eP : zupN P 16 11 33 = P := by
    have := zupN_self P 16 11
    rw [hp] at this
    exact this
  have hn := i6.2.2.1
  have h3 : ∀ j : Int, 0 ≤ j → j < 8 → 0 ≤ M 503 j ∧ M 503 j < 8 := fun j j0 j1 => (c5 j j0 j1).1
  refine eqC eP.symm rfl (swap_c_33 a0 a1 i3 (by omega) (fun q => ?_) (fun q q2 => ?_) (fun q q2 => ?_))
  · refine h1 (zupN P 16 11 33) M _ rfl (fun Q2 h2 => swap_m a0 a1 i1 hn h3 (fun _ => h2 _ M rfl ?_) (fun z => absurd z (by omega)))
    rw [eP]; exact ⟨⟨c1, c2, c3, c4, c5, iprof_up c6, c7⟩, hK⟩
  · refine h1 (zupN P 16 11 33) M _ rfl (fun Q2 h2 => swap_m a0 a1 i1 hn h3 (fun z => absurd (by omega) z) (fun _ => eqR (if_pos q2) (eqQ (M' := M) ?_ (h2 _ M rfl ?_))))
    · subst q2
      have e1 : zx (M 503) a0 a0 = M 503 := by funext j; unfold zx zs; split <;> (try split) <;> (try (next z => rw [z])) <;> rfl
      have e2 : M 504 (M 503 a0) = a0 := (c5 a0 q.1 (by omega)).2.2.1
      have e3 : zs (zs (M 504) (M 503 a0) a0) (M 503 a0) a0 = M 504 := by funext j; unfold zs; split <;> (try split) <;> (try (next z => rw [z, e2])) <;> rfl
      show zrow (zrow M 503 (zx (M 503) a0 a0)) 504 (zs (zs (M 504) ((zx (M 503) a0 a0) a0) a0) (M 503 a0) a0) = M
      rw [e1, e3, zrow_self, zrow_self]
    · rw [eP]; exact ⟨⟨c1, c2, c3, c4, c5, iprof_up c6, c7⟩, hK⟩
  · refine h1 (zupN P 16 11 33) _ _ rfl (fun Q2 h2 => swap_m a0 a1 i1 hn h3 (fun z => absurd (show 0 ≤ a0 ∧ a0 < M 469 (M 467 11) ∧ 0 ≤ a1 ∧ a1 < M 469 (M 467 11) by omega) z) (fun _ => eqR (if_neg q2) (h2 _ _ rfl ⟨?_, ?_⟩)))
    rotate_left
    · rw [eP]; exact hKs P M _ 33 a0 a1 (by decide) hp hI hK (by omega) (by omega) q2 ⟨rfl, rfl, rfl, rfl, rfl, rfl, rfl, rfl, rfl, rfl, ⟨rfl, rfl⟩, ⟨rfl, rfl⟩, fun c q => by
        have z : c = 33 ∨ (46 ≤ c ∧ c ≤ 61) ∨ (469 ≤ c ∧ c ≤ 499) := by unfold sCell at q; simp at q; omega
        have zr : ∀ (N : Nat → Int → Int) (c' : Nat) (f : Int → Int), ¬ c = c' → zrow N c' f c = N c := fun N c' f h => by funext k; unfold zrow; rw [if_neg h]
        have zu : ∀ (N : Nat → Int → Int) (c' : Nat) (k v : Int), ¬ c = c' → zup N c' k v c = N c := fun N c' k v h => by funext k'; unfold zup; rw [if_neg (fun y => h y.1)]
        repeat (first | rw [zr _ _ _ (by omega)] | rw [zu _ _ _ _ (by omega)])⟩ rfl rfl
    have ha : 0 ≤ a0 ∧ a0 < 8 := by omega
    have hb : 0 ≤ a1 ∧ a1 < 8 := by omega
    have qa : 0 ≤ a0 ∧ a0 < M 469 (M 467 11) := by omega
    have qb : 0 ≤ a1 ∧ a1 < M 469 (M 467 11) := by omega
    have hps := perm_swap c5 ha hb q2
    refine ⟨(icon_row (by decide) (icon_row (by decide) (icon_up (by decide) (icon_up (by decide) (icon_row (by decide) (icon_row (by decide) (icon_row (by decide) (icon_row (by decide) (icon_row (by decide) (icon_row (by decide) (icon_row (by decide) (icon_row (by decide) (icon_row (by decide) (icon_row (by decide) (icon_row (by decide) (icon_row (by decide) (icon_row (by decide) c1))))))))))))))))), c2, c3, c4, hps, ⟨zx_comp ha hb c6.1, fun f f0 f1 => by have := c6.2.1 f f0 f1; exact ⟨this.1, by have := this.2; show M 507 f ≤ 3001 * ((m + 1 : Nat) : Int); omega⟩, c6.2.2⟩, Or.inl ⟨rfl, hq, i1, ⟨i2, i2b, i2c⟩, i3, i4, i5, ⟨fun f f0 f1 => ⟨?_, ?_, ?_, ?_, ?_⟩, fun s s0 s1 s2 => ?_, hn, fun x y x0 x1 y0 y1 e => ?_⟩, fun g g0 g1 => ?_, i8⟩⟩
    · have w := zx_comp (F := fun z => z) qa qb (fun k _ _ => rfl : ∀ k : Int, 0 ≤ k → k < M 469 (M 467 11) → M 503 k = (fun z => z) (M 503 k)) f f0 f1
      show 0 ≤ zx (M 503) a0 a1 f ∧ zx (M 503) a0 a1 f < M 469 (M 467 11)
      have u := (i6.1 a0 qa.1 qa.2).1
      have v := (i6.1 a1 qb.1 qb.2).1
      have x := (i6.1 f f0 f1).1
      unfold zx zs
      split
      · exact u
      · split
        · exact v
        · exact x
    · exact zx_comp (F := fun z => M 473 (8 * M 467 11 + z)) qa qb (fun k k0 k1 => (i6.1 k k0 k1).2.1) f f0 f1
    · exact zx_comp (F := fun z => M 474 (8 * M 467 11 + z)) qa qb (fun k k0 k1 => (i6.1 k k0 k1).2.2.1) f f0 f1
    · exact zx_comp (F := fun z => M 475 (8 * M 467 11 + z)) qa qb (fun k k0 k1 => (i6.1 k k0 k1).2.2.2.1) f f0 f1
    · exact zx_comp (F := fun z => M 476 (8 * M 467 11 + z)) qa qb (fun k k0 k1 => (i6.1 k k0 k1).2.2.2.2) f f0 f1
    · have s2 : 0 ≤ TOf M s := s2
      obtain ⟨u1, u2, u3⟩ := i6.2.1 s s0 s1 s2
      have hs : s < M 33 1 := by
        unfold TOf at s2; split at s2
        · next z => rw [i2b]; exact z
        · omega
      have e : xchr (M 45) a0 a1 (M 33 1) s = xch (M 45 s) a0 a1 := if_pos ⟨s0, hs⟩
      show 0 ≤ xchr (M 45) a0 a1 (M 33 1) s ∧ xchr (M 45) a0 a1 (M 33 1) s < M 469 (M 467 11) ∧ zx (M 503) a0 a1 (xchr (M 45) a0 a1 (M 33 1) s) = TOf M s
      rw [e, zx_xch]
      refine ⟨?_, ?_, u3⟩ <;> (unfold xch; split <;> (try split) <;> omega)
    · have a := (hps x x0 x1).2.2.1
      have b := (hps y y0 y1).2.2.1
      have e : zx (M 503) a0 a1 x = zx (M 503) a0 a1 y := e
      rw [e] at a
      exact a.symm.trans b
    · have y := i7 g g0 g1
      refine xSegE_congr (L := M) ?_ ?_ ?_ (xSegE_imp (fun a z => ?_) y)
      · rfl
      · rfl
      · rfl
      · exact z
theorem pair_23_62 (hKs : ∀ (P : Nat → Nat → Nat) (M A : Nat → Int → Int) (p : Nat) (a0 a1 : Int), (p = 33 ∨ p = 62) → P 16 11 = p → IB L0 xs m P M → K P M → (0 ≤ a0 ∧ a0 < M 469 (M 467 11)) → (0 ≤ a1 ∧ a1 < M 469 (M 467 11)) → ¬ a0 = a1 → swR p M A a0 a1 → A 16 14 = -1 → A 16 15 = -1 → K P A) {P : Nat → Nat → Nat} {M : Nat → Int → Int} {a0 a1 : Int} (hI : IB L0 xs m P M) (hK : K P M) (hp : P 16 11 = 62) (hq : P 16 12 = 33) (hip : iprog 62 M) {Q1 : zQ} (h1 : ∀ (P1 : Nat → Nat → Nat) (M1 : Nat → Int → Int) (x : Int), M1 1 = M 1 → (∀ (Q2 : zQ), (∀ (P2 : Nat → Nat → Nat) (M2 : Nat → Int → Int), M2 1 = M 1 → (IB L0 xs (m + 1) P2 M2 ∧ K P2 M2) → Q2 (zS P2 M2) (some (vI x))) → WC (d + 20) 70 [vR 467, vI a0, vI a1] (zS P1 M1) Q2) → Q1 (zS P1 M1) (some (vI x))) : WC (d + 20) 25 [vR 16, vI a0, vI a1] (zS P M) Q1 := by
  obtain ⟨c1, c2, c3, c4, c5, c6, c7⟩ := id hI
  obtain ⟨i1, ⟨i2, i2b, i2c⟩, i3, i4, i5, i6, i7, i8⟩ := id hip
  have eP : zupN P 16 11 62 = P := by
    have := zupN_self P 16 11
    rw [hp] at this
    exact this
  have hn := i6.2.2.1
  have h3 : ∀ j : Int, 0 ≤ j → j < 8 → 0 ≤ M 503 j ∧ M 503 j < 8 := fun j j0 j1 => (c5 j j0 j1).1
  refine eqC eP.symm rfl (swap_c_62 a0 a1 i3 (by omega) (fun q => ?_) (fun q q2 => ?_) (fun q q2 => ?_))
  · refine h1 (zupN P 16 11 62) M _ rfl (fun Q2 h2 => swap_m a0 a1 i1 hn h3 (fun _ => h2 _ M rfl ?_) (fun z => absurd z (by omega)))
    rw [eP]; exact ⟨⟨c1, c2, c3, c4, c5, iprof_up c6, c7⟩, hK⟩
  · refine h1 (zupN P 16 11 62) M _ rfl (fun Q2 h2 => swap_m a0 a1 i1 hn h3 (fun z => absurd (by omega) z) (fun _ => eqR (if_pos q2) (eqQ (M' := M) ?_ (h2 _ M rfl ?_))))
    · subst q2
      have e1 : zx (M 503) a0 a0 = M 503 := by funext j; unfold zx zs; split <;> (try split) <;> (try (next z => rw [z])) <;> rfl
      have e2 : M 504 (M 503 a0) = a0 := (c5 a0 q.1 (by omega)).2.2.1
      have e3 : zs (zs (M 504) (M 503 a0) a0) (M 503 a0) a0 = M 504 := by funext j; unfold zs; split <;> (try split) <;> (try (next z => rw [z, e2])) <;> rfl
      show zrow (zrow M 503 (zx (M 503) a0 a0)) 504 (zs (zs (M 504) ((zx (M 503) a0 a0) a0) a0) (M 503 a0) a0) = M
      rw [e1, e3, zrow_self, zrow_self]
    · rw [eP]; exact ⟨⟨c1, c2, c3, c4, c5, iprof_up c6, c7⟩, hK⟩
  · refine h1 (zupN P 16 11 62) _ _ rfl (fun Q2 h2 => swap_m a0 a1 i1 hn h3 (fun z => absurd (show 0 ≤ a0 ∧ a0 < M 469 (M 467 11) ∧ 0 ≤ a1 ∧ a1 < M 469 (M 467 11) by omega) z) (fun _ => eqR (if_neg q2) (h2 _ _ rfl ⟨?_, ?_⟩)))
    rotate_left
    · rw [eP]; exact hKs P M _ 62 a0 a1 (by decide) hp hI hK (by omega) (by omega) q2 ⟨rfl, rfl, rfl, rfl, rfl, rfl, rfl, rfl, rfl, rfl, ⟨rfl, rfl⟩, ⟨rfl, rfl⟩, fun c q => by
        have z : c = 62 ∨ (75 ≤ c ∧ c ≤ 90) ∨ (469 ≤ c ∧ c ≤ 499) := by unfold sCell at q; simp at q; omega
        have zr : ∀ (N : Nat → Int → Int) (c' : Nat) (f : Int → Int), ¬ c = c' → zrow N c' f c = N c := fun N c' f h => by funext k; unfold zrow; rw [if_neg h]
        have zu : ∀ (N : Nat → Int → Int) (c' : Nat) (k v : Int), ¬ c = c' → zup N c' k v c = N c := fun N c' k v h => by funext k'; unfold zup; rw [if_neg (fun y => h y.1)]
        repeat (first | rw [zr _ _ _ (by omega)] | rw [zu _ _ _ _ (by omega)])⟩ rfl rfl
    have ha : 0 ≤ a0 ∧ a0 < 8 := by omega
    have hb : 0 ≤ a1 ∧ a1 < 8 := by omega
    have qa : 0 ≤ a0 ∧ a0 < M 469 (M 467 11) := by omega
    have qb : 0 ≤ a1 ∧ a1 < M 469 (M 467 11) := by omega
    have hps := perm_swap c5 ha hb q2
    refine ⟨(icon_row (by decide) (icon_row (by decide) (icon_up (by decide) (icon_up (by decide) (icon_row (by decide) (icon_row (by decide) (icon_row (by decide) (icon_row (by decide) (icon_row (by decide) (icon_row (by decide) (icon_row (by decide) (icon_row (by decide) (icon_row (by decide) (icon_row (by decide) (icon_row (by decide) (icon_row (by decide) (icon_row (by decide) c1))))))))))))))))), c2, c3, c4, hps, ⟨zx_comp ha hb c6.1, fun f f0 f1 => by have := c6.2.1 f f0 f1; exact ⟨this.1, by have := this.2; show M 507 f ≤ 3001 * ((m + 1 : Nat) : Int); omega⟩, c6.2.2⟩, Or.inr ⟨rfl, hq, i1, ⟨i2, i2b, i2c⟩, i3, i4, i5, ⟨fun f f0 f1 => ⟨?_, ?_, ?_, ?_, ?_⟩, fun s s0 s1 s2 => ?_, hn, fun x y x0 x1 y0 y1 e => ?_⟩, fun g g0 g1 => ?_, i8⟩⟩
    · have w := zx_comp (F := fun z => z) qa qb (fun k _ _ => rfl : ∀ k : Int, 0 ≤ k → k < M 469 (M 467 11) → M 503 k = (fun z => z) (M 503 k)) f f0 f1
      show 0 ≤ zx (M 503) a0 a1 f ∧ zx (M 503) a0 a1 f < M 469 (M 467 11)
      have u := (i6.1 a0 qa.1 qa.2).1
      have v := (i6.1 a1 qb.1 qb.2).1
      have x := (i6.1 f f0 f1).1
      unfold zx zs
      split
      · exact u
      · split
        · exact v
        · exact x
    · exact zx_comp (F := fun z => M 473 (8 * M 467 11 + z)) qa qb (fun k k0 k1 => (i6.1 k k0 k1).2.1) f f0 f1
    · exact zx_comp (F := fun z => M 474 (8 * M 467 11 + z)) qa qb (fun k k0 k1 => (i6.1 k k0 k1).2.2.1) f f0 f1
    · exact zx_comp (F := fun z => M 475 (8 * M 467 11 + z)) qa qb (fun k k0 k1 => (i6.1 k k0 k1).2.2.2.1) f f0 f1
    · exact zx_comp (F := fun z => M 476 (8 * M 467 11 + z)) qa qb (fun k k0 k1 => (i6.1 k k0 k1).2.2.2.2) f f0 f1
    · have s2 : 0 ≤ TOf M s := s2
      obtain ⟨u1, u2, u3⟩ := i6.2.1 s s0 s1 s2
      have hs : s < M 62 1 := by
        unfold TOf at s2; split at s2
        · next z => rw [i2b]; exact z
        · omega
      have e : xchr (M 74) a0 a1 (M 62 1) s = xch (M 74 s) a0 a1 := if_pos ⟨s0, hs⟩
      show 0 ≤ xchr (M 74) a0 a1 (M 62 1) s ∧ xchr (M 74) a0 a1 (M 62 1) s < M 469 (M 467 11) ∧ zx (M 503) a0 a1 (xchr (M 74) a0 a1 (M 62 1) s) = TOf M s
      rw [e, zx_xch]
      refine ⟨?_, ?_, u3⟩ <;> (unfold xch; split <;> (try split) <;> omega)
    · have a := (hps x x0 x1).2.2.1
      have b := (hps y y0 y1).2.2.1
      have e : zx (M 503) a0 a1 x = zx (M 503) a0 a1 y := e
      rw [e] at a
      exact a.symm.trans b
    · have y := i7 g g0 g1
      refine xSegE_congr (L := M) ?_ ?_ ?_ (xSegE_imp (fun a z => ?_) y)
      · rfl
      · rfl
      · rfl
      · exact z
theorem pair_23 (hKs : ∀ (P : Nat → Nat → Nat) (M A : Nat → Int → Int) (p : Nat) (a0 a1 : Int), (p = 33 ∨ p = 62) → P 16 11 = p → IB L0 xs m P M → K P M → (0 ≤ a0 ∧ a0 < M 469 (M 467 11)) → (0 ≤ a1 ∧ a1 < M 469 (M 467 11)) → ¬ a0 = a1 → swR p M A a0 a1 → A 16 14 = -1 → A 16 15 = -1 → K P A) : pr_23 (d + 20) (fun P M => IB L0 xs m P M ∧ K P M) (fun P M => IB L0 xs (m + 1) P M ∧ K P M) := by
  intro P M a0 a1 hI r0 r1 Q1 h1
  obtain ⟨hB, hK⟩ := hI
  rcases hB.2.2.2.2.2.2 with ⟨p1, p2, p3⟩ | ⟨p1, p2, p3⟩
  · exact pair_23_33 hKs hB hK p1 p2 p3 h1
  · exact pair_23_62 hKs hB hK p1 p2 p3 h1
end
