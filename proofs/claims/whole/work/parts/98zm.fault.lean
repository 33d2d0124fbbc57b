/-! A fault: what is known is kept -/
section
variable {p : Nat} {M A : Nat → Int → Int}
theorem frH_tog (f : FrH M A) (h : iprog p M) (hx : ipx p M) : TOg A = TOg M := by
  funext s
  unfold TOg
  split
  · next z => exact frH_to f h hx s z
  · rfl
theorem rPrem_frH (hp : p + 40 < 467) (l : ∀ c : Nat, p ≤ c → c ≤ p + 28 → A c = M c) (lc : ∀ c : Nat, 121 ≤ c → c ≤ 440 → A c = M c) (f : FrH M A) (h : iprog p M) (hx : ipx p M) {τ0 G : Nat → Int → Int} {lf : Int → List Int} {ND : Int → Prop} (q : rPrem p A τ0 G lf ND) : rPrem p M τ0 G lf ND := by
  have gv := fun (g : Int) a b => frH_giv f h hx (g := g) a b
  have tg := frH_tog f h hx
  have n8 := h.2.2.2.2.2.1.2.2.1
  obtain ⟨e, B, F0, R, S0, ⟨D3, D4⟩⟩ := f
  have F : ∀ (c : Nat) (g : Int), 472 ≤ c → c ≤ 479 → 0 ≤ g → g < M 469 (M 467 11) → A c (8 * M 467 11 + g) = M c (8 * M 467 11 + g) := fun c g a b g0 g1 => F0 c _ a b (by omega) (by omega)
  obtain ⟨q1, ⟨c1, c2, c3, c4⟩, q3, q4, q5, q6⟩ := q
  have zc : ∀ i : Int, 0 ≤ i ∧ i < 320 → A (zcall i) = M (zcall i) := fun i hi => lc _ (by have := zcall_in hi; omega) (by have := zcall_in hi; omega)
  have fb : ∀ x : Int, ND x → 0 ≤ G 1 x ∧ G 1 x < M 469 (M 467 11) := fun x hx => by
    have w := (q3 x hx).2.1.2.1
    rw [e, B 469 (by decide) (by decide)] at w
    exact ⟨w.1, w.2.1⟩
  have f0 := fb 0 q4.1
  rw [e, F 474 _ (by decide) (by decide) f0.1 f0.2, F 475 _ (by decide) (by decide) f0.1 f0.2, F 476 _ (by decide) (by decide) f0.1 f0.2] at q6
  rw [e, F 476 _ (by decide) (by decide) f0.1 f0.2, F 478 _ (by decide) (by decide) f0.1 f0.2] at q5
  refine ⟨⟨fun c j a b d d' => ?_, fun c j a b d d' => ?_, ?_⟩, ⟨fun i hi => ?_, fun i hi => ?_, fun i hi => ?_, fun i hi => ?_⟩, fun x hx => ?_, q4, q5, q6⟩
  · rw [q1.1 c j a b (by rw [e]; exact d) (by rw [e]; exact d')]; exact F0 c j (by omega) b d d'
  · rw [q1.2.1 c j a b (by rw [e]; exact d) (by rw [e]; exact d')]; exact R c j a b d d'
  · rw [q1.2.2]; exact e
  · rw [← zc i hi]; exact c1 i hi
  · rw [← zc i hi]; exact c2 i hi
  · rw [← zc i hi]; exact c3 i hi
  · rw [← zc i hi]; exact c4 i hi
  · have w := q3 x hx
    have g := fb x hx
    unfold rFn at w ⊢
    rw [e, B 469 (by decide) (by decide), F 473 _ (by decide) (by decide) g.1 g.2, F 474 _ (by decide) (by decide) g.1 g.2, F 475 _ (by decide) (by decide) g.1 g.2, F 476 _ (by decide) (by decide) g.1 g.2, F 477 _ (by decide) (by decide) g.1 g.2, F 478 _ (by decide) (by decide) g.1 g.2, F 479 _ (by decide) (by decide) g.1 g.2, tg, l (p + 3) (by omega) (by omega), l (p + 4) (by omega) (by omega), l (p + 5) (by omega) (by omega), l (p + 6) (by omega) (by omega), l (p + 7) (by omega) (by omega), l (p + 9) (by omega) (by omega), gv _ g.1 g.2] at w
    exact w
theorem rHold_frH (hp : p + 40 < 467) (l : ∀ c : Nat, p ≤ c → c ≤ p + 28 → A c = M c) (lc : ∀ c : Nat, 121 ≤ c → c ≤ 455 → A c = M c) (f : FrH M A) (h : iprog p M) (hx : ipx p M) {g : Int} (q : rHold p M g) : rHold p A g := by
  obtain ⟨q1, q1b, q2⟩ := q
  refine ⟨?_, ?_, fun τ0 G lf ND w => ?_⟩
  · rw [lc 441 (by decide) (by decide), l (p + 3) (by omega) (by omega), l (p + 9) (by omega) (by omega), lc 442 (by decide) (by decide)]
    unfold rW at q1 ⊢
    rw [lc 441 (by decide) (by decide), lc 442 (by decide) (by decide), lc 443 (by decide) (by decide), lc 445 (by decide) (by decide), lc 449 (by decide) (by decide)]
    exact q1
  · rw [lc 441 (by decide) (by decide), l (p + 3) (by omega) (by omega)]; exact q1b
  · obtain ⟨τ', r⟩ := q2 τ0 G lf ND (rPrem_frH hp l (fun c a b => lc c a (by omega)) f h hx w)
    refine ⟨τ', ?_⟩
    rw [frH_tog f h hx, f.1, f.2.1 469 (by decide) (by decide)]
    unfold rFin rRel rRow okR at r ⊢
    rw [lc 441 (by decide) (by decide), lc 442 (by decide) (by decide), lc 443 (by decide) (by decide), lc 444 (by decide) (by decide), lc 445 (by decide) (by decide), lc 446 (by decide) (by decide), lc 447 (by decide) (by decide), lc 448 (by decide) (by decide), lc 449 (by decide) (by decide), lc 450 (by decide) (by decide), lc 451 (by decide) (by decide), lc 452 (by decide) (by decide), lc 453 (by decide) (by decide), lc 454 (by decide) (by decide), lc 455 (by decide) (by decide)]
    exact r
end
theorem tHold_nf_33 {M A : Nat → Int → Int} {f : Int} (l : ∀ c : Nat, c < 441 → ¬ (91 ≤ c ∧ c ≤ 115) → ¬ c = 16 → ¬ (62 ≤ c ∧ c ≤ 90) → A c = M c) (h : tHold 33 M f) : tHold 33 A f := by
  obtain ⟨c0, c1, c2, c3, c4, c5, c6, c7, c8, c9, c10, c11, c12, c13, c14, hc, hh, hr⟩ := h
  refine ⟨c0, c1, c2, c3, c4, c5, c6, c7, c8, c9, c10, c11, c12, c13, c14, ?_, ?_, ?_⟩
  · obtain ⟨h0, h1, h2, h3, h4, h5, h6, h7, h8, h9, h10, h11, h12, h13, h14⟩ := hc
    exact ⟨fun i hi => by rw [l _ (by have := zcall_in hi; omega) (by have := zcall_in hi; omega) (by have := zcall_in hi; omega) (by have := zcall_in hi; omega)]; exact h0 i hi, fun i hi => by rw [l _ (by have := zcall_in hi; omega) (by have := zcall_in hi; omega) (by have := zcall_in hi; omega) (by have := zcall_in hi; omega)]; exact h1 i hi, fun i hi => by rw [l _ (by have := zcall_in hi; omega) (by have := zcall_in hi; omega) (by have := zcall_in hi; omega) (by have := zcall_in hi; omega)]; exact h2 i hi, fun i hi => by rw [l _ (by have := zcall_in hi; omega) (by have := zcall_in hi; omega) (by have := zcall_in hi; omega) (by have := zcall_in hi; omega)]; exact h3 i hi, fun i hi => by rw [l _ (by have := zcall_in hi; omega) (by have := zcall_in hi; omega) (by have := zcall_in hi; omega) (by have := zcall_in hi; omega)]; exact h4 i hi, fun i hi => by rw [l _ (by have := zcall_in hi; omega) (by have := zcall_in hi; omega) (by have := zcall_in hi; omega) (by have := zcall_in hi; omega)]; exact h5 i hi, fun i hi => by rw [l _ (by have := zcall_in hi; omega) (by have := zcall_in hi; omega) (by have := zcall_in hi; omega) (by have := zcall_in hi; omega)]; exact h6 i hi, fun i hi => by rw [l _ (by have := zcall_in hi; omega) (by have := zcall_in hi; omega) (by have := zcall_in hi; omega) (by have := zcall_in hi; omega)]; exact h7 i hi, fun i hi => by rw [l _ (by have := zcall_in hi; omega) (by have := zcall_in hi; omega) (by have := zcall_in hi; omega) (by have := zcall_in hi; omega)]; exact h8 i hi, fun i hi => by rw [l _ (by have := zcall_in hi; omega) (by have := zcall_in hi; omega) (by have := zcall_in hi; omega) (by have := zcall_in hi; omega)]; exact h9 i hi, fun i hi => by rw [l _ (by have := zcall_in hi; omega) (by have := zcall_in hi; omega) (by have := zcall_in hi; omega) (by have := zcall_in hi; omega)]; exact h10 i hi, fun i hi => by rw [l _ (by have := zcall_in hi; omega) (by have := zcall_in hi; omega) (by have := zcall_in hi; omega) (by have := zcall_in hi; omega)]; exact h11 i hi, fun i hi => by rw [l _ (by have := zcall_in hi; omega) (by have := zcall_in hi; omega) (by have := zcall_in hi; omega) (by have := zcall_in hi; omega)]; exact h12 i hi, fun i hi => by rw [l _ (by have := zcall_in hi; omega) (by have := zcall_in hi; omega) (by have := zcall_in hi; omega) (by have := zcall_in hi; omega)]; exact h13 i hi, fun i hi => by rw [l _ (by have := zcall_in hi; omega) (by have := zcall_in hi; omega) (by have := zcall_in hi; omega) (by have := zcall_in hi; omega)]; exact h14 i hi⟩
  · rw [l (33 + 7) (by decide) (by decide) (by decide) (by decide), l (33 + 8) (by decide) (by decide) (by decide) (by decide), l (33 + 12) (by decide) (by decide) (by decide) (by decide), l (33 + 10) (by decide) (by decide) (by decide) (by decide), l (33 + 4) (by decide) (by decide) (by decide) (by decide), l (33 + 14) (by decide) (by decide) (by decide) (by decide), l 22 (by decide) (by decide) (by decide) (by decide), l 23 (by decide) (by decide) (by decide) (by decide), l 120 (by decide) (by decide) (by decide) (by decide), l 118 (by decide) (by decide) (by decide) (by decide), l 119 (by decide) (by decide) (by decide) (by decide), l 116 (by decide) (by decide) (by decide) (by decide), l (33 + 6) (by decide) (by decide) (by decide) (by decide), l 33 (by decide) (by decide) (by decide) (by decide)]
    exact hh
  · rw [l 120 (by decide) (by decide) (by decide) (by decide), l 19 (by decide) (by decide) (by decide) (by decide)]; exact hr
theorem tHold_nf_62 {M A : Nat → Int → Int} {f : Int} (l : ∀ c : Nat, c < 441 → ¬ (91 ≤ c ∧ c ≤ 115) → ¬ c = 16 → ¬ (33 ≤ c ∧ c ≤ 61) → A c = M c) (h : tHold 62 M f) : tHold 62 A f := by
  obtain ⟨c0, c1, c2, c3, c4, c5, c6, c7, c8, c9, c10, c11, c12, c13, c14, hc, hh, hr⟩ := h
  refine ⟨c0, c1, c2, c3, c4, c5, c6, c7, c8, c9, c10, c11, c12, c13, c14, ?_, ?_, ?_⟩
  · obtain ⟨h0, h1, h2, h3, h4, h5, h6, h7, h8, h9, h10, h11, h12, h13, h14⟩ := hc
    exact ⟨fun i hi => by rw [l _ (by have := zcall_in hi; omega) (by have := zcall_in hi; omega) (by have := zcall_in hi; omega) (by have := zcall_in hi; omega)]; exact h0 i hi, fun i hi => by rw [l _ (by have := zcall_in hi; omega) (by have := zcall_in hi; omega) (by have := zcall_in hi; omega) (by have := zcall_in hi; omega)]; exact h1 i hi, fun i hi => by rw [l _ (by have := zcall_in hi; omega) (by have := zcall_in hi; omega) (by have := zcall_in hi; omega) (by have := zcall_in hi; omega)]; exact h2 i hi, fun i hi => by rw [l _ (by have := zcall_in hi; omega) (by have := zcall_in hi; omega) (by have := zcall_in hi; omega) (by have := zcall_in hi; omega)]; exact h3 i hi, fun i hi => by rw [l _ (by have := zcall_in hi; omega) (by have := zcall_in hi; omega) (by have := zcall_in hi; omega) (by have := zcall_in hi; omega)]; exact h4 i hi, fun i hi => by rw [l _ (by have := zcall_in hi; omega) (by have := zcall_in hi; omega) (by have := zcall_in hi; omega) (by have := zcall_in hi; omega)]; exact h5 i hi, fun i hi => by rw [l _ (by have := zcall_in hi; omega) (by have := zcall_in hi; omega) (by have := zcall_in hi; omega) (by have := zcall_in hi; omega)]; exact h6 i hi, fun i hi => by rw [l _ (by have := zcall_in hi; omega) (by have := zcall_in hi; omega) (by have := zcall_in hi; omega) (by have := zcall_in hi; omega)]; exact h7 i hi, fun i hi => by rw [l _ (by have := zcall_in hi; omega) (by have := zcall_in hi; omega) (by have := zcall_in hi; omega) (by have := zcall_in hi; omega)]; exact h8 i hi, fun i hi => by rw [l _ (by have := zcall_in hi; omega) (by have := zcall_in hi; omega) (by have := zcall_in hi; omega) (by have := zcall_in hi; omega)]; exact h9 i hi, fun i hi => by rw [l _ (by have := zcall_in hi; omega) (by have := zcall_in hi; omega) (by have := zcall_in hi; omega) (by have := zcall_in hi; omega)]; exact h10 i hi, fun i hi => by rw [l _ (by have := zcall_in hi; omega) (by have := zcall_in hi; omega) (by have := zcall_in hi; omega) (by have := zcall_in hi; omega)]; exact h11 i hi, fun i hi => by rw [l _ (by have := zcall_in hi; omega) (by have := zcall_in hi; omega) (by have := zcall_in hi; omega) (by have := zcall_in hi; omega)]; exact h12 i hi, fun i hi => by rw [l _ (by have := zcall_in hi; omega) (by have := zcall_in hi; omega) (by have := zcall_in hi; omega) (by have := zcall_in hi; omega)]; exact h13 i hi, fun i hi => by rw [l _ (by have := zcall_in hi; omega) (by have := zcall_in hi; omega) (by have := zcall_in hi; omega) (by have := zcall_in hi; omega)]; exact h14 i hi⟩
  · rw [l (62 + 7) (by decide) (by decide) (by decide) (by decide), l (62 + 8) (by decide) (by decide) (by decide) (by decide), l (62 + 12) (by decide) (by decide) (by decide) (by decide), l (62 + 10) (by decide) (by decide) (by decide) (by decide), l (62 + 4) (by decide) (by decide) (by decide) (by decide), l (62 + 14) (by decide) (by decide) (by decide) (by decide), l 22 (by decide) (by decide) (by decide) (by decide), l 23 (by decide) (by decide) (by decide) (by decide), l 120 (by decide) (by decide) (by decide) (by decide), l 118 (by decide) (by decide) (by decide) (by decide), l 119 (by decide) (by decide) (by decide) (by decide), l 116 (by decide) (by decide) (by decide) (by decide), l (62 + 6) (by decide) (by decide) (by decide) (by decide), l 62 (by decide) (by decide) (by decide) (by decide)]
    exact hh
  · rw [l 120 (by decide) (by decide) (by decide) (by decide), l 19 (by decide) (by decide) (by decide) (by decide)]; exact hr
/-- the state behind a fault -/
def FF_33 (M A : Nat → Int → Int) : Prop := (∀ c : Nat, c < 467 → ¬ (62 ≤ c ∧ c ≤ 62 + 28) → ¬ (91 ≤ c ∧ c ≤ 100) → ¬ c = 16 → A c = M c) ∧ (∀ k : Int, ¬ k = 13 → A 16 k = M 16 k) ∧ (A 16 13 = 0 ∧ A 467 1 = 0) ∧ FrH M A ∧ (A 505 = M 505 ∧ A 506 = M 506 ∧ A 507 = M 507 ∧ A 508 = M 508)
theorem IB_f_33 {L0 : Nat} {xs : Nat → Int32} {m : Nat} {P P' : Nat → Nat → Nat} {M A : Nat → Int → Int} (f : FF_33 M A) (hB : IB L0 xs m P M) (hK : KP P M) (hR : RP P M) (hp : P 16 11 = 33) (hip : iprog 33 M) (h1 : P' 16 11 = 33) (h2 : P' 16 12 = 62) : IB L0 xs (m + 1) P' A ∧ KP P' A ∧ RP P' A := by
  obtain ⟨c1, c2, c3, c4, c5, c6, c7⟩ := hB
  obtain ⟨lo, f16, ⟨f13, f1⟩, fH, f505, f506, f507, f508⟩ := f
  have hk : KT 33 M := hK.1 hp
  have hr : RT 33 M := hR.1 hp
  have l : ∀ c : Nat, 33 ≤ c → c ≤ 33 + 28 → A c = M c := fun c a b => lo c (by omega) (by omega) (by omega) (by omega)
  have ip : iprog 33 A := iprog_frH (by decide) l fH hip hk.1
  have ix : ipx 33 A := ipx_frH (by decide) l fH hip hk.1
  have to := frH_to fH hip hk.1
  refine ⟨⟨fun c q => ?_, ⟨⟨by rw [f13]; decide, by rw [f13]; decide, by rw [f1, f13]⟩, fun i i0 i1 => by rw [f13] at i1; omega⟩, ?_, ?_, ?_, ?_, Or.inl ⟨h1, h2, ip⟩⟩, ⟨fun z => ?_, fun z => ?_⟩, ⟨fun z => ?_, fun z => ?_⟩⟩
  · rw [lo c (by omega) (by omega) (by omega) (by omega)]; exact c1 c q
  · unfold iarg; rw [lo 18 (by decide) (by decide) (by decide) (by decide), f505]; exact c3
  · unfold iset; rw [lo 19 (by decide) (by decide) (by decide) (by decide), f506]; exact c4
  · unfold iperm; rw [fH.2.2.2.2.2.1, fH.2.2.2.2.2.2]; exact c5
  · obtain ⟨u1, u2, u3⟩ := iprof_up c6
    unfold iprof
    rw [lo 22 (by decide) (by decide) (by decide) (by decide), lo 23 (by decide) (by decide) (by decide) (by decide), f507, f508, fH.2.2.2.2.2.1]
    refine ⟨u1, u2, fun s s0 s1 => ?_⟩
    rw [to s s0]
    exact u3 s s0 s1
  · refine ⟨ix, ?_⟩
    rw [f16 14 (by decide), l 33 (by decide) (by decide)]
    rcases hk.2 with y | ⟨y1, y2, y3⟩
    · exact Or.inl y
    · exact Or.inr ⟨y1, y2, tHold_nf_33 (fun c a b d e => lo c (by omega) (by omega) (by omega) d) y3⟩
  · rw [h1] at z; exact absurd z (by decide)
  · unfold RT
    rw [f16 14 (by decide), f16 15 (by decide), l 33 (by decide) (by decide)]
    rcases hr with y | ⟨y1, y2, y3, y4⟩
    · exact Or.inl y
    · exact Or.inr ⟨y1, y2, y3, rHold_frH (by decide) l (fun c a b => lo c (by omega) (by omega) (by omega) (by omega)) fH hip hk.1 y4⟩
  · rw [h1] at z; exact absurd z (by decide)
/-- the state behind a fault -/
def FF_62 (M A : Nat → Int → Int) : Prop := (∀ c : Nat, c < 467 → ¬ (33 ≤ c ∧ c ≤ 33 + 28) → ¬ (91 ≤ c ∧ c ≤ 100) → ¬ c = 16 → A c = M c) ∧ (∀ k : Int, ¬ k = 13 → A 16 k = M 16 k) ∧ (A 16 13 = 0 ∧ A 467 1 = 0) ∧ FrH M A ∧ (A 505 = M 505 ∧ A 506 = M 506 ∧ A 507 = M 507 ∧ A 508 = M 508)
theorem IB_f_62 {L0 : Nat} {xs : Nat → Int32} {m : Nat} {P P' : Nat → Nat → Nat} {M A : Nat → Int → Int} (f : FF_62 M A) (hB : IB L0 xs m P M) (hK : KP P M) (hR : RP P M) (hp : P 16 11 = 62) (hip : iprog 62 M) (h1 : P' 16 11 = 62) (h2 : P' 16 12 = 33) : IB L0 xs (m + 1) P' A ∧ KP P' A ∧ RP P' A := by
  obtain ⟨c1, c2, c3, c4, c5, c6, c7⟩ := hB
  obtain ⟨lo, f16, ⟨f13, f1⟩, fH, f505, f506, f507, f508⟩ := f
  have hk : KT 62 M := hK.2 hp
  have hr : RT 62 M := hR.2 hp
  have l : ∀ c : Nat, 62 ≤ c → c ≤ 62 + 28 → A c = M c := fun c a b => lo c (by omega) (by omega) (by omega) (by omega)
  have ip : iprog 62 A := iprog_frH (by decide) l fH hip hk.1
  have ix : ipx 62 A := ipx_frH (by decide) l fH hip hk.1
  have to := frH_to fH hip hk.1
  refine ⟨⟨fun c q => ?_, ⟨⟨by rw [f13]; decide, by rw [f13]; decide, by rw [f1, f13]⟩, fun i i0 i1 => by rw [f13] at i1; omega⟩, ?_, ?_, ?_, ?_, Or.inr ⟨h1, h2, ip⟩⟩, ⟨fun z => ?_, fun z => ?_⟩, ⟨fun z => ?_, fun z => ?_⟩⟩
  · rw [lo c (by omega) (by omega) (by omega) (by omega)]; exact c1 c q
  · unfold iarg; rw [lo 18 (by decide) (by decide) (by decide) (by decide), f505]; exact c3
  · unfold iset; rw [lo 19 (by decide) (by decide) (by decide) (by decide), f506]; exact c4
  · unfold iperm; rw [fH.2.2.2.2.2.1, fH.2.2.2.2.2.2]; exact c5
  · obtain ⟨u1, u2, u3⟩ := iprof_up c6
    unfold iprof
    rw [lo 22 (by decide) (by decide) (by decide) (by decide), lo 23 (by decide) (by decide) (by decide) (by decide), f507, f508, fH.2.2.2.2.2.1]
    refine ⟨u1, u2, fun s s0 s1 => ?_⟩
    rw [to s s0]
    exact u3 s s0 s1
  · rw [h1] at z; exact absurd z (by decide)
  · refine ⟨ix, ?_⟩
    rw [f16 14 (by decide), l 62 (by decide) (by decide)]
    rcases hk.2 with y | ⟨y1, y2, y3⟩
    · exact Or.inl y
    · exact Or.inr ⟨y1, y2, tHold_nf_62 (fun c a b d e => lo c (by omega) (by omega) (by omega) d) y3⟩
  · rw [h1] at z; exact absurd z (by decide)
  · unfold RT
    rw [f16 14 (by decide), f16 15 (by decide), l 62 (by decide) (by decide)]
    rcases hr with y | ⟨y1, y2, y3, y4⟩
    · exact Or.inl y
    · exact Or.inr ⟨y1, y2, y3, rHold_frH (by decide) l (fun c a b => lo c (by omega) (by omega) (by omega) (by omega)) fH hip hk.1 y4⟩
