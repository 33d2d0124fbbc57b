/-! Known numbers: all lines, on either side -/
/-- how many rounds are looked at doesn't matter -/
theorem kSem_fuel {M L : Nat → Int → Int} {nF : Int} {TO : Int → Int} {V N : Int} (hL : kLd M L V N) (m : Nat) : ∀ (n : Nat) (lv br a b : Int), ySeg L (okR M L nF TO) n lv br a b → 120 ≤ a → b ≤ 120 + N → ∀ s : (Int → Int) × Int × Int × Int, kSem (M 443) (M 444) (M 445) (M 446) (M 452) (M 453) (n + m) (a - 120) (b - 120) s = kSem (M 443) (M 444) (M 445) (M 446) (M 452) (M 453) n (a - 120) (b - 120) s := by
  intro n
  induction n with
  | zero =>
    intro lv br a b h _ _ s
    have e : a = b := h
    subst e
    rw [show 0 + m = m by omega]
    cases m with
    | zero => rfl
    | succ m => exact if_pos rfl
  | succ n ih =>
    intro lv br a b h a0 b1 s
    rw [show n + 1 + m = n + m + 1 by omega]
    rcases h with h | ⟨q1, q2, s3, s4, s5⟩
    · subst h
      rw [show kSem (M 443) (M 444) (M 445) (M 446) (M 452) (M 453) (n + m + 1) (a - 120) (a - 120) s = s from if_pos rfl, show kSem (M 443) (M 444) (M 445) (M 446) (M 452) (M 453) (n + 1) (a - 120) (a - 120) s = s from if_pos rfl]
    have l5 := ySegE_le ⟨n, s5⟩
    obtain ⟨⟨w1, w2, w3, w4, w5, w6⟩, _, ⟨y1, y2, y3⟩, y4, y5, y6, y7⟩ := hL a a0 (by omega)
    have h3 := ih _ _ _ _ s3 (by omega) (by omega)
    have h4 := ih _ _ _ _ s4 (by omega) (by omega)
    have h5 := ih _ _ _ _ s5 (by omega) b1
    have eE : M 453 (a - 120) = a + 1 + L 488 a + L 489 a - 120 := by omega
    have eM : M 452 (a - 120) = a + 1 + L 488 a - 120 := by omega
    rw [kSem_go (by omega), kSem_go (by omega), eE, eM, show a - 120 + 1 = a + 1 - 120 by omega, h5]
    congr 1
    by_cases k6 : M 443 (a - 120) = 6
    · rw [if_pos k6, if_pos k6]
    rw [if_neg k6, if_neg k6]
    by_cases k7 : M 443 (a - 120) = 7
    · rw [if_pos k7, if_pos k7]
      simp only [h3, h4]
    rw [if_neg k7, if_neg k7]
    by_cases k8 : M 443 (a - 120) = 8
    · rw [if_pos k8, if_pos k8]
      have z9 := y5 (by omega)
      rw [show a + 1 + L 488 a + L 489 a - 120 = a + 1 + L 488 a - 120 by omega]
      simp only [h3]
    rw [if_neg k8, if_neg k8]
def kS0 (pa : Int) : (Int → Int) × Int × Int × Int := ((fun v => if v < pa then -9223372036854775808 else 0), 0, 0, 0)
def kEnd (M : Nat → Int → Int) (G pa N : Int) (n : Nat) : (Int → Int) × Int × Int × Int := kSem (M 443) (M 444) (M 445) (M 446) (M 452) (M 453) n 0 (N - G) (kS0 pa)
theorem kEnd_fuel {M L L' : Nat → Int → Int} {nF nF' : Int} {TO TO' : Int → Int} {V N G pa : Int} (hL : kLd M L V N) (hL' : kLd M L' V N) {n n' : Nat} {lv br lv' br' : Int} (h : ySeg L (okR M L nF TO) n lv br 120 (120 + (N - G))) (h' : ySeg L' (okR M L' nF' TO') n' lv' br' 120 (120 + (N - G))) (g : 0 ≤ G) : kEnd M G pa N n = kEnd M G pa N n' := by
  have a := kSem_fuel hL n' n lv br 120 (120 + (N - G)) h (Int.le_refl _) (by omega) (kS0 pa)
  have b := kSem_fuel hL' n n' lv' br' 120 (120 + (N - G)) h' (Int.le_refl _) (by omega) (kS0 pa)
  rw [show (120 : Int) - 120 = 0 by omega, show 120 + (N - G) - 120 = N - G by omega] at a b
  rw [show n' + n = n + n' by omega, a] at b
  exact b
def kAns (M M3 : Nat → Int → Int) (G V pa N : Int) (n : Nat) : Prop := (M3 25 0 = (kEnd M G pa N n).2.1 ∧ M3 25 1 = (kEnd M G pa N n).2.2.1 ∧ M3 25 2 = (kEnd M G pa N n).2.2.2) ∧ M3 25 3 = (if G = 1 then (if knO (kEnd M G pa N n).1 (M 445 (N - 1)) = -9223372036854775808 then 0 else 1) else 1) ∧ M3 25 4 = (if G = 1 then (if knO (kEnd M G pa N n).1 (M 445 (N - 1)) = -9223372036854775808 then 0 else knO (kEnd M G pa N n).1 (M 445 (N - 1))) else 0) ∧ M3 25 5 = nsum (kOn (kEnd M G pa N n).1) V.toNat
/-- where it gives: in the last line, or nowhere -/
def kGv (L : Nat → Int → Int) (G N : Int) : Prop := (G = 0 ∨ (G = 1 ∧ 1 ≤ N ∧ L 480 (120 + N - 1) = 9)) ∧ ∀ q : Int, 120 ≤ q → q < 120 + (N - G) → ¬ L 480 q = 9
theorem kOn_ag {V : Int} {r r' : Int → Int} (h : ∀ v : Int, 0 ≤ v → v < V → r v = r' v) : nsum (kOn r) V.toNat = nsum (kOn r') V.toNat := nsum_congr V.toNat (fun v v0 v1 => by unfold kOn; rw [h v v0 (by omega)])
theorem goThrough_c {d : Nat} {P : Nat → Nat → Nat} {M L : Nat → Int → Int} {Q : zQ} {nF : Int} {TO : Int → Int} {V pa N G : Int} {n : Nat} (hV : 0 ≤ V ∧ V ≤ 308) (hN : 0 ≤ N ∧ N ≤ 300) (hp : 0 ≤ pa ∧ pa ≤ V) (hs : M 442 13 = N) (hL : kLd M L V N) (hg : kGv L G N) (sg : ySeg L (okR M L nF TO) n 0 0 120 (120 + (N - G))) (hQ : ∀ M3 : Nat → Int → Int, (∀ c : Nat, ¬ (24 ≤ c ∧ c ≤ 32) → M3 c = M c) → kAns M M3 G V pa N n → Q (zS P M3) none) : WC (d + 7) 165 [vR 24, vR 442, vI V, vI pa] (zS P M) Q := by
  refine ⟨_, rfl, KC_in V pa (by omega) (by omega) ?_⟩
  obtain ⟨M1, eM⟩ : ∃ M1 : Nat → Int → Int, M1 = ((zup (zup (zup (zup (zrow (zrow M 25 (zs (zfl (M 25) 0 6) 3 1)) 26 (zfr (M 26) 0 V (fun xv => if xv < pa then (-9223372036854775808) else 0))) 24 3 0) 24 5 V) 24 6 0) 28 4 0)) := ⟨_, rfl⟩
  rw [← eM]
  have hi : kcI M M1 V 120 0 0 (kS0 pa) := by
    rw [eM]
    refine ⟨⟨rfl, rfl⟩, ⟨Int.le_refl _, by rw [Int.mul_zero]; exact Int.le_refl _⟩, ⟨Int.le_refl _, Int.le_refl _⟩, fun c hc => ?_, fun v v0 v1 => ?_, ⟨rfl, rfl, rfl⟩, fun v v0 v1 => ?_, ⟨⟨Int.le_refl _, Int.le_refl _⟩, ⟨Int.le_refl _, Int.le_refl _⟩, Int.le_refl _, Int.le_refl _⟩⟩
    · repeat (first | rw [zr_ne (by omega)] | rw [zu_ne (by omega)])
    · show zfr (M 26) 0 V (fun xv => if xv < pa then (-9223372036854775808) else 0) v = _
      rw [zfr_in (by omega)]
      show (if v - 0 < pa then _ else _) = if v < pa then _ else _
      rw [show v - 0 = v by omega]
    · by_cases c : v < pa
      · exact Or.inl (if_pos c)
      · have e : (kS0 pa).1 v = 0 := if_neg c
        rw [e]; right; decide
  have a3 : M1 25 3 = 1 := by rw [eM]; rfl
  have a4 : M1 25 4 = 0 := by rw [eM]; rfl
  have a5 : M1 25 5 = 0 := by rw [eM]; rfl
  have b4 : M1 28 4 = 0 := by rw [eM]; rfl
  have GG : 0 ≤ G ∧ G ≤ 1 := by rcases hg.1 with z | z <;> omega
  obtain ⟨M2, t2, j2, k2⟩ := kc_seg hV hN hs hL n 0 0 120 (120 + (N - G)) sg (by omega) (by omega) (Int.le_refl _) (by omega) hg.2 0 M1 (kS0 pa) hi (Int.le_refl _) (by rcases hg.1 with z | z <;> omega) (Or.inl (by omega))
  refine t2 d P V pa 0 Q (Int.le_refl _) (by omega) (fun t' t0 t1 => ?_)
  rw [show (120 : Int) - 120 = 0 by omega, show 120 + (N - G) - 120 = N - G by omega] at j2
  obtain ⟨⟨v1, v2⟩, v3, v4, v5, v6, ⟨v7a, v7b, v7c⟩, v8, v9⟩ := id j2
  obtain ⟨⟨k21, k22⟩, k23, k24, k25⟩ := k2
  have v442 := v5 442 (by decide)
  have v445 := v5 445 (by decide)
  rcases hg.1 with g | ⟨g, g1, g9⟩
  · refine KC_out V pa t' t0 (by omega) (by rw [v442, hs]; omega) (by omega) (by rw [k25 5 (by decide)]; exact a5) (hQ _ (fun c hc => ?_) ⟨⟨v7a, v7b, v7c⟩, ?_, ?_, ?_⟩)
    · rw [zr_ne (by omega)]; exact v5 c hc
    · rw [if_neg (by omega)]; exact (k25 3 (by decide)).trans a3
    · rw [if_neg (by omega)]; exact (k25 4 (by decide)).trans a4
    · show M2 25 5 + nsum (kOn (M2 26)) (M2 24 5).toNat = _
      rw [k25 5 (by decide), a5, v2, kOn_ag v6]
      exact Int.zero_add _
  · obtain ⟨⟨w1, w2, w3, w4, w5, w6⟩, ⟨x1, x2, x3, x4, x5⟩, _⟩ := hL (120 + N - 1) (by omega) (by omega)
    rw [show 120 + N - 1 - 120 = N - 1 by omega] at w1 w3
    have at2 : M2 24 6 = N - 1 := by omega
    have op := x2 (by omega)
    have ag := knO_ag v6 op
    have rg := kRg_o v8 op
    obtain ⟨M4, t4, ⟨⟨c1, c2, c3⟩, c4, c5⟩⟩ := kl_give (M := M2) ⟨by omega, by omega, by rw [v442, hs]; omega, by omega, by omega⟩ (by rw [v5 443 (by decide), at2, w1]; exact g9) (by rw [v445, at2, w3, ag]; exact rg) (by rw [v445, at2, w3]; exact x5)
    rw [v445, at2, w3, ag] at c2
    refine t4 d P V pa t' Q t0 (by omega) (fun t'' t2 t3 => ?_)
    refine KC_out V pa t'' (by omega) (by rw [c4 28 (by decide)]; omega) (by rw [c4 442 (by decide), v442, hs]; omega) (by rw [c5 5 (by decide)]; omega) (by rw [c2, zs_neg (by decide), zs_neg (by decide), k25 5 (by decide)]; exact a5) (hQ _ (fun c hc => ?_) ⟨⟨?_, ?_, ?_⟩, ?_, ?_, ?_⟩)
    · rw [zr_ne (by omega), c4 c (by omega)]; exact v5 c hc
    · show M4 25 0 = _; rw [c2, zs_neg (by decide), zs_neg (by decide)]; exact v7a
    · show M4 25 1 = _; rw [c2, zs_neg (by decide), zs_neg (by decide)]; exact v7b
    · show M4 25 2 = _; rw [c2, zs_neg (by decide), zs_neg (by decide)]; exact v7c
    · show M4 25 3 = _; rw [if_pos g, w3, c2, zs_neg (by decide), zs_pos rfl]; rfl
    · show M4 25 4 = _; rw [if_pos g, w3, c2, zs_pos rfl]; rfl
    · show M4 25 5 + nsum (kOn (M4 26)) (M4 24 5).toNat = _
      rw [c2, zs_neg (by decide), zs_neg (by decide), k25 5 (by decide), a5, c5 5 (by decide), v2, c1, kOn_ag v6]
      exact Int.zero_add _
theorem km_give {τ : Nat → Int → Int} (h : kLm τ) (hk : τ 480 (τ 467 132) = 9) : kToS τ (fun τ' => (∀ c : Nat, ¬ c = 467 → τ' c = τ c) ∧ (∀ k : Int, ¬ k = 132 → τ' 467 k = τ 467 k) ∧ τ' 467 132 = τ 467 132 + 1) :=
  fun A P d f Q q x2 => KR_give_r f h.1 h.2.1 h.2.2.1 h.2.2.2.1 h.2.2.2.2 hk (fun x2' => by
    refine q _ ?_ x2'
    exact ⟨fun c hc => zu_ne hc, fun k hk => zup_f hk, rfl⟩)
def kRes (M M1 τ3 : Nat → Int → Int) (G V pa N : Int) (n : Nat) : Prop := (kRel V (kEnd M G pa N n).1 (τ3 547) (τ3 548) ∧ kOK V (τ3 547) (τ3 548) ∧ kNr V (τ3 548)) ∧ (τ3 467 129 = (kEnd M G pa N n).2.1 ∧ τ3 467 130 = (kEnd M G pa N n).2.2.1 ∧ τ3 467 131 = (kEnd M G pa N n).2.2.2) ∧ (∀ c : Nat, ¬ (547 ≤ c ∧ c ≤ 560) → ¬ c = 467 → τ3 c = M1 c) ∧ ∀ k : Int, ¬ (126 ≤ k ∧ k ≤ 132) → τ3 467 k = M1 467 k
theorem laysKnown_c {d : Nat} {P : Nat → Nat → Nat} {M L : Nat → Int → Int} {Q : zQ} {nF : Int} {TO : Int → Int} {V pa N G f : Int} {n : Nat} (hV : 0 ≤ V ∧ V ≤ 308) (hN : 0 ≤ N ∧ N ≤ 300) (e1 : L 467 110 = V ∧ L 467 109 = 120 + N) (hb : 0 ≤ L 467 11 ∧ L 467 11 ≤ 1) (hf : 0 ≤ f ∧ f < 8) (ep : L 473 (8 * L 467 11 + f) = pa) (hL : kLd M L V N) (hg : kGv L G N) (sg : ySeg L (okR M L nF TO) n 0 0 120 (120 + (N - G))) (hQ : ∀ τ3 : Nat → Int → Int, kRes M L τ3 G V pa N n → Q (zS P (mix L τ3)) none) : WP (d + 6) 140 0 0 5 [some (vR 467), some (vI f), none] [] (zS P L) Q := by
  have em : (zS P L) = (zS P (mix L L)) := by rw [mix_self]
  rw [em]
  refine KR_in_r f (by omega) hb hf (fun x2' => ?_)
  obtain ⟨τ1, eM⟩ : ∃ τ1 : Nat → Int → Int, τ1 = ((zup (zup (zup (zup (zup (zup (zup (zrow (zrow L 547 (zfr (L 547) 0 (L 467 110) (fun xv => if xv < (L 473 (8 * (L 467 11) + f)) then 0 else 1))) 548 (zfr (L 548) 0 (L 467 110) (fun _ => 0))) 467 126 0) 467 127 0) 467 128 0) 467 129 0) 467 130 0) 467 131 0) 467 132 120)) := ⟨_, rfl⟩
  rw [← eM]
  have GG : 0 ≤ G ∧ G ≤ 1 := by rcases hg.1 with z | z <;> omega
  have K0 : ∀ v : Int, 0 ≤ v → v < V → τ1 547 v = if v < pa then 0 else 1 := fun v v0 v1 => by
    rw [eM]
    show zfr (L 547) 0 (L 467 110) (fun xv => if xv < L 473 (8 * L 467 11 + f) then 0 else 1) v = _
    rw [zfr_in (by omega)]
    show (if v - 0 < _ then (0 : Int) else 1) = _
    rw [ep, show v - 0 = v by omega]
  have N0 : ∀ v : Int, 0 ≤ v → v < V → τ1 548 v = 0 := fun v v0 v1 => by
    rw [eM]
    show zfr (L 548) 0 (L 467 110) (fun _ => 0) v = 0
    rw [zfr_in (by omega)]
  have hi : krI L τ1 V N 120 0 0 (kS0 pa) := by
    refine ⟨⟨by rw [eM]; rfl, by rw [eM]; exact e1.1, by rw [eM]; exact e1.2⟩, ⟨fun v v0 v1 => ?_, fun v v0 v1 => ?_, fun v v0 v1 => ?_⟩, ⟨by rw [eM]; rfl, by rw [eM]; rfl, by rw [eM]; rfl⟩, ⟨⟨Int.le_refl _, Int.le_refl _⟩, ⟨Int.le_refl _, Int.le_refl _⟩, Int.le_refl _, Int.le_refl _⟩, by rw [eM]; exact ⟨Int.le_refl _, Int.le_refl _⟩, ⟨by rw [eM]; exact Int.le_refl _, ?_⟩, by rw [eM]; exact ⟨Int.le_refl _, Int.le_refl _⟩, fun c a b => by rw [eM]; repeat (first | rw [zr_ne (by omega)] | rw [zu_ne (by omega)]), fun k hk => by rw [eM]; repeat (first | rw [zup_f (by omega)] | rw [zup_n (by decide)] | rw [zrow_n (by decide)])⟩
    · rw [K0 v v0 v1, N0 v v0 v1]
      show (if v < pa then _ else _) = _
      by_cases c : v < pa
      · rw [if_pos c, if_pos c, if_pos rfl]
      · rw [if_neg c, if_neg c, if_neg (by decide)]
    · rw [K0 v v0 v1, N0 v v0 v1]
      split
      · exact Or.inl ⟨rfl, rfl⟩
      · exact Or.inr rfl
    · rw [N0 v v0 v1]; decide
    · have z := nsum_congr (f := τ1 547) (g := fun v => if v < pa then 0 else 1) V.toNat (fun v v0 v1 => K0 v v0 (by omega))
      have y := nsum_ab (f := fun v => if v < pa then 0 else 1) (fun v => by show 0 ≤ (if v < pa then (0 : Int) else 1) ∧ (if v < pa then (0 : Int) else 1) ≤ 1; split <;> omega) V.toNat
      rw [z, show τ1 467 126 = 0 by rw [eM]; rfl]
      omega
  have g0 : τ1 467 128 ≤ 0 := by rw [eM]; exact Int.le_refl _
  have seg := kr_seg (nF := nF) (TO := TO) hV hN hL n 0 0 120 (120 + (N - G)) sg (by omega) (by omega) (Int.le_refl _) (by omega) hg.2 0 τ1 (kS0 pa) hi (Int.le_refl _) (by rcases hg.1 with z | z <;> omega) (Or.inl g0)
  rw [show (120 : Int) - 120 = 0 by omega, show 120 + (N - G) - 120 = N - G by omega] at seg
  refine seg L P d f Q (fun τ2 ⟨j2, k2, m2⟩ x2 => ?_) x2'
  obtain ⟨⟨i1, i2, i3⟩, i4, i7, i8, i9, i10, i12, i13, i14⟩ := id j2
  have g2 : τ2 467 128 ≤ 0 := by rw [k2.1.2]; exact g0
  rcases hg.1 with g | ⟨g, g1, g9⟩
  · exact KR_end_r f g2 (by omega) (hQ _ ⟨i4, i7, i13, i14⟩)
  · have x5 := (hL (120 + N - 1) (by omega) (by omega)).2.1.2.2.2.2
    have at2 : τ2 467 132 = 120 + N - 1 := by omega
    have t480 := i13 480 (by decide) (by decide)
    have t482 := i13 482 (by decide) (by decide)
    refine km_give (τ := τ2) ⟨by omega, by omega, by omega, Or.inl g2, by rw [at2, t482]; exact x5⟩ (by rw [at2, t480]; exact g9) L P d f Q (fun τ3 ⟨h1, h2, h3⟩ x3 => ?_) x2
    refine KR_end_r f (by rw [h2 128 (by decide)]; exact g2) (by rw [h2 109 (by decide)]; omega) (hQ _ ⟨?_, ?_, fun c a b => (h1 c b).trans (i13 c a b), fun k hk => (h2 k (by omega)).trans (i14 k hk)⟩)
    · rw [h1 547 (by decide), h1 548 (by decide)]; exact i4
    · rw [h2 129 (by decide), h2 130 (by decide), h2 131 (by decide)]; exact i7
