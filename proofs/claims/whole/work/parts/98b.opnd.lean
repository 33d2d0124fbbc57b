/-! The result: an opened call -/
theorem num_tot {C a E n g0 g1 gN ca : Int} (hC : C + E + gN ≤ 319) (cnt : n = C + a + g0) (gsu : g1 = g0 + ca) (gst : g1 ≤ gN) (aE : a < E) : n + ca + 1 ≤ 319 := by omega
theorem num_tov {ca mn gv v gs : Int} (h : ca = mn - gv + v + gs) (hs : 0 ≤ gs) (m0 : 0 ≤ mn) (hg : gv = 0 ∨ gv = 1) {P : Prop} (h1 : gv = 1 → 0 < mn ∧ P) : v ≤ ca := by
  rcases hg with z | z
  · omega
  · have := (h1 z).1; omega
theorem num_a1 {d : Int} {N : Nat} (h : 32 - d ≤ N + 1) : 32 - (d + 1) ≤ N := by omega
theorem num_a3 {deep lv K : Int} (h : 0 ≤ deep ∧ deep ≤ 4 * K) (k : 0 ≤ lv ∧ lv ≤ 4) : 0 ≤ deep + lv ∧ deep + lv ≤ 4 * (K + 1) := by omega
theorem num_a6 {n v F f mn gv gs ca : Int} (h : ca = mn - gv + v + gs) (hg : gv = 0 ∨ gv = 1) (t : n + ca + 1 ≤ 319) : n + v - (F + f) + (F + f + mn) + gs ≤ 319 := by omega
theorem num_a7 {w n v F f mn gv gs ca : Int} (h : w = n + v - (F + f) + (F + f + mn - gv) + gs) (k : ca = mn - gv + v + gs) : w = n + ca := by omega
theorem num_a9 {n C a g0 g1 ca : Int} (h : n = C + a + g0) (k : g1 = g0 + ca) : n + ca + 1 = C + (a + 1) + g1 := by omega
theorem num_vb {v d l n ca : Int} (h : 0 ≤ v ∧ v + d + l ≤ 8 + n) (hd : 0 ≤ d) (hl : 0 ≤ l) (t : n + ca + 1 ≤ 319) (c : 0 ≤ ca) : 0 ≤ v ∧ v ≤ 400 := by omega
theorem num_bb {b va v p : Int} (h : 0 ≤ b) (k : b + va ≤ v) (t : 0 ≤ v ∧ v ≤ 400) (f : 0 ≤ p ∧ p ≤ 3 ∧ p ≤ va ∧ va ≤ 8) : 0 ≤ b ∧ b ≤ 400 := by omega
theorem num_n3 {n ca v : Int} (t : n + ca + 1 ≤ 319) (k : v ≤ ca) : n + v < 320 := by omega
theorem num_xt {x va b v : Int} (h : 0 ≤ x ∧ x < va) (k : b + va ≤ v) (y : -2 ≤ x ∧ x ≤ 8) : 0 ≤ x ∧ x ≤ 8 ∧ x + b < v := by omega
theorem num_le {v : Int} (h : 0 ≤ v ∧ v ≤ 400) : 0 ≤ v ∧ v ≤ 1000 := by omega
theorem num_38 {v : Int} (h : v ≤ 3) : v ≤ 8 := by omega
theorem num_lE {F m : Int} (h : 0 < m) : F ≤ F + m - 1 ∧ F + m - 1 < F + m := by omega
theorem num_gv {V o : Int} (h : opnd V o) : -1000 ≤ o ∧ o ≤ 1000 := by unfold opnd at h; omega
theorem num_pos {l : Int} (h : 0 ≤ l) (k : ¬ l = 0) : 0 < l := by omega
theorem num_cc {a b n : Int} (h : b ≤ a ∧ a < b + n) : a - b < n := by omega
theorem num_cn {a b : Int} : a - b + b = a := by omega
theorem num_o {x : Int} (h : -2 ≤ x ∧ x ≤ 8) : -100 ≤ x ∧ x ≤ 1000 := by omega
theorem num_o1 {x : Int} (h : -2 ≤ x ∧ x ≤ 8) : -2 ≤ x ∧ x ≤ 1000 := by omega
theorem num_o2 {x : Int} (h : -20 ≤ x ∧ x ≤ 999) : -100 ≤ x ∧ x ≤ 1000 := by omega
theorem num_s {x : Int} (h : 0 ≤ x ∧ x ≤ 16) : -2 ≤ x ∧ x ≤ 16 := by omega
theorem num_l5 {x : Int} (h : 0 ≤ x ∧ x ≤ 4) : 0 ≤ x ∧ x ≤ 5 := by omega
theorem num_d3 {d l : Int} (h : 0 ≤ d ∧ 0 ≤ l ∧ l ≤ 4 ∧ d + l ≤ 130) : 0 ≤ d ∧ d ≤ 300 := by omega
theorem num_d4 {d l : Int} (h : 0 ≤ d ∧ 0 ≤ l ∧ l ≤ 4 ∧ d + l ≤ 130) : 0 ≤ d + l ∧ d + l ≤ 300 := by omega
theorem num_cf {n v F : Int} : n + v = n + v - F + F := by omega
theorem num_nb {n ca : Int} (h : n + ca + 1 ≤ 319) : n + ca < 320 := by omega
theorem num_e1 {b l n : Int} (hb : 0 ≤ b ∧ b ≤ 1) (h : 60 * b ≤ l ∧ l < 60 * b + n) (k : n ≤ 60) : 0 ≤ l ∧ l < 120 := by omega
theorem num_l {x lv : Int} (h : x = lv) (k : lv = 0) : 0 ≤ x ∧ x ≤ 5 := by omega
theorem num_aj {v d l n : Int} (h : v + d + l ≤ n) : v + (d + l) ≤ n := by omega
theorem num_h4 {deep lv K : Int} (h : 0 ≤ deep ∧ deep ≤ 4 * K) (k : 0 ≤ lv ∧ lv ≤ 4) : deep + lv ≤ 4 * K + 4 := by omega
theorem num_hU {U C E a n n' g0 g1 gN ca GI : Int} (hu : U = if GI = 1 then C + E + gN else -1) (n0 : 0 ≤ n) (cnt : n = C + a + g0) (gsu : g1 = g0 + ca) (gst : g1 ≤ gN) (aE : a < E) (ne : GI = 1 → ¬ a = E - 1) (c1 : n' = n + ca) : U ≤ n ∨ n' + 1 < U := by
  by_cases z : GI = 1
  · rw [if_pos z] at hu
    have := ne z
    omega
  · rw [if_neg z] at hu; omega
def rNode_33 (d N : Nat) (M0 τ0 : Nat → Int → Int) (U nF m : Int) (TO cf mf fc dp r6 CA : Int → Int) (ND : Int → Prop) (lf : Int → List Int) : Prop := ∀ (x K base deep b0 C : Int) (M τ : Nat → Int → Int) (Lb : List Int) (r0 : Int → Int), ND x → ¬ x = 0 → 32 - dp x ≤ N → K = dp x → (0 ≤ deep ∧ deep ≤ 4 * K) → rInv M0 τ0 M τ K x (60 * M0 467 11 + M0 475 (8 * M0 467 11 + mf x)) (60 * M0 467 11 + M0 475 (8 * M0 467 11 + mf x) + M0 476 (8 * M0 467 11 + mf x)) base deep 0 → cP (M 449) (M 452) (M 455) (M 442 13) deep b0 → base + (M0 474 (8 * M0 467 11 + mf x)) ≤ M 441 1 → M 442 13 = C + (60 * M0 467 11 + M0 475 (8 * M0 467 11 + mf x)) → C + (60 * M0 467 11 + M0 475 (8 * M0 467 11 + mf x) + M0 476 (8 * M0 467 11 + mf x)) + nsum (kgs r6 fc CA x) ((M0 478 (8 * M0 467 11 + mf x))).toNat ≤ 319 → rLeft τ r0 Lb → (Lb.length : Int) + ((lf x).length : Int) ≤ 400 →
    ∀ (P : Nat → Nat → Nat) (Q : zQ), (∀ M' τ' : Nat → Int → Int, rPost U nF TO M0 τ0 M τ M' τ' K x ((60 * M0 467 11 + M0 475 (8 * M0 467 11 + mf x) + M0 476 (8 * M0 467 11 + mf x)) - (M0 479 (8 * M0 467 11 + mf x))) (60 * M0 467 11 + M0 475 (8 * M0 467 11 + mf x) + M0 476 (8 * M0 467 11 + mf x)) base deep 0 b0 → M' 442 13 = C + ((60 * M0 467 11 + M0 475 (8 * M0 467 11 + mf x) + M0 476 (8 * M0 467 11 + mf x)) - (M0 479 (8 * M0 467 11 + mf x))) + nsum (kgs r6 fc CA x) ((M0 478 (8 * M0 467 11 + mf x))).toNat → rLeft τ' r0 (Lb ++ lf x) → Q (zS (zupN P 441 3 33) M') none) → WC (d + 4) 256 [vR 441, vR 116, vR (zcall x), vI base, vI deep, vI b0] (zS (zupN P 441 3 33) M) Q
set_option maxRecDepth 100000 in
set_option maxHeartbeats 8000000 in
theorem rOpen_33 {d : Nat} {P : Nat → Nat → Nat} {Q : zQ} {M0 τ0 : Nat → Int → Int} {U nF m : Int} {TO cf mf fc dp r6 CA : Int → Int} {ND : Int → Prop} {lf : Int → List Int} (hb : 0 ≤ M0 467 11 ∧ M0 467 11 ≤ 1) (hn1 : M0 470 (M0 467 11) ≤ 60) (hcc : cCode M0 (60 * M0 467 11) (M0 470 (M0 467 11)) (M0 49) (M0 50) (M0 51) (M0 52) (M0 53) (M0 54) (M0 58) (M0 59)) (hd4 : ∀ l : Int, 0 ≤ l → l < M0 470 (M0 467 11) → 0 ≤ M0 55 l ∧ M0 55 l ≤ 4) (hpg : rProg M0 τ0) (h1 : ∀ i : Int, 0 ≤ i ∧ i < 320 → M0 (zcall i) 1 = cf i) (h3 : ∀ i : Int, 0 ≤ i ∧ i < 320 → M0 (zcall i) 3 = dp i) (h5 : ∀ i : Int, 0 ≤ i ∧ i < 320 → M0 (zcall i) 5 = fc i) (h6 : ∀ i : Int, 0 ≤ i ∧ i < 320 → M0 (zcall i) 6 = r6 i) (hfun : ∀ g : Int, 0 ≤ g → g < M0 469 (M0 467 11) → ∃ SN : Int → Int, rFun 33 M0 nF TO SN g) (htr : rTr 33 M0 τ0 TO cf mf fc dp r6 CA ND lf m) {N : Nat} (hN : rNode_33 d N M0 τ0 U nF m TO cf mf fc dp r6 CA ND lf) {x K base deep b0 C : Int} {Lb : List Int} {r0 SN : Int → Int} (hx : ND x) (hdN : 32 - dp x ≤ N + 1) (hK : K = dp x) (hdp : 0 ≤ deep ∧ deep ≤ 4 * K) (hfu : rFun 33 M0 nF TO SN (mf x)) (hC : C + (60 * M0 467 11 + M0 475 (8 * M0 467 11 + mf x) + M0 476 (8 * M0 467 11 + mf x)) + nsum (kgs r6 fc CA x) ((M0 478 (8 * M0 467 11 + mf x))).toNat ≤ 319) (hLb : (Lb.length : Int) + ((lf x).length : Int) ≤ 400) (hU : x = 0 → U = if (M0 479 (8 * M0 467 11 + mf x)) = 1 then C + (60 * M0 467 11 + M0 475 (8 * M0 467 11 + mf x) + M0 476 (8 * M0 467 11 + mf x)) + nsum (kgs r6 fc CA x) ((M0 478 (8 * M0 467 11 + mf x))).toNat else -1) 
    {lv br a bq : Int} {M τ : Nat → Int → Int} (q2 : yok 33 M0 SN (mf x) (60 * M0 467 11 + M0 475 (8 * M0 467 11 + mf x) + M0 476 (8 * M0 467 11 + mf x)) lv br a) (hq0 : lv = 0 → bq = b0) (hq1 : ¬ lv = 0 → bq = br) (lv0 : 0 ≤ lv) (aF : (60 * M0 467 11 + M0 475 (8 * M0 467 11 + mf x)) ≤ a) (aE : a < (60 * M0 467 11 + M0 475 (8 * M0 467 11 + mf x) + M0 476 (8 * M0 467 11 + mf x))) (sa : (M0 477 (8 * M0 467 11 + mf x)) ≤ SN a) (sb : SN (a + 1) ≤ (M0 477 (8 * M0 467 11 + mf x)) + (M0 478 (8 * M0 467 11 + mf x))) (i0 : rInv M0 τ0 M τ K x a (60 * M0 467 11 + M0 475 (8 * M0 467 11 + mf x) + M0 476 (8 * M0 467 11 + mf x)) base deep lv) (cp : cP (M 449) (M 452) (M 455) (M 442 13) (deep + lv) bq) (nb : lv = 0 ∨ ¬ a = τ 544 (deep + lv - 1)) (bv : base + (M0 474 (8 * M0 467 11 + mf x)) ≤ M 441 1) (cnt : M 442 13 = C + a + nsum (kgs r6 fc CA x) (SN a - (M0 477 (8 * M0 467 11 + mf x))).toNat) (lft : rLeft τ r0 (Lb ++ tkids r6 lf (fun e => [e]) (fc x) (SN a - (M0 477 (8 * M0 467 11 + mf x))).toNat)) (c6' : M0 480 a = 6) (kk : ¬ r6 (fc x + (SN a - (M0 477 (8 * M0 467 11 + mf x)))) = 0)
    (kt : ∀ M' τ' : Nat → Int → Int, rPost U nF TO M0 τ0 M τ M' τ' K x (a + 1) (60 * M0 467 11 + M0 475 (8 * M0 467 11 + mf x) + M0 476 (8 * M0 467 11 + mf x)) base deep lv bq → M' 442 13 = C + (a + 1) + nsum (kgs r6 fc CA x) (SN (a + 1) - (M0 477 (8 * M0 467 11 + mf x))).toNat → rLeft τ' r0 (Lb ++ tkids r6 lf (fun e => [e]) (fc x) (SN (a + 1) - (M0 477 (8 * M0 467 11 + mf x))).toNat) → ∀ (x9 x10 x11 : Option zV), WP (d + 5) 256 0 0 37 [some (vR 441), some (vR 116), some (vR (zcall x)), some (vI base), some (vI deep), some (vI b0), some (vR 48), some (vI (cf x)), some (vI (a + 1 - 60 * M0 467 11)), x9, x10, x11] [] (zS (zupN P 441 3 33) M') Q) (x9 x10 x11 : Option zV) : WP (d + 5) 256 0 0 37 [some (vR 441), some (vR 116), some (vR (zcall x)), some (vI base), some (vI deep), some (vI b0), some (vR 48), some (vI (cf x)), some (vI (a - 60 * M0 467 11)), x9, x10, x11] [] (zS (zupN P 441 3 33) M) Q := by
  have nn := i0.2.2.2.2.1.1
  have sn' := (q2.2.2.2.1 c6')
  have kI : 0 ≤ SN a - (M0 477 (8 * M0 467 11 + mf x)) ∧ SN a - (M0 477 (8 * M0 467 11 + mf x)) < (M0 478 (8 * M0 467 11 + mf x)) := by have := sn'.2; omega
  have lvb : 0 ≤ lv ∧ lv ≤ 4 := by
    have g := (hfu.2.1 a aF aE).1
    have d4 := hd4 (a - 60 * M0 467 11) (by omega) (by omega)
    have y1 : M0 55 (a - 60 * M0 467 11) = lv := q2.1.1
    rw [y1] at d4; exact ⟨lv0, d4.2⟩
  have Kb : 0 ≤ K ∧ K ≤ 31 := by have := (htr x hx).2.2.1; omega
  have dsm : 0 ≤ deep ∧ 0 ≤ lv ∧ lv ≤ 4 ∧ deep + lv ≤ 130 := by omega
  have kb : 0 ≤ a - 60 * M0 467 11 ∧ a - 60 * M0 467 11 < 60 ∧ 0 ≤ a ∧ a < 120 ∧ ¬ a = (60 * M0 467 11 + M0 475 (8 * M0 467 11 + mf x) + M0 476 (8 * M0 467 11 + mf x)) ∧ ¬ (M0 475 (8 * M0 467 11 + mf x) + M0 476 (8 * M0 467 11 + mf x) ≤ a - 60 * M0 467 11) := by
    have g := (hfu.2.1 a aF aE).1
    omega
  have fb : (0 ≤ M0 475 (8 * M0 467 11 + mf x) ∧ M0 475 (8 * M0 467 11 + mf x) ≤ 60) ∧ 0 ≤ M0 476 (8 * M0 467 11 + mf x) ∧ M0 476 (8 * M0 467 11 + mf x) ≤ 60 := ⟨⟨hfu.1.1.1, hfu.1.1.2.1⟩, hfu.1.1.2.2⟩
  have fsb : 0 ≤ (M0 477 (8 * M0 467 11 + mf x)) ∧ (M0 477 (8 * M0 467 11 + mf x)) ≤ 16 ∧ 0 ≤ (M0 478 (8 * M0 467 11 + mf x)) ∧ (M0 477 (8 * M0 467 11 + mf x)) + (M0 478 (8 * M0 467 11 + mf x)) ≤ 16 := by
    have f4 := hfu.1.2.2.2
    omega
  have s486b : 0 ≤ M0 486 a ∧ M0 486 a ≤ 16 := by have := sn'.1; omega
  have plE : fc x + M0 486 a - (M0 477 (8 * M0 467 11 + mf x)) = fc x + (SN a - (M0 477 (8 * M0 467 11 + mf x))) := by have := sn'.1; omega
  have t01 : 0 ≤ x ∧ x < 320 := by have := (htr x hx).1; omega
  have fcb : 0 ≤ fc x ∧ fc x ≤ 320 := by have := (htr x hx).1; have := (htr x hx).2.2.2.1; omega
  have mx8 : 0 ≤ mf x ∧ mf x < 8 := by have := (htr x hx).2.1.2.1; omega
  have ek : a - 60 * M0 467 11 + 1 = a + 1 - 60 * M0 467 11 := by omega
  have r477 : (M0 477 (8 * M0 467 11 + mf x)) + (SN a - (M0 477 (8 * M0 467 11 + mf x))) = M0 486 a := by have := sn'.1; omega
  have lfx := (htr x hx).2.2.2.2.2.2.1
  have kids := (htr x hx).2.2.2.2.2.2.2
  obtain ⟨kd1, kd2⟩ := kids (SN a - (M0 477 (8 * M0 467 11 + mf x))) kI.1 kI.2
  obtain ⟨r1', ny, yn0, mfy, dpy⟩ := kd2.resolve_left kk
  have tks : tkids r6 lf (fun e => [e]) (fc x) (SN (a + 1) - (M0 477 (8 * M0 467 11 + mf x))).toNat = tkids r6 lf (fun e => [e]) (fc x) (SN a - (M0 477 (8 * M0 467 11 + mf x))).toNat ++ lf (fc x + (SN a - (M0 477 (8 * M0 467 11 + mf x)))) := by
    have z := tkids_suc (K := r6) (R := lf) (N := fun e => [e]) (a := fc x) (k := fc x + (SN a - (M0 477 (8 * M0 467 11 + mf x)))) (by omega)
    rw [show fc x + (SN a - (M0 477 (8 * M0 467 11 + mf x))) + 1 - fc x = SN (a + 1) - (M0 477 (8 * M0 467 11 + mf x)) by have := sn'.2; omega, show fc x + (SN a - (M0 477 (8 * M0 467 11 + mf x))) - fc x = SN a - (M0 477 (8 * M0 467 11 + mf x)) by omega, if_neg kk] at z
    exact z
  have len : ((Lb ++ tkids r6 lf (fun e => [e]) (fc x) (SN a - (M0 477 (8 * M0 467 11 + mf x))).toNat).length : Int) + ((lf (fc x + (SN a - (M0 477 (8 * M0 467 11 + mf x))))).length : Int) ≤ 400 := by
    have z := tkids_le (K := r6) (R := lf) (N := fun e => [e]) (a := fc x) (k := fc x + (SN a - (M0 477 (8 * M0 467 11 + mf x)))) (n := (M0 478 (8 * M0 467 11 + mf x))) (by omega) (by omega)
    rw [show fc x + (SN a - (M0 477 (8 * M0 467 11 + mf x))) - fc x = SN a - (M0 477 (8 * M0 467 11 + mf x)) by omega, if_neg kk, ← lfx] at z
    rw [List.length_append]; omega
  have gsu : nsum (kgs r6 fc CA x) (SN (a + 1) - (M0 477 (8 * M0 467 11 + mf x))).toNat = nsum (kgs r6 fc CA x) (SN a - (M0 477 (8 * M0 467 11 + mf x))).toNat + CA (fc x + (SN a - (M0 477 (8 * M0 467 11 + mf x)))) := by
    rw [show SN (a + 1) - (M0 477 (8 * M0 467 11 + mf x)) = SN a - (M0 477 (8 * M0 467 11 + mf x)) + 1 by have := sn'.2; omega, nsum_suc _ kI.1]
    show _ + kgs r6 fc CA x (SN a - (M0 477 (8 * M0 467 11 + mf x))) = _
    unfold kgs
    rw [if_neg kk]
  have gst : nsum (kgs r6 fc CA x) (SN (a + 1) - (M0 477 (8 * M0 467 11 + mf x))).toNat ≤ nsum (kgs r6 fc CA x) ((M0 478 (8 * M0 467 11 + mf x))).toNat := by
    have z := nsum_le (f := kgs r6 fc CA x) ((M0 478 (8 * M0 467 11 + mf x)).toNat - (SN (a + 1) - (M0 477 (8 * M0 467 11 + mf x))).toNat) (SN (a + 1) - (M0 477 (8 * M0 467 11 + mf x))).toNat (fun q q0 q1 => by
      unfold kgs
      split
      · exact Int.le_refl _
      · next zz =>
        rcases (kids q q0 (by omega)).2 with y | y
        · exact absurd y zz
        · exact (htr _ y.2.1).2.2.2.2.2.1.1)
    rw [show (SN (a + 1) - (M0 477 (8 * M0 467 11 + mf x))).toNat + ((M0 478 (8 * M0 467 11 + mf x)).toNat - (SN (a + 1) - (M0 477 (8 * M0 467 11 + mf x))).toNat) = (M0 478 (8 * M0 467 11 + mf x)).toNat by omega] at z
    exact z
  obtain ⟨yk, hyk⟩ : ∃ q : Int, q = fc x + (SN a - (M0 477 (8 * M0 467 11 + mf x))) := ⟨_, rfl⟩
  rw [← hyk] at kd1 r1' ny yn0 mfy dpy tks len gsu plE kk
  have mfy' : mf yk = M0 485 a := by
    rw [mfy, r477]; exact ((hfu.2.1 a aF aE).2.1.2 c6').2
  have hyt := htr yk ny
  have ykb : 0 ≤ yk ∧ yk < 320 := by have := hyt.1; omega
  have my8 : 0 ≤ mf yk ∧ mf yk < 8 := by have := hyt.2.1.2.1; omega
  obtain ⟨SN', hfy⟩ := hfun (mf yk) hyt.2.1.2.1.1 hyt.2.1.2.1.2.1
  have cay := hyt.2.2.2.2.2.1.2 yn0
  have f3' := hfy.1.2.2.1
  have fgv' := hfy.2.2.2
  have fl' := hfy.2.1
  have vpb : (0 ≤ M0 474 (8 * M0 467 11 + mf yk) ∧ M0 474 (8 * M0 467 11 + mf yk) ≤ 8) ∧ 0 ≤ M0 473 (8 * M0 467 11 + mf yk) ∧ M0 473 (8 * M0 467 11 + mf yk) ≤ 3 := by
    have := hfy.1.2.1
    omega
  have ffb : (0 ≤ M0 475 (8 * M0 467 11 + mf yk) ∧ M0 475 (8 * M0 467 11 + mf yk) ≤ 60) ∧ 0 ≤ M0 476 (8 * M0 467 11 + mf yk) ∧ M0 476 (8 * M0 467 11 + mf yk) ≤ 60 := ⟨⟨hfy.1.1.1, hfy.1.1.2.1⟩, hfy.1.1.2.2⟩
  have nsn : 0 ≤ nsum (kgs r6 fc CA yk) (M0 478 (8 * M0 467 11 + mf yk)).toNat := by
    have z := nsum_le (f := kgs r6 fc CA yk) (M0 478 (8 * M0 467 11 + mf yk)).toNat 0 (fun q q0 q1 => by
      unfold kgs
      split
      · exact Int.le_refl _
      · next zz =>
        rcases (hyt.2.2.2.2.2.2.2 q q0 (by omega)).2 with w | w
        · exact absurd w zz
        · exact (htr _ w.2.1).2.2.2.2.2.1.1)
    rw [show 0 + (M0 478 (8 * M0 467 11 + mf yk)).toNat = (M0 478 (8 * M0 467 11 + mf yk)).toNat by omega] at z
    exact z
  have tot : M 442 13 + CA yk + 1 ≤ 319 := num_tot hC cnt gsu gst aE
  have tov : M0 474 (8 * M0 467 11 + mf yk) ≤ CA yk := num_tov cay nsn ffb.2.1 f3' fgv'
  have A1 : 32 - dp yk ≤ N := by rw [dpy]; exact num_a1 hdN
  have A2 : K + 1 = dp yk := by rw [dpy, hK]
  have A3 : 0 ≤ deep + lv ∧ deep + lv ≤ 4 * (K + 1) := num_a3 hdp lvb
  have A6 : M 442 13 + M0 474 (8 * M0 467 11 + mf yk) - (60 * M0 467 11 + M0 475 (8 * M0 467 11 + mf yk)) + (60 * M0 467 11 + M0 475 (8 * M0 467 11 + mf yk) + M0 476 (8 * M0 467 11 + mf yk)) + nsum (kgs r6 fc CA yk) (M0 478 (8 * M0 467 11 + mf yk)).toNat ≤ 319 := num_a6 cay f3' tot
  have A7 : ∀ w : Int, w = M 442 13 + M0 474 (8 * M0 467 11 + mf yk) - (60 * M0 467 11 + M0 475 (8 * M0 467 11 + mf yk)) + (60 * M0 467 11 + M0 475 (8 * M0 467 11 + mf yk) + M0 476 (8 * M0 467 11 + mf yk) - M0 479 (8 * M0 467 11 + mf yk)) + nsum (kgs r6 fc CA yk) (M0 478 (8 * M0 467 11 + mf yk)).toNat → w = M 442 13 + CA yk := fun w h => num_a7 h cay
  have A9 : M 442 13 + CA yk + 1 = C + (a + 1) + nsum (kgs r6 fc CA x) (SN (a + 1) - (M0 477 (8 * M0 467 11 + mf x))).toNat := num_a9 cnt gsu
  have vb : 0 ≤ M 441 1 ∧ M 441 1 ≤ 400 := num_vb i0.2.2.2.2.2.2 dsm.1 dsm.2.1 tot (hyt.2.2.2.2.2.1.1)
  have bb : 0 ≤ base ∧ base ≤ 400 := num_bb i0.2.2.2.2.2.1 bv vb hfu.1.2.1
  have n3' : M 442 13 + M0 474 (8 * M0 467 11 + mf yk) < 320 := num_n3 tot tov
  obtain ⟨⟨y1, y2, y3⟩, _, _, _, _, y11⟩ := id q2
  obtain ⟨j1, j2, j3, j4, j5, j6, j7⟩ := id i0
  have fr := j1.1
  have g3 := (hfu.2.1 a aF aE).2.1.1
  have xt : 0 ≤ M0 481 a ∧ M0 481 a ≤ 8 ∧ M0 481 a + base < M 441 1 := num_xt (g3.2.2.2.1 (by rw [c6']; decide)) bv y11.1
  have xg := g3.2.2.2.2 c6'
  rw [← mfy'] at xg
  obtain ⟨τ1, to1, top1, KKs, pr1, ⟨n109, n110⟩, rows1, rows2, ⟨le1, le2⟩⟩ := rOpenR hpg (num_ah kb.1 kb.2.1) j2 j3 j4 nn (num_le bb) (num_le vb) hb Kb dsm nb kb.2.2.2.2.1 ⟨kb.2.2.1, kb.2.2.2.1⟩ y2 ⟨y11.1, y11.2.2⟩ c6' t01 (htr x hx).2.2.2.2.1.1 (htr x hx).2.2.2.2.1.2 mx8 fcb s486b ⟨fsb.1, fsb.2.1⟩ plE ykb hyt.2.2.2.2.1.1 my8 ⟨vpb.1, vpb.2.1, num_38 vpb.2.2⟩ ffb (by rw [kd1]; exact kk) n3'
  have lft1 := rLeft_same (τ' := τ1) lft le1 le2
  have inv1 : ∀ M1 : Nat → Int → Int, cMany M M1 (M0 474 (8 * M0 467 11 + mf yk)) (deep + lv) bq (fun xv => if xv < M0 473 (8 * M0 467 11 + mf yk) then shf (opx (M0 482 a) (M0 483 a) (M0 484 a) xv) base else 0) → rInv M0 τ0 M1 τ1 (K + 1) yk (60 * M0 467 11 + M0 475 (8 * M0 467 11 + mf yk)) (60 * M0 467 11 + M0 475 (8 * M0 467 11 + mf yk) + M0 476 (8 * M0 467 11 + mf yk)) (M 441 1) (deep + lv) 0 ∧ ySegE τ1 (okR M1 τ1 nF TO) (deep + lv) bq (120 + M 442 13) (120 + M1 442 13) ∧ ∀ xq : Int, 0 ≤ xq → opnd (M1 441 1) (if xq < M0 473 (8 * M0 467 11 + mf yk) then shf (opx (M0 482 a) (M0 483 a) (M0 484 a) xq) base else 0) := fun M1 cm =>
    rOpenM (a := a) j1 j2 j3 nn j6 ⟨j7.1, num_aj j7.2⟩ Kb.1 A3.1 dsm.2.2.2 vpb.1 n3' top1 pr1 n109 n110 rows1 rows2 cm bv vpb.2.2 xg.2.2.2.2.1 xg.2.2.2.2.2.1 xg.2.2.2.2.2.2
  have lE : M0 479 (8 * M0 467 11 + mf yk) = 1 → 60 * M0 467 11 + M0 475 (8 * M0 467 11 + mf yk) ≤ 60 * M0 467 11 + M0 475 (8 * M0 467 11 + mf yk) + M0 476 (8 * M0 467 11 + mf yk) - 1 ∧ 60 * M0 467 11 + M0 475 (8 * M0 467 11 + mf yk) + M0 476 (8 * M0 467 11 + mf yk) - 1 < 60 * M0 467 11 + M0 475 (8 * M0 467 11 + mf yk) + M0 476 (8 * M0 467 11 + mf yk) := fun z => num_lE (fgv' z).1
  have g0 : M0 479 (8 * M0 467 11 + mf yk) = 0 → ygiv M0 (mf yk) = -2 := fun z => by unfold ygiv; rw [if_pos z]
  have g1' : M0 479 (8 * M0 467 11 + mf yk) = 1 → ¬ ygiv M0 (mf yk) = -2 ∧ ygiv M0 (mf yk) = M0 482 (60 * M0 467 11 + M0 475 (8 * M0 467 11 + mf yk) + M0 476 (8 * M0 467 11 + mf yk) - 1) ∧ opnd (M0 474 (8 * M0 467 11 + mf yk)) (ygiv M0 (mf yk)) := fun z => by
    have w := fgv' z
    have e : ygiv M0 (mf yk) = M0 482 (60 * M0 467 11 + M0 475 (8 * M0 467 11 + mf yk) + M0 476 (8 * M0 467 11 + mf yk) - 1) := by unfold ygiv; rw [if_neg (by rw [z]; decide)]
    rw [e]
    exact ⟨w.2.2, rfl, (fl' _ (lE z).1 (lE z).2).2.1.1.2.1 (by rw [w.2.1]; decide)⟩
  have gvb : -1000 ≤ ygiv M0 (mf yk) ∧ ygiv M0 (mf yk) ≤ 1000 := by
    rcases f3' with z | z
    · rw [g0 z]; decide
    · exact num_gv (g1' z).2.2
  have u1 := (htr x hx).2.1.1
  have u5 : M0 38 (cf x) = M0 475 (8 * M0 467 11 + mf x) := (htr x hx).2.1.2.2.2.2.1
  have u6 : M0 39 (cf x) = M0 476 (8 * M0 467 11 + mf x) := (htr x hx).2.1.2.2.2.2.2.1
  have u7 : M0 40 (cf x) = M0 477 (8 * M0 467 11 + mf x) := (htr x hx).2.1.2.2.2.2.2.2.1
  have u1' := hyt.2.1.1
  have u3' : M0 36 (cf yk) = M0 473 (8 * M0 467 11 + mf yk) := hyt.2.1.2.2.1
  have u4' : M0 37 (cf yk) = M0 474 (8 * M0 467 11 + mf yk) := hyt.2.1.2.2.2.1
  have u8' : M0 42 (cf yk) = ygiv M0 (mf yk) := hyt.2.1.2.2.2.2.2.2.2
  have y1 : M0 55 (a - 60 * M0 467 11) = lv := y1
  have y3 : 0 < lv → M0 56 (a - 60 * M0 467 11) = br := y3
  have ys' := hfy.2.2.1
  have cc := hcc (a - 60 * M0 467 11) kb.1 (num_cc (hfu.2.1 a aF aE).1)
  rw [show a - 60 * M0 467 11 + 60 * M0 467 11 = a from num_cn] at cc
  obtain ⟨c1, c2, c3, c4, c5, c6, _, _, _⟩ := cc
  have hr3 : ∀ i : Int, 0 ≤ i ∧ i < 320 → M (zcall i) 3 = dp i := fun i hi => by rw [fr _ (by have := zcall_in hi; omega)]; exact h3 i hi
  have hr5 : ∀ i : Int, 0 ≤ i ∧ i < 320 → M (zcall i) 5 = fc i := fun i hi => by rw [fr _ (by have := zcall_in hi; omega)]; exact h5 i hi
  have hr6 : ∀ i : Int, 0 ≤ i ∧ i < 320 → M (zcall i) 6 = r6 i := fun i hi => by rw [fr _ (by have := zcall_in hi; omega)]; exact h6 i hi
  have hr1 : ∀ i : Int, 0 ≤ i ∧ i < 320 → M (zcall i) 1 = cf i := fun i hi => by rw [fr _ (by have := zcall_in hi; omega)]; exact h1 i hi
  have eB : (if lv = 0 then b0 else M 56 (a - 60 * M0 467 11)) = bq := by
    by_cases z : lv = 0
    · rw [if_pos z]; exact (hq0 z).symm
    · rw [if_neg z, fr 56 (by decide), y3 (num_pos lv0 z)]; exact (hq1 z).symm
  have m1 := congrFun (fr 49 (by decide)) (a - 60 * M0 467 11)
  have m3 := congrFun (fr 51 (by decide)) (a - 60 * M0 467 11)
  have m4 := congrFun (fr 52 (by decide)) (a - 60 * M0 467 11)
  have m5 := congrFun (fr 53 (by decide)) (a - 60 * M0 467 11)
  have m6 := congrFun (fr 54 (by decide)) (a - 60 * M0 467 11)
  have m7 := congrFun (fr 55 (by decide)) (a - 60 * M0 467 11)
  rw [c1] at m1
  rw [c3] at m3
  rw [c4] at m4
  rw [c5] at m5
  rw [c6] at m6
  rw [y1] at m7
  have n5 := congrFun (fr 38 (by decide)) (cf x)
  have n6 := congrFun (fr 39 (by decide)) (cf x)
  have n7 := congrFun (fr 40 (by decide)) (cf x)
  rw [u5] at n5
  rw [u6] at n6
  rw [u7] at n7
  have n3y := congrFun (fr 36 (by decide)) (cf yk)
  have n4y := congrFun (fr 37 (by decide)) (cf yk)
  rw [u3'] at n3y
  rw [u4'] at n4y
  have o2 := num_o y11.1
  have o3 := num_o2 y11.2.2.1
  have o4 := num_o2 y11.2.2.2.1
  have o5 := num_o2 y11.2.2.2.2
  have H2 := @C_op_33 d P M Q (fun M' => ∃ τ' : Nat → Int → Int, rPost U nF TO M0 τ0 M τ M' τ' K x (a + 1) (60 * M0 467 11 + M0 475 (8 * M0 467 11 + mf x) + M0 476 (8 * M0 467 11 + mf x)) base deep lv bq ∧ M' 442 13 = C + (a + 1) + nsum (kgs r6 fc CA x) (SN (a + 1) - (M0 477 (8 * M0 467 11 + mf x))).toNat ∧ rLeft τ' r0 (Lb ++ tkids r6 lf (fun e => [e]) (fc x) (SN (a + 1) - (M0 477 (8 * M0 467 11 + mf x))).toNat)) x base deep b0 (cf x) (a - 60 * M0 467 11) dp hr3 fc hr5 r6 hr6 x9 x10 x11
  rw [m1, m6, m7, n5, n6, n7, eB, ek, plE] at H2
  refine H2 t01 u1 fb kb.2.2.2.2.2 ⟨kb.1, kb.2.1⟩ ⟨fcb, num_s s486b, ⟨fsb.1, fsb.2.1⟩⟩ (num_l5 lvb) (num_d3 dsm) c6' ykb (by rw [r1']; decide) ?_ (fun M' ⟨τ', po, cn, lf'⟩ x9 x10 x11 => kt M' τ' po cn lf' x9 x10 x11)
  have H3 := @C_wo_33 d P M (fun M' => ∃ M1 τ1' : Nat → Int → Int, cMany M M1 (M0 474 (8 * M0 467 11 + mf yk)) (deep + lv) bq (fun xv => if xv < M0 473 (8 * M0 467 11 + mf yk) then shf (opx (M0 482 a) (M0 483 a) (M0 484 a) xv) base else 0) ∧ rPost U nF TO M0 τ0 M1 τ1 M' τ1' (K + 1) yk (60 * M0 467 11 + M0 475 (8 * M0 467 11 + mf yk) + M0 476 (8 * M0 467 11 + mf yk) - M0 479 (8 * M0 467 11 + mf yk)) (60 * M0 467 11 + M0 475 (8 * M0 467 11 + mf yk) + M0 476 (8 * M0 467 11 + mf yk)) (M 441 1) (deep + lv) 0 bq ∧ M' 442 13 = M 442 13 + CA yk ∧ rLeft τ1' r0 (Lb ++ tkids r6 lf (fun e => [e]) (fc x) (SN a - (M0 477 (8 * M0 467 11 + mf x))).toNat ++ lf yk)) (fun M' => ∃ τ' : Nat → Int → Int, rPost U nF TO M0 τ0 M τ M' τ' K x (a + 1) (60 * M0 467 11 + M0 475 (8 * M0 467 11 + mf x) + M0 476 (8 * M0 467 11 + mf x)) base deep lv bq ∧ M' 442 13 = C + (a + 1) + nsum (kgs r6 fc CA x) (SN (a + 1) - (M0 477 (8 * M0 467 11 + mf x))).toNat ∧ rLeft τ' r0 (Lb ++ tkids r6 lf (fun e => [e]) (fc x) (SN (a + 1) - (M0 477 (8 * M0 467 11 + mf x))).toNat)) yk (a - 60 * M0 467 11) base (deep + lv) bq cf hr1
  rw [m3, m4, m5, n3y, n4y] at H3
  refine H3 ykb ⟨kb.1, kb.2.1⟩ (num_le bb) u1' vpb.1 (num_d4 dsm) (num_le vb) ⟨nn, n3'⟩ o3 o4 o5 j5 cp (fun M1 cm Q' hq => ?_) (fun M' hk => ?_)
  · obtain ⟨i1, _⟩ := inv1 M1 cm
    obtain ⟨_, ⟨_, m3', _, m5'⟩, _, _, m7', _⟩ := id cm
    refine hN yk (K + 1) (M 441 1) (deep + lv) bq (M 442 13 + M0 474 (8 * M0 467 11 + mf yk) - (60 * M0 467 11 + M0 475 (8 * M0 467 11 + mf yk))) M1 τ1 (Lb ++ tkids r6 lf (fun e => [e]) (fc x) (SN a - (M0 477 (8 * M0 467 11 + mf x))).toNat) r0 ny yn0 A1 A2 A3 i1 m7' (by rw [m3']; exact Int.le_refl _) (by rw [m5']; exact num_cf) A6 lft1 len P Q' (fun M' τ' p1' p2' p3' => hq M' ⟨M1, τ', cm, p1', A7 _ p2', p3'⟩)
  · obtain ⟨M1, τ1', cm, po1, cn1, lf1⟩ := hk
    obtain ⟨i1, ys1, gq1⟩ := inv1 M1 cm
    obtain ⟨i2, _, cp2, _⟩ := id po1
    obtain ⟨i2a, _, _, _, i2e, _⟩ := id i2
    rw [show deep + lv + 0 = deep + lv from Int.add_zero _] at cp2
    have gP : M' 42 (cf yk) = ygiv M0 (mf yk) := by rw [i2a.1 42 (by decide)]; exact u8'
    have gT : M' 50 (a - 60 * M0 467 11) = M0 481 a := by rw [i2a.1 50 (by decide)]; exact c2
    have nb' : M' 442 13 < 320 := by rw [cn1]; exact num_nb tot
    rw [gP, gT]
    refine ⟨⟨gvb, o2, ⟨i2e.1, nb'⟩, i2e, cp2⟩, fun M2 hp2 => ?_⟩
    obtain ⟨τ2, po, e1, e2⟩ := rOpenE (G := ygiv M0 (mf yk)) (GI := M0 479 (8 * M0 467 11 + mf yk)) hpg (num_ah kb.1 kb.2.1) (fun z => num_eh (fl' _ (lE z).1 (lE z).2).1 hn1) Kb ⟨dsm.1, dsm.2.1, dsm.2.2.2⟩ nn (num_le bb) j7 ⟨kb.2.2.1, kb.2.2.2.1⟩ xt vpb.1 to1 KKs pr1 cm ys1 po1 nb' f3' g0 (fun z => by
      obtain ⟨a1, a2, a3⟩ := g1' z
      obtain ⟨lv', br', _, yE⟩ := ySeg_at' ys'.2.2 (lE z).1 (lE z).2
      have w := fgv' z
      exact ⟨a1, a2, a3, num_e1 hb (fl' _ (lE z).1 (lE z).2).1 hn1, w.2.1, num_l yE.1.2.1 (yE.2.2.1 w.2.1).1, ⟨num_o1 yE.2.2.2.2.2.1, num_o2 yE.2.2.2.2.2.2.2.1, num_o2 yE.2.2.2.2.2.2.2.2.1, num_o2 yE.2.2.2.2.2.2.2.2.2⟩, yE.2.1.2.1⟩) gq1 (num_h4 hdp lvb) (fun z => num_hU (hU ((htr x hx).2.2.1.2.2.mpr (by rw [← hK]; exact z))) nn cnt gsu gst aE (fun g e => by have w := (hfu.2.2.2 g).2.1; rw [← e, c6'] at w; exact absurd w (by decide)) cn1) hp2
    refine ⟨τ2, po, ?_, ?_⟩
    · rw [hp2.2.1.2.2, cn1]; exact A9
    · rw [tks, ← List.append_assoc]
      exact rLeft_same lf1 e1 e2

def rNode_62 (d N : Nat) (M0 τ0 : Nat → Int → Int) (U nF m : Int) (TO cf mf fc dp r6 CA : Int → Int) (ND : Int → Prop) (lf : Int → List Int) : Prop := ∀ (x K base deep b0 C : Int) (M τ : Nat → Int → Int) (Lb : List Int) (r0 : Int → Int), ND x → ¬ x = 0 → 32 - dp x ≤ N → K = dp x → (0 ≤ deep ∧ deep ≤ 4 * K) → rInv M0 τ0 M τ K x (60 * M0 467 11 + M0 475 (8 * M0 467 11 + mf x)) (60 * M0 467 11 + M0 475 (8 * M0 467 11 + mf x) + M0 476 (8 * M0 467 11 + mf x)) base deep 0 → cP (M 449) (M 452) (M 455) (M 442 13) deep b0 → base + (M0 474 (8 * M0 467 11 + mf x)) ≤ M 441 1 → M 442 13 = C + (60 * M0 467 11 + M0 475 (8 * M0 467 11 + mf x)) → C + (60 * M0 467 11 + M0 475 (8 * M0 467 11 + mf x) + M0 476 (8 * M0 467 11 + mf x)) + nsum (kgs r6 fc CA x) ((M0 478 (8 * M0 467 11 + mf x))).toNat ≤ 319 → rLeft τ r0 Lb → (Lb.length : Int) + ((lf x).length : Int) ≤ 400 →
    ∀ (P : Nat → Nat → Nat) (Q : zQ), (∀ M' τ' : Nat → Int → Int, rPost U nF TO M0 τ0 M τ M' τ' K x ((60 * M0 467 11 + M0 475 (8 * M0 467 11 + mf x) + M0 476 (8 * M0 467 11 + mf x)) - (M0 479 (8 * M0 467 11 + mf x))) (60 * M0 467 11 + M0 475 (8 * M0 467 11 + mf x) + M0 476 (8 * M0 467 11 + mf x)) base deep 0 b0 → M' 442 13 = C + ((60 * M0 467 11 + M0 475 (8 * M0 467 11 + mf x) + M0 476 (8 * M0 467 11 + mf x)) - (M0 479 (8 * M0 467 11 + mf x))) + nsum (kgs r6 fc CA x) ((M0 478 (8 * M0 467 11 + mf x))).toNat → rLeft τ' r0 (Lb ++ lf x) → Q (zS (zupN P 441 3 62) M') none) → WC (d + 4) 256 [vR 441, vR 116, vR (zcall x), vI base, vI deep, vI b0] (zS (zupN P 441 3 62) M) Q
set_option maxRecDepth 100000 in
set_option maxHeartbeats 8000000 in
theorem rOpen_62 {d : Nat} {P : Nat → Nat → Nat} {Q : zQ} {M0 τ0 : Nat → Int → Int} {U nF m : Int} {TO cf mf fc dp r6 CA : Int → Int} {ND : Int → Prop} {lf : Int → List Int} (hb : 0 ≤ M0 467 11 ∧ M0 467 11 ≤ 1) (hn1 : M0 470 (M0 467 11) ≤ 60) (hcc : cCode M0 (60 * M0 467 11) (M0 470 (M0 467 11)) (M0 78) (M0 79) (M0 80) (M0 81) (M0 82) (M0 83) (M0 87) (M0 88)) (hd4 : ∀ l : Int, 0 ≤ l → l < M0 470 (M0 467 11) → 0 ≤ M0 84 l ∧ M0 84 l ≤ 4) (hpg : rProg M0 τ0) (h1 : ∀ i : Int, 0 ≤ i ∧ i < 320 → M0 (zcall i) 1 = cf i) (h3 : ∀ i : Int, 0 ≤ i ∧ i < 320 → M0 (zcall i) 3 = dp i) (h5 : ∀ i : Int, 0 ≤ i ∧ i < 320 → M0 (zcall i) 5 = fc i) (h6 : ∀ i : Int, 0 ≤ i ∧ i < 320 → M0 (zcall i) 6 = r6 i) (hfun : ∀ g : Int, 0 ≤ g → g < M0 469 (M0 467 11) → ∃ SN : Int → Int, rFun 62 M0 nF TO SN g) (htr : rTr 62 M0 τ0 TO cf mf fc dp r6 CA ND lf m) {N : Nat} (hN : rNode_62 d N M0 τ0 U nF m TO cf mf fc dp r6 CA ND lf) {x K base deep b0 C : Int} {Lb : List Int} {r0 SN : Int → Int} (hx : ND x) (hdN : 32 - dp x ≤ N + 1) (hK : K = dp x) (hdp : 0 ≤ deep ∧ deep ≤ 4 * K) (hfu : rFun 62 M0 nF TO SN (mf x)) (hC : C + (60 * M0 467 11 + M0 475 (8 * M0 467 11 + mf x) + M0 476 (8 * M0 467 11 + mf x)) + nsum (kgs r6 fc CA x) ((M0 478 (8 * M0 467 11 + mf x))).toNat ≤ 319) (hLb : (Lb.length : Int) + ((lf x).length : Int) ≤ 400) (hU : x = 0 → U = if (M0 479 (8 * M0 467 11 + mf x)) = 1 then C + (60 * M0 467 11 + M0 475 (8 * M0 467 11 + mf x) + M0 476 (8 * M0 467 11 + mf x)) + nsum (kgs r6 fc CA x) ((M0 478 (8 * M0 467 11 + mf x))).toNat else -1) 
    {lv br a bq : Int} {M τ : Nat → Int → Int} (q2 : yok 62 M0 SN (mf x) (60 * M0 467 11 + M0 475 (8 * M0 467 11 + mf x) + M0 476 (8 * M0 467 11 + mf x)) lv br a) (hq0 : lv = 0 → bq = b0) (hq1 : ¬ lv = 0 → bq = br) (lv0 : 0 ≤ lv) (aF : (60 * M0 467 11 + M0 475 (8 * M0 467 11 + mf x)) ≤ a) (aE : a < (60 * M0 467 11 + M0 475 (8 * M0 467 11 + mf x) + M0 476 (8 * M0 467 11 + mf x))) (sa : (M0 477 (8 * M0 467 11 + mf x)) ≤ SN a) (sb : SN (a + 1) ≤ (M0 477 (8 * M0 467 11 + mf x)) + (M0 478 (8 * M0 467 11 + mf x))) (i0 : rInv M0 τ0 M τ K x a (60 * M0 467 11 + M0 475 (8 * M0 467 11 + mf x) + M0 476 (8 * M0 467 11 + mf x)) base deep lv) (cp : cP (M 449) (M 452) (M 455) (M 442 13) (deep + lv) bq) (nb : lv = 0 ∨ ¬ a = τ 544 (deep + lv - 1)) (bv : base + (M0 474 (8 * M0 467 11 + mf x)) ≤ M 441 1) (cnt : M 442 13 = C + a + nsum (kgs r6 fc CA x) (SN a - (M0 477 (8 * M0 467 11 + mf x))).toNat) (lft : rLeft τ r0 (Lb ++ tkids r6 lf (fun e => [e]) (fc x) (SN a - (M0 477 (8 * M0 467 11 + mf x))).toNat)) (c6' : M0 480 a = 6) (kk : ¬ r6 (fc x + (SN a - (M0 477 (8 * M0 467 11 + mf x)))) = 0)
    (kt : ∀ M' τ' : Nat → Int → Int, rPost U nF TO M0 τ0 M τ M' τ' K x (a + 1) (60 * M0 467 11 + M0 475 (8 * M0 467 11 + mf x) + M0 476 (8 * M0 467 11 + mf x)) base deep lv bq → M' 442 13 = C + (a + 1) + nsum (kgs r6 fc CA x) (SN (a + 1) - (M0 477 (8 * M0 467 11 + mf x))).toNat → rLeft τ' r0 (Lb ++ tkids r6 lf (fun e => [e]) (fc x) (SN (a + 1) - (M0 477 (8 * M0 467 11 + mf x))).toNat) → ∀ (x9 x10 x11 : Option zV), WP (d + 5) 256 0 0 37 [some (vR 441), some (vR 116), some (vR (zcall x)), some (vI base), some (vI deep), some (vI b0), some (vR 77), some (vI (cf x)), some (vI (a + 1 - 60 * M0 467 11)), x9, x10, x11] [] (zS (zupN P 441 3 62) M') Q) (x9 x10 x11 : Option zV) : WP (d + 5) 256 0 0 37 [some (vR 441), some (vR 116), some (vR (zcall x)), some (vI base), some (vI deep), some (vI b0), some (vR 77), some (vI (cf x)), some (vI (a - 60 * M0 467 11)), x9, x10, x11] [] (zS (zupN P 441 3 62) M) Q := by
  have nn := i0.2.2.2.2.1.1
  have sn' := (q2.2.2.2.1 c6')
  have kI : 0 ≤ SN a - (M0 477 (8 * M0 467 11 + mf x)) ∧ SN a - (M0 477 (8 * M0 467 11 + mf x)) < (M0 478 (8 * M0 467 11 + mf x)) := by have := sn'.2; omega
  have lvb : 0 ≤ lv ∧ lv ≤ 4 := by
    have g := (hfu.2.1 a aF aE).1
    have d4 := hd4 (a - 60 * M0 467 11) (by omega) (by omega)
    have y1 : M0 84 (a - 60 * M0 467 11) = lv := q2.1.1
    rw [y1] at d4; exact ⟨lv0, d4.2⟩
  have Kb : 0 ≤ K ∧ K ≤ 31 := by have := (htr x hx).2.2.1; omega
  have dsm : 0 ≤ deep ∧ 0 ≤ lv ∧ lv ≤ 4 ∧ deep + lv ≤ 130 := by omega
  have kb : 0 ≤ a - 60 * M0 467 11 ∧ a - 60 * M0 467 11 < 60 ∧ 0 ≤ a ∧ a < 120 ∧ ¬ a = (60 * M0 467 11 + M0 475 (8 * M0 467 11 + mf x) + M0 476 (8 * M0 467 11 + mf x)) ∧ ¬ (M0 475 (8 * M0 467 11 + mf x) + M0 476 (8 * M0 467 11 + mf x) ≤ a - 60 * M0 467 11) := by
    have g := (hfu.2.1 a aF aE).1
    omega
  have fb : (0 ≤ M0 475 (8 * M0 467 11 + mf x) ∧ M0 475 (8 * M0 467 11 + mf x) ≤ 60) ∧ 0 ≤ M0 476 (8 * M0 467 11 + mf x) ∧ M0 476 (8 * M0 467 11 + mf x) ≤ 60 := ⟨⟨hfu.1.1.1, hfu.1.1.2.1⟩, hfu.1.1.2.2⟩
  have fsb : 0 ≤ (M0 477 (8 * M0 467 11 + mf x)) ∧ (M0 477 (8 * M0 467 11 + mf x)) ≤ 16 ∧ 0 ≤ (M0 478 (8 * M0 467 11 + mf x)) ∧ (M0 477 (8 * M0 467 11 + mf x)) + (M0 478 (8 * M0 467 11 + mf x)) ≤ 16 := by
    have f4 := hfu.1.2.2.2
    omega
  have s486b : 0 ≤ M0 486 a ∧ M0 486 a ≤ 16 := by have := sn'.1; omega
  have plE : fc x + M0 486 a - (M0 477 (8 * M0 467 11 + mf x)) = fc x + (SN a - (M0 477 (8 * M0 467 11 + mf x))) := by have := sn'.1; omega
  have t01 : 0 ≤ x ∧ x < 320 := by have := (htr x hx).1; omega
  have fcb : 0 ≤ fc x ∧ fc x ≤ 320 := by have := (htr x hx).1; have := (htr x hx).2.2.2.1; omega
  have mx8 : 0 ≤ mf x ∧ mf x < 8 := by have := (htr x hx).2.1.2.1; omega
  have ek : a - 60 * M0 467 11 + 1 = a + 1 - 60 * M0 467 11 := by omega
  have r477 : (M0 477 (8 * M0 467 11 + mf x)) + (SN a - (M0 477 (8 * M0 467 11 + mf x))) = M0 486 a := by have := sn'.1; omega
  have lfx := (htr x hx).2.2.2.2.2.2.1
  have kids := (htr x hx).2.2.2.2.2.2.2
  obtain ⟨kd1, kd2⟩ := kids (SN a - (M0 477 (8 * M0 467 11 + mf x))) kI.1 kI.2
  obtain ⟨r1', ny, yn0, mfy, dpy⟩ := kd2.resolve_left kk
  have tks : tkids r6 lf (fun e => [e]) (fc x) (SN (a + 1) - (M0 477 (8 * M0 467 11 + mf x))).toNat = tkids r6 lf (fun e => [e]) (fc x) (SN a - (M0 477 (8 * M0 467 11 + mf x))).toNat ++ lf (fc x + (SN a - (M0 477 (8 * M0 467 11 + mf x)))) := by
    have z := tkids_suc (K := r6) (R := lf) (N := fun e => [e]) (a := fc x) (k := fc x + (SN a - (M0 477 (8 * M0 467 11 + mf x)))) (by omega)
    rw [show fc x + (SN a - (M0 477 (8 * M0 467 11 + mf x))) + 1 - fc x = SN (a + 1) - (M0 477 (8 * M0 467 11 + mf x)) by have := sn'.2; omega, show fc x + (SN a - (M0 477 (8 * M0 467 11 + mf x))) - fc x = SN a - (M0 477 (8 * M0 467 11 + mf x)) by omega, if_neg kk] at z
    exact z
  have len : ((Lb ++ tkids r6 lf (fun e => [e]) (fc x) (SN a - (M0 477 (8 * M0 467 11 + mf x))).toNat).length : Int) + ((lf (fc x + (SN a - (M0 477 (8 * M0 467 11 + mf x))))).length : Int) ≤ 400 := by
    have z := tkids_le (K := r6) (R := lf) (N := fun e => [e]) (a := fc x) (k := fc x + (SN a - (M0 477 (8 * M0 467 11 + mf x)))) (n := (M0 478 (8 * M0 467 11 + mf x))) (by omega) (by omega)
    rw [show fc x + (SN a - (M0 477 (8 * M0 467 11 + mf x))) - fc x = SN a - (M0 477 (8 * M0 467 11 + mf x)) by omega, if_neg kk, ← lfx] at z
    rw [List.length_append]; omega
  have gsu : nsum (kgs r6 fc CA x) (SN (a + 1) - (M0 477 (8 * M0 467 11 + mf x))).toNat = nsum (kgs r6 fc CA x) (SN a - (M0 477 (8 * M0 467 11 + mf x))).toNat + CA (fc x + (SN a - (M0 477 (8 * M0 467 11 + mf x)))) := by
    rw [show SN (a + 1) - (M0 477 (8 * M0 467 11 + mf x)) = SN a - (M0 477 (8 * M0 467 11 + mf x)) + 1 by have := sn'.2; omega, nsum_suc _ kI.1]
    show _ + kgs r6 fc CA x (SN a - (M0 477 (8 * M0 467 11 + mf x))) = _
    unfold kgs
    rw [if_neg kk]
  have gst : nsum (kgs r6 fc CA x) (SN (a + 1) - (M0 477 (8 * M0 467 11 + mf x))).toNat ≤ nsum (kgs r6 fc CA x) ((M0 478 (8 * M0 467 11 + mf x))).toNat := by
    have z := nsum_le (f := kgs r6 fc CA x) ((M0 478 (8 * M0 467 11 + mf x)).toNat - (SN (a + 1) - (M0 477 (8 * M0 467 11 + mf x))).toNat) (SN (a + 1) - (M0 477 (8 * M0 467 11 + mf x))).toNat (fun q q0 q1 => by
      unfold kgs
      split
      · exact Int.le_refl _
      · next zz =>
        rcases (kids q q0 (by omega)).2 with y | y
        · exact absurd y zz
        · exact (htr _ y.2.1).2.2.2.2.2.1.1)
    rw [show (SN (a + 1) - (M0 477 (8 * M0 467 11 + mf x))).toNat + ((M0 478 (8 * M0 467 11 + mf x)).toNat - (SN (a + 1) - (M0 477 (8 * M0 467 11 + mf x))).toNat) = (M0 478 (8 * M0 467 11 + mf x)).toNat by omega] at z
    exact z
  obtain ⟨yk, hyk⟩ : ∃ q : Int, q = fc x + (SN a - (M0 477 (8 * M0 467 11 + mf x))) := ⟨_, rfl⟩
  rw [← hyk] at kd1 r1' ny yn0 mfy dpy tks len gsu plE kk
  have mfy' : mf yk = M0 485 a := by
    rw [mfy, r477]; exact ((hfu.2.1 a aF aE).2.1.2 c6').2
  have hyt := htr yk ny
  have ykb : 0 ≤ yk ∧ yk < 320 := by have := hyt.1; omega
  have my8 : 0 ≤ mf yk ∧ mf yk < 8 := by have := hyt.2.1.2.1; omega
  obtain ⟨SN', hfy⟩ := hfun (mf yk) hyt.2.1.2.1.1 hyt.2.1.2.1.2.1
  have cay := hyt.2.2.2.2.2.1.2 yn0
  have f3' := hfy.1.2.2.1
  have fgv' := hfy.2.2.2
  have fl' := hfy.2.1
  have vpb : (0 ≤ M0 474 (8 * M0 467 11 + mf yk) ∧ M0 474 (8 * M0 467 11 + mf yk) ≤ 8) ∧ 0 ≤ M0 473 (8 * M0 467 11 + mf yk) ∧ M0 473 (8 * M0 467 11 + mf yk) ≤ 3 := by
    have := hfy.1.2.1
    omega
  have ffb : (0 ≤ M0 475 (8 * M0 467 11 + mf yk) ∧ M0 475 (8 * M0 467 11 + mf yk) ≤ 60) ∧ 0 ≤ M0 476 (8 * M0 467 11 + mf yk) ∧ M0 476 (8 * M0 467 11 + mf yk) ≤ 60 := ⟨⟨hfy.1.1.1, hfy.1.1.2.1⟩, hfy.1.1.2.2⟩
  have nsn : 0 ≤ nsum (kgs r6 fc CA yk) (M0 478 (8 * M0 467 11 + mf yk)).toNat := by
    have z := nsum_le (f := kgs r6 fc CA yk) (M0 478 (8 * M0 467 11 + mf yk)).toNat 0 (fun q q0 q1 => by
      unfold kgs
      split
      · exact Int.le_refl _
      · next zz =>
        rcases (hyt.2.2.2.2.2.2.2 q q0 (by omega)).2 with w | w
        · exact absurd w zz
        · exact (htr _ w.2.1).2.2.2.2.2.1.1)
    rw [show 0 + (M0 478 (8 * M0 467 11 + mf yk)).toNat = (M0 478 (8 * M0 467 11 + mf yk)).toNat by omega] at z
    exact z
  have tot : M 442 13 + CA yk + 1 ≤ 319 := num_tot hC cnt gsu gst aE
  have tov : M0 474 (8 * M0 467 11 + mf yk) ≤ CA yk := num_tov cay nsn ffb.2.1 f3' fgv'
  have A1 : 32 - dp yk ≤ N := by rw [dpy]; exact num_a1 hdN
  have A2 : K + 1 = dp yk := by rw [dpy, hK]
  have A3 : 0 ≤ deep + lv ∧ deep + lv ≤ 4 * (K + 1) := num_a3 hdp lvb
  have A6 : M 442 13 + M0 474 (8 * M0 467 11 + mf yk) - (60 * M0 467 11 + M0 475 (8 * M0 467 11 + mf yk)) + (60 * M0 467 11 + M0 475 (8 * M0 467 11 + mf yk) + M0 476 (8 * M0 467 11 + mf yk)) + nsum (kgs r6 fc CA yk) (M0 478 (8 * M0 467 11 + mf yk)).toNat ≤ 319 := num_a6 cay f3' tot
  have A7 : ∀ w : Int, w = M 442 13 + M0 474 (8 * M0 467 11 + mf yk) - (60 * M0 467 11 + M0 475 (8 * M0 467 11 + mf yk)) + (60 * M0 467 11 + M0 475 (8 * M0 467 11 + mf yk) + M0 476 (8 * M0 467 11 + mf yk) - M0 479 (8 * M0 467 11 + mf yk)) + nsum (kgs r6 fc CA yk) (M0 478 (8 * M0 467 11 + mf yk)).toNat → w = M 442 13 + CA yk := fun w h => num_a7 h cay
  have A9 : M 442 13 + CA yk + 1 = C + (a + 1) + nsum (kgs r6 fc CA x) (SN (a + 1) - (M0 477 (8 * M0 467 11 + mf x))).toNat := num_a9 cnt gsu
  have vb : 0 ≤ M 441 1 ∧ M 441 1 ≤ 400 := num_vb i0.2.2.2.2.2.2 dsm.1 dsm.2.1 tot (hyt.2.2.2.2.2.1.1)
  have bb : 0 ≤ base ∧ base ≤ 400 := num_bb i0.2.2.2.2.2.1 bv vb hfu.1.2.1
  have n3' : M 442 13 + M0 474 (8 * M0 467 11 + mf yk) < 320 := num_n3 tot tov
  obtain ⟨⟨y1, y2, y3⟩, _, _, _, _, y11⟩ := id q2
  obtain ⟨j1, j2, j3, j4, j5, j6, j7⟩ := id i0
  have fr := j1.1
  have g3 := (hfu.2.1 a aF aE).2.1.1
  have xt : 0 ≤ M0 481 a ∧ M0 481 a ≤ 8 ∧ M0 481 a + base < M 441 1 := num_xt (g3.2.2.2.1 (by rw [c6']; decide)) bv y11.1
  have xg := g3.2.2.2.2 c6'
  rw [← mfy'] at xg
  obtain ⟨τ1, to1, top1, KKs, pr1, ⟨n109, n110⟩, rows1, rows2, ⟨le1, le2⟩⟩ := rOpenR hpg (num_ah kb.1 kb.2.1) j2 j3 j4 nn (num_le bb) (num_le vb) hb Kb dsm nb kb.2.2.2.2.1 ⟨kb.2.2.1, kb.2.2.2.1⟩ y2 ⟨y11.1, y11.2.2⟩ c6' t01 (htr x hx).2.2.2.2.1.1 (htr x hx).2.2.2.2.1.2 mx8 fcb s486b ⟨fsb.1, fsb.2.1⟩ plE ykb hyt.2.2.2.2.1.1 my8 ⟨vpb.1, vpb.2.1, num_38 vpb.2.2⟩ ffb (by rw [kd1]; exact kk) n3'
  have lft1 := rLeft_same (τ' := τ1) lft le1 le2
  have inv1 : ∀ M1 : Nat → Int → Int, cMany M M1 (M0 474 (8 * M0 467 11 + mf yk)) (deep + lv) bq (fun xv => if xv < M0 473 (8 * M0 467 11 + mf yk) then shf (opx (M0 482 a) (M0 483 a) (M0 484 a) xv) base else 0) → rInv M0 τ0 M1 τ1 (K + 1) yk (60 * M0 467 11 + M0 475 (8 * M0 467 11 + mf yk)) (60 * M0 467 11 + M0 475 (8 * M0 467 11 + mf yk) + M0 476 (8 * M0 467 11 + mf yk)) (M 441 1) (deep + lv) 0 ∧ ySegE τ1 (okR M1 τ1 nF TO) (deep + lv) bq (120 + M 442 13) (120 + M1 442 13) ∧ ∀ xq : Int, 0 ≤ xq → opnd (M1 441 1) (if xq < M0 473 (8 * M0 467 11 + mf yk) then shf (opx (M0 482 a) (M0 483 a) (M0 484 a) xq) base else 0) := fun M1 cm =>
    rOpenM (a := a) j1 j2 j3 nn j6 ⟨j7.1, num_aj j7.2⟩ Kb.1 A3.1 dsm.2.2.2 vpb.1 n3' top1 pr1 n109 n110 rows1 rows2 cm bv vpb.2.2 xg.2.2.2.2.1 xg.2.2.2.2.2.1 xg.2.2.2.2.2.2
  have lE : M0 479 (8 * M0 467 11 + mf yk) = 1 → 60 * M0 467 11 + M0 475 (8 * M0 467 11 + mf yk) ≤ 60 * M0 467 11 + M0 475 (8 * M0 467 11 + mf yk) + M0 476 (8 * M0 467 11 + mf yk) - 1 ∧ 60 * M0 467 11 + M0 475 (8 * M0 467 11 + mf yk) + M0 476 (8 * M0 467 11 + mf yk) - 1 < 60 * M0 467 11 + M0 475 (8 * M0 467 11 + mf yk) + M0 476 (8 * M0 467 11 + mf yk) := fun z => num_lE (fgv' z).1
  have g0 : M0 479 (8 * M0 467 11 + mf yk) = 0 → ygiv M0 (mf yk) = -2 := fun z => by unfold ygiv; rw [if_pos z]
  have g1' : M0 479 (8 * M0 467 11 + mf yk) = 1 → ¬ ygiv M0 (mf yk) = -2 ∧ ygiv M0 (mf yk) = M0 482 (60 * M0 467 11 + M0 475 (8 * M0 467 11 + mf yk) + M0 476 (8 * M0 467 11 + mf yk) - 1) ∧ opnd (M0 474 (8 * M0 467 11 + mf yk)) (ygiv M0 (mf yk)) := fun z => by
    have w := fgv' z
    have e : ygiv M0 (mf yk) = M0 482 (60 * M0 467 11 + M0 475 (8 * M0 467 11 + mf yk) + M0 476 (8 * M0 467 11 + mf yk) - 1) := by unfold ygiv; rw [if_neg (by rw [z]; decide)]
    rw [e]
    exact ⟨w.2.2, rfl, (fl' _ (lE z).1 (lE z).2).2.1.1.2.1 (by rw [w.2.1]; decide)⟩
  have gvb : -1000 ≤ ygiv M0 (mf yk) ∧ ygiv M0 (mf yk) ≤ 1000 := by
    rcases f3' with z | z
    · rw [g0 z]; decide
    · exact num_gv (g1' z).2.2
  have u1 := (htr x hx).2.1.1
  have u5 : M0 67 (cf x) = M0 475 (8 * M0 467 11 + mf x) := (htr x hx).2.1.2.2.2.2.1
  have u6 : M0 68 (cf x) = M0 476 (8 * M0 467 11 + mf x) := (htr x hx).2.1.2.2.2.2.2.1
  have u7 : M0 69 (cf x) = M0 477 (8 * M0 467 11 + mf x) := (htr x hx).2.1.2.2.2.2.2.2.1
  have u1' := hyt.2.1.1
  have u3' : M0 65 (cf yk) = M0 473 (8 * M0 467 11 + mf yk) := hyt.2.1.2.2.1
  have u4' : M0 66 (cf yk) = M0 474 (8 * M0 467 11 + mf yk) := hyt.2.1.2.2.2.1
  have u8' : M0 71 (cf yk) = ygiv M0 (mf yk) := hyt.2.1.2.2.2.2.2.2.2
  have y1 : M0 84 (a - 60 * M0 467 11) = lv := y1
  have y3 : 0 < lv → M0 85 (a - 60 * M0 467 11) = br := y3
  have ys' := hfy.2.2.1
  have cc := hcc (a - 60 * M0 467 11) kb.1 (num_cc (hfu.2.1 a aF aE).1)
  rw [show a - 60 * M0 467 11 + 60 * M0 467 11 = a from num_cn] at cc
  obtain ⟨c1, c2, c3, c4, c5, c6, _, _, _⟩ := cc
  have hr3 : ∀ i : Int, 0 ≤ i ∧ i < 320 → M (zcall i) 3 = dp i := fun i hi => by rw [fr _ (by have := zcall_in hi; omega)]; exact h3 i hi
  have hr5 : ∀ i : Int, 0 ≤ i ∧ i < 320 → M (zcall i) 5 = fc i := fun i hi => by rw [fr _ (by have := zcall_in hi; omega)]; exact h5 i hi
  have hr6 : ∀ i : Int, 0 ≤ i ∧ i < 320 → M (zcall i) 6 = r6 i := fun i hi => by rw [fr _ (by have := zcall_in hi; omega)]; exact h6 i hi
  have hr1 : ∀ i : Int, 0 ≤ i ∧ i < 320 → M (zcall i) 1 = cf i := fun i hi => by rw [fr _ (by have := zcall_in hi; omega)]; exact h1 i hi
  have eB : (if lv = 0 then b0 else M 85 (a - 60 * M0 467 11)) = bq := by
    by_cases z : lv = 0
    · rw [if_pos z]; exact (hq0 z).symm
    · rw [if_neg z, fr 85 (by decide), y3 (num_pos lv0 z)]; exact (hq1 z).symm
  have m1 := congrFun (fr 78 (by decide)) (a - 60 * M0 467 11)
  have m3 := congrFun (fr 80 (by decide)) (a - 60 * M0 467 11)
  have m4 := congrFun (fr 81 (by decide)) (a - 60 * M0 467 11)
  have m5 := congrFun (fr 82 (by decide)) (a - 60 * M0 467 11)
  have m6 := congrFun (fr 83 (by decide)) (a - 60 * M0 467 11)
  have m7 := congrFun (fr 84 (by decide)) (a - 60 * M0 467 11)
  rw [c1] at m1
  rw [c3] at m3
  rw [c4] at m4
  rw [c5] at m5
  rw [c6] at m6
  rw [y1] at m7
  have n5 := congrFun (fr 67 (by decide)) (cf x)
  have n6 := congrFun (fr 68 (by decide)) (cf x)
  have n7 := congrFun (fr 69 (by decide)) (cf x)
  rw [u5] at n5
  rw [u6] at n6
  rw [u7] at n7
  have n3y := congrFun (fr 65 (by decide)) (cf yk)
  have n4y := congrFun (fr 66 (by decide)) (cf yk)
  rw [u3'] at n3y
  rw [u4'] at n4y
  have o2 := num_o y11.1
  have o3 := num_o2 y11.2.2.1
  have o4 := num_o2 y11.2.2.2.1
  have o5 := num_o2 y11.2.2.2.2
  have H2 := @C_op_62 d P M Q (fun M' => ∃ τ' : Nat → Int → Int, rPost U nF TO M0 τ0 M τ M' τ' K x (a + 1) (60 * M0 467 11 + M0 475 (8 * M0 467 11 + mf x) + M0 476 (8 * M0 467 11 + mf x)) base deep lv bq ∧ M' 442 13 = C + (a + 1) + nsum (kgs r6 fc CA x) (SN (a + 1) - (M0 477 (8 * M0 467 11 + mf x))).toNat ∧ rLeft τ' r0 (Lb ++ tkids r6 lf (fun e => [e]) (fc x) (SN (a + 1) - (M0 477 (8 * M0 467 11 + mf x))).toNat)) x base deep b0 (cf x) (a - 60 * M0 467 11) dp hr3 fc hr5 r6 hr6 x9 x10 x11
  rw [m1, m6, m7, n5, n6, n7, eB, ek, plE] at H2
  refine H2 t01 u1 fb kb.2.2.2.2.2 ⟨kb.1, kb.2.1⟩ ⟨fcb, num_s s486b, ⟨fsb.1, fsb.2.1⟩⟩ (num_l5 lvb) (num_d3 dsm) c6' ykb (by rw [r1']; decide) ?_ (fun M' ⟨τ', po, cn, lf'⟩ x9 x10 x11 => kt M' τ' po cn lf' x9 x10 x11)
  have H3 := @C_wo_62 d P M (fun M' => ∃ M1 τ1' : Nat → Int → Int, cMany M M1 (M0 474 (8 * M0 467 11 + mf yk)) (deep + lv) bq (fun xv => if xv < M0 473 (8 * M0 467 11 + mf yk) then shf (opx (M0 482 a) (M0 483 a) (M0 484 a) xv) base else 0) ∧ rPost U nF TO M0 τ0 M1 τ1 M' τ1' (K + 1) yk (60 * M0 467 11 + M0 475 (8 * M0 467 11 + mf yk) + M0 476 (8 * M0 467 11 + mf yk) - M0 479 (8 * M0 467 11 + mf yk)) (60 * M0 467 11 + M0 475 (8 * M0 467 11 + mf yk) + M0 476 (8 * M0 467 11 + mf yk)) (M 441 1) (deep + lv) 0 bq ∧ M' 442 13 = M 442 13 + CA yk ∧ rLeft τ1' r0 (Lb ++ tkids r6 lf (fun e => [e]) (fc x) (SN a - (M0 477 (8 * M0 467 11 + mf x))).toNat ++ lf yk)) (fun M' => ∃ τ' : Nat → Int → Int, rPost U nF TO M0 τ0 M τ M' τ' K x (a + 1) (60 * M0 467 11 + M0 475 (8 * M0 467 11 + mf x) + M0 476 (8 * M0 467 11 + mf x)) base deep lv bq ∧ M' 442 13 = C + (a + 1) + nsum (kgs r6 fc CA x) (SN (a + 1) - (M0 477 (8 * M0 467 11 + mf x))).toNat ∧ rLeft τ' r0 (Lb ++ tkids r6 lf (fun e => [e]) (fc x) (SN (a + 1) - (M0 477 (8 * M0 467 11 + mf x))).toNat)) yk (a - 60 * M0 467 11) base (deep + lv) bq cf hr1
  rw [m3, m4, m5, n3y, n4y] at H3
  refine H3 ykb ⟨kb.1, kb.2.1⟩ (num_le bb) u1' vpb.1 (num_d4 dsm) (num_le vb) ⟨nn, n3'⟩ o3 o4 o5 j5 cp (fun M1 cm Q' hq => ?_) (fun M' hk => ?_)
  · obtain ⟨i1, _⟩ := inv1 M1 cm
    obtain ⟨_, ⟨_, m3', _, m5'⟩, _, _, m7', _⟩ := id cm
    refine hN yk (K + 1) (M 441 1) (deep + lv) bq (M 442 13 + M0 474 (8 * M0 467 11 + mf yk) - (60 * M0 467 11 + M0 475 (8 * M0 467 11 + mf yk))) M1 τ1 (Lb ++ tkids r6 lf (fun e => [e]) (fc x) (SN a - (M0 477 (8 * M0 467 11 + mf x))).toNat) r0 ny yn0 A1 A2 A3 i1 m7' (by rw [m3']; exact Int.le_refl _) (by rw [m5']; exact num_cf) A6 lft1 len P Q' (fun M' τ' p1' p2' p3' => hq M' ⟨M1, τ', cm, p1', A7 _ p2', p3'⟩)
  · obtain ⟨M1, τ1', cm, po1, cn1, lf1⟩ := hk
    obtain ⟨i1, ys1, gq1⟩ := inv1 M1 cm
    obtain ⟨i2, _, cp2, _⟩ := id po1
    obtain ⟨i2a, _, _, _, i2e, _⟩ := id i2
    rw [show deep + lv + 0 = deep + lv from Int.add_zero _] at cp2
    have gP : M' 71 (cf yk) = ygiv M0 (mf yk) := by rw [i2a.1 71 (by decide)]; exact u8'
    have gT : M' 79 (a - 60 * M0 467 11) = M0 481 a := by rw [i2a.1 79 (by decide)]; exact c2
    have nb' : M' 442 13 < 320 := by rw [cn1]; exact num_nb tot
    rw [gP, gT]
    refine ⟨⟨gvb, o2, ⟨i2e.1, nb'⟩, i2e, cp2⟩, fun M2 hp2 => ?_⟩
    obtain ⟨τ2, po, e1, e2⟩ := rOpenE (G := ygiv M0 (mf yk)) (GI := M0 479 (8 * M0 467 11 + mf yk)) hpg (num_ah kb.1 kb.2.1) (fun z => num_eh (fl' _ (lE z).1 (lE z).2).1 hn1) Kb ⟨dsm.1, dsm.2.1, dsm.2.2.2⟩ nn (num_le bb) j7 ⟨kb.2.2.1, kb.2.2.2.1⟩ xt vpb.1 to1 KKs pr1 cm ys1 po1 nb' f3' g0 (fun z => by
      obtain ⟨a1, a2, a3⟩ := g1' z
      obtain ⟨lv', br', _, yE⟩ := ySeg_at' ys'.2.2 (lE z).1 (lE z).2
      have w := fgv' z
      exact ⟨a1, a2, a3, num_e1 hb (fl' _ (lE z).1 (lE z).2).1 hn1, w.2.1, num_l yE.1.2.1 (yE.2.2.1 w.2.1).1, ⟨num_o1 yE.2.2.2.2.2.1, num_o2 yE.2.2.2.2.2.2.2.1, num_o2 yE.2.2.2.2.2.2.2.2.1, num_o2 yE.2.2.2.2.2.2.2.2.2⟩, yE.2.1.2.1⟩) gq1 (num_h4 hdp lvb) (fun z => num_hU (hU ((htr x hx).2.2.1.2.2.mpr (by rw [← hK]; exact z))) nn cnt gsu gst aE (fun g e => by have w := (hfu.2.2.2 g).2.1; rw [← e, c6'] at w; exact absurd w (by decide)) cn1) hp2
    refine ⟨τ2, po, ?_, ?_⟩
    · rw [hp2.2.1.2.2, cn1]; exact A9
    · rw [tks, ← List.append_assoc]
      exact rLeft_same lf1 e1 e2

