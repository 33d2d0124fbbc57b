/-! Calls: the steps are sound. -/
theorem zOKc {l : Launch} {G : zG} {mi pc mj n kd : Nat} (h : zCallOKc l G mi pc mj n) (hkd : kd < 13) : zCallOK l G mi pc mj n kd := by
  intro d p e R s m args below meth c H locs la uc us a rest σ Q I FT Rp hz hla han hrv hrest hc1 hc2 hM
  have hb : Nat.beq kd 99 = false := by
    cases hb : Nat.beq kd 99 with
    | false => rfl
    | true => have := Nat.eq_of_beq_eq_true hb; omega
  unfold zrecv at hrv
  rw [hb] at hrv
  obtain _ | ⟨x | x | x, As⟩ := a
  · cases hrv
  · cases hrv
  · cases hrv
  · have hrv : zis zshp σ.2.2.2 x kd = true := hrv
    obtain ⟨h16, -⟩ := zobj_at (G := G) hrv hkd
    exact h d p e R s m args below meth c H locs la uc us _ rest σ Q x As rfl (by omega) I FT Rp hz hla han hrest hc1 hc2 hM
theorem s_inv {l : Launch} {G : zG} {mi pc nx mj n kd rt mx : Nat} (hC : zCallOK l G mi pc mj n kd) (hmx : zmx mj = mx) (hmj : zmc mj = (0, 0)) (hy : plainFor (zyn mj) = true) (hn : pc + 3 = nx) : zSnd l G mi pc (o_inv zshp nx mj n kd rt mx) := by
  subst hn
  subst hmx
  intro d uc us call k0 Q ls st σ h hcl hk0 p e R s m args below meth c H locs la I FT Rp S E V U1 U2 ok okl
  have h1 := h.1
  unfold zchk at h1
  rw [Bool.and_eq_true, Bool.and_eq_true, Bool.and_eq_true] at h1
  obtain ⟨b1, b2, b3, b4⟩ := h1
  have b1 := Nat.le_of_ble_eq_true b1
  have b2 := Nat.le_of_ble_eq_true b2
  have b4 := Nat.le_of_ble_eq_true b4
  obtain ⟨d', hd', hgo⟩ := hcl _ _ _ _ h.2
  subst hd'
  have hfc := FT.1
  have hfs := FT.2.1
  refine zsz Rp S E fun hz hz2 => ?_
  have hM := zMet hgo hy b4 (fun v hv => ok v (List.mem_of_mem_take (List.mem_reverse.mp hv)))
  have hrun := hC d' p e R s m args below meth c H locs la uc us (st.take n).reverse ((st.drop n).map (zcv G)) σ _ I FT Rp hz V.1 (by rw [List.length_reverse, List.length_take]; omega) b3 (by rw [zsum (zrep_vf Rp)]; exact b2) (by rw [hmj]; dsimp only; omega) (by rw [hmj]; dsimp only; omega) hM
  have est : st.map (zcv G) = ((st.take n).reverse.map (zcv G)).reverse ++ (st.drop n).map (zcv G) := by
    rw [← List.map_reverse, List.reverse_reverse, ← List.map_append, List.take_append_drop]
  rw [est]
  intro T hT X
  obtain ⟨v, st₀, t, T', L, h0, X', hL, e1, e2, ⟨⟨r, σ', hv, hq, hrok, hRep, hs1, hs2⟩, hF1, hF2⟩, hst⟩ := hrun T hT X
  have hv : v = r.map (zcv G) := Outcome.returned.inj hv
  subst hv
  rw [h0] at hF1 hF2 hs2
  have S1 : va_S (zA G) s.heap T'.heap (locs ++ L) := ⟨Nat.le_trans S.1 (by rw [e1]; exact hF1), fun q q1 q2 => by rw [e1, hF2 q (Nat.lt_of_lt_of_le q1 S.1) q2]; exact S.2.1 q q1 q2, fun q hq => (List.mem_append.mp hq).elim (S.2.2 q) (hL q)⟩
  rw [← e1] at hRep hs1 hs2
  have Rp1 : zRep G s T'.heap σ' := ⟨Rp.1, hRep.2.1, hRep.2.2.1, hRep.2.2.2.1, hRep.2.2.2.2.1, zRO_kept Rp.2.2.2.2.2.2.2 S S1 Rp.2.2.2.2.2.1, hRep.2.2.2.2.2.2.1, Rp.2.2.2.2.2.2.2⟩
  have okr : ∀ v ∈ st.drop n, zok v := fun v hv => ok v (List.mem_of_mem_drop hv)
  rw [hmj] at hs2 X'
  dsimp only at hs2 X'
  have E1 : s.heap.size + uc + 16 = G.1.1 + σ'.2.2.2 := by omega
  unfold zback at hq
  split at hq
  · have g := hk0 _ _ _ _ _ _ hq p e R s m args below meth c T'.heap (locs ++ L) la I FT Rp1 S1 E1 V U1 U2 okr okl
    obtain ⟨t2, a1, b1⟩ := g T' rfl X'
    exact ⟨t2, hst t2 a1, b1⟩
  · have g := hk0 _ _ _ _ _ _ hq p e R s m args below meth c T'.heap (locs ++ L) la I FT Rp1 S1 E1 V U1 U2 (zc1 (hrok _ rfl) okr) okl
    obtain ⟨t2, a1, b1⟩ := g T' rfl X'
    exact ⟨t2, hst t2 a1, b1⟩
  · have g := hk0 _ _ _ _ _ _ hq p e R s m args below meth c T'.heap (locs ++ L) la I FT Rp1 S1 E1 V U1 U2 (zc1 (hrok _ rfl) okr) okl
    obtain ⟨t2, a1, b1⟩ := g T' rfl X'
    exact ⟨t2, hst t2 a1, b1⟩
  · exact False.elim hq
theorem s_inw {l : Launch} {G : zG} {mi pc nx mj n kd rt mx mcj msj mc ms : Nat} (hC : zCallOK l G mi pc mj n kd) (hmx : zmx mj = mx) (hmj : zmc mj = (mcj, msj)) (hm : zmc mi = (mc, ms)) (hy : plainFor (zyn mj) = true) (hn : pc + 3 = nx) : zSnd l G mi pc (o_inw zshp nx mj n kd rt mx mcj msj mc ms) := by
  subst hn
  subst hmx
  intro d uc us call k0 Q ls st σ h hcl hk0 p e R s m args below meth c H locs la I FT Rp S E V U1 U2 ok okl
  have k1 := Nat.le_of_ble_eq_true h.2.1
  have k2 := Nat.le_of_ble_eq_true h.2.2.1
  have h1 := h.1
  unfold zchk at h1
  rw [Bool.and_eq_true, Bool.and_eq_true, Bool.and_eq_true] at h1
  obtain ⟨b1, b2, b3, b4⟩ := h1
  have b1 := Nat.le_of_ble_eq_true b1
  have b2 := Nat.le_of_ble_eq_true b2
  have b4 := Nat.le_of_ble_eq_true b4
  obtain ⟨d', hd', hgo⟩ := hcl _ _ _ _ h.2.2.2
  subst hd'
  have hfc := FT.1
  have hfs := FT.2.1
  refine zsz Rp S E fun hz hz2 => ?_
  have hM := zMet hgo hy b4 (fun v hv => ok v (List.mem_of_mem_take (List.mem_reverse.mp hv)))
  have hrun := hC d' p e R s m args below meth c H locs la uc us (st.take n).reverse ((st.drop n).map (zcv G)) σ _ I FT Rp hz V.1 (by rw [List.length_reverse, List.length_take]; omega) b3 (by rw [zsum (zrep_vf Rp)]; exact b2) (by rw [hm] at hfc; rw [hmj]; dsimp only at hfc ⊢; omega) (by rw [hm] at hfs; rw [hmj]; dsimp only at hfs ⊢; omega) hM
  have est : st.map (zcv G) = ((st.take n).reverse.map (zcv G)).reverse ++ (st.drop n).map (zcv G) := by
    rw [← List.map_reverse, List.reverse_reverse, ← List.map_append, List.take_append_drop]
  rw [est]
  intro T hT X
  obtain ⟨v, st₀, t, T', L, h0, X', hL, e1, e2, ⟨⟨r, σ', hv, hq, hrok, hRep, hs1, hs2⟩, hF1, hF2⟩, hst⟩ := hrun T hT X
  have hv : v = r.map (zcv G) := Outcome.returned.inj hv
  subst hv
  rw [h0] at hF1 hF2 hs2
  have S1 : va_S (zA G) s.heap T'.heap (locs ++ L) := ⟨Nat.le_trans S.1 (by rw [e1]; exact hF1), fun q q1 q2 => by rw [e1, hF2 q (Nat.lt_of_lt_of_le q1 S.1) q2]; exact S.2.1 q q1 q2, fun q hq => (List.mem_append.mp hq).elim (S.2.2 q) (hL q)⟩
  rw [← e1] at hRep hs1 hs2
  have Rp1 : zRep G s T'.heap σ' := ⟨Rp.1, hRep.2.1, hRep.2.2.1, hRep.2.2.2.1, hRep.2.2.2.2.1, zRO_kept Rp.2.2.2.2.2.2.2 S S1 Rp.2.2.2.2.2.1, hRep.2.2.2.2.2.2.1, Rp.2.2.2.2.2.2.2⟩
  have okr : ∀ v ∈ st.drop n, zok v := fun v hv => ok v (List.mem_of_mem_drop hv)
  rw [hmj] at hs2 X'
  dsimp only at hs2 X'
  have E1 : s.heap.size + (uc + mcj) + 16 = G.1.1 + σ'.2.2.2 := by omega
  unfold zback at hq
  split at hq
  · have g := hk0 _ _ _ _ _ _ hq p e R s m args below meth c T'.heap (locs ++ L) la I FT Rp1 S1 E1 V (by rw [hm]; exact k1) (by rw [hm]; exact k2) okr okl
    obtain ⟨t2, a1, b1⟩ := g T' rfl X'
    exact ⟨t2, hst t2 a1, b1⟩
  · have g := hk0 _ _ _ _ _ _ hq p e R s m args below meth c T'.heap (locs ++ L) la I FT Rp1 S1 E1 V (by rw [hm]; exact k1) (by rw [hm]; exact k2) (zc1 (hrok _ rfl) okr) okl
    obtain ⟨t2, a1, b1⟩ := g T' rfl X'
    exact ⟨t2, hst t2 a1, b1⟩
  · have g := hk0 _ _ _ _ _ _ hq p e R s m args below meth c T'.heap (locs ++ L) la I FT Rp1 S1 E1 V (by rw [hm]; exact k1) (by rw [hm]; exact k2) (zc1 (hrok _ rfl) okr) okl
    obtain ⟨t2, a1, b1⟩ := g T' rfl X'
    exact ⟨t2, hst t2 a1, b1⟩
  · exact False.elim hq
