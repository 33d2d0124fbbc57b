/-! Fields and rows. -/
theorem zis_of {nx c kd : Nat} (h : zis zshp nx c kd = true) : (zshp c).1 = kd ∧ c < nx := by
  unfold zis at h
  rw [Bool.and_eq_true] at h
  refine ⟨Nat.eq_of_beq_eq_true h.1, ?_⟩
  have h2 := h.2
  unfold Nat.blt at h2
  exact Nat.le_of_ble_eq_true h2
theorem zshp_low : ∀ c, c < 16 → 13 ≤ (zshp c).1 := by decide +kernel
theorem zshp_i : ∀ c, c < 16 → (zshp c).1 = 14 → 1 ≤ c ∧ c < 5 := by decide +kernel
theorem zshp_b : ∀ c, c < 16 → (zshp c).1 = 13 → 10 ≤ c ∧ c < 15 := by decide +kernel
theorem zshp_z : ∀ c, c < 16 → ¬ (zshp c).1 = 16 ∧ ¬ (zshp c).1 = 15 ∧ ¬ (zshp c).1 = 17 := by decide +kernel
theorem zshp_all : zshpL.all (fun r => r.all (fun q => decide (q.2 ≤ 20000))) = true := by decide +kernel
theorem zshp_le (c : Nat) : (zshp c).2 ≤ 20000 := by
  unfold zshp
  rw [List.getD_eq_getElem?_getD, List.getD_eq_getElem?_getD]
  have h := List.all_eq_true.mp zshp_all
  cases h1 : zshpL[c / 32]? with
  | none => simp
  | some r =>
    have h2 := List.all_eq_true.mp (h r (List.mem_of_getElem? h1))
    cases h3 : r[c % 32]? with
    | none => simp [h3]
    | some q =>
      have h4 := h2 q (List.mem_of_getElem? h3)
      simpa [h3] using h4
theorem zcell_o {G : zG} {σ : zM} {c ci : Nat} (h : (zshp c).1 = ci) (hc : ci < 13) : zcell G σ c = .inr (ci, zfs G σ c ci) := by
  unfold zcell
  rw [h, if_pos hc]
theorem zcell_i {G : zG} {σ : zM} {c kd : Nat} (h : (zshp c).1 = kd) (hc : kd = 13 ∨ kd = 14 ∨ kd = 16) : zcell G σ c = .inl (G.2.2.2.2 kd, (zshp c).2, .inl (fun j => Int32.ofInt (σ.2.2.1 c j))) := by
  unfold zcell
  rw [h, if_neg (by omega), if_neg (by omega), if_neg (by omega)]
theorem zcell_j {G : zG} {σ : zM} {c : Nat} (h : (zshp c).1 = 15) : zcell G σ c = .inl (G.2.2.2.2 15, (zshp c).2, .inr (.inl (fun j => Int64.ofInt (σ.2.2.1 c j)))) := by
  unfold zcell
  rw [h, if_neg (by omega), if_pos rfl]
theorem zcell_r {G : zG} {σ : zM} {c : Nat} (h : (zshp c).1 = 17) : zcell G σ c = .inl (G.2.2.2.2 17, (zshp c).2, .inr (.inr (.inr (.inr (fun j => zrf G (σ.1 c j)))))) := by
  unfold zcell
  rw [h, if_neg (by omega), if_neg (by omega), if_pos rfl]
theorem zcell_congr {G : zG} {σ σ' : zM} {c : Nat} (h1 : ∀ k, σ'.1 c k = σ.1 c k) (h2 : ∀ k, σ'.2.1 c k = σ.2.1 c k) (h3 : ∀ k, σ'.2.2.1 c k = σ.2.2.1 c k) : zcell G σ' c = zcell G σ c := by
  unfold zcell zfs zfv
  simp only [h1, h2, h3]
theorem zobj_at {G : zG} {σ : zM} {c ci : Nat} (h : zis zshp σ.2.2.2 c ci = true) (hci : ci < 13) : 16 ≤ c ∧ c < σ.2.2.2 ∧ (zws G σ)[c - 16]? = some (zloc G c, .inr (ci, zfs G σ c ci)) ∧ (zshp c).1 = ci := by
  obtain ⟨h1, h2⟩ := zis_of h
  have h3 : 16 ≤ c := by
    rcases Nat.lt_or_ge c 16 with q | q
    · have := zshp_low c q
      omega
    · exact q
  refine ⟨h3, h2, ?_, h1⟩
  rw [zws_at h3 h2, zcell_o h1 hci]
theorem zloc_cv {G : zG} {c : Nat} (h : ¬ c = 15) : zcv G (vR c) = .ref (zloc G c) := by
  show (if c = 15 then G.2.2.1 else Value.ref (zloc G c)) = _
  rw [if_neg h]
theorem zws_D (G : zG) (σ : zM) : va_D (zA G) (zws G σ) := by
  have key : ∀ (k : Nat) (q : Nat × va_E), (zws G σ)[k]? = some q → q.1 = G.1.1 + k := fun k q hq => by
    unfold zws at hq
    rw [List.getElem?_map] at hq
    cases hr : (List.range (σ.2.2.2 - 16))[k]? with
    | none => rw [hr] at hq; cases hq
    | some j =>
      rw [hr] at hq
      have hj := List.getElem?_eq_some_iff.mp hr
      obtain ⟨h1, h2⟩ := hj
      rw [List.getElem_range] at h2
      cases hq
      rw [← h2]
  exact ⟨fun i j p q hp hq e => by have h1 := key i p hp; have h2 := key j q hq; omega, fun k q hq => by rw [key k q hq]; show G.1.1 ≤ _; omega⟩
theorem zRO_kept {G : zG} {s : State} {H H1 : Heap} {locs locs1 : List Loc} (hB : G.1.1 ≤ s.heap.size) (S : va_S (zA G) s.heap H locs) (S1 : va_S (zA G) s.heap H1 locs1) (h : zRO G s H) : zRO G s H1 := by
  have hq : ∀ a : Nat, a < G.1.1 → H1[a]? = H[a]? := fun a ha => by
    have hn : ¬ zA G a := Nat.not_le.mpr ha
    rw [S1.2.1 a (by omega) hn, S.2.1 a (by omega) hn]
  have hq2 : ∀ a : Nat, a < H.size → ¬ zA G a → H1[a]? = H[a]? := fun a _ hn => hq a (Nat.not_le.mp hn)
  obtain ⟨h1, h2, h3, h4, h5, h6, h7, h8, h9, h10, h11, h12, h13, h14⟩ := h
  exact ⟨h1, h2.kept (hq _ (h1 1 (by omega))), h3, fun c a b => (h4 c a b).kept (hq _ (h1 c (by omega))), h5.kept hq2, h6.kept hq2, h7.kept hq2, h8.kept hq2, h9.kept hq2, h10, h11.kept hq2, h12, h13, by rw [hq _ (h1 4 (by omega))]; exact h14⟩
theorem zws_set {G : zG} {σ σ' : zM} {c : Nat} {e : va_E} (h1 : 16 ≤ c) (h2 : c < σ.2.2.2) (hn : σ'.2.2.2 = σ.2.2.2) (ho : ∀ c', ¬ c' = c → zcell G σ' c' = zcell G σ c') (he : zcell G σ' c = e) : (zws G σ).set (c - 16) (zloc G c, e) = zws G σ' := by
  have hl : zloc G c = G.1.1 + (c - 16) := by unfold zloc; rw [if_neg (by omega)]
  unfold zws
  rw [hn]
  refine List.ext_getElem? fun j => ?_
  by_cases hj : j = c - 16
  · subst hj
    rw [List.getElem?_set_self (by rw [List.length_map, List.length_range]; omega), List.getElem?_map, List.getElem?_range (by omega)]
    show _ = some (G.1.1 + (c - 16), zcell G σ' (16 + (c - 16)))
    rw [show 16 + (c - 16) = c by omega, he, hl]
  · rw [List.getElem?_set_ne (Ne.symm hj), List.getElem?_map, List.getElem?_map]
    cases hr : (List.range (σ.2.2.2 - 16))[j]? with
    | none => rfl
    | some i =>
      obtain ⟨a, b⟩ := List.getElem?_eq_some_iff.mp hr
      rw [List.getElem_range] at b
      subst b
      show some (G.1.1 + j, zcell G σ (16 + j)) = some (G.1.1 + j, zcell G σ' (16 + j))
      rw [ho (16 + j) (by omega)]
/-- a store in one cell -/
theorem zRep_set {G : zG} {s : State} {H H1 : Heap} {locs locs1 : List Loc} {σ σ' : zM} {c : Nat} {e : va_E} (Rp : zRep G s H σ) (S : va_S (zA G) s.heap H locs) (S1 : va_S (zA G) s.heap H1 locs1) (h1 : 16 ≤ c) (h2 : c < σ.2.2.2) (hP : va_P G.2.2.2.1 zcls ((zws G σ).set (c - 16) (zloc G c, e)) H1) (hn : σ'.2.2.2 = σ.2.2.2)
    (hF : ∀ c', ¬ c' = c → ∀ k, σ'.1 c' k = σ.1 c' k) (hR : ∀ c', ¬ c' = c → ∀ k, σ'.2.1 c' k = σ.2.1 c' k) (hM : ∀ c', ¬ c' = c → ∀ k, σ'.2.2.1 c' k = σ.2.2.1 c' k) (he : zcell G σ' c = e) (hr : ∀ k, 0 ≤ k → zin (zty c k) (σ'.2.2.1 c k)) : zRep G s H1 σ' := by
  obtain ⟨a1, a2, a3, a4, a5, a6, a7, a8⟩ := Rp
  rw [zws_set h1 h2 hn (fun c' hc => zcell_congr (hF c' hc) (hR c' hc) (hM c' hc)) he] at hP
  refine ⟨a1, hP, by rw [hn]; exact a3, fun c' k hk => ?_, fun c' hc' => ?_, zRO_kept a8 S S1 a6, fun c' hc' k => ?_, a8⟩
  · by_cases hc : c' = c
    · rw [hc]; exact hr k hk
    · rw [hM c' hc]; exact a4 c' k hk
  · rw [hn] at hc'
    have hc : ¬ c' = c := by omega
    exact ⟨fun k => by rw [hF c' hc]; exact (a5 c' hc').1 k, fun k => by rw [hR c' hc]; exact (a5 c' hc').2.1 k, fun k => by rw [hM c' hc]; exact (a5 c' hc').2.2 k⟩
  · rw [hM c' (by omega)]; exact a7 c' hc' k
theorem zfs_at {G : zG} {σ : zM} {c ci k : Nat} (h : k < zfn ci) : (zfs G σ c ci)[k]? = some (zfv G σ c (zfty ci k) k) := by
  unfold zfs
  rw [List.getElem?_map, List.getElem?_range h]
  rfl
theorem zfs_len (G : zG) (σ : zM) (c ci : Nat) : (zfs G σ c ci).length = zfn ci := by
  unfold zfs
  rw [List.length_map, List.length_range]
theorem zfs_set {G : zG} {σ σ' : zM} {c ci k : Nat} {v : Value} (hk : k < zfn ci) (hv : zfv G σ' c (zfty ci k) k = v) (ho : ∀ j, ¬ j = k → zfv G σ' c (zfty ci j) j = zfv G σ c (zfty ci j) j) : (zfs G σ c ci).set k v = zfs G σ' c ci := by
  refine List.ext_getElem? fun j => ?_
  by_cases hj : j = k
  · subst hj
    rw [List.getElem?_set_self (by rw [zfs_len]; exact hk), zfs_at hk, hv]
  · rw [List.getElem?_set_ne (Ne.symm hj)]
    by_cases hl : j < zfn ci
    · rw [zfs_at hl, zfs_at hl, ho j hj]
    · rw [List.getElem?_eq_none (by rw [zfs_len]; omega), List.getElem?_eq_none (by rw [zfs_len]; omega)]
theorem zup_at (M : Nat → Int → Int) (c : Nat) (k v : Int) : zup M c k v c k = v := by unfold zup; rw [if_pos ⟨rfl, rfl⟩]
theorem zup_c {M : Nat → Int → Int} {c c' : Nat} {k k' v : Int} (h : ¬ c' = c) : zup M c k v c' k' = M c' k' := by unfold zup; rw [if_neg (fun q => h q.1)]
theorem zup_k {M : Nat → Int → Int} {c c' : Nat} {k k' v : Int} (h : ¬ k' = k) : zup M c k v c' k' = M c' k' := by unfold zup; rw [if_neg (fun q => h q.2)]
theorem zupN_at (M : Nat → Nat → Nat) (c k v : Nat) : zupN M c k v c k = v := by unfold zupN; rw [if_pos ⟨rfl, rfl⟩]
theorem zupN_c {M : Nat → Nat → Nat} {c c' k k' v : Nat} (h : ¬ c' = c) : zupN M c k v c' k' = M c' k' := by unfold zupN; rw [if_neg (fun q => h q.1)]
theorem zupN_k {M : Nat → Nat → Nat} {c c' k k' v : Nat} (h : ¬ k' = k) : zupN M c k v c' k' = M c' k' := by unfold zupN; rw [if_neg (fun q => h q.2)]
theorem zty_o {c ci k : Nat} (h : (zshp c).1 = ci) (hc : ci < 13) : zty c (k : Int) = zfty ci k := by
  unfold zty
  rw [h, if_pos hc]
  rfl
theorem zty_o2 {c ci : Nat} {k : Int} (h : (zshp c).1 = ci) (hc : ci < 13) : zty c k = zfty ci k.toNat := by
  unfold zty
  rw [h, if_pos hc]
