/-! Locals, switches, ends. -/
theorem zrep_vf {G : zG} {s : State} {H : Heap} {σ : zM} (h : zRep G s H σ) : G.2.2.1 = .null ∨ ∃ t, G.2.2.1 = .ref t := h.2.2.2.2.2.1.2.2.2.2.2.2.2.2.2.1
theorem zcv_cat2 {G : zG} (hv : G.2.2.1 = .null ∨ ∃ t, G.2.2.1 = .ref t) (v : zV) : (zcv G v).category = zcat v := by
  obtain x | x | x := v
  · rfl
  · rfl
  · exact zcv_cat G hv x
theorem zgd {ls : zL} {i : Nat} {v : zV} (h : ls.getD i none = some v) : ls[i]? = some (some v) := by
  rw [List.getD_eq_getElem?_getD] at h
  cases hq : ls[i]? with
  | none => rw [hq] at h; cases h
  | some w => rw [hq] at h; exact congrArg some h
theorem zgd_ok {ls : zL} {i : Nat} {v : zV} (h : ls.getD i none = some v) (hk : ∀ v, some v ∈ ls → zok v) : zok v := hk v (List.mem_of_getElem? (zgd h))
def zas (G : zG) (ls : zL) : List (Nat × Value) := (List.range ls.length).filterMap (fun i => match ls[i]? with
  | some (some v) => some (i, zcv G v)
  | _ => none)
theorem zas_mem {G : zG} {ls : zL} {i : Nat} {v : zV} (h : ls[i]? = some (some v)) : (i, zcv G v) ∈ zas G ls := by
  refine List.mem_filterMap.mpr ⟨i, List.mem_range.mpr (List.getElem?_eq_some_iff.mp h).1, ?_⟩
  rw [h]
theorem zas_of {G : zG} {ls : zL} {q : Nat × Value} (h : q ∈ zas G ls) : ∃ v, ls[q.1]? = some (some v) ∧ q.2 = zcv G v := by
  obtain ⟨i, -, hi⟩ := List.mem_filterMap.mp h
  split at hi
  · rename_i v hv
    cases hi
    exact ⟨v, hv, rfl⟩
  · cases hi
theorem zlv_has {G : zG} {la : Array Slot} {n : Nat} {ls : zL} (h : zlv G la n ls) : lv_has la n (zas G ls) := ⟨h.1, h.2.2.1, fun q hq => by
  obtain ⟨v, h1, h2⟩ := zas_of hq
  rw [h2]
  exact h.2.2.2 q.1 v h1⟩
theorem zclr_len (ls : zL) (i : Nat) : (zclr ls i).length = ls.length := by
  unfold zclr
  split
  · rfl
  · split
    · exact List.length_set ..
    · rfl
theorem zclr_at {ls : zL} {i j : Nat} {w : zV} (h : (zclr ls i)[j]? = some (some w)) : ls[j]? = some (some w) ∧ ¬ (j + 1 = i ∧ zcat w = 2) := by
  unfold zclr at h
  split at h
  · exact ⟨h, by omega⟩
  · rename_i q
    split at h
    · rename_i x hx
      have hx' := zgd hx
      by_cases hj : j = q
      · subst hj
        rw [List.getElem?_set_self (List.getElem?_eq_some_iff.mp hx').1] at h
        cases h
      · rw [List.getElem?_set_ne (Ne.symm hj)] at h
        exact ⟨h, by omega⟩
    · rename_i hx
      refine ⟨h, fun z => ?_⟩
      have hj : j = q := by omega
      subst hj
      obtain x | x | x := w
      · cases z.2
      · refine hx x ?_
        rw [List.getD_eq_getElem?_getD, h]
        rfl
      · cases z.2
theorem zst1_at {ls : zL} {i j : Nat} {v w : zV} (hi : i < ls.length) (h : (zst1 ls i v)[j]? = some (some w)) : (j = i ∧ w = v) ∨ (¬ j = i ∧ ls[j]? = some (some w) ∧ ¬ (j + 1 = i ∧ zcat w = 2)) := by
  unfold zst1 at h
  by_cases hj : j = i
  · subst hj
    rw [List.getElem?_set_self (by rw [zclr_len]; exact hi)] at h
    cases h
    exact Or.inl ⟨rfl, rfl⟩
  · rw [List.getElem?_set_ne (Ne.symm hj)] at h
    exact Or.inr ⟨hj, zclr_at h⟩
theorem zst1_ok {ls : zL} {i : Nat} {v : zV} (h : ∀ w, some w ∈ ls → zok w) (hv : zok v) : ∀ w, some w ∈ zst1 ls i v → zok w := by
  intro w hw
  obtain ⟨j, hj⟩ := List.getElem?_of_mem hw
  by_cases hi : i < ls.length
  · rcases zst1_at hi hj with ⟨-, e⟩ | ⟨-, e, -⟩
    · rw [e]; exact hv
    · exact h w (List.mem_of_getElem? e)
  · unfold zst1 at hj
    rw [List.set_eq_of_length_le (by rw [zclr_len]; omega)] at hj
    exact h w (List.mem_of_getElem? (zclr_at hj).1)
theorem zst2_at {ls : zL} {i j : Nat} {v w : zV} (hi : i < ls.length) (h : (zst2 ls i v)[j]? = some (some w)) : (j = i ∧ w = v) ∨ (¬ j = i ∧ ¬ j = i + 1 ∧ ls[j]? = some (some w) ∧ ¬ (j + 1 = i ∧ zcat w = 2)) := by
  have h : ((zst1 ls i v).set (i + 1) none)[j]? = some (some w) := h
  by_cases hj : j = i + 1
  · subst hj
    by_cases hl : i + 1 < (zst1 ls i v).length
    · rw [List.getElem?_set_self hl] at h
      cases h
    · rw [List.set_eq_of_length_le (by omega), List.getElem?_eq_none (by omega)] at h
      cases h
  · rw [List.getElem?_set_ne (Ne.symm hj)] at h
    rcases zst1_at hi h with a | a
    · exact Or.inl a
    · exact Or.inr ⟨a.1, hj, a.2⟩
theorem zst2_ok {ls : zL} {i : Nat} {v : zV} (h : ∀ w, some w ∈ ls → zok w) (hv : zok v) : ∀ w, some w ∈ zst2 ls i v → zok w := by
  intro w hw
  obtain ⟨j, hj⟩ := List.getElem?_of_mem hw
  have hj : ((zst1 ls i v).set (i + 1) none)[j]? = some (some w) := hj
  by_cases hl : i + 1 < (zst1 ls i v).length
  · by_cases he : j = i + 1
    · subst he
      rw [List.getElem?_set_self hl] at hj
      cases hj
    · rw [List.getElem?_set_ne (Ne.symm he)] at hj
      exact zst1_ok h hv w (List.mem_of_getElem? hj)
  · rw [List.set_eq_of_length_le (by omega)] at hj
    exact zst1_ok h hv w (List.mem_of_getElem? hj)
theorem zst1_len (ls : zL) (i : Nat) (v : zV) : (zst1 ls i v).length = ls.length := by unfold zst1; rw [List.length_set, zclr_len]
theorem zst2_len (ls : zL) (i : Nat) (v : zV) : (zst2 ls i v).length = ls.length := by
  show ((zst1 ls i v).set (i + 1) none).length = _
  rw [List.length_set, zst1_len]
theorem zlv_st1 {G : zG} (hv : G.2.2.1 = .null ∨ ∃ t, G.2.2.1 = .ref t) {la' : Array Slot} {n i : Nat} {ls : zL} {v : zV} (hn : ls.length = n) (hi : i < n)
    (h : lv_has la' n ((i, zcv G v) :: (zas G ls).filter (fun q => !(q.1 == i) && !(q.1 + 1 == i && q.2.category == 2)))) : zlv G la' n (zst1 ls i v) := by
  refine ⟨h.1, (zst1_len ls i v).trans hn, h.2.1, fun j w hj => ?_⟩
  rcases zst1_at (by omega) hj with ⟨e1, e2⟩ | ⟨e1, e2, e3⟩
  · rw [e1, e2]
    exact h.2.2 (i, zcv G v) List.mem_cons_self
  · refine h.2.2 (j, zcv G w) (List.mem_cons_of_mem _ (List.mem_filter.mpr ⟨zas_mem e2, ?_⟩))
    rw [zcv_cat2 hv]
    simp only [Bool.and_eq_true, Bool.not_eq_true', beq_eq_false_iff_ne, ne_eq, Bool.and_eq_false_iff]
    exact ⟨e1, by omega⟩
theorem zlv_st2 {G : zG} (hv : G.2.2.1 = .null ∨ ∃ t, G.2.2.1 = .ref t) {la' : Array Slot} {n i : Nat} {ls : zL} {v : zV} (hn : ls.length = n) (hi : i < n)
    (h : lv_has la' n ((i, zcv G v) :: (zas G ls).filter (fun q => !(q.1 == i) && (!(q.1 == i + 1) && !(q.1 + 1 == i && q.2.category == 2))))) : zlv G la' n (zst2 ls i v) := by
  refine ⟨h.1, (zst2_len ls i v).trans hn, h.2.1, fun j w hj => ?_⟩
  rcases zst2_at (by omega) hj with ⟨e1, e2⟩ | ⟨e1, e4, e2, e3⟩
  · rw [e1, e2]
    exact h.2.2 (i, zcv G v) List.mem_cons_self
  · refine h.2.2 (j, zcv G w) (List.mem_cons_of_mem _ (List.mem_filter.mpr ⟨zas_mem e2, ?_⟩))
    rw [zcv_cat2 hv]
    simp only [Bool.and_eq_true, Bool.not_eq_true', beq_eq_false_iff_ne, ne_eq, Bool.and_eq_false_iff]
    exact ⟨e1, e4, by omega⟩
