/-! Printed by wip/tools/s_code.py: words by their places, fields by their numbers. -/
def zall (P : Nat → zO → Prop) : Nat → List zO → Prop
  | _, [] => True
  | b, o :: r => P b o ∧ zall P (b + 1) r
def zallL (P : Nat → zO → Prop) : Nat → List (List zO) → Prop
  | _, [] => True
  | b, c :: r => zall P b c ∧ zallL P (b + 16) r
theorem zall_at {P : Nat → zO → Prop} (hb : ∀ pc, P pc o_bad) : ∀ {c : List zO} {b : Nat}, zall P b c → ∀ i, P (b + i) (c.getD i o_bad)
  | [], b, _, i => hb _
  | o :: r, b, h, 0 => h.1
  | o :: r, b, h, i + 1 => by
    have q := zall_at hb h.2 i
    rw [show b + 1 + i = b + (i + 1) by omega] at q
    exact q
theorem zallL_at {P : Nat → zO → Prop} (hb : ∀ pc, P pc o_bad) : ∀ {c : List (List zO)} {b : Nat}, zallL P b c → ∀ j i, P (b + 16 * j + i) ((c.getD j []).getD i o_bad)
  | [], b, _, j, i => hb _
  | o :: r, b, h, 0, i => by
    have q := zall_at hb h.1 i
    exact q
  | o :: r, b, h, j + 1, i => by
    have q := zallL_at hb h.2 j i
    rw [show b + 16 + 16 * j + i = b + 16 * (j + 1) + i by omega] at q
    exact q
theorem zall_get {P : Nat → zO → Prop} (hb : ∀ pc, P pc o_bad) {c : List (List zO)} (h : zallL P 0 c) (pc : Nat) : P pc (zget c pc o_bad) := by
  have q := zallL_at hb h (pc / 16) (pc % 16)
  rw [show 0 + 16 * (pc / 16) + pc % 16 = pc by omega] at q
  exact q
theorem zt_0 : ∀ w ∈ k2_sels lw_privs, goodWord w = true → w ∈ zwd := fun w h g => List.mem_filter.mpr ⟨List.mem_append_left _ h, g⟩
theorem zt_1 : ∀ w ∈ tables_1_1, goodWord w = true → w ∈ zwd := fun w h g => List.mem_filter.mpr ⟨List.mem_append_right _ (List.mem_append_left _ h), g⟩
theorem zt_2 : ∀ w ∈ tables_1_2, goodWord w = true → w ∈ zwd := fun w h g => List.mem_filter.mpr ⟨List.mem_append_right _ (List.mem_append_right _ (List.mem_append_left _ h)), g⟩
theorem zt_3 : ∀ w ∈ tables_1_3, goodWord w = true → w ∈ zwd := fun w h g => List.mem_filter.mpr ⟨List.mem_append_right _ (List.mem_append_right _ (List.mem_append_right _ (List.mem_append_left _ h))), g⟩
theorem zt_4 : ∀ w ∈ tables_1_4, goodWord w = true → w ∈ zwd := fun w h g => List.mem_filter.mpr ⟨List.mem_append_right _ (List.mem_append_right _ (List.mem_append_right _ (List.mem_append_right _ (List.mem_append_left _ h)))), g⟩
theorem zt_5 : ∀ w ∈ tables_1_5, goodWord w = true → w ∈ zwd := fun w h g => List.mem_filter.mpr ⟨List.mem_append_right _ (List.mem_append_right _ (List.mem_append_right _ (List.mem_append_right _ (List.mem_append_right _ (List.mem_append_left _ h))))), g⟩
theorem zt_6 : ∀ w ∈ tables_1_6, goodWord w = true → w ∈ zwd := fun w h g => List.mem_filter.mpr ⟨List.mem_append_right _ (List.mem_append_right _ (List.mem_append_right _ (List.mem_append_right _ (List.mem_append_right _ (List.mem_append_right _ (List.mem_append_left _ h)))))), g⟩
theorem zt_7 : ∀ w ∈ tables_1_7, goodWord w = true → w ∈ zwd := fun w h g => List.mem_filter.mpr ⟨List.mem_append_right _ (List.mem_append_right _ (List.mem_append_right _ (List.mem_append_right _ (List.mem_append_right _ (List.mem_append_right _ (List.mem_append_right _ (List.mem_append_left _ h))))))), g⟩
theorem zt_8 : ∀ w ∈ tables_1_8, goodWord w = true → w ∈ zwd := fun w h g => List.mem_filter.mpr ⟨List.mem_append_right _ (List.mem_append_right _ (List.mem_append_right _ (List.mem_append_right _ (List.mem_append_right _ (List.mem_append_right _ (List.mem_append_right _ (List.mem_append_right _ (List.mem_append_left _ h)))))))), g⟩
theorem zt_9 : ∀ w ∈ tables_1_9, goodWord w = true → w ∈ zwd := fun w h g => List.mem_filter.mpr ⟨List.mem_append_right _ (List.mem_append_right _ (List.mem_append_right _ (List.mem_append_right _ (List.mem_append_right _ (List.mem_append_right _ (List.mem_append_right _ (List.mem_append_right _ (List.mem_append_right _ (List.mem_append_left _ h))))))))), g⟩
theorem zt_10 : ∀ w ∈ tables_1_10, goodWord w = true → w ∈ zwd := fun w h g => List.mem_filter.mpr ⟨List.mem_append_right _ (List.mem_append_right _ (List.mem_append_right _ (List.mem_append_right _ (List.mem_append_right _ (List.mem_append_right _ (List.mem_append_right _ (List.mem_append_right _ (List.mem_append_right _ (List.mem_append_right _ (h)))))))))), g⟩
