/-! A call that comes to its end has one -/
def dS2 (mj : Nat) : Bool := [34, 180, 181, 182, 214, 255, 256, 257, 258, 259, 260].elem mj
def zPro (o : zO) : Prop := ∀ (A : Prop) (call : zC) (k : zK) (Q : zQ) (uc us : Nat) (ls : zL) (st : List zV) (σ : zM),
  (∀ (uc us pc : Nat) (ls : zL) (st : List zV) (σ : zM), k uc us pc ls st σ → A) → (∀ (σ : zM) (r : Option zV), Q σ r → A) →
  (∀ (mj : Nat), dS2 mj = true → ∀ (a : List zV) (σ : zM) (Q' : zQ), call mj a σ Q' → ∃ (σ' : zM) (r : Option zV), Q' σ' r) → o call k Q uc us ls st σ → A
theorem zpr_bad : zPro o_bad := by
  intro A call k Q uc us ls st σ hk hQ hc h
  exact False.elim h
theorem zpr_getI {shp : Nat → Nat × Nat} {nx : Nat} {ci : Nat} {kk : Int} : zPro (o_getI shp nx ci kk) := by
  intro A call k Q uc us ls st σ hk hQ hc h
  obtain ⟨F, P, M, nn⟩ := σ
  rcases st with _ | ⟨v, st⟩
  · exact False.elim h
  rcases v with v0 | v0 | v0
  · exact False.elim h
  · exact False.elim h
  exact hk _ _ _ _ _ _ h.2
theorem zpr_getF {shp : Nat → Nat × Nat} {nx : Nat} {ci : Nat} {kk : Nat} : zPro (o_getF shp nx ci kk) := by
  intro A call k Q uc us ls st σ hk hQ hc h
  obtain ⟨F, P, M, nn⟩ := σ
  rcases st with _ | ⟨v, st⟩
  · exact False.elim h
  rcases v with v0 | v0 | v0
  · exact False.elim h
  · exact False.elim h
  exact hk _ _ _ _ _ _ h.2.2
theorem zpr_getP {shp : Nat → Nat × Nat} {nx : Nat} {ci : Nat} {kk : Nat} : zPro (o_getP shp nx ci kk) := by
  intro A call k Q uc us ls st σ hk hQ hc h
  obtain ⟨F, P, M, nn⟩ := σ
  rcases st with _ | ⟨v, st⟩
  · exact False.elim h
  rcases v with v0 | v0 | v0
  · exact False.elim h
  · exact False.elim h
  exact hk _ _ _ _ _ _ h.2.2
theorem zpr_putI {shp : Nat → Nat × Nat} {nx : Nat} {ci : Nat} {kk : Int} : zPro (o_putI shp nx ci kk) := by
  intro A call k Q uc us ls st σ hk hQ hc h
  obtain ⟨F, P, M, nn⟩ := σ
  rcases st with _ | ⟨v, st⟩
  · exact False.elim h
  rcases v with v0 | v0 | v0
  rotate_left
  · exact False.elim h
  · exact False.elim h
  rcases st with _ | ⟨v, st⟩
  · exact False.elim h
  rcases v with v1 | v1 | v1
  · exact False.elim h
  · exact False.elim h
  exact hk _ _ _ _ _ _ h.2
theorem zpr_ald {shp : Nat → Nat × Nat} {nx : Nat} {kd : Nat} : zPro (o_ald shp nx kd) := by
  intro A call k Q uc us ls st σ hk hQ hc h
  obtain ⟨F, P, M, nn⟩ := σ
  rcases st with _ | ⟨v, st⟩
  · exact False.elim h
  rcases v with v0 | v0 | v0
  rotate_left
  · exact False.elim h
  · exact False.elim h
  rcases st with _ | ⟨v, st⟩
  · exact False.elim h
  rcases v with v1 | v1 | v1
  · exact False.elim h
  · exact False.elim h
  exact hk _ _ _ _ _ _ h.2.2
theorem zpr_aald {shp : Nat → Nat × Nat} {nx : Nat} : zPro (o_aald shp nx) := by
  intro A call k Q uc us ls st σ hk hQ hc h
  obtain ⟨F, P, M, nn⟩ := σ
  rcases st with _ | ⟨v, st⟩
  · exact False.elim h
  rcases v with v0 | v0 | v0
  rotate_left
  · exact False.elim h
  · exact False.elim h
  rcases st with _ | ⟨v, st⟩
  · exact False.elim h
  rcases v with v1 | v1 | v1
  · exact False.elim h
  · exact False.elim h
  exact hk _ _ _ _ _ _ h.2.2.2
theorem zpr_iast {shp : Nat → Nat × Nat} {nx : Nat} : zPro (o_iast shp nx) := by
  intro A call k Q uc us ls st σ hk hQ hc h
  obtain ⟨F, P, M, nn⟩ := σ
  rcases st with _ | ⟨v, st⟩
  · exact False.elim h
  rcases v with v0 | v0 | v0
  rotate_left
  · exact False.elim h
  · exact False.elim h
  rcases st with _ | ⟨v, st⟩
  · exact False.elim h
  rcases v with v1 | v1 | v1
  rotate_left
  · exact False.elim h
  · exact False.elim h
  rcases st with _ | ⟨v, st⟩
  · exact False.elim h
  rcases v with v2 | v2 | v2
  · exact False.elim h
  · exact False.elim h
  exact hk _ _ _ _ _ _ h.2.2
theorem zpr_alen {shp : Nat → Nat × Nat} {nx : Nat} {kd : Nat} : zPro (o_alen shp nx kd) := by
  intro A call k Q uc us ls st σ hk hQ hc h
  obtain ⟨F, P, M, nn⟩ := σ
  rcases st with _ | ⟨v, st⟩
  · exact False.elim h
  rcases v with v0 | v0 | v0
  · exact False.elim h
  · exact False.elim h
  exact hk _ _ _ _ _ _ h.2
theorem zpr_con {nx : Nat} {v : zV} : zPro (o_con nx v) := by
  intro A call k Q uc us ls st σ hk hQ hc h
  exact hk _ _ _ _ _ _ h
theorem zpr_goto {tg : Nat} : zPro (o_goto tg) := by
  intro A call k Q uc us ls st σ hk hQ hc h
  exact hk _ _ _ _ _ _ h
theorem zpr_iload {nx : Nat} {i : Nat} : zPro (o_iload nx i) := by
  intro A call k Q uc us ls st σ hk hQ hc h
  unfold o_iload at h
  revert h
  generalize ls.getD i none = v
  intro h
  rcases v with _ | (v | v | v)
  · exact False.elim h
  · exact hk _ _ _ _ _ _ h
  · exact False.elim h
  · exact False.elim h
theorem zpr_aload {nx : Nat} {i : Nat} : zPro (o_aload nx i) := by
  intro A call k Q uc us ls st σ hk hQ hc h
  unfold o_aload at h
  revert h
  generalize ls.getD i none = v
  intro h
  rcases v with _ | (v | v | v)
  · exact False.elim h
  · exact False.elim h
  · exact False.elim h
  · exact hk _ _ _ _ _ _ h.2
theorem zpr_iinc {nx : Nat} {i : Nat} {n : Int} : zPro (o_iinc nx i n) := by
  intro A call k Q uc us ls st σ hk hQ hc h
  unfold o_iinc at h
  revert h
  generalize ls.getD i none = v
  intro h
  rcases v with _ | (v | v | v)
  · exact False.elim h
  · exact hk _ _ _ _ _ _ h
  · exact False.elim h
  · exact False.elim h
theorem zpr_istore {nx : Nat} {i : Nat} : zPro (o_istore nx i) := by
  intro A call k Q uc us ls st σ hk hQ hc h
  rcases st with _ | ⟨v, st⟩
  · exact False.elim h
  rcases v with v0 | v0 | v0
  rotate_left
  · exact False.elim h
  · exact False.elim h
  exact hk _ _ _ _ _ _ h
theorem zpr_astore {nx : Nat} {i : Nat} : zPro (o_astore nx i) := by
  intro A call k Q uc us ls st σ hk hQ hc h
  rcases st with _ | ⟨v, st⟩
  · exact False.elim h
  rcases v with v0 | v0 | v0
  · exact False.elim h
  · exact False.elim h
  exact hk _ _ _ _ _ _ h.2
theorem zpr_dup {nx : Nat} : zPro (o_dup nx) := by
  intro A call k Q uc us ls st σ hk hQ hc h
  rcases st with _ | ⟨v, st⟩
  · exact False.elim h
  rcases v with v | v | v
  · exact hk _ _ _ _ _ _ h
  · exact False.elim h
  · exact hk _ _ _ _ _ _ h
theorem zpr_iadd {nx : Nat} : zPro (o_iadd nx) := by
  intro A call k Q uc us ls st σ hk hQ hc h
  rcases st with _ | ⟨v, st⟩
  · exact False.elim h
  rcases v with v0 | v0 | v0
  rotate_left
  · exact False.elim h
  · exact False.elim h
  rcases st with _ | ⟨v, st⟩
  · exact False.elim h
  rcases v with v1 | v1 | v1
  rotate_left
  · exact False.elim h
  · exact False.elim h
  exact hk _ _ _ _ _ _ h
theorem zpr_isub {nx : Nat} : zPro (o_isub nx) := by
  intro A call k Q uc us ls st σ hk hQ hc h
  rcases st with _ | ⟨v, st⟩
  · exact False.elim h
  rcases v with v0 | v0 | v0
  rotate_left
  · exact False.elim h
  · exact False.elim h
  rcases st with _ | ⟨v, st⟩
  · exact False.elim h
  rcases v with v1 | v1 | v1
  rotate_left
  · exact False.elim h
  · exact False.elim h
  exact hk _ _ _ _ _ _ h
theorem zpr_ifeq {nx : Nat} {tg : Nat} : zPro (o_ifeq nx tg) := by
  intro A call k Q uc us ls st σ hk hQ hc h
  rcases st with _ | ⟨v, st⟩
  · exact False.elim h
  rcases v with v0 | v0 | v0
  rotate_left
  · exact False.elim h
  · exact False.elim h
  exact (Classical.em _).elim (fun c => hk _ _ _ _ _ _ (h.1 c)) (fun c => hk _ _ _ _ _ _ (h.2 c))
theorem zpr_ifne {nx : Nat} {tg : Nat} : zPro (o_ifne nx tg) := by
  intro A call k Q uc us ls st σ hk hQ hc h
  rcases st with _ | ⟨v, st⟩
  · exact False.elim h
  rcases v with v0 | v0 | v0
  rotate_left
  · exact False.elim h
  · exact False.elim h
  exact (Classical.em _).elim (fun c => hk _ _ _ _ _ _ (h.1 c)) (fun c => hk _ _ _ _ _ _ (h.2 c))
theorem zpr_iflt {nx : Nat} {tg : Nat} : zPro (o_iflt nx tg) := by
  intro A call k Q uc us ls st σ hk hQ hc h
  rcases st with _ | ⟨v, st⟩
  · exact False.elim h
  rcases v with v0 | v0 | v0
  rotate_left
  · exact False.elim h
  · exact False.elim h
  exact (Classical.em _).elim (fun c => hk _ _ _ _ _ _ (h.1 c)) (fun c => hk _ _ _ _ _ _ (h.2 c))
theorem zpr_ifge {nx : Nat} {tg : Nat} : zPro (o_ifge nx tg) := by
  intro A call k Q uc us ls st σ hk hQ hc h
  rcases st with _ | ⟨v, st⟩
  · exact False.elim h
  rcases v with v0 | v0 | v0
  rotate_left
  · exact False.elim h
  · exact False.elim h
  exact (Classical.em _).elim (fun c => hk _ _ _ _ _ _ (h.1 c)) (fun c => hk _ _ _ _ _ _ (h.2 c))
theorem zpr_ifgt {nx : Nat} {tg : Nat} : zPro (o_ifgt nx tg) := by
  intro A call k Q uc us ls st σ hk hQ hc h
  rcases st with _ | ⟨v, st⟩
  · exact False.elim h
  rcases v with v0 | v0 | v0
  rotate_left
  · exact False.elim h
  · exact False.elim h
  exact (Classical.em _).elim (fun c => hk _ _ _ _ _ _ (h.1 c)) (fun c => hk _ _ _ _ _ _ (h.2 c))
theorem zpr_ifle {nx : Nat} {tg : Nat} : zPro (o_ifle nx tg) := by
  intro A call k Q uc us ls st σ hk hQ hc h
  rcases st with _ | ⟨v, st⟩
  · exact False.elim h
  rcases v with v0 | v0 | v0
  rotate_left
  · exact False.elim h
  · exact False.elim h
  exact (Classical.em _).elim (fun c => hk _ _ _ _ _ _ (h.1 c)) (fun c => hk _ _ _ _ _ _ (h.2 c))
theorem zpr_icmpeq {nx : Nat} {tg : Nat} : zPro (o_icmpeq nx tg) := by
  intro A call k Q uc us ls st σ hk hQ hc h
  rcases st with _ | ⟨v, st⟩
  · exact False.elim h
  rcases v with v0 | v0 | v0
  rotate_left
  · exact False.elim h
  · exact False.elim h
  rcases st with _ | ⟨v, st⟩
  · exact False.elim h
  rcases v with v1 | v1 | v1
  rotate_left
  · exact False.elim h
  · exact False.elim h
  exact (Classical.em _).elim (fun c => hk _ _ _ _ _ _ (h.1 c)) (fun c => hk _ _ _ _ _ _ (h.2 c))
theorem zpr_icmpne {nx : Nat} {tg : Nat} : zPro (o_icmpne nx tg) := by
  intro A call k Q uc us ls st σ hk hQ hc h
  rcases st with _ | ⟨v, st⟩
  · exact False.elim h
  rcases v with v0 | v0 | v0
  rotate_left
  · exact False.elim h
  · exact False.elim h
  rcases st with _ | ⟨v, st⟩
  · exact False.elim h
  rcases v with v1 | v1 | v1
  rotate_left
  · exact False.elim h
  · exact False.elim h
  exact (Classical.em _).elim (fun c => hk _ _ _ _ _ _ (h.1 c)) (fun c => hk _ _ _ _ _ _ (h.2 c))
theorem zpr_icmplt {nx : Nat} {tg : Nat} : zPro (o_icmplt nx tg) := by
  intro A call k Q uc us ls st σ hk hQ hc h
  rcases st with _ | ⟨v, st⟩
  · exact False.elim h
  rcases v with v0 | v0 | v0
  rotate_left
  · exact False.elim h
  · exact False.elim h
  rcases st with _ | ⟨v, st⟩
  · exact False.elim h
  rcases v with v1 | v1 | v1
  rotate_left
  · exact False.elim h
  · exact False.elim h
  exact (Classical.em _).elim (fun c => hk _ _ _ _ _ _ (h.1 c)) (fun c => hk _ _ _ _ _ _ (h.2 c))
theorem zpr_icmpge {nx : Nat} {tg : Nat} : zPro (o_icmpge nx tg) := by
  intro A call k Q uc us ls st σ hk hQ hc h
  rcases st with _ | ⟨v, st⟩
  · exact False.elim h
  rcases v with v0 | v0 | v0
  rotate_left
  · exact False.elim h
  · exact False.elim h
  rcases st with _ | ⟨v, st⟩
  · exact False.elim h
  rcases v with v1 | v1 | v1
  rotate_left
  · exact False.elim h
  · exact False.elim h
  exact (Classical.em _).elim (fun c => hk _ _ _ _ _ _ (h.1 c)) (fun c => hk _ _ _ _ _ _ (h.2 c))
theorem zpr_icmpgt {nx : Nat} {tg : Nat} : zPro (o_icmpgt nx tg) := by
  intro A call k Q uc us ls st σ hk hQ hc h
  rcases st with _ | ⟨v, st⟩
  · exact False.elim h
  rcases v with v0 | v0 | v0
  rotate_left
  · exact False.elim h
  · exact False.elim h
  rcases st with _ | ⟨v, st⟩
  · exact False.elim h
  rcases v with v1 | v1 | v1
  rotate_left
  · exact False.elim h
  · exact False.elim h
  exact (Classical.em _).elim (fun c => hk _ _ _ _ _ _ (h.1 c)) (fun c => hk _ _ _ _ _ _ (h.2 c))
theorem zpr_icmple {nx : Nat} {tg : Nat} : zPro (o_icmple nx tg) := by
  intro A call k Q uc us ls st σ hk hQ hc h
  rcases st with _ | ⟨v, st⟩
  · exact False.elim h
  rcases v with v0 | v0 | v0
  rotate_left
  · exact False.elim h
  · exact False.elim h
  rcases st with _ | ⟨v, st⟩
  · exact False.elim h
  rcases v with v1 | v1 | v1
  rotate_left
  · exact False.elim h
  · exact False.elim h
  exact (Classical.em _).elim (fun c => hk _ _ _ _ _ _ (h.1 c)) (fun c => hk _ _ _ _ _ _ (h.2 c))
theorem zpr_dup2 {nx : Nat} : zPro (o_dup2 nx) := by
  intro A call k Q uc us ls st σ hk hQ hc h
  rcases st with _ | ⟨v, st⟩
  · exact False.elim h
  rcases v with v0 | v0 | v0
  rotate_left
  · exact False.elim h
  · exact False.elim h
  rcases st with _ | ⟨v, st⟩
  · exact False.elim h
  rcases v with v1 | v1 | v1
  · exact False.elim h
  · exact False.elim h
  exact hk _ _ _ _ _ _ h
theorem zpr_i2l {nx : Nat} : zPro (o_i2l nx) := by
  intro A call k Q uc us ls st σ hk hQ hc h
  rcases st with _ | ⟨v, st⟩
  · exact False.elim h
  rcases v with v0 | v0 | v0
  rotate_left
  · exact False.elim h
  · exact False.elim h
  exact hk _ _ _ _ _ _ h
theorem zpr_l2i {nx : Nat} : zPro (o_l2i nx) := by
  intro A call k Q uc us ls st σ hk hQ hc h
  rcases st with _ | ⟨v, st⟩
  · exact False.elim h
  rcases v with v0 | v0 | v0
  · exact False.elim h
  rotate_left
  · exact False.elim h
  exact hk _ _ _ _ _ _ h
theorem zpr_imul {nx : Nat} : zPro (o_imul nx) := by
  intro A call k Q uc us ls st σ hk hQ hc h
  rcases st with _ | ⟨v, st⟩
  · exact False.elim h
  rcases v with v0 | v0 | v0
  rotate_left
  · exact False.elim h
  · exact False.elim h
  rcases st with _ | ⟨v, st⟩
  · exact False.elim h
  rcases v with v1 | v1 | v1
  rotate_left
  · exact False.elim h
  · exact False.elim h
  exact hk _ _ _ _ _ _ h
theorem zpr_lcmp {nx : Nat} : zPro (o_lcmp nx) := by
  intro A call k Q uc us ls st σ hk hQ hc h
  rcases st with _ | ⟨v, st⟩
  · exact False.elim h
  rcases v with v0 | v0 | v0
  · exact False.elim h
  rotate_left
  · exact False.elim h
  rcases st with _ | ⟨v, st⟩
  · exact False.elim h
  rcases v with v1 | v1 | v1
  · exact False.elim h
  rotate_left
  · exact False.elim h
  exact hk _ _ _ _ _ _ h
theorem zpr_lald {shp : Nat → Nat × Nat} {nx : Nat} : zPro (o_lald shp nx) := by
  intro A call k Q uc us ls st σ hk hQ hc h
  obtain ⟨F, P, M, nn⟩ := σ
  rcases st with _ | ⟨v, st⟩
  · exact False.elim h
  rcases v with v0 | v0 | v0
  rotate_left
  · exact False.elim h
  · exact False.elim h
  rcases st with _ | ⟨v, st⟩
  · exact False.elim h
  rcases v with v1 | v1 | v1
  · exact False.elim h
  · exact False.elim h
  exact hk _ _ _ _ _ _ h.2.2
theorem zpr_last {shp : Nat → Nat × Nat} {nx : Nat} : zPro (o_last shp nx) := by
  intro A call k Q uc us ls st σ hk hQ hc h
  obtain ⟨F, P, M, nn⟩ := σ
  rcases st with _ | ⟨v, st⟩
  · exact False.elim h
  rcases v with v0 | v0 | v0
  · exact False.elim h
  rotate_left
  · exact False.elim h
  rcases st with _ | ⟨v, st⟩
  · exact False.elim h
  rcases v with v1 | v1 | v1
  rotate_left
  · exact False.elim h
  · exact False.elim h
  rcases st with _ | ⟨v, st⟩
  · exact False.elim h
  rcases v with v2 | v2 | v2
  · exact False.elim h
  · exact False.elim h
  exact hk _ _ _ _ _ _ h.2.2
theorem zpr_lstore {nx : Nat} {i : Nat} : zPro (o_lstore nx i) := by
  intro A call k Q uc us ls st σ hk hQ hc h
  rcases st with _ | ⟨v, st⟩
  · exact False.elim h
  rcases v with v0 | v0 | v0
  · exact False.elim h
  rotate_left
  · exact False.elim h
  exact hk _ _ _ _ _ _ h
theorem zpr_putP {shp : Nat → Nat × Nat} {nx : Nat} {ci : Nat} {kk : Nat} : zPro (o_putP shp nx ci kk) := by
  intro A call k Q uc us ls st σ hk hQ hc h
  obtain ⟨F, P, M, nn⟩ := σ
  rcases st with _ | ⟨v, st⟩
  · exact False.elim h
  rcases v with v0 | v0 | v0
  · exact False.elim h
  · exact False.elim h
  rcases st with _ | ⟨v, st⟩
  · exact False.elim h
  rcases v with v1 | v1 | v1
  · exact False.elim h
  · exact False.elim h
  exact hk _ _ _ _ _ _ h.2.2
theorem zpr_putZ {shp : Nat → Nat × Nat} {nx : Nat} {ci : Nat} {kk : Int} : zPro (o_putZ shp nx ci kk) := by
  intro A call k Q uc us ls st σ hk hQ hc h
  obtain ⟨F, P, M, nn⟩ := σ
  rcases st with _ | ⟨v, st⟩
  · exact False.elim h
  rcases v with v0 | v0 | v0
  rotate_left
  · exact False.elim h
  · exact False.elim h
  rcases st with _ | ⟨v, st⟩
  · exact False.elim h
  rcases v with v1 | v1 | v1
  · exact False.elim h
  · exact False.elim h
  exact hk _ _ _ _ _ _ h.2.2
theorem zpr_lload {nx : Nat} {i : Nat} : zPro (o_lload nx i) := by
  intro A call k Q uc us ls st σ hk hQ hc h
  unfold o_lload at h
  revert h
  generalize ls.getD i none = v
  intro h
  rcases v with _ | (v | v | v)
  · exact False.elim h
  · exact False.elim h
  · exact hk _ _ _ _ _ _ h
  · exact False.elim h
theorem zpr_acpw {shp : Nat → Nat × Nat} {nx : Nat} {kd : Nat} : zPro (o_acpw shp nx kd) := by
  intro A call k Q uc us ls st σ hk hQ hc h
  obtain ⟨F, P, M, nn⟩ := σ
  rcases st with _ | ⟨v, st⟩
  · exact False.elim h.2
  rcases v with v0 | v0 | v0
  rotate_left
  · exact False.elim h.2
  · exact False.elim h.2
  rcases st with _ | ⟨v, st⟩
  · exact False.elim h.2
  rcases v with v1 | v1 | v1
  rotate_left
  · exact False.elim h.2
  · exact False.elim h.2
  rcases st with _ | ⟨v, st⟩
  · exact False.elim h.2
  rcases v with v2 | v2 | v2
  · exact False.elim h.2
  · exact False.elim h.2
  rcases st with _ | ⟨v, st⟩
  · exact False.elim h.2
  rcases v with v3 | v3 | v3
  rotate_left
  · exact False.elim h.2
  · exact False.elim h.2
  rcases st with _ | ⟨v, st⟩
  · exact False.elim h.2
  rcases v with v4 | v4 | v4
  · exact False.elim h.2
  · exact False.elim h.2
  exact hk _ _ _ _ _ _ h.2.2.2.2
theorem zsw_pro {x : Int} {k : Nat → Prop} {A : Prop} (hk : ∀ t : Nat, k t → A) : ∀ ps : List (Int × Nat), zsw x k ps → (zsn x ps → A) → A := by
  intro ps
  induction ps with
  | nil => intro _ h; exact h True.intro
  | cons q r ih => intro h g; exact (Classical.em (x = q.1)).elim (fun e => hk _ (h.1 e)) (fun e => ih h.2 (fun z => g ⟨e, z⟩))
theorem zpr_sw {ps : List (Int × Nat)} {df : Nat} : zPro (o_sw ps df) := by
  intro A call k Q uc us ls st σ hk hQ hc h
  rcases st with _ | ⟨v, st⟩
  · exact False.elim h
  rcases v with v0 | v0 | v0
  rotate_left
  · exact False.elim h
  · exact False.elim h
  exact zsw_pro (fun t a => hk _ _ _ _ _ _ a) ps h.1 (fun c => hk _ _ _ _ _ _ (h.2 c))
theorem zpr_ret : zPro o_ret := by
  intro A call k Q uc us ls st σ hk hQ hc h
  rcases st with _ | ⟨v, st⟩
  · exact hQ _ _ h
  · exact False.elim h
theorem zpr_iret : zPro o_iret := by
  intro A call k Q uc us ls st σ hk hQ hc h
  rcases st with _ | ⟨v, _ | ⟨w, st⟩⟩
  · exact False.elim h
  · rcases v with v | v | v
    · exact hQ _ _ h
    · exact False.elim h
    · exact False.elim h
  · rcases v with v | v | v <;> exact False.elim h
theorem zpr_lret : zPro o_lret := by
  intro A call k Q uc us ls st σ hk hQ hc h
  rcases st with _ | ⟨v, _ | ⟨w, st⟩⟩
  · exact False.elim h
  · rcases v with v | v | v
    · exact False.elim h
    · exact hQ _ _ h
    · exact False.elim h
  · rcases v with v | v | v <;> exact False.elim h
theorem zpr_zret : zPro o_zret := by
  intro A call k Q uc us ls st σ hk hQ hc h
  rcases st with _ | ⟨v, _ | ⟨w, st⟩⟩
  · exact False.elim h
  · rcases v with v | v | v
    · exact hQ _ _ h.2
    · exact False.elim h
    · exact False.elim h
  · rcases v with v | v | v <;> exact False.elim h
theorem zpr_inv {shp : Nat → Nat × Nat} {nx mj n kd rt mx : Nat} (hj : dS2 mj = true) : zPro (o_inv shp nx mj n kd rt mx) := by
  intro A call k Q uc us ls st σ hk hQ hc h
  obtain ⟨F, P, M, nn⟩ := σ
  obtain ⟨σ', r, a⟩ := hc mj hj _ _ _ h.2
  rcases rt with _ | _ | _ | rt
  · rcases r with _ | (r | r | r)
    · exact hk _ _ _ _ _ _ a
    · exact False.elim a
    · exact False.elim a
    · exact False.elim a
  · rcases r with _ | (r | r | r)
    · exact False.elim a
    · exact hk _ _ _ _ _ _ a
    · exact False.elim a
    · exact False.elim a
  · rcases r with _ | (r | r | r)
    · exact False.elim a
    · exact False.elim a
    · exact hk _ _ _ _ _ _ a
    · exact False.elim a
  · rcases r with _ | (r | r | r) <;> exact False.elim a
def zProc : List zO → Prop
  | [] => True
  | o :: r => zPro o ∧ zProc r
def zProa : List (List zO) → Prop
  | [] => True
  | c :: r => zProc c ∧ zProa r
theorem zProc_get : ∀ (c : List zO) (j : Nat), zProc c → zPro (c.getD j o_bad) := by
  intro c
  induction c with
  | nil => intro j _; exact zpr_bad
  | cons o r ih =>
    intro j h
    cases j with
    | zero => exact h.1
    | succ j => exact ih j h.2
theorem zProa_get : ∀ (c : List (List zO)) (j : Nat), zProa c → zProc (c.getD j []) := by
  intro c
  induction c with
  | nil => intro j _; exact True.intro
  | cons o r ih =>
    intro j h
    cases j with
    | zero => exact h.1
    | succ j => exact ih j h.2
theorem zProa_ok {c : List (List zO)} (h : zProa c) (pc : Nat) : zPro (zget c pc o_bad) := zProc_get _ _ (zProa_get c _ h)
theorem zpk_34_0 : zProc [o_iload 1 0, o_con 3 (vI (-10)), o_bad, o_icmpgt 6 10, o_bad, o_bad, o_con 7 (vI 1), o_goto 11, o_bad, o_bad, o_con 11 (vI 0), o_zret] := ⟨zpr_iload, ⟨zpr_con, ⟨zpr_bad, ⟨zpr_icmpgt, ⟨zpr_bad, ⟨zpr_bad, ⟨zpr_con, ⟨zpr_goto, ⟨zpr_bad, ⟨zpr_bad, ⟨zpr_con, ⟨zpr_zret, True.intro⟩⟩⟩⟩⟩⟩⟩⟩⟩⟩⟩⟩
theorem zpk_34 : zProa k_34 := ⟨zpk_34_0, True.intro⟩
theorem zpk_180_0 : zProc [o_aload 1 0, o_getI zshp 4 3 13, o_bad, o_bad, o_aload 5 0, o_getF zshp 8 3 0, o_bad, o_bad, o_alen zshp 9 14, o_icmpge 12 24, o_bad, o_bad, o_iload 13 2, o_iflt 16 24, o_bad, o_bad] := ⟨zpr_aload, ⟨zpr_getI, ⟨zpr_bad, ⟨zpr_bad, ⟨zpr_aload, ⟨zpr_getF, ⟨zpr_bad, ⟨zpr_bad, ⟨zpr_alen, ⟨zpr_icmpge, ⟨zpr_bad, ⟨zpr_bad, ⟨zpr_iload, ⟨zpr_iflt, ⟨zpr_bad, ⟨zpr_bad, True.intro⟩⟩⟩⟩⟩⟩⟩⟩⟩⟩⟩⟩⟩⟩⟩⟩
theorem zpk_180_1 : zProc [o_iload 17 2, o_aload 18 0, o_getI zshp 21 3 13, o_bad, o_bad, o_icmple 24 26, o_bad, o_bad, o_con 25 (vI (-1)), o_iret, o_aload 27 0, o_getI zshp 30 3 13, o_bad, o_bad, o_istore 32 4, o_bad] := ⟨zpr_iload, ⟨zpr_aload, ⟨zpr_getI, ⟨zpr_bad, ⟨zpr_bad, ⟨zpr_icmple, ⟨zpr_bad, ⟨zpr_bad, ⟨zpr_con, ⟨zpr_iret, ⟨zpr_aload, ⟨zpr_getI, ⟨zpr_bad, ⟨zpr_bad, ⟨zpr_istore, ⟨zpr_bad, True.intro⟩⟩⟩⟩⟩⟩⟩⟩⟩⟩⟩⟩⟩⟩⟩⟩
theorem zpk_180_2 : zProc [o_aload 33 0, o_dup 34, o_getI zshp 37 3 13, o_bad, o_bad, o_con 38 (vI 1), o_iadd 39, o_putI zshp 42 3 13, o_bad, o_bad, o_aload 43 0, o_getF zshp 46 3 0, o_bad, o_bad, o_iload 48 4, o_bad] := ⟨zpr_aload, ⟨zpr_dup, ⟨zpr_getI, ⟨zpr_bad, ⟨zpr_bad, ⟨zpr_con, ⟨zpr_iadd, ⟨zpr_putI, ⟨zpr_bad, ⟨zpr_bad, ⟨zpr_aload, ⟨zpr_getF, ⟨zpr_bad, ⟨zpr_bad, ⟨zpr_iload, ⟨zpr_bad, True.intro⟩⟩⟩⟩⟩⟩⟩⟩⟩⟩⟩⟩⟩⟩⟩⟩
theorem zpk_180_3 : zProc [o_iload 49 1, o_iast zshp 50, o_aload 51 0, o_getF zshp 54 3 1, o_bad, o_bad, o_iload 56 4, o_bad, o_con 58 (vI (-2)), o_bad, o_iast zshp 59, o_aload 60 0, o_getF zshp 63 3 2, o_bad, o_bad, o_iload 65 4] := ⟨zpr_iload, ⟨zpr_iast, ⟨zpr_aload, ⟨zpr_getF, ⟨zpr_bad, ⟨zpr_bad, ⟨zpr_iload, ⟨zpr_bad, ⟨zpr_con, ⟨zpr_bad, ⟨zpr_iast, ⟨zpr_aload, ⟨zpr_getF, ⟨zpr_bad, ⟨zpr_bad, ⟨zpr_iload, True.intro⟩⟩⟩⟩⟩⟩⟩⟩⟩⟩⟩⟩⟩⟩⟩⟩
theorem zpk_180_4 : zProc [o_bad, o_con 67 (vI (-2)), o_bad, o_iast zshp 68, o_aload 69 0, o_getF zshp 72 3 3, o_bad, o_bad, o_iload 74 4, o_bad, o_con 76 (vI (-2)), o_bad, o_iast zshp 77, o_aload 78 0, o_getF zshp 81 3 4, o_bad] := ⟨zpr_bad, ⟨zpr_con, ⟨zpr_bad, ⟨zpr_iast, ⟨zpr_aload, ⟨zpr_getF, ⟨zpr_bad, ⟨zpr_bad, ⟨zpr_iload, ⟨zpr_bad, ⟨zpr_con, ⟨zpr_bad, ⟨zpr_iast, ⟨zpr_aload, ⟨zpr_getF, ⟨zpr_bad, True.intro⟩⟩⟩⟩⟩⟩⟩⟩⟩⟩⟩⟩⟩⟩⟩⟩
theorem zpk_180_5 : zProc [o_bad, o_iload 83 4, o_bad, o_con 85 (vI (-2)), o_bad, o_iast zshp 86, o_aload 87 0, o_getF zshp 90 3 5, o_bad, o_bad, o_iload 92 4, o_bad, o_con 94 (vI (-2)), o_bad, o_iast zshp 95, o_aload 96 0] := ⟨zpr_bad, ⟨zpr_iload, ⟨zpr_bad, ⟨zpr_con, ⟨zpr_bad, ⟨zpr_iast, ⟨zpr_aload, ⟨zpr_getF, ⟨zpr_bad, ⟨zpr_bad, ⟨zpr_iload, ⟨zpr_bad, ⟨zpr_con, ⟨zpr_bad, ⟨zpr_iast, ⟨zpr_aload, True.intro⟩⟩⟩⟩⟩⟩⟩⟩⟩⟩⟩⟩⟩⟩⟩⟩
theorem zpk_180_6 : zProc [o_getF zshp 99 3 6, o_bad, o_bad, o_iload 101 4, o_bad, o_iload 102 2, o_iast zshp 103, o_aload 104 0, o_getF zshp 107 3 7, o_bad, o_bad, o_iload 109 4, o_bad, o_iload 110 3, o_iast zshp 111, o_aload 112 0] := ⟨zpr_getF, ⟨zpr_bad, ⟨zpr_bad, ⟨zpr_iload, ⟨zpr_bad, ⟨zpr_iload, ⟨zpr_iast, ⟨zpr_aload, ⟨zpr_getF, ⟨zpr_bad, ⟨zpr_bad, ⟨zpr_iload, ⟨zpr_bad, ⟨zpr_iload, ⟨zpr_iast, ⟨zpr_aload, True.intro⟩⟩⟩⟩⟩⟩⟩⟩⟩⟩⟩⟩⟩⟩⟩⟩
theorem zpk_180_7 : zProc [o_getF zshp 115 3 8, o_bad, o_bad, o_iload 117 4, o_bad, o_con 118 (vI 0), o_iast zshp 119, o_aload 120 0, o_getF zshp 123 3 9, o_bad, o_bad, o_iload 125 4, o_bad, o_iload 127 4, o_bad, o_con 128 (vI 1)] := ⟨zpr_getF, ⟨zpr_bad, ⟨zpr_bad, ⟨zpr_iload, ⟨zpr_bad, ⟨zpr_con, ⟨zpr_iast, ⟨zpr_aload, ⟨zpr_getF, ⟨zpr_bad, ⟨zpr_bad, ⟨zpr_iload, ⟨zpr_bad, ⟨zpr_iload, ⟨zpr_bad, ⟨zpr_con, True.intro⟩⟩⟩⟩⟩⟩⟩⟩⟩⟩⟩⟩⟩⟩⟩⟩
theorem zpk_180_8 : zProc [o_iadd 129, o_iast zshp 130, o_aload 131 0, o_getF zshp 134 3 10, o_bad, o_bad, o_iload 136 4, o_bad, o_iload 138 4, o_bad, o_con 139 (vI 1), o_iadd 140, o_iast zshp 141, o_aload 142 0, o_getF zshp 145 3 11, o_bad] := ⟨zpr_iadd, ⟨zpr_iast, ⟨zpr_aload, ⟨zpr_getF, ⟨zpr_bad, ⟨zpr_bad, ⟨zpr_iload, ⟨zpr_bad, ⟨zpr_iload, ⟨zpr_bad, ⟨zpr_con, ⟨zpr_iadd, ⟨zpr_iast, ⟨zpr_aload, ⟨zpr_getF, ⟨zpr_bad, True.intro⟩⟩⟩⟩⟩⟩⟩⟩⟩⟩⟩⟩⟩⟩⟩⟩
theorem zpk_180_9 : zProc [o_bad, o_iload 147 4, o_bad, o_iload 148 2, o_ifne 151 155, o_bad, o_bad, o_con 152 (vI (-1)), o_goto 163, o_bad, o_bad, o_aload 156 0, o_getF zshp 159 3 12, o_bad, o_bad, o_iload 160 2] := ⟨zpr_bad, ⟨zpr_iload, ⟨zpr_bad, ⟨zpr_iload, ⟨zpr_ifne, ⟨zpr_bad, ⟨zpr_bad, ⟨zpr_con, ⟨zpr_goto, ⟨zpr_bad, ⟨zpr_bad, ⟨zpr_aload, ⟨zpr_getF, ⟨zpr_bad, ⟨zpr_bad, ⟨zpr_iload, True.intro⟩⟩⟩⟩⟩⟩⟩⟩⟩⟩⟩⟩⟩⟩⟩⟩
theorem zpk_180_10 : zProc [o_con 161 (vI 1), o_isub 162, o_ald zshp 163 14, o_iast zshp 164, o_aload 165 0, o_getF zshp 168 3 12, o_bad, o_bad, o_iload 169 2, o_iload 171 4, o_bad, o_iast zshp 172, o_aload 173 0, o_iload 175 4, o_bad, o_inv zshp 178 181 2 3 0 5] := ⟨zpr_con, ⟨zpr_isub, ⟨zpr_ald, ⟨zpr_iast, ⟨zpr_aload, ⟨zpr_getF, ⟨zpr_bad, ⟨zpr_bad, ⟨zpr_iload, ⟨zpr_iload, ⟨zpr_bad, ⟨zpr_iast, ⟨zpr_aload, ⟨zpr_iload, ⟨zpr_bad, ⟨(zpr_inv rfl), True.intro⟩⟩⟩⟩⟩⟩⟩⟩⟩⟩⟩⟩⟩⟩⟩⟩
theorem zpk_180_11 : zProc [o_bad, o_bad, o_iload 180 4, o_bad, o_iret] := ⟨zpr_bad, ⟨zpr_bad, ⟨zpr_iload, ⟨zpr_bad, ⟨zpr_iret, True.intro⟩⟩⟩⟩⟩
theorem zpk_180 : zProa k_180 := ⟨zpk_180_0, ⟨zpk_180_1, ⟨zpk_180_2, ⟨zpk_180_3, ⟨zpk_180_4, ⟨zpk_180_5, ⟨zpk_180_6, ⟨zpk_180_7, ⟨zpk_180_8, ⟨zpk_180_9, ⟨zpk_180_10, ⟨zpk_180_11, True.intro⟩⟩⟩⟩⟩⟩⟩⟩⟩⟩⟩⟩
theorem zpk_181_0 : zProc [o_iload 1 1, o_istore 2 2, o_aload 3 0, o_getF zshp 6 3 6, o_bad, o_bad, o_iload 7 1, o_ald zshp 8 14, o_istore 9 3, o_iload 10 3, o_ifle 13 59, o_bad, o_bad, o_aload 14 0, o_getF zshp 17 3 11, o_bad] := ⟨zpr_iload, ⟨zpr_istore, ⟨zpr_aload, ⟨zpr_getF, ⟨zpr_bad, ⟨zpr_bad, ⟨zpr_iload, ⟨zpr_ald, ⟨zpr_istore, ⟨zpr_iload, ⟨zpr_ifle, ⟨zpr_bad, ⟨zpr_bad, ⟨zpr_aload, ⟨zpr_getF, ⟨zpr_bad, True.intro⟩⟩⟩⟩⟩⟩⟩⟩⟩⟩⟩⟩⟩⟩⟩⟩
theorem zpk_181_1 : zProc [o_bad, o_iload 18 2, o_ald zshp 19 14, o_istore 21 4, o_bad, o_aload 22 0, o_getF zshp 25 3 7, o_bad, o_bad, o_iload 26 2, o_ald zshp 27 14, o_ifne 30 40, o_bad, o_bad, o_aload 31 0, o_getF zshp 34 3 9] := ⟨zpr_bad, ⟨zpr_iload, ⟨zpr_ald, ⟨zpr_istore, ⟨zpr_bad, ⟨zpr_aload, ⟨zpr_getF, ⟨zpr_bad, ⟨zpr_bad, ⟨zpr_iload, ⟨zpr_ald, ⟨zpr_ifne, ⟨zpr_bad, ⟨zpr_bad, ⟨zpr_aload, ⟨zpr_getF, True.intro⟩⟩⟩⟩⟩⟩⟩⟩⟩⟩⟩⟩⟩⟩⟩⟩
theorem zpk_181_2 : zProc [o_bad, o_bad, o_iload 36 4, o_bad, o_iload 37 1, o_con 38 (vI 1), o_iadd 39, o_iast zshp 40, o_aload 41 0, o_getF zshp 44 3 10, o_bad, o_bad, o_iload 46 4, o_bad, o_iload 47 1, o_con 48 (vI 1)] := ⟨zpr_bad, ⟨zpr_bad, ⟨zpr_iload, ⟨zpr_bad, ⟨zpr_iload, ⟨zpr_con, ⟨zpr_iadd, ⟨zpr_iast, ⟨zpr_aload, ⟨zpr_getF, ⟨zpr_bad, ⟨zpr_bad, ⟨zpr_iload, ⟨zpr_bad, ⟨zpr_iload, ⟨zpr_con, True.intro⟩⟩⟩⟩⟩⟩⟩⟩⟩⟩⟩⟩⟩⟩⟩⟩
theorem zpk_181_3 : zProc [o_iadd 49, o_iast zshp 50, o_iload 52 4, o_bad, o_istore 53 2, o_iinc 56 3 (-1), o_bad, o_bad, o_goto 9, o_bad, o_bad, o_ret] := ⟨zpr_iadd, ⟨zpr_iast, ⟨zpr_iload, ⟨zpr_bad, ⟨zpr_istore, ⟨zpr_iinc, ⟨zpr_bad, ⟨zpr_bad, ⟨zpr_goto, ⟨zpr_bad, ⟨zpr_bad, ⟨zpr_ret, True.intro⟩⟩⟩⟩⟩⟩⟩⟩⟩⟩⟩⟩
theorem zpk_181 : zProa k_181 := ⟨zpk_181_0, ⟨zpk_181_1, ⟨zpk_181_2, ⟨zpk_181_3, True.intro⟩⟩⟩⟩
theorem zpk_182_0 : zProc [o_iload 1 2, o_ifne 4 13, o_bad, o_bad, o_aload 5 0, o_getF zshp 8 3 2, o_bad, o_bad, o_iload 9 1, o_ald zshp 10 14, o_goto 33, o_bad, o_bad, o_iload 14 2, o_con 15 (vI 1), o_icmpne 18 27] := ⟨zpr_iload, ⟨zpr_ifne, ⟨zpr_bad, ⟨zpr_bad, ⟨zpr_aload, ⟨zpr_getF, ⟨zpr_bad, ⟨zpr_bad, ⟨zpr_iload, ⟨zpr_ald, ⟨zpr_goto, ⟨zpr_bad, ⟨zpr_bad, ⟨zpr_iload, ⟨zpr_con, ⟨zpr_icmpne, True.intro⟩⟩⟩⟩⟩⟩⟩⟩⟩⟩⟩⟩⟩⟩⟩⟩
theorem zpk_182_1 : zProc [o_bad, o_bad, o_aload 19 0, o_getF zshp 22 3 3, o_bad, o_bad, o_iload 23 1, o_ald zshp 24 14, o_goto 33, o_bad, o_bad, o_aload 28 0, o_getF zshp 31 3 4, o_bad, o_bad, o_iload 32 1] := ⟨zpr_bad, ⟨zpr_bad, ⟨zpr_aload, ⟨zpr_getF, ⟨zpr_bad, ⟨zpr_bad, ⟨zpr_iload, ⟨zpr_ald, ⟨zpr_goto, ⟨zpr_bad, ⟨zpr_bad, ⟨zpr_aload, ⟨zpr_getF, ⟨zpr_bad, ⟨zpr_bad, ⟨zpr_iload, True.intro⟩⟩⟩⟩⟩⟩⟩⟩⟩⟩⟩⟩⟩⟩⟩⟩
theorem zpk_182_2 : zProc [o_ald zshp 33 14, o_iret] := ⟨zpr_ald, ⟨zpr_iret, True.intro⟩⟩
theorem zpk_182 : zProa k_182 := ⟨zpk_182_0, ⟨zpk_182_1, ⟨zpk_182_2, True.intro⟩⟩⟩
theorem zpk_214_0 : zProc [o_aload 1 0, o_getF zshp 4 7 10, o_bad, o_bad, o_iload 5 1, o_ald zshp 6 14, o_con 8 (vI (-2)), o_bad, o_icmpeq 11 15, o_bad, o_bad, o_con 12 (vI 1), o_goto 16, o_bad, o_bad, o_con 16 (vI 0)] := ⟨zpr_aload, ⟨zpr_getF, ⟨zpr_bad, ⟨zpr_bad, ⟨zpr_iload, ⟨zpr_ald, ⟨zpr_con, ⟨zpr_bad, ⟨zpr_icmpeq, ⟨zpr_bad, ⟨zpr_bad, ⟨zpr_con, ⟨zpr_goto, ⟨zpr_bad, ⟨zpr_bad, ⟨zpr_con, True.intro⟩⟩⟩⟩⟩⟩⟩⟩⟩⟩⟩⟩⟩⟩⟩⟩
theorem zpk_214_1 : zProc [o_zret] := ⟨zpr_zret, True.intro⟩
theorem zpk_214 : zProa k_214 := ⟨zpk_214_0, ⟨zpk_214_1, True.intro⟩⟩
theorem zpk_255_0 : zProc [o_aload 1 0, o_aload 2 1, o_putP zshp 5 9 3, o_bad, o_bad, o_aload 6 0, o_getF zshp 9 9 0, o_bad, o_bad, o_con 10 (vI 0), o_putI zshp 13 3 13, o_bad, o_bad, o_aload 14 2, o_getF zshp 17 10 0, o_bad] := ⟨zpr_aload, ⟨zpr_aload, ⟨zpr_putP, ⟨zpr_bad, ⟨zpr_bad, ⟨zpr_aload, ⟨zpr_getF, ⟨zpr_bad, ⟨zpr_bad, ⟨zpr_con, ⟨zpr_putI, ⟨zpr_bad, ⟨zpr_bad, ⟨zpr_aload, ⟨zpr_getF, ⟨zpr_bad, True.intro⟩⟩⟩⟩⟩⟩⟩⟩⟩⟩⟩⟩⟩⟩⟩⟩
theorem zpk_255_1 : zProc [o_bad, o_con 18 (vI 0), o_aald zshp 19, o_getI zshp 22 1 1, o_bad, o_bad, o_istore 23 3, o_aload 24 0, o_aload 25 0, o_getP zshp 28 9 3, o_bad, o_bad, o_getF zshp 31 7 4, o_bad, o_bad, o_iload 32 3] := ⟨zpr_bad, ⟨zpr_con, ⟨zpr_aald, ⟨zpr_getI, ⟨zpr_bad, ⟨zpr_bad, ⟨zpr_istore, ⟨zpr_aload, ⟨zpr_aload, ⟨zpr_getP, ⟨zpr_bad, ⟨zpr_bad, ⟨zpr_getF, ⟨zpr_bad, ⟨zpr_bad, ⟨zpr_iload, True.intro⟩⟩⟩⟩⟩⟩⟩⟩⟩⟩⟩⟩⟩⟩⟩⟩
theorem zpk_255_2 : zProc [o_ald zshp 33 14, o_putI zshp 36 9 2, o_bad, o_bad, o_aload 37 0, o_aload 38 0, o_getP zshp 41 9 3, o_bad, o_bad, o_getF zshp 44 7 5, o_bad, o_bad, o_iload 45 3, o_ald zshp 46 14, o_putI zshp 49 9 1, o_bad] := ⟨zpr_ald, ⟨zpr_putI, ⟨zpr_bad, ⟨zpr_bad, ⟨zpr_aload, ⟨zpr_aload, ⟨zpr_getP, ⟨zpr_bad, ⟨zpr_bad, ⟨zpr_getF, ⟨zpr_bad, ⟨zpr_bad, ⟨zpr_iload, ⟨zpr_ald, ⟨zpr_putI, ⟨zpr_bad, True.intro⟩⟩⟩⟩⟩⟩⟩⟩⟩⟩⟩⟩⟩⟩⟩⟩
theorem zpk_255_3 : zProc [o_bad, o_aload 50 0, o_aload 51 2, o_aload 52 2, o_getF zshp 55 10 0, o_bad, o_bad, o_con 56 (vI 0), o_aald zshp 57, o_con 58 (vI 0), o_con 59 (vI 0), o_con 60 (vI 0), o_inv zshp 63 256 6 9 0 12, o_bad, o_bad, o_ret] := ⟨zpr_bad, ⟨zpr_aload, ⟨zpr_aload, ⟨zpr_aload, ⟨zpr_getF, ⟨zpr_bad, ⟨zpr_bad, ⟨zpr_con, ⟨zpr_aald, ⟨zpr_con, ⟨zpr_con, ⟨zpr_con, ⟨(zpr_inv rfl), ⟨zpr_bad, ⟨zpr_bad, ⟨zpr_ret, True.intro⟩⟩⟩⟩⟩⟩⟩⟩⟩⟩⟩⟩⟩⟩⟩⟩
theorem zpk_255 : zProa k_255 := ⟨zpk_255_0, ⟨zpk_255_1, ⟨zpk_255_2, ⟨zpk_255_3, True.intro⟩⟩⟩⟩
theorem zpk_256_0 : zProc [o_aload 1 2, o_getI zshp 4 1 3, o_bad, o_bad, o_con 6 (vI 40), o_bad, o_icmple 9 10, o_bad, o_bad, o_ret, o_aload 11 0, o_getP zshp 14 9 3, o_bad, o_bad, o_getF zshp 17 7 16, o_bad] := ⟨zpr_aload, ⟨zpr_getI, ⟨zpr_bad, ⟨zpr_bad, ⟨zpr_con, ⟨zpr_bad, ⟨zpr_icmple, ⟨zpr_bad, ⟨zpr_bad, ⟨zpr_ret, ⟨zpr_aload, ⟨zpr_getP, ⟨zpr_bad, ⟨zpr_bad, ⟨zpr_getF, ⟨zpr_bad, True.intro⟩⟩⟩⟩⟩⟩⟩⟩⟩⟩⟩⟩⟩⟩⟩⟩
theorem zpk_256_1 : zProc [o_bad, o_astore 19 6, o_bad, o_aload 20 2, o_getI zshp 23 1 1, o_bad, o_bad, o_istore 25 7, o_bad, o_aload 26 0, o_getP zshp 29 9 3, o_bad, o_bad, o_getF zshp 32 7 6, o_bad, o_bad] := ⟨zpr_bad, ⟨zpr_astore, ⟨zpr_bad, ⟨zpr_aload, ⟨zpr_getI, ⟨zpr_bad, ⟨zpr_bad, ⟨zpr_istore, ⟨zpr_bad, ⟨zpr_aload, ⟨zpr_getP, ⟨zpr_bad, ⟨zpr_bad, ⟨zpr_getF, ⟨zpr_bad, ⟨zpr_bad, True.intro⟩⟩⟩⟩⟩⟩⟩⟩⟩⟩⟩⟩⟩⟩⟩⟩
theorem zpk_256_2 : zProc [o_iload 34 7, o_bad, o_ald zshp 35 14, o_istore 37 8, o_bad, o_iload 39 8, o_bad, o_aload 40 0, o_getP zshp 43 9 3, o_bad, o_bad, o_getF zshp 46 7 6, o_bad, o_bad, o_iload 48 7, o_bad] := ⟨zpr_iload, ⟨zpr_bad, ⟨zpr_ald, ⟨zpr_istore, ⟨zpr_bad, ⟨zpr_iload, ⟨zpr_bad, ⟨zpr_aload, ⟨zpr_getP, ⟨zpr_bad, ⟨zpr_bad, ⟨zpr_getF, ⟨zpr_bad, ⟨zpr_bad, ⟨zpr_iload, ⟨zpr_bad, True.intro⟩⟩⟩⟩⟩⟩⟩⟩⟩⟩⟩⟩⟩⟩⟩⟩
theorem zpk_256_3 : zProc [o_ald zshp 49 14, o_aload 50 0, o_getP zshp 53 9 3, o_bad, o_bad, o_getF zshp 56 7 7, o_bad, o_bad, o_iload 58 7, o_bad, o_ald zshp 59 14, o_iadd 60, o_icmpge 63 223, o_bad, o_bad, o_iload 65 4] := ⟨zpr_ald, ⟨zpr_aload, ⟨zpr_getP, ⟨zpr_bad, ⟨zpr_bad, ⟨zpr_getF, ⟨zpr_bad, ⟨zpr_bad, ⟨zpr_iload, ⟨zpr_bad, ⟨zpr_ald, ⟨zpr_iadd, ⟨zpr_icmpge, ⟨zpr_bad, ⟨zpr_bad, ⟨zpr_iload, True.intro⟩⟩⟩⟩⟩⟩⟩⟩⟩⟩⟩⟩⟩⟩⟩⟩
theorem zpk_256_4 : zProc [o_bad, o_aload 67 6, o_bad, o_getF zshp 70 3 6, o_bad, o_bad, o_iload 72 8, o_bad, o_ald zshp 73 14, o_iadd 74, o_istore 76 9, o_bad, o_aload 78 6, o_bad, o_getF zshp 81 3 6, o_bad] := ⟨zpr_bad, ⟨zpr_aload, ⟨zpr_bad, ⟨zpr_getF, ⟨zpr_bad, ⟨zpr_bad, ⟨zpr_iload, ⟨zpr_bad, ⟨zpr_ald, ⟨zpr_iadd, ⟨zpr_istore, ⟨zpr_bad, ⟨zpr_aload, ⟨zpr_bad, ⟨zpr_getF, ⟨zpr_bad, True.intro⟩⟩⟩⟩⟩⟩⟩⟩⟩⟩⟩⟩⟩⟩⟩⟩
theorem zpk_256_5 : zProc [o_bad, o_iload 83 8, o_bad, o_ald zshp 84 14, o_ifne 87 92, o_bad, o_bad, o_iload 89 5, o_bad, o_goto 100, o_bad, o_bad, o_aload 94 6, o_bad, o_getF zshp 97 3 7, o_bad] := ⟨zpr_bad, ⟨zpr_iload, ⟨zpr_bad, ⟨zpr_ald, ⟨zpr_ifne, ⟨zpr_bad, ⟨zpr_bad, ⟨zpr_iload, ⟨zpr_bad, ⟨zpr_goto, ⟨zpr_bad, ⟨zpr_bad, ⟨zpr_aload, ⟨zpr_bad, ⟨zpr_getF, ⟨zpr_bad, True.intro⟩⟩⟩⟩⟩⟩⟩⟩⟩⟩⟩⟩⟩⟩⟩⟩
theorem zpk_256_6 : zProc [o_bad, o_iload 99 8, o_bad, o_ald zshp 100 14, o_istore 102 10, o_bad, o_aload 103 2, o_getI zshp 106 1 5, o_bad, o_bad, o_aload 108 6, o_bad, o_getF zshp 111 3 5, o_bad, o_bad, o_iload 113 8] := ⟨zpr_bad, ⟨zpr_iload, ⟨zpr_bad, ⟨zpr_ald, ⟨zpr_istore, ⟨zpr_bad, ⟨zpr_aload, ⟨zpr_getI, ⟨zpr_bad, ⟨zpr_bad, ⟨zpr_aload, ⟨zpr_bad, ⟨zpr_getF, ⟨zpr_bad, ⟨zpr_bad, ⟨zpr_iload, True.intro⟩⟩⟩⟩⟩⟩⟩⟩⟩⟩⟩⟩⟩⟩⟩⟩
theorem zpk_256_7 : zProc [o_bad, o_ald zshp 114 14, o_iadd 115, o_aload 116 0, o_getP zshp 119 9 3, o_bad, o_bad, o_getF zshp 122 7 8, o_bad, o_bad, o_iload 124 7, o_bad, o_ald zshp 125 14, o_isub 126, o_istore 128 11, o_bad] := ⟨zpr_bad, ⟨zpr_ald, ⟨zpr_iadd, ⟨zpr_aload, ⟨zpr_getP, ⟨zpr_bad, ⟨zpr_bad, ⟨zpr_getF, ⟨zpr_bad, ⟨zpr_bad, ⟨zpr_iload, ⟨zpr_bad, ⟨zpr_ald, ⟨zpr_isub, ⟨zpr_istore, ⟨zpr_bad, True.intro⟩⟩⟩⟩⟩⟩⟩⟩⟩⟩⟩⟩⟩⟩⟩⟩
theorem zpk_256_8 : zProc [o_aload 130 6, o_bad, o_getF zshp 133 3 0, o_bad, o_bad, o_iload 135 8, o_bad, o_ald zshp 136 14, o_con 138 (vI 6), o_bad, o_icmpne 141 186, o_bad, o_bad, o_iload 143 11, o_bad, o_aload 144 1] := ⟨zpr_aload, ⟨zpr_bad, ⟨zpr_getF, ⟨zpr_bad, ⟨zpr_bad, ⟨zpr_iload, ⟨zpr_bad, ⟨zpr_ald, ⟨zpr_con, ⟨zpr_bad, ⟨zpr_icmpne, ⟨zpr_bad, ⟨zpr_bad, ⟨zpr_iload, ⟨zpr_bad, ⟨zpr_aload, True.intro⟩⟩⟩⟩⟩⟩⟩⟩⟩⟩⟩⟩⟩⟩⟩⟩
theorem zpk_256_9 : zProc [o_getF zshp 147 10 0, o_bad, o_bad, o_alen zshp 148 17, o_icmpge 151 186, o_bad, o_bad, o_aload 152 1, o_getF zshp 155 10 0, o_bad, o_bad, o_iload 157 11, o_bad, o_aald zshp 158, o_getI zshp 161 1 6, o_bad] := ⟨zpr_getF, ⟨zpr_bad, ⟨zpr_bad, ⟨zpr_alen, ⟨zpr_icmpge, ⟨zpr_bad, ⟨zpr_bad, ⟨zpr_aload, ⟨zpr_getF, ⟨zpr_bad, ⟨zpr_bad, ⟨zpr_iload, ⟨zpr_bad, ⟨zpr_aald, ⟨zpr_getI, ⟨zpr_bad, True.intro⟩⟩⟩⟩⟩⟩⟩⟩⟩⟩⟩⟩⟩⟩⟩⟩
theorem zpk_256_10 : zProc [o_bad, o_ifeq 164 186, o_bad, o_bad, o_aload 165 0, o_aload 166 1, o_aload 167 1, o_getF zshp 170 10 0, o_bad, o_bad, o_iload 172 11, o_bad, o_aald zshp 173, o_iload 175 8, o_bad, o_iload 176 3] := ⟨zpr_bad, ⟨zpr_ifeq, ⟨zpr_bad, ⟨zpr_bad, ⟨zpr_aload, ⟨zpr_aload, ⟨zpr_aload, ⟨zpr_getF, ⟨zpr_bad, ⟨zpr_bad, ⟨zpr_iload, ⟨zpr_bad, ⟨zpr_aald, ⟨zpr_iload, ⟨zpr_bad, ⟨zpr_iload, True.intro⟩⟩⟩⟩⟩⟩⟩⟩⟩⟩⟩⟩⟩⟩⟩⟩
theorem zpk_256_11 : zProc [o_iload 178 9, o_bad, o_iload 180 10, o_bad, o_inv zshp 183 257 7 9 0 11, o_bad, o_bad, o_goto 217, o_bad, o_bad, o_aload 188 6, o_bad, o_getF zshp 191 3 0, o_bad, o_bad, o_iload 193 8] := ⟨zpr_iload, ⟨zpr_bad, ⟨zpr_iload, ⟨zpr_bad, ⟨(zpr_inv rfl), ⟨zpr_bad, ⟨zpr_bad, ⟨zpr_goto, ⟨zpr_bad, ⟨zpr_bad, ⟨zpr_aload, ⟨zpr_bad, ⟨zpr_getF, ⟨zpr_bad, ⟨zpr_bad, ⟨zpr_iload, True.intro⟩⟩⟩⟩⟩⟩⟩⟩⟩⟩⟩⟩⟩⟩⟩⟩
theorem zpk_256_12 : zProc [o_bad, o_ald zshp 194 14, o_con 196 (vI 9), o_bad, o_icmpne 199 206, o_bad, o_bad, o_aload 200 2, o_getI zshp 203 1 3, o_bad, o_bad, o_ifne 206 217, o_bad, o_bad, o_aload 207 0, o_iload 209 8] := ⟨zpr_bad, ⟨zpr_ald, ⟨zpr_con, ⟨zpr_bad, ⟨zpr_icmpne, ⟨zpr_bad, ⟨zpr_bad, ⟨zpr_aload, ⟨zpr_getI, ⟨zpr_bad, ⟨zpr_bad, ⟨zpr_ifne, ⟨zpr_bad, ⟨zpr_bad, ⟨zpr_aload, ⟨zpr_iload, True.intro⟩⟩⟩⟩⟩⟩⟩⟩⟩⟩⟩⟩⟩⟩⟩⟩
theorem zpk_256_13 : zProc [o_bad, o_iload 210 3, o_iload 212 9, o_bad, o_iload 214 10, o_bad, o_inv zshp 217 259 5 9 0 7, o_bad, o_bad, o_iinc 220 8 1, o_bad, o_bad, o_goto 37, o_bad, o_bad, o_ret] := ⟨zpr_bad, ⟨zpr_iload, ⟨zpr_iload, ⟨zpr_bad, ⟨zpr_iload, ⟨zpr_bad, ⟨(zpr_inv rfl), ⟨zpr_bad, ⟨zpr_bad, ⟨zpr_iinc, ⟨zpr_bad, ⟨zpr_bad, ⟨zpr_goto, ⟨zpr_bad, ⟨zpr_bad, ⟨zpr_ret, True.intro⟩⟩⟩⟩⟩⟩⟩⟩⟩⟩⟩⟩⟩⟩⟩⟩
theorem zpk_256 : zProa k_256 := ⟨zpk_256_0, ⟨zpk_256_1, ⟨zpk_256_2, ⟨zpk_256_3, ⟨zpk_256_4, ⟨zpk_256_5, ⟨zpk_256_6, ⟨zpk_256_7, ⟨zpk_256_8, ⟨zpk_256_9, ⟨zpk_256_10, ⟨zpk_256_11, ⟨zpk_256_12, ⟨zpk_256_13, True.intro⟩⟩⟩⟩⟩⟩⟩⟩⟩⟩⟩⟩⟩⟩
theorem zpk_257_0 : zProc [o_aload 1 2, o_getI zshp 4 1 1, o_bad, o_bad, o_istore 6 7, o_bad, o_aload 7 0, o_getI zshp 10 9 1, o_bad, o_bad, o_istore 12 8, o_bad, o_aload 13 0, o_dup 14, o_getI zshp 17 9 1, o_bad] := ⟨zpr_aload, ⟨zpr_getI, ⟨zpr_bad, ⟨zpr_bad, ⟨zpr_istore, ⟨zpr_bad, ⟨zpr_aload, ⟨zpr_getI, ⟨zpr_bad, ⟨zpr_bad, ⟨zpr_istore, ⟨zpr_bad, ⟨zpr_aload, ⟨zpr_dup, ⟨zpr_getI, ⟨zpr_bad, True.intro⟩⟩⟩⟩⟩⟩⟩⟩⟩⟩⟩⟩⟩⟩⟩⟩
theorem zpk_257_1 : zProc [o_bad, o_aload 18 0, o_getP zshp 21 9 3, o_bad, o_bad, o_getF zshp 24 7 5, o_bad, o_bad, o_iload 26 7, o_bad, o_ald zshp 27 14, o_iadd 28, o_putI zshp 31 9 1, o_bad, o_bad, o_con 32 (vI 0)] := ⟨zpr_bad, ⟨zpr_aload, ⟨zpr_getP, ⟨zpr_bad, ⟨zpr_bad, ⟨zpr_getF, ⟨zpr_bad, ⟨zpr_bad, ⟨zpr_iload, ⟨zpr_bad, ⟨zpr_ald, ⟨zpr_iadd, ⟨zpr_putI, ⟨zpr_bad, ⟨zpr_bad, ⟨zpr_con, True.intro⟩⟩⟩⟩⟩⟩⟩⟩⟩⟩⟩⟩⟩⟩⟩⟩
theorem zpk_257_2 : zProc [o_istore 34 9, o_bad, o_iload 36 9, o_bad, o_aload 37 0, o_getP zshp 40 9 3, o_bad, o_bad, o_getF zshp 43 7 5, o_bad, o_bad, o_iload 45 7, o_bad, o_ald zshp 46 14, o_icmpge 49 109, o_bad] := ⟨zpr_istore, ⟨zpr_bad, ⟨zpr_iload, ⟨zpr_bad, ⟨zpr_aload, ⟨zpr_getP, ⟨zpr_bad, ⟨zpr_bad, ⟨zpr_getF, ⟨zpr_bad, ⟨zpr_bad, ⟨zpr_iload, ⟨zpr_bad, ⟨zpr_ald, ⟨zpr_icmpge, ⟨zpr_bad, True.intro⟩⟩⟩⟩⟩⟩⟩⟩⟩⟩⟩⟩⟩⟩⟩⟩
theorem zpk_257_3 : zProc [o_bad, o_iload 51 9, o_bad, o_aload 52 0, o_getP zshp 55 9 3, o_bad, o_bad, o_getF zshp 58 7 4, o_bad, o_bad, o_iload 60 7, o_bad, o_ald zshp 61 14, o_icmpge 64 85, o_bad, o_bad] := ⟨zpr_bad, ⟨zpr_iload, ⟨zpr_bad, ⟨zpr_aload, ⟨zpr_getP, ⟨zpr_bad, ⟨zpr_bad, ⟨zpr_getF, ⟨zpr_bad, ⟨zpr_bad, ⟨zpr_iload, ⟨zpr_bad, ⟨zpr_ald, ⟨zpr_icmpge, ⟨zpr_bad, ⟨zpr_bad, True.intro⟩⟩⟩⟩⟩⟩⟩⟩⟩⟩⟩⟩⟩⟩⟩⟩
theorem zpk_257_4 : zProc [o_aload 65 0, o_getP zshp 68 9 3, o_bad, o_bad, o_getF zshp 71 7 16, o_bad, o_bad, o_iload 72 3, o_iload 74 9, o_bad, o_inv zshp 77 182 3 3 1 3, o_bad, o_bad, o_iload 79 4, o_bad, o_inv zshp 82 260 2 99 1 2] := ⟨zpr_aload, ⟨zpr_getP, ⟨zpr_bad, ⟨zpr_bad, ⟨zpr_getF, ⟨zpr_bad, ⟨zpr_bad, ⟨zpr_iload, ⟨zpr_iload, ⟨zpr_bad, ⟨(zpr_inv rfl), ⟨zpr_bad, ⟨zpr_bad, ⟨zpr_iload, ⟨zpr_bad, ⟨(zpr_inv rfl), True.intro⟩⟩⟩⟩⟩⟩⟩⟩⟩⟩⟩⟩⟩⟩⟩⟩
theorem zpk_257_5 : zProc [o_bad, o_bad, o_goto 86, o_bad, o_bad, o_con 86 (vI 0), o_istore 88 10, o_bad, o_aload 89 0, o_iload 91 8, o_bad, o_iload 93 9, o_bad, o_iadd 94, o_iload 96 10, o_bad] := ⟨zpr_bad, ⟨zpr_bad, ⟨zpr_goto, ⟨zpr_bad, ⟨zpr_bad, ⟨zpr_con, ⟨zpr_istore, ⟨zpr_bad, ⟨zpr_aload, ⟨zpr_iload, ⟨zpr_bad, ⟨zpr_iload, ⟨zpr_bad, ⟨zpr_iadd, ⟨zpr_iload, ⟨zpr_bad, True.intro⟩⟩⟩⟩⟩⟩⟩⟩⟩⟩⟩⟩⟩⟩⟩⟩
theorem zpk_257_6 : zProc [o_iload 98 5, o_bad, o_iload 100 6, o_bad, o_inv zshp 103 258 5 9 0 6, o_bad, o_bad, o_iinc 106 9 1, o_bad, o_bad, o_goto 34, o_bad, o_bad, o_aload 110 0, o_aload 111 1, o_aload 112 2] := ⟨zpr_iload, ⟨zpr_bad, ⟨zpr_iload, ⟨zpr_bad, ⟨(zpr_inv rfl), ⟨zpr_bad, ⟨zpr_bad, ⟨zpr_iinc, ⟨zpr_bad, ⟨zpr_bad, ⟨zpr_goto, ⟨zpr_bad, ⟨zpr_bad, ⟨zpr_aload, ⟨zpr_aload, ⟨zpr_aload, True.intro⟩⟩⟩⟩⟩⟩⟩⟩⟩⟩⟩⟩⟩⟩⟩⟩
theorem zpk_257_7 : zProc [o_iload 114 8, o_bad, o_iload 116 5, o_bad, o_iload 118 6, o_bad, o_inv zshp 121 256 6 9 0 12, o_bad, o_bad, o_aload 122 0, o_getP zshp 125 9 3, o_bad, o_bad, o_iload 127 7, o_bad, o_inv zshp 130 214 2 7 1 2] := ⟨zpr_iload, ⟨zpr_bad, ⟨zpr_iload, ⟨zpr_bad, ⟨zpr_iload, ⟨zpr_bad, ⟨(zpr_inv rfl), ⟨zpr_bad, ⟨zpr_bad, ⟨zpr_aload, ⟨zpr_getP, ⟨zpr_bad, ⟨zpr_bad, ⟨zpr_iload, ⟨zpr_bad, ⟨(zpr_inv rfl), True.intro⟩⟩⟩⟩⟩⟩⟩⟩⟩⟩⟩⟩⟩⟩⟩⟩
theorem zpk_257_8 : zProc [o_bad, o_bad, o_ifeq 133 151, o_bad, o_bad, o_aload 134 0, o_getP zshp 137 9 3, o_bad, o_bad, o_getF zshp 140 7 10, o_bad, o_bad, o_iload 142 7, o_bad, o_ald zshp 143 14, o_iload 145 8] := ⟨zpr_bad, ⟨zpr_bad, ⟨zpr_ifeq, ⟨zpr_bad, ⟨zpr_bad, ⟨zpr_aload, ⟨zpr_getP, ⟨zpr_bad, ⟨zpr_bad, ⟨zpr_getF, ⟨zpr_bad, ⟨zpr_bad, ⟨zpr_iload, ⟨zpr_bad, ⟨zpr_ald, ⟨zpr_iload, True.intro⟩⟩⟩⟩⟩⟩⟩⟩⟩⟩⟩⟩⟩⟩⟩⟩
theorem zpk_257_9 : zProc [o_bad, o_inv zshp 148 260 2 99 1 2, o_bad, o_bad, o_goto 152, o_bad, o_bad, o_con 152 (vI 0), o_istore 154 9, o_bad, o_aload 155 0, o_aload 156 0, o_getP zshp 159 9 3, o_bad, o_bad, o_getF zshp 162 7 16] := ⟨zpr_bad, ⟨(zpr_inv rfl), ⟨zpr_bad, ⟨zpr_bad, ⟨zpr_goto, ⟨zpr_bad, ⟨zpr_bad, ⟨zpr_con, ⟨zpr_istore, ⟨zpr_bad, ⟨zpr_aload, ⟨zpr_aload, ⟨zpr_getP, ⟨zpr_bad, ⟨zpr_bad, ⟨zpr_getF, True.intro⟩⟩⟩⟩⟩⟩⟩⟩⟩⟩⟩⟩⟩⟩⟩⟩
theorem zpk_257_10 : zProc [o_bad, o_bad, o_getF zshp 165 3 1, o_bad, o_bad, o_iload 166 3, o_ald zshp 167 14, o_iload 169 4, o_bad, o_iadd 170, o_iload 172 9, o_bad, o_iload 174 5, o_bad, o_iload 176 6, o_bad] := ⟨zpr_bad, ⟨zpr_bad, ⟨zpr_getF, ⟨zpr_bad, ⟨zpr_bad, ⟨zpr_iload, ⟨zpr_ald, ⟨zpr_iload, ⟨zpr_bad, ⟨zpr_iadd, ⟨zpr_iload, ⟨zpr_bad, ⟨zpr_iload, ⟨zpr_bad, ⟨zpr_iload, ⟨zpr_bad, True.intro⟩⟩⟩⟩⟩⟩⟩⟩⟩⟩⟩⟩⟩⟩⟩⟩
theorem zpk_257_11 : zProc [o_inv zshp 179 258 5 9 0 6, o_bad, o_bad, o_ret] := ⟨(zpr_inv rfl), ⟨zpr_bad, ⟨zpr_bad, ⟨zpr_ret, True.intro⟩⟩⟩⟩
theorem zpk_257 : zProa k_257 := ⟨zpk_257_0, ⟨zpk_257_1, ⟨zpk_257_2, ⟨zpk_257_3, ⟨zpk_257_4, ⟨zpk_257_5, ⟨zpk_257_6, ⟨zpk_257_7, ⟨zpk_257_8, ⟨zpk_257_9, ⟨zpk_257_10, ⟨zpk_257_11, True.intro⟩⟩⟩⟩⟩⟩⟩⟩⟩⟩⟩⟩
theorem zpk_258_0 : zProc [o_aload 1 0, o_getF zshp 4 9 0, o_bad, o_bad, o_con 5 (vI 0), o_iload 6 3, o_iload 8 4, o_bad, o_inv zshp 11 180 4 3 1 5, o_bad, o_bad, o_istore 13 5, o_bad, o_iload 15 5, o_bad, o_con 16 (vI (-1))] := ⟨zpr_aload, ⟨zpr_getF, ⟨zpr_bad, ⟨zpr_bad, ⟨zpr_con, ⟨zpr_iload, ⟨zpr_iload, ⟨zpr_bad, ⟨(zpr_inv rfl), ⟨zpr_bad, ⟨zpr_bad, ⟨zpr_istore, ⟨zpr_bad, ⟨zpr_iload, ⟨zpr_bad, ⟨zpr_con, True.intro⟩⟩⟩⟩⟩⟩⟩⟩⟩⟩⟩⟩⟩⟩⟩⟩
theorem zpk_258_1 : zProc [o_icmpeq 19 41, o_bad, o_bad, o_aload 20 0, o_getF zshp 23 9 0, o_bad, o_bad, o_getF zshp 26 3 1, o_bad, o_bad, o_iload 28 5, o_bad, o_iload 29 1, o_iast zshp 30, o_aload 31 0, o_getF zshp 34 9 0] := ⟨zpr_icmpeq, ⟨zpr_bad, ⟨zpr_bad, ⟨zpr_aload, ⟨zpr_getF, ⟨zpr_bad, ⟨zpr_bad, ⟨zpr_getF, ⟨zpr_bad, ⟨zpr_bad, ⟨zpr_iload, ⟨zpr_bad, ⟨zpr_iload, ⟨zpr_iast, ⟨zpr_aload, ⟨zpr_getF, True.intro⟩⟩⟩⟩⟩⟩⟩⟩⟩⟩⟩⟩⟩⟩⟩⟩
theorem zpk_258_2 : zProc [o_bad, o_bad, o_getF zshp 37 3 2, o_bad, o_bad, o_iload 39 5, o_bad, o_iload 40 2, o_iast zshp 41, o_ret] := ⟨zpr_bad, ⟨zpr_bad, ⟨zpr_getF, ⟨zpr_bad, ⟨zpr_bad, ⟨zpr_iload, ⟨zpr_bad, ⟨zpr_iload, ⟨zpr_iast, ⟨zpr_ret, True.intro⟩⟩⟩⟩⟩⟩⟩⟩⟩⟩
theorem zpk_258 : zProa k_258 := ⟨zpk_258_0, ⟨zpk_258_1, ⟨zpk_258_2, True.intro⟩⟩⟩
theorem zpk_259_0 : zProc [o_aload 1 0, o_getP zshp 4 9 3, o_bad, o_bad, o_getF zshp 7 7 16, o_bad, o_bad, o_astore 9 5, o_bad, o_aload 10 0, o_getF zshp 13 9 0, o_bad, o_bad, o_aload 15 5, o_bad, o_getF zshp 18 3 0] := ⟨zpr_aload, ⟨zpr_getP, ⟨zpr_bad, ⟨zpr_bad, ⟨zpr_getF, ⟨zpr_bad, ⟨zpr_bad, ⟨zpr_astore, ⟨zpr_bad, ⟨zpr_aload, ⟨zpr_getF, ⟨zpr_bad, ⟨zpr_bad, ⟨zpr_aload, ⟨zpr_bad, ⟨zpr_getF, True.intro⟩⟩⟩⟩⟩⟩⟩⟩⟩⟩⟩⟩⟩⟩⟩⟩
theorem zpk_259_1 : zProc [o_bad, o_bad, o_iload 19 1, o_ald zshp 20 14, o_iload 21 3, o_iload 23 4, o_bad, o_inv zshp 26 180 4 3 1 5, o_bad, o_bad, o_istore 28 6, o_bad, o_iload 30 6, o_bad, o_con 31 (vI (-1)), o_icmpne 34 35] := ⟨zpr_bad, ⟨zpr_bad, ⟨zpr_iload, ⟨zpr_ald, ⟨zpr_iload, ⟨zpr_iload, ⟨zpr_bad, ⟨(zpr_inv rfl), ⟨zpr_bad, ⟨zpr_bad, ⟨zpr_istore, ⟨zpr_bad, ⟨zpr_iload, ⟨zpr_bad, ⟨zpr_con, ⟨zpr_icmpne, True.intro⟩⟩⟩⟩⟩⟩⟩⟩⟩⟩⟩⟩⟩⟩⟩⟩
theorem zpk_259_2 : zProc [o_bad, o_bad, o_ret, o_aload 36 0, o_getF zshp 39 9 0, o_bad, o_bad, o_getF zshp 42 3 1, o_bad, o_bad, o_iload 44 6, o_bad, o_aload 46 5, o_bad, o_getF zshp 49 3 1, o_bad] := ⟨zpr_bad, ⟨zpr_bad, ⟨zpr_ret, ⟨zpr_aload, ⟨zpr_getF, ⟨zpr_bad, ⟨zpr_bad, ⟨zpr_getF, ⟨zpr_bad, ⟨zpr_bad, ⟨zpr_iload, ⟨zpr_bad, ⟨zpr_aload, ⟨zpr_bad, ⟨zpr_getF, ⟨zpr_bad, True.intro⟩⟩⟩⟩⟩⟩⟩⟩⟩⟩⟩⟩⟩⟩⟩⟩
theorem zpk_259_3 : zProc [o_bad, o_iload 50 1, o_ald zshp 51 14, o_ifge 54 59, o_bad, o_bad, o_con 56 (vI (-2)), o_bad, o_goto 68, o_bad, o_bad, o_aload 61 5, o_bad, o_getF zshp 64 3 1, o_bad, o_bad] := ⟨zpr_bad, ⟨zpr_iload, ⟨zpr_ald, ⟨zpr_ifge, ⟨zpr_bad, ⟨zpr_bad, ⟨zpr_con, ⟨zpr_bad, ⟨zpr_goto, ⟨zpr_bad, ⟨zpr_bad, ⟨zpr_aload, ⟨zpr_bad, ⟨zpr_getF, ⟨zpr_bad, ⟨zpr_bad, True.intro⟩⟩⟩⟩⟩⟩⟩⟩⟩⟩⟩⟩⟩⟩⟩⟩
theorem zpk_259_4 : zProc [o_iload 65 1, o_ald zshp 66 14, o_iload 67 2, o_iadd 68, o_iast zshp 69, o_aload 70 0, o_getF zshp 73 9 0, o_bad, o_bad, o_getF zshp 76 3 2, o_bad, o_bad, o_iload 78 6, o_bad, o_aload 80 5, o_bad] := ⟨zpr_iload, ⟨zpr_ald, ⟨zpr_iload, ⟨zpr_iadd, ⟨zpr_iast, ⟨zpr_aload, ⟨zpr_getF, ⟨zpr_bad, ⟨zpr_bad, ⟨zpr_getF, ⟨zpr_bad, ⟨zpr_bad, ⟨zpr_iload, ⟨zpr_bad, ⟨zpr_aload, ⟨zpr_bad, True.intro⟩⟩⟩⟩⟩⟩⟩⟩⟩⟩⟩⟩⟩⟩⟩⟩
theorem zpk_259_5 : zProc [o_getF zshp 83 3 2, o_bad, o_bad, o_iload 84 1, o_ald zshp 85 14, o_iload 86 2, o_inv zshp 89 260 2 99 1 2, o_bad, o_bad, o_iast zshp 90, o_aload 91 0, o_getF zshp 94 9 0, o_bad, o_bad, o_getF zshp 97 3 3, o_bad] := ⟨zpr_getF, ⟨zpr_bad, ⟨zpr_bad, ⟨zpr_iload, ⟨zpr_ald, ⟨zpr_iload, ⟨(zpr_inv rfl), ⟨zpr_bad, ⟨zpr_bad, ⟨zpr_iast, ⟨zpr_aload, ⟨zpr_getF, ⟨zpr_bad, ⟨zpr_bad, ⟨zpr_getF, ⟨zpr_bad, True.intro⟩⟩⟩⟩⟩⟩⟩⟩⟩⟩⟩⟩⟩⟩⟩⟩
theorem zpk_259_6 : zProc [o_bad, o_iload 99 6, o_bad, o_aload 101 5, o_bad, o_getF zshp 104 3 3, o_bad, o_bad, o_iload 105 1, o_ald zshp 106 14, o_iload 107 2, o_inv zshp 110 260 2 99 1 2, o_bad, o_bad, o_iast zshp 111, o_aload 112 0] := ⟨zpr_bad, ⟨zpr_iload, ⟨zpr_bad, ⟨zpr_aload, ⟨zpr_bad, ⟨zpr_getF, ⟨zpr_bad, ⟨zpr_bad, ⟨zpr_iload, ⟨zpr_ald, ⟨zpr_iload, ⟨(zpr_inv rfl), ⟨zpr_bad, ⟨zpr_bad, ⟨zpr_iast, ⟨zpr_aload, True.intro⟩⟩⟩⟩⟩⟩⟩⟩⟩⟩⟩⟩⟩⟩⟩⟩
theorem zpk_259_7 : zProc [o_getF zshp 115 9 0, o_bad, o_bad, o_getF zshp 118 3 4, o_bad, o_bad, o_iload 120 6, o_bad, o_aload 122 5, o_bad, o_getF zshp 125 3 4, o_bad, o_bad, o_iload 126 1, o_ald zshp 127 14, o_iload 128 2] := ⟨zpr_getF, ⟨zpr_bad, ⟨zpr_bad, ⟨zpr_getF, ⟨zpr_bad, ⟨zpr_bad, ⟨zpr_iload, ⟨zpr_bad, ⟨zpr_aload, ⟨zpr_bad, ⟨zpr_getF, ⟨zpr_bad, ⟨zpr_bad, ⟨zpr_iload, ⟨zpr_ald, ⟨zpr_iload, True.intro⟩⟩⟩⟩⟩⟩⟩⟩⟩⟩⟩⟩⟩⟩⟩⟩
theorem zpk_259_8 : zProc [o_inv zshp 131 260 2 99 1 2, o_bad, o_bad, o_iast zshp 132, o_aload 133 0, o_getF zshp 136 9 0, o_bad, o_bad, o_getF zshp 139 3 5, o_bad, o_bad, o_iload 141 6, o_bad, o_aload 143 5, o_bad, o_getF zshp 146 3 5] := ⟨(zpr_inv rfl), ⟨zpr_bad, ⟨zpr_bad, ⟨zpr_iast, ⟨zpr_aload, ⟨zpr_getF, ⟨zpr_bad, ⟨zpr_bad, ⟨zpr_getF, ⟨zpr_bad, ⟨zpr_bad, ⟨zpr_iload, ⟨zpr_bad, ⟨zpr_aload, ⟨zpr_bad, ⟨zpr_getF, True.intro⟩⟩⟩⟩⟩⟩⟩⟩⟩⟩⟩⟩⟩⟩⟩⟩
theorem zpk_259_9 : zProc [o_bad, o_bad, o_iload 147 1, o_ald zshp 148 14, o_iast zshp 149, o_aload 150 0, o_getF zshp 153 9 0, o_bad, o_bad, o_getF zshp 156 3 8, o_bad, o_bad, o_iload 158 6, o_bad, o_aload 160 5, o_bad] := ⟨zpr_bad, ⟨zpr_bad, ⟨zpr_iload, ⟨zpr_ald, ⟨zpr_iast, ⟨zpr_aload, ⟨zpr_getF, ⟨zpr_bad, ⟨zpr_bad, ⟨zpr_getF, ⟨zpr_bad, ⟨zpr_bad, ⟨zpr_iload, ⟨zpr_bad, ⟨zpr_aload, ⟨zpr_bad, True.intro⟩⟩⟩⟩⟩⟩⟩⟩⟩⟩⟩⟩⟩⟩⟩⟩
theorem zpk_259_10 : zProc [o_getF zshp 163 3 8, o_bad, o_bad, o_iload 164 1, o_ald zshp 165 14, o_iast zshp 166, o_ret] := ⟨zpr_getF, ⟨zpr_bad, ⟨zpr_bad, ⟨zpr_iload, ⟨zpr_ald, ⟨zpr_iast, ⟨zpr_ret, True.intro⟩⟩⟩⟩⟩⟩⟩
theorem zpk_259 : zProa k_259 := ⟨zpk_259_0, ⟨zpk_259_1, ⟨zpk_259_2, ⟨zpk_259_3, ⟨zpk_259_4, ⟨zpk_259_5, ⟨zpk_259_6, ⟨zpk_259_7, ⟨zpk_259_8, ⟨zpk_259_9, ⟨zpk_259_10, True.intro⟩⟩⟩⟩⟩⟩⟩⟩⟩⟩⟩
theorem zpk_260_0 : zProc [o_iload 1 0, o_inv zshp 4 34 1 99 1 1, o_bad, o_bad, o_ifeq 7 13, o_bad, o_bad, o_iload 8 0, o_iload 9 1, o_isub 10, o_goto 14, o_bad, o_bad, o_iload 14 0, o_iret] := ⟨zpr_iload, ⟨(zpr_inv rfl), ⟨zpr_bad, ⟨zpr_bad, ⟨zpr_ifeq, ⟨zpr_bad, ⟨zpr_bad, ⟨zpr_iload, ⟨zpr_iload, ⟨zpr_isub, ⟨zpr_goto, ⟨zpr_bad, ⟨zpr_bad, ⟨zpr_iload, ⟨zpr_iret, True.intro⟩⟩⟩⟩⟩⟩⟩⟩⟩⟩⟩⟩⟩⟩⟩
theorem zpk_260 : zProa k_260 := ⟨zpk_260_0, True.intro⟩
theorem dS2_c {mi : Nat} (h : dS2 mi = true) : mi = 34 ∨ mi = 180 ∨ mi = 181 ∨ mi = 182 ∨ mi = 214 ∨ mi = 255 ∨ mi = 256 ∨ mi = 257 ∨ mi = 258 ∨ mi = 259 ∨ mi = 260 := by
  unfold dS2 at h
  simp only [List.elem_eq_mem, List.mem_cons, List.not_mem_nil, or_false, decide_eq_true_eq] at h
  omega
theorem dS2_ok {mi : Nat} (h : dS2 mi = true) : ∀ pc : Nat, zPro (zget (zmt mi) pc o_bad) := by
  rcases dS2_c h with e | e | e | e | e | e | e | e | e | e | e <;> subst e
  · exact fun pc => zProa_ok zpk_34 pc
  · exact fun pc => zProa_ok zpk_180 pc
  · exact fun pc => zProa_ok zpk_181 pc
  · exact fun pc => zProa_ok zpk_182 pc
  · exact fun pc => zProa_ok zpk_214 pc
  · exact fun pc => zProa_ok zpk_255 pc
  · exact fun pc => zProa_ok zpk_256 pc
  · exact fun pc => zProa_ok zpk_257 pc
  · exact fun pc => zProa_ok zpk_258 pc
  · exact fun pc => zProa_ok zpk_259 pc
  · exact fun pc => zProa_ok zpk_260 pc
theorem WP_ex {d mi uc us pc : Nat} {ls : zL} {st : List zV} {σ : zM} {Q : zQ} (h : WP d mi uc us pc ls st σ Q) (hm : dS2 mi = true) : ∃ (σ' : zM) (r : Option zV), Q σ' r := by
  refine h (fun d mi uc us pc ls st σ Q => dS2 mi = true → ∃ (σ' : zM) (r : Option zV), Q σ' r) (fun d mi uc us pc ls st σ Q hT hm => ?_) hm
  obtain ⟨call, k, h1, h2, h3⟩ := hT
  refine dS2_ok hm pc _ call k Q uc us ls st σ (fun _ _ _ _ _ _ a => h2 _ _ _ _ _ _ a hm) (fun σ r a => ⟨σ, r, a⟩) (fun mj hj a σ' Q' hc => ?_) h3
  obtain ⟨d', e, x⟩ := h1 mj a σ' Q' hc
  exact x hj
theorem WC_ex {d mj : Nat} {a : List zV} {σ : zM} {Q : zQ} (h : WC d mj a σ Q) (hm : dS2 mj = true) : ∃ (σ' : zM) (r : Option zV), Q σ' r := by
  obtain ⟨d', e, x⟩ := h
  exact WP_ex x hm
