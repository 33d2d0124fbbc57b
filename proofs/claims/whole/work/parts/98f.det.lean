/-! Of a call that comes to its end, all that holds there holds at once -/
def dS (mj : Nat) : Bool := [34, 35, 165, 166, 167, 168, 169, 170, 171, 172, 173, 174, 175, 176, 177, 178, 180, 181, 182, 187, 188, 189, 190, 191, 192, 193, 194, 195, 196, 197, 198, 199, 201, 202, 214, 256, 257, 258, 259, 260, 278, 280, 287].elem mj
def zDet (o : zO) : Prop := ∀ (ι : Type) (call0 call : zC) (k0 k : zK) (Q0 Q : zQ) (callI : ι → zC) (kI : ι → zK) (QI : ι → zQ) (uc us : Nat) (ls : zL) (st : List zV) (σ : zM),
  (∀ (uc us pc : Nat) (ls : zL) (st : List zV) (σ : zM), k0 uc us pc ls st σ → (∀ i, kI i uc us pc ls st σ) → k uc us pc ls st σ) →
  (∀ (σ : zM) (r : Option zV), Q0 σ r → (∀ i, QI i σ r) → Q σ r) →
  (∀ (mj : Nat), dS mj = true → ∀ (a : List zV) (σ : zM) (Q0' : zQ) (QI' : ι → zQ) (Q' : zQ), call0 mj a σ Q0' → (∀ i, callI i mj a σ (QI' i)) → (∀ (σ : zM) (r : Option zV), Q0' σ r → (∀ i, QI' i σ r) → Q' σ r) → call mj a σ Q') →
  o call0 k0 Q0 uc us ls st σ → (∀ i, o (callI i) (kI i) (QI i) uc us ls st σ) → o call k Q uc us ls st σ
theorem zdt_bad : zDet o_bad := by
  intro ι call0 call k0 k Q0 Q callI kI QI uc us ls st σ hk hQ hc h hI
  exact False.elim h
theorem zdt_getI {shp : Nat → Nat × Nat} {nx : Nat} {ci : Nat} {kk : Int} : zDet (o_getI shp nx ci kk) := by
  intro ι call0 call k0 k Q0 Q callI kI QI uc us ls st σ hk hQ hc h hI
  obtain ⟨F, P, M, nn⟩ := σ
  rcases st with _ | ⟨v, st⟩
  · exact False.elim h
  rcases v with v0 | v0 | v0
  · exact False.elim h
  · exact False.elim h
  exact ⟨h.1, hk _ _ _ _ _ _ h.2 (fun i => (hI i).2)⟩
theorem zdt_getF {shp : Nat → Nat × Nat} {nx : Nat} {ci : Nat} {kk : Nat} : zDet (o_getF shp nx ci kk) := by
  intro ι call0 call k0 k Q0 Q callI kI QI uc us ls st σ hk hQ hc h hI
  obtain ⟨F, P, M, nn⟩ := σ
  rcases st with _ | ⟨v, st⟩
  · exact False.elim h
  rcases v with v0 | v0 | v0
  · exact False.elim h
  · exact False.elim h
  exact ⟨h.1, h.2.1, hk _ _ _ _ _ _ h.2.2 (fun i => (hI i).2.2)⟩
theorem zdt_getP {shp : Nat → Nat × Nat} {nx : Nat} {ci : Nat} {kk : Nat} : zDet (o_getP shp nx ci kk) := by
  intro ι call0 call k0 k Q0 Q callI kI QI uc us ls st σ hk hQ hc h hI
  obtain ⟨F, P, M, nn⟩ := σ
  rcases st with _ | ⟨v, st⟩
  · exact False.elim h
  rcases v with v0 | v0 | v0
  · exact False.elim h
  · exact False.elim h
  exact ⟨h.1, h.2.1, hk _ _ _ _ _ _ h.2.2 (fun i => (hI i).2.2)⟩
theorem zdt_putI {shp : Nat → Nat × Nat} {nx : Nat} {ci : Nat} {kk : Int} : zDet (o_putI shp nx ci kk) := by
  intro ι call0 call k0 k Q0 Q callI kI QI uc us ls st σ hk hQ hc h hI
  obtain ⟨F, P, M, nn⟩ := σ
  rcases st with _ | ⟨v, st⟩
  · exact False.elim h
  rcases v with v0 | v0 | v0
  rotate_left
  · exact False.elim h
  · exact False.elim h
  rcases st with _ | ⟨v, st⟩
  · exact False.elim h
  rcases v with v1 | v1 | v1
  · exact False.elim h
  · exact False.elim h
  exact ⟨h.1, hk _ _ _ _ _ _ h.2 (fun i => (hI i).2)⟩
theorem zdt_ald {shp : Nat → Nat × Nat} {nx : Nat} {kd : Nat} : zDet (o_ald shp nx kd) := by
  intro ι call0 call k0 k Q0 Q callI kI QI uc us ls st σ hk hQ hc h hI
  obtain ⟨F, P, M, nn⟩ := σ
  rcases st with _ | ⟨v, st⟩
  · exact False.elim h
  rcases v with v0 | v0 | v0
  rotate_left
  · exact False.elim h
  · exact False.elim h
  rcases st with _ | ⟨v, st⟩
  · exact False.elim h
  rcases v with v1 | v1 | v1
  · exact False.elim h
  · exact False.elim h
  exact ⟨h.1, h.2.1, hk _ _ _ _ _ _ h.2.2 (fun i => (hI i).2.2)⟩
theorem zdt_aald {shp : Nat → Nat × Nat} {nx : Nat} : zDet (o_aald shp nx) := by
  intro ι call0 call k0 k Q0 Q callI kI QI uc us ls st σ hk hQ hc h hI
  obtain ⟨F, P, M, nn⟩ := σ
  rcases st with _ | ⟨v, st⟩
  · exact False.elim h
  rcases v with v0 | v0 | v0
  rotate_left
  · exact False.elim h
  · exact False.elim h
  rcases st with _ | ⟨v, st⟩
  · exact False.elim h
  rcases v with v1 | v1 | v1
  · exact False.elim h
  · exact False.elim h
  exact ⟨h.1, h.2.1, h.2.2.1, hk _ _ _ _ _ _ h.2.2.2 (fun i => (hI i).2.2.2)⟩
theorem zdt_iast {shp : Nat → Nat × Nat} {nx : Nat} : zDet (o_iast shp nx) := by
  intro ι call0 call k0 k Q0 Q callI kI QI uc us ls st σ hk hQ hc h hI
  obtain ⟨F, P, M, nn⟩ := σ
  rcases st with _ | ⟨v, st⟩
  · exact False.elim h
  rcases v with v0 | v0 | v0
  rotate_left
  · exact False.elim h
  · exact False.elim h
  rcases st with _ | ⟨v, st⟩
  · exact False.elim h
  rcases v with v1 | v1 | v1
  rotate_left
  · exact False.elim h
  · exact False.elim h
  rcases st with _ | ⟨v, st⟩
  · exact False.elim h
  rcases v with v2 | v2 | v2
  · exact False.elim h
  · exact False.elim h
  exact ⟨h.1, h.2.1, hk _ _ _ _ _ _ h.2.2 (fun i => (hI i).2.2)⟩
theorem zdt_alen {shp : Nat → Nat × Nat} {nx : Nat} {kd : Nat} : zDet (o_alen shp nx kd) := by
  intro ι call0 call k0 k Q0 Q callI kI QI uc us ls st σ hk hQ hc h hI
  obtain ⟨F, P, M, nn⟩ := σ
  rcases st with _ | ⟨v, st⟩
  · exact False.elim h
  rcases v with v0 | v0 | v0
  · exact False.elim h
  · exact False.elim h
  exact ⟨h.1, hk _ _ _ _ _ _ h.2 (fun i => (hI i).2)⟩
theorem zdt_con {nx : Nat} {v : zV} : zDet (o_con nx v) := by
  intro ι call0 call k0 k Q0 Q callI kI QI uc us ls st σ hk hQ hc h hI
  exact hk _ _ _ _ _ _ h (fun i => hI i)
theorem zdt_goto {tg : Nat} : zDet (o_goto tg) := by
  intro ι call0 call k0 k Q0 Q callI kI QI uc us ls st σ hk hQ hc h hI
  exact hk _ _ _ _ _ _ h (fun i => hI i)
theorem zdt_iload {nx : Nat} {i : Nat} : zDet (o_iload nx i) := by
  intro ι call0 call k0 k Q0 Q callI kI QI uc us ls st σ hk hQ hc h hI
  unfold o_iload at h hI ⊢
  revert h hI
  generalize ls.getD i none = v
  intro h hI
  rcases v with _ | (v | v | v)
  · exact False.elim h
  · exact hk _ _ _ _ _ _ h (fun i => hI i)
  · exact False.elim h
  · exact False.elim h
theorem zdt_aload {nx : Nat} {i : Nat} : zDet (o_aload nx i) := by
  intro ι call0 call k0 k Q0 Q callI kI QI uc us ls st σ hk hQ hc h hI
  unfold o_aload at h hI ⊢
  revert h hI
  generalize ls.getD i none = v
  intro h hI
  rcases v with _ | (v | v | v)
  · exact False.elim h
  · exact False.elim h
  · exact False.elim h
  · exact ⟨h.1, hk _ _ _ _ _ _ h.2 (fun i => (hI i).2)⟩
theorem zdt_iinc {nx : Nat} {i : Nat} {n : Int} : zDet (o_iinc nx i n) := by
  intro ι call0 call k0 k Q0 Q callI kI QI uc us ls st σ hk hQ hc h hI
  unfold o_iinc at h hI ⊢
  revert h hI
  generalize ls.getD i none = v
  intro h hI
  rcases v with _ | (v | v | v)
  · exact False.elim h
  · exact hk _ _ _ _ _ _ h (fun i => hI i)
  · exact False.elim h
  · exact False.elim h
theorem zdt_istore {nx : Nat} {i : Nat} : zDet (o_istore nx i) := by
  intro ι call0 call k0 k Q0 Q callI kI QI uc us ls st σ hk hQ hc h hI
  rcases st with _ | ⟨v, st⟩
  · exact False.elim h
  rcases v with v0 | v0 | v0
  rotate_left
  · exact False.elim h
  · exact False.elim h
  exact hk _ _ _ _ _ _ h (fun i => hI i)
theorem zdt_astore {nx : Nat} {i : Nat} : zDet (o_astore nx i) := by
  intro ι call0 call k0 k Q0 Q callI kI QI uc us ls st σ hk hQ hc h hI
  rcases st with _ | ⟨v, st⟩
  · exact False.elim h
  rcases v with v0 | v0 | v0
  · exact False.elim h
  · exact False.elim h
  exact ⟨h.1, hk _ _ _ _ _ _ h.2 (fun i => (hI i).2)⟩
theorem zdt_dup {nx : Nat} : zDet (o_dup nx) := by
  intro ι call0 call k0 k Q0 Q callI kI QI uc us ls st σ hk hQ hc h hI
  rcases st with _ | ⟨v, st⟩
  · exact False.elim h
  rcases v with v | v | v
  · exact hk _ _ _ _ _ _ h (fun i => hI i)
  · exact False.elim h
  · exact hk _ _ _ _ _ _ h (fun i => hI i)
theorem zdt_iadd {nx : Nat} : zDet (o_iadd nx) := by
  intro ι call0 call k0 k Q0 Q callI kI QI uc us ls st σ hk hQ hc h hI
  rcases st with _ | ⟨v, st⟩
  · exact False.elim h
  rcases v with v0 | v0 | v0
  rotate_left
  · exact False.elim h
  · exact False.elim h
  rcases st with _ | ⟨v, st⟩
  · exact False.elim h
  rcases v with v1 | v1 | v1
  rotate_left
  · exact False.elim h
  · exact False.elim h
  exact hk _ _ _ _ _ _ h (fun i => hI i)
theorem zdt_isub {nx : Nat} : zDet (o_isub nx) := by
  intro ι call0 call k0 k Q0 Q callI kI QI uc us ls st σ hk hQ hc h hI
  rcases st with _ | ⟨v, st⟩
  · exact False.elim h
  rcases v with v0 | v0 | v0
  rotate_left
  · exact False.elim h
  · exact False.elim h
  rcases st with _ | ⟨v, st⟩
  · exact False.elim h
  rcases v with v1 | v1 | v1
  rotate_left
  · exact False.elim h
  · exact False.elim h
  exact hk _ _ _ _ _ _ h (fun i => hI i)
theorem zdt_ifeq {nx : Nat} {tg : Nat} : zDet (o_ifeq nx tg) := by
  intro ι call0 call k0 k Q0 Q callI kI QI uc us ls st σ hk hQ hc h hI
  rcases st with _ | ⟨v, st⟩
  · exact False.elim h
  rcases v with v0 | v0 | v0
  rotate_left
  · exact False.elim h
  · exact False.elim h
  exact ⟨fun c => hk _ _ _ _ _ _ (h.1 c) (fun i => (hI i).1 c), fun c => hk _ _ _ _ _ _ (h.2 c) (fun i => (hI i).2 c)⟩
theorem zdt_ifne {nx : Nat} {tg : Nat} : zDet (o_ifne nx tg) := by
  intro ι call0 call k0 k Q0 Q callI kI QI uc us ls st σ hk hQ hc h hI
  rcases st with _ | ⟨v, st⟩
  · exact False.elim h
  rcases v with v0 | v0 | v0
  rotate_left
  · exact False.elim h
  · exact False.elim h
  exact ⟨fun c => hk _ _ _ _ _ _ (h.1 c) (fun i => (hI i).1 c), fun c => hk _ _ _ _ _ _ (h.2 c) (fun i => (hI i).2 c)⟩
theorem zdt_iflt {nx : Nat} {tg : Nat} : zDet (o_iflt nx tg) := by
  intro ι call0 call k0 k Q0 Q callI kI QI uc us ls st σ hk hQ hc h hI
  rcases st with _ | ⟨v, st⟩
  · exact False.elim h
  rcases v with v0 | v0 | v0
  rotate_left
  · exact False.elim h
  · exact False.elim h
  exact ⟨fun c => hk _ _ _ _ _ _ (h.1 c) (fun i => (hI i).1 c), fun c => hk _ _ _ _ _ _ (h.2 c) (fun i => (hI i).2 c)⟩
theorem zdt_ifge {nx : Nat} {tg : Nat} : zDet (o_ifge nx tg) := by
  intro ι call0 call k0 k Q0 Q callI kI QI uc us ls st σ hk hQ hc h hI
  rcases st with _ | ⟨v, st⟩
  · exact False.elim h
  rcases v with v0 | v0 | v0
  rotate_left
  · exact False.elim h
  · exact False.elim h
  exact ⟨fun c => hk _ _ _ _ _ _ (h.1 c) (fun i => (hI i).1 c), fun c => hk _ _ _ _ _ _ (h.2 c) (fun i => (hI i).2 c)⟩
theorem zdt_ifgt {nx : Nat} {tg : Nat} : zDet (o_ifgt nx tg) := by
  intro ι call0 call k0 k Q0 Q callI kI QI uc us ls st σ hk hQ hc h hI
  rcases st with _ | ⟨v, st⟩
  · exact False.elim h
  rcases v with v0 | v0 | v0
  rotate_left
  · exact False.elim h
  · exact False.elim h
  exact ⟨fun c => hk _ _ _ _ _ _ (h.1 c) (fun i => (hI i).1 c), fun c => hk _ _ _ _ _ _ (h.2 c) (fun i => (hI i).2 c)⟩
theorem zdt_ifle {nx : Nat} {tg : Nat} : zDet (o_ifle nx tg) := by
  intro ι call0 call k0 k Q0 Q callI kI QI uc us ls st σ hk hQ hc h hI
  rcases st with _ | ⟨v, st⟩
  · exact False.elim h
  rcases v with v0 | v0 | v0
  rotate_left
  · exact False.elim h
  · exact False.elim h
  exact ⟨fun c => hk _ _ _ _ _ _ (h.1 c) (fun i => (hI i).1 c), fun c => hk _ _ _ _ _ _ (h.2 c) (fun i => (hI i).2 c)⟩
theorem zdt_icmpeq {nx : Nat} {tg : Nat} : zDet (o_icmpeq nx tg) := by
  intro ι call0 call k0 k Q0 Q callI kI QI uc us ls st σ hk hQ hc h hI
  rcases st with _ | ⟨v, st⟩
  · exact False.elim h
  rcases v with v0 | v0 | v0
  rotate_left
  · exact False.elim h
  · exact False.elim h
  rcases st with _ | ⟨v, st⟩
  · exact False.elim h
  rcases v with v1 | v1 | v1
  rotate_left
  · exact False.elim h
  · exact False.elim h
  exact ⟨fun c => hk _ _ _ _ _ _ (h.1 c) (fun i => (hI i).1 c), fun c => hk _ _ _ _ _ _ (h.2 c) (fun i => (hI i).2 c)⟩
theorem zdt_icmpne {nx : Nat} {tg : Nat} : zDet (o_icmpne nx tg) := by
  intro ι call0 call k0 k Q0 Q callI kI QI uc us ls st σ hk hQ hc h hI
  rcases st with _ | ⟨v, st⟩
  · exact False.elim h
  rcases v with v0 | v0 | v0
  rotate_left
  · exact False.elim h
  · exact False.elim h
  rcases st with _ | ⟨v, st⟩
  · exact False.elim h
  rcases v with v1 | v1 | v1
  rotate_left
  · exact False.elim h
  · exact False.elim h
  exact ⟨fun c => hk _ _ _ _ _ _ (h.1 c) (fun i => (hI i).1 c), fun c => hk _ _ _ _ _ _ (h.2 c) (fun i => (hI i).2 c)⟩
theorem zdt_icmplt {nx : Nat} {tg : Nat} : zDet (o_icmplt nx tg) := by
  intro ι call0 call k0 k Q0 Q callI kI QI uc us ls st σ hk hQ hc h hI
  rcases st with _ | ⟨v, st⟩
  · exact False.elim h
  rcases v with v0 | v0 | v0
  rotate_left
  · exact False.elim h
  · exact False.elim h
  rcases st with _ | ⟨v, st⟩
  · exact False.elim h
  rcases v with v1 | v1 | v1
  rotate_left
  · exact False.elim h
  · exact False.elim h
  exact ⟨fun c => hk _ _ _ _ _ _ (h.1 c) (fun i => (hI i).1 c), fun c => hk _ _ _ _ _ _ (h.2 c) (fun i => (hI i).2 c)⟩
theorem zdt_icmpge {nx : Nat} {tg : Nat} : zDet (o_icmpge nx tg) := by
  intro ι call0 call k0 k Q0 Q callI kI QI uc us ls st σ hk hQ hc h hI
  rcases st with _ | ⟨v, st⟩
  · exact False.elim h
  rcases v with v0 | v0 | v0
  rotate_left
  · exact False.elim h
  · exact False.elim h
  rcases st with _ | ⟨v, st⟩
  · exact False.elim h
  rcases v with v1 | v1 | v1
  rotate_left
  · exact False.elim h
  · exact False.elim h
  exact ⟨fun c => hk _ _ _ _ _ _ (h.1 c) (fun i => (hI i).1 c), fun c => hk _ _ _ _ _ _ (h.2 c) (fun i => (hI i).2 c)⟩
theorem zdt_icmpgt {nx : Nat} {tg : Nat} : zDet (o_icmpgt nx tg) := by
  intro ι call0 call k0 k Q0 Q callI kI QI uc us ls st σ hk hQ hc h hI
  rcases st with _ | ⟨v, st⟩
  · exact False.elim h
  rcases v with v0 | v0 | v0
  rotate_left
  · exact False.elim h
  · exact False.elim h
  rcases st with _ | ⟨v, st⟩
  · exact False.elim h
  rcases v with v1 | v1 | v1
  rotate_left
  · exact False.elim h
  · exact False.elim h
  exact ⟨fun c => hk _ _ _ _ _ _ (h.1 c) (fun i => (hI i).1 c), fun c => hk _ _ _ _ _ _ (h.2 c) (fun i => (hI i).2 c)⟩
theorem zdt_icmple {nx : Nat} {tg : Nat} : zDet (o_icmple nx tg) := by
  intro ι call0 call k0 k Q0 Q callI kI QI uc us ls st σ hk hQ hc h hI
  rcases st with _ | ⟨v, st⟩
  · exact False.elim h
  rcases v with v0 | v0 | v0
  rotate_left
  · exact False.elim h
  · exact False.elim h
  rcases st with _ | ⟨v, st⟩
  · exact False.elim h
  rcases v with v1 | v1 | v1
  rotate_left
  · exact False.elim h
  · exact False.elim h
  exact ⟨fun c => hk _ _ _ _ _ _ (h.1 c) (fun i => (hI i).1 c), fun c => hk _ _ _ _ _ _ (h.2 c) (fun i => (hI i).2 c)⟩
theorem zdt_dup2 {nx : Nat} : zDet (o_dup2 nx) := by
  intro ι call0 call k0 k Q0 Q callI kI QI uc us ls st σ hk hQ hc h hI
  rcases st with _ | ⟨v, st⟩
  · exact False.elim h
  rcases v with v0 | v0 | v0
  rotate_left
  · exact False.elim h
  · exact False.elim h
  rcases st with _ | ⟨v, st⟩
  · exact False.elim h
  rcases v with v1 | v1 | v1
  · exact False.elim h
  · exact False.elim h
  exact hk _ _ _ _ _ _ h (fun i => hI i)
theorem zdt_i2l {nx : Nat} : zDet (o_i2l nx) := by
  intro ι call0 call k0 k Q0 Q callI kI QI uc us ls st σ hk hQ hc h hI
  rcases st with _ | ⟨v, st⟩
  · exact False.elim h
  rcases v with v0 | v0 | v0
  rotate_left
  · exact False.elim h
  · exact False.elim h
  exact hk _ _ _ _ _ _ h (fun i => hI i)
theorem zdt_l2i {nx : Nat} : zDet (o_l2i nx) := by
  intro ι call0 call k0 k Q0 Q callI kI QI uc us ls st σ hk hQ hc h hI
  rcases st with _ | ⟨v, st⟩
  · exact False.elim h
  rcases v with v0 | v0 | v0
  · exact False.elim h
  rotate_left
  · exact False.elim h
  exact hk _ _ _ _ _ _ h (fun i => hI i)
theorem zdt_imul {nx : Nat} : zDet (o_imul nx) := by
  intro ι call0 call k0 k Q0 Q callI kI QI uc us ls st σ hk hQ hc h hI
  rcases st with _ | ⟨v, st⟩
  · exact False.elim h
  rcases v with v0 | v0 | v0
  rotate_left
  · exact False.elim h
  · exact False.elim h
  rcases st with _ | ⟨v, st⟩
  · exact False.elim h
  rcases v with v1 | v1 | v1
  rotate_left
  · exact False.elim h
  · exact False.elim h
  exact hk _ _ _ _ _ _ h (fun i => hI i)
theorem zdt_lcmp {nx : Nat} : zDet (o_lcmp nx) := by
  intro ι call0 call k0 k Q0 Q callI kI QI uc us ls st σ hk hQ hc h hI
  rcases st with _ | ⟨v, st⟩
  · exact False.elim h
  rcases v with v0 | v0 | v0
  · exact False.elim h
  rotate_left
  · exact False.elim h
  rcases st with _ | ⟨v, st⟩
  · exact False.elim h
  rcases v with v1 | v1 | v1
  · exact False.elim h
  rotate_left
  · exact False.elim h
  exact hk _ _ _ _ _ _ h (fun i => hI i)
theorem zdt_lald {shp : Nat → Nat × Nat} {nx : Nat} : zDet (o_lald shp nx) := by
  intro ι call0 call k0 k Q0 Q callI kI QI uc us ls st σ hk hQ hc h hI
  obtain ⟨F, P, M, nn⟩ := σ
  rcases st with _ | ⟨v, st⟩
  · exact False.elim h
  rcases v with v0 | v0 | v0
  rotate_left
  · exact False.elim h
  · exact False.elim h
  rcases st with _ | ⟨v, st⟩
  · exact False.elim h
  rcases v with v1 | v1 | v1
  · exact False.elim h
  · exact False.elim h
  exact ⟨h.1, h.2.1, hk _ _ _ _ _ _ h.2.2 (fun i => (hI i).2.2)⟩
theorem zdt_last {shp : Nat → Nat × Nat} {nx : Nat} : zDet (o_last shp nx) := by
  intro ι call0 call k0 k Q0 Q callI kI QI uc us ls st σ hk hQ hc h hI
  obtain ⟨F, P, M, nn⟩ := σ
  rcases st with _ | ⟨v, st⟩
  · exact False.elim h
  rcases v with v0 | v0 | v0
  · exact False.elim h
  rotate_left
  · exact False.elim h
  rcases st with _ | ⟨v, st⟩
  · exact False.elim h
  rcases v with v1 | v1 | v1
  rotate_left
  · exact False.elim h
  · exact False.elim h
  rcases st with _ | ⟨v, st⟩
  · exact False.elim h
  rcases v with v2 | v2 | v2
  · exact False.elim h
  · exact False.elim h
  exact ⟨h.1, h.2.1, hk _ _ _ _ _ _ h.2.2 (fun i => (hI i).2.2)⟩
theorem zdt_lstore {nx : Nat} {i : Nat} : zDet (o_lstore nx i) := by
  intro ι call0 call k0 k Q0 Q callI kI QI uc us ls st σ hk hQ hc h hI
  rcases st with _ | ⟨v, st⟩
  · exact False.elim h
  rcases v with v0 | v0 | v0
  · exact False.elim h
  rotate_left
  · exact False.elim h
  exact hk _ _ _ _ _ _ h (fun i => hI i)
theorem zdt_putP {shp : Nat → Nat × Nat} {nx : Nat} {ci : Nat} {kk : Nat} : zDet (o_putP shp nx ci kk) := by
  intro ι call0 call k0 k Q0 Q callI kI QI uc us ls st σ hk hQ hc h hI
  obtain ⟨F, P, M, nn⟩ := σ
  rcases st with _ | ⟨v, st⟩
  · exact False.elim h
  rcases v with v0 | v0 | v0
  · exact False.elim h
  · exact False.elim h
  rcases st with _ | ⟨v, st⟩
  · exact False.elim h
  rcases v with v1 | v1 | v1
  · exact False.elim h
  · exact False.elim h
  exact ⟨h.1, h.2.1, hk _ _ _ _ _ _ h.2.2 (fun i => (hI i).2.2)⟩
theorem zdt_putZ {shp : Nat → Nat × Nat} {nx : Nat} {ci : Nat} {kk : Int} : zDet (o_putZ shp nx ci kk) := by
  intro ι call0 call k0 k Q0 Q callI kI QI uc us ls st σ hk hQ hc h hI
  obtain ⟨F, P, M, nn⟩ := σ
  rcases st with _ | ⟨v, st⟩
  · exact False.elim h
  rcases v with v0 | v0 | v0
  rotate_left
  · exact False.elim h
  · exact False.elim h
  rcases st with _ | ⟨v, st⟩
  · exact False.elim h
  rcases v with v1 | v1 | v1
  · exact False.elim h
  · exact False.elim h
  exact ⟨h.1, h.2.1, hk _ _ _ _ _ _ h.2.2 (fun i => (hI i).2.2)⟩
theorem zdt_lload {nx : Nat} {i : Nat} : zDet (o_lload nx i) := by
  intro ι call0 call k0 k Q0 Q callI kI QI uc us ls st σ hk hQ hc h hI
  unfold o_lload at h hI ⊢
  revert h hI
  generalize ls.getD i none = v
  intro h hI
  rcases v with _ | (v | v | v)
  · exact False.elim h
  · exact False.elim h
  · exact hk _ _ _ _ _ _ h (fun i => hI i)
  · exact False.elim h
theorem zdt_acpw {shp : Nat → Nat × Nat} {nx : Nat} {kd : Nat} : zDet (o_acpw shp nx kd) := by
  intro ι call0 call k0 k Q0 Q callI kI QI uc us ls st σ hk hQ hc h hI
  obtain ⟨F, P, M, nn⟩ := σ
  rcases st with _ | ⟨v, st⟩
  · exact False.elim h.2
  rcases v with v0 | v0 | v0
  rotate_left
  · exact False.elim h.2
  · exact False.elim h.2
  rcases st with _ | ⟨v, st⟩
  · exact False.elim h.2
  rcases v with v1 | v1 | v1
  rotate_left
  · exact False.elim h.2
  · exact False.elim h.2
  rcases st with _ | ⟨v, st⟩
  · exact False.elim h.2
  rcases v with v2 | v2 | v2
  · exact False.elim h.2
  · exact False.elim h.2
  rcases st with _ | ⟨v, st⟩
  · exact False.elim h.2
  rcases v with v3 | v3 | v3
  rotate_left
  · exact False.elim h.2
  · exact False.elim h.2
  rcases st with _ | ⟨v, st⟩
  · exact False.elim h.2
  rcases v with v4 | v4 | v4
  · exact False.elim h.2
  · exact False.elim h.2
  exact ⟨h.1, h.2.1, h.2.2.1, h.2.2.2.1, hk _ _ _ _ _ _ h.2.2.2.2 (fun i => (hI i).2.2.2.2)⟩
theorem zsw_all {ι : Type} {x : Int} {k0 k : Nat → Prop} {kI : ι → Nat → Prop} (hk : ∀ t : Nat, k0 t → (∀ i, kI i t) → k t) : ∀ ps : List (Int × Nat), zsw x k0 ps → (∀ i, zsw x (kI i) ps) → zsw x k ps := by
  intro ps
  induction ps with
  | nil => intro _ _; exact True.intro
  | cons q r ih => intro h hI; exact ⟨fun e => hk _ (h.1 e) (fun i => (hI i).1 e), ih h.2 (fun i => (hI i).2)⟩
theorem zdt_sw {ps : List (Int × Nat)} {df : Nat} : zDet (o_sw ps df) := by
  intro ι call0 call k0 k Q0 Q callI kI QI uc us ls st σ hk hQ hc h hI
  rcases st with _ | ⟨v, st⟩
  · exact False.elim h
  rcases v with v0 | v0 | v0
  rotate_left
  · exact False.elim h
  · exact False.elim h
  exact ⟨zsw_all (fun t a b => hk _ _ _ _ _ _ a b) ps h.1 (fun i => (hI i).1), fun c => hk _ _ _ _ _ _ (h.2 c) (fun i => (hI i).2 c)⟩
theorem zdt_ret : zDet o_ret := by
  intro ι call0 call k0 k Q0 Q callI kI QI uc us ls st σ hk hQ hc h hI
  rcases st with _ | ⟨v, st⟩
  · exact hQ _ _ h (fun i => hI i)
  · exact False.elim h
theorem zdt_iret : zDet o_iret := by
  intro ι call0 call k0 k Q0 Q callI kI QI uc us ls st σ hk hQ hc h hI
  rcases st with _ | ⟨v, _ | ⟨w, st⟩⟩
  · exact False.elim h
  · rcases v with v | v | v
    · exact hQ _ _ h (fun i => hI i)
    · exact False.elim h
    · exact False.elim h
  · rcases v with v | v | v <;> exact False.elim h
theorem zdt_lret : zDet o_lret := by
  intro ι call0 call k0 k Q0 Q callI kI QI uc us ls st σ hk hQ hc h hI
  rcases st with _ | ⟨v, _ | ⟨w, st⟩⟩
  · exact False.elim h
  · rcases v with v | v | v
    · exact False.elim h
    · exact hQ _ _ h (fun i => hI i)
    · exact False.elim h
  · rcases v with v | v | v <;> exact False.elim h
theorem zdt_zret : zDet o_zret := by
  intro ι call0 call k0 k Q0 Q callI kI QI uc us ls st σ hk hQ hc h hI
  rcases st with _ | ⟨v, _ | ⟨w, st⟩⟩
  · exact False.elim h
  · rcases v with v | v | v
    · exact ⟨h.1, hQ _ _ h.2 (fun i => (hI i).2)⟩
    · exact False.elim h
    · exact False.elim h
  · rcases v with v | v | v <;> exact False.elim h
theorem zdt_inv {shp : Nat → Nat × Nat} {nx mj n kd rt mx : Nat} (hj : dS mj = true) : zDet (o_inv shp nx mj n kd rt mx) := by
  intro ι call0 call k0 k Q0 Q callI kI QI uc us ls st σ hk hQ hc h hI
  obtain ⟨F, P, M, nn⟩ := σ
  refine ⟨h.1, hc mj hj _ _ _ (fun i => zback rt (fun st' σ' => kI i uc us nx ls st' σ') (st.drop n)) _ h.2 (fun i => (hI i).2) (fun σ r a b => ?_)⟩
  rcases rt with _ | _ | _ | rt
  · rcases r with _ | (r | r | r)
    · exact hk _ _ _ _ _ _ a (fun i => b i)
    · exact False.elim a
    · exact False.elim a
    · exact False.elim a
  · rcases r with _ | (r | r | r)
    · exact False.elim a
    · exact hk _ _ _ _ _ _ a (fun i => b i)
    · exact False.elim a
    · exact False.elim a
  · rcases r with _ | (r | r | r)
    · exact False.elim a
    · exact False.elim a
    · exact hk _ _ _ _ _ _ a (fun i => b i)
    · exact False.elim a
  · rcases r with _ | (r | r | r) <;> exact False.elim a
def zDc : List zO → Prop
  | [] => True
  | o :: r => zDet o ∧ zDc r
def zDa : List (List zO) → Prop
  | [] => True
  | c :: r => zDc c ∧ zDa r
theorem zDc_get : ∀ (c : List zO) (j : Nat), zDc c → zDet (c.getD j o_bad) := by
  intro c
  induction c with
  | nil => intro j _; exact zdt_bad
  | cons o r ih =>
    intro j h
    cases j with
    | zero => exact h.1
    | succ j => exact ih j h.2
theorem zDa_get : ∀ (c : List (List zO)) (j : Nat), zDa c → zDc (c.getD j []) := by
  intro c
  induction c with
  | nil => intro j _; exact True.intro
  | cons o r ih =>
    intro j h
    cases j with
    | zero => exact h.1
    | succ j => exact ih j h.2
theorem zDa_ok {c : List (List zO)} (h : zDa c) (pc : Nat) : zDet (zget c pc o_bad) := zDc_get _ _ (zDa_get c _ h)
theorem zdk_34_0 : zDc [o_iload 1 0, o_con 3 (vI (-10)), o_bad, o_icmpgt 6 10, o_bad, o_bad, o_con 7 (vI 1), o_goto 11, o_bad, o_bad, o_con 11 (vI 0), o_zret] := ⟨zdt_iload, ⟨zdt_con, ⟨zdt_bad, ⟨zdt_icmpgt, ⟨zdt_bad, ⟨zdt_bad, ⟨zdt_con, ⟨zdt_goto, ⟨zdt_bad, ⟨zdt_bad, ⟨zdt_con, ⟨zdt_zret, True.intro⟩⟩⟩⟩⟩⟩⟩⟩⟩⟩⟩⟩
theorem zdk_34 : zDa k_34 := ⟨zdk_34_0, True.intro⟩
theorem zdk_35_0 : zDc [o_iload 1 0, o_sw [(1, 36), (2, 40), (3, 44), (4, 48), (5, 59)] 70, o_bad, o_bad, o_bad, o_bad, o_bad, o_bad, o_bad, o_bad, o_bad, o_bad, o_bad, o_bad, o_bad, o_bad] := ⟨zdt_iload, ⟨zdt_sw, ⟨zdt_bad, ⟨zdt_bad, ⟨zdt_bad, ⟨zdt_bad, ⟨zdt_bad, ⟨zdt_bad, ⟨zdt_bad, ⟨zdt_bad, ⟨zdt_bad, ⟨zdt_bad, ⟨zdt_bad, ⟨zdt_bad, ⟨zdt_bad, ⟨zdt_bad, True.intro⟩⟩⟩⟩⟩⟩⟩⟩⟩⟩⟩⟩⟩⟩⟩⟩
theorem zdk_35_1 : zDc [o_bad, o_bad, o_bad, o_bad, o_bad, o_bad, o_bad, o_bad, o_bad, o_bad, o_bad, o_bad, o_bad, o_bad, o_bad, o_bad] := ⟨zdt_bad, ⟨zdt_bad, ⟨zdt_bad, ⟨zdt_bad, ⟨zdt_bad, ⟨zdt_bad, ⟨zdt_bad, ⟨zdt_bad, ⟨zdt_bad, ⟨zdt_bad, ⟨zdt_bad, ⟨zdt_bad, ⟨zdt_bad, ⟨zdt_bad, ⟨zdt_bad, ⟨zdt_bad, True.intro⟩⟩⟩⟩⟩⟩⟩⟩⟩⟩⟩⟩⟩⟩⟩⟩
theorem zdk_35_2 : zDc [o_bad, o_bad, o_bad, o_bad, o_iload 37 1, o_iload 38 2, o_iadd 39, o_iret, o_iload 41 1, o_iload 42 2, o_isub 43, o_iret, o_iload 45 1, o_iload 46 2, o_imul 47, o_iret] := ⟨zdt_bad, ⟨zdt_bad, ⟨zdt_bad, ⟨zdt_bad, ⟨zdt_iload, ⟨zdt_iload, ⟨zdt_iadd, ⟨zdt_iret, ⟨zdt_iload, ⟨zdt_iload, ⟨zdt_isub, ⟨zdt_iret, ⟨zdt_iload, ⟨zdt_iload, ⟨zdt_imul, ⟨zdt_iret, True.intro⟩⟩⟩⟩⟩⟩⟩⟩⟩⟩⟩⟩⟩⟩⟩⟩
theorem zdk_35_3 : zDc [o_iload 49 1, o_iload 50 2, o_icmpge 53 57, o_bad, o_bad, o_con 54 (vI 1), o_goto 58, o_bad, o_bad, o_con 58 (vI 0), o_iret, o_iload 60 1, o_iload 61 2, o_icmpne 64 68, o_bad, o_bad] := ⟨zdt_iload, ⟨zdt_iload, ⟨zdt_icmpge, ⟨zdt_bad, ⟨zdt_bad, ⟨zdt_con, ⟨zdt_goto, ⟨zdt_bad, ⟨zdt_bad, ⟨zdt_con, ⟨zdt_iret, ⟨zdt_iload, ⟨zdt_iload, ⟨zdt_icmpne, ⟨zdt_bad, ⟨zdt_bad, True.intro⟩⟩⟩⟩⟩⟩⟩⟩⟩⟩⟩⟩⟩⟩⟩⟩
theorem zdk_35_4 : zDc [o_con 65 (vI 1), o_goto 69, o_bad, o_bad, o_con 69 (vI 0), o_iret, o_iload 71 1, o_iret] := ⟨zdt_con, ⟨zdt_goto, ⟨zdt_bad, ⟨zdt_bad, ⟨zdt_con, ⟨zdt_iret, ⟨zdt_iload, ⟨zdt_iret, True.intro⟩⟩⟩⟩⟩⟩⟩⟩
theorem zdk_35 : zDa k_35 := ⟨zdk_35_0, ⟨zdk_35_1, ⟨zdk_35_2, ⟨zdk_35_3, ⟨zdk_35_4, True.intro⟩⟩⟩⟩⟩
theorem zdk_165_0 : zDc [o_aload 1 0, o_iload 2 2, o_con 5 (vI 320), o_bad, o_bad, o_inv zshp 8 280 2 99 1 2, o_bad, o_bad, o_putI zshp 11 2 5, o_bad, o_bad, o_aload 12 0, o_getF zshp 15 2 0, o_bad, o_bad, o_con 16 (vI 0)] := ⟨zdt_aload, ⟨zdt_iload, ⟨zdt_con, ⟨zdt_bad, ⟨zdt_bad, ⟨(zdt_inv rfl), ⟨zdt_bad, ⟨zdt_bad, ⟨zdt_putI, ⟨zdt_bad, ⟨zdt_bad, ⟨zdt_aload, ⟨zdt_getF, ⟨zdt_bad, ⟨zdt_bad, ⟨zdt_con, True.intro⟩⟩⟩⟩⟩⟩⟩⟩⟩⟩⟩⟩⟩⟩⟩⟩
theorem zdk_165_1 : zDc [o_inv zshp 19 287 2 99 0 4, o_bad, o_bad, o_con 20 (vI 0), o_istore 22 4, o_bad, o_iload 24 4, o_bad, o_aload 25 0, o_getI zshp 28 2 5, o_bad, o_bad, o_icmpge 31 57, o_bad, o_bad, o_aload 32 0] := ⟨(zdt_inv rfl), ⟨zdt_bad, ⟨zdt_bad, ⟨zdt_con, ⟨zdt_istore, ⟨zdt_bad, ⟨zdt_iload, ⟨zdt_bad, ⟨zdt_aload, ⟨zdt_getI, ⟨zdt_bad, ⟨zdt_bad, ⟨zdt_icmpge, ⟨zdt_bad, ⟨zdt_bad, ⟨zdt_aload, True.intro⟩⟩⟩⟩⟩⟩⟩⟩⟩⟩⟩⟩⟩⟩⟩⟩
theorem zdk_165_2 : zDc [o_getF zshp 35 2 1, o_bad, o_bad, o_iload 37 4, o_bad, o_iload 39 4, o_bad, o_iload 40 3, o_icmpge 43 49, o_bad, o_bad, o_con 46 (vJ (-9223372036854775808)), o_bad, o_bad, o_goto 50, o_bad] := ⟨zdt_getF, ⟨zdt_bad, ⟨zdt_bad, ⟨zdt_iload, ⟨zdt_bad, ⟨zdt_iload, ⟨zdt_bad, ⟨zdt_iload, ⟨zdt_icmpge, ⟨zdt_bad, ⟨zdt_bad, ⟨zdt_con, ⟨zdt_bad, ⟨zdt_bad, ⟨zdt_goto, ⟨zdt_bad, True.intro⟩⟩⟩⟩⟩⟩⟩⟩⟩⟩⟩⟩⟩⟩⟩⟩
theorem zdk_165_3 : zDc [o_bad, o_con 50 (vJ 0), o_last zshp 51, o_iinc 54 4 1, o_bad, o_bad, o_goto 22, o_bad, o_bad, o_aload 58 0, o_getF zshp 61 2 0, o_bad, o_bad, o_con 62 (vI 3), o_con 63 (vI 1), o_iast zshp 64] := ⟨zdt_bad, ⟨zdt_con, ⟨zdt_last, ⟨zdt_iinc, ⟨zdt_bad, ⟨zdt_bad, ⟨zdt_goto, ⟨zdt_bad, ⟨zdt_bad, ⟨zdt_aload, ⟨zdt_getF, ⟨zdt_bad, ⟨zdt_bad, ⟨zdt_con, ⟨zdt_con, ⟨zdt_iast, True.intro⟩⟩⟩⟩⟩⟩⟩⟩⟩⟩⟩⟩⟩⟩⟩⟩
theorem zdk_165_4 : zDc [o_aload 65 0, o_con 66 (vI 0), o_putI zshp 69 2 3, o_bad, o_bad, o_aload 70 0, o_getF zshp 73 2 4, o_bad, o_bad, o_con 74 (vI 0), o_putI zshp 77 5 4, o_bad, o_bad, o_aload 78 0, o_con 79 (vI 0), o_putI zshp 82 2 6] := ⟨zdt_aload, ⟨zdt_con, ⟨zdt_putI, ⟨zdt_bad, ⟨zdt_bad, ⟨zdt_aload, ⟨zdt_getF, ⟨zdt_bad, ⟨zdt_bad, ⟨zdt_con, ⟨zdt_putI, ⟨zdt_bad, ⟨zdt_bad, ⟨zdt_aload, ⟨zdt_con, ⟨zdt_putI, True.intro⟩⟩⟩⟩⟩⟩⟩⟩⟩⟩⟩⟩⟩⟩⟩⟩
theorem zdk_165_5 : zDc [o_bad, o_bad, o_con 83 (vI 0), o_istore 85 4, o_bad, o_iload 87 4, o_bad, o_con 90 (vI 10000), o_bad, o_bad, o_icmpge 93 154, o_bad, o_bad, o_aload 94 0, o_aload 95 1, o_inv zshp 98 166 2 2 1 2] := ⟨zdt_bad, ⟨zdt_bad, ⟨zdt_con, ⟨zdt_istore, ⟨zdt_bad, ⟨zdt_iload, ⟨zdt_bad, ⟨zdt_con, ⟨zdt_bad, ⟨zdt_bad, ⟨zdt_icmpge, ⟨zdt_bad, ⟨zdt_bad, ⟨zdt_aload, ⟨zdt_aload, ⟨(zdt_inv rfl), True.intro⟩⟩⟩⟩⟩⟩⟩⟩⟩⟩⟩⟩⟩⟩⟩⟩
theorem zdk_165_6 : zDc [o_bad, o_bad, o_ifne 101 154, o_bad, o_bad, o_aload 102 0, o_getF zshp 105 2 4, o_bad, o_bad, o_getI zshp 108 5 4, o_bad, o_bad, o_ifle 111 143, o_bad, o_bad, o_aload 112 0] := ⟨zdt_bad, ⟨zdt_bad, ⟨zdt_ifne, ⟨zdt_bad, ⟨zdt_bad, ⟨zdt_aload, ⟨zdt_getF, ⟨zdt_bad, ⟨zdt_bad, ⟨zdt_getI, ⟨zdt_bad, ⟨zdt_bad, ⟨zdt_ifle, ⟨zdt_bad, ⟨zdt_bad, ⟨zdt_aload, True.intro⟩⟩⟩⟩⟩⟩⟩⟩⟩⟩⟩⟩⟩⟩⟩⟩
theorem zdk_165_7 : zDc [o_getI zshp 115 2 6, o_bad, o_bad, o_aload 116 0, o_getF zshp 119 2 4, o_bad, o_bad, o_getF zshp 122 5 2, o_bad, o_bad, o_aload 123 0, o_getF zshp 126 2 4, o_bad, o_bad, o_getI zshp 129 5 4, o_bad] := ⟨zdt_getI, ⟨zdt_bad, ⟨zdt_bad, ⟨zdt_aload, ⟨zdt_getF, ⟨zdt_bad, ⟨zdt_bad, ⟨zdt_getF, ⟨zdt_bad, ⟨zdt_bad, ⟨zdt_aload, ⟨zdt_getF, ⟨zdt_bad, ⟨zdt_bad, ⟨zdt_getI, ⟨zdt_bad, True.intro⟩⟩⟩⟩⟩⟩⟩⟩⟩⟩⟩⟩⟩⟩⟩⟩
theorem zdk_165_8 : zDc [o_bad, o_con 130 (vI 1), o_isub 131, o_ald zshp 132 14, o_icmplt 135 143, o_bad, o_bad, o_aload 136 0, o_aload 137 1, o_inv zshp 140 174 2 2 0 4, o_bad, o_bad, o_goto 148, o_bad, o_bad, o_aload 144 0] := ⟨zdt_bad, ⟨zdt_con, ⟨zdt_isub, ⟨zdt_ald, ⟨zdt_icmplt, ⟨zdt_bad, ⟨zdt_bad, ⟨zdt_aload, ⟨zdt_aload, ⟨(zdt_inv rfl), ⟨zdt_bad, ⟨zdt_bad, ⟨zdt_goto, ⟨zdt_bad, ⟨zdt_bad, ⟨zdt_aload, True.intro⟩⟩⟩⟩⟩⟩⟩⟩⟩⟩⟩⟩⟩⟩⟩⟩
theorem zdk_165_9 : zDc [o_aload 145 1, o_inv zshp 148 167 2 2 0 2, o_bad, o_bad, o_iinc 151 4 1, o_bad, o_bad, o_goto 85, o_bad, o_bad, o_con 155 (vI 0), o_istore 157 4, o_bad, o_iload 159 4, o_bad, o_aload 160 0] := ⟨zdt_aload, ⟨(zdt_inv rfl), ⟨zdt_bad, ⟨zdt_bad, ⟨zdt_iinc, ⟨zdt_bad, ⟨zdt_bad, ⟨zdt_goto, ⟨zdt_bad, ⟨zdt_bad, ⟨zdt_con, ⟨zdt_istore, ⟨zdt_bad, ⟨zdt_iload, ⟨zdt_bad, ⟨zdt_aload, True.intro⟩⟩⟩⟩⟩⟩⟩⟩⟩⟩⟩⟩⟩⟩⟩⟩
theorem zdk_165_10 : zDc [o_getI zshp 163 2 5, o_bad, o_bad, o_icmpge 166 200, o_bad, o_bad, o_aload 167 0, o_getF zshp 170 2 0, o_bad, o_bad, o_con 171 (vI 5), o_dup2 172, o_ald zshp 173 14, o_aload 174 0, o_getF zshp 177 2 1, o_bad] := ⟨zdt_getI, ⟨zdt_bad, ⟨zdt_bad, ⟨zdt_icmpge, ⟨zdt_bad, ⟨zdt_bad, ⟨zdt_aload, ⟨zdt_getF, ⟨zdt_bad, ⟨zdt_bad, ⟨zdt_con, ⟨zdt_dup2, ⟨zdt_ald, ⟨zdt_aload, ⟨zdt_getF, ⟨zdt_bad, True.intro⟩⟩⟩⟩⟩⟩⟩⟩⟩⟩⟩⟩⟩⟩⟩⟩
theorem zdk_165_11 : zDc [o_bad, o_iload 179 4, o_bad, o_lald zshp 180, o_con 183 (vJ (-9223372036854775808)), o_bad, o_bad, o_lcmp 184, o_ifne 187 191, o_bad, o_bad, o_con 188 (vI 0), o_goto 192, o_bad, o_bad, o_con 192 (vI 1)] := ⟨zdt_bad, ⟨zdt_iload, ⟨zdt_bad, ⟨zdt_lald, ⟨zdt_con, ⟨zdt_bad, ⟨zdt_bad, ⟨zdt_lcmp, ⟨zdt_ifne, ⟨zdt_bad, ⟨zdt_bad, ⟨zdt_con, ⟨zdt_goto, ⟨zdt_bad, ⟨zdt_bad, ⟨zdt_con, True.intro⟩⟩⟩⟩⟩⟩⟩⟩⟩⟩⟩⟩⟩⟩⟩⟩
theorem zdk_165_12 : zDc [o_iadd 193, o_iast zshp 194, o_iinc 197 4 1, o_bad, o_bad, o_goto 157, o_bad, o_bad, o_ret] := ⟨zdt_iadd, ⟨zdt_iast, ⟨zdt_iinc, ⟨zdt_bad, ⟨zdt_bad, ⟨zdt_goto, ⟨zdt_bad, ⟨zdt_bad, ⟨zdt_ret, True.intro⟩⟩⟩⟩⟩⟩⟩⟩⟩
theorem zdk_165 : zDa k_165 := ⟨zdk_165_0, ⟨zdk_165_1, ⟨zdk_165_2, ⟨zdk_165_3, ⟨zdk_165_4, ⟨zdk_165_5, ⟨zdk_165_6, ⟨zdk_165_7, ⟨zdk_165_8, ⟨zdk_165_9, ⟨zdk_165_10, ⟨zdk_165_11, ⟨zdk_165_12, True.intro⟩⟩⟩⟩⟩⟩⟩⟩⟩⟩⟩⟩⟩
theorem zdk_166_0 : zDc [o_aload 1 0, o_getI zshp 4 2 6, o_bad, o_bad, o_aload 5 1, o_getI zshp 8 3 13, o_bad, o_bad, o_icmplt 11 25, o_bad, o_bad, o_aload 12 0, o_getF zshp 15 2 4, o_bad, o_bad, o_getI zshp 18 5 4] := ⟨zdt_aload, ⟨zdt_getI, ⟨zdt_bad, ⟨zdt_bad, ⟨zdt_aload, ⟨zdt_getI, ⟨zdt_bad, ⟨zdt_bad, ⟨zdt_icmplt, ⟨zdt_bad, ⟨zdt_bad, ⟨zdt_aload, ⟨zdt_getF, ⟨zdt_bad, ⟨zdt_bad, ⟨zdt_getI, True.intro⟩⟩⟩⟩⟩⟩⟩⟩⟩⟩⟩⟩⟩⟩⟩⟩
theorem zdk_166_1 : zDc [o_bad, o_bad, o_ifne 21 25, o_bad, o_bad, o_con 22 (vI 1), o_goto 26, o_bad, o_bad, o_con 26 (vI 0), o_zret] := ⟨zdt_bad, ⟨zdt_bad, ⟨zdt_ifne, ⟨zdt_bad, ⟨zdt_bad, ⟨zdt_con, ⟨zdt_goto, ⟨zdt_bad, ⟨zdt_bad, ⟨zdt_con, ⟨zdt_zret, True.intro⟩⟩⟩⟩⟩⟩⟩⟩⟩⟩⟩
theorem zdk_166 : zDa k_166 := ⟨zdk_166_0, ⟨zdk_166_1, True.intro⟩⟩
theorem zdk_167_0 : zDc [o_aload 1 1, o_getF zshp 4 3 0, o_bad, o_bad, o_aload 5 0, o_getI zshp 8 2 6, o_bad, o_bad, o_ald zshp 9 14, o_sw [(6, 40), (7, 70), (8, 78), (9, 86)] 116, o_bad, o_bad, o_bad, o_bad, o_bad, o_bad] := ⟨zdt_aload, ⟨zdt_getF, ⟨zdt_bad, ⟨zdt_bad, ⟨zdt_aload, ⟨zdt_getI, ⟨zdt_bad, ⟨zdt_bad, ⟨zdt_ald, ⟨zdt_sw, ⟨zdt_bad, ⟨zdt_bad, ⟨zdt_bad, ⟨zdt_bad, ⟨zdt_bad, ⟨zdt_bad, True.intro⟩⟩⟩⟩⟩⟩⟩⟩⟩⟩⟩⟩⟩⟩⟩⟩
theorem zdk_167_1 : zDc [o_bad, o_bad, o_bad, o_bad, o_bad, o_bad, o_bad, o_bad, o_bad, o_bad, o_bad, o_bad, o_bad, o_bad, o_bad, o_bad] := ⟨zdt_bad, ⟨zdt_bad, ⟨zdt_bad, ⟨zdt_bad, ⟨zdt_bad, ⟨zdt_bad, ⟨zdt_bad, ⟨zdt_bad, ⟨zdt_bad, ⟨zdt_bad, ⟨zdt_bad, ⟨zdt_bad, ⟨zdt_bad, ⟨zdt_bad, ⟨zdt_bad, ⟨zdt_bad, True.intro⟩⟩⟩⟩⟩⟩⟩⟩⟩⟩⟩⟩⟩⟩⟩⟩
theorem zdk_167_2 : zDc [o_bad, o_bad, o_bad, o_bad, o_bad, o_bad, o_bad, o_bad, o_aload 41 0, o_getF zshp 44 2 1, o_bad, o_bad, o_aload 45 1, o_getF zshp 48 3 1, o_bad, o_bad] := ⟨zdt_bad, ⟨zdt_bad, ⟨zdt_bad, ⟨zdt_bad, ⟨zdt_bad, ⟨zdt_bad, ⟨zdt_bad, ⟨zdt_bad, ⟨zdt_aload, ⟨zdt_getF, ⟨zdt_bad, ⟨zdt_bad, ⟨zdt_aload, ⟨zdt_getF, ⟨zdt_bad, ⟨zdt_bad, True.intro⟩⟩⟩⟩⟩⟩⟩⟩⟩⟩⟩⟩⟩⟩⟩⟩
theorem zdk_167_3 : zDc [o_aload 49 0, o_getI zshp 52 2 6, o_bad, o_bad, o_ald zshp 53 14, o_con 56 (vJ (-9223372036854775808)), o_bad, o_bad, o_last zshp 57, o_aload 58 0, o_dup 59, o_getI zshp 62 2 6, o_bad, o_bad, o_con 63 (vI 1), o_iadd 64] := ⟨zdt_aload, ⟨zdt_getI, ⟨zdt_bad, ⟨zdt_bad, ⟨zdt_ald, ⟨zdt_con, ⟨zdt_bad, ⟨zdt_bad, ⟨zdt_last, ⟨zdt_aload, ⟨zdt_dup, ⟨zdt_getI, ⟨zdt_bad, ⟨zdt_bad, ⟨zdt_con, ⟨zdt_iadd, True.intro⟩⟩⟩⟩⟩⟩⟩⟩⟩⟩⟩⟩⟩⟩⟩⟩
theorem zdk_167_4 : zDc [o_putI zshp 67 2 6, o_bad, o_bad, o_goto 121, o_bad, o_bad, o_aload 71 0, o_aload 72 1, o_inv zshp 75 171 2 2 0 4, o_bad, o_bad, o_goto 121, o_bad, o_bad, o_aload 79 0, o_aload 80 1] := ⟨zdt_putI, ⟨zdt_bad, ⟨zdt_bad, ⟨zdt_goto, ⟨zdt_bad, ⟨zdt_bad, ⟨zdt_aload, ⟨zdt_aload, ⟨(zdt_inv rfl), ⟨zdt_bad, ⟨zdt_bad, ⟨zdt_goto, ⟨zdt_bad, ⟨zdt_bad, ⟨zdt_aload, ⟨zdt_aload, True.intro⟩⟩⟩⟩⟩⟩⟩⟩⟩⟩⟩⟩⟩⟩⟩⟩
theorem zdk_167_5 : zDc [o_inv zshp 83 172 2 2 0 4, o_bad, o_bad, o_goto 121, o_bad, o_bad, o_aload 87 0, o_aload 88 0, o_aload 89 1, o_getF zshp 92 3 2, o_bad, o_bad, o_aload 93 0, o_getI zshp 96 2 6, o_bad, o_bad] := ⟨(zdt_inv rfl), ⟨zdt_bad, ⟨zdt_bad, ⟨zdt_goto, ⟨zdt_bad, ⟨zdt_bad, ⟨zdt_aload, ⟨zdt_aload, ⟨zdt_aload, ⟨zdt_getF, ⟨zdt_bad, ⟨zdt_bad, ⟨zdt_aload, ⟨zdt_getI, ⟨zdt_bad, ⟨zdt_bad, True.intro⟩⟩⟩⟩⟩⟩⟩⟩⟩⟩⟩⟩⟩⟩⟩⟩
theorem zdk_167_6 : zDc [o_ald zshp 97 14, o_inv zshp 100 168 2 2 2 2, o_bad, o_bad, o_inv zshp 103 169 2 2 0 4, o_bad, o_bad, o_aload 104 0, o_dup 105, o_getI zshp 108 2 6, o_bad, o_bad, o_con 109 (vI 1), o_iadd 110, o_putI zshp 113 2 6, o_bad] := ⟨zdt_ald, ⟨(zdt_inv rfl), ⟨zdt_bad, ⟨zdt_bad, ⟨(zdt_inv rfl), ⟨zdt_bad, ⟨zdt_bad, ⟨zdt_aload, ⟨zdt_dup, ⟨zdt_getI, ⟨zdt_bad, ⟨zdt_bad, ⟨zdt_con, ⟨zdt_iadd, ⟨zdt_putI, ⟨zdt_bad, True.intro⟩⟩⟩⟩⟩⟩⟩⟩⟩⟩⟩⟩⟩⟩⟩⟩
theorem zdk_167_7 : zDc [o_bad, o_goto 121, o_bad, o_bad, o_aload 117 0, o_aload 118 1, o_inv zshp 121 170 2 2 0 7, o_bad, o_bad, o_ret] := ⟨zdt_bad, ⟨zdt_goto, ⟨zdt_bad, ⟨zdt_bad, ⟨zdt_aload, ⟨zdt_aload, ⟨(zdt_inv rfl), ⟨zdt_bad, ⟨zdt_bad, ⟨zdt_ret, True.intro⟩⟩⟩⟩⟩⟩⟩⟩⟩⟩
theorem zdk_167 : zDa k_167 := ⟨zdk_167_0, ⟨zdk_167_1, ⟨zdk_167_2, ⟨zdk_167_3, ⟨zdk_167_4, ⟨zdk_167_5, ⟨zdk_167_6, ⟨zdk_167_7, True.intro⟩⟩⟩⟩⟩⟩⟩⟩
theorem zdk_168_0 : zDc [o_iload 1 1, o_inv zshp 4 34 1 99 1 1, o_bad, o_bad, o_ifeq 7 19, o_bad, o_bad, o_aload 8 0, o_getF zshp 11 2 1, o_bad, o_bad, o_con 13 (vI (-10)), o_bad, o_iload 14 1, o_isub 15, o_lald zshp 16] := ⟨zdt_iload, ⟨(zdt_inv rfl), ⟨zdt_bad, ⟨zdt_bad, ⟨zdt_ifeq, ⟨zdt_bad, ⟨zdt_bad, ⟨zdt_aload, ⟨zdt_getF, ⟨zdt_bad, ⟨zdt_bad, ⟨zdt_con, ⟨zdt_bad, ⟨zdt_iload, ⟨zdt_isub, ⟨zdt_lald, True.intro⟩⟩⟩⟩⟩⟩⟩⟩⟩⟩⟩⟩⟩⟩⟩⟩
theorem zdk_168_1 : zDc [o_goto 21, o_bad, o_bad, o_iload 20 1, o_i2l 21, o_lret] := ⟨zdt_goto, ⟨zdt_bad, ⟨zdt_bad, ⟨zdt_iload, ⟨zdt_i2l, ⟨zdt_lret, True.intro⟩⟩⟩⟩⟩⟩
theorem zdk_168 : zDa k_168 := ⟨zdk_168_0, ⟨zdk_168_1, True.intro⟩⟩
theorem zdk_169_0 : zDc [o_lload 1 1, o_con 4 (vJ (-9223372036854775808)), o_bad, o_bad, o_lcmp 5, o_ifeq 8 12, o_bad, o_bad, o_con 9 (vI 1), o_goto 13, o_bad, o_bad, o_con 13 (vI 0), o_istore 14 3, o_aload 15 0, o_getF zshp 18 2 0] := ⟨zdt_lload, ⟨zdt_con, ⟨zdt_bad, ⟨zdt_bad, ⟨zdt_lcmp, ⟨zdt_ifeq, ⟨zdt_bad, ⟨zdt_bad, ⟨zdt_con, ⟨zdt_goto, ⟨zdt_bad, ⟨zdt_bad, ⟨zdt_con, ⟨zdt_istore, ⟨zdt_aload, ⟨zdt_getF, True.intro⟩⟩⟩⟩⟩⟩⟩⟩⟩⟩⟩⟩⟩⟩⟩⟩
theorem zdk_169_1 : zDc [o_bad, o_bad, o_con 19 (vI 3), o_iload 20 3, o_ifeq 23 27, o_bad, o_bad, o_con 24 (vI 1), o_goto 28, o_bad, o_bad, o_con 28 (vI 0), o_iast zshp 29, o_aload 30 0, o_getF zshp 33 2 0, o_bad] := ⟨zdt_bad, ⟨zdt_bad, ⟨zdt_con, ⟨zdt_iload, ⟨zdt_ifeq, ⟨zdt_bad, ⟨zdt_bad, ⟨zdt_con, ⟨zdt_goto, ⟨zdt_bad, ⟨zdt_bad, ⟨zdt_con, ⟨zdt_iast, ⟨zdt_aload, ⟨zdt_getF, ⟨zdt_bad, True.intro⟩⟩⟩⟩⟩⟩⟩⟩⟩⟩⟩⟩⟩⟩⟩⟩
theorem zdk_169_2 : zDc [o_bad, o_con 34 (vI 4), o_iload 35 3, o_ifeq 38 43, o_bad, o_bad, o_lload 39 1, o_l2i 40, o_goto 44, o_bad, o_bad, o_con 44 (vI 0), o_iast zshp 45, o_ret] := ⟨zdt_bad, ⟨zdt_con, ⟨zdt_iload, ⟨zdt_ifeq, ⟨zdt_bad, ⟨zdt_bad, ⟨zdt_lload, ⟨zdt_l2i, ⟨zdt_goto, ⟨zdt_bad, ⟨zdt_bad, ⟨zdt_con, ⟨zdt_iast, ⟨zdt_ret, True.intro⟩⟩⟩⟩⟩⟩⟩⟩⟩⟩⟩⟩⟩⟩
theorem zdk_169 : zDa k_169 := ⟨zdk_169_0, ⟨zdk_169_1, ⟨zdk_169_2, True.intro⟩⟩⟩
theorem zdk_170_0 : zDc [o_aload 1 1, o_getF zshp 4 3 0, o_bad, o_bad, o_aload 5 0, o_getI zshp 8 2 6, o_bad, o_bad, o_ald zshp 9 14, o_istore 10 2, o_aload 11 0, o_aload 12 1, o_getF zshp 15 3 2, o_bad, o_bad, o_aload 16 0] := ⟨zdt_aload, ⟨zdt_getF, ⟨zdt_bad, ⟨zdt_bad, ⟨zdt_aload, ⟨zdt_getI, ⟨zdt_bad, ⟨zdt_bad, ⟨zdt_ald, ⟨zdt_istore, ⟨zdt_aload, ⟨zdt_aload, ⟨zdt_getF, ⟨zdt_bad, ⟨zdt_bad, ⟨zdt_aload, True.intro⟩⟩⟩⟩⟩⟩⟩⟩⟩⟩⟩⟩⟩⟩⟩⟩
theorem zdk_170_1 : zDc [o_getI zshp 19 2 6, o_bad, o_bad, o_ald zshp 20 14, o_inv zshp 23 168 2 2 2 2, o_bad, o_bad, o_lstore 24 3, o_iload 25 2, o_ifne 28 32, o_bad, o_bad, o_con 29 (vJ 0), o_goto 45, o_bad, o_bad] := ⟨zdt_getI, ⟨zdt_bad, ⟨zdt_bad, ⟨zdt_ald, ⟨(zdt_inv rfl), ⟨zdt_bad, ⟨zdt_bad, ⟨zdt_lstore, ⟨zdt_iload, ⟨zdt_ifne, ⟨zdt_bad, ⟨zdt_bad, ⟨zdt_con, ⟨zdt_goto, ⟨zdt_bad, ⟨zdt_bad, True.intro⟩⟩⟩⟩⟩⟩⟩⟩⟩⟩⟩⟩⟩⟩⟩⟩
theorem zdk_170_2 : zDc [o_aload 33 0, o_aload 34 1, o_getF zshp 37 3 3, o_bad, o_bad, o_aload 38 0, o_getI zshp 41 2 6, o_bad, o_bad, o_ald zshp 42 14, o_inv zshp 45 168 2 2 2 2, o_bad, o_bad, o_lstore 47 5, o_bad, o_lload 48 3] := ⟨zdt_aload, ⟨zdt_aload, ⟨zdt_getF, ⟨zdt_bad, ⟨zdt_bad, ⟨zdt_aload, ⟨zdt_getI, ⟨zdt_bad, ⟨zdt_bad, ⟨zdt_ald, ⟨(zdt_inv rfl), ⟨zdt_bad, ⟨zdt_bad, ⟨zdt_lstore, ⟨zdt_bad, ⟨zdt_lload, True.intro⟩⟩⟩⟩⟩⟩⟩⟩⟩⟩⟩⟩⟩⟩⟩⟩
theorem zdk_170_3 : zDc [o_con 51 (vJ (-9223372036854775808)), o_bad, o_bad, o_lcmp 52, o_ifeq 55 64, o_bad, o_bad, o_lload 57 5, o_bad, o_con 60 (vJ (-9223372036854775808)), o_bad, o_bad, o_lcmp 61, o_ifne 64 84, o_bad, o_bad] := ⟨zdt_con, ⟨zdt_bad, ⟨zdt_bad, ⟨zdt_lcmp, ⟨zdt_ifeq, ⟨zdt_bad, ⟨zdt_bad, ⟨zdt_lload, ⟨zdt_bad, ⟨zdt_con, ⟨zdt_bad, ⟨zdt_bad, ⟨zdt_lcmp, ⟨zdt_ifne, ⟨zdt_bad, ⟨zdt_bad, True.intro⟩⟩⟩⟩⟩⟩⟩⟩⟩⟩⟩⟩⟩⟩⟩⟩
theorem zdk_170_4 : zDc [o_aload 65 0, o_getF zshp 68 2 1, o_bad, o_bad, o_aload 69 1, o_getF zshp 72 3 1, o_bad, o_bad, o_aload 73 0, o_getI zshp 76 2 6, o_bad, o_bad, o_ald zshp 77 14, o_con 80 (vJ (-9223372036854775808)), o_bad, o_bad] := ⟨zdt_aload, ⟨zdt_getF, ⟨zdt_bad, ⟨zdt_bad, ⟨zdt_aload, ⟨zdt_getF, ⟨zdt_bad, ⟨zdt_bad, ⟨zdt_aload, ⟨zdt_getI, ⟨zdt_bad, ⟨zdt_bad, ⟨zdt_ald, ⟨zdt_con, ⟨zdt_bad, ⟨zdt_bad, True.intro⟩⟩⟩⟩⟩⟩⟩⟩⟩⟩⟩⟩⟩⟩⟩⟩
theorem zdk_170_5 : zDc [o_last zshp 81, o_goto 126, o_bad, o_bad, o_aload 85 0, o_getF zshp 88 2 1, o_bad, o_bad, o_aload 89 1, o_getF zshp 92 3 1, o_bad, o_bad, o_aload 93 0, o_getI zshp 96 2 6, o_bad, o_bad] := ⟨zdt_last, ⟨zdt_goto, ⟨zdt_bad, ⟨zdt_bad, ⟨zdt_aload, ⟨zdt_getF, ⟨zdt_bad, ⟨zdt_bad, ⟨zdt_aload, ⟨zdt_getF, ⟨zdt_bad, ⟨zdt_bad, ⟨zdt_aload, ⟨zdt_getI, ⟨zdt_bad, ⟨zdt_bad, True.intro⟩⟩⟩⟩⟩⟩⟩⟩⟩⟩⟩⟩⟩⟩⟩⟩
theorem zdk_170_6 : zDc [o_ald zshp 97 14, o_iload 98 2, o_lload 99 3, o_l2i 100, o_lload 102 5, o_bad, o_l2i 103, o_inv zshp 106 35 3 99 1 3, o_bad, o_bad, o_i2l 107, o_last zshp 108, o_aload 109 0, o_getF zshp 112 2 0, o_bad, o_bad] := ⟨zdt_ald, ⟨zdt_iload, ⟨zdt_lload, ⟨zdt_l2i, ⟨zdt_lload, ⟨zdt_bad, ⟨zdt_l2i, ⟨(zdt_inv rfl), ⟨zdt_bad, ⟨zdt_bad, ⟨zdt_i2l, ⟨zdt_last, ⟨zdt_aload, ⟨zdt_getF, ⟨zdt_bad, ⟨zdt_bad, True.intro⟩⟩⟩⟩⟩⟩⟩⟩⟩⟩⟩⟩⟩⟩⟩⟩
theorem zdk_170_7 : zDc [o_con 113 (vI 0), o_dup2 114, o_ald zshp 115 14, o_iload 116 2, o_ifne 119 123, o_bad, o_bad, o_con 120 (vI 0), o_goto 124, o_bad, o_bad, o_con 124 (vI 1), o_iadd 125, o_iast zshp 126, o_aload 127 0, o_dup 128] := ⟨zdt_con, ⟨zdt_dup2, ⟨zdt_ald, ⟨zdt_iload, ⟨zdt_ifne, ⟨zdt_bad, ⟨zdt_bad, ⟨zdt_con, ⟨zdt_goto, ⟨zdt_bad, ⟨zdt_bad, ⟨zdt_con, ⟨zdt_iadd, ⟨zdt_iast, ⟨zdt_aload, ⟨zdt_dup, True.intro⟩⟩⟩⟩⟩⟩⟩⟩⟩⟩⟩⟩⟩⟩⟩⟩
theorem zdk_170_8 : zDc [o_getI zshp 131 2 6, o_bad, o_bad, o_con 132 (vI 1), o_iadd 133, o_putI zshp 136 2 6, o_bad, o_bad, o_ret] := ⟨zdt_getI, ⟨zdt_bad, ⟨zdt_bad, ⟨zdt_con, ⟨zdt_iadd, ⟨zdt_putI, ⟨zdt_bad, ⟨zdt_bad, ⟨zdt_ret, True.intro⟩⟩⟩⟩⟩⟩⟩⟩⟩
theorem zdk_170 : zDa k_170 := ⟨zdk_170_0, ⟨zdk_170_1, ⟨zdk_170_2, ⟨zdk_170_3, ⟨zdk_170_4, ⟨zdk_170_5, ⟨zdk_170_6, ⟨zdk_170_7, ⟨zdk_170_8, True.intro⟩⟩⟩⟩⟩⟩⟩⟩⟩
theorem zdk_171_0 : zDc [o_aload 1 0, o_aload 2 1, o_getF zshp 5 3 2, o_bad, o_bad, o_aload 6 0, o_getI zshp 9 2 6, o_bad, o_bad, o_ald zshp 10 14, o_inv zshp 13 168 2 2 2 2, o_bad, o_bad, o_lstore 14 2, o_lload 15 2, o_con 18 (vJ (-9223372036854775808))] := ⟨zdt_aload, ⟨zdt_aload, ⟨zdt_getF, ⟨zdt_bad, ⟨zdt_bad, ⟨zdt_aload, ⟨zdt_getI, ⟨zdt_bad, ⟨zdt_bad, ⟨zdt_ald, ⟨(zdt_inv rfl), ⟨zdt_bad, ⟨zdt_bad, ⟨zdt_lstore, ⟨zdt_lload, ⟨zdt_con, True.intro⟩⟩⟩⟩⟩⟩⟩⟩⟩⟩⟩⟩⟩⟩⟩⟩
theorem zdk_171_1 : zDc [o_bad, o_bad, o_lcmp 19, o_ifne 22 41, o_bad, o_bad, o_aload 23 0, o_inv zshp 26 176 1 2 0 1, o_bad, o_bad, o_aload 27 0, o_con 28 (vI 0), o_aload 29 1, o_getF zshp 32 3 9, o_bad, o_bad] := ⟨zdt_bad, ⟨zdt_bad, ⟨zdt_lcmp, ⟨zdt_ifne, ⟨zdt_bad, ⟨zdt_bad, ⟨zdt_aload, ⟨(zdt_inv rfl), ⟨zdt_bad, ⟨zdt_bad, ⟨zdt_aload, ⟨zdt_con, ⟨zdt_aload, ⟨zdt_getF, ⟨zdt_bad, ⟨zdt_bad, True.intro⟩⟩⟩⟩⟩⟩⟩⟩⟩⟩⟩⟩⟩⟩⟩⟩
theorem zdk_171_2 : zDc [o_aload 33 0, o_getI zshp 36 2 6, o_bad, o_bad, o_ald zshp 37 14, o_inv zshp 40 173 3 2 0 3, o_bad, o_bad, o_ret, o_aload 42 0, o_getF zshp 45 2 0, o_bad, o_bad, o_con 46 (vI 1), o_dup2 47, o_ald zshp 48 14] := ⟨zdt_aload, ⟨zdt_getI, ⟨zdt_bad, ⟨zdt_bad, ⟨zdt_ald, ⟨(zdt_inv rfl), ⟨zdt_bad, ⟨zdt_bad, ⟨zdt_ret, ⟨zdt_aload, ⟨zdt_getF, ⟨zdt_bad, ⟨zdt_bad, ⟨zdt_con, ⟨zdt_dup2, ⟨zdt_ald, True.intro⟩⟩⟩⟩⟩⟩⟩⟩⟩⟩⟩⟩⟩⟩⟩⟩
theorem zdk_171_3 : zDc [o_con 49 (vI 1), o_iadd 50, o_iast zshp 51, o_lload 52 2, o_con 53 (vJ 0), o_lcmp 54, o_ifeq 57 102, o_bad, o_bad, o_aload 58 0, o_getF zshp 61 2 0, o_bad, o_bad, o_con 62 (vI 2), o_dup2 63, o_ald zshp 64 14] := ⟨zdt_con, ⟨zdt_iadd, ⟨zdt_iast, ⟨zdt_lload, ⟨zdt_con, ⟨zdt_lcmp, ⟨zdt_ifeq, ⟨zdt_bad, ⟨zdt_bad, ⟨zdt_aload, ⟨zdt_getF, ⟨zdt_bad, ⟨zdt_bad, ⟨zdt_con, ⟨zdt_dup2, ⟨zdt_ald, True.intro⟩⟩⟩⟩⟩⟩⟩⟩⟩⟩⟩⟩⟩⟩⟩⟩
theorem zdk_171_4 : zDc [o_aload 65 1, o_getF zshp 68 3 10, o_bad, o_bad, o_aload 69 0, o_getI zshp 72 2 6, o_bad, o_bad, o_ald zshp 73 14, o_aload 74 1, o_getF zshp 77 3 9, o_bad, o_bad, o_aload 78 0, o_getI zshp 81 2 6, o_bad] := ⟨zdt_aload, ⟨zdt_getF, ⟨zdt_bad, ⟨zdt_bad, ⟨zdt_aload, ⟨zdt_getI, ⟨zdt_bad, ⟨zdt_bad, ⟨zdt_ald, ⟨zdt_aload, ⟨zdt_getF, ⟨zdt_bad, ⟨zdt_bad, ⟨zdt_aload, ⟨zdt_getI, ⟨zdt_bad, True.intro⟩⟩⟩⟩⟩⟩⟩⟩⟩⟩⟩⟩⟩⟩⟩⟩
theorem zdk_171_5 : zDc [o_bad, o_ald zshp 82 14, o_isub 83, o_iadd 84, o_iast zshp 85, o_aload 86 0, o_con 87 (vI 2), o_aload 88 1, o_getF zshp 91 3 9, o_bad, o_bad, o_aload 92 0, o_getI zshp 95 2 6, o_bad, o_bad, o_ald zshp 96 14] := ⟨zdt_bad, ⟨zdt_ald, ⟨zdt_isub, ⟨zdt_iadd, ⟨zdt_iast, ⟨zdt_aload, ⟨zdt_con, ⟨zdt_aload, ⟨zdt_getF, ⟨zdt_bad, ⟨zdt_bad, ⟨zdt_aload, ⟨zdt_getI, ⟨zdt_bad, ⟨zdt_bad, ⟨zdt_ald, True.intro⟩⟩⟩⟩⟩⟩⟩⟩⟩⟩⟩⟩⟩⟩⟩⟩
theorem zdk_171_6 : zDc [o_inv zshp 99 173 3 2 0 3, o_bad, o_bad, o_goto 140, o_bad, o_bad, o_aload 103 0, o_getF zshp 106 2 0, o_bad, o_bad, o_con 107 (vI 2), o_dup2 108, o_ald zshp 109 14, o_aload 110 1, o_getF zshp 113 3 9, o_bad] := ⟨(zdt_inv rfl), ⟨zdt_bad, ⟨zdt_bad, ⟨zdt_goto, ⟨zdt_bad, ⟨zdt_bad, ⟨zdt_aload, ⟨zdt_getF, ⟨zdt_bad, ⟨zdt_bad, ⟨zdt_con, ⟨zdt_dup2, ⟨zdt_ald, ⟨zdt_aload, ⟨zdt_getF, ⟨zdt_bad, True.intro⟩⟩⟩⟩⟩⟩⟩⟩⟩⟩⟩⟩⟩⟩⟩⟩
theorem zdk_171_7 : zDc [o_bad, o_aload 114 0, o_getI zshp 117 2 6, o_bad, o_bad, o_ald zshp 118 14, o_aload 119 0, o_getI zshp 122 2 6, o_bad, o_bad, o_con 123 (vI 1), o_iadd 124, o_isub 125, o_iadd 126, o_iast zshp 127, o_aload 128 0] := ⟨zdt_bad, ⟨zdt_aload, ⟨zdt_getI, ⟨zdt_bad, ⟨zdt_bad, ⟨zdt_ald, ⟨zdt_aload, ⟨zdt_getI, ⟨zdt_bad, ⟨zdt_bad, ⟨zdt_con, ⟨zdt_iadd, ⟨zdt_isub, ⟨zdt_iadd, ⟨zdt_iast, ⟨zdt_aload, True.intro⟩⟩⟩⟩⟩⟩⟩⟩⟩⟩⟩⟩⟩⟩⟩⟩
theorem zdk_171_8 : zDc [o_aload 129 1, o_getF zshp 132 3 9, o_bad, o_bad, o_aload 133 0, o_getI zshp 136 2 6, o_bad, o_bad, o_ald zshp 137 14, o_putI zshp 140 2 6, o_bad, o_bad, o_ret] := ⟨zdt_aload, ⟨zdt_getF, ⟨zdt_bad, ⟨zdt_bad, ⟨zdt_aload, ⟨zdt_getI, ⟨zdt_bad, ⟨zdt_bad, ⟨zdt_ald, ⟨zdt_putI, ⟨zdt_bad, ⟨zdt_bad, ⟨zdt_ret, True.intro⟩⟩⟩⟩⟩⟩⟩⟩⟩⟩⟩⟩⟩
theorem zdk_171 : zDa k_171 := ⟨zdk_171_0, ⟨zdk_171_1, ⟨zdk_171_2, ⟨zdk_171_3, ⟨zdk_171_4, ⟨zdk_171_5, ⟨zdk_171_6, ⟨zdk_171_7, ⟨zdk_171_8, True.intro⟩⟩⟩⟩⟩⟩⟩⟩⟩
theorem zdk_172_0 : zDc [o_aload 1 0, o_aload 2 1, o_getF zshp 5 3 2, o_bad, o_bad, o_aload 6 0, o_getI zshp 9 2 6, o_bad, o_bad, o_ald zshp 10 14, o_inv zshp 13 168 2 2 2 2, o_bad, o_bad, o_lstore 14 2, o_lload 15 2, o_con 18 (vJ (-9223372036854775808))] := ⟨zdt_aload, ⟨zdt_aload, ⟨zdt_getF, ⟨zdt_bad, ⟨zdt_bad, ⟨zdt_aload, ⟨zdt_getI, ⟨zdt_bad, ⟨zdt_bad, ⟨zdt_ald, ⟨(zdt_inv rfl), ⟨zdt_bad, ⟨zdt_bad, ⟨zdt_lstore, ⟨zdt_lload, ⟨zdt_con, True.intro⟩⟩⟩⟩⟩⟩⟩⟩⟩⟩⟩⟩⟩⟩⟩⟩
theorem zdk_172_1 : zDc [o_bad, o_bad, o_lcmp 19, o_ifeq 22 67, o_bad, o_bad, o_lload 23 2, o_con 24 (vJ 0), o_lcmp 25, o_ifgt 28 67, o_bad, o_bad, o_aload 29 0, o_getF zshp 32 2 0, o_bad, o_bad] := ⟨zdt_bad, ⟨zdt_bad, ⟨zdt_lcmp, ⟨zdt_ifeq, ⟨zdt_bad, ⟨zdt_bad, ⟨zdt_lload, ⟨zdt_con, ⟨zdt_lcmp, ⟨zdt_ifgt, ⟨zdt_bad, ⟨zdt_bad, ⟨zdt_aload, ⟨zdt_getF, ⟨zdt_bad, ⟨zdt_bad, True.intro⟩⟩⟩⟩⟩⟩⟩⟩⟩⟩⟩⟩⟩⟩⟩⟩
theorem zdk_172_2 : zDc [o_con 33 (vI 2), o_dup2 34, o_ald zshp 35 14, o_aload 36 1, o_getF zshp 39 3 10, o_bad, o_bad, o_aload 40 0, o_getI zshp 43 2 6, o_bad, o_bad, o_ald zshp 44 14, o_aload 45 0, o_getI zshp 48 2 6, o_bad, o_bad] := ⟨zdt_con, ⟨zdt_dup2, ⟨zdt_ald, ⟨zdt_aload, ⟨zdt_getF, ⟨zdt_bad, ⟨zdt_bad, ⟨zdt_aload, ⟨zdt_getI, ⟨zdt_bad, ⟨zdt_bad, ⟨zdt_ald, ⟨zdt_aload, ⟨zdt_getI, ⟨zdt_bad, ⟨zdt_bad, True.intro⟩⟩⟩⟩⟩⟩⟩⟩⟩⟩⟩⟩⟩⟩⟩⟩
theorem zdk_172_3 : zDc [o_con 49 (vI 1), o_iadd 50, o_isub 51, o_iadd 52, o_iast zshp 53, o_aload 54 0, o_aload 55 1, o_getF zshp 58 3 10, o_bad, o_bad, o_aload 59 0, o_getI zshp 62 2 6, o_bad, o_bad, o_ald zshp 63 14, o_putI zshp 66 2 6] := ⟨zdt_con, ⟨zdt_iadd, ⟨zdt_isub, ⟨zdt_iadd, ⟨zdt_iast, ⟨zdt_aload, ⟨zdt_aload, ⟨zdt_getF, ⟨zdt_bad, ⟨zdt_bad, ⟨zdt_aload, ⟨zdt_getI, ⟨zdt_bad, ⟨zdt_bad, ⟨zdt_ald, ⟨zdt_putI, True.intro⟩⟩⟩⟩⟩⟩⟩⟩⟩⟩⟩⟩⟩⟩⟩⟩
theorem zdk_172_4 : zDc [o_bad, o_bad, o_ret, o_aload 68 0, o_aload 69 1, o_aload 70 0, o_getI zshp 73 2 6, o_bad, o_bad, o_inv zshp 76 175 3 2 0 4, o_bad, o_bad, o_aload 77 0, o_con 78 (vI 3), o_aload 79 1, o_getF zshp 82 3 10] := ⟨zdt_bad, ⟨zdt_bad, ⟨zdt_ret, ⟨zdt_aload, ⟨zdt_aload, ⟨zdt_aload, ⟨zdt_getI, ⟨zdt_bad, ⟨zdt_bad, ⟨(zdt_inv rfl), ⟨zdt_bad, ⟨zdt_bad, ⟨zdt_aload, ⟨zdt_con, ⟨zdt_aload, ⟨zdt_getF, True.intro⟩⟩⟩⟩⟩⟩⟩⟩⟩⟩⟩⟩⟩⟩⟩⟩
theorem zdk_172_5 : zDc [o_bad, o_bad, o_aload 83 0, o_getI zshp 86 2 6, o_bad, o_bad, o_ald zshp 87 14, o_inv zshp 90 173 3 2 0 3, o_bad, o_bad, o_ret] := ⟨zdt_bad, ⟨zdt_bad, ⟨zdt_aload, ⟨zdt_getI, ⟨zdt_bad, ⟨zdt_bad, ⟨zdt_ald, ⟨(zdt_inv rfl), ⟨zdt_bad, ⟨zdt_bad, ⟨zdt_ret, True.intro⟩⟩⟩⟩⟩⟩⟩⟩⟩⟩⟩
theorem zdk_172 : zDa k_172 := ⟨zdk_172_0, ⟨zdk_172_1, ⟨zdk_172_2, ⟨zdk_172_3, ⟨zdk_172_4, ⟨zdk_172_5, True.intro⟩⟩⟩⟩⟩⟩
theorem zdk_173_0 : zDc [o_aload 1 0, o_getF zshp 4 2 4, o_bad, o_bad, o_aload 5 0, o_getI zshp 8 2 6, o_bad, o_bad, o_iload 9 1, o_iload 10 2, o_con 11 (vI 0), o_inv zshp 14 202 5 5 0 5, o_bad, o_bad, o_aload 15 0, o_dup 16] := ⟨zdt_aload, ⟨zdt_getF, ⟨zdt_bad, ⟨zdt_bad, ⟨zdt_aload, ⟨zdt_getI, ⟨zdt_bad, ⟨zdt_bad, ⟨zdt_iload, ⟨zdt_iload, ⟨zdt_con, ⟨(zdt_inv rfl), ⟨zdt_bad, ⟨zdt_bad, ⟨zdt_aload, ⟨zdt_dup, True.intro⟩⟩⟩⟩⟩⟩⟩⟩⟩⟩⟩⟩⟩⟩⟩⟩
theorem zdk_173_1 : zDc [o_getI zshp 19 2 6, o_bad, o_bad, o_con 20 (vI 1), o_iadd 21, o_putI zshp 24 2 6, o_bad, o_bad, o_ret] := ⟨zdt_getI, ⟨zdt_bad, ⟨zdt_bad, ⟨zdt_con, ⟨zdt_iadd, ⟨zdt_putI, ⟨zdt_bad, ⟨zdt_bad, ⟨zdt_ret, True.intro⟩⟩⟩⟩⟩⟩⟩⟩⟩
theorem zdk_173 : zDa k_173 := ⟨zdk_173_0, ⟨zdk_173_1, True.intro⟩⟩
theorem zdk_174_0 : zDc [o_aload 1 0, o_getF zshp 4 2 4, o_bad, o_bad, o_getI zshp 7 5 4, o_bad, o_bad, o_con 8 (vI 1), o_isub 9, o_istore 10 2, o_aload 11 0, o_getF zshp 14 2 4, o_bad, o_bad, o_getF zshp 17 5 0, o_bad] := ⟨zdt_aload, ⟨zdt_getF, ⟨zdt_bad, ⟨zdt_bad, ⟨zdt_getI, ⟨zdt_bad, ⟨zdt_bad, ⟨zdt_con, ⟨zdt_isub, ⟨zdt_istore, ⟨zdt_aload, ⟨zdt_getF, ⟨zdt_bad, ⟨zdt_bad, ⟨zdt_getF, ⟨zdt_bad, True.intro⟩⟩⟩⟩⟩⟩⟩⟩⟩⟩⟩⟩⟩⟩⟩⟩
theorem zdk_174_1 : zDc [o_bad, o_iload 18 2, o_ald zshp 19 14, o_istore 20 3, o_aload 21 0, o_getF zshp 24 2 4, o_bad, o_bad, o_getF zshp 27 5 1, o_bad, o_bad, o_iload 28 2, o_ald zshp 29 14, o_ifne 32 62, o_bad, o_bad] := ⟨zdt_bad, ⟨zdt_iload, ⟨zdt_ald, ⟨zdt_istore, ⟨zdt_aload, ⟨zdt_getF, ⟨zdt_bad, ⟨zdt_bad, ⟨zdt_getF, ⟨zdt_bad, ⟨zdt_bad, ⟨zdt_iload, ⟨zdt_ald, ⟨zdt_ifne, ⟨zdt_bad, ⟨zdt_bad, True.intro⟩⟩⟩⟩⟩⟩⟩⟩⟩⟩⟩⟩⟩⟩⟩⟩
theorem zdk_174_2 : zDc [o_aload 33 0, o_inv zshp 36 177 1 2 0 5, o_bad, o_bad, o_aload 37 0, o_getF zshp 40 2 4, o_bad, o_bad, o_getF zshp 43 5 1, o_bad, o_bad, o_iload 44 2, o_con 45 (vI 1), o_iast zshp 46, o_aload 47 0, o_getF zshp 50 2 4] := ⟨zdt_aload, ⟨(zdt_inv rfl), ⟨zdt_bad, ⟨zdt_bad, ⟨zdt_aload, ⟨zdt_getF, ⟨zdt_bad, ⟨zdt_bad, ⟨zdt_getF, ⟨zdt_bad, ⟨zdt_bad, ⟨zdt_iload, ⟨zdt_con, ⟨zdt_iast, ⟨zdt_aload, ⟨zdt_getF, True.intro⟩⟩⟩⟩⟩⟩⟩⟩⟩⟩⟩⟩⟩⟩⟩⟩
theorem zdk_174_3 : zDc [o_bad, o_bad, o_getF zshp 53 5 2, o_bad, o_bad, o_iload 54 2, o_aload 55 1, o_getF zshp 58 3 10, o_bad, o_bad, o_iload 59 3, o_ald zshp 60 14, o_iast zshp 61, o_ret, o_aload 63 0, o_getF zshp 66 2 4] := ⟨zdt_bad, ⟨zdt_bad, ⟨zdt_getF, ⟨zdt_bad, ⟨zdt_bad, ⟨zdt_iload, ⟨zdt_aload, ⟨zdt_getF, ⟨zdt_bad, ⟨zdt_bad, ⟨zdt_iload, ⟨zdt_ald, ⟨zdt_iast, ⟨zdt_ret, ⟨zdt_aload, ⟨zdt_getF, True.intro⟩⟩⟩⟩⟩⟩⟩⟩⟩⟩⟩⟩⟩⟩⟩⟩
theorem zdk_174_4 : zDc [o_bad, o_bad, o_getF zshp 69 5 1, o_bad, o_bad, o_iload 70 2, o_ald zshp 71 14, o_con 72 (vI 1), o_icmpne 75 82, o_bad, o_bad, o_aload 76 0, o_inv zshp 79 178 1 2 0 2, o_bad, o_bad, o_goto 101] := ⟨zdt_bad, ⟨zdt_bad, ⟨zdt_getF, ⟨zdt_bad, ⟨zdt_bad, ⟨zdt_iload, ⟨zdt_ald, ⟨zdt_con, ⟨zdt_icmpne, ⟨zdt_bad, ⟨zdt_bad, ⟨zdt_aload, ⟨(zdt_inv rfl), ⟨zdt_bad, ⟨zdt_bad, ⟨zdt_goto, True.intro⟩⟩⟩⟩⟩⟩⟩⟩⟩⟩⟩⟩⟩⟩⟩⟩
theorem zdk_174_5 : zDc [o_bad, o_bad, o_aload 83 0, o_getF zshp 86 2 4, o_bad, o_bad, o_getF zshp 89 5 1, o_bad, o_bad, o_iload 90 2, o_ald zshp 91 14, o_con 92 (vI 3), o_icmpne 95 101, o_bad, o_bad, o_aload 96 0] := ⟨zdt_bad, ⟨zdt_bad, ⟨zdt_aload, ⟨zdt_getF, ⟨zdt_bad, ⟨zdt_bad, ⟨zdt_getF, ⟨zdt_bad, ⟨zdt_bad, ⟨zdt_iload, ⟨zdt_ald, ⟨zdt_con, ⟨zdt_icmpne, ⟨zdt_bad, ⟨zdt_bad, ⟨zdt_aload, True.intro⟩⟩⟩⟩⟩⟩⟩⟩⟩⟩⟩⟩⟩⟩⟩⟩
theorem zdk_174_6 : zDc [o_aload 97 1, o_iload 98 3, o_inv zshp 101 175 3 2 0 4, o_bad, o_bad, o_aload 102 0, o_aload 103 1, o_getF zshp 106 3 10, o_bad, o_bad, o_iload 107 3, o_ald zshp 108 14, o_putI zshp 111 2 6, o_bad, o_bad, o_aload 112 0] := ⟨zdt_aload, ⟨zdt_iload, ⟨(zdt_inv rfl), ⟨zdt_bad, ⟨zdt_bad, ⟨zdt_aload, ⟨zdt_aload, ⟨zdt_getF, ⟨zdt_bad, ⟨zdt_bad, ⟨zdt_iload, ⟨zdt_ald, ⟨zdt_putI, ⟨zdt_bad, ⟨zdt_bad, ⟨zdt_aload, True.intro⟩⟩⟩⟩⟩⟩⟩⟩⟩⟩⟩⟩⟩⟩⟩⟩
theorem zdk_174_7 : zDc [o_getF zshp 115 2 4, o_bad, o_bad, o_iload 116 2, o_putI zshp 119 5 4, o_bad, o_bad, o_ret] := ⟨zdt_getF, ⟨zdt_bad, ⟨zdt_bad, ⟨zdt_iload, ⟨zdt_putI, ⟨zdt_bad, ⟨zdt_bad, ⟨zdt_ret, True.intro⟩⟩⟩⟩⟩⟩⟩⟩
theorem zdk_174 : zDa k_174 := ⟨zdk_174_0, ⟨zdk_174_1, ⟨zdk_174_2, ⟨zdk_174_3, ⟨zdk_174_4, ⟨zdk_174_5, ⟨zdk_174_6, ⟨zdk_174_7, True.intro⟩⟩⟩⟩⟩⟩⟩⟩
theorem zdk_175_0 : zDc [o_iload 1 2, o_con 2 (vI 1), o_iadd 3, o_istore 4 3, o_iload 5 3, o_aload 6 1, o_getF zshp 9 3 10, o_bad, o_bad, o_iload 10 2, o_ald zshp 11 14, o_icmpge 14 43, o_bad, o_bad, o_aload 15 1, o_getF zshp 18 3 1] := ⟨zdt_iload, ⟨zdt_con, ⟨zdt_iadd, ⟨zdt_istore, ⟨zdt_iload, ⟨zdt_aload, ⟨zdt_getF, ⟨zdt_bad, ⟨zdt_bad, ⟨zdt_iload, ⟨zdt_ald, ⟨zdt_icmpge, ⟨zdt_bad, ⟨zdt_bad, ⟨zdt_aload, ⟨zdt_getF, True.intro⟩⟩⟩⟩⟩⟩⟩⟩⟩⟩⟩⟩⟩⟩⟩⟩
theorem zdk_175_1 : zDc [o_bad, o_bad, o_iload 19 3, o_ald zshp 20 14, o_iflt 23 37, o_bad, o_bad, o_aload 24 0, o_getF zshp 27 2 1, o_bad, o_bad, o_aload 28 1, o_getF zshp 31 3 1, o_bad, o_bad, o_iload 32 3] := ⟨zdt_bad, ⟨zdt_bad, ⟨zdt_iload, ⟨zdt_ald, ⟨zdt_iflt, ⟨zdt_bad, ⟨zdt_bad, ⟨zdt_aload, ⟨zdt_getF, ⟨zdt_bad, ⟨zdt_bad, ⟨zdt_aload, ⟨zdt_getF, ⟨zdt_bad, ⟨zdt_bad, ⟨zdt_iload, True.intro⟩⟩⟩⟩⟩⟩⟩⟩⟩⟩⟩⟩⟩⟩⟩⟩
theorem zdk_175_2 : zDc [o_ald zshp 33 14, o_con 36 (vJ (-9223372036854775808)), o_bad, o_bad, o_last zshp 37, o_iinc 40 3 1, o_bad, o_bad, o_goto 4, o_bad, o_bad, o_ret] := ⟨zdt_ald, ⟨zdt_con, ⟨zdt_bad, ⟨zdt_bad, ⟨zdt_last, ⟨zdt_iinc, ⟨zdt_bad, ⟨zdt_bad, ⟨zdt_goto, ⟨zdt_bad, ⟨zdt_bad, ⟨zdt_ret, True.intro⟩⟩⟩⟩⟩⟩⟩⟩⟩⟩⟩⟩
theorem zdk_175 : zDa k_175 := ⟨zdk_175_0, ⟨zdk_175_1, ⟨zdk_175_2, True.intro⟩⟩⟩
theorem zdk_176_0 : zDc [o_aload 1 0, o_getI zshp 4 2 3, o_bad, o_bad, o_aload 5 0, o_getI zshp 8 2 5, o_bad, o_bad, o_iadd 9, o_con 12 (vI 20000), o_bad, o_bad, o_icmpgt 15 48, o_bad, o_bad, o_aload 16 0] := ⟨zdt_aload, ⟨zdt_getI, ⟨zdt_bad, ⟨zdt_bad, ⟨zdt_aload, ⟨zdt_getI, ⟨zdt_bad, ⟨zdt_bad, ⟨zdt_iadd, ⟨zdt_con, ⟨zdt_bad, ⟨zdt_bad, ⟨zdt_icmpgt, ⟨zdt_bad, ⟨zdt_bad, ⟨zdt_aload, True.intro⟩⟩⟩⟩⟩⟩⟩⟩⟩⟩⟩⟩⟩⟩⟩⟩
theorem zdk_176_1 : zDc [o_getF zshp 19 2 1, o_bad, o_bad, o_con 20 (vI 0), o_aload 21 0, o_getF zshp 24 2 2, o_bad, o_bad, o_aload 25 0, o_getI zshp 28 2 3, o_bad, o_bad, o_aload 29 0, o_getI zshp 32 2 5, o_bad, o_bad] := ⟨zdt_getF, ⟨zdt_bad, ⟨zdt_bad, ⟨zdt_con, ⟨zdt_aload, ⟨zdt_getF, ⟨zdt_bad, ⟨zdt_bad, ⟨zdt_aload, ⟨zdt_getI, ⟨zdt_bad, ⟨zdt_bad, ⟨zdt_aload, ⟨zdt_getI, ⟨zdt_bad, ⟨zdt_bad, True.intro⟩⟩⟩⟩⟩⟩⟩⟩⟩⟩⟩⟩⟩⟩⟩⟩
theorem zdk_176_2 : zDc [o_acpw zshp 35 15, o_bad, o_bad, o_aload 36 0, o_dup 37, o_getI zshp 40 2 3, o_bad, o_bad, o_aload 41 0, o_getI zshp 44 2 5, o_bad, o_bad, o_iadd 45, o_putI zshp 48 2 3, o_bad, o_bad] := ⟨zdt_acpw, ⟨zdt_bad, ⟨zdt_bad, ⟨zdt_aload, ⟨zdt_dup, ⟨zdt_getI, ⟨zdt_bad, ⟨zdt_bad, ⟨zdt_aload, ⟨zdt_getI, ⟨zdt_bad, ⟨zdt_bad, ⟨zdt_iadd, ⟨zdt_putI, ⟨zdt_bad, ⟨zdt_bad, True.intro⟩⟩⟩⟩⟩⟩⟩⟩⟩⟩⟩⟩⟩⟩⟩⟩
theorem zdk_176_3 : zDc [o_ret] := ⟨zdt_ret, True.intro⟩
theorem zdk_176 : zDa k_176 := ⟨zdk_176_0, ⟨zdk_176_1, ⟨zdk_176_2, ⟨zdk_176_3, True.intro⟩⟩⟩⟩
theorem zdk_177_0 : zDc [o_con 1 (vI 0), o_aload 2 0, o_getI zshp 5 2 3, o_bad, o_bad, o_aload 6 0, o_getI zshp 9 2 5, o_bad, o_bad, o_isub 10, o_inv zshp 13 278 2 99 1 2, o_bad, o_bad, o_istore 14 1, o_con 15 (vI 0), o_istore 16 2] := ⟨zdt_con, ⟨zdt_aload, ⟨zdt_getI, ⟨zdt_bad, ⟨zdt_bad, ⟨zdt_aload, ⟨zdt_getI, ⟨zdt_bad, ⟨zdt_bad, ⟨zdt_isub, ⟨(zdt_inv rfl), ⟨zdt_bad, ⟨zdt_bad, ⟨zdt_istore, ⟨zdt_con, ⟨zdt_istore, True.intro⟩⟩⟩⟩⟩⟩⟩⟩⟩⟩⟩⟩⟩⟩⟩⟩
theorem zdk_177_1 : zDc [o_iload 17 2, o_aload 18 0, o_getI zshp 21 2 5, o_bad, o_bad, o_icmpge 24 60, o_bad, o_bad, o_aload 25 0, o_getF zshp 28 2 2, o_bad, o_bad, o_iload 29 1, o_iload 30 2, o_iadd 31, o_lald zshp 32] := ⟨zdt_iload, ⟨zdt_aload, ⟨zdt_getI, ⟨zdt_bad, ⟨zdt_bad, ⟨zdt_icmpge, ⟨zdt_bad, ⟨zdt_bad, ⟨zdt_aload, ⟨zdt_getF, ⟨zdt_bad, ⟨zdt_bad, ⟨zdt_iload, ⟨zdt_iload, ⟨zdt_iadd, ⟨zdt_lald, True.intro⟩⟩⟩⟩⟩⟩⟩⟩⟩⟩⟩⟩⟩⟩⟩⟩
theorem zdk_177_2 : zDc [o_lstore 33 3, o_aload 34 0, o_getF zshp 37 2 2, o_bad, o_bad, o_iload 38 1, o_iload 39 2, o_iadd 40, o_aload 41 0, o_getF zshp 44 2 1, o_bad, o_bad, o_iload 45 2, o_lald zshp 46, o_last zshp 47, o_aload 48 0] := ⟨zdt_lstore, ⟨zdt_aload, ⟨zdt_getF, ⟨zdt_bad, ⟨zdt_bad, ⟨zdt_iload, ⟨zdt_iload, ⟨zdt_iadd, ⟨zdt_aload, ⟨zdt_getF, ⟨zdt_bad, ⟨zdt_bad, ⟨zdt_iload, ⟨zdt_lald, ⟨zdt_last, ⟨zdt_aload, True.intro⟩⟩⟩⟩⟩⟩⟩⟩⟩⟩⟩⟩⟩⟩⟩⟩
theorem zdk_177_3 : zDc [o_getF zshp 51 2 1, o_bad, o_bad, o_iload 52 2, o_lload 53 3, o_last zshp 54, o_iinc 57 2 1, o_bad, o_bad, o_goto 16, o_bad, o_bad, o_ret] := ⟨zdt_getF, ⟨zdt_bad, ⟨zdt_bad, ⟨zdt_iload, ⟨zdt_lload, ⟨zdt_last, ⟨zdt_iinc, ⟨zdt_bad, ⟨zdt_bad, ⟨zdt_goto, ⟨zdt_bad, ⟨zdt_bad, ⟨zdt_ret, True.intro⟩⟩⟩⟩⟩⟩⟩⟩⟩⟩⟩⟩⟩
theorem zdk_177 : zDa k_177 := ⟨zdk_177_0, ⟨zdk_177_1, ⟨zdk_177_2, ⟨zdk_177_3, True.intro⟩⟩⟩⟩
theorem zdk_178_0 : zDc [o_aload 1 0, o_con 2 (vI 0), o_aload 3 0, o_getI zshp 6 2 3, o_bad, o_bad, o_aload 7 0, o_getI zshp 10 2 5, o_bad, o_bad, o_isub 11, o_inv zshp 14 278 2 99 1 2, o_bad, o_bad, o_putI zshp 17 2 3, o_bad] := ⟨zdt_aload, ⟨zdt_con, ⟨zdt_aload, ⟨zdt_getI, ⟨zdt_bad, ⟨zdt_bad, ⟨zdt_aload, ⟨zdt_getI, ⟨zdt_bad, ⟨zdt_bad, ⟨zdt_isub, ⟨(zdt_inv rfl), ⟨zdt_bad, ⟨zdt_bad, ⟨zdt_putI, ⟨zdt_bad, True.intro⟩⟩⟩⟩⟩⟩⟩⟩⟩⟩⟩⟩⟩⟩⟩⟩
theorem zdk_178_1 : zDc [o_bad, o_con 18 (vI 0), o_istore 19 1, o_iload 20 1, o_aload 21 0, o_getI zshp 24 2 5, o_bad, o_bad, o_icmpge 27 63, o_bad, o_bad, o_aload 28 0, o_getF zshp 31 2 1, o_bad, o_bad, o_iload 32 1] := ⟨zdt_bad, ⟨zdt_con, ⟨zdt_istore, ⟨zdt_iload, ⟨zdt_aload, ⟨zdt_getI, ⟨zdt_bad, ⟨zdt_bad, ⟨zdt_icmpge, ⟨zdt_bad, ⟨zdt_bad, ⟨zdt_aload, ⟨zdt_getF, ⟨zdt_bad, ⟨zdt_bad, ⟨zdt_iload, True.intro⟩⟩⟩⟩⟩⟩⟩⟩⟩⟩⟩⟩⟩⟩⟩⟩
theorem zdk_178_2 : zDc [o_lald zshp 33, o_aload 34 0, o_getF zshp 37 2 2, o_bad, o_bad, o_aload 38 0, o_getI zshp 41 2 3, o_bad, o_bad, o_iload 42 1, o_iadd 43, o_lald zshp 44, o_lcmp 45, o_ifeq 48 57, o_bad, o_bad] := ⟨zdt_lald, ⟨zdt_aload, ⟨zdt_getF, ⟨zdt_bad, ⟨zdt_bad, ⟨zdt_aload, ⟨zdt_getI, ⟨zdt_bad, ⟨zdt_bad, ⟨zdt_iload, ⟨zdt_iadd, ⟨zdt_lald, ⟨zdt_lcmp, ⟨zdt_ifeq, ⟨zdt_bad, ⟨zdt_bad, True.intro⟩⟩⟩⟩⟩⟩⟩⟩⟩⟩⟩⟩⟩⟩⟩⟩
theorem zdk_178_3 : zDc [o_aload 49 0, o_getF zshp 52 2 1, o_bad, o_bad, o_iload 53 1, o_con 56 (vJ (-9223372036854775808)), o_bad, o_bad, o_last zshp 57, o_iinc 60 1 1, o_bad, o_bad, o_goto 19, o_bad, o_bad, o_ret] := ⟨zdt_aload, ⟨zdt_getF, ⟨zdt_bad, ⟨zdt_bad, ⟨zdt_iload, ⟨zdt_con, ⟨zdt_bad, ⟨zdt_bad, ⟨zdt_last, ⟨zdt_iinc, ⟨zdt_bad, ⟨zdt_bad, ⟨zdt_goto, ⟨zdt_bad, ⟨zdt_bad, ⟨zdt_ret, True.intro⟩⟩⟩⟩⟩⟩⟩⟩⟩⟩⟩⟩⟩⟩⟩⟩
theorem zdk_178 : zDa k_178 := ⟨zdk_178_0, ⟨zdk_178_1, ⟨zdk_178_2, ⟨zdk_178_3, True.intro⟩⟩⟩⟩
theorem zdk_180_0 : zDc [o_aload 1 0, o_getI zshp 4 3 13, o_bad, o_bad, o_aload 5 0, o_getF zshp 8 3 0, o_bad, o_bad, o_alen zshp 9 14, o_icmpge 12 24, o_bad, o_bad, o_iload 13 2, o_iflt 16 24, o_bad, o_bad] := ⟨zdt_aload, ⟨zdt_getI, ⟨zdt_bad, ⟨zdt_bad, ⟨zdt_aload, ⟨zdt_getF, ⟨zdt_bad, ⟨zdt_bad, ⟨zdt_alen, ⟨zdt_icmpge, ⟨zdt_bad, ⟨zdt_bad, ⟨zdt_iload, ⟨zdt_iflt, ⟨zdt_bad, ⟨zdt_bad, True.intro⟩⟩⟩⟩⟩⟩⟩⟩⟩⟩⟩⟩⟩⟩⟩⟩
theorem zdk_180_1 : zDc [o_iload 17 2, o_aload 18 0, o_getI zshp 21 3 13, o_bad, o_bad, o_icmple 24 26, o_bad, o_bad, o_con 25 (vI (-1)), o_iret, o_aload 27 0, o_getI zshp 30 3 13, o_bad, o_bad, o_istore 32 4, o_bad] := ⟨zdt_iload, ⟨zdt_aload, ⟨zdt_getI, ⟨zdt_bad, ⟨zdt_bad, ⟨zdt_icmple, ⟨zdt_bad, ⟨zdt_bad, ⟨zdt_con, ⟨zdt_iret, ⟨zdt_aload, ⟨zdt_getI, ⟨zdt_bad, ⟨zdt_bad, ⟨zdt_istore, ⟨zdt_bad, True.intro⟩⟩⟩⟩⟩⟩⟩⟩⟩⟩⟩⟩⟩⟩⟩⟩
theorem zdk_180_2 : zDc [o_aload 33 0, o_dup 34, o_getI zshp 37 3 13, o_bad, o_bad, o_con 38 (vI 1), o_iadd 39, o_putI zshp 42 3 13, o_bad, o_bad, o_aload 43 0, o_getF zshp 46 3 0, o_bad, o_bad, o_iload 48 4, o_bad] := ⟨zdt_aload, ⟨zdt_dup, ⟨zdt_getI, ⟨zdt_bad, ⟨zdt_bad, ⟨zdt_con, ⟨zdt_iadd, ⟨zdt_putI, ⟨zdt_bad, ⟨zdt_bad, ⟨zdt_aload, ⟨zdt_getF, ⟨zdt_bad, ⟨zdt_bad, ⟨zdt_iload, ⟨zdt_bad, True.intro⟩⟩⟩⟩⟩⟩⟩⟩⟩⟩⟩⟩⟩⟩⟩⟩
theorem zdk_180_3 : zDc [o_iload 49 1, o_iast zshp 50, o_aload 51 0, o_getF zshp 54 3 1, o_bad, o_bad, o_iload 56 4, o_bad, o_con 58 (vI (-2)), o_bad, o_iast zshp 59, o_aload 60 0, o_getF zshp 63 3 2, o_bad, o_bad, o_iload 65 4] := ⟨zdt_iload, ⟨zdt_iast, ⟨zdt_aload, ⟨zdt_getF, ⟨zdt_bad, ⟨zdt_bad, ⟨zdt_iload, ⟨zdt_bad, ⟨zdt_con, ⟨zdt_bad, ⟨zdt_iast, ⟨zdt_aload, ⟨zdt_getF, ⟨zdt_bad, ⟨zdt_bad, ⟨zdt_iload, True.intro⟩⟩⟩⟩⟩⟩⟩⟩⟩⟩⟩⟩⟩⟩⟩⟩
theorem zdk_180_4 : zDc [o_bad, o_con 67 (vI (-2)), o_bad, o_iast zshp 68, o_aload 69 0, o_getF zshp 72 3 3, o_bad, o_bad, o_iload 74 4, o_bad, o_con 76 (vI (-2)), o_bad, o_iast zshp 77, o_aload 78 0, o_getF zshp 81 3 4, o_bad] := ⟨zdt_bad, ⟨zdt_con, ⟨zdt_bad, ⟨zdt_iast, ⟨zdt_aload, ⟨zdt_getF, ⟨zdt_bad, ⟨zdt_bad, ⟨zdt_iload, ⟨zdt_bad, ⟨zdt_con, ⟨zdt_bad, ⟨zdt_iast, ⟨zdt_aload, ⟨zdt_getF, ⟨zdt_bad, True.intro⟩⟩⟩⟩⟩⟩⟩⟩⟩⟩⟩⟩⟩⟩⟩⟩
theorem zdk_180_5 : zDc [o_bad, o_iload 83 4, o_bad, o_con 85 (vI (-2)), o_bad, o_iast zshp 86, o_aload 87 0, o_getF zshp 90 3 5, o_bad, o_bad, o_iload 92 4, o_bad, o_con 94 (vI (-2)), o_bad, o_iast zshp 95, o_aload 96 0] := ⟨zdt_bad, ⟨zdt_iload, ⟨zdt_bad, ⟨zdt_con, ⟨zdt_bad, ⟨zdt_iast, ⟨zdt_aload, ⟨zdt_getF, ⟨zdt_bad, ⟨zdt_bad, ⟨zdt_iload, ⟨zdt_bad, ⟨zdt_con, ⟨zdt_bad, ⟨zdt_iast, ⟨zdt_aload, True.intro⟩⟩⟩⟩⟩⟩⟩⟩⟩⟩⟩⟩⟩⟩⟩⟩
theorem zdk_180_6 : zDc [o_getF zshp 99 3 6, o_bad, o_bad, o_iload 101 4, o_bad, o_iload 102 2, o_iast zshp 103, o_aload 104 0, o_getF zshp 107 3 7, o_bad, o_bad, o_iload 109 4, o_bad, o_iload 110 3, o_iast zshp 111, o_aload 112 0] := ⟨zdt_getF, ⟨zdt_bad, ⟨zdt_bad, ⟨zdt_iload, ⟨zdt_bad, ⟨zdt_iload, ⟨zdt_iast, ⟨zdt_aload, ⟨zdt_getF, ⟨zdt_bad, ⟨zdt_bad, ⟨zdt_iload, ⟨zdt_bad, ⟨zdt_iload, ⟨zdt_iast, ⟨zdt_aload, True.intro⟩⟩⟩⟩⟩⟩⟩⟩⟩⟩⟩⟩⟩⟩⟩⟩
theorem zdk_180_7 : zDc [o_getF zshp 115 3 8, o_bad, o_bad, o_iload 117 4, o_bad, o_con 118 (vI 0), o_iast zshp 119, o_aload 120 0, o_getF zshp 123 3 9, o_bad, o_bad, o_iload 125 4, o_bad, o_iload 127 4, o_bad, o_con 128 (vI 1)] := ⟨zdt_getF, ⟨zdt_bad, ⟨zdt_bad, ⟨zdt_iload, ⟨zdt_bad, ⟨zdt_con, ⟨zdt_iast, ⟨zdt_aload, ⟨zdt_getF, ⟨zdt_bad, ⟨zdt_bad, ⟨zdt_iload, ⟨zdt_bad, ⟨zdt_iload, ⟨zdt_bad, ⟨zdt_con, True.intro⟩⟩⟩⟩⟩⟩⟩⟩⟩⟩⟩⟩⟩⟩⟩⟩
theorem zdk_180_8 : zDc [o_iadd 129, o_iast zshp 130, o_aload 131 0, o_getF zshp 134 3 10, o_bad, o_bad, o_iload 136 4, o_bad, o_iload 138 4, o_bad, o_con 139 (vI 1), o_iadd 140, o_iast zshp 141, o_aload 142 0, o_getF zshp 145 3 11, o_bad] := ⟨zdt_iadd, ⟨zdt_iast, ⟨zdt_aload, ⟨zdt_getF, ⟨zdt_bad, ⟨zdt_bad, ⟨zdt_iload, ⟨zdt_bad, ⟨zdt_iload, ⟨zdt_bad, ⟨zdt_con, ⟨zdt_iadd, ⟨zdt_iast, ⟨zdt_aload, ⟨zdt_getF, ⟨zdt_bad, True.intro⟩⟩⟩⟩⟩⟩⟩⟩⟩⟩⟩⟩⟩⟩⟩⟩
theorem zdk_180_9 : zDc [o_bad, o_iload 147 4, o_bad, o_iload 148 2, o_ifne 151 155, o_bad, o_bad, o_con 152 (vI (-1)), o_goto 163, o_bad, o_bad, o_aload 156 0, o_getF zshp 159 3 12, o_bad, o_bad, o_iload 160 2] := ⟨zdt_bad, ⟨zdt_iload, ⟨zdt_bad, ⟨zdt_iload, ⟨zdt_ifne, ⟨zdt_bad, ⟨zdt_bad, ⟨zdt_con, ⟨zdt_goto, ⟨zdt_bad, ⟨zdt_bad, ⟨zdt_aload, ⟨zdt_getF, ⟨zdt_bad, ⟨zdt_bad, ⟨zdt_iload, True.intro⟩⟩⟩⟩⟩⟩⟩⟩⟩⟩⟩⟩⟩⟩⟩⟩
theorem zdk_180_10 : zDc [o_con 161 (vI 1), o_isub 162, o_ald zshp 163 14, o_iast zshp 164, o_aload 165 0, o_getF zshp 168 3 12, o_bad, o_bad, o_iload 169 2, o_iload 171 4, o_bad, o_iast zshp 172, o_aload 173 0, o_iload 175 4, o_bad, o_inv zshp 178 181 2 3 0 5] := ⟨zdt_con, ⟨zdt_isub, ⟨zdt_ald, ⟨zdt_iast, ⟨zdt_aload, ⟨zdt_getF, ⟨zdt_bad, ⟨zdt_bad, ⟨zdt_iload, ⟨zdt_iload, ⟨zdt_bad, ⟨zdt_iast, ⟨zdt_aload, ⟨zdt_iload, ⟨zdt_bad, ⟨(zdt_inv rfl), True.intro⟩⟩⟩⟩⟩⟩⟩⟩⟩⟩⟩⟩⟩⟩⟩⟩
theorem zdk_180_11 : zDc [o_bad, o_bad, o_iload 180 4, o_bad, o_iret] := ⟨zdt_bad, ⟨zdt_bad, ⟨zdt_iload, ⟨zdt_bad, ⟨zdt_iret, True.intro⟩⟩⟩⟩⟩
theorem zdk_180 : zDa k_180 := ⟨zdk_180_0, ⟨zdk_180_1, ⟨zdk_180_2, ⟨zdk_180_3, ⟨zdk_180_4, ⟨zdk_180_5, ⟨zdk_180_6, ⟨zdk_180_7, ⟨zdk_180_8, ⟨zdk_180_9, ⟨zdk_180_10, ⟨zdk_180_11, True.intro⟩⟩⟩⟩⟩⟩⟩⟩⟩⟩⟩⟩
theorem zdk_181_0 : zDc [o_iload 1 1, o_istore 2 2, o_aload 3 0, o_getF zshp 6 3 6, o_bad, o_bad, o_iload 7 1, o_ald zshp 8 14, o_istore 9 3, o_iload 10 3, o_ifle 13 59, o_bad, o_bad, o_aload 14 0, o_getF zshp 17 3 11, o_bad] := ⟨zdt_iload, ⟨zdt_istore, ⟨zdt_aload, ⟨zdt_getF, ⟨zdt_bad, ⟨zdt_bad, ⟨zdt_iload, ⟨zdt_ald, ⟨zdt_istore, ⟨zdt_iload, ⟨zdt_ifle, ⟨zdt_bad, ⟨zdt_bad, ⟨zdt_aload, ⟨zdt_getF, ⟨zdt_bad, True.intro⟩⟩⟩⟩⟩⟩⟩⟩⟩⟩⟩⟩⟩⟩⟩⟩
theorem zdk_181_1 : zDc [o_bad, o_iload 18 2, o_ald zshp 19 14, o_istore 21 4, o_bad, o_aload 22 0, o_getF zshp 25 3 7, o_bad, o_bad, o_iload 26 2, o_ald zshp 27 14, o_ifne 30 40, o_bad, o_bad, o_aload 31 0, o_getF zshp 34 3 9] := ⟨zdt_bad, ⟨zdt_iload, ⟨zdt_ald, ⟨zdt_istore, ⟨zdt_bad, ⟨zdt_aload, ⟨zdt_getF, ⟨zdt_bad, ⟨zdt_bad, ⟨zdt_iload, ⟨zdt_ald, ⟨zdt_ifne, ⟨zdt_bad, ⟨zdt_bad, ⟨zdt_aload, ⟨zdt_getF, True.intro⟩⟩⟩⟩⟩⟩⟩⟩⟩⟩⟩⟩⟩⟩⟩⟩
theorem zdk_181_2 : zDc [o_bad, o_bad, o_iload 36 4, o_bad, o_iload 37 1, o_con 38 (vI 1), o_iadd 39, o_iast zshp 40, o_aload 41 0, o_getF zshp 44 3 10, o_bad, o_bad, o_iload 46 4, o_bad, o_iload 47 1, o_con 48 (vI 1)] := ⟨zdt_bad, ⟨zdt_bad, ⟨zdt_iload, ⟨zdt_bad, ⟨zdt_iload, ⟨zdt_con, ⟨zdt_iadd, ⟨zdt_iast, ⟨zdt_aload, ⟨zdt_getF, ⟨zdt_bad, ⟨zdt_bad, ⟨zdt_iload, ⟨zdt_bad, ⟨zdt_iload, ⟨zdt_con, True.intro⟩⟩⟩⟩⟩⟩⟩⟩⟩⟩⟩⟩⟩⟩⟩⟩
theorem zdk_181_3 : zDc [o_iadd 49, o_iast zshp 50, o_iload 52 4, o_bad, o_istore 53 2, o_iinc 56 3 (-1), o_bad, o_bad, o_goto 9, o_bad, o_bad, o_ret] := ⟨zdt_iadd, ⟨zdt_iast, ⟨zdt_iload, ⟨zdt_bad, ⟨zdt_istore, ⟨zdt_iinc, ⟨zdt_bad, ⟨zdt_bad, ⟨zdt_goto, ⟨zdt_bad, ⟨zdt_bad, ⟨zdt_ret, True.intro⟩⟩⟩⟩⟩⟩⟩⟩⟩⟩⟩⟩
theorem zdk_181 : zDa k_181 := ⟨zdk_181_0, ⟨zdk_181_1, ⟨zdk_181_2, ⟨zdk_181_3, True.intro⟩⟩⟩⟩
theorem zdk_182_0 : zDc [o_iload 1 2, o_ifne 4 13, o_bad, o_bad, o_aload 5 0, o_getF zshp 8 3 2, o_bad, o_bad, o_iload 9 1, o_ald zshp 10 14, o_goto 33, o_bad, o_bad, o_iload 14 2, o_con 15 (vI 1), o_icmpne 18 27] := ⟨zdt_iload, ⟨zdt_ifne, ⟨zdt_bad, ⟨zdt_bad, ⟨zdt_aload, ⟨zdt_getF, ⟨zdt_bad, ⟨zdt_bad, ⟨zdt_iload, ⟨zdt_ald, ⟨zdt_goto, ⟨zdt_bad, ⟨zdt_bad, ⟨zdt_iload, ⟨zdt_con, ⟨zdt_icmpne, True.intro⟩⟩⟩⟩⟩⟩⟩⟩⟩⟩⟩⟩⟩⟩⟩⟩
theorem zdk_182_1 : zDc [o_bad, o_bad, o_aload 19 0, o_getF zshp 22 3 3, o_bad, o_bad, o_iload 23 1, o_ald zshp 24 14, o_goto 33, o_bad, o_bad, o_aload 28 0, o_getF zshp 31 3 4, o_bad, o_bad, o_iload 32 1] := ⟨zdt_bad, ⟨zdt_bad, ⟨zdt_aload, ⟨zdt_getF, ⟨zdt_bad, ⟨zdt_bad, ⟨zdt_iload, ⟨zdt_ald, ⟨zdt_goto, ⟨zdt_bad, ⟨zdt_bad, ⟨zdt_aload, ⟨zdt_getF, ⟨zdt_bad, ⟨zdt_bad, ⟨zdt_iload, True.intro⟩⟩⟩⟩⟩⟩⟩⟩⟩⟩⟩⟩⟩⟩⟩⟩
theorem zdk_182_2 : zDc [o_ald zshp 33 14, o_iret] := ⟨zdt_ald, ⟨zdt_iret, True.intro⟩⟩
theorem zdk_182 : zDa k_182 := ⟨zdk_182_0, ⟨zdk_182_1, ⟨zdk_182_2, True.intro⟩⟩⟩
theorem zdk_187_0 : zDc [o_aload 1 0, o_aload 2 1, o_aload 3 2, o_getF zshp 6 9 0, o_bad, o_bad, o_aload 7 3, o_aload 8 2, o_getI zshp 11 9 2, o_bad, o_bad, o_iload 13 4, o_bad, o_inv zshp 16 188 6 4 0 7, o_bad, o_bad] := ⟨zdt_aload, ⟨zdt_aload, ⟨zdt_aload, ⟨zdt_getF, ⟨zdt_bad, ⟨zdt_bad, ⟨zdt_aload, ⟨zdt_aload, ⟨zdt_getI, ⟨zdt_bad, ⟨zdt_bad, ⟨zdt_iload, ⟨zdt_bad, ⟨(zdt_inv rfl), ⟨zdt_bad, ⟨zdt_bad, True.intro⟩⟩⟩⟩⟩⟩⟩⟩⟩⟩⟩⟩⟩⟩⟩⟩
theorem zdk_187_1 : zDc [o_aload 17 0, o_aload 18 2, o_getI zshp 21 9 1, o_bad, o_bad, o_con 24 (vI 512), o_bad, o_bad, o_inv zshp 27 280 2 99 1 2, o_bad, o_bad, o_putI zshp 30 4 11, o_bad, o_bad, o_aload 31 0, o_con 32 (vI 0)] := ⟨zdt_aload, ⟨zdt_aload, ⟨zdt_getI, ⟨zdt_bad, ⟨zdt_bad, ⟨zdt_con, ⟨zdt_bad, ⟨zdt_bad, ⟨(zdt_inv rfl), ⟨zdt_bad, ⟨zdt_bad, ⟨zdt_putI, ⟨zdt_bad, ⟨zdt_bad, ⟨zdt_aload, ⟨zdt_con, True.intro⟩⟩⟩⟩⟩⟩⟩⟩⟩⟩⟩⟩⟩⟩⟩⟩
theorem zdk_187_2 : zDc [o_putI zshp 35 4 12, o_bad, o_bad, o_aload 36 0, o_aload 37 2, o_getF zshp 40 9 0, o_bad, o_bad, o_getI zshp 43 3 13, o_bad, o_bad, o_putI zshp 46 4 13, o_bad, o_bad, o_aload 47 0, o_inv zshp 50 189 1 4 0 2] := ⟨zdt_putI, ⟨zdt_bad, ⟨zdt_bad, ⟨zdt_aload, ⟨zdt_aload, ⟨zdt_getF, ⟨zdt_bad, ⟨zdt_bad, ⟨zdt_getI, ⟨zdt_bad, ⟨zdt_bad, ⟨zdt_putI, ⟨zdt_bad, ⟨zdt_bad, ⟨zdt_aload, ⟨(zdt_inv rfl), True.intro⟩⟩⟩⟩⟩⟩⟩⟩⟩⟩⟩⟩⟩⟩⟩⟩
theorem zdk_187_3 : zDc [o_bad, o_bad, o_ret] := ⟨zdt_bad, ⟨zdt_bad, ⟨zdt_ret, True.intro⟩⟩⟩
theorem zdk_187 : zDa k_187 := ⟨zdk_187_0, ⟨zdk_187_1, ⟨zdk_187_2, ⟨zdk_187_3, True.intro⟩⟩⟩⟩
theorem zdk_188_0 : zDc [o_aload 1 0, o_aload 2 1, o_putP zshp 5 4 6, o_bad, o_bad, o_aload 6 0, o_aload 7 2, o_putP zshp 10 4 7, o_bad, o_bad, o_aload 11 0, o_aload 12 2, o_putP zshp 15 4 8, o_bad, o_bad, o_aload 16 0] := ⟨zdt_aload, ⟨zdt_aload, ⟨zdt_putP, ⟨zdt_bad, ⟨zdt_bad, ⟨zdt_aload, ⟨zdt_aload, ⟨zdt_putP, ⟨zdt_bad, ⟨zdt_bad, ⟨zdt_aload, ⟨zdt_aload, ⟨zdt_putP, ⟨zdt_bad, ⟨zdt_bad, ⟨zdt_aload, True.intro⟩⟩⟩⟩⟩⟩⟩⟩⟩⟩⟩⟩⟩⟩⟩⟩
theorem zdk_188_1 : zDc [o_iload 18 5, o_bad, o_putI zshp 21 4 9, o_bad, o_bad, o_aload 22 0, o_getF zshp 25 4 0, o_bad, o_bad, o_con 26 (vI 0), o_inv zshp 29 287 2 99 0 4, o_bad, o_bad, o_aload 30 0, o_getF zshp 33 4 1, o_bad] := ⟨zdt_iload, ⟨zdt_bad, ⟨zdt_putI, ⟨zdt_bad, ⟨zdt_bad, ⟨zdt_aload, ⟨zdt_getF, ⟨zdt_bad, ⟨zdt_bad, ⟨zdt_con, ⟨(zdt_inv rfl), ⟨zdt_bad, ⟨zdt_bad, ⟨zdt_aload, ⟨zdt_getF, ⟨zdt_bad, True.intro⟩⟩⟩⟩⟩⟩⟩⟩⟩⟩⟩⟩⟩⟩⟩⟩
theorem zdk_188_2 : zDc [o_bad, o_con 34 (vI 0), o_inv zshp 37 287 2 99 0 4, o_bad, o_bad, o_aload 38 0, o_getF zshp 41 4 2, o_bad, o_bad, o_con 42 (vI 0), o_inv zshp 45 287 2 99 0 4, o_bad, o_bad, o_aload 46 0, o_getF zshp 49 4 3, o_bad] := ⟨zdt_bad, ⟨zdt_con, ⟨(zdt_inv rfl), ⟨zdt_bad, ⟨zdt_bad, ⟨zdt_aload, ⟨zdt_getF, ⟨zdt_bad, ⟨zdt_bad, ⟨zdt_con, ⟨(zdt_inv rfl), ⟨zdt_bad, ⟨zdt_bad, ⟨zdt_aload, ⟨zdt_getF, ⟨zdt_bad, True.intro⟩⟩⟩⟩⟩⟩⟩⟩⟩⟩⟩⟩⟩⟩⟩⟩
theorem zdk_188_3 : zDc [o_bad, o_con 50 (vI 0), o_inv zshp 53 287 2 99 0 4, o_bad, o_bad, o_con 54 (vI 0), o_istore 56 6, o_bad, o_iload 58 6, o_bad, o_iload 60 4, o_bad, o_icmpge 63 87, o_bad, o_bad, o_iload 65 6] := ⟨zdt_bad, ⟨zdt_con, ⟨(zdt_inv rfl), ⟨zdt_bad, ⟨zdt_bad, ⟨zdt_con, ⟨zdt_istore, ⟨zdt_bad, ⟨zdt_iload, ⟨zdt_bad, ⟨zdt_iload, ⟨zdt_bad, ⟨zdt_icmpge, ⟨zdt_bad, ⟨zdt_bad, ⟨zdt_iload, True.intro⟩⟩⟩⟩⟩⟩⟩⟩⟩⟩⟩⟩⟩⟩⟩⟩
theorem zdk_188_4 : zDc [o_bad, o_aload 66 3, o_alen zshp 67 14, o_icmpge 70 87, o_bad, o_bad, o_aload 71 0, o_getF zshp 74 4 3, o_bad, o_bad, o_iload 76 6, o_bad, o_aload 77 3, o_iload 79 6, o_bad, o_ald zshp 80 14] := ⟨zdt_bad, ⟨zdt_aload, ⟨zdt_alen, ⟨zdt_icmpge, ⟨zdt_bad, ⟨zdt_bad, ⟨zdt_aload, ⟨zdt_getF, ⟨zdt_bad, ⟨zdt_bad, ⟨zdt_iload, ⟨zdt_bad, ⟨zdt_aload, ⟨zdt_iload, ⟨zdt_bad, ⟨zdt_ald, True.intro⟩⟩⟩⟩⟩⟩⟩⟩⟩⟩⟩⟩⟩⟩⟩⟩
theorem zdk_188_5 : zDc [o_iast zshp 81, o_iinc 84 6 1, o_bad, o_bad, o_goto 56, o_bad, o_bad, o_aload 88 0, o_getF zshp 91 4 0, o_bad, o_bad, o_con 92 (vI 4), o_con 93 (vI 1), o_iast zshp 94, o_aload 95 0, o_getF zshp 98 4 4] := ⟨zdt_iast, ⟨zdt_iinc, ⟨zdt_bad, ⟨zdt_bad, ⟨zdt_goto, ⟨zdt_bad, ⟨zdt_bad, ⟨zdt_aload, ⟨zdt_getF, ⟨zdt_bad, ⟨zdt_bad, ⟨zdt_con, ⟨zdt_con, ⟨zdt_iast, ⟨zdt_aload, ⟨zdt_getF, True.intro⟩⟩⟩⟩⟩⟩⟩⟩⟩⟩⟩⟩⟩⟩⟩⟩
theorem zdk_188_6 : zDc [o_bad, o_bad, o_con 99 (vI 0), o_putI zshp 102 5 4, o_bad, o_bad, o_aload 103 0, o_getF zshp 106 4 5, o_bad, o_bad, o_con 107 (vI 0), o_putI zshp 110 5 4, o_bad, o_bad, o_aload 111 0, o_con 112 (vI 0)] := ⟨zdt_bad, ⟨zdt_bad, ⟨zdt_con, ⟨zdt_putI, ⟨zdt_bad, ⟨zdt_bad, ⟨zdt_aload, ⟨zdt_getF, ⟨zdt_bad, ⟨zdt_bad, ⟨zdt_con, ⟨zdt_putI, ⟨zdt_bad, ⟨zdt_bad, ⟨zdt_aload, ⟨zdt_con, True.intro⟩⟩⟩⟩⟩⟩⟩⟩⟩⟩⟩⟩⟩⟩⟩⟩
theorem zdk_188_7 : zDc [o_putI zshp 115 4 10, o_bad, o_bad, o_aload 116 0, o_con 117 (vI 0), o_putI zshp 120 4 14, o_bad, o_bad, o_aload 121 0, o_con 122 (vI 0), o_putZ zshp 125 4 15, o_bad, o_bad, o_ret] := ⟨zdt_putI, ⟨zdt_bad, ⟨zdt_bad, ⟨zdt_aload, ⟨zdt_con, ⟨zdt_putI, ⟨zdt_bad, ⟨zdt_bad, ⟨zdt_aload, ⟨zdt_con, ⟨zdt_putZ, ⟨zdt_bad, ⟨zdt_bad, ⟨zdt_ret, True.intro⟩⟩⟩⟩⟩⟩⟩⟩⟩⟩⟩⟩⟩⟩
theorem zdk_188 : zDa k_188 := ⟨zdk_188_0, ⟨zdk_188_1, ⟨zdk_188_2, ⟨zdk_188_3, ⟨zdk_188_4, ⟨zdk_188_5, ⟨zdk_188_6, ⟨zdk_188_7, True.intro⟩⟩⟩⟩⟩⟩⟩⟩
theorem zdk_189_0 : zDc [o_con 1 (vI 0), o_istore 2 1, o_iload 3 1, o_con 5 (vI 100000), o_bad, o_icmpge 8 65, o_bad, o_bad, o_aload 9 0, o_getI zshp 12 4 15, o_bad, o_bad, o_ifne 15 65, o_bad, o_bad, o_aload 16 0] := ⟨zdt_con, ⟨zdt_istore, ⟨zdt_iload, ⟨zdt_con, ⟨zdt_bad, ⟨zdt_icmpge, ⟨zdt_bad, ⟨zdt_bad, ⟨zdt_aload, ⟨zdt_getI, ⟨zdt_bad, ⟨zdt_bad, ⟨zdt_ifne, ⟨zdt_bad, ⟨zdt_bad, ⟨zdt_aload, True.intro⟩⟩⟩⟩⟩⟩⟩⟩⟩⟩⟩⟩⟩⟩⟩⟩
theorem zdk_189_1 : zDc [o_getI zshp 19 4 12, o_bad, o_bad, o_aload 20 0, o_getI zshp 23 4 13, o_bad, o_bad, o_icmpge 26 33, o_bad, o_bad, o_aload 27 0, o_inv zshp 30 190 1 4 0 1, o_bad, o_bad, o_goto 59, o_bad] := ⟨zdt_getI, ⟨zdt_bad, ⟨zdt_bad, ⟨zdt_aload, ⟨zdt_getI, ⟨zdt_bad, ⟨zdt_bad, ⟨zdt_icmpge, ⟨zdt_bad, ⟨zdt_bad, ⟨zdt_aload, ⟨(zdt_inv rfl), ⟨zdt_bad, ⟨zdt_bad, ⟨zdt_goto, ⟨zdt_bad, True.intro⟩⟩⟩⟩⟩⟩⟩⟩⟩⟩⟩⟩⟩⟩⟩⟩
theorem zdk_189_2 : zDc [o_bad, o_aload 34 0, o_getF zshp 37 4 4, o_bad, o_bad, o_getI zshp 40 5 4, o_bad, o_bad, o_aload 41 0, o_getI zshp 44 4 14, o_bad, o_bad, o_icmple 47 54, o_bad, o_bad, o_aload 48 0] := ⟨zdt_bad, ⟨zdt_aload, ⟨zdt_getF, ⟨zdt_bad, ⟨zdt_bad, ⟨zdt_getI, ⟨zdt_bad, ⟨zdt_bad, ⟨zdt_aload, ⟨zdt_getI, ⟨zdt_bad, ⟨zdt_bad, ⟨zdt_icmple, ⟨zdt_bad, ⟨zdt_bad, ⟨zdt_aload, True.intro⟩⟩⟩⟩⟩⟩⟩⟩⟩⟩⟩⟩⟩⟩⟩⟩
theorem zdk_189_3 : zDc [o_inv zshp 51 196 1 4 0 2, o_bad, o_bad, o_goto 59, o_bad, o_bad, o_aload 55 0, o_con 56 (vI 0), o_inv zshp 59 199 2 4 0 3, o_bad, o_bad, o_iinc 62 1 1, o_bad, o_bad, o_goto 2, o_bad] := ⟨(zdt_inv rfl), ⟨zdt_bad, ⟨zdt_bad, ⟨zdt_goto, ⟨zdt_bad, ⟨zdt_bad, ⟨zdt_aload, ⟨zdt_con, ⟨(zdt_inv rfl), ⟨zdt_bad, ⟨zdt_bad, ⟨zdt_iinc, ⟨zdt_bad, ⟨zdt_bad, ⟨zdt_goto, ⟨zdt_bad, True.intro⟩⟩⟩⟩⟩⟩⟩⟩⟩⟩⟩⟩⟩⟩⟩⟩
theorem zdk_189_4 : zDc [o_bad, o_ret] := ⟨zdt_bad, ⟨zdt_ret, True.intro⟩⟩
theorem zdk_189 : zDa k_189 := ⟨zdk_189_0, ⟨zdk_189_1, ⟨zdk_189_2, ⟨zdk_189_3, ⟨zdk_189_4, True.intro⟩⟩⟩⟩⟩
theorem zdk_190_0 : zDc [o_aload 1 0, o_getF zshp 4 4 0, o_bad, o_bad, o_con 5 (vI 2), o_ald zshp 6 14, o_con 9 (vI 3000), o_bad, o_bad, o_icmplt 12 18, o_bad, o_bad, o_aload 13 0, o_con 14 (vI 1), o_inv zshp 17 191 2 4 0 2, o_bad] := ⟨zdt_aload, ⟨zdt_getF, ⟨zdt_bad, ⟨zdt_bad, ⟨zdt_con, ⟨zdt_ald, ⟨zdt_con, ⟨zdt_bad, ⟨zdt_bad, ⟨zdt_icmplt, ⟨zdt_bad, ⟨zdt_bad, ⟨zdt_aload, ⟨zdt_con, ⟨(zdt_inv rfl), ⟨zdt_bad, True.intro⟩⟩⟩⟩⟩⟩⟩⟩⟩⟩⟩⟩⟩⟩⟩⟩
theorem zdk_190_1 : zDc [o_bad, o_ret, o_aload 19 0, o_getF zshp 22 4 0, o_bad, o_bad, o_con 23 (vI 2), o_dup2 24, o_ald zshp 25 14, o_con 26 (vI 1), o_iadd 27, o_iast zshp 28, o_aload 29 0, o_getP zshp 32 4 7, o_bad, o_bad] := ⟨zdt_bad, ⟨zdt_ret, ⟨zdt_aload, ⟨zdt_getF, ⟨zdt_bad, ⟨zdt_bad, ⟨zdt_con, ⟨zdt_dup2, ⟨zdt_ald, ⟨zdt_con, ⟨zdt_iadd, ⟨zdt_iast, ⟨zdt_aload, ⟨zdt_getP, ⟨zdt_bad, ⟨zdt_bad, True.intro⟩⟩⟩⟩⟩⟩⟩⟩⟩⟩⟩⟩⟩⟩⟩⟩
theorem zdk_190_2 : zDc [o_getF zshp 35 3 0, o_bad, o_bad, o_aload 36 0, o_getI zshp 39 4 12, o_bad, o_bad, o_ald zshp 40 14, o_sw [(6, 72), (7, 79), (8, 86), (9, 127)] 150, o_bad, o_bad, o_bad, o_bad, o_bad, o_bad, o_bad] := ⟨zdt_getF, ⟨zdt_bad, ⟨zdt_bad, ⟨zdt_aload, ⟨zdt_getI, ⟨zdt_bad, ⟨zdt_bad, ⟨zdt_ald, ⟨zdt_sw, ⟨zdt_bad, ⟨zdt_bad, ⟨zdt_bad, ⟨zdt_bad, ⟨zdt_bad, ⟨zdt_bad, ⟨zdt_bad, True.intro⟩⟩⟩⟩⟩⟩⟩⟩⟩⟩⟩⟩⟩⟩⟩⟩
theorem zdk_190_3 : zDc [o_bad, o_bad, o_bad, o_bad, o_bad, o_bad, o_bad, o_bad, o_bad, o_bad, o_bad, o_bad, o_bad, o_bad, o_bad, o_bad] := ⟨zdt_bad, ⟨zdt_bad, ⟨zdt_bad, ⟨zdt_bad, ⟨zdt_bad, ⟨zdt_bad, ⟨zdt_bad, ⟨zdt_bad, ⟨zdt_bad, ⟨zdt_bad, ⟨zdt_bad, ⟨zdt_bad, ⟨zdt_bad, ⟨zdt_bad, ⟨zdt_bad, ⟨zdt_bad, True.intro⟩⟩⟩⟩⟩⟩⟩⟩⟩⟩⟩⟩⟩⟩⟩⟩
theorem zdk_190_4 : zDc [o_bad, o_bad, o_bad, o_bad, o_bad, o_bad, o_bad, o_bad, o_aload 73 0, o_inv zshp 76 197 1 4 0 2, o_bad, o_bad, o_goto 201, o_bad, o_bad, o_aload 80 0] := ⟨zdt_bad, ⟨zdt_bad, ⟨zdt_bad, ⟨zdt_bad, ⟨zdt_bad, ⟨zdt_bad, ⟨zdt_bad, ⟨zdt_bad, ⟨zdt_aload, ⟨(zdt_inv rfl), ⟨zdt_bad, ⟨zdt_bad, ⟨zdt_goto, ⟨zdt_bad, ⟨zdt_bad, ⟨zdt_aload, True.intro⟩⟩⟩⟩⟩⟩⟩⟩⟩⟩⟩⟩⟩⟩⟩⟩
theorem zdk_190_5 : zDc [o_inv zshp 83 194 1 4 0 1, o_bad, o_bad, o_goto 201, o_bad, o_bad, o_aload 87 0, o_aload 88 0, o_getI zshp 91 4 12, o_bad, o_bad, o_con 92 (vI 1), o_iadd 93, o_aload 94 0, o_getP zshp 97 4 7, o_bad] := ⟨(zdt_inv rfl), ⟨zdt_bad, ⟨zdt_bad, ⟨zdt_goto, ⟨zdt_bad, ⟨zdt_bad, ⟨zdt_aload, ⟨zdt_aload, ⟨zdt_getI, ⟨zdt_bad, ⟨zdt_bad, ⟨zdt_con, ⟨zdt_iadd, ⟨zdt_aload, ⟨zdt_getP, ⟨zdt_bad, True.intro⟩⟩⟩⟩⟩⟩⟩⟩⟩⟩⟩⟩⟩⟩⟩⟩
theorem zdk_190_6 : zDc [o_bad, o_getF zshp 100 3 10, o_bad, o_bad, o_aload 101 0, o_getI zshp 104 4 12, o_bad, o_bad, o_ald zshp 105 14, o_aload 106 0, o_aload 107 0, o_getP zshp 110 4 7, o_bad, o_bad, o_getF zshp 113 3 2, o_bad] := ⟨zdt_bad, ⟨zdt_getF, ⟨zdt_bad, ⟨zdt_bad, ⟨zdt_aload, ⟨zdt_getI, ⟨zdt_bad, ⟨zdt_bad, ⟨zdt_ald, ⟨zdt_aload, ⟨zdt_aload, ⟨zdt_getP, ⟨zdt_bad, ⟨zdt_bad, ⟨zdt_getF, ⟨zdt_bad, True.intro⟩⟩⟩⟩⟩⟩⟩⟩⟩⟩⟩⟩⟩⟩⟩⟩
theorem zdk_190_7 : zDc [o_bad, o_aload 114 0, o_getI zshp 117 4 12, o_bad, o_bad, o_ald zshp 118 14, o_inv zshp 121 192 2 4 1 2, o_bad, o_bad, o_inv zshp 124 195 4 4 0 5, o_bad, o_bad, o_goto 201, o_bad, o_bad, o_aload 128 0] := ⟨zdt_bad, ⟨zdt_aload, ⟨zdt_getI, ⟨zdt_bad, ⟨zdt_bad, ⟨zdt_ald, ⟨(zdt_inv rfl), ⟨zdt_bad, ⟨zdt_bad, ⟨(zdt_inv rfl), ⟨zdt_bad, ⟨zdt_bad, ⟨zdt_goto, ⟨zdt_bad, ⟨zdt_bad, ⟨zdt_aload, True.intro⟩⟩⟩⟩⟩⟩⟩⟩⟩⟩⟩⟩⟩⟩⟩⟩
theorem zdk_190_8 : zDc [o_aload 129 0, o_aload 130 0, o_getP zshp 133 4 7, o_bad, o_bad, o_getF zshp 136 3 2, o_bad, o_bad, o_aload 137 0, o_getI zshp 140 4 12, o_bad, o_bad, o_ald zshp 141 14, o_inv zshp 144 192 2 4 1 2, o_bad, o_bad] := ⟨zdt_aload, ⟨zdt_aload, ⟨zdt_getP, ⟨zdt_bad, ⟨zdt_bad, ⟨zdt_getF, ⟨zdt_bad, ⟨zdt_bad, ⟨zdt_aload, ⟨zdt_getI, ⟨zdt_bad, ⟨zdt_bad, ⟨zdt_ald, ⟨(zdt_inv rfl), ⟨zdt_bad, ⟨zdt_bad, True.intro⟩⟩⟩⟩⟩⟩⟩⟩⟩⟩⟩⟩⟩⟩⟩⟩
theorem zdk_190_9 : zDc [o_inv zshp 147 199 2 4 0 3, o_bad, o_bad, o_goto 201, o_bad, o_bad, o_aload 151 0, o_aload 152 0, o_getP zshp 155 4 7, o_bad, o_bad, o_getF zshp 158 3 0, o_bad, o_bad, o_aload 159 0, o_getI zshp 162 4 12] := ⟨(zdt_inv rfl), ⟨zdt_bad, ⟨zdt_bad, ⟨zdt_goto, ⟨zdt_bad, ⟨zdt_bad, ⟨zdt_aload, ⟨zdt_aload, ⟨zdt_getP, ⟨zdt_bad, ⟨zdt_bad, ⟨zdt_getF, ⟨zdt_bad, ⟨zdt_bad, ⟨zdt_aload, ⟨zdt_getI, True.intro⟩⟩⟩⟩⟩⟩⟩⟩⟩⟩⟩⟩⟩⟩⟩⟩
theorem zdk_190_10 : zDc [o_bad, o_bad, o_ald zshp 163 14, o_aload 164 0, o_aload 165 0, o_getP zshp 168 4 7, o_bad, o_bad, o_getF zshp 171 3 2, o_bad, o_bad, o_aload 172 0, o_getI zshp 175 4 12, o_bad, o_bad, o_ald zshp 176 14] := ⟨zdt_bad, ⟨zdt_bad, ⟨zdt_ald, ⟨zdt_aload, ⟨zdt_aload, ⟨zdt_getP, ⟨zdt_bad, ⟨zdt_bad, ⟨zdt_getF, ⟨zdt_bad, ⟨zdt_bad, ⟨zdt_aload, ⟨zdt_getI, ⟨zdt_bad, ⟨zdt_bad, ⟨zdt_ald, True.intro⟩⟩⟩⟩⟩⟩⟩⟩⟩⟩⟩⟩⟩⟩⟩⟩
theorem zdk_190_11 : zDc [o_inv zshp 179 192 2 4 1 2, o_bad, o_bad, o_aload 180 0, o_aload 181 0, o_getP zshp 184 4 7, o_bad, o_bad, o_getF zshp 187 3 3, o_bad, o_bad, o_aload 188 0, o_getI zshp 191 4 12, o_bad, o_bad, o_ald zshp 192 14] := ⟨(zdt_inv rfl), ⟨zdt_bad, ⟨zdt_bad, ⟨zdt_aload, ⟨zdt_aload, ⟨zdt_getP, ⟨zdt_bad, ⟨zdt_bad, ⟨zdt_getF, ⟨zdt_bad, ⟨zdt_bad, ⟨zdt_aload, ⟨zdt_getI, ⟨zdt_bad, ⟨zdt_bad, ⟨zdt_ald, True.intro⟩⟩⟩⟩⟩⟩⟩⟩⟩⟩⟩⟩⟩⟩⟩⟩
theorem zdk_190_12 : zDc [o_inv zshp 195 192 2 4 1 2, o_bad, o_bad, o_inv zshp 198 35 3 99 1 3, o_bad, o_bad, o_inv zshp 201 193 2 4 0 2, o_bad, o_bad, o_ret] := ⟨(zdt_inv rfl), ⟨zdt_bad, ⟨zdt_bad, ⟨(zdt_inv rfl), ⟨zdt_bad, ⟨zdt_bad, ⟨(zdt_inv rfl), ⟨zdt_bad, ⟨zdt_bad, ⟨zdt_ret, True.intro⟩⟩⟩⟩⟩⟩⟩⟩⟩⟩
theorem zdk_190 : zDa k_190 := ⟨zdk_190_0, ⟨zdk_190_1, ⟨zdk_190_2, ⟨zdk_190_3, ⟨zdk_190_4, ⟨zdk_190_5, ⟨zdk_190_6, ⟨zdk_190_7, ⟨zdk_190_8, ⟨zdk_190_9, ⟨zdk_190_10, ⟨zdk_190_11, ⟨zdk_190_12, True.intro⟩⟩⟩⟩⟩⟩⟩⟩⟩⟩⟩⟩⟩
theorem zdk_191_0 : zDc [o_aload 1 0, o_getF zshp 4 4 0, o_bad, o_bad, o_con 5 (vI 0), o_iload 6 1, o_iast zshp 7, o_aload 8 0, o_con 9 (vI 1), o_putZ zshp 12 4 15, o_bad, o_bad, o_ret] := ⟨zdt_aload, ⟨zdt_getF, ⟨zdt_bad, ⟨zdt_bad, ⟨zdt_con, ⟨zdt_iload, ⟨zdt_iast, ⟨zdt_aload, ⟨zdt_con, ⟨zdt_putZ, ⟨zdt_bad, ⟨zdt_bad, ⟨zdt_ret, True.intro⟩⟩⟩⟩⟩⟩⟩⟩⟩⟩⟩⟩⟩
theorem zdk_191 : zDa k_191 := ⟨zdk_191_0, True.intro⟩
theorem zdk_192_0 : zDc [o_iload 1 1, o_inv zshp 4 34 1 99 1 1, o_bad, o_bad, o_ifeq 7 24, o_bad, o_bad, o_aload 8 0, o_getF zshp 11 4 3, o_bad, o_bad, o_aload 12 0, o_getI zshp 15 4 10, o_bad, o_bad, o_con 17 (vI (-10))] := ⟨zdt_iload, ⟨(zdt_inv rfl), ⟨zdt_bad, ⟨zdt_bad, ⟨zdt_ifeq, ⟨zdt_bad, ⟨zdt_bad, ⟨zdt_aload, ⟨zdt_getF, ⟨zdt_bad, ⟨zdt_bad, ⟨zdt_aload, ⟨zdt_getI, ⟨zdt_bad, ⟨zdt_bad, ⟨zdt_con, True.intro⟩⟩⟩⟩⟩⟩⟩⟩⟩⟩⟩⟩⟩⟩⟩⟩
theorem zdk_192_1 : zDc [o_bad, o_iadd 18, o_iload 19 1, o_isub 20, o_ald zshp 21 14, o_goto 25, o_bad, o_bad, o_iload 25 1, o_iret] := ⟨zdt_bad, ⟨zdt_iadd, ⟨zdt_iload, ⟨zdt_isub, ⟨zdt_ald, ⟨zdt_goto, ⟨zdt_bad, ⟨zdt_bad, ⟨zdt_iload, ⟨zdt_iret, True.intro⟩⟩⟩⟩⟩⟩⟩⟩⟩⟩
theorem zdk_192 : zDa k_192 := ⟨zdk_192_0, ⟨zdk_192_1, True.intro⟩⟩
theorem zdk_193_0 : zDc [o_aload 1 0, o_getF zshp 4 4 3, o_bad, o_bad, o_aload 5 0, o_getI zshp 8 4 10, o_bad, o_bad, o_aload 9 0, o_getP zshp 12 4 7, o_bad, o_bad, o_getF zshp 15 3 1, o_bad, o_bad, o_aload 16 0] := ⟨zdt_aload, ⟨zdt_getF, ⟨zdt_bad, ⟨zdt_bad, ⟨zdt_aload, ⟨zdt_getI, ⟨zdt_bad, ⟨zdt_bad, ⟨zdt_aload, ⟨zdt_getP, ⟨zdt_bad, ⟨zdt_bad, ⟨zdt_getF, ⟨zdt_bad, ⟨zdt_bad, ⟨zdt_aload, True.intro⟩⟩⟩⟩⟩⟩⟩⟩⟩⟩⟩⟩⟩⟩⟩⟩
theorem zdk_193_1 : zDc [o_getI zshp 19 4 12, o_bad, o_bad, o_ald zshp 20 14, o_iadd 21, o_iload 22 1, o_iast zshp 23, o_aload 24 0, o_dup 25, o_getI zshp 28 4 12, o_bad, o_bad, o_con 29 (vI 1), o_iadd 30, o_putI zshp 33 4 12, o_bad] := ⟨zdt_getI, ⟨zdt_bad, ⟨zdt_bad, ⟨zdt_ald, ⟨zdt_iadd, ⟨zdt_iload, ⟨zdt_iast, ⟨zdt_aload, ⟨zdt_dup, ⟨zdt_getI, ⟨zdt_bad, ⟨zdt_bad, ⟨zdt_con, ⟨zdt_iadd, ⟨zdt_putI, ⟨zdt_bad, True.intro⟩⟩⟩⟩⟩⟩⟩⟩⟩⟩⟩⟩⟩⟩⟩⟩
theorem zdk_193_2 : zDc [o_bad, o_ret] := ⟨zdt_bad, ⟨zdt_ret, True.intro⟩⟩
theorem zdk_193 : zDa k_193 := ⟨zdk_193_0, ⟨zdk_193_1, ⟨zdk_193_2, True.intro⟩⟩⟩
theorem zdk_194_0 : zDc [o_aload 1 0, o_aload 2 0, o_getP zshp 5 4 7, o_bad, o_bad, o_getF zshp 8 3 2, o_bad, o_bad, o_aload 9 0, o_getI zshp 12 4 12, o_bad, o_bad, o_ald zshp 13 14, o_inv zshp 16 192 2 4 1 2, o_bad, o_bad] := ⟨zdt_aload, ⟨zdt_aload, ⟨zdt_getP, ⟨zdt_bad, ⟨zdt_bad, ⟨zdt_getF, ⟨zdt_bad, ⟨zdt_bad, ⟨zdt_aload, ⟨zdt_getI, ⟨zdt_bad, ⟨zdt_bad, ⟨zdt_ald, ⟨(zdt_inv rfl), ⟨zdt_bad, ⟨zdt_bad, True.intro⟩⟩⟩⟩⟩⟩⟩⟩⟩⟩⟩⟩⟩⟩⟩⟩
theorem zdk_194_1 : zDc [o_ifeq 19 45, o_bad, o_bad, o_aload 20 0, o_aload 21 0, o_getI zshp 24 4 12, o_bad, o_bad, o_con 25 (vI 1), o_iadd 26, o_aload 27 0, o_getP zshp 30 4 7, o_bad, o_bad, o_getF zshp 33 3 9, o_bad] := ⟨zdt_ifeq, ⟨zdt_bad, ⟨zdt_bad, ⟨zdt_aload, ⟨zdt_aload, ⟨zdt_getI, ⟨zdt_bad, ⟨zdt_bad, ⟨zdt_con, ⟨zdt_iadd, ⟨zdt_aload, ⟨zdt_getP, ⟨zdt_bad, ⟨zdt_bad, ⟨zdt_getF, ⟨zdt_bad, True.intro⟩⟩⟩⟩⟩⟩⟩⟩⟩⟩⟩⟩⟩⟩⟩⟩
theorem zdk_194_2 : zDc [o_bad, o_aload 34 0, o_getI zshp 37 4 12, o_bad, o_bad, o_ald zshp 38 14, o_con 39 (vI 1), o_inv zshp 42 195 4 4 0 5, o_bad, o_bad, o_goto 74, o_bad, o_bad, o_aload 46 0, o_aload 47 0, o_getP zshp 50 4 7] := ⟨zdt_bad, ⟨zdt_aload, ⟨zdt_getI, ⟨zdt_bad, ⟨zdt_bad, ⟨zdt_ald, ⟨zdt_con, ⟨(zdt_inv rfl), ⟨zdt_bad, ⟨zdt_bad, ⟨zdt_goto, ⟨zdt_bad, ⟨zdt_bad, ⟨zdt_aload, ⟨zdt_aload, ⟨zdt_getP, True.intro⟩⟩⟩⟩⟩⟩⟩⟩⟩⟩⟩⟩⟩⟩⟩⟩
theorem zdk_194_3 : zDc [o_bad, o_bad, o_getF zshp 53 3 9, o_bad, o_bad, o_aload 54 0, o_getI zshp 57 4 12, o_bad, o_bad, o_ald zshp 58 14, o_aload 59 0, o_getP zshp 62 4 7, o_bad, o_bad, o_getF zshp 65 3 10, o_bad] := ⟨zdt_bad, ⟨zdt_bad, ⟨zdt_getF, ⟨zdt_bad, ⟨zdt_bad, ⟨zdt_aload, ⟨zdt_getI, ⟨zdt_bad, ⟨zdt_bad, ⟨zdt_ald, ⟨zdt_aload, ⟨zdt_getP, ⟨zdt_bad, ⟨zdt_bad, ⟨zdt_getF, ⟨zdt_bad, True.intro⟩⟩⟩⟩⟩⟩⟩⟩⟩⟩⟩⟩⟩⟩⟩⟩
theorem zdk_194_4 : zDc [o_bad, o_aload 66 0, o_getI zshp 69 4 12, o_bad, o_bad, o_ald zshp 70 14, o_con 71 (vI 1), o_inv zshp 74 195 4 4 0 5, o_bad, o_bad, o_ret] := ⟨zdt_bad, ⟨zdt_aload, ⟨zdt_getI, ⟨zdt_bad, ⟨zdt_bad, ⟨zdt_ald, ⟨zdt_con, ⟨(zdt_inv rfl), ⟨zdt_bad, ⟨zdt_bad, ⟨zdt_ret, True.intro⟩⟩⟩⟩⟩⟩⟩⟩⟩⟩⟩
theorem zdk_194 : zDa k_194 := ⟨zdk_194_0, ⟨zdk_194_1, ⟨zdk_194_2, ⟨zdk_194_3, ⟨zdk_194_4, True.intro⟩⟩⟩⟩⟩
theorem zdk_195_0 : zDc [o_aload 1 0, o_getP zshp 4 4 7, o_bad, o_bad, o_getF zshp 7 3 10, o_bad, o_bad, o_aload 8 0, o_getI zshp 11 4 12, o_bad, o_bad, o_ald zshp 12 14, o_istore 14 4, o_bad, o_iload 15 3, o_ifle 18 33] := ⟨zdt_aload, ⟨zdt_getP, ⟨zdt_bad, ⟨zdt_bad, ⟨zdt_getF, ⟨zdt_bad, ⟨zdt_bad, ⟨zdt_aload, ⟨zdt_getI, ⟨zdt_bad, ⟨zdt_bad, ⟨zdt_ald, ⟨zdt_istore, ⟨zdt_bad, ⟨zdt_iload, ⟨zdt_ifle, True.intro⟩⟩⟩⟩⟩⟩⟩⟩⟩⟩⟩⟩⟩⟩⟩⟩
theorem zdk_195_1 : zDc [o_bad, o_bad, o_iload 19 1, o_iload 20 2, o_icmpge 23 33, o_bad, o_bad, o_aload 24 0, o_getF zshp 27 4 4, o_bad, o_bad, o_inv zshp 30 201 1 5 1 1, o_bad, o_bad, o_ifeq 33 40, o_bad] := ⟨zdt_bad, ⟨zdt_bad, ⟨zdt_iload, ⟨zdt_iload, ⟨zdt_icmpge, ⟨zdt_bad, ⟨zdt_bad, ⟨zdt_aload, ⟨zdt_getF, ⟨zdt_bad, ⟨zdt_bad, ⟨(zdt_inv rfl), ⟨zdt_bad, ⟨zdt_bad, ⟨zdt_ifeq, ⟨zdt_bad, True.intro⟩⟩⟩⟩⟩⟩⟩⟩⟩⟩⟩⟩⟩⟩⟩⟩
theorem zdk_195_2 : zDc [o_bad, o_aload 34 0, o_iload 36 4, o_bad, o_putI zshp 39 4 12, o_bad, o_bad, o_ret, o_aload 41 0, o_getF zshp 44 4 4, o_bad, o_bad, o_iload 45 1, o_iload 46 3, o_con 47 (vI 1), o_isub 48] := ⟨zdt_bad, ⟨zdt_aload, ⟨zdt_iload, ⟨zdt_bad, ⟨zdt_putI, ⟨zdt_bad, ⟨zdt_bad, ⟨zdt_ret, ⟨zdt_aload, ⟨zdt_getF, ⟨zdt_bad, ⟨zdt_bad, ⟨zdt_iload, ⟨zdt_iload, ⟨zdt_con, ⟨zdt_isub, True.intro⟩⟩⟩⟩⟩⟩⟩⟩⟩⟩⟩⟩⟩⟩⟩⟩
theorem zdk_195_3 : zDc [o_iload 50 4, o_bad, o_aload 51 0, o_getI zshp 54 4 13, o_bad, o_bad, o_inv zshp 57 202 5 5 0 5, o_bad, o_bad, o_aload 58 0, o_iload 59 1, o_putI zshp 62 4 12, o_bad, o_bad, o_aload 63 0, o_iload 64 2] := ⟨zdt_iload, ⟨zdt_bad, ⟨zdt_aload, ⟨zdt_getI, ⟨zdt_bad, ⟨zdt_bad, ⟨(zdt_inv rfl), ⟨zdt_bad, ⟨zdt_bad, ⟨zdt_aload, ⟨zdt_iload, ⟨zdt_putI, ⟨zdt_bad, ⟨zdt_bad, ⟨zdt_aload, ⟨zdt_iload, True.intro⟩⟩⟩⟩⟩⟩⟩⟩⟩⟩⟩⟩⟩⟩⟩⟩
theorem zdk_195_4 : zDc [o_putI zshp 67 4 13, o_bad, o_bad, o_ret] := ⟨zdt_putI, ⟨zdt_bad, ⟨zdt_bad, ⟨zdt_ret, True.intro⟩⟩⟩⟩
theorem zdk_195 : zDa k_195 := ⟨zdk_195_0, ⟨zdk_195_1, ⟨zdk_195_2, ⟨zdk_195_3, ⟨zdk_195_4, True.intro⟩⟩⟩⟩⟩
theorem zdk_196_0 : zDc [o_aload 1 0, o_getF zshp 4 4 4, o_bad, o_bad, o_getI zshp 7 5 4, o_bad, o_bad, o_con 8 (vI 1), o_isub 9, o_istore 10 1, o_aload 11 0, o_getF zshp 14 4 4, o_bad, o_bad, o_getF zshp 17 5 1, o_bad] := ⟨zdt_aload, ⟨zdt_getF, ⟨zdt_bad, ⟨zdt_bad, ⟨zdt_getI, ⟨zdt_bad, ⟨zdt_bad, ⟨zdt_con, ⟨zdt_isub, ⟨zdt_istore, ⟨zdt_aload, ⟨zdt_getF, ⟨zdt_bad, ⟨zdt_bad, ⟨zdt_getF, ⟨zdt_bad, True.intro⟩⟩⟩⟩⟩⟩⟩⟩⟩⟩⟩⟩⟩⟩⟩⟩
theorem zdk_196_1 : zDc [o_bad, o_iload 18 1, o_ald zshp 19 14, o_ifle 22 49, o_bad, o_bad, o_aload 23 0, o_getF zshp 26 4 4, o_bad, o_bad, o_getF zshp 29 5 1, o_bad, o_bad, o_iload 30 1, o_dup2 31, o_ald zshp 32 14] := ⟨zdt_bad, ⟨zdt_iload, ⟨zdt_ald, ⟨zdt_ifle, ⟨zdt_bad, ⟨zdt_bad, ⟨zdt_aload, ⟨zdt_getF, ⟨zdt_bad, ⟨zdt_bad, ⟨zdt_getF, ⟨zdt_bad, ⟨zdt_bad, ⟨zdt_iload, ⟨zdt_dup2, ⟨zdt_ald, True.intro⟩⟩⟩⟩⟩⟩⟩⟩⟩⟩⟩⟩⟩⟩⟩⟩
theorem zdk_196_2 : zDc [o_con 33 (vI 1), o_isub 34, o_iast zshp 35, o_aload 36 0, o_aload 37 0, o_getF zshp 40 4 4, o_bad, o_bad, o_getF zshp 43 5 0, o_bad, o_bad, o_iload 44 1, o_ald zshp 45 14, o_putI zshp 48 4 12, o_bad, o_bad] := ⟨zdt_con, ⟨zdt_isub, ⟨zdt_iast, ⟨zdt_aload, ⟨zdt_aload, ⟨zdt_getF, ⟨zdt_bad, ⟨zdt_bad, ⟨zdt_getF, ⟨zdt_bad, ⟨zdt_bad, ⟨zdt_iload, ⟨zdt_ald, ⟨zdt_putI, ⟨zdt_bad, ⟨zdt_bad, True.intro⟩⟩⟩⟩⟩⟩⟩⟩⟩⟩⟩⟩⟩⟩⟩⟩
theorem zdk_196_3 : zDc [o_ret, o_aload 50 0, o_aload 51 0, o_getF zshp 54 4 4, o_bad, o_bad, o_getF zshp 57 5 2, o_bad, o_bad, o_iload 58 1, o_ald zshp 59 14, o_putI zshp 62 4 12, o_bad, o_bad, o_aload 63 0, o_aload 64 0] := ⟨zdt_ret, ⟨zdt_aload, ⟨zdt_aload, ⟨zdt_getF, ⟨zdt_bad, ⟨zdt_bad, ⟨zdt_getF, ⟨zdt_bad, ⟨zdt_bad, ⟨zdt_iload, ⟨zdt_ald, ⟨zdt_putI, ⟨zdt_bad, ⟨zdt_bad, ⟨zdt_aload, ⟨zdt_aload, True.intro⟩⟩⟩⟩⟩⟩⟩⟩⟩⟩⟩⟩⟩⟩⟩⟩
theorem zdk_196_4 : zDc [o_getF zshp 67 4 4, o_bad, o_bad, o_getF zshp 70 5 3, o_bad, o_bad, o_iload 71 1, o_ald zshp 72 14, o_putI zshp 75 4 13, o_bad, o_bad, o_aload 76 0, o_getF zshp 79 4 4, o_bad, o_bad, o_iload 80 1] := ⟨zdt_getF, ⟨zdt_bad, ⟨zdt_bad, ⟨zdt_getF, ⟨zdt_bad, ⟨zdt_bad, ⟨zdt_iload, ⟨zdt_ald, ⟨zdt_putI, ⟨zdt_bad, ⟨zdt_bad, ⟨zdt_aload, ⟨zdt_getF, ⟨zdt_bad, ⟨zdt_bad, ⟨zdt_iload, True.intro⟩⟩⟩⟩⟩⟩⟩⟩⟩⟩⟩⟩⟩⟩⟩⟩
theorem zdk_196_5 : zDc [o_putI zshp 83 5 4, o_bad, o_bad, o_ret] := ⟨zdt_putI, ⟨zdt_bad, ⟨zdt_bad, ⟨zdt_ret, True.intro⟩⟩⟩⟩
theorem zdk_196 : zDa k_196 := ⟨zdk_196_0, ⟨zdk_196_1, ⟨zdk_196_2, ⟨zdk_196_3, ⟨zdk_196_4, ⟨zdk_196_5, True.intro⟩⟩⟩⟩⟩⟩
theorem zdk_197_0 : zDc [o_aload 1 0, o_getF zshp 4 4 0, o_bad, o_bad, o_con 5 (vI 2), o_ald zshp 6 14, o_aload 7 0, o_getI zshp 10 4 9, o_bad, o_bad, o_iadd 11, o_con 14 (vI 3000), o_bad, o_bad, o_icmple 17 23, o_bad] := ⟨zdt_aload, ⟨zdt_getF, ⟨zdt_bad, ⟨zdt_bad, ⟨zdt_con, ⟨zdt_ald, ⟨zdt_aload, ⟨zdt_getI, ⟨zdt_bad, ⟨zdt_bad, ⟨zdt_iadd, ⟨zdt_con, ⟨zdt_bad, ⟨zdt_bad, ⟨zdt_icmple, ⟨zdt_bad, True.intro⟩⟩⟩⟩⟩⟩⟩⟩⟩⟩⟩⟩⟩⟩⟩⟩
theorem zdk_197_1 : zDc [o_bad, o_aload 18 0, o_con 19 (vI 1), o_inv zshp 22 191 2 4 0 2, o_bad, o_bad, o_ret, o_aload 24 0, o_getF zshp 27 4 0, o_bad, o_bad, o_con 28 (vI 2), o_dup2 29, o_ald zshp 30 14, o_aload 31 0, o_getI zshp 34 4 9] := ⟨zdt_bad, ⟨zdt_aload, ⟨zdt_con, ⟨(zdt_inv rfl), ⟨zdt_bad, ⟨zdt_bad, ⟨zdt_ret, ⟨zdt_aload, ⟨zdt_getF, ⟨zdt_bad, ⟨zdt_bad, ⟨zdt_con, ⟨zdt_dup2, ⟨zdt_ald, ⟨zdt_aload, ⟨zdt_getI, True.intro⟩⟩⟩⟩⟩⟩⟩⟩⟩⟩⟩⟩⟩⟩⟩⟩
theorem zdk_197_2 : zDc [o_bad, o_bad, o_iadd 35, o_iast zshp 36, o_aload 37 0, o_getP zshp 40 4 6, o_bad, o_bad, o_getF zshp 43 7 13, o_bad, o_bad, o_aload 44 0, o_getP zshp 47 4 7, o_bad, o_bad, o_getF zshp 50 3 5] := ⟨zdt_bad, ⟨zdt_bad, ⟨zdt_iadd, ⟨zdt_iast, ⟨zdt_aload, ⟨zdt_getP, ⟨zdt_bad, ⟨zdt_bad, ⟨zdt_getF, ⟨zdt_bad, ⟨zdt_bad, ⟨zdt_aload, ⟨zdt_getP, ⟨zdt_bad, ⟨zdt_bad, ⟨zdt_getF, True.intro⟩⟩⟩⟩⟩⟩⟩⟩⟩⟩⟩⟩⟩⟩⟩⟩
theorem zdk_197_3 : zDc [o_bad, o_bad, o_aload 51 0, o_getI zshp 54 4 12, o_bad, o_bad, o_ald zshp 55 14, o_ald zshp 56 14, o_istore 57 1, o_aload 58 0, o_getF zshp 61 4 5, o_bad, o_bad, o_getI zshp 64 5 4, o_bad, o_bad] := ⟨zdt_bad, ⟨zdt_bad, ⟨zdt_aload, ⟨zdt_getI, ⟨zdt_bad, ⟨zdt_bad, ⟨zdt_ald, ⟨zdt_ald, ⟨zdt_istore, ⟨zdt_aload, ⟨zdt_getF, ⟨zdt_bad, ⟨zdt_bad, ⟨zdt_getI, ⟨zdt_bad, ⟨zdt_bad, True.intro⟩⟩⟩⟩⟩⟩⟩⟩⟩⟩⟩⟩⟩⟩⟩⟩
theorem zdk_197_4 : zDc [o_con 65 (vI 1), o_iadd 66, o_con 68 (vI 24), o_bad, o_icmpge 71 91, o_bad, o_bad, o_aload 72 0, o_getI zshp 75 4 11, o_bad, o_bad, o_aload 76 0, o_getP zshp 79 4 6, o_bad, o_bad, o_getF zshp 82 7 5] := ⟨zdt_con, ⟨zdt_iadd, ⟨zdt_con, ⟨zdt_bad, ⟨zdt_icmpge, ⟨zdt_bad, ⟨zdt_bad, ⟨zdt_aload, ⟨zdt_getI, ⟨zdt_bad, ⟨zdt_bad, ⟨zdt_aload, ⟨zdt_getP, ⟨zdt_bad, ⟨zdt_bad, ⟨zdt_getF, True.intro⟩⟩⟩⟩⟩⟩⟩⟩⟩⟩⟩⟩⟩⟩⟩⟩
theorem zdk_197_5 : zDc [o_bad, o_bad, o_iload 83 1, o_ald zshp 84 14, o_iadd 85, o_con 88 (vI 512), o_bad, o_bad, o_icmple 91 97, o_bad, o_bad, o_aload 92 0, o_con 93 (vI 2), o_inv zshp 96 191 2 4 0 2, o_bad, o_bad] := ⟨zdt_bad, ⟨zdt_bad, ⟨zdt_iload, ⟨zdt_ald, ⟨zdt_iadd, ⟨zdt_con, ⟨zdt_bad, ⟨zdt_bad, ⟨zdt_icmple, ⟨zdt_bad, ⟨zdt_bad, ⟨zdt_aload, ⟨zdt_con, ⟨(zdt_inv rfl), ⟨zdt_bad, ⟨zdt_bad, True.intro⟩⟩⟩⟩⟩⟩⟩⟩⟩⟩⟩⟩⟩⟩⟩⟩
theorem zdk_197_6 : zDc [o_ret, o_aload 98 0, o_getF zshp 101 4 0, o_bad, o_bad, o_con 102 (vI 3), o_dup2 103, o_ald zshp 104 14, o_con 105 (vI 1), o_iadd 106, o_iast zshp 107, o_aload 108 0, o_getF zshp 111 4 2, o_bad, o_bad, o_aload 112 0] := ⟨zdt_ret, ⟨zdt_aload, ⟨zdt_getF, ⟨zdt_bad, ⟨zdt_bad, ⟨zdt_con, ⟨zdt_dup2, ⟨zdt_ald, ⟨zdt_con, ⟨zdt_iadd, ⟨zdt_iast, ⟨zdt_aload, ⟨zdt_getF, ⟨zdt_bad, ⟨zdt_bad, ⟨zdt_aload, True.intro⟩⟩⟩⟩⟩⟩⟩⟩⟩⟩⟩⟩⟩⟩⟩⟩
theorem zdk_197_7 : zDc [o_getP zshp 115 4 7, o_bad, o_bad, o_getF zshp 118 3 5, o_bad, o_bad, o_aload 119 0, o_getI zshp 122 4 12, o_bad, o_bad, o_ald zshp 123 14, o_dup2 124, o_ald zshp 125 14, o_con 126 (vI 1), o_iadd 127, o_iast zshp 128] := ⟨zdt_getP, ⟨zdt_bad, ⟨zdt_bad, ⟨zdt_getF, ⟨zdt_bad, ⟨zdt_bad, ⟨zdt_aload, ⟨zdt_getI, ⟨zdt_bad, ⟨zdt_bad, ⟨zdt_ald, ⟨zdt_dup2, ⟨zdt_ald, ⟨zdt_con, ⟨zdt_iadd, ⟨zdt_iast, True.intro⟩⟩⟩⟩⟩⟩⟩⟩⟩⟩⟩⟩⟩⟩⟩⟩
theorem zdk_197_8 : zDc [o_aload 129 0, o_getF zshp 132 4 1, o_bad, o_bad, o_iload 133 1, o_dup2 134, o_ald zshp 135 14, o_con 136 (vI 1), o_iadd 137, o_iast zshp 138, o_aload 139 0, o_iload 140 1, o_inv zshp 143 198 2 4 0 3, o_bad, o_bad, o_ret] := ⟨zdt_aload, ⟨zdt_getF, ⟨zdt_bad, ⟨zdt_bad, ⟨zdt_iload, ⟨zdt_dup2, ⟨zdt_ald, ⟨zdt_con, ⟨zdt_iadd, ⟨zdt_iast, ⟨zdt_aload, ⟨zdt_iload, ⟨(zdt_inv rfl), ⟨zdt_bad, ⟨zdt_bad, ⟨zdt_ret, True.intro⟩⟩⟩⟩⟩⟩⟩⟩⟩⟩⟩⟩⟩⟩⟩⟩
theorem zdk_197 : zDa k_197 := ⟨zdk_197_0, ⟨zdk_197_1, ⟨zdk_197_2, ⟨zdk_197_3, ⟨zdk_197_4, ⟨zdk_197_5, ⟨zdk_197_6, ⟨zdk_197_7, ⟨zdk_197_8, True.intro⟩⟩⟩⟩⟩⟩⟩⟩⟩
theorem zdk_198_0 : zDc [o_con 1 (vI 0), o_istore 2 2, o_iload 3 2, o_aload 4 0, o_getP zshp 7 4 6, o_bad, o_bad, o_getF zshp 10 7 5, o_bad, o_bad, o_iload 11 1, o_ald zshp 12 14, o_icmpge 15 65, o_bad, o_bad, o_aload 16 0] := ⟨zdt_con, ⟨zdt_istore, ⟨zdt_iload, ⟨zdt_aload, ⟨zdt_getP, ⟨zdt_bad, ⟨zdt_bad, ⟨zdt_getF, ⟨zdt_bad, ⟨zdt_bad, ⟨zdt_iload, ⟨zdt_ald, ⟨zdt_icmpge, ⟨zdt_bad, ⟨zdt_bad, ⟨zdt_aload, True.intro⟩⟩⟩⟩⟩⟩⟩⟩⟩⟩⟩⟩⟩⟩⟩⟩
theorem zdk_198_1 : zDc [o_getF zshp 19 4 3, o_bad, o_bad, o_aload 20 0, o_getI zshp 23 4 11, o_bad, o_bad, o_iload 24 2, o_iadd 25, o_iload 26 2, o_aload 27 0, o_getP zshp 30 4 6, o_bad, o_bad, o_getF zshp 33 7 4, o_bad] := ⟨zdt_getF, ⟨zdt_bad, ⟨zdt_bad, ⟨zdt_aload, ⟨zdt_getI, ⟨zdt_bad, ⟨zdt_bad, ⟨zdt_iload, ⟨zdt_iadd, ⟨zdt_iload, ⟨zdt_aload, ⟨zdt_getP, ⟨zdt_bad, ⟨zdt_bad, ⟨zdt_getF, ⟨zdt_bad, True.intro⟩⟩⟩⟩⟩⟩⟩⟩⟩⟩⟩⟩⟩⟩⟩⟩
theorem zdk_198_2 : zDc [o_bad, o_iload 34 1, o_ald zshp 35 14, o_icmpge 38 57, o_bad, o_bad, o_aload 39 0, o_aload 40 0, o_getP zshp 43 4 7, o_bad, o_bad, o_aload 44 0, o_getI zshp 47 4 12, o_bad, o_bad, o_iload 48 2] := ⟨zdt_bad, ⟨zdt_iload, ⟨zdt_ald, ⟨zdt_icmpge, ⟨zdt_bad, ⟨zdt_bad, ⟨zdt_aload, ⟨zdt_aload, ⟨zdt_getP, ⟨zdt_bad, ⟨zdt_bad, ⟨zdt_aload, ⟨zdt_getI, ⟨zdt_bad, ⟨zdt_bad, ⟨zdt_iload, True.intro⟩⟩⟩⟩⟩⟩⟩⟩⟩⟩⟩⟩⟩⟩⟩⟩
theorem zdk_198_3 : zDc [o_inv zshp 51 182 3 3 1 3, o_bad, o_bad, o_inv zshp 54 192 2 4 1 2, o_bad, o_bad, o_goto 58, o_bad, o_bad, o_con 58 (vI 0), o_iast zshp 59, o_iinc 62 2 1, o_bad, o_bad, o_goto 2, o_bad] := ⟨(zdt_inv rfl), ⟨zdt_bad, ⟨zdt_bad, ⟨(zdt_inv rfl), ⟨zdt_bad, ⟨zdt_bad, ⟨zdt_goto, ⟨zdt_bad, ⟨zdt_bad, ⟨zdt_con, ⟨zdt_iast, ⟨zdt_iinc, ⟨zdt_bad, ⟨zdt_bad, ⟨zdt_goto, ⟨zdt_bad, True.intro⟩⟩⟩⟩⟩⟩⟩⟩⟩⟩⟩⟩⟩⟩⟩⟩
theorem zdk_198_4 : zDc [o_bad, o_aload 66 0, o_getF zshp 69 4 5, o_bad, o_bad, o_aload 70 0, o_getI zshp 73 4 12, o_bad, o_bad, o_aload 74 0, o_getI zshp 77 4 10, o_bad, o_bad, o_aload 78 0, o_getI zshp 81 4 13, o_bad] := ⟨zdt_bad, ⟨zdt_aload, ⟨zdt_getF, ⟨zdt_bad, ⟨zdt_bad, ⟨zdt_aload, ⟨zdt_getI, ⟨zdt_bad, ⟨zdt_bad, ⟨zdt_aload, ⟨zdt_getI, ⟨zdt_bad, ⟨zdt_bad, ⟨zdt_aload, ⟨zdt_getI, ⟨zdt_bad, True.intro⟩⟩⟩⟩⟩⟩⟩⟩⟩⟩⟩⟩⟩⟩⟩⟩
theorem zdk_198_5 : zDc [o_bad, o_aload 82 0, o_getI zshp 85 4 14, o_bad, o_bad, o_inv zshp 88 202 5 5 0 5, o_bad, o_bad, o_aload 89 0, o_getF zshp 92 4 0, o_bad, o_bad, o_con 93 (vI 4), o_aload 94 0, o_getF zshp 97 4 0, o_bad] := ⟨zdt_bad, ⟨zdt_aload, ⟨zdt_getI, ⟨zdt_bad, ⟨zdt_bad, ⟨(zdt_inv rfl), ⟨zdt_bad, ⟨zdt_bad, ⟨zdt_aload, ⟨zdt_getF, ⟨zdt_bad, ⟨zdt_bad, ⟨zdt_con, ⟨zdt_aload, ⟨zdt_getF, ⟨zdt_bad, True.intro⟩⟩⟩⟩⟩⟩⟩⟩⟩⟩⟩⟩⟩⟩⟩⟩
theorem zdk_198_6 : zDc [o_bad, o_con 98 (vI 4), o_ald zshp 99 14, o_aload 100 0, o_getF zshp 103 4 5, o_bad, o_bad, o_getI zshp 106 5 4, o_bad, o_bad, o_con 107 (vI 1), o_iadd 108, o_inv zshp 111 278 2 99 1 2, o_bad, o_bad, o_iast zshp 112] := ⟨zdt_bad, ⟨zdt_con, ⟨zdt_ald, ⟨zdt_aload, ⟨zdt_getF, ⟨zdt_bad, ⟨zdt_bad, ⟨zdt_getI, ⟨zdt_bad, ⟨zdt_bad, ⟨zdt_con, ⟨zdt_iadd, ⟨(zdt_inv rfl), ⟨zdt_bad, ⟨zdt_bad, ⟨zdt_iast, True.intro⟩⟩⟩⟩⟩⟩⟩⟩⟩⟩⟩⟩⟩⟩⟩⟩
theorem zdk_198_7 : zDc [o_aload 113 0, o_aload 114 0, o_getI zshp 117 4 11, o_bad, o_bad, o_putI zshp 120 4 10, o_bad, o_bad, o_aload 121 0, o_dup 122, o_getI zshp 125 4 11, o_bad, o_bad, o_aload 126 0, o_getP zshp 129 4 6, o_bad] := ⟨zdt_aload, ⟨zdt_aload, ⟨zdt_getI, ⟨zdt_bad, ⟨zdt_bad, ⟨zdt_putI, ⟨zdt_bad, ⟨zdt_bad, ⟨zdt_aload, ⟨zdt_dup, ⟨zdt_getI, ⟨zdt_bad, ⟨zdt_bad, ⟨zdt_aload, ⟨zdt_getP, ⟨zdt_bad, True.intro⟩⟩⟩⟩⟩⟩⟩⟩⟩⟩⟩⟩⟩⟩⟩⟩
theorem zdk_198_8 : zDc [o_bad, o_getF zshp 132 7 5, o_bad, o_bad, o_iload 133 1, o_ald zshp 134 14, o_iadd 135, o_putI zshp 138 4 11, o_bad, o_bad, o_aload 139 0, o_aload 140 0, o_getF zshp 143 4 4, o_bad, o_bad, o_getI zshp 146 5 4] := ⟨zdt_bad, ⟨zdt_getF, ⟨zdt_bad, ⟨zdt_bad, ⟨zdt_iload, ⟨zdt_ald, ⟨zdt_iadd, ⟨zdt_putI, ⟨zdt_bad, ⟨zdt_bad, ⟨zdt_aload, ⟨zdt_aload, ⟨zdt_getF, ⟨zdt_bad, ⟨zdt_bad, ⟨zdt_getI, True.intro⟩⟩⟩⟩⟩⟩⟩⟩⟩⟩⟩⟩⟩⟩⟩⟩
theorem zdk_198_9 : zDc [o_bad, o_bad, o_putI zshp 149 4 14, o_bad, o_bad, o_aload 150 0, o_aload 151 0, o_getP zshp 154 4 6, o_bad, o_bad, o_getF zshp 157 7 16, o_bad, o_bad, o_putP zshp 160 4 7, o_bad, o_bad] := ⟨zdt_bad, ⟨zdt_bad, ⟨zdt_putI, ⟨zdt_bad, ⟨zdt_bad, ⟨zdt_aload, ⟨zdt_aload, ⟨zdt_getP, ⟨zdt_bad, ⟨zdt_bad, ⟨zdt_getF, ⟨zdt_bad, ⟨zdt_bad, ⟨zdt_putP, ⟨zdt_bad, ⟨zdt_bad, True.intro⟩⟩⟩⟩⟩⟩⟩⟩⟩⟩⟩⟩⟩⟩⟩⟩
theorem zdk_198_10 : zDc [o_aload 161 0, o_aload 162 0, o_getP zshp 165 4 6, o_bad, o_bad, o_getF zshp 168 7 6, o_bad, o_bad, o_iload 169 1, o_ald zshp 170 14, o_putI zshp 173 4 12, o_bad, o_bad, o_aload 174 0, o_aload 175 0, o_getI zshp 178 4 12] := ⟨zdt_aload, ⟨zdt_aload, ⟨zdt_getP, ⟨zdt_bad, ⟨zdt_bad, ⟨zdt_getF, ⟨zdt_bad, ⟨zdt_bad, ⟨zdt_iload, ⟨zdt_ald, ⟨zdt_putI, ⟨zdt_bad, ⟨zdt_bad, ⟨zdt_aload, ⟨zdt_aload, ⟨zdt_getI, True.intro⟩⟩⟩⟩⟩⟩⟩⟩⟩⟩⟩⟩⟩⟩⟩⟩
theorem zdk_198_11 : zDc [o_bad, o_bad, o_aload 179 0, o_getP zshp 182 4 6, o_bad, o_bad, o_getF zshp 185 7 7, o_bad, o_bad, o_iload 186 1, o_ald zshp 187 14, o_iadd 188, o_putI zshp 191 4 13, o_bad, o_bad, o_ret] := ⟨zdt_bad, ⟨zdt_bad, ⟨zdt_aload, ⟨zdt_getP, ⟨zdt_bad, ⟨zdt_bad, ⟨zdt_getF, ⟨zdt_bad, ⟨zdt_bad, ⟨zdt_iload, ⟨zdt_ald, ⟨zdt_iadd, ⟨zdt_putI, ⟨zdt_bad, ⟨zdt_bad, ⟨zdt_ret, True.intro⟩⟩⟩⟩⟩⟩⟩⟩⟩⟩⟩⟩⟩⟩⟩⟩
theorem zdk_198 : zDa k_198 := ⟨zdk_198_0, ⟨zdk_198_1, ⟨zdk_198_2, ⟨zdk_198_3, ⟨zdk_198_4, ⟨zdk_198_5, ⟨zdk_198_6, ⟨zdk_198_7, ⟨zdk_198_8, ⟨zdk_198_9, ⟨zdk_198_10, ⟨zdk_198_11, True.intro⟩⟩⟩⟩⟩⟩⟩⟩⟩⟩⟩⟩
theorem zdk_199_0 : zDc [o_aload 1 0, o_getF zshp 4 4 5, o_bad, o_bad, o_getI zshp 7 5 4, o_bad, o_bad, o_ifne 10 23, o_bad, o_bad, o_aload 11 0, o_getF zshp 14 4 0, o_bad, o_bad, o_con 15 (vI 1), o_iload 16 1] := ⟨zdt_aload, ⟨zdt_getF, ⟨zdt_bad, ⟨zdt_bad, ⟨zdt_getI, ⟨zdt_bad, ⟨zdt_bad, ⟨zdt_ifne, ⟨zdt_bad, ⟨zdt_bad, ⟨zdt_aload, ⟨zdt_getF, ⟨zdt_bad, ⟨zdt_bad, ⟨zdt_con, ⟨zdt_iload, True.intro⟩⟩⟩⟩⟩⟩⟩⟩⟩⟩⟩⟩⟩⟩⟩⟩
theorem zdk_199_1 : zDc [o_iast zshp 17, o_aload 18 0, o_con 19 (vI 1), o_putZ zshp 22 4 15, o_bad, o_bad, o_ret, o_aload 24 0, o_getF zshp 27 4 5, o_bad, o_bad, o_getI zshp 30 5 4, o_bad, o_bad, o_con 31 (vI 1), o_isub 32] := ⟨zdt_iast, ⟨zdt_aload, ⟨zdt_con, ⟨zdt_putZ, ⟨zdt_bad, ⟨zdt_bad, ⟨zdt_ret, ⟨zdt_aload, ⟨zdt_getF, ⟨zdt_bad, ⟨zdt_bad, ⟨zdt_getI, ⟨zdt_bad, ⟨zdt_bad, ⟨zdt_con, ⟨zdt_isub, True.intro⟩⟩⟩⟩⟩⟩⟩⟩⟩⟩⟩⟩⟩⟩⟩⟩
theorem zdk_199_2 : zDc [o_istore 33 2, o_aload 34 0, o_getF zshp 37 4 5, o_bad, o_bad, o_iload 38 2, o_putI zshp 41 5 4, o_bad, o_bad, o_aload 42 0, o_getF zshp 45 4 4, o_bad, o_bad, o_aload 46 0, o_getI zshp 49 4 14, o_bad] := ⟨zdt_istore, ⟨zdt_aload, ⟨zdt_getF, ⟨zdt_bad, ⟨zdt_bad, ⟨zdt_iload, ⟨zdt_putI, ⟨zdt_bad, ⟨zdt_bad, ⟨zdt_aload, ⟨zdt_getF, ⟨zdt_bad, ⟨zdt_bad, ⟨zdt_aload, ⟨zdt_getI, ⟨zdt_bad, True.intro⟩⟩⟩⟩⟩⟩⟩⟩⟩⟩⟩⟩⟩⟩⟩⟩
theorem zdk_199_3 : zDc [o_bad, o_putI zshp 52 5 4, o_bad, o_bad, o_aload 53 0, o_aload 54 0, o_getI zshp 57 4 10, o_bad, o_bad, o_putI zshp 60 4 11, o_bad, o_bad, o_aload 61 0, o_aload 62 0, o_getF zshp 65 4 5, o_bad] := ⟨zdt_bad, ⟨zdt_putI, ⟨zdt_bad, ⟨zdt_bad, ⟨zdt_aload, ⟨zdt_aload, ⟨zdt_getI, ⟨zdt_bad, ⟨zdt_bad, ⟨zdt_putI, ⟨zdt_bad, ⟨zdt_bad, ⟨zdt_aload, ⟨zdt_aload, ⟨zdt_getF, ⟨zdt_bad, True.intro⟩⟩⟩⟩⟩⟩⟩⟩⟩⟩⟩⟩⟩⟩⟩⟩
theorem zdk_199_4 : zDc [o_bad, o_getF zshp 68 5 0, o_bad, o_bad, o_iload 69 2, o_ald zshp 70 14, o_putI zshp 73 4 12, o_bad, o_bad, o_aload 74 0, o_aload 75 0, o_getF zshp 78 4 5, o_bad, o_bad, o_getF zshp 81 5 1, o_bad] := ⟨zdt_bad, ⟨zdt_getF, ⟨zdt_bad, ⟨zdt_bad, ⟨zdt_iload, ⟨zdt_ald, ⟨zdt_putI, ⟨zdt_bad, ⟨zdt_bad, ⟨zdt_aload, ⟨zdt_aload, ⟨zdt_getF, ⟨zdt_bad, ⟨zdt_bad, ⟨zdt_getF, ⟨zdt_bad, True.intro⟩⟩⟩⟩⟩⟩⟩⟩⟩⟩⟩⟩⟩⟩⟩⟩
theorem zdk_199_5 : zDc [o_bad, o_iload 82 2, o_ald zshp 83 14, o_putI zshp 86 4 10, o_bad, o_bad, o_aload 87 0, o_aload 88 0, o_getF zshp 91 4 5, o_bad, o_bad, o_getF zshp 94 5 2, o_bad, o_bad, o_iload 95 2, o_ald zshp 96 14] := ⟨zdt_bad, ⟨zdt_iload, ⟨zdt_ald, ⟨zdt_putI, ⟨zdt_bad, ⟨zdt_bad, ⟨zdt_aload, ⟨zdt_aload, ⟨zdt_getF, ⟨zdt_bad, ⟨zdt_bad, ⟨zdt_getF, ⟨zdt_bad, ⟨zdt_bad, ⟨zdt_iload, ⟨zdt_ald, True.intro⟩⟩⟩⟩⟩⟩⟩⟩⟩⟩⟩⟩⟩⟩⟩⟩
theorem zdk_199_6 : zDc [o_putI zshp 99 4 13, o_bad, o_bad, o_aload 100 0, o_aload 101 0, o_getF zshp 104 4 5, o_bad, o_bad, o_getF zshp 107 5 3, o_bad, o_bad, o_iload 108 2, o_ald zshp 109 14, o_putI zshp 112 4 14, o_bad, o_bad] := ⟨zdt_putI, ⟨zdt_bad, ⟨zdt_bad, ⟨zdt_aload, ⟨zdt_aload, ⟨zdt_getF, ⟨zdt_bad, ⟨zdt_bad, ⟨zdt_getF, ⟨zdt_bad, ⟨zdt_bad, ⟨zdt_iload, ⟨zdt_ald, ⟨zdt_putI, ⟨zdt_bad, ⟨zdt_bad, True.intro⟩⟩⟩⟩⟩⟩⟩⟩⟩⟩⟩⟩⟩⟩⟩⟩
theorem zdk_199_7 : zDc [o_aload 113 0, o_iload 114 2, o_ifne 117 124, o_bad, o_bad, o_aload 118 0, o_getP zshp 121 4 8, o_bad, o_bad, o_goto 131, o_bad, o_bad, o_aload 125 0, o_getP zshp 128 4 6, o_bad, o_bad] := ⟨zdt_aload, ⟨zdt_iload, ⟨zdt_ifne, ⟨zdt_bad, ⟨zdt_bad, ⟨zdt_aload, ⟨zdt_getP, ⟨zdt_bad, ⟨zdt_bad, ⟨zdt_goto, ⟨zdt_bad, ⟨zdt_bad, ⟨zdt_aload, ⟨zdt_getP, ⟨zdt_bad, ⟨zdt_bad, True.intro⟩⟩⟩⟩⟩⟩⟩⟩⟩⟩⟩⟩⟩⟩⟩⟩
theorem zdk_199_8 : zDc [o_getF zshp 131 7 16, o_bad, o_bad, o_putP zshp 134 4 7, o_bad, o_bad, o_aload 135 0, o_iload 136 1, o_inv zshp 139 193 2 4 0 2, o_bad, o_bad, o_ret] := ⟨zdt_getF, ⟨zdt_bad, ⟨zdt_bad, ⟨zdt_putP, ⟨zdt_bad, ⟨zdt_bad, ⟨zdt_aload, ⟨zdt_iload, ⟨(zdt_inv rfl), ⟨zdt_bad, ⟨zdt_bad, ⟨zdt_ret, True.intro⟩⟩⟩⟩⟩⟩⟩⟩⟩⟩⟩⟩
theorem zdk_199 : zDa k_199 := ⟨zdk_199_0, ⟨zdk_199_1, ⟨zdk_199_2, ⟨zdk_199_3, ⟨zdk_199_4, ⟨zdk_199_5, ⟨zdk_199_6, ⟨zdk_199_7, ⟨zdk_199_8, True.intro⟩⟩⟩⟩⟩⟩⟩⟩⟩
theorem zdk_201_0 : zDc [o_aload 1 0, o_getI zshp 4 5 4, o_bad, o_bad, o_aload 5 0, o_getF zshp 8 5 0, o_bad, o_bad, o_alen zshp 9 14, o_icmplt 12 16, o_bad, o_bad, o_con 13 (vI 1), o_goto 17, o_bad, o_bad] := ⟨zdt_aload, ⟨zdt_getI, ⟨zdt_bad, ⟨zdt_bad, ⟨zdt_aload, ⟨zdt_getF, ⟨zdt_bad, ⟨zdt_bad, ⟨zdt_alen, ⟨zdt_icmplt, ⟨zdt_bad, ⟨zdt_bad, ⟨zdt_con, ⟨zdt_goto, ⟨zdt_bad, ⟨zdt_bad, True.intro⟩⟩⟩⟩⟩⟩⟩⟩⟩⟩⟩⟩⟩⟩⟩⟩
theorem zdk_201_1 : zDc [o_con 17 (vI 0), o_zret] := ⟨zdt_con, ⟨zdt_zret, True.intro⟩⟩
theorem zdk_201 : zDa k_201 := ⟨zdk_201_0, ⟨zdk_201_1, True.intro⟩⟩
theorem zdk_202_0 : zDc [o_aload 1 0, o_inv zshp 4 201 1 5 1 1, o_bad, o_bad, o_ifeq 7 8, o_bad, o_bad, o_ret, o_aload 9 0, o_getF zshp 12 5 0, o_bad, o_bad, o_aload 13 0, o_getI zshp 16 5 4, o_bad, o_bad] := ⟨zdt_aload, ⟨(zdt_inv rfl), ⟨zdt_bad, ⟨zdt_bad, ⟨zdt_ifeq, ⟨zdt_bad, ⟨zdt_bad, ⟨zdt_ret, ⟨zdt_aload, ⟨zdt_getF, ⟨zdt_bad, ⟨zdt_bad, ⟨zdt_aload, ⟨zdt_getI, ⟨zdt_bad, ⟨zdt_bad, True.intro⟩⟩⟩⟩⟩⟩⟩⟩⟩⟩⟩⟩⟩⟩⟩⟩
theorem zdk_202_1 : zDc [o_iload 17 1, o_iast zshp 18, o_aload 19 0, o_getF zshp 22 5 1, o_bad, o_bad, o_aload 23 0, o_getI zshp 26 5 4, o_bad, o_bad, o_iload 27 2, o_iast zshp 28, o_aload 29 0, o_getF zshp 32 5 2, o_bad, o_bad] := ⟨zdt_iload, ⟨zdt_iast, ⟨zdt_aload, ⟨zdt_getF, ⟨zdt_bad, ⟨zdt_bad, ⟨zdt_aload, ⟨zdt_getI, ⟨zdt_bad, ⟨zdt_bad, ⟨zdt_iload, ⟨zdt_iast, ⟨zdt_aload, ⟨zdt_getF, ⟨zdt_bad, ⟨zdt_bad, True.intro⟩⟩⟩⟩⟩⟩⟩⟩⟩⟩⟩⟩⟩⟩⟩⟩
theorem zdk_202_2 : zDc [o_aload 33 0, o_getI zshp 36 5 4, o_bad, o_bad, o_iload 37 3, o_iast zshp 38, o_aload 39 0, o_getF zshp 42 5 3, o_bad, o_bad, o_aload 43 0, o_getI zshp 46 5 4, o_bad, o_bad, o_iload 48 4, o_bad] := ⟨zdt_aload, ⟨zdt_getI, ⟨zdt_bad, ⟨zdt_bad, ⟨zdt_iload, ⟨zdt_iast, ⟨zdt_aload, ⟨zdt_getF, ⟨zdt_bad, ⟨zdt_bad, ⟨zdt_aload, ⟨zdt_getI, ⟨zdt_bad, ⟨zdt_bad, ⟨zdt_iload, ⟨zdt_bad, True.intro⟩⟩⟩⟩⟩⟩⟩⟩⟩⟩⟩⟩⟩⟩⟩⟩
theorem zdk_202_3 : zDc [o_iast zshp 49, o_aload 50 0, o_dup 51, o_getI zshp 54 5 4, o_bad, o_bad, o_con 55 (vI 1), o_iadd 56, o_putI zshp 59 5 4, o_bad, o_bad, o_ret] := ⟨zdt_iast, ⟨zdt_aload, ⟨zdt_dup, ⟨zdt_getI, ⟨zdt_bad, ⟨zdt_bad, ⟨zdt_con, ⟨zdt_iadd, ⟨zdt_putI, ⟨zdt_bad, ⟨zdt_bad, ⟨zdt_ret, True.intro⟩⟩⟩⟩⟩⟩⟩⟩⟩⟩⟩⟩
theorem zdk_202 : zDa k_202 := ⟨zdk_202_0, ⟨zdk_202_1, ⟨zdk_202_2, ⟨zdk_202_3, True.intro⟩⟩⟩⟩
theorem zdk_214_0 : zDc [o_aload 1 0, o_getF zshp 4 7 10, o_bad, o_bad, o_iload 5 1, o_ald zshp 6 14, o_con 8 (vI (-2)), o_bad, o_icmpeq 11 15, o_bad, o_bad, o_con 12 (vI 1), o_goto 16, o_bad, o_bad, o_con 16 (vI 0)] := ⟨zdt_aload, ⟨zdt_getF, ⟨zdt_bad, ⟨zdt_bad, ⟨zdt_iload, ⟨zdt_ald, ⟨zdt_con, ⟨zdt_bad, ⟨zdt_icmpeq, ⟨zdt_bad, ⟨zdt_bad, ⟨zdt_con, ⟨zdt_goto, ⟨zdt_bad, ⟨zdt_bad, ⟨zdt_con, True.intro⟩⟩⟩⟩⟩⟩⟩⟩⟩⟩⟩⟩⟩⟩⟩⟩
theorem zdk_214_1 : zDc [o_zret] := ⟨zdt_zret, True.intro⟩
theorem zdk_214 : zDa k_214 := ⟨zdk_214_0, ⟨zdk_214_1, True.intro⟩⟩
theorem zdk_256_0 : zDc [o_aload 1 2, o_getI zshp 4 1 3, o_bad, o_bad, o_con 6 (vI 40), o_bad, o_icmple 9 10, o_bad, o_bad, o_ret, o_aload 11 0, o_getP zshp 14 9 3, o_bad, o_bad, o_getF zshp 17 7 16, o_bad] := ⟨zdt_aload, ⟨zdt_getI, ⟨zdt_bad, ⟨zdt_bad, ⟨zdt_con, ⟨zdt_bad, ⟨zdt_icmple, ⟨zdt_bad, ⟨zdt_bad, ⟨zdt_ret, ⟨zdt_aload, ⟨zdt_getP, ⟨zdt_bad, ⟨zdt_bad, ⟨zdt_getF, ⟨zdt_bad, True.intro⟩⟩⟩⟩⟩⟩⟩⟩⟩⟩⟩⟩⟩⟩⟩⟩
theorem zdk_256_1 : zDc [o_bad, o_astore 19 6, o_bad, o_aload 20 2, o_getI zshp 23 1 1, o_bad, o_bad, o_istore 25 7, o_bad, o_aload 26 0, o_getP zshp 29 9 3, o_bad, o_bad, o_getF zshp 32 7 6, o_bad, o_bad] := ⟨zdt_bad, ⟨zdt_astore, ⟨zdt_bad, ⟨zdt_aload, ⟨zdt_getI, ⟨zdt_bad, ⟨zdt_bad, ⟨zdt_istore, ⟨zdt_bad, ⟨zdt_aload, ⟨zdt_getP, ⟨zdt_bad, ⟨zdt_bad, ⟨zdt_getF, ⟨zdt_bad, ⟨zdt_bad, True.intro⟩⟩⟩⟩⟩⟩⟩⟩⟩⟩⟩⟩⟩⟩⟩⟩
theorem zdk_256_2 : zDc [o_iload 34 7, o_bad, o_ald zshp 35 14, o_istore 37 8, o_bad, o_iload 39 8, o_bad, o_aload 40 0, o_getP zshp 43 9 3, o_bad, o_bad, o_getF zshp 46 7 6, o_bad, o_bad, o_iload 48 7, o_bad] := ⟨zdt_iload, ⟨zdt_bad, ⟨zdt_ald, ⟨zdt_istore, ⟨zdt_bad, ⟨zdt_iload, ⟨zdt_bad, ⟨zdt_aload, ⟨zdt_getP, ⟨zdt_bad, ⟨zdt_bad, ⟨zdt_getF, ⟨zdt_bad, ⟨zdt_bad, ⟨zdt_iload, ⟨zdt_bad, True.intro⟩⟩⟩⟩⟩⟩⟩⟩⟩⟩⟩⟩⟩⟩⟩⟩
theorem zdk_256_3 : zDc [o_ald zshp 49 14, o_aload 50 0, o_getP zshp 53 9 3, o_bad, o_bad, o_getF zshp 56 7 7, o_bad, o_bad, o_iload 58 7, o_bad, o_ald zshp 59 14, o_iadd 60, o_icmpge 63 223, o_bad, o_bad, o_iload 65 4] := ⟨zdt_ald, ⟨zdt_aload, ⟨zdt_getP, ⟨zdt_bad, ⟨zdt_bad, ⟨zdt_getF, ⟨zdt_bad, ⟨zdt_bad, ⟨zdt_iload, ⟨zdt_bad, ⟨zdt_ald, ⟨zdt_iadd, ⟨zdt_icmpge, ⟨zdt_bad, ⟨zdt_bad, ⟨zdt_iload, True.intro⟩⟩⟩⟩⟩⟩⟩⟩⟩⟩⟩⟩⟩⟩⟩⟩
theorem zdk_256_4 : zDc [o_bad, o_aload 67 6, o_bad, o_getF zshp 70 3 6, o_bad, o_bad, o_iload 72 8, o_bad, o_ald zshp 73 14, o_iadd 74, o_istore 76 9, o_bad, o_aload 78 6, o_bad, o_getF zshp 81 3 6, o_bad] := ⟨zdt_bad, ⟨zdt_aload, ⟨zdt_bad, ⟨zdt_getF, ⟨zdt_bad, ⟨zdt_bad, ⟨zdt_iload, ⟨zdt_bad, ⟨zdt_ald, ⟨zdt_iadd, ⟨zdt_istore, ⟨zdt_bad, ⟨zdt_aload, ⟨zdt_bad, ⟨zdt_getF, ⟨zdt_bad, True.intro⟩⟩⟩⟩⟩⟩⟩⟩⟩⟩⟩⟩⟩⟩⟩⟩
theorem zdk_256_5 : zDc [o_bad, o_iload 83 8, o_bad, o_ald zshp 84 14, o_ifne 87 92, o_bad, o_bad, o_iload 89 5, o_bad, o_goto 100, o_bad, o_bad, o_aload 94 6, o_bad, o_getF zshp 97 3 7, o_bad] := ⟨zdt_bad, ⟨zdt_iload, ⟨zdt_bad, ⟨zdt_ald, ⟨zdt_ifne, ⟨zdt_bad, ⟨zdt_bad, ⟨zdt_iload, ⟨zdt_bad, ⟨zdt_goto, ⟨zdt_bad, ⟨zdt_bad, ⟨zdt_aload, ⟨zdt_bad, ⟨zdt_getF, ⟨zdt_bad, True.intro⟩⟩⟩⟩⟩⟩⟩⟩⟩⟩⟩⟩⟩⟩⟩⟩
theorem zdk_256_6 : zDc [o_bad, o_iload 99 8, o_bad, o_ald zshp 100 14, o_istore 102 10, o_bad, o_aload 103 2, o_getI zshp 106 1 5, o_bad, o_bad, o_aload 108 6, o_bad, o_getF zshp 111 3 5, o_bad, o_bad, o_iload 113 8] := ⟨zdt_bad, ⟨zdt_iload, ⟨zdt_bad, ⟨zdt_ald, ⟨zdt_istore, ⟨zdt_bad, ⟨zdt_aload, ⟨zdt_getI, ⟨zdt_bad, ⟨zdt_bad, ⟨zdt_aload, ⟨zdt_bad, ⟨zdt_getF, ⟨zdt_bad, ⟨zdt_bad, ⟨zdt_iload, True.intro⟩⟩⟩⟩⟩⟩⟩⟩⟩⟩⟩⟩⟩⟩⟩⟩
theorem zdk_256_7 : zDc [o_bad, o_ald zshp 114 14, o_iadd 115, o_aload 116 0, o_getP zshp 119 9 3, o_bad, o_bad, o_getF zshp 122 7 8, o_bad, o_bad, o_iload 124 7, o_bad, o_ald zshp 125 14, o_isub 126, o_istore 128 11, o_bad] := ⟨zdt_bad, ⟨zdt_ald, ⟨zdt_iadd, ⟨zdt_aload, ⟨zdt_getP, ⟨zdt_bad, ⟨zdt_bad, ⟨zdt_getF, ⟨zdt_bad, ⟨zdt_bad, ⟨zdt_iload, ⟨zdt_bad, ⟨zdt_ald, ⟨zdt_isub, ⟨zdt_istore, ⟨zdt_bad, True.intro⟩⟩⟩⟩⟩⟩⟩⟩⟩⟩⟩⟩⟩⟩⟩⟩
theorem zdk_256_8 : zDc [o_aload 130 6, o_bad, o_getF zshp 133 3 0, o_bad, o_bad, o_iload 135 8, o_bad, o_ald zshp 136 14, o_con 138 (vI 6), o_bad, o_icmpne 141 186, o_bad, o_bad, o_iload 143 11, o_bad, o_aload 144 1] := ⟨zdt_aload, ⟨zdt_bad, ⟨zdt_getF, ⟨zdt_bad, ⟨zdt_bad, ⟨zdt_iload, ⟨zdt_bad, ⟨zdt_ald, ⟨zdt_con, ⟨zdt_bad, ⟨zdt_icmpne, ⟨zdt_bad, ⟨zdt_bad, ⟨zdt_iload, ⟨zdt_bad, ⟨zdt_aload, True.intro⟩⟩⟩⟩⟩⟩⟩⟩⟩⟩⟩⟩⟩⟩⟩⟩
theorem zdk_256_9 : zDc [o_getF zshp 147 10 0, o_bad, o_bad, o_alen zshp 148 17, o_icmpge 151 186, o_bad, o_bad, o_aload 152 1, o_getF zshp 155 10 0, o_bad, o_bad, o_iload 157 11, o_bad, o_aald zshp 158, o_getI zshp 161 1 6, o_bad] := ⟨zdt_getF, ⟨zdt_bad, ⟨zdt_bad, ⟨zdt_alen, ⟨zdt_icmpge, ⟨zdt_bad, ⟨zdt_bad, ⟨zdt_aload, ⟨zdt_getF, ⟨zdt_bad, ⟨zdt_bad, ⟨zdt_iload, ⟨zdt_bad, ⟨zdt_aald, ⟨zdt_getI, ⟨zdt_bad, True.intro⟩⟩⟩⟩⟩⟩⟩⟩⟩⟩⟩⟩⟩⟩⟩⟩
theorem zdk_256_10 : zDc [o_bad, o_ifeq 164 186, o_bad, o_bad, o_aload 165 0, o_aload 166 1, o_aload 167 1, o_getF zshp 170 10 0, o_bad, o_bad, o_iload 172 11, o_bad, o_aald zshp 173, o_iload 175 8, o_bad, o_iload 176 3] := ⟨zdt_bad, ⟨zdt_ifeq, ⟨zdt_bad, ⟨zdt_bad, ⟨zdt_aload, ⟨zdt_aload, ⟨zdt_aload, ⟨zdt_getF, ⟨zdt_bad, ⟨zdt_bad, ⟨zdt_iload, ⟨zdt_bad, ⟨zdt_aald, ⟨zdt_iload, ⟨zdt_bad, ⟨zdt_iload, True.intro⟩⟩⟩⟩⟩⟩⟩⟩⟩⟩⟩⟩⟩⟩⟩⟩
theorem zdk_256_11 : zDc [o_iload 178 9, o_bad, o_iload 180 10, o_bad, o_inv zshp 183 257 7 9 0 11, o_bad, o_bad, o_goto 217, o_bad, o_bad, o_aload 188 6, o_bad, o_getF zshp 191 3 0, o_bad, o_bad, o_iload 193 8] := ⟨zdt_iload, ⟨zdt_bad, ⟨zdt_iload, ⟨zdt_bad, ⟨(zdt_inv rfl), ⟨zdt_bad, ⟨zdt_bad, ⟨zdt_goto, ⟨zdt_bad, ⟨zdt_bad, ⟨zdt_aload, ⟨zdt_bad, ⟨zdt_getF, ⟨zdt_bad, ⟨zdt_bad, ⟨zdt_iload, True.intro⟩⟩⟩⟩⟩⟩⟩⟩⟩⟩⟩⟩⟩⟩⟩⟩
theorem zdk_256_12 : zDc [o_bad, o_ald zshp 194 14, o_con 196 (vI 9), o_bad, o_icmpne 199 206, o_bad, o_bad, o_aload 200 2, o_getI zshp 203 1 3, o_bad, o_bad, o_ifne 206 217, o_bad, o_bad, o_aload 207 0, o_iload 209 8] := ⟨zdt_bad, ⟨zdt_ald, ⟨zdt_con, ⟨zdt_bad, ⟨zdt_icmpne, ⟨zdt_bad, ⟨zdt_bad, ⟨zdt_aload, ⟨zdt_getI, ⟨zdt_bad, ⟨zdt_bad, ⟨zdt_ifne, ⟨zdt_bad, ⟨zdt_bad, ⟨zdt_aload, ⟨zdt_iload, True.intro⟩⟩⟩⟩⟩⟩⟩⟩⟩⟩⟩⟩⟩⟩⟩⟩
theorem zdk_256_13 : zDc [o_bad, o_iload 210 3, o_iload 212 9, o_bad, o_iload 214 10, o_bad, o_inv zshp 217 259 5 9 0 7, o_bad, o_bad, o_iinc 220 8 1, o_bad, o_bad, o_goto 37, o_bad, o_bad, o_ret] := ⟨zdt_bad, ⟨zdt_iload, ⟨zdt_iload, ⟨zdt_bad, ⟨zdt_iload, ⟨zdt_bad, ⟨(zdt_inv rfl), ⟨zdt_bad, ⟨zdt_bad, ⟨zdt_iinc, ⟨zdt_bad, ⟨zdt_bad, ⟨zdt_goto, ⟨zdt_bad, ⟨zdt_bad, ⟨zdt_ret, True.intro⟩⟩⟩⟩⟩⟩⟩⟩⟩⟩⟩⟩⟩⟩⟩⟩
theorem zdk_256 : zDa k_256 := ⟨zdk_256_0, ⟨zdk_256_1, ⟨zdk_256_2, ⟨zdk_256_3, ⟨zdk_256_4, ⟨zdk_256_5, ⟨zdk_256_6, ⟨zdk_256_7, ⟨zdk_256_8, ⟨zdk_256_9, ⟨zdk_256_10, ⟨zdk_256_11, ⟨zdk_256_12, ⟨zdk_256_13, True.intro⟩⟩⟩⟩⟩⟩⟩⟩⟩⟩⟩⟩⟩⟩
theorem zdk_257_0 : zDc [o_aload 1 2, o_getI zshp 4 1 1, o_bad, o_bad, o_istore 6 7, o_bad, o_aload 7 0, o_getI zshp 10 9 1, o_bad, o_bad, o_istore 12 8, o_bad, o_aload 13 0, o_dup 14, o_getI zshp 17 9 1, o_bad] := ⟨zdt_aload, ⟨zdt_getI, ⟨zdt_bad, ⟨zdt_bad, ⟨zdt_istore, ⟨zdt_bad, ⟨zdt_aload, ⟨zdt_getI, ⟨zdt_bad, ⟨zdt_bad, ⟨zdt_istore, ⟨zdt_bad, ⟨zdt_aload, ⟨zdt_dup, ⟨zdt_getI, ⟨zdt_bad, True.intro⟩⟩⟩⟩⟩⟩⟩⟩⟩⟩⟩⟩⟩⟩⟩⟩
theorem zdk_257_1 : zDc [o_bad, o_aload 18 0, o_getP zshp 21 9 3, o_bad, o_bad, o_getF zshp 24 7 5, o_bad, o_bad, o_iload 26 7, o_bad, o_ald zshp 27 14, o_iadd 28, o_putI zshp 31 9 1, o_bad, o_bad, o_con 32 (vI 0)] := ⟨zdt_bad, ⟨zdt_aload, ⟨zdt_getP, ⟨zdt_bad, ⟨zdt_bad, ⟨zdt_getF, ⟨zdt_bad, ⟨zdt_bad, ⟨zdt_iload, ⟨zdt_bad, ⟨zdt_ald, ⟨zdt_iadd, ⟨zdt_putI, ⟨zdt_bad, ⟨zdt_bad, ⟨zdt_con, True.intro⟩⟩⟩⟩⟩⟩⟩⟩⟩⟩⟩⟩⟩⟩⟩⟩
theorem zdk_257_2 : zDc [o_istore 34 9, o_bad, o_iload 36 9, o_bad, o_aload 37 0, o_getP zshp 40 9 3, o_bad, o_bad, o_getF zshp 43 7 5, o_bad, o_bad, o_iload 45 7, o_bad, o_ald zshp 46 14, o_icmpge 49 109, o_bad] := ⟨zdt_istore, ⟨zdt_bad, ⟨zdt_iload, ⟨zdt_bad, ⟨zdt_aload, ⟨zdt_getP, ⟨zdt_bad, ⟨zdt_bad, ⟨zdt_getF, ⟨zdt_bad, ⟨zdt_bad, ⟨zdt_iload, ⟨zdt_bad, ⟨zdt_ald, ⟨zdt_icmpge, ⟨zdt_bad, True.intro⟩⟩⟩⟩⟩⟩⟩⟩⟩⟩⟩⟩⟩⟩⟩⟩
theorem zdk_257_3 : zDc [o_bad, o_iload 51 9, o_bad, o_aload 52 0, o_getP zshp 55 9 3, o_bad, o_bad, o_getF zshp 58 7 4, o_bad, o_bad, o_iload 60 7, o_bad, o_ald zshp 61 14, o_icmpge 64 85, o_bad, o_bad] := ⟨zdt_bad, ⟨zdt_iload, ⟨zdt_bad, ⟨zdt_aload, ⟨zdt_getP, ⟨zdt_bad, ⟨zdt_bad, ⟨zdt_getF, ⟨zdt_bad, ⟨zdt_bad, ⟨zdt_iload, ⟨zdt_bad, ⟨zdt_ald, ⟨zdt_icmpge, ⟨zdt_bad, ⟨zdt_bad, True.intro⟩⟩⟩⟩⟩⟩⟩⟩⟩⟩⟩⟩⟩⟩⟩⟩
theorem zdk_257_4 : zDc [o_aload 65 0, o_getP zshp 68 9 3, o_bad, o_bad, o_getF zshp 71 7 16, o_bad, o_bad, o_iload 72 3, o_iload 74 9, o_bad, o_inv zshp 77 182 3 3 1 3, o_bad, o_bad, o_iload 79 4, o_bad, o_inv zshp 82 260 2 99 1 2] := ⟨zdt_aload, ⟨zdt_getP, ⟨zdt_bad, ⟨zdt_bad, ⟨zdt_getF, ⟨zdt_bad, ⟨zdt_bad, ⟨zdt_iload, ⟨zdt_iload, ⟨zdt_bad, ⟨(zdt_inv rfl), ⟨zdt_bad, ⟨zdt_bad, ⟨zdt_iload, ⟨zdt_bad, ⟨(zdt_inv rfl), True.intro⟩⟩⟩⟩⟩⟩⟩⟩⟩⟩⟩⟩⟩⟩⟩⟩
theorem zdk_257_5 : zDc [o_bad, o_bad, o_goto 86, o_bad, o_bad, o_con 86 (vI 0), o_istore 88 10, o_bad, o_aload 89 0, o_iload 91 8, o_bad, o_iload 93 9, o_bad, o_iadd 94, o_iload 96 10, o_bad] := ⟨zdt_bad, ⟨zdt_bad, ⟨zdt_goto, ⟨zdt_bad, ⟨zdt_bad, ⟨zdt_con, ⟨zdt_istore, ⟨zdt_bad, ⟨zdt_aload, ⟨zdt_iload, ⟨zdt_bad, ⟨zdt_iload, ⟨zdt_bad, ⟨zdt_iadd, ⟨zdt_iload, ⟨zdt_bad, True.intro⟩⟩⟩⟩⟩⟩⟩⟩⟩⟩⟩⟩⟩⟩⟩⟩
theorem zdk_257_6 : zDc [o_iload 98 5, o_bad, o_iload 100 6, o_bad, o_inv zshp 103 258 5 9 0 6, o_bad, o_bad, o_iinc 106 9 1, o_bad, o_bad, o_goto 34, o_bad, o_bad, o_aload 110 0, o_aload 111 1, o_aload 112 2] := ⟨zdt_iload, ⟨zdt_bad, ⟨zdt_iload, ⟨zdt_bad, ⟨(zdt_inv rfl), ⟨zdt_bad, ⟨zdt_bad, ⟨zdt_iinc, ⟨zdt_bad, ⟨zdt_bad, ⟨zdt_goto, ⟨zdt_bad, ⟨zdt_bad, ⟨zdt_aload, ⟨zdt_aload, ⟨zdt_aload, True.intro⟩⟩⟩⟩⟩⟩⟩⟩⟩⟩⟩⟩⟩⟩⟩⟩
theorem zdk_257_7 : zDc [o_iload 114 8, o_bad, o_iload 116 5, o_bad, o_iload 118 6, o_bad, o_inv zshp 121 256 6 9 0 12, o_bad, o_bad, o_aload 122 0, o_getP zshp 125 9 3, o_bad, o_bad, o_iload 127 7, o_bad, o_inv zshp 130 214 2 7 1 2] := ⟨zdt_iload, ⟨zdt_bad, ⟨zdt_iload, ⟨zdt_bad, ⟨zdt_iload, ⟨zdt_bad, ⟨(zdt_inv rfl), ⟨zdt_bad, ⟨zdt_bad, ⟨zdt_aload, ⟨zdt_getP, ⟨zdt_bad, ⟨zdt_bad, ⟨zdt_iload, ⟨zdt_bad, ⟨(zdt_inv rfl), True.intro⟩⟩⟩⟩⟩⟩⟩⟩⟩⟩⟩⟩⟩⟩⟩⟩
theorem zdk_257_8 : zDc [o_bad, o_bad, o_ifeq 133 151, o_bad, o_bad, o_aload 134 0, o_getP zshp 137 9 3, o_bad, o_bad, o_getF zshp 140 7 10, o_bad, o_bad, o_iload 142 7, o_bad, o_ald zshp 143 14, o_iload 145 8] := ⟨zdt_bad, ⟨zdt_bad, ⟨zdt_ifeq, ⟨zdt_bad, ⟨zdt_bad, ⟨zdt_aload, ⟨zdt_getP, ⟨zdt_bad, ⟨zdt_bad, ⟨zdt_getF, ⟨zdt_bad, ⟨zdt_bad, ⟨zdt_iload, ⟨zdt_bad, ⟨zdt_ald, ⟨zdt_iload, True.intro⟩⟩⟩⟩⟩⟩⟩⟩⟩⟩⟩⟩⟩⟩⟩⟩
theorem zdk_257_9 : zDc [o_bad, o_inv zshp 148 260 2 99 1 2, o_bad, o_bad, o_goto 152, o_bad, o_bad, o_con 152 (vI 0), o_istore 154 9, o_bad, o_aload 155 0, o_aload 156 0, o_getP zshp 159 9 3, o_bad, o_bad, o_getF zshp 162 7 16] := ⟨zdt_bad, ⟨(zdt_inv rfl), ⟨zdt_bad, ⟨zdt_bad, ⟨zdt_goto, ⟨zdt_bad, ⟨zdt_bad, ⟨zdt_con, ⟨zdt_istore, ⟨zdt_bad, ⟨zdt_aload, ⟨zdt_aload, ⟨zdt_getP, ⟨zdt_bad, ⟨zdt_bad, ⟨zdt_getF, True.intro⟩⟩⟩⟩⟩⟩⟩⟩⟩⟩⟩⟩⟩⟩⟩⟩
theorem zdk_257_10 : zDc [o_bad, o_bad, o_getF zshp 165 3 1, o_bad, o_bad, o_iload 166 3, o_ald zshp 167 14, o_iload 169 4, o_bad, o_iadd 170, o_iload 172 9, o_bad, o_iload 174 5, o_bad, o_iload 176 6, o_bad] := ⟨zdt_bad, ⟨zdt_bad, ⟨zdt_getF, ⟨zdt_bad, ⟨zdt_bad, ⟨zdt_iload, ⟨zdt_ald, ⟨zdt_iload, ⟨zdt_bad, ⟨zdt_iadd, ⟨zdt_iload, ⟨zdt_bad, ⟨zdt_iload, ⟨zdt_bad, ⟨zdt_iload, ⟨zdt_bad, True.intro⟩⟩⟩⟩⟩⟩⟩⟩⟩⟩⟩⟩⟩⟩⟩⟩
theorem zdk_257_11 : zDc [o_inv zshp 179 258 5 9 0 6, o_bad, o_bad, o_ret] := ⟨(zdt_inv rfl), ⟨zdt_bad, ⟨zdt_bad, ⟨zdt_ret, True.intro⟩⟩⟩⟩
theorem zdk_257 : zDa k_257 := ⟨zdk_257_0, ⟨zdk_257_1, ⟨zdk_257_2, ⟨zdk_257_3, ⟨zdk_257_4, ⟨zdk_257_5, ⟨zdk_257_6, ⟨zdk_257_7, ⟨zdk_257_8, ⟨zdk_257_9, ⟨zdk_257_10, ⟨zdk_257_11, True.intro⟩⟩⟩⟩⟩⟩⟩⟩⟩⟩⟩⟩
theorem zdk_258_0 : zDc [o_aload 1 0, o_getF zshp 4 9 0, o_bad, o_bad, o_con 5 (vI 0), o_iload 6 3, o_iload 8 4, o_bad, o_inv zshp 11 180 4 3 1 5, o_bad, o_bad, o_istore 13 5, o_bad, o_iload 15 5, o_bad, o_con 16 (vI (-1))] := ⟨zdt_aload, ⟨zdt_getF, ⟨zdt_bad, ⟨zdt_bad, ⟨zdt_con, ⟨zdt_iload, ⟨zdt_iload, ⟨zdt_bad, ⟨(zdt_inv rfl), ⟨zdt_bad, ⟨zdt_bad, ⟨zdt_istore, ⟨zdt_bad, ⟨zdt_iload, ⟨zdt_bad, ⟨zdt_con, True.intro⟩⟩⟩⟩⟩⟩⟩⟩⟩⟩⟩⟩⟩⟩⟩⟩
theorem zdk_258_1 : zDc [o_icmpeq 19 41, o_bad, o_bad, o_aload 20 0, o_getF zshp 23 9 0, o_bad, o_bad, o_getF zshp 26 3 1, o_bad, o_bad, o_iload 28 5, o_bad, o_iload 29 1, o_iast zshp 30, o_aload 31 0, o_getF zshp 34 9 0] := ⟨zdt_icmpeq, ⟨zdt_bad, ⟨zdt_bad, ⟨zdt_aload, ⟨zdt_getF, ⟨zdt_bad, ⟨zdt_bad, ⟨zdt_getF, ⟨zdt_bad, ⟨zdt_bad, ⟨zdt_iload, ⟨zdt_bad, ⟨zdt_iload, ⟨zdt_iast, ⟨zdt_aload, ⟨zdt_getF, True.intro⟩⟩⟩⟩⟩⟩⟩⟩⟩⟩⟩⟩⟩⟩⟩⟩
theorem zdk_258_2 : zDc [o_bad, o_bad, o_getF zshp 37 3 2, o_bad, o_bad, o_iload 39 5, o_bad, o_iload 40 2, o_iast zshp 41, o_ret] := ⟨zdt_bad, ⟨zdt_bad, ⟨zdt_getF, ⟨zdt_bad, ⟨zdt_bad, ⟨zdt_iload, ⟨zdt_bad, ⟨zdt_iload, ⟨zdt_iast, ⟨zdt_ret, True.intro⟩⟩⟩⟩⟩⟩⟩⟩⟩⟩
theorem zdk_258 : zDa k_258 := ⟨zdk_258_0, ⟨zdk_258_1, ⟨zdk_258_2, True.intro⟩⟩⟩
theorem zdk_259_0 : zDc [o_aload 1 0, o_getP zshp 4 9 3, o_bad, o_bad, o_getF zshp 7 7 16, o_bad, o_bad, o_astore 9 5, o_bad, o_aload 10 0, o_getF zshp 13 9 0, o_bad, o_bad, o_aload 15 5, o_bad, o_getF zshp 18 3 0] := ⟨zdt_aload, ⟨zdt_getP, ⟨zdt_bad, ⟨zdt_bad, ⟨zdt_getF, ⟨zdt_bad, ⟨zdt_bad, ⟨zdt_astore, ⟨zdt_bad, ⟨zdt_aload, ⟨zdt_getF, ⟨zdt_bad, ⟨zdt_bad, ⟨zdt_aload, ⟨zdt_bad, ⟨zdt_getF, True.intro⟩⟩⟩⟩⟩⟩⟩⟩⟩⟩⟩⟩⟩⟩⟩⟩
theorem zdk_259_1 : zDc [o_bad, o_bad, o_iload 19 1, o_ald zshp 20 14, o_iload 21 3, o_iload 23 4, o_bad, o_inv zshp 26 180 4 3 1 5, o_bad, o_bad, o_istore 28 6, o_bad, o_iload 30 6, o_bad, o_con 31 (vI (-1)), o_icmpne 34 35] := ⟨zdt_bad, ⟨zdt_bad, ⟨zdt_iload, ⟨zdt_ald, ⟨zdt_iload, ⟨zdt_iload, ⟨zdt_bad, ⟨(zdt_inv rfl), ⟨zdt_bad, ⟨zdt_bad, ⟨zdt_istore, ⟨zdt_bad, ⟨zdt_iload, ⟨zdt_bad, ⟨zdt_con, ⟨zdt_icmpne, True.intro⟩⟩⟩⟩⟩⟩⟩⟩⟩⟩⟩⟩⟩⟩⟩⟩
theorem zdk_259_2 : zDc [o_bad, o_bad, o_ret, o_aload 36 0, o_getF zshp 39 9 0, o_bad, o_bad, o_getF zshp 42 3 1, o_bad, o_bad, o_iload 44 6, o_bad, o_aload 46 5, o_bad, o_getF zshp 49 3 1, o_bad] := ⟨zdt_bad, ⟨zdt_bad, ⟨zdt_ret, ⟨zdt_aload, ⟨zdt_getF, ⟨zdt_bad, ⟨zdt_bad, ⟨zdt_getF, ⟨zdt_bad, ⟨zdt_bad, ⟨zdt_iload, ⟨zdt_bad, ⟨zdt_aload, ⟨zdt_bad, ⟨zdt_getF, ⟨zdt_bad, True.intro⟩⟩⟩⟩⟩⟩⟩⟩⟩⟩⟩⟩⟩⟩⟩⟩
theorem zdk_259_3 : zDc [o_bad, o_iload 50 1, o_ald zshp 51 14, o_ifge 54 59, o_bad, o_bad, o_con 56 (vI (-2)), o_bad, o_goto 68, o_bad, o_bad, o_aload 61 5, o_bad, o_getF zshp 64 3 1, o_bad, o_bad] := ⟨zdt_bad, ⟨zdt_iload, ⟨zdt_ald, ⟨zdt_ifge, ⟨zdt_bad, ⟨zdt_bad, ⟨zdt_con, ⟨zdt_bad, ⟨zdt_goto, ⟨zdt_bad, ⟨zdt_bad, ⟨zdt_aload, ⟨zdt_bad, ⟨zdt_getF, ⟨zdt_bad, ⟨zdt_bad, True.intro⟩⟩⟩⟩⟩⟩⟩⟩⟩⟩⟩⟩⟩⟩⟩⟩
theorem zdk_259_4 : zDc [o_iload 65 1, o_ald zshp 66 14, o_iload 67 2, o_iadd 68, o_iast zshp 69, o_aload 70 0, o_getF zshp 73 9 0, o_bad, o_bad, o_getF zshp 76 3 2, o_bad, o_bad, o_iload 78 6, o_bad, o_aload 80 5, o_bad] := ⟨zdt_iload, ⟨zdt_ald, ⟨zdt_iload, ⟨zdt_iadd, ⟨zdt_iast, ⟨zdt_aload, ⟨zdt_getF, ⟨zdt_bad, ⟨zdt_bad, ⟨zdt_getF, ⟨zdt_bad, ⟨zdt_bad, ⟨zdt_iload, ⟨zdt_bad, ⟨zdt_aload, ⟨zdt_bad, True.intro⟩⟩⟩⟩⟩⟩⟩⟩⟩⟩⟩⟩⟩⟩⟩⟩
theorem zdk_259_5 : zDc [o_getF zshp 83 3 2, o_bad, o_bad, o_iload 84 1, o_ald zshp 85 14, o_iload 86 2, o_inv zshp 89 260 2 99 1 2, o_bad, o_bad, o_iast zshp 90, o_aload 91 0, o_getF zshp 94 9 0, o_bad, o_bad, o_getF zshp 97 3 3, o_bad] := ⟨zdt_getF, ⟨zdt_bad, ⟨zdt_bad, ⟨zdt_iload, ⟨zdt_ald, ⟨zdt_iload, ⟨(zdt_inv rfl), ⟨zdt_bad, ⟨zdt_bad, ⟨zdt_iast, ⟨zdt_aload, ⟨zdt_getF, ⟨zdt_bad, ⟨zdt_bad, ⟨zdt_getF, ⟨zdt_bad, True.intro⟩⟩⟩⟩⟩⟩⟩⟩⟩⟩⟩⟩⟩⟩⟩⟩
theorem zdk_259_6 : zDc [o_bad, o_iload 99 6, o_bad, o_aload 101 5, o_bad, o_getF zshp 104 3 3, o_bad, o_bad, o_iload 105 1, o_ald zshp 106 14, o_iload 107 2, o_inv zshp 110 260 2 99 1 2, o_bad, o_bad, o_iast zshp 111, o_aload 112 0] := ⟨zdt_bad, ⟨zdt_iload, ⟨zdt_bad, ⟨zdt_aload, ⟨zdt_bad, ⟨zdt_getF, ⟨zdt_bad, ⟨zdt_bad, ⟨zdt_iload, ⟨zdt_ald, ⟨zdt_iload, ⟨(zdt_inv rfl), ⟨zdt_bad, ⟨zdt_bad, ⟨zdt_iast, ⟨zdt_aload, True.intro⟩⟩⟩⟩⟩⟩⟩⟩⟩⟩⟩⟩⟩⟩⟩⟩
theorem zdk_259_7 : zDc [o_getF zshp 115 9 0, o_bad, o_bad, o_getF zshp 118 3 4, o_bad, o_bad, o_iload 120 6, o_bad, o_aload 122 5, o_bad, o_getF zshp 125 3 4, o_bad, o_bad, o_iload 126 1, o_ald zshp 127 14, o_iload 128 2] := ⟨zdt_getF, ⟨zdt_bad, ⟨zdt_bad, ⟨zdt_getF, ⟨zdt_bad, ⟨zdt_bad, ⟨zdt_iload, ⟨zdt_bad, ⟨zdt_aload, ⟨zdt_bad, ⟨zdt_getF, ⟨zdt_bad, ⟨zdt_bad, ⟨zdt_iload, ⟨zdt_ald, ⟨zdt_iload, True.intro⟩⟩⟩⟩⟩⟩⟩⟩⟩⟩⟩⟩⟩⟩⟩⟩
theorem zdk_259_8 : zDc [o_inv zshp 131 260 2 99 1 2, o_bad, o_bad, o_iast zshp 132, o_aload 133 0, o_getF zshp 136 9 0, o_bad, o_bad, o_getF zshp 139 3 5, o_bad, o_bad, o_iload 141 6, o_bad, o_aload 143 5, o_bad, o_getF zshp 146 3 5] := ⟨(zdt_inv rfl), ⟨zdt_bad, ⟨zdt_bad, ⟨zdt_iast, ⟨zdt_aload, ⟨zdt_getF, ⟨zdt_bad, ⟨zdt_bad, ⟨zdt_getF, ⟨zdt_bad, ⟨zdt_bad, ⟨zdt_iload, ⟨zdt_bad, ⟨zdt_aload, ⟨zdt_bad, ⟨zdt_getF, True.intro⟩⟩⟩⟩⟩⟩⟩⟩⟩⟩⟩⟩⟩⟩⟩⟩
theorem zdk_259_9 : zDc [o_bad, o_bad, o_iload 147 1, o_ald zshp 148 14, o_iast zshp 149, o_aload 150 0, o_getF zshp 153 9 0, o_bad, o_bad, o_getF zshp 156 3 8, o_bad, o_bad, o_iload 158 6, o_bad, o_aload 160 5, o_bad] := ⟨zdt_bad, ⟨zdt_bad, ⟨zdt_iload, ⟨zdt_ald, ⟨zdt_iast, ⟨zdt_aload, ⟨zdt_getF, ⟨zdt_bad, ⟨zdt_bad, ⟨zdt_getF, ⟨zdt_bad, ⟨zdt_bad, ⟨zdt_iload, ⟨zdt_bad, ⟨zdt_aload, ⟨zdt_bad, True.intro⟩⟩⟩⟩⟩⟩⟩⟩⟩⟩⟩⟩⟩⟩⟩⟩
theorem zdk_259_10 : zDc [o_getF zshp 163 3 8, o_bad, o_bad, o_iload 164 1, o_ald zshp 165 14, o_iast zshp 166, o_ret] := ⟨zdt_getF, ⟨zdt_bad, ⟨zdt_bad, ⟨zdt_iload, ⟨zdt_ald, ⟨zdt_iast, ⟨zdt_ret, True.intro⟩⟩⟩⟩⟩⟩⟩
theorem zdk_259 : zDa k_259 := ⟨zdk_259_0, ⟨zdk_259_1, ⟨zdk_259_2, ⟨zdk_259_3, ⟨zdk_259_4, ⟨zdk_259_5, ⟨zdk_259_6, ⟨zdk_259_7, ⟨zdk_259_8, ⟨zdk_259_9, ⟨zdk_259_10, True.intro⟩⟩⟩⟩⟩⟩⟩⟩⟩⟩⟩
theorem zdk_260_0 : zDc [o_iload 1 0, o_inv zshp 4 34 1 99 1 1, o_bad, o_bad, o_ifeq 7 13, o_bad, o_bad, o_iload 8 0, o_iload 9 1, o_isub 10, o_goto 14, o_bad, o_bad, o_iload 14 0, o_iret] := ⟨zdt_iload, ⟨(zdt_inv rfl), ⟨zdt_bad, ⟨zdt_bad, ⟨zdt_ifeq, ⟨zdt_bad, ⟨zdt_bad, ⟨zdt_iload, ⟨zdt_iload, ⟨zdt_isub, ⟨zdt_goto, ⟨zdt_bad, ⟨zdt_bad, ⟨zdt_iload, ⟨zdt_iret, True.intro⟩⟩⟩⟩⟩⟩⟩⟩⟩⟩⟩⟩⟩⟩⟩
theorem zdk_260 : zDa k_260 := ⟨zdk_260_0, True.intro⟩
theorem zdk_278_0 : zDc [o_iload 1 0, o_iload 2 1, o_icmplt 5 9, o_bad, o_bad, o_iload 6 0, o_goto 10, o_bad, o_bad, o_iload 10 1, o_iret] := ⟨zdt_iload, ⟨zdt_iload, ⟨zdt_icmplt, ⟨zdt_bad, ⟨zdt_bad, ⟨zdt_iload, ⟨zdt_goto, ⟨zdt_bad, ⟨zdt_bad, ⟨zdt_iload, ⟨zdt_iret, True.intro⟩⟩⟩⟩⟩⟩⟩⟩⟩⟩⟩
theorem zdk_278 : zDa k_278 := ⟨zdk_278_0, True.intro⟩
theorem zdk_280_0 : zDc [o_iload 1 0, o_iload 2 1, o_icmpgt 5 9, o_bad, o_bad, o_iload 6 0, o_goto 10, o_bad, o_bad, o_iload 10 1, o_iret] := ⟨zdt_iload, ⟨zdt_iload, ⟨zdt_icmpgt, ⟨zdt_bad, ⟨zdt_bad, ⟨zdt_iload, ⟨zdt_goto, ⟨zdt_bad, ⟨zdt_bad, ⟨zdt_iload, ⟨zdt_iret, True.intro⟩⟩⟩⟩⟩⟩⟩⟩⟩⟩⟩
theorem zdk_280 : zDa k_280 := ⟨zdk_280_0, True.intro⟩
theorem zdk_287_0 : zDc [o_con 1 (vI 0), o_istore 2 2, o_aload 3 0, o_alen zshp 4 14, o_istore 5 3, o_iload 6 2, o_iload 7 3, o_icmpge 10 20, o_bad, o_bad, o_aload 11 0, o_iload 12 2, o_iload 13 1, o_iast zshp 14, o_iinc 17 2 1, o_bad] := ⟨zdt_con, ⟨zdt_istore, ⟨zdt_aload, ⟨zdt_alen, ⟨zdt_istore, ⟨zdt_iload, ⟨zdt_iload, ⟨zdt_icmpge, ⟨zdt_bad, ⟨zdt_bad, ⟨zdt_aload, ⟨zdt_iload, ⟨zdt_iload, ⟨zdt_iast, ⟨zdt_iinc, ⟨zdt_bad, True.intro⟩⟩⟩⟩⟩⟩⟩⟩⟩⟩⟩⟩⟩⟩⟩⟩
theorem zdk_287_1 : zDc [o_bad, o_goto 5, o_bad, o_bad, o_ret] := ⟨zdt_bad, ⟨zdt_goto, ⟨zdt_bad, ⟨zdt_bad, ⟨zdt_ret, True.intro⟩⟩⟩⟩⟩
theorem zdk_287 : zDa k_287 := ⟨zdk_287_0, ⟨zdk_287_1, True.intro⟩⟩
theorem dS_c {mi : Nat} (h : dS mi = true) : mi = 34 ∨ mi = 35 ∨ mi = 165 ∨ mi = 166 ∨ mi = 167 ∨ mi = 168 ∨ mi = 169 ∨ mi = 170 ∨ mi = 171 ∨ mi = 172 ∨ mi = 173 ∨ mi = 174 ∨ mi = 175 ∨ mi = 176 ∨ mi = 177 ∨ mi = 178 ∨ mi = 180 ∨ mi = 181 ∨ mi = 182 ∨ mi = 187 ∨ mi = 188 ∨ mi = 189 ∨ mi = 190 ∨ mi = 191 ∨ mi = 192 ∨ mi = 193 ∨ mi = 194 ∨ mi = 195 ∨ mi = 196 ∨ mi = 197 ∨ mi = 198 ∨ mi = 199 ∨ mi = 201 ∨ mi = 202 ∨ mi = 214 ∨ mi = 256 ∨ mi = 257 ∨ mi = 258 ∨ mi = 259 ∨ mi = 260 ∨ mi = 278 ∨ mi = 280 ∨ mi = 287 := by
  unfold dS at h
  simp only [List.elem_eq_mem, List.mem_cons, List.not_mem_nil, or_false, decide_eq_true_eq] at h
  omega
theorem dS_ok {mi : Nat} (h : dS mi = true) : ∀ pc : Nat, zDet (zget (zmt mi) pc o_bad) := by
  rcases dS_c h with e | e | e | e | e | e | e | e | e | e | e | e | e | e | e | e | e | e | e | e | e | e | e | e | e | e | e | e | e | e | e | e | e | e | e | e | e | e | e | e | e | e | e <;> subst e
  · exact fun pc => zDa_ok zdk_34 pc
  · exact fun pc => zDa_ok zdk_35 pc
  · exact fun pc => zDa_ok zdk_165 pc
  · exact fun pc => zDa_ok zdk_166 pc
  · exact fun pc => zDa_ok zdk_167 pc
  · exact fun pc => zDa_ok zdk_168 pc
  · exact fun pc => zDa_ok zdk_169 pc
  · exact fun pc => zDa_ok zdk_170 pc
  · exact fun pc => zDa_ok zdk_171 pc
  · exact fun pc => zDa_ok zdk_172 pc
  · exact fun pc => zDa_ok zdk_173 pc
  · exact fun pc => zDa_ok zdk_174 pc
  · exact fun pc => zDa_ok zdk_175 pc
  · exact fun pc => zDa_ok zdk_176 pc
  · exact fun pc => zDa_ok zdk_177 pc
  · exact fun pc => zDa_ok zdk_178 pc
  · exact fun pc => zDa_ok zdk_180 pc
  · exact fun pc => zDa_ok zdk_181 pc
  · exact fun pc => zDa_ok zdk_182 pc
  · exact fun pc => zDa_ok zdk_187 pc
  · exact fun pc => zDa_ok zdk_188 pc
  · exact fun pc => zDa_ok zdk_189 pc
  · exact fun pc => zDa_ok zdk_190 pc
  · exact fun pc => zDa_ok zdk_191 pc
  · exact fun pc => zDa_ok zdk_192 pc
  · exact fun pc => zDa_ok zdk_193 pc
  · exact fun pc => zDa_ok zdk_194 pc
  · exact fun pc => zDa_ok zdk_195 pc
  · exact fun pc => zDa_ok zdk_196 pc
  · exact fun pc => zDa_ok zdk_197 pc
  · exact fun pc => zDa_ok zdk_198 pc
  · exact fun pc => zDa_ok zdk_199 pc
  · exact fun pc => zDa_ok zdk_201 pc
  · exact fun pc => zDa_ok zdk_202 pc
  · exact fun pc => zDa_ok zdk_214 pc
  · exact fun pc => zDa_ok zdk_256 pc
  · exact fun pc => zDa_ok zdk_257 pc
  · exact fun pc => zDa_ok zdk_258 pc
  · exact fun pc => zDa_ok zdk_259 pc
  · exact fun pc => zDa_ok zdk_260 pc
  · exact fun pc => zDa_ok zdk_278 pc
  · exact fun pc => zDa_ok zdk_280 pc
  · exact fun pc => zDa_ok zdk_287 pc
theorem WP_mono {d mi uc us pc : Nat} {ls : zL} {st : List zV} {σ : zM} {Q0 Q : zQ} (h : WP d mi uc us pc ls st σ Q0) (hm : dS mi = true) (hQ : ∀ (σ : zM) (r : Option zV), Q0 σ r → Q σ r) : WP d mi uc us pc ls st σ Q := by
  refine h (fun d mi uc us pc ls st σ Q0 => dS mi = true → ∀ Q : zQ, (∀ (σ : zM) (r : Option zV), Q0 σ r → Q σ r) → WP d mi uc us pc ls st σ Q) (fun d mi uc us pc ls st σ Q0 hT hm Q hQ => ?_) hm Q hQ
  obtain ⟨call0, k0, h1, h2, h3⟩ := hT
  refine zW_step zmt zen ⟨zWc zmt zen d, fun uc us pc ls st σ => WP d mi uc us pc ls st σ Q, fun mj a σ' Q' hc => hc, fun _ _ _ _ _ _ hk => hk, ?_⟩
  refine dS_ok hm pc Empty call0 (zWc zmt zen d) k0 _ Q0 Q (fun i => nomatch i) (fun i => nomatch i) (fun i => nomatch i) uc us ls st σ ?_ (fun σ r a _ => hQ σ r a) ?_ h3 (fun i => nomatch i)
  · intro uc us pc ls st σ a _; exact h2 _ _ _ _ _ _ a hm Q hQ
  · intro mj hj a σ' Q0' QI' Q' a0 _ hh
    obtain ⟨d', e, x⟩ := h1 mj a σ' Q0' a0
    exact ⟨d', e, x hj Q' (fun σ r y => hh σ r y (fun i => nomatch i))⟩
theorem WP_inv {d mi uc us pc : Nat} {ls : zL} {st : List zV} {σ : zM} {Q : zQ} (h : WP d mi uc us pc ls st σ Q) (hm : dS mi = true) : zget (zmt mi) pc o_bad (zWc zmt zen d) (fun uc us pc ls st σ => WP d mi uc us pc ls st σ Q) Q uc us ls st σ := by
  refine h (fun d mi uc us pc ls st σ Q => dS mi = true → zget (zmt mi) pc o_bad (zWc zmt zen d) (fun uc us pc ls st σ => WP d mi uc us pc ls st σ Q) Q uc us ls st σ) (fun d mi uc us pc ls st σ Q hT hm => ?_) hm
  obtain ⟨call0, k0, h1, h2, h3⟩ := hT
  have up : ∀ (d mi uc us pc : Nat) (ls : zL) (st : List zV) (σ : zM) (Q : zQ), zget (zmt mi) pc o_bad (zWc zmt zen d) (fun uc us pc ls st σ => WP d mi uc us pc ls st σ Q) Q uc us ls st σ → WP d mi uc us pc ls st σ Q := fun d mi uc us pc ls st σ Q x => zW_step zmt zen ⟨zWc zmt zen d, fun uc us pc ls st σ => WP d mi uc us pc ls st σ Q, fun mj a σ' Q' hc => hc, fun _ _ _ _ _ _ hk => hk, x⟩
  refine dS_ok hm pc Empty call0 (zWc zmt zen d) k0 _ Q Q (fun i => nomatch i) (fun i => nomatch i) (fun i => nomatch i) uc us ls st σ ?_ (fun σ r a _ => a) ?_ h3 (fun i => nomatch i)
  · intro uc us pc ls st σ a _; exact up _ _ _ _ _ _ _ _ _ (h2 _ _ _ _ _ _ a hm)
  · intro mj hj a σ' Q0' QI' Q' a0 _ hh
    obtain ⟨d', e, x⟩ := h1 mj a σ' Q0' a0
    exact ⟨d', e, WP_mono (up _ _ _ _ _ _ _ _ _ (x hj)) hj (fun σ r y => hh σ r y (fun i => nomatch i))⟩
theorem WP_all {d mi uc us pc : Nat} {ls : zL} {st : List zV} {σ : zM} {Q0 : zQ} (h : WP d mi uc us pc ls st σ Q0) (hm : dS mi = true) {ι : Type} {QI : ι → zQ} {Q : zQ} (hI : ∀ i, WP d mi uc us pc ls st σ (QI i)) (hQ : ∀ (σ : zM) (r : Option zV), Q0 σ r → (∀ i, QI i σ r) → Q σ r) : WP d mi uc us pc ls st σ Q := by
  refine h (fun d mi uc us pc ls st σ Q0 => dS mi = true → ∀ (QI : ι → zQ) (Q : zQ), (∀ i, WP d mi uc us pc ls st σ (QI i)) → (∀ (σ : zM) (r : Option zV), Q0 σ r → (∀ i, QI i σ r) → Q σ r) → WP d mi uc us pc ls st σ Q) (fun d mi uc us pc ls st σ Q0 hT hm QI Q hI hQ => ?_) hm QI Q hI hQ
  obtain ⟨call0, k0, h1, h2, h3⟩ := hT
  refine zW_step zmt zen ⟨zWc zmt zen d, fun uc us pc ls st σ => WP d mi uc us pc ls st σ Q, fun mj a σ' Q' hc => hc, fun _ _ _ _ _ _ hk => hk, ?_⟩
  refine dS_ok hm pc ι call0 (zWc zmt zen d) k0 _ Q0 Q (fun _ => zWc zmt zen d) (fun i uc us pc ls st σ => WP d mi uc us pc ls st σ (QI i)) QI uc us ls st σ ?_ hQ ?_ h3 (fun i => WP_inv (hI i) hm)
  · intro uc us pc ls st σ a b; exact h2 _ _ _ _ _ _ a hm QI Q b hQ
  · intro mj hj a σ' Q0' QI' Q' a0 aI hh
    obtain ⟨d', e, x⟩ := h1 mj a σ' Q0' a0
    refine ⟨d', e, x hj QI' Q' (fun i => ?_) hh⟩
    obtain ⟨d2, e', y⟩ := aI i
    have ee : d2 = d' := by omega
    rw [ee] at y
    exact y
/-- of a call with an end, all postconditions at once -/
theorem WC_all {d mj : Nat} {a : List zV} {σ : zM} {Q0 : zQ} (hm : dS mj = true) (h : WC d mj a σ Q0) {ι : Type} {QI : ι → zQ} {Q : zQ} (hI : ∀ i, WC d mj a σ (QI i)) (hQ : ∀ (σ : zM) (r : Option zV), Q0 σ r → (∀ i, QI i σ r) → Q σ r) : WC d mj a σ Q := by
  obtain ⟨d', e, x⟩ := h
  refine ⟨d', e, WP_all x hm (fun i => ?_) hQ⟩
  obtain ⟨d2, e', y⟩ := hI i
  have ee : d2 = d' := by omega
  rw [ee] at y
  exact y
