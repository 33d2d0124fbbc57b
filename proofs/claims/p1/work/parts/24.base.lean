/-! Rows for contracts: memory in a fixed order. -/
theorem WCn {d mj : Nat} {a : List zV} {σ : zM} {Q : zQ} {code : List (List zO)} {stops : List Nat} (hc : zmt mj = code) (h : ∀ (Q' : zQ), (∀ σ r, Q σ r → Q' σ r) → zB zmt zen stops code d mj Q' 100000 0 0 0 (zen mj a) [] σ) : WC (d + 1) mj a σ Q := ⟨d, rfl, zB_ok zmt zen hc 100000 (h Q (fun _ _ q => q))⟩
/-- a row as it is, but at one place -/
def zs (f : Int → Int) (k v : Int) : Int → Int := fun j => if j = k then v else f j
def zrow (M : Nat → Int → Int) (c : Nat) (f : Int → Int) : Nat → Int → Int := fun c' k => if c' = c then f k else M c' k
def zcpr (f g : Int → Int) (p q n : Int) : Int → Int := fun k => if p ≤ k ∧ k < p + n then g (q + (k - p)) else f k
theorem zs_pos {f : Int → Int} {k v j : Int} (h : j = k) : zs f k v j = v := if_pos h
theorem zs_neg {f : Int → Int} {k v j : Int} (h : ¬ j = k) : zs f k v j = f j := if_neg h
theorem zup_zup (M : Nat → Int → Int) (c : Nat) (k v w : Int) : zup (zup M c k v) c k w = zup M c k w := by
  funext c' k'; unfold zup; split <;> rfl
theorem zup_comm (M : Nat → Int → Int) {c c' : Nat} {k k' v v' : Int} (h : ¬ (c = c' ∧ k = k')) : zup (zup M c k v) c' k' v' = zup (zup M c' k' v') c k v := by
  funext a b; unfold zup; grind
theorem zup_comm_c (M : Nat → Int → Int) {c c' : Nat} {k k' v v' : Int} (h : ¬ c = c') : zup (zup M c k v) c' k' v' = zup (zup M c' k' v') c k v := zup_comm M (fun q => h q.1)
theorem zup_zrow (M : Nat → Int → Int) (c : Nat) (f : Int → Int) (k v : Int) : zup (zrow M c f) c k v = zrow M c (zs f k v) := by
  funext a b; unfold zup zrow zs; grind
theorem zup_zrow_ne (M : Nat → Int → Int) {c c' : Nat} {f : Int → Int} {k v : Int} (h : ¬ c' = c) : zup (zrow M c' f) c k v = zrow (zup M c k v) c' f := by
  funext a b; unfold zup zrow; grind
theorem zup_row (M : Nat → Int → Int) (c : Nat) (k v : Int) : zup M c k v = zrow M c (zs (M c) k v) := by
  funext a b; unfold zup zrow zs; grind
theorem zrow_comm (M : Nat → Int → Int) {c c' : Nat} {f g : Int → Int} (h : ¬ c = c') : zrow (zrow M c f) c' g = zrow (zrow M c' g) c f := by
  funext a b; unfold zrow; grind
theorem zrow_zrow (M : Nat → Int → Int) (c : Nat) (f g : Int → Int) : zrow (zrow M c f) c g = zrow M c g := by
  funext a b; unfold zrow; grind
theorem zrow_zup (M : Nat → Int → Int) {c c' : Nat} {k v : Int} {f : Int → Int} (h : ¬ c = c') : zrow (zup M c k v) c' f = zup (zrow M c' f) c k v := by
  funext a b; unfold zup zrow; grind
theorem zrow_self (M : Nat → Int → Int) (c : Nat) : zrow M c (M c) = M := by
  funext a b; unfold zrow; grind
theorem zup_self (M : Nat → Int → Int) (c : Nat) (k : Int) : zup M c k (M c k) = M := by
  funext a b; unfold zup; grind
theorem zcp_row (M : Nat → Int → Int) (a b : Nat) (p q n : Int) : zcp M a b p q n = zrow M a (zcpr (M a) (M b) p q n) := by
  funext c k; unfold zcp zrow zcpr; grind
theorem zupN_zupN (M : Nat → Nat → Nat) (c k v w : Nat) : zupN (zupN M c k v) c k w = zupN M c k w := by
  funext c' k'; unfold zupN; split <;> rfl
theorem zupN_comm (M : Nat → Nat → Nat) {c c' k k' v v' : Nat} (h : ¬ (c = c' ∧ k = k')) : zupN (zupN M c k v) c' k' v' = zupN (zupN M c' k' v') c k v := by
  funext a b; unfold zupN; grind
theorem zupN_self (M : Nat → Nat → Nat) (c k : Nat) : zupN M c k (M c k) = M := by
  funext a b; unfold zupN; grind
theorem eqWP {d mi uc us pc : Nat} {ls : zL} {st : List zV} {P P' : Nat → Nat → Nat} {M : Nat → Int → Int} {Q : zQ} (h : P = P') (q : WP d mi uc us pc ls st (zS P' M) Q) : WP d mi uc us pc ls st (zS P M) Q := h ▸ q
theorem eqC {d mi : Nat} {a : List zV} {P P' : Nat → Nat → Nat} {M M' : Nat → Int → Int} {Q : zQ} (h : P = P') (h' : M = M') (q : WC d mi a (zS P' M') Q) : WC d mi a (zS P M) Q := h ▸ h' ▸ q
theorem eqQ {P : Nat → Nat → Nat} {M M' : Nat → Int → Int} {r : Option zV} {Q : zQ} (h : M = M') (q : Q (zS P M') r) : Q (zS P M) r := h ▸ q
theorem eqR {σ : zM} {x y : Int} {Q : zQ} (h : x = y) (q : Q σ (some (vI y))) : Q σ (some (vI x)) := h ▸ q
theorem eqW {d mi uc us pc : Nat} {ls : zL} {st : List zV} {P : Nat → Nat → Nat} {M M' : Nat → Int → Int} {Q : zQ} (h : M = M') (q : WP d mi uc us pc ls st (zS P M') Q) : WP d mi uc us pc ls st (zS P M) Q := h ▸ q
theorem zcast {a b : Int} (p : Int → Prop) (e : a = b) (h : p b) : p a := e ▸ h
theorem w32_eq {x y : Int} (h : x = y ∧ -2147483648 ≤ x ∧ x < 2147483648) : w32 x = y := by
  unfold w32; omega
