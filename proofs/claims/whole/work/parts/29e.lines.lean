/-! The lines of a run: one turn on both sides -/
section
variable {L : Nat → Int → Int} {o0 n0 o1 n1 nF : Int} {TO : Int → Int} {V0 mx0 : Int} {π e0 : Int → Int} {M σ : Nat → Int → Int}
theorem doesI (h : mRel L o0 n0 o1 n1 nF TO V0 mx0 π e0 M σ) (hl : M 101 12 < M 101 13) (hs : M 102 2 < 3000) {T : Nat → Int → Int} (h1 : does_f (zup σ 467 70 (σ 467 70 + 1)) (σ 511 (M 111 4)) = T) : astep σ = T := by
  rw [mRel_asline h hl hs, (mRel_in h).1]; exact h1
end
