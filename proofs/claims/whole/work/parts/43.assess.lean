/-! ASSESS: a line gets its parts -/
section
variable {u w : xMem} {P : Option Value → xMem → Prop} {D s nl np nb nc nr nh nk a : Nat} {c d x y : Int32}
/-- a line's parts out of a stack -/
def mParts (t nr nh nk : Nat) (u0 : xMem) (a : Nat) (c d e : Int32) (L : List Int32) (u : xMem) : Nat → xMem
  | 0 => u
  | k + 1 => mPart (mParts t nr nh nk u0 a c d e L u k) a k (L.getD k 0) (tRate u0 t nr (L.getD k 0) c d) (tCap u0 t nk (L.getD k 0) c) (bI (tFree u0 t nh (L.getD k 0) c d e))
/-- the cells of a line -/
def SLn (a : Nat) : Nat → Nat → Prop := fun b _ => a ≤ b ∧ b ≤ a + 4
theorem mPart_ag {n : Nat} {p r k f : Int32} : xag (SLn a) u (mPart u a n p r k f) := by
  unfold mPart
  exact ((((xag.sI (by unfold SLn; omega)).tr (xag.sI (by unfold SLn; omega))).tr (xag.sI (by unfold SLn; omega))).tr (xag.sI (by unfold SLn; omega))).tr (xag.sI (by unfold SLn; omega))
theorem mParts_ag {t : Nat} {u0 : xMem} {e : Int32} {L : List Int32} : ∀ k, xag (SLn a) u (mParts t nr nh nk u0 a c d e L u k) := by
  intro k
  induction k with
  | zero => exact xag.rf
  | succ k ih => exact ih.tr mPart_ag
end
