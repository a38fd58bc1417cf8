/-! WHAT THE CONSTRUCTORS MAKE, in slots -/
def Ct : List Nat := [3, 6, 18, 34, 42, 53, 62, 66, 86, 94, 106, 170]
def OkA (u : xMem) (act : (Nat × List Value × List Value × xMem) ⊕ ((Nat × List Value × Nat × List Value × List Value × xMem) ⊕ (Option Value × xMem))) : Prop := match act with
  | .inl (_, _, _, u1) => xS u1 + 2000 * xT u ≤ xS u + 2000 * xT u1
  | .inr (.inl (m', _, _, _, _, u1)) => u1 = u ∧ m' ∈ Ct
  | .inr (.inr (_, u1)) => u1 = u
def OkC (op : xOp) : Prop := ∀ (ls st : List Value) (u : xMem) (act), op ls st u = some act → OkA u act
theorem okc_oNo  : OkC (oNo ) := by
  intro ls st u act h
  unfold oNo at h
  repeat' split at h
  all_goals first | (cases h; done) | (simp only [xgo, xcal, xend, Option.some.injEq] at h; subst h; first | exact Nat.le_refl _ | rfl)
theorem okc_oAl (i nx : Nat) : OkC (oAl i nx) := by
  intro ls st u act h
  unfold oAl at h
  repeat' split at h
  all_goals first | (cases h; done) | (simp only [xgo, xcal, xend, Option.some.injEq] at h; subst h; first | exact Nat.le_refl _ | rfl)
theorem okc_oIl (i nx : Nat) : OkC (oIl i nx) := by
  intro ls st u act h
  unfold oIl at h
  repeat' split at h
  all_goals first | (cases h; done) | (simp only [xgo, xcal, xend, Option.some.injEq] at h; subst h; first | exact Nat.le_refl _ | rfl)
theorem okc_oObj (nx : Nat) : OkC (oObj nx) := by
  intro ls st u act h
  unfold oObj at h
  repeat' split at h
  all_goals first | (cases h; done) | (simp only [xgo, xcal, xend, Option.some.injEq] at h; subst h; first | exact Nat.le_refl _ | rfl)
theorem okc_oI (v : Int32) (nx : Nat) : OkC (oI v nx) := by
  intro ls st u act h
  unfold oI at h
  repeat' split at h
  all_goals first | (cases h; done) | (simp only [xgo, xcal, xend, Option.some.injEq] at h; subst h; first | exact Nat.le_refl _ | rfl)
theorem okc_oPR (ci k nx : Nat) : OkC (oPR ci k nx) := by
  intro ls st u act h
  unfold oPR at h
  repeat' split at h
  all_goals first | (cases h; done) | (simp only [xgo, xcal, xend, Option.some.injEq] at h; subst h; first | exact Nat.le_refl _ | rfl)
theorem okc_oPI (ci k nx : Nat) : OkC (oPI ci k nx) := by
  intro ls st u act h
  unfold oPI at h
  repeat' split at h
  all_goals first | (cases h; done) | (simp only [xgo, xcal, xend, Option.some.injEq] at h; subst h; first | exact Nat.le_refl _ | rfl)
theorem okc_oIs (i nx : Nat) : OkC (oIs i nx) := by
  intro ls st u act h
  unfold oIs at h
  repeat' split at h
  all_goals first | (cases h; done) | (simp only [xgo, xcal, xend, Option.some.injEq] at h; subst h; first | exact Nat.le_refl _ | rfl)
theorem okc_oCmp (c : Int32 → Int32 → Bool) (t nx : Nat) : OkC (oCmp c t nx) := by
  intro ls st u act h
  unfold oCmp at h
  repeat' split at h
  all_goals first | (cases h; done) | (simp only [xgo, xcal, xend, Option.some.injEq] at h; subst h; first | exact Nat.le_refl _ | rfl)
theorem okc_oGR (ci k nx : Nat) : OkC (oGR ci k nx) := by
  intro ls st u act h
  unfold oGR at h
  repeat' split at h
  all_goals first | (cases h; done) | (simp only [xgo, xcal, xend, Option.some.injEq] at h; subst h; first | exact Nat.le_refl _ | rfl)
theorem okc_oDup (nx : Nat) : OkC (oDup nx) := by
  intro ls st u act h
  unfold oDup at h
  repeat' split at h
  all_goals first | (cases h; done) | (simp only [xgo, xcal, xend, Option.some.injEq] at h; subst h; first | exact Nat.le_refl _ | rfl)
theorem okc_oStR (nx : Nat) : OkC (oStR nx) := by
  intro ls st u act h
  unfold oStR at h
  repeat' split at h
  all_goals first | (cases h; done) | (simp only [xgo, xcal, xend, Option.some.injEq] at h; subst h; first | exact Nat.le_refl _ | rfl)
theorem okc_oInc (i : Nat) (v : Int32) (nx : Nat) : OkC (oInc i v nx) := by
  intro ls st u act h
  unfold oInc at h
  repeat' split at h
  all_goals first | (cases h; done) | (simp only [xgo, xcal, xend, Option.some.injEq] at h; subst h; first | exact Nat.le_refl _ | rfl)
theorem okc_oGoto (t : Nat) : OkC (oGoto t) := by
  intro ls st u act h
  unfold oGoto at h
  repeat' split at h
  all_goals first | (cases h; done) | (simp only [xgo, xcal, xend, Option.some.injEq] at h; subst h; first | exact Nat.le_refl _ | rfl)
theorem okc_oRv (nx : Nat) : OkC (oRv nx) := by
  intro ls st u act h
  unfold oRv at h
  repeat' split at h
  all_goals first | (cases h; done) | (simp only [xgo, xcal, xend, Option.some.injEq] at h; subst h; first | exact Nat.le_refl _ | rfl)
theorem okc_oNew {ci n nx : Nat} (hn : n ≤ 2000) : OkC (oNew ci n nx) := by
  intro ls st u act h
  unfold oNew at h
  split at h
  · simp only [xgo, Option.some.injEq] at h
    subst h
    show xS u + n + 2000 * xT u ≤ xS u + 2000 * (xT u + 1)
    omega
  · cases h
theorem okc_oNewA {kd nx : Nat} : OkC (oNewA kd nx) := by
  intro ls st u act h
  unfold oNewA at h
  split at h
  · split at h
    next n r ha =>
      simp only [xgo, Option.some.injEq] at h
      subst h
      have h2 := Int32.le_iff_toInt_le.mp ha.2.2
      have e : (2000 : Int32).toInt = 2000 := rfl
      have e2 : n.toNatClampNeg = n.toInt.toNat := rfl
      show xS u + n.toNatClampNeg + 2000 * xT u ≤ xS u + 2000 * (xT u + 1)
      omega
    next => cases h
  · cases h
theorem okc_oCalV {ci m n nx : Nat} (hm : m ∈ Ct) : OkC (oCalV ci m n nx) := by
  intro ls st u act h
  unfold oCalV at h
  repeat' split at h
  all_goals first | (cases h; done) | (simp only [xcal, Option.some.injEq] at h; subst h; exact ⟨rfl, hm⟩)
theorem lk_in {k : Nat} {o : xOp} : ∀ {L : List (Nat × xOp)}, L.lookup k = some o → (k, o) ∈ L
  | [], h => by cases h
  | (a, b) :: L, h => by
    rw [List.lookup_cons] at h
    by_cases e : k = a
    · subst e
      rw [beq_self_eq_true] at h
      cases h
      exact List.mem_cons_self
    · rw [beq_false_of_ne e] at h
      exact List.mem_cons_of_mem _ (lk_in h)
theorem okc_lk {L : List (Nat × xOp)} (h : ∀ q ∈ L, OkC q.2) (pc : Nat) : OkC ((L.lookup pc).getD oNo) := by
  cases e : L.lookup pc with
  | none => exact okc_oNo
  | some o => exact h _ (lk_in e)
theorem oc3_0 : ∀ q ∈ tc3_0, OkC q.2 := List.forall_mem_cons.mpr ⟨okc_oAl _ _, List.forall_mem_cons.mpr ⟨okc_oObj _, List.forall_mem_cons.mpr ⟨okc_oAl _ _, List.forall_mem_cons.mpr ⟨okc_oI _ _, List.forall_mem_cons.mpr ⟨okc_oNewA, List.forall_mem_cons.mpr ⟨okc_oPR _ _ _, List.forall_mem_cons.mpr ⟨okc_oAl _ _, List.forall_mem_cons.mpr ⟨okc_oI _ _, List.forall_mem_cons.mpr ⟨okc_oNewA, List.forall_mem_cons.mpr ⟨okc_oPR _ _ _, List.forall_mem_cons.mpr ⟨okc_oAl _ _, List.forall_mem_cons.mpr ⟨okc_oI _ _, List.forall_mem_cons.mpr ⟨okc_oNewA, List.forall_mem_cons.mpr ⟨okc_oPR _ _ _, List.forall_mem_cons.mpr ⟨okc_oRv 0, fun _ h => by cases h⟩⟩⟩⟩⟩⟩⟩⟩⟩⟩⟩⟩⟩⟩⟩
theorem om3 (pc : Nat) : OkC (xcd 3 pc) := okc_lk (oc3_0) pc
theorem oc6_0 : ∀ q ∈ tc6_0, OkC q.2 := List.forall_mem_cons.mpr ⟨okc_oAl _ _, List.forall_mem_cons.mpr ⟨okc_oObj _, List.forall_mem_cons.mpr ⟨okc_oAl _ _, List.forall_mem_cons.mpr ⟨okc_oI _ _, List.forall_mem_cons.mpr ⟨okc_oNewA, List.forall_mem_cons.mpr ⟨okc_oPR _ _ _, List.forall_mem_cons.mpr ⟨okc_oAl _ _, List.forall_mem_cons.mpr ⟨okc_oI _ _, List.forall_mem_cons.mpr ⟨okc_oNewA, List.forall_mem_cons.mpr ⟨okc_oPR _ _ _, List.forall_mem_cons.mpr ⟨okc_oAl _ _, List.forall_mem_cons.mpr ⟨okc_oI _ _, List.forall_mem_cons.mpr ⟨okc_oNewA, List.forall_mem_cons.mpr ⟨okc_oPR _ _ _, List.forall_mem_cons.mpr ⟨okc_oAl _ _, List.forall_mem_cons.mpr ⟨okc_oI _ _, List.forall_mem_cons.mpr ⟨okc_oNewA, List.forall_mem_cons.mpr ⟨okc_oPR _ _ _, List.forall_mem_cons.mpr ⟨okc_oAl _ _, List.forall_mem_cons.mpr ⟨okc_oI _ _, List.forall_mem_cons.mpr ⟨okc_oNewA, List.forall_mem_cons.mpr ⟨okc_oPR _ _ _, List.forall_mem_cons.mpr ⟨okc_oAl _ _, List.forall_mem_cons.mpr ⟨okc_oI _ _, List.forall_mem_cons.mpr ⟨okc_oNewA, List.forall_mem_cons.mpr ⟨okc_oPR _ _ _, List.forall_mem_cons.mpr ⟨okc_oI _ _, List.forall_mem_cons.mpr ⟨okc_oIs _ _, List.forall_mem_cons.mpr ⟨okc_oIl _ _, List.forall_mem_cons.mpr ⟨okc_oI _ _, fun _ h => by cases h⟩⟩⟩⟩⟩⟩⟩⟩⟩⟩⟩⟩⟩⟩⟩⟩⟩⟩⟩⟩⟩⟩⟩⟩⟩⟩⟩⟩⟩⟩
theorem oc6_1 : ∀ q ∈ tc6_1, OkC q.2 := List.forall_mem_cons.mpr ⟨okc_oCmp _ _ _, List.forall_mem_cons.mpr ⟨okc_oAl _ _, List.forall_mem_cons.mpr ⟨okc_oGR _ _ _, List.forall_mem_cons.mpr ⟨okc_oIl _ _, List.forall_mem_cons.mpr ⟨okc_oNew (by decide), List.forall_mem_cons.mpr ⟨okc_oDup _, List.forall_mem_cons.mpr ⟨okc_oCalV (by decide), List.forall_mem_cons.mpr ⟨okc_oStR _, List.forall_mem_cons.mpr ⟨okc_oInc _ _ _, List.forall_mem_cons.mpr ⟨okc_oGoto _, List.forall_mem_cons.mpr ⟨okc_oRv 0, fun _ h => by cases h⟩⟩⟩⟩⟩⟩⟩⟩⟩⟩⟩
theorem om6 (pc : Nat) : OkC (xcd 6 pc) := okc_lk (List.forall_mem_append.mpr ⟨oc6_0, oc6_1⟩) pc
theorem oc18_0 : ∀ q ∈ tc18_0, OkC q.2 := List.forall_mem_cons.mpr ⟨okc_oAl _ _, List.forall_mem_cons.mpr ⟨okc_oObj _, List.forall_mem_cons.mpr ⟨okc_oAl _ _, List.forall_mem_cons.mpr ⟨okc_oI _ _, List.forall_mem_cons.mpr ⟨okc_oNewA, List.forall_mem_cons.mpr ⟨okc_oPR _ _ _, List.forall_mem_cons.mpr ⟨okc_oAl _ _, List.forall_mem_cons.mpr ⟨okc_oI _ _, List.forall_mem_cons.mpr ⟨okc_oNewA, List.forall_mem_cons.mpr ⟨okc_oPR _ _ _, List.forall_mem_cons.mpr ⟨okc_oAl _ _, List.forall_mem_cons.mpr ⟨okc_oI _ _, List.forall_mem_cons.mpr ⟨okc_oNewA, List.forall_mem_cons.mpr ⟨okc_oPR _ _ _, List.forall_mem_cons.mpr ⟨okc_oAl _ _, List.forall_mem_cons.mpr ⟨okc_oI _ _, List.forall_mem_cons.mpr ⟨okc_oNewA, List.forall_mem_cons.mpr ⟨okc_oPR _ _ _, List.forall_mem_cons.mpr ⟨okc_oAl _ _, List.forall_mem_cons.mpr ⟨okc_oI _ _, List.forall_mem_cons.mpr ⟨okc_oNewA, List.forall_mem_cons.mpr ⟨okc_oPR _ _ _, List.forall_mem_cons.mpr ⟨okc_oRv 0, fun _ h => by cases h⟩⟩⟩⟩⟩⟩⟩⟩⟩⟩⟩⟩⟩⟩⟩⟩⟩⟩⟩⟩⟩⟩⟩
theorem om18 (pc : Nat) : OkC (xcd 18 pc) := okc_lk (oc18_0) pc
theorem oc34_0 : ∀ q ∈ tc34_0, OkC q.2 := List.forall_mem_cons.mpr ⟨okc_oAl _ _, List.forall_mem_cons.mpr ⟨okc_oObj _, List.forall_mem_cons.mpr ⟨okc_oAl _ _, List.forall_mem_cons.mpr ⟨okc_oNew (by decide), List.forall_mem_cons.mpr ⟨okc_oDup _, List.forall_mem_cons.mpr ⟨okc_oCalV (by decide), List.forall_mem_cons.mpr ⟨okc_oPR _ _ _, List.forall_mem_cons.mpr ⟨okc_oAl _ _, List.forall_mem_cons.mpr ⟨okc_oNew (by decide), List.forall_mem_cons.mpr ⟨okc_oDup _, List.forall_mem_cons.mpr ⟨okc_oCalV (by decide), List.forall_mem_cons.mpr ⟨okc_oPR _ _ _, List.forall_mem_cons.mpr ⟨okc_oAl _ _, List.forall_mem_cons.mpr ⟨okc_oI _ _, List.forall_mem_cons.mpr ⟨okc_oNewA, List.forall_mem_cons.mpr ⟨okc_oPR _ _ _, List.forall_mem_cons.mpr ⟨okc_oRv 0, fun _ h => by cases h⟩⟩⟩⟩⟩⟩⟩⟩⟩⟩⟩⟩⟩⟩⟩⟩⟩
theorem om34 (pc : Nat) : OkC (xcd 34 pc) := okc_lk (oc34_0) pc
theorem oc42_0 : ∀ q ∈ tc42_0, OkC q.2 := List.forall_mem_cons.mpr ⟨okc_oAl _ _, List.forall_mem_cons.mpr ⟨okc_oObj _, List.forall_mem_cons.mpr ⟨okc_oAl _ _, List.forall_mem_cons.mpr ⟨okc_oI _ _, List.forall_mem_cons.mpr ⟨okc_oNewA, List.forall_mem_cons.mpr ⟨okc_oPR _ _ _, List.forall_mem_cons.mpr ⟨okc_oAl _ _, List.forall_mem_cons.mpr ⟨okc_oI _ _, List.forall_mem_cons.mpr ⟨okc_oNewA, List.forall_mem_cons.mpr ⟨okc_oPR _ _ _, List.forall_mem_cons.mpr ⟨okc_oAl _ _, List.forall_mem_cons.mpr ⟨okc_oNew (by decide), List.forall_mem_cons.mpr ⟨okc_oDup _, List.forall_mem_cons.mpr ⟨okc_oCalV (by decide), List.forall_mem_cons.mpr ⟨okc_oPR _ _ _, List.forall_mem_cons.mpr ⟨okc_oAl _ _, List.forall_mem_cons.mpr ⟨okc_oI _ _, List.forall_mem_cons.mpr ⟨okc_oNewA, List.forall_mem_cons.mpr ⟨okc_oPR _ _ _, List.forall_mem_cons.mpr ⟨okc_oAl _ _, List.forall_mem_cons.mpr ⟨okc_oI _ _, List.forall_mem_cons.mpr ⟨okc_oNewA, List.forall_mem_cons.mpr ⟨okc_oPR _ _ _, List.forall_mem_cons.mpr ⟨okc_oRv 0, fun _ h => by cases h⟩⟩⟩⟩⟩⟩⟩⟩⟩⟩⟩⟩⟩⟩⟩⟩⟩⟩⟩⟩⟩⟩⟩⟩
theorem om42 (pc : Nat) : OkC (xcd 42 pc) := okc_lk (oc42_0) pc
theorem oc53_0 : ∀ q ∈ tc53_0, OkC q.2 := List.forall_mem_cons.mpr ⟨okc_oAl _ _, List.forall_mem_cons.mpr ⟨okc_oObj _, List.forall_mem_cons.mpr ⟨okc_oAl _ _, List.forall_mem_cons.mpr ⟨okc_oI _ _, List.forall_mem_cons.mpr ⟨okc_oPI _ _ _, List.forall_mem_cons.mpr ⟨okc_oAl _ _, List.forall_mem_cons.mpr ⟨okc_oI _ _, List.forall_mem_cons.mpr ⟨okc_oNewA, List.forall_mem_cons.mpr ⟨okc_oPR _ _ _, List.forall_mem_cons.mpr ⟨okc_oAl _ _, List.forall_mem_cons.mpr ⟨okc_oI _ _, List.forall_mem_cons.mpr ⟨okc_oNewA, List.forall_mem_cons.mpr ⟨okc_oPR _ _ _, List.forall_mem_cons.mpr ⟨okc_oAl _ _, List.forall_mem_cons.mpr ⟨okc_oI _ _, List.forall_mem_cons.mpr ⟨okc_oNewA, List.forall_mem_cons.mpr ⟨okc_oPR _ _ _, List.forall_mem_cons.mpr ⟨okc_oAl _ _, List.forall_mem_cons.mpr ⟨okc_oI _ _, List.forall_mem_cons.mpr ⟨okc_oNewA, List.forall_mem_cons.mpr ⟨okc_oPR _ _ _, List.forall_mem_cons.mpr ⟨okc_oRv 0, fun _ h => by cases h⟩⟩⟩⟩⟩⟩⟩⟩⟩⟩⟩⟩⟩⟩⟩⟩⟩⟩⟩⟩⟩⟩
theorem om53 (pc : Nat) : OkC (xcd 53 pc) := okc_lk (oc53_0) pc
theorem oc62_0 : ∀ q ∈ tc62_0, OkC q.2 := List.forall_mem_cons.mpr ⟨okc_oAl _ _, List.forall_mem_cons.mpr ⟨okc_oObj _, List.forall_mem_cons.mpr ⟨okc_oAl _ _, List.forall_mem_cons.mpr ⟨okc_oI _ _, List.forall_mem_cons.mpr ⟨okc_oNewA, List.forall_mem_cons.mpr ⟨okc_oPR _ _ _, List.forall_mem_cons.mpr ⟨okc_oAl _ _, List.forall_mem_cons.mpr ⟨okc_oI _ _, List.forall_mem_cons.mpr ⟨okc_oNewA, List.forall_mem_cons.mpr ⟨okc_oPR _ _ _, List.forall_mem_cons.mpr ⟨okc_oAl _ _, List.forall_mem_cons.mpr ⟨okc_oI _ _, List.forall_mem_cons.mpr ⟨okc_oNewA, List.forall_mem_cons.mpr ⟨okc_oPR _ _ _, List.forall_mem_cons.mpr ⟨okc_oAl _ _, List.forall_mem_cons.mpr ⟨okc_oI _ _, List.forall_mem_cons.mpr ⟨okc_oNewA, List.forall_mem_cons.mpr ⟨okc_oPR _ _ _, List.forall_mem_cons.mpr ⟨okc_oRv 0, fun _ h => by cases h⟩⟩⟩⟩⟩⟩⟩⟩⟩⟩⟩⟩⟩⟩⟩⟩⟩⟩⟩
theorem om62 (pc : Nat) : OkC (xcd 62 pc) := okc_lk (oc62_0) pc
theorem oc66_0 : ∀ q ∈ tc66_0, OkC q.2 := List.forall_mem_cons.mpr ⟨okc_oAl _ _, List.forall_mem_cons.mpr ⟨okc_oObj _, List.forall_mem_cons.mpr ⟨okc_oAl _ _, List.forall_mem_cons.mpr ⟨okc_oNew (by decide), List.forall_mem_cons.mpr ⟨okc_oDup _, List.forall_mem_cons.mpr ⟨okc_oCalV (by decide), List.forall_mem_cons.mpr ⟨okc_oPR _ _ _, List.forall_mem_cons.mpr ⟨okc_oAl _ _, List.forall_mem_cons.mpr ⟨okc_oI _ _, List.forall_mem_cons.mpr ⟨okc_oNewA, List.forall_mem_cons.mpr ⟨okc_oPR _ _ _, List.forall_mem_cons.mpr ⟨okc_oAl _ _, List.forall_mem_cons.mpr ⟨okc_oI _ _, List.forall_mem_cons.mpr ⟨okc_oNewA, List.forall_mem_cons.mpr ⟨okc_oPR _ _ _, List.forall_mem_cons.mpr ⟨okc_oAl _ _, List.forall_mem_cons.mpr ⟨okc_oNew (by decide), List.forall_mem_cons.mpr ⟨okc_oDup _, List.forall_mem_cons.mpr ⟨okc_oCalV (by decide), List.forall_mem_cons.mpr ⟨okc_oPR _ _ _, List.forall_mem_cons.mpr ⟨okc_oRv 0, fun _ h => by cases h⟩⟩⟩⟩⟩⟩⟩⟩⟩⟩⟩⟩⟩⟩⟩⟩⟩⟩⟩⟩⟩
theorem om66 (pc : Nat) : OkC (xcd 66 pc) := okc_lk (oc66_0) pc
theorem oc86_0 : ∀ q ∈ tc86_0, OkC q.2 := List.forall_mem_cons.mpr ⟨okc_oAl _ _, List.forall_mem_cons.mpr ⟨okc_oObj _, List.forall_mem_cons.mpr ⟨okc_oAl _ _, List.forall_mem_cons.mpr ⟨okc_oI _ _, List.forall_mem_cons.mpr ⟨okc_oNewA, List.forall_mem_cons.mpr ⟨okc_oPR _ _ _, List.forall_mem_cons.mpr ⟨okc_oRv 0, fun _ h => by cases h⟩⟩⟩⟩⟩⟩⟩
theorem om86 (pc : Nat) : OkC (xcd 86 pc) := okc_lk (oc86_0) pc
theorem oc94_0 : ∀ q ∈ tc94_0, OkC q.2 := List.forall_mem_cons.mpr ⟨okc_oAl _ _, List.forall_mem_cons.mpr ⟨okc_oObj _, List.forall_mem_cons.mpr ⟨okc_oAl _ _, List.forall_mem_cons.mpr ⟨okc_oI _ _, List.forall_mem_cons.mpr ⟨okc_oNewA, List.forall_mem_cons.mpr ⟨okc_oPR _ _ _, List.forall_mem_cons.mpr ⟨okc_oAl _ _, List.forall_mem_cons.mpr ⟨okc_oNew (by decide), List.forall_mem_cons.mpr ⟨okc_oDup _, List.forall_mem_cons.mpr ⟨okc_oCalV (by decide), List.forall_mem_cons.mpr ⟨okc_oPR _ _ _, List.forall_mem_cons.mpr ⟨okc_oAl _ _, List.forall_mem_cons.mpr ⟨okc_oI _ _, List.forall_mem_cons.mpr ⟨okc_oNewA, List.forall_mem_cons.mpr ⟨okc_oPR _ _ _, List.forall_mem_cons.mpr ⟨okc_oAl _ _, List.forall_mem_cons.mpr ⟨okc_oI _ _, List.forall_mem_cons.mpr ⟨okc_oNewA, List.forall_mem_cons.mpr ⟨okc_oPR _ _ _, List.forall_mem_cons.mpr ⟨okc_oAl _ _, List.forall_mem_cons.mpr ⟨okc_oI _ _, List.forall_mem_cons.mpr ⟨okc_oNewA, List.forall_mem_cons.mpr ⟨okc_oPR _ _ _, List.forall_mem_cons.mpr ⟨okc_oAl _ _, List.forall_mem_cons.mpr ⟨okc_oI _ _, List.forall_mem_cons.mpr ⟨okc_oNewA, List.forall_mem_cons.mpr ⟨okc_oPR _ _ _, List.forall_mem_cons.mpr ⟨okc_oAl _ _, List.forall_mem_cons.mpr ⟨okc_oI _ _, List.forall_mem_cons.mpr ⟨okc_oNewA, fun _ h => by cases h⟩⟩⟩⟩⟩⟩⟩⟩⟩⟩⟩⟩⟩⟩⟩⟩⟩⟩⟩⟩⟩⟩⟩⟩⟩⟩⟩⟩⟩⟩
theorem oc94_1 : ∀ q ∈ tc94_1, OkC q.2 := List.forall_mem_cons.mpr ⟨okc_oPR _ _ _, List.forall_mem_cons.mpr ⟨okc_oAl _ _, List.forall_mem_cons.mpr ⟨okc_oI _ _, List.forall_mem_cons.mpr ⟨okc_oNewA, List.forall_mem_cons.mpr ⟨okc_oPR _ _ _, List.forall_mem_cons.mpr ⟨okc_oAl _ _, List.forall_mem_cons.mpr ⟨okc_oI _ _, List.forall_mem_cons.mpr ⟨okc_oNewA, List.forall_mem_cons.mpr ⟨okc_oPR _ _ _, List.forall_mem_cons.mpr ⟨okc_oAl _ _, List.forall_mem_cons.mpr ⟨okc_oI _ _, List.forall_mem_cons.mpr ⟨okc_oNewA, List.forall_mem_cons.mpr ⟨okc_oPR _ _ _, List.forall_mem_cons.mpr ⟨okc_oRv 0, fun _ h => by cases h⟩⟩⟩⟩⟩⟩⟩⟩⟩⟩⟩⟩⟩⟩
theorem om94 (pc : Nat) : OkC (xcd 94 pc) := okc_lk (List.forall_mem_append.mpr ⟨oc94_0, oc94_1⟩) pc
theorem oc106_0 : ∀ q ∈ tc106_0, OkC q.2 := List.forall_mem_cons.mpr ⟨okc_oAl _ _, List.forall_mem_cons.mpr ⟨okc_oObj _, List.forall_mem_cons.mpr ⟨okc_oAl _ _, List.forall_mem_cons.mpr ⟨okc_oNew (by decide), List.forall_mem_cons.mpr ⟨okc_oDup _, List.forall_mem_cons.mpr ⟨okc_oCalV (by decide), List.forall_mem_cons.mpr ⟨okc_oPR _ _ _, List.forall_mem_cons.mpr ⟨okc_oAl _ _, List.forall_mem_cons.mpr ⟨okc_oNew (by decide), List.forall_mem_cons.mpr ⟨okc_oDup _, List.forall_mem_cons.mpr ⟨okc_oCalV (by decide), List.forall_mem_cons.mpr ⟨okc_oPR _ _ _, List.forall_mem_cons.mpr ⟨okc_oAl _ _, List.forall_mem_cons.mpr ⟨okc_oNew (by decide), List.forall_mem_cons.mpr ⟨okc_oDup _, List.forall_mem_cons.mpr ⟨okc_oCalV (by decide), List.forall_mem_cons.mpr ⟨okc_oPR _ _ _, List.forall_mem_cons.mpr ⟨okc_oAl _ _, List.forall_mem_cons.mpr ⟨okc_oNew (by decide), List.forall_mem_cons.mpr ⟨okc_oDup _, List.forall_mem_cons.mpr ⟨okc_oCalV (by decide), List.forall_mem_cons.mpr ⟨okc_oPR _ _ _, List.forall_mem_cons.mpr ⟨okc_oAl _ _, List.forall_mem_cons.mpr ⟨okc_oNew (by decide), List.forall_mem_cons.mpr ⟨okc_oDup _, List.forall_mem_cons.mpr ⟨okc_oCalV (by decide), List.forall_mem_cons.mpr ⟨okc_oPR _ _ _, List.forall_mem_cons.mpr ⟨okc_oRv 0, fun _ h => by cases h⟩⟩⟩⟩⟩⟩⟩⟩⟩⟩⟩⟩⟩⟩⟩⟩⟩⟩⟩⟩⟩⟩⟩⟩⟩⟩⟩⟩
theorem om106 (pc : Nat) : OkC (xcd 106 pc) := okc_lk (oc106_0) pc
theorem oc170_0 : ∀ q ∈ tc170_0, OkC q.2 := List.forall_mem_cons.mpr ⟨okc_oAl _ _, List.forall_mem_cons.mpr ⟨okc_oObj _, List.forall_mem_cons.mpr ⟨okc_oAl _ _, List.forall_mem_cons.mpr ⟨okc_oI _ _, List.forall_mem_cons.mpr ⟨okc_oPI _ _ _, List.forall_mem_cons.mpr ⟨okc_oAl _ _, List.forall_mem_cons.mpr ⟨okc_oI _ _, List.forall_mem_cons.mpr ⟨okc_oNewA, List.forall_mem_cons.mpr ⟨okc_oPR _ _ _, List.forall_mem_cons.mpr ⟨okc_oAl _ _, List.forall_mem_cons.mpr ⟨okc_oI _ _, List.forall_mem_cons.mpr ⟨okc_oNewA, List.forall_mem_cons.mpr ⟨okc_oPR _ _ _, List.forall_mem_cons.mpr ⟨okc_oAl _ _, List.forall_mem_cons.mpr ⟨okc_oI _ _, List.forall_mem_cons.mpr ⟨okc_oNewA, List.forall_mem_cons.mpr ⟨okc_oPR _ _ _, List.forall_mem_cons.mpr ⟨okc_oAl _ _, List.forall_mem_cons.mpr ⟨okc_oI _ _, List.forall_mem_cons.mpr ⟨okc_oNewA, List.forall_mem_cons.mpr ⟨okc_oPR _ _ _, List.forall_mem_cons.mpr ⟨okc_oAl _ _, List.forall_mem_cons.mpr ⟨okc_oI _ _, List.forall_mem_cons.mpr ⟨okc_oNewA, List.forall_mem_cons.mpr ⟨okc_oPR _ _ _, List.forall_mem_cons.mpr ⟨okc_oAl _ _, List.forall_mem_cons.mpr ⟨okc_oI _ _, List.forall_mem_cons.mpr ⟨okc_oNewA, List.forall_mem_cons.mpr ⟨okc_oPR _ _ _, List.forall_mem_cons.mpr ⟨okc_oAl _ _, fun _ h => by cases h⟩⟩⟩⟩⟩⟩⟩⟩⟩⟩⟩⟩⟩⟩⟩⟩⟩⟩⟩⟩⟩⟩⟩⟩⟩⟩⟩⟩⟩⟩
theorem oc170_1 : ∀ q ∈ tc170_1, OkC q.2 := List.forall_mem_cons.mpr ⟨okc_oI _ _, List.forall_mem_cons.mpr ⟨okc_oNewA, List.forall_mem_cons.mpr ⟨okc_oPR _ _ _, List.forall_mem_cons.mpr ⟨okc_oAl _ _, List.forall_mem_cons.mpr ⟨okc_oI _ _, List.forall_mem_cons.mpr ⟨okc_oNewA, List.forall_mem_cons.mpr ⟨okc_oPR _ _ _, List.forall_mem_cons.mpr ⟨okc_oAl _ _, List.forall_mem_cons.mpr ⟨okc_oI _ _, List.forall_mem_cons.mpr ⟨okc_oNewA, List.forall_mem_cons.mpr ⟨okc_oPR _ _ _, List.forall_mem_cons.mpr ⟨okc_oAl _ _, List.forall_mem_cons.mpr ⟨okc_oI _ _, List.forall_mem_cons.mpr ⟨okc_oNewA, List.forall_mem_cons.mpr ⟨okc_oPR _ _ _, List.forall_mem_cons.mpr ⟨okc_oAl _ _, List.forall_mem_cons.mpr ⟨okc_oI _ _, List.forall_mem_cons.mpr ⟨okc_oNewA, List.forall_mem_cons.mpr ⟨okc_oPR _ _ _, List.forall_mem_cons.mpr ⟨okc_oAl _ _, List.forall_mem_cons.mpr ⟨okc_oI _ _, List.forall_mem_cons.mpr ⟨okc_oNewA, List.forall_mem_cons.mpr ⟨okc_oPR _ _ _, List.forall_mem_cons.mpr ⟨okc_oAl _ _, List.forall_mem_cons.mpr ⟨okc_oI _ _, List.forall_mem_cons.mpr ⟨okc_oNewA, List.forall_mem_cons.mpr ⟨okc_oPR _ _ _, List.forall_mem_cons.mpr ⟨okc_oAl _ _, List.forall_mem_cons.mpr ⟨okc_oI _ _, List.forall_mem_cons.mpr ⟨okc_oNewA, fun _ h => by cases h⟩⟩⟩⟩⟩⟩⟩⟩⟩⟩⟩⟩⟩⟩⟩⟩⟩⟩⟩⟩⟩⟩⟩⟩⟩⟩⟩⟩⟩⟩
theorem oc170_2 : ∀ q ∈ tc170_2, OkC q.2 := List.forall_mem_cons.mpr ⟨okc_oPR _ _ _, List.forall_mem_cons.mpr ⟨okc_oAl _ _, List.forall_mem_cons.mpr ⟨okc_oI _ _, List.forall_mem_cons.mpr ⟨okc_oNewA, List.forall_mem_cons.mpr ⟨okc_oPR _ _ _, List.forall_mem_cons.mpr ⟨okc_oAl _ _, List.forall_mem_cons.mpr ⟨okc_oI _ _, List.forall_mem_cons.mpr ⟨okc_oNewA, List.forall_mem_cons.mpr ⟨okc_oPR _ _ _, List.forall_mem_cons.mpr ⟨okc_oRv 0, fun _ h => by cases h⟩⟩⟩⟩⟩⟩⟩⟩⟩⟩
theorem om170 (pc : Nat) : OkC (xcd 170 pc) := okc_lk (List.forall_mem_append.mpr ⟨List.forall_mem_append.mpr ⟨oc170_0, oc170_1⟩, oc170_2⟩) pc
theorem okm : ∀ m ∈ Ct, ∀ pc, OkC (xcd m pc) := List.forall_mem_cons.mpr ⟨om3, List.forall_mem_cons.mpr ⟨om6, List.forall_mem_cons.mpr ⟨om18, List.forall_mem_cons.mpr ⟨om34, List.forall_mem_cons.mpr ⟨om42, List.forall_mem_cons.mpr ⟨om53, List.forall_mem_cons.mpr ⟨om62, List.forall_mem_cons.mpr ⟨om66, List.forall_mem_cons.mpr ⟨om86, List.forall_mem_cons.mpr ⟨om94, List.forall_mem_cons.mpr ⟨om106, List.forall_mem_cons.mpr ⟨om170, fun _ h => by cases h⟩⟩⟩⟩⟩⟩⟩⟩⟩⟩⟩⟩
theorem ctor_S : ∀ (n m : Nat), m ∈ Ct → ∀ (pc : Nat) (ls st : List Value) (u : xMem) (r : Option Value) (u' : xMem), xex xcd xtb n m pc ls st u = some (r, u') → xS u' + 2000 * xT u ≤ xS u + 2000 * xT u' := by
  intro n
  induction n with
  | zero => intro m _ pc ls st u r u' h; cases h
  | succ n ih =>
    intro m hm pc ls st u r u' h
    unfold xex at h
    split at h
    · cases h
    · next pc1 ls1 st1 u1 hact =>
      have h0 : xS u1 + 2000 * xT u ≤ xS u + 2000 * xT u1 := okm m hm pc ls st u _ hact
      have h1 := ih m hm pc1 ls1 st1 u1 r u' h
      omega
    · next m' as pc1 ls1 st1 u1 hact =>
      obtain ⟨h0, h9⟩ : u1 = u ∧ m' ∈ Ct := okm m hm pc ls st u _ hact
      subst h0
      split at h
      next hfit =>
        split at h
        · cases h
        · next r1 u2 hin =>
          have h1 := ih m' h9 0 _ _ u1 r1 u2 hin
          have h2 := ih m hm pc1 ls1 _ u2 r u' h
          omega
      next => cases h
    · next r1 hact =>
      obtain ⟨rr, uu⟩ := r1
      have h0 : uu = u := okm m hm pc ls st u _ hact
      subst h0
      cases h
      exact Nat.le_refl _
