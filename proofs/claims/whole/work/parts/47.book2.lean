/-! THE BOOK: what is unpaid; filings -/
section
variable {u w : xMem} {P : Option Value → xMem → Prop} {n nf : Nat} {p c d x y e k : Int32}
/-- what is due by now of the lines up to a day -/
def fUd (u : xMem) (d p : Int32) : Nat → Int32 := sumIf (fun l => decide (xI u (69 + 5 * l) 0 ≤ d)) (lTo u p)
/-- less what was paid -/
def subN (a : Int32) (f : Nat → Int32) : Nat → Int32
  | 0 => a
  | k + 1 => subN a f k - f k
def fUp2 (u : xMem) (d p : Int32) (n nf : Nat) : Int32 := subN (fUd u d p n) (fPd u p) nf
theorem unpaid_run (h : sBk u 62) (hn : okL u n) (hf : xI u 62 2 = nI nf) (h12 : nf ≤ 12) : zr 15 0 [.ref 62, .int d, .int p, .null, .null] [] u P = P (some (.int (fUp2 u d p n nf))) u := by
  have h0 := h.1
  have lp2 : ∀ r i, i + r = nf → zr 15 51 [.ref 62, .int d, .int p, .int (subN (fUd u d p n) (fPd u p) i), .int (nI i)] [] u P = P (some (.int (fUp2 u d p n nf))) u := by
    intro r
    induction r with
    | zero =>
      intro i hi
      have : i = nf := by omega
      subst this
      rw [r15_51]
      simp only [r15_53, r15_54, r15_57, r15_76, r15_77, h0, hf, true_and, and_true, Option.some.injEq, exists_eq_left', Option.toList_some, Option.toList_none, List.cons_append, List.nil_append, xcat_nil, xcat_int, xcat_ref, xcat_long, not_true, not_false_iff, if_true, if_false, and_self, and_false, false_and, or_true, true_or, or_self, z01, z10, zle8, Nat.reduceAdd, Nat.reduceLeDiff]
      rw [if_pos (nI_le (Nat.le_refl _) (by omega))]
      rfl
    | succ r ih =>
      intro i hi
      have q0 : ¬ nI nf ≤ nI i := nI_ge (by omega) (by omega)
      have hp := fun P => paidBy_run (p := p) (P := P) h (f := i) (by omega)
      have ih := ih (i + 1) (by omega)
      simp only [subN] at ih
      rw [r15_51]
      simp only [r15_53, r15_54, r15_57, r15_60, r15_61, r15_62, r15_64, r15_65, r15_68, r15_69, r15_70, r15_73, h0, hf, hp, q0, nI_1, true_and, and_true, Option.some.injEq, exists_eq_left', Option.toList_some, Option.toList_none, List.cons_append, List.nil_append, xcat_nil, xcat_int, xcat_ref, xcat_long, not_true, not_false_iff, if_true, if_false, and_self, and_false, false_and, or_true, true_or, or_self, z01, z10, zle8, Nat.reduceAdd, Nat.reduceLeDiff]
      exact ih
  have lp : ∀ r i, i + r = n → zr 15 5 [.ref 62, .int d, .int p, .int (fUd u d p i), .int (nI i)] [] u P = P (some (.int (fUp2 u d p n nf))) u := by
    intro r
    have hh := h
    obtain ⟨h0, ⟨e1, -⟩, ⟨i1, n1⟩, -⟩ := hh
    induction r with
    | zero =>
      intro i hi
      have : i = n := by omega
      subst this
      rw [r15_5]
      simp only [r15_7, r15_8, r15_11, r15_48, r15_49, h0, hn.1.1, true_and, and_true, Option.some.injEq, exists_eq_left', Option.toList_some, Option.toList_none, List.cons_append, List.nil_append, xcat_nil, xcat_int, xcat_ref, xcat_long, not_true, not_false_iff, if_true, if_false, and_self, and_false, false_and, or_true, true_or, or_self, z01, z10, zle8, Nat.reduceAdd, Nat.reduceLeDiff]
      rw [if_pos (nI_le (Nat.le_refl _) (by have := hn.1.2; omega))]
      exact lp2 nf 0 (by omega)
    | succ r ih =>
      intro i hi
      have h40 := hn.1.2
      have q0 : ¬ nI n ≤ nI i := nI_ge (by omega) (by omega)
      have q1 : xinb (nI i) 40 := xinb_nI (by omega) (by omega)
      have q2 : xix (nI i) = i := xix_nI (by omega)
      obtain ⟨l1, l2⟩ := h.ln (l := i) (by omega)
      have hm := fun P => lTo_run (p := p) (P := P) h hn (l := i) (by omega)
      have ih := ih (i + 1) (by omega)
      simp only [fUd, sumIf, decide_eq_true_eq] at ih
      rw [r15_5]
      simp only [r15_7, r15_8, r15_11, r15_14, r15_15, r15_18, r15_20, r15_21, r15_24, r15_25, r15_28, r15_29, r15_30, r15_33, r15_35, r15_36, r15_37, r15_40, r15_41, r15_42, r15_45, h0, hn.1.1, e1, i1, n1, q0, q1, q2, l1, l2.1, hm, nI_1, fUd, true_and, and_true, Option.some.injEq, exists_eq_left', Option.toList_some, Option.toList_none, List.cons_append, List.nil_append, xcat_nil, xcat_int, xcat_ref, xcat_long, not_true, not_false_iff, if_true, if_false, and_self, and_false, false_and, or_true, true_or, or_self, z01, z10, zle8, Nat.reduceAdd, Nat.reduceLeDiff]
      by_cases c1 : xI u (69 + 5 * i) 0 ≤ d
      · simp only [eq_true c1, i32_nlt.mpr c1, true_and, and_true, Option.some.injEq, exists_eq_left', Option.toList_some, Option.toList_none, List.cons_append, List.nil_append, xcat_nil, xcat_int, xcat_ref, xcat_long, not_true, not_false_iff, if_true, if_false, and_self, and_false, false_and, or_true, true_or, or_self, z01, z10, zle8, Nat.reduceAdd, Nat.reduceLeDiff] at ih ⊢
        exact ih
      · simp only [c1, eq_true (i32_nle.mp c1), true_and, and_true, Option.some.injEq, exists_eq_left', Option.toList_some, Option.toList_none, List.cons_append, List.nil_append, xcat_nil, xcat_int, xcat_ref, xcat_long, not_true, not_false_iff, if_true, if_false, and_self, and_false, false_and, or_true, true_or, or_self, z01, z10, zle8, Nat.reduceAdd, Nat.reduceLeDiff] at ih ⊢
        exact ih
  simp only [r15_0, r15_1, r15_2, r15_3]
  exact lp n 0 (by omega)
theorem empty_run (h : xIs u 62 1) : zr 7 0 [.ref 62] [] u P = P none (xsI (xsI u 62 0 0) 62 2 0) := by
  simp only [r7_0, r7_1, r7_2, r7_5, r7_6, r7_7, r7_10, xIs_sI, h, true_and, and_true, Option.some.injEq, exists_eq_left', Option.toList_some, Option.toList_none, List.cons_append, List.nil_append, xcat_nil, xcat_int, xcat_ref, xcat_long, not_true, not_false_iff, if_true, if_false, and_self, and_false, false_and, or_true, true_or, or_self, z01, z10, zle8, Nat.reduceAdd, Nat.reduceLeDiff]
end
/-! ACTS -/
section
variable {u w : xMem} {P : Option Value → xMem → Prop} {n : Nat} {x y k : Int32}
/-- an act put at place n -/
def mAct (u : xMem) (n : Nat) (k x y : Int32) : xMem := xsI (xsI (xsI (xsI u 270 n k) 271 n x) 272 n y) 269 0 (nI (n + 1))
/-- the first act forgotten: the others move down -/
def mFg (u : xMem) : Nat → xMem
  | 0 => xsI u 269 0 7
  | i + 1 => xsI (xsI (xsI (mFg u i) 270 i (xI u 270 (i + 1))) 271 i (xI u 271 (i + 1))) 272 i (xI u 272 (i + 1))
theorem mFg_at (u : xMem) : ∀ i, (mFg u i).1 = u.1 ∧ (mFg u i).2.2 = u.2.2 ∧ xI (mFg u i) 269 0 = 7 ∧ (∀ b j, b ≠ 269 → b ≠ 270 → b ≠ 271 → b ≠ 272 → xI (mFg u i) b j = xI u b j) ∧ ∀ a, a = 270 ∨ a = 271 ∨ a = 272 → ∀ j, xI (mFg u i) a j = if j < i then xI u a (j + 1) else xI u a j := by
  intro i
  induction i with
  | zero =>
    refine ⟨rfl, rfl, by rw [mFg, xI_sI, if_pos ⟨rfl, rfl⟩], fun b j h _ _ _ => by rw [mFg, xI_sI, if_neg (fun q => h q.1)], fun a ha j => ?_⟩
    rw [mFg, xI_sI, if_neg (by omega), if_neg (by omega)]
  | succ i ih =>
    obtain ⟨g1, g2, g3, g4, g5⟩ := ih
    refine ⟨g1, g2, ?_, fun b j h0 h1 h2 h3 => ?_, fun a ha j => ?_⟩
    · simp only [mFg, xI_sI]
      simpa using g3
    · simp only [mFg, xI_sI, h1, h2, h3, false_and, if_false]
      exact g4 b j h0 h1 h2 h3
    · have g5 := g5 a ha j
      rcases ha with rfl | rfl | rfl <;> simp only [mFg, xI_sI] <;> by_cases hj : j = i
      all_goals first | (subst hj; simp; done) | (simp only [hj, and_false, if_false, Nat.reduceEqDiff, false_and]; rw [g5]; by_cases hl : j < i; (have : j < i + 1 := by omega); simp [hl, this]; (have : ¬ j < i + 1 := by omega); simp [hl, this])
end
