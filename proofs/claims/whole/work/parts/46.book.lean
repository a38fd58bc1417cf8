/-! THE BOOK: reading -/
/-- how many parts line l has -/
def pn (u : xMem) (l : Nat) : Nat := xix (xI u (69 + 5 * l) 8)
def okL (u : xMem) (n : Nat) : Prop := (xI u 62 0 = nI n ∧ n ≤ 40) ∧ ∀ l, l < n → xI u (69 + 5 * l) 8 = nI (pn u l) ∧ pn u l ≤ 4
/-- what place p gets of line l; all with -1 -/
def lTo (u : xMem) (p : Int32) (l : Nat) : Int32 := fTx (xI u (69 + 5 * l + 1)) (lTax u (69 + 5 * l)) p (pn u l)
/-- a sum over those that are asked for -/
def sumIf (q : Nat → Bool) (f : Nat → Int32) : Nat → Int32
  | 0 => 0
  | k + 1 => if q k = true then sumIf q f k + f k else sumIf q f k
def anyR (q : Nat → Bool) : Nat → Nat → Bool
  | 0, _ => false
  | r + 1, i => q i || anyR q r (i + 1)
theorem sBk.ln {u : xMem} (h : sBk u 62) {l : Nat} (hl : l < 40) : xR u 63 l = some (69 + 5 * l) ∧ sLn u (69 + 5 * l) := h.2.2.2.2.2.2.2.2 l hl
section
variable {u w : xMem} {P : Option Value → xMem → Prop} {n nf : Nat} {p c d x y e k : Int32}
theorem lTo_run (h : sBk u 62) (hn : okL u n) {l : Nat} (hl : l < n) : zr 58 0 [.ref (69 + 5 * l), .int p, .null, .null] [] u P = P (some (.int (lTo u p l))) u :=
  taxOf_run (h.ln (by have := hn.1.2; omega)).2 (hn.2 l hl).1 (hn.2 l hl).2
theorem unitsLeft_run (h : sBk u 62) (hn : okL u n) : zr 8 0 [.ref 62, .null, .null] [] u P = P (some (.int (sumN (fun l => xI u (69 + 5 * l) 6) n))) u := by
  have lp : ∀ r i, i + r = n → zr 8 4 [.ref 62, .int (sumN (fun l => xI u (69 + 5 * l) 6) i), .int (nI i)] [] u P = P (some (.int (sumN (fun l => xI u (69 + 5 * l) 6) n))) u := by
    intro r
    have hh := h
    obtain ⟨h0, ⟨e1, -⟩, ⟨i1, n1⟩, -⟩ := hh
    induction r with
    | zero =>
      intro i hi
      have : i = n := by omega
      subst this
      rw [r8_4]
      simp only [r8_5, r8_6, r8_9, r8_30, r8_31, h0, hn.1.1, true_and, and_true, Option.some.injEq, exists_eq_left', Option.toList_some, Option.toList_none, List.cons_append, List.nil_append, xcat_nil, xcat_int, xcat_ref, xcat_long, not_true, not_false_iff, if_true, if_false, and_self, and_false, false_and, or_true, true_or, or_self, z01, z10, zle8, Nat.reduceAdd, Nat.reduceLeDiff]
      rw [if_pos (nI_le (Nat.le_refl _) (by have := hn.1.2; omega))]
    | succ r ih =>
      intro i hi
      have h40 := hn.1.2
      have q0 : ¬ nI n ≤ nI i := nI_ge (by omega) (by omega)
      have q1 : xinb (nI i) 40 := xinb_nI (by omega) (by omega)
      have q2 : xix (nI i) = i := xix_nI (by omega)
      obtain ⟨l1, l2⟩ := h.ln (l := i) (by omega)
      have ih := ih (i + 1) (by omega)
      simp only [sumN] at ih
      rw [r8_4]
      simp only [r8_5, r8_6, r8_9, r8_12, r8_13, r8_14, r8_17, r8_18, r8_19, r8_22, r8_23, r8_24, r8_27, h0, hn.1.1, e1, i1, n1, q0, q1, q2, l1, l2.1, nI_1, true_and, and_true, Option.some.injEq, exists_eq_left', Option.toList_some, Option.toList_none, List.cons_append, List.nil_append, xcat_nil, xcat_int, xcat_ref, xcat_long, not_true, not_false_iff, if_true, if_false, and_self, and_false, false_and, or_true, true_or, or_self, z01, z10, zle8, Nat.reduceAdd, Nat.reduceLeDiff]
      exact ih
  simp only [r8_0, r8_1, r8_2, r8_3]
  exact lp n 0 (by omega)
/-- place p is among the parts of some line -/
def bMe (u : xMem) (p : Int32) (l : Nat) : Bool := fMe (xI u (69 + 5 * l + 1)) p (pn u l) 0
theorem bmentions_run (h : sBk u 62) (hn : okL u n) : zr 9 0 [.ref 62, .int p, .null] [] u P = P (some (.int (bI (anyR (bMe u p) n 0)))) u := by
  have lp : ∀ r i, i + r = n → zr 9 2 [.ref 62, .int p, .int (nI i)] [] u P = P (some (.int (bI (anyR (bMe u p) r i)))) u := by
    intro r
    have hh := h
    obtain ⟨h0, ⟨e1, -⟩, ⟨i1, n1⟩, -⟩ := hh
    induction r with
    | zero =>
      intro i hi
      have : i = n := by omega
      subst this
      rw [r9_2]
      simp only [r9_0, r9_1, r9_3, r9_4, r9_7, r9_10, r9_11, r9_14, r9_15, r9_16, r9_17, r9_20, r9_23, r9_24, r9_25, r9_28, r9_31, r9_32, h0, hn.1.1, anyR, bI_f, true_and, and_true, Option.some.injEq, exists_eq_left', Option.toList_some, Option.toList_none, List.cons_append, List.nil_append, xcat_nil, xcat_int, xcat_ref, xcat_long, not_true, not_false_iff, if_true, if_false, and_self, and_false, false_and, or_true, true_or, or_self, z01, z10, zle8, Nat.reduceAdd, Nat.reduceLeDiff]
      rw [if_pos (nI_le (Nat.le_refl _) (by have := hn.1.2; omega))]
    | succ r ih =>
      intro i hi
      have h40 := hn.1.2
      have q0 : ¬ nI n ≤ nI i := nI_ge (by omega) (by omega)
      have q1 : xinb (nI i) 40 := xinb_nI (by omega) (by omega)
      have q2 : xix (nI i) = i := xix_nI (by omega)
      obtain ⟨l1, l2⟩ := h.ln (l := i) (by omega)
      have hm := fun P => lmentions_run (p := p) (P := P) l2 (hn.2 i (by omega)).1 (hn.2 i (by omega)).2
      have ih := ih (i + 1) (by omega)
      rw [r9_2]
      simp only [r9_0, r9_1, r9_3, r9_4, r9_7, r9_10, r9_11, r9_14, r9_15, r9_16, r9_17, r9_20, r9_23, r9_24, r9_25, r9_28, r9_31, r9_32, h0, hn.1.1, e1, i1, n1, q0, q1, q2, l1, l2.1, hm, nI_1, ih, anyR, bI_0, true_and, and_true, Option.some.injEq, exists_eq_left', Option.toList_some, Option.toList_none, List.cons_append, List.nil_append, xcat_nil, xcat_int, xcat_ref, xcat_long, not_true, not_false_iff, if_true, if_false, and_self, and_false, false_and, or_true, true_or, or_self, z01, z10, zle8, Nat.reduceAdd, Nat.reduceLeDiff]
      have eb : fMe (xI u (69 + 5 * i + 1)) p (pn u i) 0 = bMe u p i := rfl
      rw [eb]
      cases bMe u p i <;> simp only [Bool.true_or, Bool.false_or, Bool.true_eq_false, bI_t, true_and, and_true, Option.some.injEq, exists_eq_left', Option.toList_some, Option.toList_none, List.cons_append, List.nil_append, xcat_nil, xcat_int, xcat_ref, xcat_long, not_true, not_false_iff, if_true, if_false, and_self, and_false, false_and, or_true, true_or, or_self, z01, z10, zle8, Nat.reduceAdd, Nat.reduceLeDiff]
  simp only [r9_0, r9_1]
  exact lp n 0 (by omega)
def qCl (u : xMem) (c : Int32) (l : Nat) : Bool := decide (c = -1 ∨ xI u (69 + 5 * l) 3 = c)
theorem taxesOf_run (h : sBk u 62) (hn : okL u n) : zr 10 0 [.ref 62, .int p, .int c, .null, .null] [] u P = P (some (.int (sumIf (qCl u c) (lTo u p) n))) u := by
  have lp : ∀ r i, i + r = n → zr 10 5 [.ref 62, .int p, .int c, .int (sumIf (qCl u c) (lTo u p) i), .int (nI i)] [] u P = P (some (.int (sumIf (qCl u c) (lTo u p) n))) u := by
    intro r
    have hh := h
    obtain ⟨h0, ⟨e1, -⟩, ⟨i1, n1⟩, -⟩ := hh
    induction r with
    | zero =>
      intro i hi
      have : i = n := by omega
      subst this
      rw [r10_5]
      simp only [r10_7, r10_8, r10_11, r10_53, r10_54, h0, hn.1.1, true_and, and_true, Option.some.injEq, exists_eq_left', Option.toList_some, Option.toList_none, List.cons_append, List.nil_append, xcat_nil, xcat_int, xcat_ref, xcat_long, not_true, not_false_iff, if_true, if_false, and_self, and_false, false_and, or_true, true_or, or_self, z01, z10, zle8, Nat.reduceAdd, Nat.reduceLeDiff]
      rw [if_pos (nI_le (Nat.le_refl _) (by have := hn.1.2; omega))]
    | succ r ih =>
      intro i hi
      have h40 := hn.1.2
      have q0 : ¬ nI n ≤ nI i := nI_ge (by omega) (by omega)
      have q1 : xinb (nI i) 40 := xinb_nI (by omega) (by omega)
      have q2 : xix (nI i) = i := xix_nI (by omega)
      obtain ⟨l1, l2⟩ := h.ln (l := i) (by omega)
      have hm := fun P => lTo_run (p := p) (P := P) h hn (l := i) (by omega)
      have ih := ih (i + 1) (by omega)
      simp only [sumIf, qCl, decide_eq_true_eq] at ih
      rw [r10_5]
      simp only [r10_7, r10_8, r10_11, r10_14, r10_15, r10_16, r10_19, r10_20, r10_23, r10_25, r10_26, r10_29, r10_30, r10_33, r10_34, r10_35, r10_38, r10_40, r10_41, r10_42, r10_45, r10_46, r10_47, r10_50, h0, hn.1.1, e1, i1, n1, q0, q1, q2, l1, l2.1, hm, nI_1, true_and, and_true, Option.some.injEq, exists_eq_left', Option.toList_some, Option.toList_none, List.cons_append, List.nil_append, xcat_nil, xcat_int, xcat_ref, xcat_long, not_true, not_false_iff, if_true, if_false, and_self, and_false, false_and, or_true, true_or, or_self, z01, z10, zle8, Nat.reduceAdd, Nat.reduceLeDiff]
      by_cases c1 : c = -1
      · simp only [c1, true_and, and_true, Option.some.injEq, exists_eq_left', Option.toList_some, Option.toList_none, List.cons_append, List.nil_append, xcat_nil, xcat_int, xcat_ref, xcat_long, not_true, not_false_iff, if_true, if_false, and_self, and_false, false_and, or_true, true_or, or_self, z01, z10, zle8, Nat.reduceAdd, Nat.reduceLeDiff] at ih ⊢
        exact ih
      · by_cases c2 : xI u (69 + 5 * i) 3 = c <;> simp only [c1, c2, false_or, true_and, and_true, Option.some.injEq, exists_eq_left', Option.toList_some, Option.toList_none, List.cons_append, List.nil_append, xcat_nil, xcat_int, xcat_ref, xcat_long, not_true, not_false_iff, if_true, if_false, and_self, and_false, false_and, or_true, true_or, or_self, z01, z10, zle8, Nat.reduceAdd, Nat.reduceLeDiff] at ih ⊢ <;> exact ih
  simp only [r10_0, r10_1, r10_2, r10_3]
  exact lp n 0 (by omega)
/-- the day of the latest filing -/
def fLf (u : xMem) (nf : Nat) : Int32 := if nf = 0 then -1 else xI u 64 (nf - 1)
theorem latestFiling_run (h : sBk u 62) (hf : xI u 62 2 = nI nf) (h12 : nf ≤ 12) : zr 12 0 [.ref 62] [] u P = P (some (.int (fLf u nf))) u := by
  obtain ⟨h0, ⟨e1, e3, -⟩, -, ⟨i3, n3⟩, -⟩ := h
  have i3 : xIs u 64 13 := i3
  have n3 : xN u 64 = 12 := n3
  have e3 : xR u 62 3 = some 64 := e3
  cases nf with
  | zero =>
    have hz : xI u 62 2 = 0 := hf
    simp only [r12_0, r12_1, r12_4, r12_7, r12_8, r12_11, r12_12, r12_15, r12_16, r12_19, r12_20, r12_21, r12_22, h0, hz, fLf, true_and, and_true, Option.some.injEq, exists_eq_left', Option.toList_some, Option.toList_none, List.cons_append, List.nil_append, xcat_nil, xcat_int, xcat_ref, xcat_long, not_true, not_false_iff, if_true, if_false, and_self, and_false, false_and, or_true, true_or, or_self, z01, z10, zle8, Nat.reduceAdd, Nat.reduceLeDiff]
  | succ m =>
    have q1 : xinb (nI m) 12 := xinb_nI (by omega) (by omega)
    have q2 : xix (nI m) = m := xix_nI (by omega)
    have q3 : ¬ nI (m + 1) = 0 := nI_ne0 (by omega) (by omega)
    simp only [r12_0, r12_1, r12_4, r12_7, r12_8, r12_11, r12_12, r12_15, r12_16, r12_19, r12_20, r12_21, r12_22, h0, hf, e3, i3, n3, nI_pred, q1, q2, q3, fLf, Nat.add_one_ne_zero, Nat.add_sub_cancel, true_and, and_true, Option.some.injEq, exists_eq_left', Option.toList_some, Option.toList_none, List.cons_append, List.nil_append, xcat_nil, xcat_int, xcat_ref, xcat_long, not_true, not_false_iff, if_true, if_false, and_self, and_false, false_and, or_true, true_or, or_self, z01, z10, zle8, Nat.reduceAdd, Nat.reduceLeDiff]
def fCf (u : xMem) (f : Int32) (l : Nat) : Int32 := if xI u (69 + 5 * l) 7 = f then 1 else 0
theorem countFiled_run (h : sBk u 62) (hn : okL u n) : zr 13 0 [.ref 62, .int c, .null, .null] [] u P = P (some (.int (sumN (fCf u c) n))) u := by
  have lp : ∀ r i, i + r = n → zr 13 4 [.ref 62, .int c, .int (sumN (fCf u c) i), .int (nI i)] [] u P = P (some (.int (sumN (fCf u c) n))) u := by
    intro r
    have hh := h
    obtain ⟨h0, ⟨e1, -⟩, ⟨i1, n1⟩, -⟩ := hh
    induction r with
    | zero =>
      intro i hi
      have : i = n := by omega
      subst this
      rw [r13_4]
      simp only [r13_5, r13_6, r13_9, r13_42, r13_43, h0, hn.1.1, true_and, and_true, Option.some.injEq, exists_eq_left', Option.toList_some, Option.toList_none, List.cons_append, List.nil_append, xcat_nil, xcat_int, xcat_ref, xcat_long, not_true, not_false_iff, if_true, if_false, and_self, and_false, false_and, or_true, true_or, or_self, z01, z10, zle8, Nat.reduceAdd, Nat.reduceLeDiff]
      rw [if_pos (nI_le (Nat.le_refl _) (by have := hn.1.2; omega))]
    | succ r ih =>
      intro i hi
      have h40 := hn.1.2
      have q0 : ¬ nI n ≤ nI i := nI_ge (by omega) (by omega)
      have q1 : xinb (nI i) 40 := xinb_nI (by omega) (by omega)
      have q2 : xix (nI i) = i := xix_nI (by omega)
      obtain ⟨l1, l2⟩ := h.ln (l := i) (by omega)
      have ih := ih (i + 1) (by omega)
      simp only [sumN, fCf] at ih
      rw [r13_4]
      simp only [r13_5, r13_6, r13_9, r13_12, r13_13, r13_14, r13_17, r13_18, r13_19, r13_22, r13_23, r13_26, r13_27, r13_30, r13_31, r13_34, r13_35, r13_36, r13_39, bit_run, h0, hn.1.1, e1, i1, n1, q0, q1, q2, l1, l2.1, nI_1, true_and, and_true, Option.some.injEq, exists_eq_left', Option.toList_some, Option.toList_none, List.cons_append, List.nil_append, xcat_nil, xcat_int, xcat_ref, xcat_long, not_true, not_false_iff, if_true, if_false, and_self, and_false, false_and, or_true, true_or, or_self, z01, z10, zle8, Nat.reduceAdd, Nat.reduceLeDiff]
      by_cases c1 : xI u (69 + 5 * i) 7 = c <;> simp only [c1, true_and, and_true, Option.some.injEq, exists_eq_left', Option.toList_some, Option.toList_none, List.cons_append, List.nil_append, xcat_nil, xcat_int, xcat_ref, xcat_long, not_true, not_false_iff, if_true, if_false, and_self, and_false, false_and, or_true, true_or, or_self, z01, z10, zle8, Nat.reduceAdd, Nat.reduceLeDiff] at ih ⊢ <;> exact ih
  simp only [r13_0, r13_1, r13_2, r13_3]
  exact lp n 0 (by omega)
/-- what filing f paid to place p; to all with -1 -/
def fPd (u : xMem) (p : Int32) (f : Nat) : Int32 := sumIf (fun q => decide (p = -1 ∨ p = nI q)) (fun q => xI u 65 (10 * f + q)) 10
theorem m10 (k : Nat) : nI k * 10 = nI (10 * k) := by rw [show (10 : Int32) = nI 10 from rfl, pk_mul, Nat.mul_comm]
theorem paidBy_run (h : sBk u 62) {f : Nat} (hf : f < 12) : zr 14 0 [.ref 62, .int (nI f), .int p, .null, .null] [] u P = P (some (.int (fPd u p f))) u := by
  have lp : ∀ r i, i + r = 10 → zr 14 5 [.ref 62, .int (nI f), .int p, .int (sumIf (fun q => decide (p = -1 ∨ p = nI q)) (fun q => xI u 65 (10 * f + q)) i), .int (nI i)] [] u P = P (some (.int (fPd u p f))) u := by
    intro r
    have hh := h
    obtain ⟨h0, ⟨e1, e3, e4, -⟩, -, -, ⟨i4, n4⟩, -⟩ := hh
    have i4 : xIs u 65 13 := i4
    have n4 : xN u 65 = 120 := n4
    have e4 : xR u 62 4 = some 65 := e4
    induction r with
    | zero =>
      intro i hi
      have : i = 10 := by omega
      subst this
      rw [r14_5]
      simp only [r14_7, r14_9, r14_44, r14_45, if_pos (show (10 : Int32) ≤ nI 10 by decide), true_and, and_true, Option.some.injEq, exists_eq_left', Option.toList_some, Option.toList_none, List.cons_append, List.nil_append, xcat_nil, xcat_int, xcat_ref, xcat_long, not_true, not_false_iff, if_true, if_false, and_self, and_false, false_and, or_true, true_or, or_self, z01, z10, zle8, Nat.reduceAdd, Nat.reduceLeDiff]
      rfl
    | succ r ih =>
      intro i hi
      have q0 : ¬ (10 : Int32) ≤ nI i := nI_ge (b := 10) (by omega) (by omega)
      have q1 : xinb (nI (10 * f + i)) 120 := xinb_nI (by omega) (by omega)
      have q2 : xix (nI (10 * f + i)) = 10 * f + i := xix_nI (by omega)
      have ih := ih (i + 1) (by omega)
      simp only [sumIf, decide_eq_true_eq] at ih
      rw [r14_5]
      simp only [r14_7, r14_9, r14_12, r14_13, r14_14, r14_17, r14_18, r14_20, r14_23, r14_24, r14_25, r14_28, r14_29, r14_31, r14_32, r14_34, r14_35, r14_36, r14_37, r14_38, r14_41, h0, e4, i4, n4, m10, nI_add, q0, q1, q2, nI_1, true_and, and_true, Option.some.injEq, exists_eq_left', Option.toList_some, Option.toList_none, List.cons_append, List.nil_append, xcat_nil, xcat_int, xcat_ref, xcat_long, not_true, not_false_iff, if_true, if_false, and_self, and_false, false_and, or_true, true_or, or_self, z01, z10, zle8, Nat.reduceAdd, Nat.reduceLeDiff]
      by_cases c1 : p = -1
      · simp only [c1, true_and, and_true, Option.some.injEq, exists_eq_left', Option.toList_some, Option.toList_none, List.cons_append, List.nil_append, xcat_nil, xcat_int, xcat_ref, xcat_long, not_true, not_false_iff, if_true, if_false, and_self, and_false, false_and, or_true, true_or, or_self, z01, z10, zle8, Nat.reduceAdd, Nat.reduceLeDiff] at ih ⊢
        exact ih
      · by_cases c2 : p = nI i
        · simp only [c1, eq_true c2, false_or, true_and, and_true, Option.some.injEq, exists_eq_left', Option.toList_some, Option.toList_none, List.cons_append, List.nil_append, xcat_nil, xcat_int, xcat_ref, xcat_long, not_true, not_false_iff, if_true, if_false, and_self, and_false, false_and, or_true, true_or, or_self, z01, z10, zle8, Nat.reduceAdd, Nat.reduceLeDiff] at ih ⊢
          exact ih
        · simp only [c1, c2, false_or, true_and, and_true, Option.some.injEq, exists_eq_left', Option.toList_some, Option.toList_none, List.cons_append, List.nil_append, xcat_nil, xcat_int, xcat_ref, xcat_long, not_true, not_false_iff, if_true, if_false, and_self, and_false, false_and, or_true, true_or, or_self, z01, z10, zle8, Nat.reduceAdd, Nat.reduceLeDiff] at ih ⊢
          exact ih
  simp only [r14_0, r14_1, r14_2, r14_3]
  exact lp 10 0 (by omega)
end
