/-! POLYGONS, more -/
section
variable {u : xMem} {P : Option Value → xMem → Prop} {b n k c : Nat} {p d x y dx dy sz : Int32}
theorem isOn_run (hB : sB u b) {f t : Nat} (hf : f < 96) (ht : t < 96) : zr 29 0 [.ref b, .int (nI f), .int (nI t), .int x, .int y, .null] [] u P = P (some (.int (bI (fOn (xI u (b + 4)) (xI u (b + 5)) x y f t)))) u := by
  obtain ⟨h0, ⟨e1, e2, e3, e4, e5⟩, -, -, -, ⟨i4, n4⟩, ⟨i5, n5⟩⟩ := hB
  have q1 : xinb (nI f) 96 := xinb_nI hf (by omega)
  have q2 : xix (nI f) = f := xix_nI (by omega)
  have q3 : xinb (nI t) 96 := xinb_nI ht (by omega)
  have q4 : xix (nI t) = t := xix_nI (by omega)
  simp only [r29_0, r29_1, r29_4, r29_5, r29_6, r29_7, r29_10, r29_11, r29_12, r29_13, r29_15, r29_16, r29_19, r29_20, r29_21, r29_22, r29_23, r29_24, r29_27, r29_28, r29_29, r29_30, r29_33, r29_34, r29_35, r29_36, r29_37, r29_38, r29_41, r29_42, r29_43, r29_44, r29_45, r29_46, r29_48, r29_50, r29_53, r29_54, r29_55, r29_58, r29_59, r29_60, r29_61, r29_64, r29_65, r29_66, r29_69, r29_70, r29_73, r29_74, r29_75, r29_76, r29_79, r29_80, r29_81, r29_84, r29_87, r29_90, r29_92, r29_93, r29_96, r29_97, r29_98, r29_99, r29_102, r29_103, r29_104, r29_107, r29_108, r29_111, r29_112, r29_113, r29_114, r29_117, r29_118, r29_119, r29_122, r29_125, r29_128, r29_129, r29_132, r29_133, within_run, h0, e4, e5, i4, i5, n4, n5, q1, q2, q3, q4, fOn, bI_0, true_and, and_true, Option.some.injEq, exists_eq_left', Option.toList_some, Option.toList_none, List.cons_append, List.nil_append, xcat_nil, xcat_int, xcat_ref, xcat_long, not_true, not_false_iff, if_true, if_false, and_self, and_false, false_and, or_true, true_or, or_self, z01, z10, zle8, Nat.reduceAdd, Nat.reduceLeDiff]
  by_cases c1 : (xI u (b + 4) t - xI u (b + 4) f) * (y - xI u (b + 5) f) - (xI u (b + 5) t - xI u (b + 5) f) * (x - xI u (b + 4) f) = 0
  · by_cases c2 : (if xI u (b + 4) t < xI u (b + 4) f then xI u (b + 4) t else xI u (b + 4) f) ≤ x ∧ x ≤ (if xI u (b + 4) f < xI u (b + 4) t then xI u (b + 4) t else xI u (b + 4) f)
    · by_cases c3 : (if xI u (b + 5) t < xI u (b + 5) f then xI u (b + 5) t else xI u (b + 5) f) ≤ y ∧ y ≤ (if xI u (b + 5) f < xI u (b + 5) t then xI u (b + 5) t else xI u (b + 5) f)
      · simp only [c1, decide_eq_true c2, decide_eq_true c3, decide_true, Bool.and_self, Bool.true_eq_false, bI_t, true_and, and_true, Option.some.injEq, exists_eq_left', Option.toList_some, Option.toList_none, List.cons_append, List.nil_append, xcat_nil, xcat_int, xcat_ref, xcat_long, not_true, not_false_iff, if_true, if_false, and_self, and_false, false_and, or_true, true_or, or_self, z01, z10, zle8, Nat.reduceAdd, Nat.reduceLeDiff]
      · simp only [c1, decide_eq_true c2, decide_eq_false c3, decide_true, Bool.and_false, Bool.true_eq_false, bI_f, true_and, and_true, Option.some.injEq, exists_eq_left', Option.toList_some, Option.toList_none, List.cons_append, List.nil_append, xcat_nil, xcat_int, xcat_ref, xcat_long, not_true, not_false_iff, if_true, if_false, and_self, and_false, false_and, or_true, true_or, or_self, z01, z10, zle8, Nat.reduceAdd, Nat.reduceLeDiff]
    · simp only [c1, decide_eq_false c2, decide_true, Bool.false_and, Bool.and_false, bI_f, true_and, and_true, Option.some.injEq, exists_eq_left', Option.toList_some, Option.toList_none, List.cons_append, List.nil_append, xcat_nil, xcat_int, xcat_ref, xcat_long, not_true, not_false_iff, if_true, if_false, and_self, and_false, false_and, or_true, true_or, or_self, z01, z10, zle8, Nat.reduceAdd, Nat.reduceLeDiff]
  · simp only [c1, decide_false, Bool.false_and, bI_f, true_and, and_true, Option.some.injEq, exists_eq_left', Option.toList_some, Option.toList_none, List.cons_append, List.nil_append, xcat_nil, xcat_int, xcat_ref, xcat_long, not_true, not_false_iff, if_true, if_false, and_self, and_false, false_and, or_true, true_or, or_self, z01, z10, zle8, Nat.reduceAdd, Nat.reduceLeDiff]
theorem touches_loop (hB : sB u b) (hk : k < 16) (hc : xI u (b + 3) k = nI c) (h6 : c ≤ 6) : ∀ r t, t + r = c →
    zr 28 23 [.ref b, .int (nI k), .int x, .int y, .int (nI (6 * k)), .int (frI (6 * k) c t), .int (nI (6 * k + t))] [] u P = P (some (.int (bI (fTc (xI u (b + 4)) (xI u (b + 5)) x y (6 * k) c r t)))) u := by
  have hE := fun f t hf ht P => isOn_run (x := x) (y := y) (P := P) hB (f := f) (t := t) hf ht
  obtain ⟨h0, ⟨e1, e2, e3, e4, e5⟩, ⟨i1, n1⟩, ⟨i2, n2⟩, ⟨i3, n3⟩, ⟨i4, n4⟩, ⟨i5, n5⟩⟩ := hB
  have k1 : xinb (nI k) 16 := xinb_nI (by omega) (by omega)
  have k2 : xix (nI k) = k := xix_nI (by omega)
  intro r
  induction r with
  | zero =>
    intro t ht
    have : t = c := by omega
    subst this
    rw [r28_23]
    simp only [r28_0, r28_1, r28_3, r28_4, r28_6, r28_8, r28_9, r28_12, r28_13, r28_14, r28_15, r28_16, r28_17, r28_19, r28_21, r28_25, r28_27, r28_28, r28_31, r28_32, r28_33, r28_34, r28_37, r28_38, r28_40, r28_42, r28_43, r28_44, r28_47, r28_50, r28_51, r28_52, r28_54, r28_56, r28_59, r28_62, r28_63, h0, e3, i3, n3, k1, k2, hc, nI_add, fTc, bI_f, true_and, and_true, Option.some.injEq, exists_eq_left', Option.toList_some, Option.toList_none, List.cons_append, List.nil_append, xcat_nil, xcat_int, xcat_ref, xcat_long, not_true, not_false_iff, if_true, if_false, and_self, and_false, false_and, or_true, true_or, or_self, z01, z10, zle8, Nat.reduceAdd, Nat.reduceLeDiff]
    rw [if_pos (nI_le (Nat.le_refl _) (by omega))]
  | succ r ih =>
    intro t ht
    have q0 : ¬ nI (6 * k + c) ≤ nI (6 * k + t) := nI_ge (by omega) (by omega)
    have hf := fromI_lt (f := 6 * k) (c := c) (t := t) (by omega) (by omega)
    have hE := hE (fromI (6 * k) c t) (6 * k + t) hf (by omega)
    have ih := ih (t + 1) (by omega)
    rw [frI_s, ← Nat.add_assoc] at ih
    rw [r28_23, frI_eq (by omega)]
    simp only [r28_0, r28_1, r28_3, r28_4, r28_6, r28_8, r28_9, r28_12, r28_13, r28_14, r28_15, r28_16, r28_17, r28_19, r28_21, r28_25, r28_27, r28_28, r28_31, r28_32, r28_33, r28_34, r28_37, r28_38, r28_40, r28_42, r28_43, r28_44, r28_47, r28_50, r28_51, r28_52, r28_54, r28_56, r28_59, r28_62, r28_63, h0, e3, i3, n3, k1, k2, hc, nI_add, q0, nI_1, hE, ih, fTc, bI_0, true_and, and_true, Option.some.injEq, exists_eq_left', Option.toList_some, Option.toList_none, List.cons_append, List.nil_append, xcat_nil, xcat_int, xcat_ref, xcat_long, not_true, not_false_iff, if_true, if_false, and_self, and_false, false_and, or_true, true_or, or_self, z01, z10, zle8, Nat.reduceAdd, Nat.reduceLeDiff]
    cases fOn (xI u (b + 4)) (xI u (b + 5)) x y (fromI (6 * k) c t) (6 * k + t) <;> simp only [Bool.true_or, Bool.false_or, Bool.true_eq_false, bI_t, true_and, and_true, Option.some.injEq, exists_eq_left', Option.toList_some, Option.toList_none, List.cons_append, List.nil_append, xcat_nil, xcat_int, xcat_ref, xcat_long, not_true, not_false_iff, if_true, if_false, and_self, and_false, false_and, or_true, true_or, or_self, z01, z10, zle8, Nat.reduceAdd, Nat.reduceLeDiff]
theorem touches_run (hB : sB u b) (hk : k < 16) (hc : xI u (b + 3) k = nI c) (h6 : c ≤ 6) : zr 28 0 [.ref b, .int (nI k), .int x, .int y, .null, .null, .null] [] u P = P (some (.int (bI (fTc (xI u (b + 4)) (xI u (b + 5)) x y (6 * k) c c 0)))) u := by
  have hl := fun P => touches_loop (x := x) (y := y) (P := P) hB hk hc h6 c 0 (by omega)
  obtain ⟨h0, ⟨e1, e2, e3, e4, e5⟩, ⟨i1, n1⟩, ⟨i2, n2⟩, ⟨i3, n3⟩, -⟩ := hB
  have k1 : xinb (nI k) 16 := xinb_nI (by omega) (by omega)
  have k2 : xix (nI k) = k := xix_nI (by omega)
  simp only [r28_0, r28_1, r28_3, r28_4, r28_6, r28_8, r28_9, r28_12, r28_13, r28_14, r28_15, r28_16, r28_17, r28_19, r28_21, m6, h0, e3, i3, n3, k1, k2, hc, nI_add, true_and, and_true, Option.some.injEq, exists_eq_left', Option.toList_some, Option.toList_none, List.cons_append, List.nil_append, xcat_nil, xcat_int, xcat_ref, xcat_long, not_true, not_false_iff, if_true, if_false, and_self, and_false, false_and, or_true, true_or, or_self, z01, z10, zle8, Nat.reduceAdd, Nat.reduceLeDiff]
  exact hl P
theorem stays_loop (hB : sB u b) (hk : k < 16) (hc : xI u (b + 3) k = nI c) (h6 : c ≤ 6) : ∀ r i, i + r = c →
    zr 30 10 [.ref b, .int (nI k), .int dx, .int dy, .int sz, .int (nI (6 * k)), .int (nI (6 * k + i))] [] u P = P (some (.int (bI (fSt (xI u (b + 4)) (xI u (b + 5)) dx dy sz r (6 * k + i))))) u := by
  obtain ⟨h0, ⟨e1, e2, e3, e4, e5⟩, ⟨i1, n1⟩, ⟨i2, n2⟩, ⟨i3, n3⟩, ⟨i4, n4⟩, ⟨i5, n5⟩⟩ := hB
  have k1 : xinb (nI k) 16 := xinb_nI (by omega) (by omega)
  have k2 : xix (nI k) = k := xix_nI (by omega)
  intro r
  induction r with
  | zero =>
    intro i hi
    have : i = c := by omega
    subst this
    rw [r30_10]
    simp only [r30_0, r30_1, r30_3, r30_4, r30_6, r30_8, r30_12, r30_14, r30_15, r30_18, r30_19, r30_20, r30_21, r30_24, r30_25, r30_28, r30_30, r30_31, r30_32, r30_33, r30_34, r30_36, r30_39, r30_42, r30_43, r30_46, r30_48, r30_49, r30_50, r30_51, r30_52, r30_54, r30_57, r30_60, r30_61, r30_62, r30_65, r30_68, r30_69, h0, e3, i3, n3, k1, k2, hc, nI_add, fSt, bI_t, true_and, and_true, Option.some.injEq, exists_eq_left', Option.toList_some, Option.toList_none, List.cons_append, List.nil_append, xcat_nil, xcat_int, xcat_ref, xcat_long, not_true, not_false_iff, if_true, if_false, and_self, and_false, false_and, or_true, true_or, or_self, z01, z10, zle8, Nat.reduceAdd, Nat.reduceLeDiff]
    rw [if_pos (nI_le (Nat.le_refl _) (by omega))]
  | succ r ih =>
    intro i hi
    have q0 : ¬ nI (6 * k + c) ≤ nI (6 * k + i) := nI_ge (by omega) (by omega)
    have q3 : xinb (nI (6 * k + i)) 96 := xinb_nI (by omega) (by omega)
    have q4 : xix (nI (6 * k + i)) = 6 * k + i := xix_nI (by omega)
    have ih := ih (i + 1) (by omega)
    rw [← Nat.add_assoc] at ih
    rw [r30_10]
    simp only [r30_0, r30_1, r30_3, r30_4, r30_6, r30_8, r30_12, r30_14, r30_15, r30_18, r30_19, r30_20, r30_21, r30_24, r30_25, r30_28, r30_30, r30_31, r30_32, r30_33, r30_34, r30_36, r30_39, r30_42, r30_43, r30_46, r30_48, r30_49, r30_50, r30_51, r30_52, r30_54, r30_57, r30_60, r30_61, r30_62, r30_65, r30_68, r30_69, within_run, h0, e3, e4, e5, i3, i4, i5, n3, n4, n5, k1, k2, hc, nI_add, q0, q3, q4, nI_1, ih, fSt, bI_0, true_and, and_true, Option.some.injEq, exists_eq_left', Option.toList_some, Option.toList_none, List.cons_append, List.nil_append, xcat_nil, xcat_int, xcat_ref, xcat_long, not_true, not_false_iff, if_true, if_false, and_self, and_false, false_and, or_true, true_or, or_self, z01, z10, zle8, Nat.reduceAdd, Nat.reduceLeDiff]
    by_cases c1 : 0 ≤ xI u (b + 4) (6 * k + i) + dx ∧ xI u (b + 4) (6 * k + i) + dx ≤ sz
    · by_cases c2 : 0 ≤ xI u (b + 5) (6 * k + i) + dy ∧ xI u (b + 5) (6 * k + i) + dy ≤ sz
      · simp only [decide_eq_true c1, decide_eq_true c2, Bool.and_self, Bool.true_and, Bool.true_eq_false, true_and, and_true, Option.some.injEq, exists_eq_left', Option.toList_some, Option.toList_none, List.cons_append, List.nil_append, xcat_nil, xcat_int, xcat_ref, xcat_long, not_true, not_false_iff, if_true, if_false, and_self, and_false, false_and, or_true, true_or, or_self, z01, z10, zle8, Nat.reduceAdd, Nat.reduceLeDiff]
      · simp only [decide_eq_true c1, decide_eq_false c2, Bool.and_false, Bool.false_and, Bool.true_eq_false, bI_f, true_and, and_true, Option.some.injEq, exists_eq_left', Option.toList_some, Option.toList_none, List.cons_append, List.nil_append, xcat_nil, xcat_int, xcat_ref, xcat_long, not_true, not_false_iff, if_true, if_false, and_self, and_false, false_and, or_true, true_or, or_self, z01, z10, zle8, Nat.reduceAdd, Nat.reduceLeDiff]
    · simp only [decide_eq_false c1, Bool.false_and, bI_f, true_and, and_true, Option.some.injEq, exists_eq_left', Option.toList_some, Option.toList_none, List.cons_append, List.nil_append, xcat_nil, xcat_int, xcat_ref, xcat_long, not_true, not_false_iff, if_true, if_false, and_self, and_false, false_and, or_true, true_or, or_self, z01, z10, zle8, Nat.reduceAdd, Nat.reduceLeDiff]
theorem stays_run (hB : sB u b) (hk : k < 16) (hc : xI u (b + 3) k = nI c) (h6 : c ≤ 6) : zr 30 0 [.ref b, .int (nI k), .int dx, .int dy, .int sz, .null, .null] [] u P = P (some (.int (bI (fSt (xI u (b + 4)) (xI u (b + 5)) dx dy sz c (6 * k))))) u := by
  simp only [r30_0, r30_1, r30_3, r30_4, r30_6, r30_8, m6, true_and, and_true, Option.some.injEq, exists_eq_left', Option.toList_some, Option.toList_none, List.cons_append, List.nil_append, xcat_nil, xcat_int, xcat_ref, xcat_long, not_true, not_false_iff, if_true, if_false, and_self, and_false, false_and, or_true, true_or, or_self, z01, z10, zle8, Nat.reduceAdd, Nat.reduceLeDiff]
  exact stays_loop hB hk hc h6 c 0 (by omega)
/-- a corner put at place i of bound n -/
def mPut (u : xMem) (b n i : Nat) (x y : Int32) : xMem := xsI (xsI u (b + 4) (6 * n + i) x) (b + 5) (6 * n + i) y
theorem putCorner_run (hB : sB u b) (hn : xI u b 0 = nI n) (h : n < 16) {i : Nat} (hi : i < 6) : zr 31 0 [.ref b, .int (nI i), .int x, .int y] [] u P = P none (mPut u b n i x y) := by
  obtain ⟨h0, ⟨e1, e2, e3, e4, e5⟩, -, -, -, ⟨i4, n4⟩, ⟨i5, n5⟩⟩ := hB
  have q3 : xinb (nI (6 * n + i)) 96 := xinb_nI (by omega) (by omega)
  have q4 : xix (nI (6 * n + i)) = 6 * n + i := xix_nI (by omega)
  have hb : b ≠ b + 4 := by omega
  have t1 : ∀ {k v}, xIs (xsI u (b + 4) k v) b 2 = xIs u b 2 := rfl
  have t2 : ∀ {k v}, xIs (xsI u (b + 4) k v) (b + 5) 13 = xIs u (b + 5) 13 := rfl
  simp only [r31_0, r31_1, r31_4, r31_5, r31_8, r31_10, r31_11, r31_12, r31_13, r31_14, r31_15, r31_16, r31_19, r31_20, r31_23, r31_25, r31_26, r31_27, r31_28, r31_29, r31_30, h0, e4, e5, i4, i5, n4, n5, hn, m6, nI_add, q3, q4, t1, t2, xR_sI, xN_sI, xI_sI, hb, mPut, true_and, and_true, Option.some.injEq, exists_eq_left', Option.toList_some, Option.toList_none, List.cons_append, List.nil_append, xcat_nil, xcat_int, xcat_ref, xcat_long, not_true, not_false_iff, if_true, if_false, and_self, and_false, false_and, or_true, true_or, or_self, z01, z10, zle8, Nat.reduceAdd, Nat.reduceLeDiff]
def mAdd (u : xMem) (b n : Nat) (p d m : Int32) : xMem := xsI (xsI (xsI (xsI u (b + 1) n p) (b + 2) n d) (b + 3) n m) b 0 (nI (n + 1))
theorem badd_run (hB : sB u b) (hn : xI u b 0 = nI n) (h : n < 16) {m : Int32} : zr 32 0 [.ref b, .int p, .int d, .int m] [] u P = P none (mAdd u b n p d m) := by
  obtain ⟨h0, ⟨e1, e2, e3, e4, e5⟩, ⟨i1, n1⟩, ⟨i2, n2⟩, ⟨i3, n3⟩, -⟩ := hB
  have q3 : xinb (nI n) 16 := xinb_nI (by omega) (by omega)
  have q4 : xix (nI n) = n := xix_nI (by omega)
  have hb1 : b ≠ b + 1 := by omega
  have hb2 : b ≠ b + 2 := by omega
  have hb3 : b ≠ b + 3 := by omega
  have t1 : ∀ {w : xMem} {a k v c d}, xIs (xsI w a k v) c d = xIs w c d := rfl
  simp only [r32_0, r32_1, r32_4, r32_5, r32_8, r32_9, r32_10, r32_11, r32_14, r32_15, r32_18, r32_19, r32_20, r32_21, r32_24, r32_25, r32_28, r32_29, r32_30, r32_31, r32_32, r32_35, r32_36, r32_37, r32_40, h0, e1, e2, e3, i1, i2, i3, n1, n2, n3, hn, q3, q4, t1, xR_sI, xN_sI, xI_sI, hb1, hb2, hb3, nI_1, mAdd, true_and, and_true, Option.some.injEq, exists_eq_left', Option.toList_some, Option.toList_none, List.cons_append, List.nil_append, xcat_nil, xcat_int, xcat_ref, xcat_long, not_true, not_false_iff, if_true, if_false, and_self, and_false, false_and, or_true, true_or, or_self, z01, z10, zle8, Nat.reduceAdd, Nat.reduceLeDiff]
end
