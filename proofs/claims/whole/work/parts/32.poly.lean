/-! POLYGONS: c corners from place f on -/
def fromI (f c t : Nat) : Nat := if t = 0 then f + c - 1 else f + t - 1
/-- the place before, as the class keeps it -/
def frI (f c t : Nat) : Int32 := if t = 0 then nI (f + c) - 1 else nI (f + t - 1)
theorem frI_eq {f c t : Nat} (h : t < c) : frI f c t = nI (fromI f c t) := by
  unfold frI fromI
  by_cases ht : t = 0
  · rw [if_pos ht, if_pos ht]
    obtain ⟨k, hk⟩ : ∃ k, f + c = k + 1 := ⟨f + c - 1, by omega⟩
    rw [hk, nI_pred]
    rfl
  · rw [if_neg ht, if_neg ht]
theorem frI_s (f c t : Nat) : frI f c (t + 1) = nI (f + t) := by simp [frI]
theorem fromI_lt {f c t : Nat} (h : t < c) (h6 : f + c ≤ 96) : fromI f c t < 96 := by
  unfold fromI
  split <;> omega
def fAr (X Y : Nat → Int32) (f c : Nat) : Nat → Int32
  | 0 => 0
  | t + 1 => fAr X Y f c t + (X (fromI f c t) * Y (f + t) - X (f + t) * Y (fromI f c t))
def fEast (X Y : Nat → Int32) (x y : Int32) (f t : Nat) : Bool :=
  if Y t - Y f ≤ 0 then decide ((X f - x) * (Y t - Y f) + (y - Y f) * (X t - X f) < 0) else decide (0 < (X f - x) * (Y t - Y f) + (y - Y f) * (X t - X f))
def fCr (X Y : Nat → Int32) (x y : Int32) (f t : Nat) : Bool := (decide (y < Y f) != decide (y < Y t)) && fEast X Y x y f t
def fOdd (X Y : Nat → Int32) (x y : Int32) (f c : Nat) : Nat → Bool
  | 0 => false
  | t + 1 => xor (fOdd X Y x y f c t) (fCr X Y x y (fromI f c t) (f + t))
def fOn (X Y : Nat → Int32) (x y : Int32) (f t : Nat) : Bool :=
  decide ((X t - X f) * (y - Y f) - (Y t - Y f) * (x - X f) = 0) && (decide ((if X t < X f then X t else X f) ≤ x ∧ x ≤ (if X f < X t then X t else X f)) && decide ((if Y t < Y f then Y t else Y f) ≤ y ∧ y ≤ (if Y f < Y t then Y t else Y f)))
def fTc (X Y : Nat → Int32) (x y : Int32) (f c : Nat) : Nat → Nat → Bool
  | 0, _ => false
  | r + 1, t => fOn X Y x y (fromI f c t) (f + t) || fTc X Y x y f c r (t + 1)
def fSt (X Y : Nat → Int32) (dx dy sz : Int32) : Nat → Nat → Bool
  | 0, _ => true
  | r + 1, i => (decide (0 ≤ X i + dx ∧ X i + dx ≤ sz) && decide (0 ≤ Y i + dy ∧ Y i + dy ≤ sz)) && fSt X Y dx dy sz r (i + 1)
section
variable {u : xMem} {P : Option Value → xMem → Prop} {b n k c : Nat} {p d x y dx dy sz : Int32}
theorem m6 (k : Nat) : nI k * 6 = nI (6 * k) := by rw [show (6 : Int32) = nI 6 from rfl, pk_mul, Nat.mul_comm]
theorem twiceArea_loop (hB : sB u b) (hk : k < 16) (hc : xI u (b + 3) k = nI c) (h6 : c ≤ 6) : ∀ r t, t + r = c →
    zr 25 22 [.ref b, .int (nI k), .int (nI (6 * k)), .int (frI (6 * k) c t), .int (fAr (xI u (b + 4)) (xI u (b + 5)) (6 * k) c t), .int (nI (6 * k + t))] [] u P = P (some (.int (fAr (xI u (b + 4)) (xI u (b + 5)) (6 * k) c c))) u := by
  obtain ⟨h0, ⟨e1, e2, e3, e4, e5⟩, ⟨i1, n1⟩, ⟨i2, n2⟩, ⟨i3, n3⟩, ⟨i4, n4⟩, ⟨i5, n5⟩⟩ := hB
  have k1 : xinb (nI k) 16 := xinb_nI (by omega) (by omega)
  have k2 : xix (nI k) = k := xix_nI (by omega)
  intro r
  induction r with
  | zero =>
    intro t ht
    have : t = c := by omega
    subst this
    rw [r25_22]
    simp only [r25_0, r25_1, r25_3, r25_4, r25_5, r25_6, r25_7, r25_10, r25_11, r25_12, r25_13, r25_14, r25_15, r25_16, r25_17, r25_19, r25_20, r25_24, r25_25, r25_26, r25_29, r25_30, r25_31, r25_32, r25_35, r25_37, r25_38, r25_41, r25_42, r25_43, r25_44, r25_47, r25_49, r25_50, r25_51, r25_52, r25_55, r25_57, r25_58, r25_59, r25_62, r25_63, r25_64, r25_65, r25_66, r25_67, r25_69, r25_71, r25_72, r25_75, r25_78, r25_80, h0, e3, i3, n3, k1, k2, hc, nI_add, true_and, and_true, Option.some.injEq, exists_eq_left', Option.toList_some, Option.toList_none, List.cons_append, List.nil_append, xcat_nil, xcat_int, xcat_ref, xcat_long, not_true, not_false_iff, if_true, if_false, and_self, and_false, false_and, or_true, true_or, or_self, z01, z10, zle8, Nat.reduceAdd, Nat.reduceLeDiff]
    rw [if_pos (nI_le (Nat.le_refl _) (by omega))]
  | succ r ih =>
    intro t ht
    have q0 : ¬ nI (6 * k + c) ≤ nI (6 * k + t) := nI_ge (by omega) (by omega)
    have hf := fromI_lt (f := 6 * k) (c := c) (t := t) (by omega) (by omega)
    have q1 : xinb (nI (fromI (6 * k) c t)) 96 := xinb_nI hf (by omega)
    have q2 : xix (nI (fromI (6 * k) c t)) = fromI (6 * k) c t := xix_nI (by omega)
    have q3 : xinb (nI (6 * k + t)) 96 := xinb_nI (by omega) (by omega)
    have q4 : xix (nI (6 * k + t)) = 6 * k + t := xix_nI (by omega)
    have ih := ih (t + 1) (by omega)
    rw [frI_s] at ih
    simp only [fAr] at ih
    rw [r25_22, frI_eq (by omega)]
    simp only [r25_0, r25_1, r25_3, r25_4, r25_5, r25_6, r25_7, r25_10, r25_11, r25_12, r25_13, r25_14, r25_15, r25_16, r25_17, r25_19, r25_20, r25_24, r25_25, r25_26, r25_29, r25_30, r25_31, r25_32, r25_35, r25_37, r25_38, r25_41, r25_42, r25_43, r25_44, r25_47, r25_49, r25_50, r25_51, r25_52, r25_55, r25_57, r25_58, r25_59, r25_62, r25_63, r25_64, r25_65, r25_66, r25_67, r25_69, r25_71, r25_72, r25_75, r25_78, r25_80, h0, e3, e4, e5, i3, i4, i5, n3, n4, n5, k1, k2, hc, nI_add, q0, q1, q2, q3, q4, nI_1, true_and, and_true, Option.some.injEq, exists_eq_left', Option.toList_some, Option.toList_none, List.cons_append, List.nil_append, xcat_nil, xcat_int, xcat_ref, xcat_long, not_true, not_false_iff, if_true, if_false, and_self, and_false, false_and, or_true, true_or, or_self, z01, z10, zle8, Nat.reduceAdd, Nat.reduceLeDiff]
    exact ih
theorem twiceArea_run (hB : sB u b) (hk : k < 16) (hc : xI u (b + 3) k = nI c) (h6 : c ≤ 6) : zr 25 0 [.ref b, .int (nI k), .null, .null, .null, .null] [] u P = P (some (.int (fAr (xI u (b + 4)) (xI u (b + 5)) (6 * k) c c))) u := by
  have hl := fun P => twiceArea_loop (P := P) hB hk hc h6 c 0 (by omega)
  obtain ⟨h0, ⟨e1, e2, e3, e4, e5⟩, ⟨i1, n1⟩, ⟨i2, n2⟩, ⟨i3, n3⟩, -⟩ := hB
  have k1 : xinb (nI k) 16 := xinb_nI (by omega) (by omega)
  have k2 : xix (nI k) = k := xix_nI (by omega)
  simp only [r25_0, r25_1, r25_3, r25_4, r25_5, r25_6, r25_7, r25_10, r25_11, r25_12, r25_13, r25_14, r25_15, r25_16, r25_17, r25_19, r25_20, m6, h0, e3, i3, n3, k1, k2, hc, nI_add, true_and, and_true, Option.some.injEq, exists_eq_left', Option.toList_some, Option.toList_none, List.cons_append, List.nil_append, xcat_nil, xcat_int, xcat_ref, xcat_long, not_true, not_false_iff, if_true, if_false, and_self, and_false, false_and, or_true, true_or, or_self, z01, z10, zle8, Nat.reduceAdd, Nat.reduceLeDiff]
  exact hl P
theorem isEast_run (hB : sB u b) {f t : Nat} (hf : f < 96) (ht : t < 96) : zr 27 0 [.ref b, .int (nI f), .int (nI t), .int x, .int y, .null, .null] [] u P = P (some (.int (bI (fEast (xI u (b + 4)) (xI u (b + 5)) x y f t)))) u := by
  obtain ⟨h0, ⟨e1, e2, e3, e4, e5⟩, -, -, -, ⟨i4, n4⟩, ⟨i5, n5⟩⟩ := hB
  have q1 : xinb (nI f) 96 := xinb_nI hf (by omega)
  have q2 : xix (nI f) = f := xix_nI (by omega)
  have q3 : xinb (nI t) 96 := xinb_nI ht (by omega)
  have q4 : xix (nI t) = t := xix_nI (by omega)
  simp only [r27_0, r27_1, r27_4, r27_5, r27_6, r27_7, r27_10, r27_11, r27_12, r27_13, r27_15, r27_16, r27_19, r27_20, r27_21, r27_22, r27_23, r27_25, r27_26, r27_28, r27_29, r27_32, r27_33, r27_34, r27_35, r27_36, r27_39, r27_40, r27_41, r27_42, r27_45, r27_46, r27_47, r27_48, r27_49, r27_50, r27_52, r27_54, r27_57, r27_59, r27_62, r27_63, r27_66, r27_67, r27_70, r27_72, r27_75, r27_76, r27_79, r27_80, h0, e4, e5, i4, i5, n4, n5, q1, q2, q3, q4, fEast, true_and, and_true, Option.some.injEq, exists_eq_left', Option.toList_some, Option.toList_none, List.cons_append, List.nil_append, xcat_nil, xcat_int, xcat_ref, xcat_long, not_true, not_false_iff, if_true, if_false, and_self, and_false, false_and, or_true, true_or, or_self, z01, z10, zle8, Nat.reduceAdd, Nat.reduceLeDiff]
  by_cases c1 : xI u (b + 5) t - xI u (b + 5) f ≤ 0
  · rw [if_pos c1, if_pos c1]
    by_cases c2 : 0 ≤ (xI u (b + 4) f - x) * (xI u (b + 5) t - xI u (b + 5) f) + (y - xI u (b + 5) f) * (xI u (b + 4) t - xI u (b + 4) f)
    · rw [if_pos c2, decide_eq_false (i32_nlt.mpr c2)]
      rfl
    · rw [if_neg c2, decide_eq_true (i32_nle.mp c2)]
      rfl
  · rw [if_neg c1, if_neg c1]
    by_cases c2 : (xI u (b + 4) f - x) * (xI u (b + 5) t - xI u (b + 5) f) + (y - xI u (b + 5) f) * (xI u (b + 4) t - xI u (b + 4) f) ≤ 0
    · rw [if_pos c2, decide_eq_false (i32_nlt.mpr c2)]
      rfl
    · rw [if_neg c2, decide_eq_true (i32_nle.mp c2)]
      rfl
theorem holds_loop (hB : sB u b) (hk : k < 16) (hc : xI u (b + 3) k = nI c) (h6 : c ≤ 6) : ∀ r t, t + r = c →
    zr 26 32 [.ref b, .int (nI k), .int x, .int y, .int (nI (6 * k)), .int (frI (6 * k) c t), .int (bI (fOdd (xI u (b + 4)) (xI u (b + 5)) x y (6 * k) c t)), .int (nI (6 * k + t))] [] u P = P (some (.int (bI (fOdd (xI u (b + 4)) (xI u (b + 5)) x y (6 * k) c c)))) u := by
  have hE := fun f t hf ht P => isEast_run (x := x) (y := y) (P := P) hB (f := f) (t := t) hf ht
  obtain ⟨h0, ⟨e1, e2, e3, e4, e5⟩, ⟨i1, n1⟩, ⟨i2, n2⟩, ⟨i3, n3⟩, ⟨i4, n4⟩, ⟨i5, n5⟩⟩ := hB
  have k1 : xinb (nI k) 16 := xinb_nI (by omega) (by omega)
  have k2 : xix (nI k) = k := xix_nI (by omega)
  intro r
  induction r with
  | zero =>
    intro t ht
    have : t = c := by omega
    subst this
    rw [r26_32]
    simp only [r26_0, r26_1, r26_4, r26_5, r26_6, r26_7, r26_9, r26_10, r26_12, r26_14, r26_15, r26_18, r26_19, r26_20, r26_21, r26_22, r26_23, r26_25, r26_26, r26_28, r26_30, r26_34, r26_36, r26_37, r26_40, r26_41, r26_42, r26_43, r26_46, r26_47, r26_50, r26_52, r26_53, r26_54, r26_57, r26_58, r26_61, r26_62, r26_63, r26_66, r26_68, r26_69, r26_70, r26_73, r26_74, r26_77, r26_78, r26_81, r26_82, r26_84, r26_86, r26_87, r26_88, r26_91, r26_94, r26_96, r26_99, r26_100, r26_103, r26_104, r26_106, r26_108, r26_110, r26_113, r26_116, r26_118, h0, e3, i3, n3, k1, k2, hc, nI_add, bI_01, true_and, and_true, Option.some.injEq, exists_eq_left', Option.toList_some, Option.toList_none, List.cons_append, List.nil_append, xcat_nil, xcat_int, xcat_ref, xcat_long, not_true, not_false_iff, if_true, if_false, and_self, and_false, false_and, or_true, true_or, or_self, z01, z10, zle8, Nat.reduceAdd, Nat.reduceLeDiff]
    rw [if_pos (nI_le (Nat.le_refl _) (by omega))]
  | succ r ih =>
    intro t ht
    have q0 : ¬ nI (6 * k + c) ≤ nI (6 * k + t) := nI_ge (by omega) (by omega)
    have hf := fromI_lt (f := 6 * k) (c := c) (t := t) (by omega) (by omega)
    have q1 : xinb (nI (fromI (6 * k) c t)) 96 := xinb_nI hf (by omega)
    have q2 : xix (nI (fromI (6 * k) c t)) = fromI (6 * k) c t := xix_nI (by omega)
    have q3 : xinb (nI (6 * k + t)) 96 := xinb_nI (by omega) (by omega)
    have q4 : xix (nI (6 * k + t)) = 6 * k + t := xix_nI (by omega)
    have hE := hE (fromI (6 * k) c t) (6 * k + t) hf (by omega)
    have ih := ih (t + 1) (by omega)
    rw [frI_s, ← Nat.add_assoc] at ih
    simp only [fOdd, fCr] at ih
    rw [r26_32, frI_eq (by omega)]
    simp only [r26_0, r26_1, r26_4, r26_5, r26_6, r26_7, r26_9, r26_10, r26_12, r26_14, r26_15, r26_18, r26_19, r26_20, r26_21, r26_22, r26_23, r26_25, r26_26, r26_28, r26_30, r26_34, r26_36, r26_37, r26_40, r26_41, r26_42, r26_43, r26_46, r26_47, r26_50, r26_52, r26_53, r26_54, r26_57, r26_58, r26_61, r26_62, r26_63, r26_66, r26_68, r26_69, r26_70, r26_73, r26_74, r26_77, r26_78, r26_81, r26_82, r26_84, r26_86, r26_87, r26_88, r26_91, r26_94, r26_96, r26_99, r26_100, r26_103, r26_104, r26_106, r26_108, r26_110, r26_113, r26_116, r26_118, h0, e3, e4, e5, i3, i4, i5, n3, n4, n5, k1, k2, hc, nI_add, q0, q1, q2, q3, q4, nI_1, hE, true_and, and_true, Option.some.injEq, exists_eq_left', Option.toList_some, Option.toList_none, List.cons_append, List.nil_append, xcat_nil, xcat_int, xcat_ref, xcat_long, not_true, not_false_iff, if_true, if_false, and_self, and_false, false_and, or_true, true_or, or_self, z01, z10, zle8, Nat.reduceAdd, Nat.reduceLeDiff]
    generalize fOdd (xI u (b + 4)) (xI u (b + 5)) x y (6 * k) c t = o at ih ⊢
    generalize fEast (xI u (b + 4)) (xI u (b + 5)) x y (fromI (6 * k) c t) (6 * k + t) = ee at ih ⊢
    by_cases c1 : xI u (b + 5) (fromI (6 * k) c t) ≤ y <;> by_cases c2 : xI u (b + 5) (6 * k + t) ≤ y <;> cases o <;> cases ee <;> simp only [c1, c2, i32_nlt.mpr, i32_nle.mp, decide_false, decide_true, bI_t, bI_f, bne_self_eq_false, Bool.false_and, Bool.true_and, Bool.xor_false, Bool.xor_true, Bool.not_true, Bool.not_false, true_and, and_true, Option.some.injEq, exists_eq_left', Option.toList_some, Option.toList_none, List.cons_append, List.nil_append, xcat_nil, xcat_int, xcat_ref, xcat_long, not_true, not_false_iff, if_true, if_false, and_self, and_false, false_and, or_true, true_or, or_self, z01, z10, zle8, Nat.reduceAdd, Nat.reduceLeDiff] at ih ⊢ <;> simpa [c1, c2, i32_nlt, i32_nle, bI_t, bI_f] using ih
def fHold (X Y nc : Nat → Int32) (x y bd : Int32) : Bool := if 0 ≤ bd then fOdd X Y x y (6 * xix bd) (xix (nc (xix bd))) (xix (nc (xix bd))) else false
theorem holds_run {bd : Int32} (hB : sB u b) (hbd : 0 ≤ bd → ∃ k c, k < 16 ∧ bd = nI k ∧ xI u (b + 3) k = nI c ∧ c ≤ 6) : zr 26 0 [.ref b, .int bd, .int x, .int y, .null, .null, .null, .null] [] u P = P (some (.int (bI (fHold (xI u (b + 4)) (xI u (b + 5)) (xI u (b + 3)) x y bd)))) u := by
  by_cases h0 : 0 ≤ bd
  · obtain ⟨k, c, hk, e, hc, h6⟩ := hbd h0
    subst e
    have hl := fun P => holds_loop (x := x) (y := y) (P := P) hB hk hc h6 c 0 (by omega)
    obtain ⟨h0', ⟨e1, e2, e3, e4, e5⟩, ⟨i1, n1⟩, ⟨i2, n2⟩, ⟨i3, n3⟩, -⟩ := hB
    have k1 : xinb (nI k) 16 := xinb_nI (by omega) (by omega)
    have k2 : xix (nI k) = k := xix_nI (by omega)
    have k3 : xix (nI c) = c := xix_nI (by omega)
    simp only [r26_0, r26_1, r26_4, r26_5, r26_6, r26_7, r26_9, r26_10, r26_12, r26_14, r26_15, r26_18, r26_19, r26_20, r26_21, r26_22, r26_23, r26_25, r26_26, r26_28, r26_30, h0, m6, h0', e3, i3, n3, k1, k2, k3, hc, nI_add, fHold, true_and, and_true, Option.some.injEq, exists_eq_left', Option.toList_some, Option.toList_none, List.cons_append, List.nil_append, xcat_nil, xcat_int, xcat_ref, xcat_long, not_true, not_false_iff, if_true, if_false, and_self, and_false, false_and, or_true, true_or, or_self, z01, z10, zle8, Nat.reduceAdd, Nat.reduceLeDiff]
    exact hl P
  · simp only [r26_0, r26_1, r26_4, r26_5, r26_6, r26_7, r26_9, r26_10, r26_12, r26_14, r26_15, r26_18, r26_19, r26_20, r26_21, r26_22, r26_23, r26_25, r26_26, r26_28, r26_30, h0, fHold, bI_f, true_and, and_true, Option.some.injEq, exists_eq_left', Option.toList_some, Option.toList_none, List.cons_append, List.nil_append, xcat_nil, xcat_int, xcat_ref, xcat_long, not_true, not_false_iff, if_true, if_false, and_self, and_false, false_and, or_true, true_or, or_self, z01, z10, zle8, Nat.reduceAdd, Nat.reduceLeDiff]
end
